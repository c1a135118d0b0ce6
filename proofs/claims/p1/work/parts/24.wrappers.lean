def o_l_feed : List Cond := [.methodLink RL 7 yX11_feed, .instanceMethod yX11_feed, .selects RX11 yX11_feed yX11_feed, .initialized RX11]
theorem o_l_feed_good : o_l_feed.all goodWord = true := by decide +kernel
def p_l_feed : List Cond := o_l_feed ++ ((.code yX11_feed cX11_feed 6 (some .int) :: p_k_X11_feed) ++ [])
theorem p_l_feed_good : p_l_feed.all goodWord = true := nb_all2 o_l_feed_good (nb_all2 (nb_allc (by decide +kernel) p_k_X11_feed_good) rfl)
def w_l_feed : List Cond := .codeWith yL_feed cL_feed 8 (some .int) [(0, 16, 19, 13)] :: (p_l_feed ++ fC)
theorem w_l_feed_good : w_l_feed.all goodWord = true := nb_allc (by decide +kernel) (nb_all2 p_l_feed_good fC_good)
theorem gg_l_feed_k_X11_feed : GoodIn w_l_feed w_k_X11_feed := goodIn_sub (fun w h => (List.mem_cons.mp h).elim (fun e => (List.mem_cons_of_mem _ (List.mem_append_left _ (List.mem_append_right _ (List.mem_append_left _ (List.mem_cons.mpr (Or.inl e))))))) (fun h => (List.mem_append.mp h).elim (fun h => (List.mem_cons_of_mem _ (List.mem_append_left _ (List.mem_append_right _ (List.mem_append_left _ (List.mem_cons_of_mem _ h)))))) (fun h => List.mem_cons_of_mem _ (List.mem_append_right _ h)))) w_k_X11_feed_good
theorem g_l_feed_7_k_X11_feed : GoodIn w_l_feed (wsV RL 7 RX11 yX11_feed w_k_X11_feed) := goodIn_app (nb_g4 (List.mem_cons_of_mem _ (List.mem_append_left _ (List.mem_append_left _ (List.mem_of_getElem? (i := 0) rfl)))) (List.mem_cons_of_mem _ (List.mem_append_left _ (List.mem_append_left _ (List.mem_of_getElem? (i := 1) rfl)))) (List.mem_cons_of_mem _ (List.mem_append_left _ (List.mem_append_left _ (List.mem_of_getElem? (i := 2) rfl)))) (List.mem_cons_of_mem _ (List.mem_append_left _ (List.mem_append_left _ (List.mem_of_getElem? (i := 3) rfl)))) (by decide +kernel)) gg_l_feed_k_X11_feed
def v0_l_feed (cy : Nat → ClassId) (a : Nat → Nat) (a9 : Int32) (b9 : Int32) (c9 : Int32) (d9 : Int32) (e9 : Int32) : va_W := [((a 0), .inr (10, [.ref (a 4), .ref (a 5), .ref (a 6), .ref (a 7), .ref (a 8), .ref (a 9), .ref (a 2), .ref (a 10), .ref (a 11), .ref (a 12), .int 0, .int 0, .int 0, .int 0, .ref (a 13), .ref (a 14), .ref (a 15), .int 0, .int 0, .int 0])), ((a 2), .inr (2, [.ref (a 3), .int 0, .int 0, .int 0, .int 0, .long 0, .long 0, .ref (a 16)])), ((a 3), .inl (cy 0, 1024, .inl nZ)), ((a 1), .inl (cy 2, 1, .inr (.inl (fun _ => 0))))]
def v1_l_feed (cy : Nat → ClassId) (a : Nat → Nat) (a9 : Int32) (b9 : Int32) (c9 : Int32) (d9 : Int32) (e9 : Int32) (r : Nat → Nat) : va_W := [((a 1), .inl (cy 2, 1, .inr (.inl (vp_updL (fun _ => 0) 0 20))))]
set_option maxHeartbeats 40000000 in
set_option maxRecDepth 100000 in
/-- feed(..) of the law on a new object: it answers -/
theorem l_feed (l : Launch) (dC : Nat → ClassId) (dI : Nat → Nat → Nat) (cy : Nat → ClassId) (k : Nat → Nat) (a : Nat → Nat) (a9 : Int32) (b9 : Int32) (c9 : Int32) (d9 : Int32) (e9 : Int32) (sz : Nat) : Met l yL_feed w_l_feed ({ frames := 4, cells := 0, slots := 0, locals := 90 }) (va_Pc [.ref (a 0), .int a9, .int b9, .int c9, .int d9, .int e9, .ref (a 1)] (nInE (dC, dI) cy k sz (v0_l_feed cy a a9 b9 c9 d9 e9))) (va_Qi (fun (z : Int32) (_ : Nat → Nat) => z = 0) (fun r t => nOut (dC, dI) cy (va_A (v0_l_feed cy a a9 b9 c9 d9 e9) sz) (v1_l_feed cy a a9 b9 c9 d9 e9 r) t) (va_A (v0_l_feed cy a a9 b9 c9 d9 e9) sz)) 0 0 (va_A (v0_l_feed cy a a9 b9 c9 d9 e9) sz) := by
  refine nb_ofWH (cc := cL_feed) (maxL := 8) (ret := (some .int)) (by decide) rfl ?_
  intro p e s m args below meth c s₁ B hml hv
  obtain ⟨rfl, ⟨hsz, hP, hK, hD0, hG⟩, hE⟩ := hv
  have hx := B.exec
  have hb := B.bytes
  have hr := B.returns
  have hts := atoms_spec (ws := w_l_feed) B.pre
  have hown : s.vm.findClass RL = some m.cls := findClass_of_methodNamed B.named
  have hlocks := B.notSynchronized
  subst hsz
  have hD := hD0.self (sz := s.heap.size)
  generalize hAe : va_A (v0_l_feed cy a a9 b9 c9 d9 e9) s.heap.size = A at hD hE ⊢
  have hA : ∀ q : Nat, s.heap.size ≤ q → A q := fun q h => by rw [← hAe]; exact Or.inr h
  have hS : va_S A s.heap s.heap [] := va_S.rf
  have hP : va_P (dC, dI) nCl (v0_l_feed cy a a9 b9 c9 d9 e9) s.heap := hP
  have hl := lv_entry ([.ref (a 0), .int a9, .int b9, .int c9, .int d9, .int e9, .ref (a 1)]) (n := 8) (Nat.le_of_ble_eq_true rfl)
  rw [lg_entry_eq]
  generalize (lg_sl ([.ref (a 0), .int a9, .int b9, .int c9, .int d9, .int e9, .ref (a 1)]) ++ List.replicate (8 - (lg_sl ([.ref (a 0), .int a9, .int b9, .int c9, .int d9, .int e9, .ref (a 1)])).length) Slot.unset).toArray = ls at hl ⊢
  have hl : lv_has ls 8 [(0, .ref (a 0)), (1, .int a9), (2, .int b9), (3, .int c9), (4, .int d9), (5, .int e9), (6, .ref (a 1))] := hl
  have hP : va_P (dC, dI) nCl [((a 0), .inr (10, [.ref (a 4), .ref (a 5), .ref (a 6), .ref (a 7), .ref (a 8), .ref (a 9), .ref (a 2), .ref (a 10), .ref (a 11), .ref (a 12), .int 0, .int 0, .int 0, .int 0, .ref (a 13), .ref (a 14), .ref (a 15), .int 0, .int 0, .int 0])), ((a 2), .inr (2, [.ref (a 3), .int 0, .int 0, .int 0, .int 0, .long 0, .long 0, .ref (a 16)])), ((a 3), .inl (cy 0, 1024, .inl nZ)), ((a 1), .inl (cy 2, 1, .inr (.inl (fun _ => 0))))] s.heap := hP
  have hD : va_D A [((a 0), .inr (10, [.ref (a 4), .ref (a 5), .ref (a 6), .ref (a 7), .ref (a 8), .ref (a 9), .ref (a 2), .ref (a 10), .ref (a 11), .ref (a 12), .int 0, .int 0, .int 0, .int 0, .ref (a 13), .ref (a 14), .ref (a 15), .int 0, .int 0, .int 0])), ((a 2), .inr (2, [.ref (a 3), .int 0, .int 0, .int 0, .int 0, .long 0, .long 0, .ref (a 16)])), ((a 3), .inl (cy 0, 1024, .inl nZ)), ((a 1), .inl (cy 2, 1, .inr (.inl (fun _ => 0))))] := hD
  refine lv_aload hx hb dL_feed_0 (lv_at hl 6 rfl) ?_
  refine lv_iconst (v := 0) hx hb dL_feed_2 (by decide) ?_
  refine lv_aload_n hx hb dL_feed_3 rfl (lv_at hl 0 rfl) ?_
  refine lv_iload_n hx hb dL_feed_4 rfl (lv_at hl 1 rfl) ?_
  refine lv_iload_n hx hb dL_feed_5 rfl (lv_at hl 2 rfl) ?_
  refine lv_iload_n hx hb dL_feed_6 rfl (lv_at hl 3 rfl) ?_
  refine lv_iload hx hb dL_feed_7 (lv_at hl 4 rfl) ?_
  refine lv_iload hx hb dL_feed_9 (lv_at hl 5 rfl) ?_
  have hPc := hP.sub (ws' := [((a 0), .inr (10, [.ref (a 4), .ref (a 5), .ref (a 6), .ref (a 7), .ref (a 8), .ref (a 9), .ref (a 2), .ref (a 10), .ref (a 11), .ref (a 12), .int 0, .int 0, .int 0, .int 0, .ref (a 13), .ref (a 14), .ref (a 15), .int 0, .int 0, .int 0])), ((a 2), .inr (2, [.ref (a 3), .int 0, .int 0, .int 0, .int 0, .long 0, .long 0, .ref (a 16)])), ((a 3), .inl (cy 0, 1024, .inl nZ))]) [0, 1, 2] rfl
  have hPc : va_P (dC, dI) nCl (v0_k_X11_feed cy (fun j9 => [(a 0), (a 2), (a 3), (a 4), (a 5), (a 6), (a 7), (a 8), (a 9), (a 10), (a 11), (a 12), (a 13), (a 14), (a 15), (a 16)].getD j9 0) a9 b9 c9 d9 e9) s.heap := hPc
  have hDc := hD.sub (ws' := [((a 0), .inr (10, [.ref (a 4), .ref (a 5), .ref (a 6), .ref (a 7), .ref (a 8), .ref (a 9), .ref (a 2), .ref (a 10), .ref (a 11), .ref (a 12), .int 0, .int 0, .int 0, .int 0, .ref (a 13), .ref (a 14), .ref (a 15), .int 0, .int 0, .int 0])), ((a 2), .inr (2, [.ref (a 3), .int 0, .int 0, .int 0, .int 0, .long 0, .long 0, .ref (a 16)])), ((a 3), .inl (cy 0, 1024, .inl nZ))]) [0, 1, 2] (by decide) rfl
  have hDc : va_D A (v0_k_X11_feed cy (fun j9 => [(a 0), (a 2), (a 3), (a 4), (a 5), (a 6), (a 7), (a 8), (a 9), (a 10), (a 11), (a 12), (a 13), (a 14), (a 15), (a 16)].getD j9 0) a9 b9 c9 d9 e9) := hDc
  have hFc := va_free (wc := (v0_k_X11_feed cy (fun j9 => [(a 0), (a 2), (a 3), (a 4), (a 5), (a 6), (a 7), (a 8), (a 9), (a 10), (a 11), (a 12), (a 13), (a 14), (a 15), (a 16)].getD j9 0) a9 b9 c9 d9 e9)) hD hS hA [0, 1, 2] rfl
  refine va_calli (va_runV (As := [.int a9, .int b9, .int c9, .int d9, .int e9]) (rest := [.int 0, .ref (a 1)]) ⟨hx, hb, hml, hown, hts⟩ (k_X11_feed l dC dI cy k (fun j9 => [(a 0), (a 2), (a 3), (a 4), (a 5), (a 6), (a 7), (a 8), (a 9), (a 10), (a 11), (a 12), (a 13), (a 14), (a 15), (a 16)].getD j9 0) a9 b9 c9 d9 e9 s.heap.size) (cwV 5 hts g_l_feed_7_k_X11_feed rfl rfl rfl (by decide +kernel) ⟨Nat.le_of_ble_eq_true rfl, Nat.le_of_ble_eq_true rfl⟩) ⟨nb_blindE, va_recv hK hPc (ci := 10) (q0 := 0) rfl rfl, fun U hU hW => ⟨rfl, ⟨by rw [hU], by rw [hU]; exact hPc, va_K.moved hW.alike hK, hDc.weaken (fun _ _ _ _ => trivial), hG.warm hW⟩, nE.to hE hS hW hU hFc⟩⟩ rfl rfl hl.1 rfl (lv_room (Nat.le_of_ble_eq_true rfl)) dL_feed_11 ⟨Nat.le_of_ble_eq_true rfl, Nat.le_of_ble_eq_true rfl⟩) hS (fun q _ h => hFc q h) hFc (fun r_1 u1 t H1 locs ht hvm hw hB hz1 hk1 hS => ?_)
  subst hw
  obtain ⟨hP1, hK1, hD1⟩ := hB
  rw [ht] at hP1
  obtain ⟨hP, hD⟩ := va_join (wr := [((a 1), .inl (cy 2, 1, .inr (.inl (fun _ => 0))))]) (w1 := v1_k_X11_feed cy (fun j9 => [(a 0), (a 2), (a 3), (a 4), (a 5), (a 6), (a 7), (a 8), (a 9), (a 10), (a 11), (a 12), (a 13), (a 14), (a 15), (a 16)].getD j9 0) a9 b9 c9 d9 e9 u1) hP hD [0, 1, 2] [3] rfl rfl (by decide) (by decide) hk1 hFc hP1 hD1
  generalize H1 = H at hP hS ⊢
  have hP : va_P (dC, dI) nCl [((a 1), .inl (cy 2, 1, .inr (.inl (fun _ => 0))))] H := hP
  have hD : va_D A [((a 1), .inl (cy 2, 1, .inr (.inl (fun _ => 0))))] := hD
  refine lv_i2l (v := 20) hx hb dL_feed_14 (by decide) ?_
  refine va_last hx hb hK hP hD hS 0 2 rfl rfl (nb_in (by decide)) dL_feed_15 (fun H locs hP hD hS => ?_)
  have hP : va_P (dC, dI) nCl [((a 1), .inl (cy 2, 1, .inr (.inl (vp_updL (fun _ => 0) 0 20))))] H := hP
  have hD : va_D A [((a 1), .inl (cy 2, 1, .inr (.inl (vp_updL (fun _ => 0) 0 20))))] := hD
  refine lv_goto (tgt := 23) hx hb dL_feed_16 (by decide) ?_
  refine lv_iconst (v := 0) hx hb dL_feed_23 (by decide) ?_
  have hP := hP.sub (ws' := [((a 1), .inl (cy 2, 1, .inr (.inl (vp_updL (fun _ => 0) 0 20))))]) [0] rfl
  have hD := hD.sub (ws' := [((a 1), .inl (cy 2, 1, .inr (.inl (vp_updL (fun _ => 0) 0 20))))]) [0] (by decide) rfl
  have hP : va_P (dC, dI) nCl (v1_l_feed cy a a9 b9 c9 d9 e9 (fun _ => 0)) H := hP
  have hD : va_D A (v1_l_feed cy a a9 b9 c9 d9 e9 (fun _ => 0)) := hD
  exact W.iret (v := 0) hx hb hr (fun t ht hW => ⟨⟨0, (fun _ => 0), rfl, rfl, by rw [ht]; exact hP, va_K.moved hW.alike hK, hD⟩, hS.F ht⟩) hS.2.2 dL_feed_24
def o_l_end_0 : List Cond := [.methodLink RL 15 yX11_end, .instanceMethod yX11_end, .selects RX11 yX11_end yX11_end, .initialized RX11]
theorem o_l_end_0_good : o_l_end_0.all goodWord = true := by decide +kernel
def p_l_end_0 : List Cond := o_l_end_0 ++ ((.code yX11_end cX11_end 2 none :: p_k_X11_end_0) ++ [])
theorem p_l_end_0_good : p_l_end_0.all goodWord = true := nb_all2 o_l_end_0_good (nb_all2 (nb_allc (by decide +kernel) p_k_X11_end_0_good) rfl)
def w_l_end_0 : List Cond := .codeWith yL_end cL_end 3 (some .int) [(0, 5, 8, 19)] :: (p_l_end_0 ++ fC)
theorem w_l_end_0_good : w_l_end_0.all goodWord = true := nb_allc (by decide +kernel) (nb_all2 p_l_end_0_good fC_good)
theorem gg_l_end_0_k_X11_end_0 : GoodIn w_l_end_0 w_k_X11_end_0 := goodIn_sub (fun w h => (List.mem_cons.mp h).elim (fun e => (List.mem_cons_of_mem _ (List.mem_append_left _ (List.mem_append_right _ (List.mem_append_left _ (List.mem_cons.mpr (Or.inl e))))))) (fun h => (List.mem_append.mp h).elim (fun h => (List.mem_cons_of_mem _ (List.mem_append_left _ (List.mem_append_right _ (List.mem_append_left _ (List.mem_cons_of_mem _ h)))))) (fun h => List.mem_cons_of_mem _ (List.mem_append_right _ h)))) w_k_X11_end_0_good
theorem g_l_end_0_15_k_X11_end_0 : GoodIn w_l_end_0 (wsV RL 15 RX11 yX11_end w_k_X11_end_0) := goodIn_app (nb_g4 (List.mem_cons_of_mem _ (List.mem_append_left _ (List.mem_append_left _ (List.mem_of_getElem? (i := 0) rfl)))) (List.mem_cons_of_mem _ (List.mem_append_left _ (List.mem_append_left _ (List.mem_of_getElem? (i := 1) rfl)))) (List.mem_cons_of_mem _ (List.mem_append_left _ (List.mem_append_left _ (List.mem_of_getElem? (i := 2) rfl)))) (List.mem_cons_of_mem _ (List.mem_append_left _ (List.mem_append_left _ (List.mem_of_getElem? (i := 3) rfl)))) (by decide +kernel)) gg_l_end_0_k_X11_end_0
def v0_l_end_0 (cy : Nat → ClassId) (a : Nat → Nat) : va_W := [((a 0), .inr (10, [.ref (a 2), .ref (a 3), .ref (a 4), .ref (a 5), .ref (a 6), .ref (a 7), .ref (a 1), .ref (a 8), .ref (a 9), .ref (a 10), .int 0, .int 0, .int 0, .int 0, .ref (a 11), .ref (a 12), .ref (a 13), .int 0, .int 0, .int 0])), ((a 1), .inr (2, [.ref (a 14), .int 0, .int 0, .int 0, .int 0, .long 0, .long 0, .ref (a 15)]))]
def v1_l_end_0 (cy : Nat → ClassId) (a : Nat → Nat) (r : Nat → Nat) : va_W := []
set_option maxHeartbeats 40000000 in
set_option maxRecDepth 100000 in
/-- end(..) of the law on a new object: it answers -/
theorem l_end_0 (l : Launch) (dC : Nat → ClassId) (dI : Nat → Nat → Nat) (cy : Nat → ClassId) (k : Nat → Nat) (a : Nat → Nat) (sz : Nat) : Met l yL_end w_l_end_0 ({ frames := 1, cells := 0, slots := 0, locals := 21 }) (va_Pc [.ref (a 0), .int 0] (nInE (dC, dI) cy k sz (v0_l_end_0 cy a))) (va_Qi (fun (z : Int32) (_ : Nat → Nat) => z = 0) (fun r t => nOut (dC, dI) cy (va_A (v0_l_end_0 cy a) sz) (v1_l_end_0 cy a r) t) (va_A (v0_l_end_0 cy a) sz)) 0 0 (va_A (v0_l_end_0 cy a) sz) := by
  refine nb_ofWH (cc := cL_end) (maxL := 3) (ret := (some .int)) (by decide) rfl ?_
  intro p e s m args below meth c s₁ B hml hv
  obtain ⟨rfl, ⟨hsz, hP, hK, hD0, hG⟩, hE⟩ := hv
  have hx := B.exec
  have hb := B.bytes
  have hr := B.returns
  have hts := atoms_spec (ws := w_l_end_0) B.pre
  have hown : s.vm.findClass RL = some m.cls := findClass_of_methodNamed B.named
  have hlocks := B.notSynchronized
  subst hsz
  have hD := hD0.self (sz := s.heap.size)
  generalize hAe : va_A (v0_l_end_0 cy a) s.heap.size = A at hD hE ⊢
  have hA : ∀ q : Nat, s.heap.size ≤ q → A q := fun q h => by rw [← hAe]; exact Or.inr h
  have hS : va_S A s.heap s.heap [] := va_S.rf
  have hP : va_P (dC, dI) nCl (v0_l_end_0 cy a) s.heap := hP
  have hl := lv_entry ([.ref (a 0), .int 0]) (n := 3) (Nat.le_of_ble_eq_true rfl)
  rw [lg_entry_eq]
  generalize (lg_sl ([.ref (a 0), .int 0]) ++ List.replicate (3 - (lg_sl ([.ref (a 0), .int 0])).length) Slot.unset).toArray = ls at hl ⊢
  have hl : lv_has ls 3 [(0, .ref (a 0)), (1, .int 0)] := hl
  have hP : va_P (dC, dI) nCl [((a 0), .inr (10, [.ref (a 2), .ref (a 3), .ref (a 4), .ref (a 5), .ref (a 6), .ref (a 7), .ref (a 1), .ref (a 8), .ref (a 9), .ref (a 10), .int 0, .int 0, .int 0, .int 0, .ref (a 11), .ref (a 12), .ref (a 13), .int 0, .int 0, .int 0])), ((a 1), .inr (2, [.ref (a 14), .int 0, .int 0, .int 0, .int 0, .long 0, .long 0, .ref (a 15)]))] s.heap := hP
  have hD : va_D A [((a 0), .inr (10, [.ref (a 2), .ref (a 3), .ref (a 4), .ref (a 5), .ref (a 6), .ref (a 7), .ref (a 1), .ref (a 8), .ref (a 9), .ref (a 10), .int 0, .int 0, .int 0, .int 0, .ref (a 11), .ref (a 12), .ref (a 13), .int 0, .int 0, .int 0])), ((a 1), .inr (2, [.ref (a 14), .int 0, .int 0, .int 0, .int 0, .long 0, .long 0, .ref (a 15)]))] := hD
  refine lv_aload_n hx hb dL_end_0 rfl (lv_at hl 0 rfl) ?_
  refine lv_iload_n hx hb dL_end_1 rfl (lv_at hl 1 rfl) ?_
  have hPc := hP.sub (ws' := [((a 0), .inr (10, [.ref (a 2), .ref (a 3), .ref (a 4), .ref (a 5), .ref (a 6), .ref (a 7), .ref (a 1), .ref (a 8), .ref (a 9), .ref (a 10), .int 0, .int 0, .int 0, .int 0, .ref (a 11), .ref (a 12), .ref (a 13), .int 0, .int 0, .int 0])), ((a 1), .inr (2, [.ref (a 14), .int 0, .int 0, .int 0, .int 0, .long 0, .long 0, .ref (a 15)]))]) [0, 1] rfl
  have hPc : va_P (dC, dI) nCl (v0_k_X11_end_0 cy (fun j9 => [(a 0), (a 1), (a 2), (a 3), (a 4), (a 5), (a 6), (a 7), (a 8), (a 9), (a 10), (a 11), (a 12), (a 13), (a 14), (a 15)].getD j9 0)) s.heap := hPc
  have hDc := hD.sub (ws' := [((a 0), .inr (10, [.ref (a 2), .ref (a 3), .ref (a 4), .ref (a 5), .ref (a 6), .ref (a 7), .ref (a 1), .ref (a 8), .ref (a 9), .ref (a 10), .int 0, .int 0, .int 0, .int 0, .ref (a 11), .ref (a 12), .ref (a 13), .int 0, .int 0, .int 0])), ((a 1), .inr (2, [.ref (a 14), .int 0, .int 0, .int 0, .int 0, .long 0, .long 0, .ref (a 15)]))]) [0, 1] (by decide) rfl
  have hDc : va_D A (v0_k_X11_end_0 cy (fun j9 => [(a 0), (a 1), (a 2), (a 3), (a 4), (a 5), (a 6), (a 7), (a 8), (a 9), (a 10), (a 11), (a 12), (a 13), (a 14), (a 15)].getD j9 0)) := hDc
  have hFc := va_free (wc := (v0_k_X11_end_0 cy (fun j9 => [(a 0), (a 1), (a 2), (a 3), (a 4), (a 5), (a 6), (a 7), (a 8), (a 9), (a 10), (a 11), (a 12), (a 13), (a 14), (a 15)].getD j9 0))) hD hS hA [0, 1] rfl
  refine va_callv (va_runV (As := [.int 0]) (rest := []) ⟨hx, hb, hml, hown, hts⟩ (k_X11_end_0 l dC dI cy k (fun j9 => [(a 0), (a 1), (a 2), (a 3), (a 4), (a 5), (a 6), (a 7), (a 8), (a 9), (a 10), (a 11), (a 12), (a 13), (a 14), (a 15)].getD j9 0) s.heap.size) (cwV 1 hts g_l_end_0_15_k_X11_end_0 rfl rfl rfl (by decide +kernel) ⟨Nat.le_of_ble_eq_true rfl, Nat.le_of_ble_eq_true rfl⟩) ⟨nb_blindE, va_recv hK hPc (ci := 10) (q0 := 0) rfl rfl, fun U hU hW => ⟨rfl, ⟨by rw [hU], by rw [hU]; exact hPc, va_K.moved hW.alike hK, hDc.weaken (fun _ _ _ _ => trivial), hG.warm hW⟩, nE.to hE hS hW hU hFc⟩⟩ rfl rfl hl.1 rfl (lv_room (Nat.le_of_ble_eq_true rfl)) dL_end_2 ⟨Nat.le_of_ble_eq_true rfl, Nat.le_of_ble_eq_true rfl⟩) hS (fun q _ h => hFc q h) hFc (fun u1 t H1 locs ht hvm hw hB hz1 hk1 hS => ?_)
  obtain ⟨hP1, hK1, hD1⟩ := hB
  rw [ht] at hP1
  obtain ⟨hP, hD⟩ := va_join (wr := []) (w1 := v1_k_X11_end_0 cy (fun j9 => [(a 0), (a 1), (a 2), (a 3), (a 4), (a 5), (a 6), (a 7), (a 8), (a 9), (a 10), (a 11), (a 12), (a 13), (a 14), (a 15)].getD j9 0) u1) hP hD [0, 1] [] rfl rfl (by decide) (by decide) hk1 hFc hP1 hD1
  generalize H1 = H at hP hS ⊢
  have hP : va_P (dC, dI) nCl [] H := hP
  have hD : va_D A [] := hD
  refine lv_goto (tgt := 11) hx hb dL_end_5 (by decide) ?_
  refine lv_iconst (v := 0) hx hb dL_end_11 (by decide) ?_
  have hP := hP.sub (ws' := []) [] rfl
  have hD := hD.sub (ws' := []) [] (by decide) rfl
  have hP : va_P (dC, dI) nCl (v1_l_end_0 cy a (fun _ => 0)) H := hP
  have hD : va_D A (v1_l_end_0 cy a (fun _ => 0)) := hD
  exact W.iret (v := 0) hx hb hr (fun t ht hW => ⟨⟨0, (fun _ => 0), rfl, rfl, by rw [ht]; exact hP, va_K.moved hW.alike hK, hD⟩, hS.F ht⟩) hS.2.2 dL_end_12
def o_l_shape_0 : List Cond := [.methodLink RL 62 yX11_shape, .instanceMethod yX11_shape, .selects RX11 yX11_shape yX11_shape, .initialized RX11]
theorem o_l_shape_0_good : o_l_shape_0.all goodWord = true := by decide +kernel
def p_l_shape_0 : List Cond := o_l_shape_0 ++ ((.code yX11_shape cX11_shape 4 (some .int) :: p_k_X11_shape_0) ++ [])
theorem p_l_shape_0_good : p_l_shape_0.all goodWord = true := nb_all2 o_l_shape_0_good (nb_all2 (nb_allc (by decide +kernel) p_k_X11_shape_0_good) rfl)
def w_l_shape_0 : List Cond := .codeWith yL_shape cL_shape 4 (some .int) [(0, 9, 12, 37)] :: (p_l_shape_0 ++ fC)
theorem w_l_shape_0_good : w_l_shape_0.all goodWord = true := nb_allc (by decide +kernel) (nb_all2 p_l_shape_0_good fC_good)
theorem gg_l_shape_0_k_X11_shape_0 : GoodIn w_l_shape_0 w_k_X11_shape_0 := goodIn_sub (fun w h => (List.mem_cons.mp h).elim (fun e => (List.mem_cons_of_mem _ (List.mem_append_left _ (List.mem_append_right _ (List.mem_append_left _ (List.mem_cons.mpr (Or.inl e))))))) (fun h => (List.mem_append.mp h).elim (fun h => (List.mem_cons_of_mem _ (List.mem_append_left _ (List.mem_append_right _ (List.mem_append_left _ (List.mem_cons_of_mem _ h)))))) (fun h => List.mem_cons_of_mem _ (List.mem_append_right _ h)))) w_k_X11_shape_0_good
theorem g_l_shape_0_62_k_X11_shape_0 : GoodIn w_l_shape_0 (wsV RL 62 RX11 yX11_shape w_k_X11_shape_0) := goodIn_app (nb_g4 (List.mem_cons_of_mem _ (List.mem_append_left _ (List.mem_append_left _ (List.mem_of_getElem? (i := 0) rfl)))) (List.mem_cons_of_mem _ (List.mem_append_left _ (List.mem_append_left _ (List.mem_of_getElem? (i := 1) rfl)))) (List.mem_cons_of_mem _ (List.mem_append_left _ (List.mem_append_left _ (List.mem_of_getElem? (i := 2) rfl)))) (List.mem_cons_of_mem _ (List.mem_append_left _ (List.mem_append_left _ (List.mem_of_getElem? (i := 3) rfl)))) (by decide +kernel)) gg_l_shape_0_k_X11_shape_0
def v0_l_shape_0 (cy : Nat → ClassId) (a : Nat → Nat) : va_W := [((a 0), .inr (10, [.ref (a 2), .ref (a 3), .ref (a 4), .ref (a 5), .ref (a 6), .ref (a 7), .ref (a 8), .ref (a 9), .ref (a 10), .ref (a 11), .int 0, .int 0, .int 0, .int 0, .ref (a 12), .ref (a 13), .ref (a 14), .int 0, .int 0, .int 0])), ((a 1), .inl (cy 2, 1, .inr (.inl (fun _ => 0))))]
def v1_l_shape_0 (cy : Nat → ClassId) (a : Nat → Nat) (r : Nat → Nat) : va_W := [((a 1), .inl (cy 2, 1, .inr (.inl (vp_updL (fun _ => 0) 0 0))))]
set_option maxHeartbeats 40000000 in
set_option maxRecDepth 100000 in
/-- shape(..) of the law on a new object: it answers -/
theorem l_shape_0 (l : Launch) (dC : Nat → ClassId) (dI : Nat → Nat → Nat) (cy : Nat → ClassId) (k : Nat → Nat) (a : Nat → Nat) (sz : Nat) : Met l yL_shape w_l_shape_0 ({ frames := 1, cells := 0, slots := 0, locals := 23 }) (va_Pc [.ref (a 0), .int 0, .ref (a 1)] (nInE (dC, dI) cy k sz (v0_l_shape_0 cy a))) (va_Qi (fun (z : Int32) (_ : Nat → Nat) => z = 0) (fun r t => nOut (dC, dI) cy (va_A (v0_l_shape_0 cy a) sz) (v1_l_shape_0 cy a r) t) (va_A (v0_l_shape_0 cy a) sz)) 0 0 (va_A (v0_l_shape_0 cy a) sz) := by
  refine nb_ofWH (cc := cL_shape) (maxL := 4) (ret := (some .int)) (by decide) rfl ?_
  intro p e s m args below meth c s₁ B hml hv
  obtain ⟨rfl, ⟨hsz, hP, hK, hD0, hG⟩, hE⟩ := hv
  have hx := B.exec
  have hb := B.bytes
  have hr := B.returns
  have hts := atoms_spec (ws := w_l_shape_0) B.pre
  have hown : s.vm.findClass RL = some m.cls := findClass_of_methodNamed B.named
  have hlocks := B.notSynchronized
  subst hsz
  have hD := hD0.self (sz := s.heap.size)
  generalize hAe : va_A (v0_l_shape_0 cy a) s.heap.size = A at hD hE ⊢
  have hA : ∀ q : Nat, s.heap.size ≤ q → A q := fun q h => by rw [← hAe]; exact Or.inr h
  have hS : va_S A s.heap s.heap [] := va_S.rf
  have hP : va_P (dC, dI) nCl (v0_l_shape_0 cy a) s.heap := hP
  have hl := lv_entry ([.ref (a 0), .int 0, .ref (a 1)]) (n := 4) (Nat.le_of_ble_eq_true rfl)
  rw [lg_entry_eq]
  generalize (lg_sl ([.ref (a 0), .int 0, .ref (a 1)]) ++ List.replicate (4 - (lg_sl ([.ref (a 0), .int 0, .ref (a 1)])).length) Slot.unset).toArray = ls at hl ⊢
  have hl : lv_has ls 4 [(0, .ref (a 0)), (1, .int 0), (2, .ref (a 1))] := hl
  have hP : va_P (dC, dI) nCl [((a 0), .inr (10, [.ref (a 2), .ref (a 3), .ref (a 4), .ref (a 5), .ref (a 6), .ref (a 7), .ref (a 8), .ref (a 9), .ref (a 10), .ref (a 11), .int 0, .int 0, .int 0, .int 0, .ref (a 12), .ref (a 13), .ref (a 14), .int 0, .int 0, .int 0])), ((a 1), .inl (cy 2, 1, .inr (.inl (fun _ => 0))))] s.heap := hP
  have hD : va_D A [((a 0), .inr (10, [.ref (a 2), .ref (a 3), .ref (a 4), .ref (a 5), .ref (a 6), .ref (a 7), .ref (a 8), .ref (a 9), .ref (a 10), .ref (a 11), .int 0, .int 0, .int 0, .int 0, .ref (a 12), .ref (a 13), .ref (a 14), .int 0, .int 0, .int 0])), ((a 1), .inl (cy 2, 1, .inr (.inl (fun _ => 0))))] := hD
  refine lv_aload_n hx hb dL_shape_0 rfl (lv_at hl 2 rfl) ?_
  refine lv_iconst (v := 0) hx hb dL_shape_1 (by decide) ?_
  refine lv_aload_n hx hb dL_shape_2 rfl (lv_at hl 0 rfl) ?_
  refine lv_iload_n hx hb dL_shape_3 rfl (lv_at hl 1 rfl) ?_
  have hPc := hP.sub (ws' := [((a 0), .inr (10, [.ref (a 2), .ref (a 3), .ref (a 4), .ref (a 5), .ref (a 6), .ref (a 7), .ref (a 8), .ref (a 9), .ref (a 10), .ref (a 11), .int 0, .int 0, .int 0, .int 0, .ref (a 12), .ref (a 13), .ref (a 14), .int 0, .int 0, .int 0]))]) [0] rfl
  have hPc : va_P (dC, dI) nCl (v0_k_X11_shape_0 cy (fun j9 => [(a 0), (a 2), (a 3), (a 4), (a 5), (a 6), (a 7), (a 8), (a 9), (a 10), (a 11), (a 12), (a 13), (a 14)].getD j9 0)) s.heap := hPc
  have hDc := hD.sub (ws' := [((a 0), .inr (10, [.ref (a 2), .ref (a 3), .ref (a 4), .ref (a 5), .ref (a 6), .ref (a 7), .ref (a 8), .ref (a 9), .ref (a 10), .ref (a 11), .int 0, .int 0, .int 0, .int 0, .ref (a 12), .ref (a 13), .ref (a 14), .int 0, .int 0, .int 0]))]) [0] (by decide) rfl
  have hDc : va_D A (v0_k_X11_shape_0 cy (fun j9 => [(a 0), (a 2), (a 3), (a 4), (a 5), (a 6), (a 7), (a 8), (a 9), (a 10), (a 11), (a 12), (a 13), (a 14)].getD j9 0)) := hDc
  have hFc := va_free (wc := (v0_k_X11_shape_0 cy (fun j9 => [(a 0), (a 2), (a 3), (a 4), (a 5), (a 6), (a 7), (a 8), (a 9), (a 10), (a 11), (a 12), (a 13), (a 14)].getD j9 0))) hD hS hA [0] rfl
  refine va_calli (va_runV (As := [.int 0]) (rest := [.int 0, .ref (a 1)]) ⟨hx, hb, hml, hown, hts⟩ (k_X11_shape_0 l dC dI cy k (fun j9 => [(a 0), (a 2), (a 3), (a 4), (a 5), (a 6), (a 7), (a 8), (a 9), (a 10), (a 11), (a 12), (a 13), (a 14)].getD j9 0) s.heap.size) (cwV 1 hts g_l_shape_0_62_k_X11_shape_0 rfl rfl rfl (by decide +kernel) ⟨Nat.le_of_ble_eq_true rfl, Nat.le_of_ble_eq_true rfl⟩) ⟨nb_blindE, va_recv hK hPc (ci := 10) (q0 := 0) rfl rfl, fun U hU hW => ⟨rfl, ⟨by rw [hU], by rw [hU]; exact hPc, va_K.moved hW.alike hK, hDc.weaken (fun _ _ _ _ => trivial), hG.warm hW⟩, nE.to hE hS hW hU hFc⟩⟩ rfl rfl hl.1 rfl (lv_room (Nat.le_of_ble_eq_true rfl)) dL_shape_4 ⟨Nat.le_of_ble_eq_true rfl, Nat.le_of_ble_eq_true rfl⟩) hS (fun q _ h => hFc q h) hFc (fun r_1 u1 t H1 locs ht hvm hw hB hz1 hk1 hS => ?_)
  subst hw
  obtain ⟨hP1, hK1, hD1⟩ := hB
  rw [ht] at hP1
  obtain ⟨hP, hD⟩ := va_join (wr := [((a 1), .inl (cy 2, 1, .inr (.inl (fun _ => 0))))]) (w1 := v1_k_X11_shape_0 cy (fun j9 => [(a 0), (a 2), (a 3), (a 4), (a 5), (a 6), (a 7), (a 8), (a 9), (a 10), (a 11), (a 12), (a 13), (a 14)].getD j9 0) u1) hP hD [0] [1] rfl rfl (by decide) (by decide) hk1 hFc hP1 hD1
  generalize H1 = H at hP hS ⊢
  have hP : va_P (dC, dI) nCl [((a 1), .inl (cy 2, 1, .inr (.inl (fun _ => 0))))] H := hP
  have hD : va_D A [((a 1), .inl (cy 2, 1, .inr (.inl (fun _ => 0))))] := hD
  refine lv_i2l (v := 0) hx hb dL_shape_7 (by decide) ?_
  refine va_last hx hb hK hP hD hS 0 2 rfl rfl (nb_in (by decide)) dL_shape_8 (fun H locs hP hD hS => ?_)
  have hP : va_P (dC, dI) nCl [((a 1), .inl (cy 2, 1, .inr (.inl (vp_updL (fun _ => 0) 0 0))))] H := hP
  have hD : va_D A [((a 1), .inl (cy 2, 1, .inr (.inl (vp_updL (fun _ => 0) 0 0))))] := hD
  refine lv_goto (tgt := 15) hx hb dL_shape_9 (by decide) ?_
  refine lv_iconst (v := 0) hx hb dL_shape_15 (by decide) ?_
  have hP := hP.sub (ws' := [((a 1), .inl (cy 2, 1, .inr (.inl (vp_updL (fun _ => 0) 0 0))))]) [0] rfl
  have hD := hD.sub (ws' := [((a 1), .inl (cy 2, 1, .inr (.inl (vp_updL (fun _ => 0) 0 0))))]) [0] (by decide) rfl
  have hP : va_P (dC, dI) nCl (v1_l_shape_0 cy a (fun _ => 0)) H := hP
  have hD : va_D A (v1_l_shape_0 cy a (fun _ => 0)) := hD
  exact W.iret (v := 0) hx hb hr (fun t ht hW => ⟨⟨0, (fun _ => 0), rfl, rfl, by rw [ht]; exact hP, va_K.moved hW.alike hK, hD⟩, hS.F ht⟩) hS.2.2 dL_shape_16
def o_l_shape_1 : List Cond := [.methodLink RL 62 yX11_shape, .instanceMethod yX11_shape, .selects RX11 yX11_shape yX11_shape, .initialized RX11]
theorem o_l_shape_1_good : o_l_shape_1.all goodWord = true := by decide +kernel
def p_l_shape_1 : List Cond := o_l_shape_1 ++ ((.code yX11_shape cX11_shape 4 (some .int) :: p_k_X11_shape_1) ++ [])
theorem p_l_shape_1_good : p_l_shape_1.all goodWord = true := nb_all2 o_l_shape_1_good (nb_all2 (nb_allc (by decide +kernel) p_k_X11_shape_1_good) rfl)
def w_l_shape_1 : List Cond := .codeWith yL_shape cL_shape 4 (some .int) [(0, 9, 12, 37)] :: (p_l_shape_1 ++ fC)
theorem w_l_shape_1_good : w_l_shape_1.all goodWord = true := nb_allc (by decide +kernel) (nb_all2 p_l_shape_1_good fC_good)
theorem gg_l_shape_1_k_X11_shape_1 : GoodIn w_l_shape_1 w_k_X11_shape_1 := goodIn_sub (fun w h => (List.mem_cons.mp h).elim (fun e => (List.mem_cons_of_mem _ (List.mem_append_left _ (List.mem_append_right _ (List.mem_append_left _ (List.mem_cons.mpr (Or.inl e))))))) (fun h => (List.mem_append.mp h).elim (fun h => (List.mem_cons_of_mem _ (List.mem_append_left _ (List.mem_append_right _ (List.mem_append_left _ (List.mem_cons_of_mem _ h)))))) (fun h => List.mem_cons_of_mem _ (List.mem_append_right _ h)))) w_k_X11_shape_1_good
theorem g_l_shape_1_62_k_X11_shape_1 : GoodIn w_l_shape_1 (wsV RL 62 RX11 yX11_shape w_k_X11_shape_1) := goodIn_app (nb_g4 (List.mem_cons_of_mem _ (List.mem_append_left _ (List.mem_append_left _ (List.mem_of_getElem? (i := 0) rfl)))) (List.mem_cons_of_mem _ (List.mem_append_left _ (List.mem_append_left _ (List.mem_of_getElem? (i := 1) rfl)))) (List.mem_cons_of_mem _ (List.mem_append_left _ (List.mem_append_left _ (List.mem_of_getElem? (i := 2) rfl)))) (List.mem_cons_of_mem _ (List.mem_append_left _ (List.mem_append_left _ (List.mem_of_getElem? (i := 3) rfl)))) (by decide +kernel)) gg_l_shape_1_k_X11_shape_1
def v0_l_shape_1 (cy : Nat → ClassId) (a : Nat → Nat) : va_W := [((a 0), .inr (10, [.ref (a 2), .ref (a 3), .ref (a 4), .ref (a 5), .ref (a 6), .ref (a 7), .ref (a 8), .ref (a 9), .ref (a 10), .ref (a 11), .int 0, .int 0, .int 0, .int 0, .ref (a 12), .ref (a 13), .ref (a 14), .int 0, .int 0, .int 0])), ((a 1), .inl (cy 2, 1, .inr (.inl (fun _ => 0))))]
def v1_l_shape_1 (cy : Nat → ClassId) (a : Nat → Nat) (r : Nat → Nat) : va_W := [((a 1), .inl (cy 2, 1, .inr (.inl (vp_updL (fun _ => 0) 0 0))))]
set_option maxHeartbeats 40000000 in
set_option maxRecDepth 100000 in
/-- shape(..) of the law on a new object: it answers -/
theorem l_shape_1 (l : Launch) (dC : Nat → ClassId) (dI : Nat → Nat → Nat) (cy : Nat → ClassId) (k : Nat → Nat) (a : Nat → Nat) (sz : Nat) : Met l yL_shape w_l_shape_1 ({ frames := 1, cells := 0, slots := 0, locals := 23 }) (va_Pc [.ref (a 0), .int 1, .ref (a 1)] (nInE (dC, dI) cy k sz (v0_l_shape_1 cy a))) (va_Qi (fun (z : Int32) (_ : Nat → Nat) => z = 0) (fun r t => nOut (dC, dI) cy (va_A (v0_l_shape_1 cy a) sz) (v1_l_shape_1 cy a r) t) (va_A (v0_l_shape_1 cy a) sz)) 0 0 (va_A (v0_l_shape_1 cy a) sz) := by
  refine nb_ofWH (cc := cL_shape) (maxL := 4) (ret := (some .int)) (by decide) rfl ?_
  intro p e s m args below meth c s₁ B hml hv
  obtain ⟨rfl, ⟨hsz, hP, hK, hD0, hG⟩, hE⟩ := hv
  have hx := B.exec
  have hb := B.bytes
  have hr := B.returns
  have hts := atoms_spec (ws := w_l_shape_1) B.pre
  have hown : s.vm.findClass RL = some m.cls := findClass_of_methodNamed B.named
  have hlocks := B.notSynchronized
  subst hsz
  have hD := hD0.self (sz := s.heap.size)
  generalize hAe : va_A (v0_l_shape_1 cy a) s.heap.size = A at hD hE ⊢
  have hA : ∀ q : Nat, s.heap.size ≤ q → A q := fun q h => by rw [← hAe]; exact Or.inr h
  have hS : va_S A s.heap s.heap [] := va_S.rf
  have hP : va_P (dC, dI) nCl (v0_l_shape_1 cy a) s.heap := hP
  have hl := lv_entry ([.ref (a 0), .int 1, .ref (a 1)]) (n := 4) (Nat.le_of_ble_eq_true rfl)
  rw [lg_entry_eq]
  generalize (lg_sl ([.ref (a 0), .int 1, .ref (a 1)]) ++ List.replicate (4 - (lg_sl ([.ref (a 0), .int 1, .ref (a 1)])).length) Slot.unset).toArray = ls at hl ⊢
  have hl : lv_has ls 4 [(0, .ref (a 0)), (1, .int 1), (2, .ref (a 1))] := hl
  have hP : va_P (dC, dI) nCl [((a 0), .inr (10, [.ref (a 2), .ref (a 3), .ref (a 4), .ref (a 5), .ref (a 6), .ref (a 7), .ref (a 8), .ref (a 9), .ref (a 10), .ref (a 11), .int 0, .int 0, .int 0, .int 0, .ref (a 12), .ref (a 13), .ref (a 14), .int 0, .int 0, .int 0])), ((a 1), .inl (cy 2, 1, .inr (.inl (fun _ => 0))))] s.heap := hP
  have hD : va_D A [((a 0), .inr (10, [.ref (a 2), .ref (a 3), .ref (a 4), .ref (a 5), .ref (a 6), .ref (a 7), .ref (a 8), .ref (a 9), .ref (a 10), .ref (a 11), .int 0, .int 0, .int 0, .int 0, .ref (a 12), .ref (a 13), .ref (a 14), .int 0, .int 0, .int 0])), ((a 1), .inl (cy 2, 1, .inr (.inl (fun _ => 0))))] := hD
  refine lv_aload_n hx hb dL_shape_0 rfl (lv_at hl 2 rfl) ?_
  refine lv_iconst (v := 0) hx hb dL_shape_1 (by decide) ?_
  refine lv_aload_n hx hb dL_shape_2 rfl (lv_at hl 0 rfl) ?_
  refine lv_iload_n hx hb dL_shape_3 rfl (lv_at hl 1 rfl) ?_
  have hPc := hP.sub (ws' := [((a 0), .inr (10, [.ref (a 2), .ref (a 3), .ref (a 4), .ref (a 5), .ref (a 6), .ref (a 7), .ref (a 8), .ref (a 9), .ref (a 10), .ref (a 11), .int 0, .int 0, .int 0, .int 0, .ref (a 12), .ref (a 13), .ref (a 14), .int 0, .int 0, .int 0]))]) [0] rfl
  have hPc : va_P (dC, dI) nCl (v0_k_X11_shape_1 cy (fun j9 => [(a 0), (a 2), (a 3), (a 4), (a 5), (a 6), (a 7), (a 8), (a 9), (a 10), (a 11), (a 12), (a 13), (a 14)].getD j9 0)) s.heap := hPc
  have hDc := hD.sub (ws' := [((a 0), .inr (10, [.ref (a 2), .ref (a 3), .ref (a 4), .ref (a 5), .ref (a 6), .ref (a 7), .ref (a 8), .ref (a 9), .ref (a 10), .ref (a 11), .int 0, .int 0, .int 0, .int 0, .ref (a 12), .ref (a 13), .ref (a 14), .int 0, .int 0, .int 0]))]) [0] (by decide) rfl
  have hDc : va_D A (v0_k_X11_shape_1 cy (fun j9 => [(a 0), (a 2), (a 3), (a 4), (a 5), (a 6), (a 7), (a 8), (a 9), (a 10), (a 11), (a 12), (a 13), (a 14)].getD j9 0)) := hDc
  have hFc := va_free (wc := (v0_k_X11_shape_1 cy (fun j9 => [(a 0), (a 2), (a 3), (a 4), (a 5), (a 6), (a 7), (a 8), (a 9), (a 10), (a 11), (a 12), (a 13), (a 14)].getD j9 0))) hD hS hA [0] rfl
  refine va_calli (va_runV (As := [.int 1]) (rest := [.int 0, .ref (a 1)]) ⟨hx, hb, hml, hown, hts⟩ (k_X11_shape_1 l dC dI cy k (fun j9 => [(a 0), (a 2), (a 3), (a 4), (a 5), (a 6), (a 7), (a 8), (a 9), (a 10), (a 11), (a 12), (a 13), (a 14)].getD j9 0) s.heap.size) (cwV 1 hts g_l_shape_1_62_k_X11_shape_1 rfl rfl rfl (by decide +kernel) ⟨Nat.le_of_ble_eq_true rfl, Nat.le_of_ble_eq_true rfl⟩) ⟨nb_blindE, va_recv hK hPc (ci := 10) (q0 := 0) rfl rfl, fun U hU hW => ⟨rfl, ⟨by rw [hU], by rw [hU]; exact hPc, va_K.moved hW.alike hK, hDc.weaken (fun _ _ _ _ => trivial), hG.warm hW⟩, nE.to hE hS hW hU hFc⟩⟩ rfl rfl hl.1 rfl (lv_room (Nat.le_of_ble_eq_true rfl)) dL_shape_4 ⟨Nat.le_of_ble_eq_true rfl, Nat.le_of_ble_eq_true rfl⟩) hS (fun q _ h => hFc q h) hFc (fun r_1 u1 t H1 locs ht hvm hw hB hz1 hk1 hS => ?_)
  subst hw
  obtain ⟨hP1, hK1, hD1⟩ := hB
  rw [ht] at hP1
  obtain ⟨hP, hD⟩ := va_join (wr := [((a 1), .inl (cy 2, 1, .inr (.inl (fun _ => 0))))]) (w1 := v1_k_X11_shape_1 cy (fun j9 => [(a 0), (a 2), (a 3), (a 4), (a 5), (a 6), (a 7), (a 8), (a 9), (a 10), (a 11), (a 12), (a 13), (a 14)].getD j9 0) u1) hP hD [0] [1] rfl rfl (by decide) (by decide) hk1 hFc hP1 hD1
  generalize H1 = H at hP hS ⊢
  have hP : va_P (dC, dI) nCl [((a 1), .inl (cy 2, 1, .inr (.inl (fun _ => 0))))] H := hP
  have hD : va_D A [((a 1), .inl (cy 2, 1, .inr (.inl (fun _ => 0))))] := hD
  refine lv_i2l (v := 0) hx hb dL_shape_7 (by decide) ?_
  refine va_last hx hb hK hP hD hS 0 2 rfl rfl (nb_in (by decide)) dL_shape_8 (fun H locs hP hD hS => ?_)
  have hP : va_P (dC, dI) nCl [((a 1), .inl (cy 2, 1, .inr (.inl (vp_updL (fun _ => 0) 0 0))))] H := hP
  have hD : va_D A [((a 1), .inl (cy 2, 1, .inr (.inl (vp_updL (fun _ => 0) 0 0))))] := hD
  refine lv_goto (tgt := 15) hx hb dL_shape_9 (by decide) ?_
  refine lv_iconst (v := 0) hx hb dL_shape_15 (by decide) ?_
  have hP := hP.sub (ws' := [((a 1), .inl (cy 2, 1, .inr (.inl (vp_updL (fun _ => 0) 0 0))))]) [0] rfl
  have hD := hD.sub (ws' := [((a 1), .inl (cy 2, 1, .inr (.inl (vp_updL (fun _ => 0) 0 0))))]) [0] (by decide) rfl
  have hP : va_P (dC, dI) nCl (v1_l_shape_1 cy a (fun _ => 0)) H := hP
  have hD : va_D A (v1_l_shape_1 cy a (fun _ => 0)) := hD
  exact W.iret (v := 0) hx hb hr (fun t ht hW => ⟨⟨0, (fun _ => 0), rfl, rfl, by rw [ht]; exact hP, va_K.moved hW.alike hK, hD⟩, hS.F ht⟩) hS.2.2 dL_shape_16
def o_l_shape_2 : List Cond := [.methodLink RL 62 yX11_shape, .instanceMethod yX11_shape, .selects RX11 yX11_shape yX11_shape, .initialized RX11]
theorem o_l_shape_2_good : o_l_shape_2.all goodWord = true := by decide +kernel
def p_l_shape_2 : List Cond := o_l_shape_2 ++ ((.code yX11_shape cX11_shape 4 (some .int) :: p_k_X11_shape_2) ++ [])
theorem p_l_shape_2_good : p_l_shape_2.all goodWord = true := nb_all2 o_l_shape_2_good (nb_all2 (nb_allc (by decide +kernel) p_k_X11_shape_2_good) rfl)
def w_l_shape_2 : List Cond := .codeWith yL_shape cL_shape 4 (some .int) [(0, 9, 12, 37)] :: (p_l_shape_2 ++ fC)
theorem w_l_shape_2_good : w_l_shape_2.all goodWord = true := nb_allc (by decide +kernel) (nb_all2 p_l_shape_2_good fC_good)
theorem gg_l_shape_2_k_X11_shape_2 : GoodIn w_l_shape_2 w_k_X11_shape_2 := goodIn_sub (fun w h => (List.mem_cons.mp h).elim (fun e => (List.mem_cons_of_mem _ (List.mem_append_left _ (List.mem_append_right _ (List.mem_append_left _ (List.mem_cons.mpr (Or.inl e))))))) (fun h => (List.mem_append.mp h).elim (fun h => (List.mem_cons_of_mem _ (List.mem_append_left _ (List.mem_append_right _ (List.mem_append_left _ (List.mem_cons_of_mem _ h)))))) (fun h => List.mem_cons_of_mem _ (List.mem_append_right _ h)))) w_k_X11_shape_2_good
theorem g_l_shape_2_62_k_X11_shape_2 : GoodIn w_l_shape_2 (wsV RL 62 RX11 yX11_shape w_k_X11_shape_2) := goodIn_app (nb_g4 (List.mem_cons_of_mem _ (List.mem_append_left _ (List.mem_append_left _ (List.mem_of_getElem? (i := 0) rfl)))) (List.mem_cons_of_mem _ (List.mem_append_left _ (List.mem_append_left _ (List.mem_of_getElem? (i := 1) rfl)))) (List.mem_cons_of_mem _ (List.mem_append_left _ (List.mem_append_left _ (List.mem_of_getElem? (i := 2) rfl)))) (List.mem_cons_of_mem _ (List.mem_append_left _ (List.mem_append_left _ (List.mem_of_getElem? (i := 3) rfl)))) (by decide +kernel)) gg_l_shape_2_k_X11_shape_2
def v0_l_shape_2 (cy : Nat → ClassId) (a : Nat → Nat) : va_W := [((a 0), .inr (10, [.ref (a 2), .ref (a 3), .ref (a 4), .ref (a 5), .ref (a 6), .ref (a 7), .ref (a 8), .ref (a 9), .ref (a 10), .ref (a 11), .int 0, .int 0, .int 0, .int 0, .ref (a 12), .ref (a 13), .ref (a 14), .int 0, .int 0, .int 0])), ((a 1), .inl (cy 2, 1, .inr (.inl (fun _ => 0))))]
def v1_l_shape_2 (cy : Nat → ClassId) (a : Nat → Nat) (r : Nat → Nat) : va_W := [((a 1), .inl (cy 2, 1, .inr (.inl (vp_updL (fun _ => 0) 0 0))))]
set_option maxHeartbeats 40000000 in
set_option maxRecDepth 100000 in
/-- shape(..) of the law on a new object: it answers -/
theorem l_shape_2 (l : Launch) (dC : Nat → ClassId) (dI : Nat → Nat → Nat) (cy : Nat → ClassId) (k : Nat → Nat) (a : Nat → Nat) (sz : Nat) : Met l yL_shape w_l_shape_2 ({ frames := 1, cells := 0, slots := 0, locals := 23 }) (va_Pc [.ref (a 0), .int 2, .ref (a 1)] (nInE (dC, dI) cy k sz (v0_l_shape_2 cy a))) (va_Qi (fun (z : Int32) (_ : Nat → Nat) => z = 0) (fun r t => nOut (dC, dI) cy (va_A (v0_l_shape_2 cy a) sz) (v1_l_shape_2 cy a r) t) (va_A (v0_l_shape_2 cy a) sz)) 0 0 (va_A (v0_l_shape_2 cy a) sz) := by
  refine nb_ofWH (cc := cL_shape) (maxL := 4) (ret := (some .int)) (by decide) rfl ?_
  intro p e s m args below meth c s₁ B hml hv
  obtain ⟨rfl, ⟨hsz, hP, hK, hD0, hG⟩, hE⟩ := hv
  have hx := B.exec
  have hb := B.bytes
  have hr := B.returns
  have hts := atoms_spec (ws := w_l_shape_2) B.pre
  have hown : s.vm.findClass RL = some m.cls := findClass_of_methodNamed B.named
  have hlocks := B.notSynchronized
  subst hsz
  have hD := hD0.self (sz := s.heap.size)
  generalize hAe : va_A (v0_l_shape_2 cy a) s.heap.size = A at hD hE ⊢
  have hA : ∀ q : Nat, s.heap.size ≤ q → A q := fun q h => by rw [← hAe]; exact Or.inr h
  have hS : va_S A s.heap s.heap [] := va_S.rf
  have hP : va_P (dC, dI) nCl (v0_l_shape_2 cy a) s.heap := hP
  have hl := lv_entry ([.ref (a 0), .int 2, .ref (a 1)]) (n := 4) (Nat.le_of_ble_eq_true rfl)
  rw [lg_entry_eq]
  generalize (lg_sl ([.ref (a 0), .int 2, .ref (a 1)]) ++ List.replicate (4 - (lg_sl ([.ref (a 0), .int 2, .ref (a 1)])).length) Slot.unset).toArray = ls at hl ⊢
  have hl : lv_has ls 4 [(0, .ref (a 0)), (1, .int 2), (2, .ref (a 1))] := hl
  have hP : va_P (dC, dI) nCl [((a 0), .inr (10, [.ref (a 2), .ref (a 3), .ref (a 4), .ref (a 5), .ref (a 6), .ref (a 7), .ref (a 8), .ref (a 9), .ref (a 10), .ref (a 11), .int 0, .int 0, .int 0, .int 0, .ref (a 12), .ref (a 13), .ref (a 14), .int 0, .int 0, .int 0])), ((a 1), .inl (cy 2, 1, .inr (.inl (fun _ => 0))))] s.heap := hP
  have hD : va_D A [((a 0), .inr (10, [.ref (a 2), .ref (a 3), .ref (a 4), .ref (a 5), .ref (a 6), .ref (a 7), .ref (a 8), .ref (a 9), .ref (a 10), .ref (a 11), .int 0, .int 0, .int 0, .int 0, .ref (a 12), .ref (a 13), .ref (a 14), .int 0, .int 0, .int 0])), ((a 1), .inl (cy 2, 1, .inr (.inl (fun _ => 0))))] := hD
  refine lv_aload_n hx hb dL_shape_0 rfl (lv_at hl 2 rfl) ?_
  refine lv_iconst (v := 0) hx hb dL_shape_1 (by decide) ?_
  refine lv_aload_n hx hb dL_shape_2 rfl (lv_at hl 0 rfl) ?_
  refine lv_iload_n hx hb dL_shape_3 rfl (lv_at hl 1 rfl) ?_
  have hPc := hP.sub (ws' := [((a 0), .inr (10, [.ref (a 2), .ref (a 3), .ref (a 4), .ref (a 5), .ref (a 6), .ref (a 7), .ref (a 8), .ref (a 9), .ref (a 10), .ref (a 11), .int 0, .int 0, .int 0, .int 0, .ref (a 12), .ref (a 13), .ref (a 14), .int 0, .int 0, .int 0]))]) [0] rfl
  have hPc : va_P (dC, dI) nCl (v0_k_X11_shape_2 cy (fun j9 => [(a 0), (a 2), (a 3), (a 4), (a 5), (a 6), (a 7), (a 8), (a 9), (a 10), (a 11), (a 12), (a 13), (a 14)].getD j9 0)) s.heap := hPc
  have hDc := hD.sub (ws' := [((a 0), .inr (10, [.ref (a 2), .ref (a 3), .ref (a 4), .ref (a 5), .ref (a 6), .ref (a 7), .ref (a 8), .ref (a 9), .ref (a 10), .ref (a 11), .int 0, .int 0, .int 0, .int 0, .ref (a 12), .ref (a 13), .ref (a 14), .int 0, .int 0, .int 0]))]) [0] (by decide) rfl
  have hDc : va_D A (v0_k_X11_shape_2 cy (fun j9 => [(a 0), (a 2), (a 3), (a 4), (a 5), (a 6), (a 7), (a 8), (a 9), (a 10), (a 11), (a 12), (a 13), (a 14)].getD j9 0)) := hDc
  have hFc := va_free (wc := (v0_k_X11_shape_2 cy (fun j9 => [(a 0), (a 2), (a 3), (a 4), (a 5), (a 6), (a 7), (a 8), (a 9), (a 10), (a 11), (a 12), (a 13), (a 14)].getD j9 0))) hD hS hA [0] rfl
  refine va_calli (va_runV (As := [.int 2]) (rest := [.int 0, .ref (a 1)]) ⟨hx, hb, hml, hown, hts⟩ (k_X11_shape_2 l dC dI cy k (fun j9 => [(a 0), (a 2), (a 3), (a 4), (a 5), (a 6), (a 7), (a 8), (a 9), (a 10), (a 11), (a 12), (a 13), (a 14)].getD j9 0) s.heap.size) (cwV 1 hts g_l_shape_2_62_k_X11_shape_2 rfl rfl rfl (by decide +kernel) ⟨Nat.le_of_ble_eq_true rfl, Nat.le_of_ble_eq_true rfl⟩) ⟨nb_blindE, va_recv hK hPc (ci := 10) (q0 := 0) rfl rfl, fun U hU hW => ⟨rfl, ⟨by rw [hU], by rw [hU]; exact hPc, va_K.moved hW.alike hK, hDc.weaken (fun _ _ _ _ => trivial), hG.warm hW⟩, nE.to hE hS hW hU hFc⟩⟩ rfl rfl hl.1 rfl (lv_room (Nat.le_of_ble_eq_true rfl)) dL_shape_4 ⟨Nat.le_of_ble_eq_true rfl, Nat.le_of_ble_eq_true rfl⟩) hS (fun q _ h => hFc q h) hFc (fun r_1 u1 t H1 locs ht hvm hw hB hz1 hk1 hS => ?_)
  subst hw
  obtain ⟨hP1, hK1, hD1⟩ := hB
  rw [ht] at hP1
  obtain ⟨hP, hD⟩ := va_join (wr := [((a 1), .inl (cy 2, 1, .inr (.inl (fun _ => 0))))]) (w1 := v1_k_X11_shape_2 cy (fun j9 => [(a 0), (a 2), (a 3), (a 4), (a 5), (a 6), (a 7), (a 8), (a 9), (a 10), (a 11), (a 12), (a 13), (a 14)].getD j9 0) u1) hP hD [0] [1] rfl rfl (by decide) (by decide) hk1 hFc hP1 hD1
  generalize H1 = H at hP hS ⊢
  have hP : va_P (dC, dI) nCl [((a 1), .inl (cy 2, 1, .inr (.inl (fun _ => 0))))] H := hP
  have hD : va_D A [((a 1), .inl (cy 2, 1, .inr (.inl (fun _ => 0))))] := hD
  refine lv_i2l (v := 0) hx hb dL_shape_7 (by decide) ?_
  refine va_last hx hb hK hP hD hS 0 2 rfl rfl (nb_in (by decide)) dL_shape_8 (fun H locs hP hD hS => ?_)
  have hP : va_P (dC, dI) nCl [((a 1), .inl (cy 2, 1, .inr (.inl (vp_updL (fun _ => 0) 0 0))))] H := hP
  have hD : va_D A [((a 1), .inl (cy 2, 1, .inr (.inl (vp_updL (fun _ => 0) 0 0))))] := hD
  refine lv_goto (tgt := 15) hx hb dL_shape_9 (by decide) ?_
  refine lv_iconst (v := 0) hx hb dL_shape_15 (by decide) ?_
  have hP := hP.sub (ws' := [((a 1), .inl (cy 2, 1, .inr (.inl (vp_updL (fun _ => 0) 0 0))))]) [0] rfl
  have hD := hD.sub (ws' := [((a 1), .inl (cy 2, 1, .inr (.inl (vp_updL (fun _ => 0) 0 0))))]) [0] (by decide) rfl
  have hP : va_P (dC, dI) nCl (v1_l_shape_2 cy a (fun _ => 0)) H := hP
  have hD : va_D A (v1_l_shape_2 cy a (fun _ => 0)) := hD
  exact W.iret (v := 0) hx hb hr (fun t ht hW => ⟨⟨0, (fun _ => 0), rfl, rfl, by rw [ht]; exact hP, va_K.moved hW.alike hK, hD⟩, hS.F ht⟩) hS.2.2 dL_shape_16
def o_l_shape_3 : List Cond := [.methodLink RL 62 yX11_shape, .instanceMethod yX11_shape, .selects RX11 yX11_shape yX11_shape, .initialized RX11]
theorem o_l_shape_3_good : o_l_shape_3.all goodWord = true := by decide +kernel
def p_l_shape_3 : List Cond := o_l_shape_3 ++ ((.code yX11_shape cX11_shape 4 (some .int) :: p_k_X11_shape_3) ++ [])
theorem p_l_shape_3_good : p_l_shape_3.all goodWord = true := nb_all2 o_l_shape_3_good (nb_all2 (nb_allc (by decide +kernel) p_k_X11_shape_3_good) rfl)
def w_l_shape_3 : List Cond := .codeWith yL_shape cL_shape 4 (some .int) [(0, 9, 12, 37)] :: (p_l_shape_3 ++ fC)
theorem w_l_shape_3_good : w_l_shape_3.all goodWord = true := nb_allc (by decide +kernel) (nb_all2 p_l_shape_3_good fC_good)
theorem gg_l_shape_3_k_X11_shape_3 : GoodIn w_l_shape_3 w_k_X11_shape_3 := goodIn_sub (fun w h => (List.mem_cons.mp h).elim (fun e => (List.mem_cons_of_mem _ (List.mem_append_left _ (List.mem_append_right _ (List.mem_append_left _ (List.mem_cons.mpr (Or.inl e))))))) (fun h => (List.mem_append.mp h).elim (fun h => (List.mem_cons_of_mem _ (List.mem_append_left _ (List.mem_append_right _ (List.mem_append_left _ (List.mem_cons_of_mem _ h)))))) (fun h => List.mem_cons_of_mem _ (List.mem_append_right _ h)))) w_k_X11_shape_3_good
theorem g_l_shape_3_62_k_X11_shape_3 : GoodIn w_l_shape_3 (wsV RL 62 RX11 yX11_shape w_k_X11_shape_3) := goodIn_app (nb_g4 (List.mem_cons_of_mem _ (List.mem_append_left _ (List.mem_append_left _ (List.mem_of_getElem? (i := 0) rfl)))) (List.mem_cons_of_mem _ (List.mem_append_left _ (List.mem_append_left _ (List.mem_of_getElem? (i := 1) rfl)))) (List.mem_cons_of_mem _ (List.mem_append_left _ (List.mem_append_left _ (List.mem_of_getElem? (i := 2) rfl)))) (List.mem_cons_of_mem _ (List.mem_append_left _ (List.mem_append_left _ (List.mem_of_getElem? (i := 3) rfl)))) (by decide +kernel)) gg_l_shape_3_k_X11_shape_3
def v0_l_shape_3 (cy : Nat → ClassId) (a : Nat → Nat) : va_W := [((a 0), .inr (10, [.ref (a 2), .ref (a 3), .ref (a 4), .ref (a 5), .ref (a 6), .ref (a 7), .ref (a 8), .ref (a 9), .ref (a 10), .ref (a 11), .int 0, .int 0, .int 0, .int 0, .ref (a 12), .ref (a 13), .ref (a 14), .int 0, .int 0, .int 0])), ((a 1), .inl (cy 2, 1, .inr (.inl (fun _ => 0))))]
def v1_l_shape_3 (cy : Nat → ClassId) (a : Nat → Nat) (r : Nat → Nat) : va_W := [((a 1), .inl (cy 2, 1, .inr (.inl (vp_updL (fun _ => 0) 0 0))))]
set_option maxHeartbeats 40000000 in
set_option maxRecDepth 100000 in
/-- shape(..) of the law on a new object: it answers -/
theorem l_shape_3 (l : Launch) (dC : Nat → ClassId) (dI : Nat → Nat → Nat) (cy : Nat → ClassId) (k : Nat → Nat) (a : Nat → Nat) (sz : Nat) : Met l yL_shape w_l_shape_3 ({ frames := 1, cells := 0, slots := 0, locals := 23 }) (va_Pc [.ref (a 0), .int 3, .ref (a 1)] (nInE (dC, dI) cy k sz (v0_l_shape_3 cy a))) (va_Qi (fun (z : Int32) (_ : Nat → Nat) => z = 0) (fun r t => nOut (dC, dI) cy (va_A (v0_l_shape_3 cy a) sz) (v1_l_shape_3 cy a r) t) (va_A (v0_l_shape_3 cy a) sz)) 0 0 (va_A (v0_l_shape_3 cy a) sz) := by
  refine nb_ofWH (cc := cL_shape) (maxL := 4) (ret := (some .int)) (by decide) rfl ?_
  intro p e s m args below meth c s₁ B hml hv
  obtain ⟨rfl, ⟨hsz, hP, hK, hD0, hG⟩, hE⟩ := hv
  have hx := B.exec
  have hb := B.bytes
  have hr := B.returns
  have hts := atoms_spec (ws := w_l_shape_3) B.pre
  have hown : s.vm.findClass RL = some m.cls := findClass_of_methodNamed B.named
  have hlocks := B.notSynchronized
  subst hsz
  have hD := hD0.self (sz := s.heap.size)
  generalize hAe : va_A (v0_l_shape_3 cy a) s.heap.size = A at hD hE ⊢
  have hA : ∀ q : Nat, s.heap.size ≤ q → A q := fun q h => by rw [← hAe]; exact Or.inr h
  have hS : va_S A s.heap s.heap [] := va_S.rf
  have hP : va_P (dC, dI) nCl (v0_l_shape_3 cy a) s.heap := hP
  have hl := lv_entry ([.ref (a 0), .int 3, .ref (a 1)]) (n := 4) (Nat.le_of_ble_eq_true rfl)
  rw [lg_entry_eq]
  generalize (lg_sl ([.ref (a 0), .int 3, .ref (a 1)]) ++ List.replicate (4 - (lg_sl ([.ref (a 0), .int 3, .ref (a 1)])).length) Slot.unset).toArray = ls at hl ⊢
  have hl : lv_has ls 4 [(0, .ref (a 0)), (1, .int 3), (2, .ref (a 1))] := hl
  have hP : va_P (dC, dI) nCl [((a 0), .inr (10, [.ref (a 2), .ref (a 3), .ref (a 4), .ref (a 5), .ref (a 6), .ref (a 7), .ref (a 8), .ref (a 9), .ref (a 10), .ref (a 11), .int 0, .int 0, .int 0, .int 0, .ref (a 12), .ref (a 13), .ref (a 14), .int 0, .int 0, .int 0])), ((a 1), .inl (cy 2, 1, .inr (.inl (fun _ => 0))))] s.heap := hP
  have hD : va_D A [((a 0), .inr (10, [.ref (a 2), .ref (a 3), .ref (a 4), .ref (a 5), .ref (a 6), .ref (a 7), .ref (a 8), .ref (a 9), .ref (a 10), .ref (a 11), .int 0, .int 0, .int 0, .int 0, .ref (a 12), .ref (a 13), .ref (a 14), .int 0, .int 0, .int 0])), ((a 1), .inl (cy 2, 1, .inr (.inl (fun _ => 0))))] := hD
  refine lv_aload_n hx hb dL_shape_0 rfl (lv_at hl 2 rfl) ?_
  refine lv_iconst (v := 0) hx hb dL_shape_1 (by decide) ?_
  refine lv_aload_n hx hb dL_shape_2 rfl (lv_at hl 0 rfl) ?_
  refine lv_iload_n hx hb dL_shape_3 rfl (lv_at hl 1 rfl) ?_
  have hPc := hP.sub (ws' := [((a 0), .inr (10, [.ref (a 2), .ref (a 3), .ref (a 4), .ref (a 5), .ref (a 6), .ref (a 7), .ref (a 8), .ref (a 9), .ref (a 10), .ref (a 11), .int 0, .int 0, .int 0, .int 0, .ref (a 12), .ref (a 13), .ref (a 14), .int 0, .int 0, .int 0]))]) [0] rfl
  have hPc : va_P (dC, dI) nCl (v0_k_X11_shape_3 cy (fun j9 => [(a 0), (a 2), (a 3), (a 4), (a 5), (a 6), (a 7), (a 8), (a 9), (a 10), (a 11), (a 12), (a 13), (a 14)].getD j9 0)) s.heap := hPc
  have hDc := hD.sub (ws' := [((a 0), .inr (10, [.ref (a 2), .ref (a 3), .ref (a 4), .ref (a 5), .ref (a 6), .ref (a 7), .ref (a 8), .ref (a 9), .ref (a 10), .ref (a 11), .int 0, .int 0, .int 0, .int 0, .ref (a 12), .ref (a 13), .ref (a 14), .int 0, .int 0, .int 0]))]) [0] (by decide) rfl
  have hDc : va_D A (v0_k_X11_shape_3 cy (fun j9 => [(a 0), (a 2), (a 3), (a 4), (a 5), (a 6), (a 7), (a 8), (a 9), (a 10), (a 11), (a 12), (a 13), (a 14)].getD j9 0)) := hDc
  have hFc := va_free (wc := (v0_k_X11_shape_3 cy (fun j9 => [(a 0), (a 2), (a 3), (a 4), (a 5), (a 6), (a 7), (a 8), (a 9), (a 10), (a 11), (a 12), (a 13), (a 14)].getD j9 0))) hD hS hA [0] rfl
  refine va_calli (va_runV (As := [.int 3]) (rest := [.int 0, .ref (a 1)]) ⟨hx, hb, hml, hown, hts⟩ (k_X11_shape_3 l dC dI cy k (fun j9 => [(a 0), (a 2), (a 3), (a 4), (a 5), (a 6), (a 7), (a 8), (a 9), (a 10), (a 11), (a 12), (a 13), (a 14)].getD j9 0) s.heap.size) (cwV 1 hts g_l_shape_3_62_k_X11_shape_3 rfl rfl rfl (by decide +kernel) ⟨Nat.le_of_ble_eq_true rfl, Nat.le_of_ble_eq_true rfl⟩) ⟨nb_blindE, va_recv hK hPc (ci := 10) (q0 := 0) rfl rfl, fun U hU hW => ⟨rfl, ⟨by rw [hU], by rw [hU]; exact hPc, va_K.moved hW.alike hK, hDc.weaken (fun _ _ _ _ => trivial), hG.warm hW⟩, nE.to hE hS hW hU hFc⟩⟩ rfl rfl hl.1 rfl (lv_room (Nat.le_of_ble_eq_true rfl)) dL_shape_4 ⟨Nat.le_of_ble_eq_true rfl, Nat.le_of_ble_eq_true rfl⟩) hS (fun q _ h => hFc q h) hFc (fun r_1 u1 t H1 locs ht hvm hw hB hz1 hk1 hS => ?_)
  subst hw
  obtain ⟨hP1, hK1, hD1⟩ := hB
  rw [ht] at hP1
  obtain ⟨hP, hD⟩ := va_join (wr := [((a 1), .inl (cy 2, 1, .inr (.inl (fun _ => 0))))]) (w1 := v1_k_X11_shape_3 cy (fun j9 => [(a 0), (a 2), (a 3), (a 4), (a 5), (a 6), (a 7), (a 8), (a 9), (a 10), (a 11), (a 12), (a 13), (a 14)].getD j9 0) u1) hP hD [0] [1] rfl rfl (by decide) (by decide) hk1 hFc hP1 hD1
  generalize H1 = H at hP hS ⊢
  have hP : va_P (dC, dI) nCl [((a 1), .inl (cy 2, 1, .inr (.inl (fun _ => 0))))] H := hP
  have hD : va_D A [((a 1), .inl (cy 2, 1, .inr (.inl (fun _ => 0))))] := hD
  refine lv_i2l (v := 0) hx hb dL_shape_7 (by decide) ?_
  refine va_last hx hb hK hP hD hS 0 2 rfl rfl (nb_in (by decide)) dL_shape_8 (fun H locs hP hD hS => ?_)
  have hP : va_P (dC, dI) nCl [((a 1), .inl (cy 2, 1, .inr (.inl (vp_updL (fun _ => 0) 0 0))))] H := hP
  have hD : va_D A [((a 1), .inl (cy 2, 1, .inr (.inl (vp_updL (fun _ => 0) 0 0))))] := hD
  refine lv_goto (tgt := 15) hx hb dL_shape_9 (by decide) ?_
  refine lv_iconst (v := 0) hx hb dL_shape_15 (by decide) ?_
  have hP := hP.sub (ws' := [((a 1), .inl (cy 2, 1, .inr (.inl (vp_updL (fun _ => 0) 0 0))))]) [0] rfl
  have hD := hD.sub (ws' := [((a 1), .inl (cy 2, 1, .inr (.inl (vp_updL (fun _ => 0) 0 0))))]) [0] (by decide) rfl
  have hP : va_P (dC, dI) nCl (v1_l_shape_3 cy a (fun _ => 0)) H := hP
  have hD : va_D A (v1_l_shape_3 cy a (fun _ => 0)) := hD
  exact W.iret (v := 0) hx hb hr (fun t ht hW => ⟨⟨0, (fun _ => 0), rfl, rfl, by rw [ht]; exact hP, va_K.moved hW.alike hK, hD⟩, hS.F ht⟩) hS.2.2 dL_shape_16
def o_l_count_0 : List Cond := [.methodLink RL 65 yX11_count, .instanceMethod yX11_count, .selects RX11 yX11_count yX11_count, .initialized RX11]
theorem o_l_count_0_good : o_l_count_0.all goodWord = true := by decide +kernel
def p_l_count_0 : List Cond := o_l_count_0 ++ ((.code yX11_count cX11_count 2 (some .int) :: p_k_X11_count_0) ++ [])
theorem p_l_count_0_good : p_l_count_0.all goodWord = true := nb_all2 o_l_count_0_good (nb_all2 (nb_allc (by decide +kernel) p_k_X11_count_0_good) rfl)
def w_l_count_0 : List Cond := .codeWith yL_count cL_count 4 (some .int) [(0, 9, 12, 37)] :: (p_l_count_0 ++ fC)
theorem w_l_count_0_good : w_l_count_0.all goodWord = true := nb_allc (by decide +kernel) (nb_all2 p_l_count_0_good fC_good)
theorem gg_l_count_0_k_X11_count_0 : GoodIn w_l_count_0 w_k_X11_count_0 := goodIn_sub (fun w h => (List.mem_cons.mp h).elim (fun e => (List.mem_cons_of_mem _ (List.mem_append_left _ (List.mem_append_right _ (List.mem_append_left _ (List.mem_cons.mpr (Or.inl e))))))) (fun h => (List.mem_append.mp h).elim (fun h => (List.mem_cons_of_mem _ (List.mem_append_left _ (List.mem_append_right _ (List.mem_append_left _ (List.mem_cons_of_mem _ h)))))) (fun h => List.mem_cons_of_mem _ (List.mem_append_right _ h)))) w_k_X11_count_0_good
theorem g_l_count_0_65_k_X11_count_0 : GoodIn w_l_count_0 (wsV RL 65 RX11 yX11_count w_k_X11_count_0) := goodIn_app (nb_g4 (List.mem_cons_of_mem _ (List.mem_append_left _ (List.mem_append_left _ (List.mem_of_getElem? (i := 0) rfl)))) (List.mem_cons_of_mem _ (List.mem_append_left _ (List.mem_append_left _ (List.mem_of_getElem? (i := 1) rfl)))) (List.mem_cons_of_mem _ (List.mem_append_left _ (List.mem_append_left _ (List.mem_of_getElem? (i := 2) rfl)))) (List.mem_cons_of_mem _ (List.mem_append_left _ (List.mem_append_left _ (List.mem_of_getElem? (i := 3) rfl)))) (by decide +kernel)) gg_l_count_0_k_X11_count_0
def v0_l_count_0 (cy : Nat → ClassId) (a : Nat → Nat) : va_W := [((a 0), .inr (10, [.ref (a 3), .ref (a 4), .ref (a 5), .ref (a 6), .ref (a 7), .ref (a 8), .ref (a 2), .ref (a 9), .ref (a 10), .ref (a 11), .int 0, .int 0, .int 0, .int 0, .ref (a 12), .ref (a 13), .ref (a 14), .int 0, .int 0, .int 0])), ((a 2), .inr (2, [.ref (a 15), .int 0, .int 0, .int 0, .int 0, .long 0, .long 0, .ref (a 16)])), ((a 1), .inl (cy 2, 1, .inr (.inl (fun _ => 0))))]
def v1_l_count_0 (cy : Nat → ClassId) (a : Nat → Nat) (r : Nat → Nat) : va_W := [((a 1), .inl (cy 2, 1, .inr (.inl (vp_updL (fun _ => 0) 0 0))))]
set_option maxHeartbeats 40000000 in
set_option maxRecDepth 100000 in
/-- count(..) of the law on a new object: it answers -/
theorem l_count_0 (l : Launch) (dC : Nat → ClassId) (dI : Nat → Nat → Nat) (cy : Nat → ClassId) (k : Nat → Nat) (a : Nat → Nat) (sz : Nat) : Met l yL_count w_l_count_0 ({ frames := 1, cells := 0, slots := 0, locals := 21 }) (va_Pc [.ref (a 0), .int 0, .ref (a 1)] (nInE (dC, dI) cy k sz (v0_l_count_0 cy a))) (va_Qi (fun (z : Int32) (_ : Nat → Nat) => z = 0) (fun r t => nOut (dC, dI) cy (va_A (v0_l_count_0 cy a) sz) (v1_l_count_0 cy a r) t) (va_A (v0_l_count_0 cy a) sz)) 0 0 (va_A (v0_l_count_0 cy a) sz) := by
  refine nb_ofWH (cc := cL_count) (maxL := 4) (ret := (some .int)) (by decide) rfl ?_
  intro p e s m args below meth c s₁ B hml hv
  obtain ⟨rfl, ⟨hsz, hP, hK, hD0, hG⟩, hE⟩ := hv
  have hx := B.exec
  have hb := B.bytes
  have hr := B.returns
  have hts := atoms_spec (ws := w_l_count_0) B.pre
  have hown : s.vm.findClass RL = some m.cls := findClass_of_methodNamed B.named
  have hlocks := B.notSynchronized
  subst hsz
  have hD := hD0.self (sz := s.heap.size)
  generalize hAe : va_A (v0_l_count_0 cy a) s.heap.size = A at hD hE ⊢
  have hA : ∀ q : Nat, s.heap.size ≤ q → A q := fun q h => by rw [← hAe]; exact Or.inr h
  have hS : va_S A s.heap s.heap [] := va_S.rf
  have hP : va_P (dC, dI) nCl (v0_l_count_0 cy a) s.heap := hP
  have hl := lv_entry ([.ref (a 0), .int 0, .ref (a 1)]) (n := 4) (Nat.le_of_ble_eq_true rfl)
  rw [lg_entry_eq]
  generalize (lg_sl ([.ref (a 0), .int 0, .ref (a 1)]) ++ List.replicate (4 - (lg_sl ([.ref (a 0), .int 0, .ref (a 1)])).length) Slot.unset).toArray = ls at hl ⊢
  have hl : lv_has ls 4 [(0, .ref (a 0)), (1, .int 0), (2, .ref (a 1))] := hl
  have hP : va_P (dC, dI) nCl [((a 0), .inr (10, [.ref (a 3), .ref (a 4), .ref (a 5), .ref (a 6), .ref (a 7), .ref (a 8), .ref (a 2), .ref (a 9), .ref (a 10), .ref (a 11), .int 0, .int 0, .int 0, .int 0, .ref (a 12), .ref (a 13), .ref (a 14), .int 0, .int 0, .int 0])), ((a 2), .inr (2, [.ref (a 15), .int 0, .int 0, .int 0, .int 0, .long 0, .long 0, .ref (a 16)])), ((a 1), .inl (cy 2, 1, .inr (.inl (fun _ => 0))))] s.heap := hP
  have hD : va_D A [((a 0), .inr (10, [.ref (a 3), .ref (a 4), .ref (a 5), .ref (a 6), .ref (a 7), .ref (a 8), .ref (a 2), .ref (a 9), .ref (a 10), .ref (a 11), .int 0, .int 0, .int 0, .int 0, .ref (a 12), .ref (a 13), .ref (a 14), .int 0, .int 0, .int 0])), ((a 2), .inr (2, [.ref (a 15), .int 0, .int 0, .int 0, .int 0, .long 0, .long 0, .ref (a 16)])), ((a 1), .inl (cy 2, 1, .inr (.inl (fun _ => 0))))] := hD
  refine lv_aload_n hx hb dL_count_0 rfl (lv_at hl 2 rfl) ?_
  refine lv_iconst (v := 0) hx hb dL_count_1 (by decide) ?_
  refine lv_aload_n hx hb dL_count_2 rfl (lv_at hl 0 rfl) ?_
  refine lv_iload_n hx hb dL_count_3 rfl (lv_at hl 1 rfl) ?_
  have hPc := hP.sub (ws' := [((a 0), .inr (10, [.ref (a 3), .ref (a 4), .ref (a 5), .ref (a 6), .ref (a 7), .ref (a 8), .ref (a 2), .ref (a 9), .ref (a 10), .ref (a 11), .int 0, .int 0, .int 0, .int 0, .ref (a 12), .ref (a 13), .ref (a 14), .int 0, .int 0, .int 0])), ((a 2), .inr (2, [.ref (a 15), .int 0, .int 0, .int 0, .int 0, .long 0, .long 0, .ref (a 16)]))]) [0, 1] rfl
  have hPc : va_P (dC, dI) nCl (v0_k_X11_count_0 cy (fun j9 => [(a 0), (a 2), (a 3), (a 4), (a 5), (a 6), (a 7), (a 8), (a 9), (a 10), (a 11), (a 12), (a 13), (a 14), (a 15), (a 16)].getD j9 0)) s.heap := hPc
  have hDc := hD.sub (ws' := [((a 0), .inr (10, [.ref (a 3), .ref (a 4), .ref (a 5), .ref (a 6), .ref (a 7), .ref (a 8), .ref (a 2), .ref (a 9), .ref (a 10), .ref (a 11), .int 0, .int 0, .int 0, .int 0, .ref (a 12), .ref (a 13), .ref (a 14), .int 0, .int 0, .int 0])), ((a 2), .inr (2, [.ref (a 15), .int 0, .int 0, .int 0, .int 0, .long 0, .long 0, .ref (a 16)]))]) [0, 1] (by decide) rfl
  have hDc : va_D A (v0_k_X11_count_0 cy (fun j9 => [(a 0), (a 2), (a 3), (a 4), (a 5), (a 6), (a 7), (a 8), (a 9), (a 10), (a 11), (a 12), (a 13), (a 14), (a 15), (a 16)].getD j9 0)) := hDc
  have hFc := va_free (wc := (v0_k_X11_count_0 cy (fun j9 => [(a 0), (a 2), (a 3), (a 4), (a 5), (a 6), (a 7), (a 8), (a 9), (a 10), (a 11), (a 12), (a 13), (a 14), (a 15), (a 16)].getD j9 0))) hD hS hA [0, 1] rfl
  refine va_calli (va_runV (As := [.int 0]) (rest := [.int 0, .ref (a 1)]) ⟨hx, hb, hml, hown, hts⟩ (k_X11_count_0 l dC dI cy k (fun j9 => [(a 0), (a 2), (a 3), (a 4), (a 5), (a 6), (a 7), (a 8), (a 9), (a 10), (a 11), (a 12), (a 13), (a 14), (a 15), (a 16)].getD j9 0) s.heap.size) (cwV 1 hts g_l_count_0_65_k_X11_count_0 rfl rfl rfl (by decide +kernel) ⟨Nat.le_of_ble_eq_true rfl, Nat.le_of_ble_eq_true rfl⟩) ⟨nb_blindE, va_recv hK hPc (ci := 10) (q0 := 0) rfl rfl, fun U hU hW => ⟨rfl, ⟨by rw [hU], by rw [hU]; exact hPc, va_K.moved hW.alike hK, hDc.weaken (fun _ _ _ _ => trivial), hG.warm hW⟩, nE.to hE hS hW hU hFc⟩⟩ rfl rfl hl.1 rfl (lv_room (Nat.le_of_ble_eq_true rfl)) dL_count_4 ⟨Nat.le_of_ble_eq_true rfl, Nat.le_of_ble_eq_true rfl⟩) hS (fun q _ h => hFc q h) hFc (fun r_1 u1 t H1 locs ht hvm hw hB hz1 hk1 hS => ?_)
  subst hw
  obtain ⟨hP1, hK1, hD1⟩ := hB
  rw [ht] at hP1
  obtain ⟨hP, hD⟩ := va_join (wr := [((a 1), .inl (cy 2, 1, .inr (.inl (fun _ => 0))))]) (w1 := v1_k_X11_count_0 cy (fun j9 => [(a 0), (a 2), (a 3), (a 4), (a 5), (a 6), (a 7), (a 8), (a 9), (a 10), (a 11), (a 12), (a 13), (a 14), (a 15), (a 16)].getD j9 0) u1) hP hD [0, 1] [2] rfl rfl (by decide) (by decide) hk1 hFc hP1 hD1
  generalize H1 = H at hP hS ⊢
  have hP : va_P (dC, dI) nCl [((a 1), .inl (cy 2, 1, .inr (.inl (fun _ => 0))))] H := hP
  have hD : va_D A [((a 1), .inl (cy 2, 1, .inr (.inl (fun _ => 0))))] := hD
  refine lv_i2l (v := 0) hx hb dL_count_7 (by decide) ?_
  refine va_last hx hb hK hP hD hS 0 2 rfl rfl (nb_in (by decide)) dL_count_8 (fun H locs hP hD hS => ?_)
  have hP : va_P (dC, dI) nCl [((a 1), .inl (cy 2, 1, .inr (.inl (vp_updL (fun _ => 0) 0 0))))] H := hP
  have hD : va_D A [((a 1), .inl (cy 2, 1, .inr (.inl (vp_updL (fun _ => 0) 0 0))))] := hD
  refine lv_goto (tgt := 15) hx hb dL_count_9 (by decide) ?_
  refine lv_iconst (v := 0) hx hb dL_count_15 (by decide) ?_
  have hP := hP.sub (ws' := [((a 1), .inl (cy 2, 1, .inr (.inl (vp_updL (fun _ => 0) 0 0))))]) [0] rfl
  have hD := hD.sub (ws' := [((a 1), .inl (cy 2, 1, .inr (.inl (vp_updL (fun _ => 0) 0 0))))]) [0] (by decide) rfl
  have hP : va_P (dC, dI) nCl (v1_l_count_0 cy a (fun _ => 0)) H := hP
  have hD : va_D A (v1_l_count_0 cy a (fun _ => 0)) := hD
  exact W.iret (v := 0) hx hb hr (fun t ht hW => ⟨⟨0, (fun _ => 0), rfl, rfl, by rw [ht]; exact hP, va_K.moved hW.alike hK, hD⟩, hS.F ht⟩) hS.2.2 dL_count_16
def o_l_count_1 : List Cond := [.methodLink RL 65 yX11_count, .instanceMethod yX11_count, .selects RX11 yX11_count yX11_count, .initialized RX11]
theorem o_l_count_1_good : o_l_count_1.all goodWord = true := by decide +kernel
def p_l_count_1 : List Cond := o_l_count_1 ++ ((.code yX11_count cX11_count 2 (some .int) :: p_k_X11_count_1) ++ [])
theorem p_l_count_1_good : p_l_count_1.all goodWord = true := nb_all2 o_l_count_1_good (nb_all2 (nb_allc (by decide +kernel) p_k_X11_count_1_good) rfl)
def w_l_count_1 : List Cond := .codeWith yL_count cL_count 4 (some .int) [(0, 9, 12, 37)] :: (p_l_count_1 ++ fC)
theorem w_l_count_1_good : w_l_count_1.all goodWord = true := nb_allc (by decide +kernel) (nb_all2 p_l_count_1_good fC_good)
theorem gg_l_count_1_k_X11_count_1 : GoodIn w_l_count_1 w_k_X11_count_1 := goodIn_sub (fun w h => (List.mem_cons.mp h).elim (fun e => (List.mem_cons_of_mem _ (List.mem_append_left _ (List.mem_append_right _ (List.mem_append_left _ (List.mem_cons.mpr (Or.inl e))))))) (fun h => (List.mem_append.mp h).elim (fun h => (List.mem_cons_of_mem _ (List.mem_append_left _ (List.mem_append_right _ (List.mem_append_left _ (List.mem_cons_of_mem _ h)))))) (fun h => List.mem_cons_of_mem _ (List.mem_append_right _ h)))) w_k_X11_count_1_good
theorem g_l_count_1_65_k_X11_count_1 : GoodIn w_l_count_1 (wsV RL 65 RX11 yX11_count w_k_X11_count_1) := goodIn_app (nb_g4 (List.mem_cons_of_mem _ (List.mem_append_left _ (List.mem_append_left _ (List.mem_of_getElem? (i := 0) rfl)))) (List.mem_cons_of_mem _ (List.mem_append_left _ (List.mem_append_left _ (List.mem_of_getElem? (i := 1) rfl)))) (List.mem_cons_of_mem _ (List.mem_append_left _ (List.mem_append_left _ (List.mem_of_getElem? (i := 2) rfl)))) (List.mem_cons_of_mem _ (List.mem_append_left _ (List.mem_append_left _ (List.mem_of_getElem? (i := 3) rfl)))) (by decide +kernel)) gg_l_count_1_k_X11_count_1
def v0_l_count_1 (cy : Nat → ClassId) (a : Nat → Nat) : va_W := [((a 0), .inr (10, [.ref (a 3), .ref (a 4), .ref (a 5), .ref (a 6), .ref (a 7), .ref (a 8), .ref (a 9), .ref (a 10), .ref (a 2), .ref (a 11), .int 0, .int 0, .int 0, .int 0, .ref (a 12), .ref (a 13), .ref (a 14), .int 0, .int 0, .int 0])), ((a 2), .inr (6, [.ref (a 15), .int 0, .int 0, .int 0, .int 0, .ref (a 16), .ref (a 17), .ref (a 18), .ref (a 19), .ref (a 20), .ref (a 21), .int 0, .int 0, .ref (a 22), .ref (a 23), .ref (a 24), .ref (a 25), .ref (a 26), .ref (a 27), .int 0])), ((a 1), .inl (cy 2, 1, .inr (.inl (fun _ => 0))))]
def v1_l_count_1 (cy : Nat → ClassId) (a : Nat → Nat) (r : Nat → Nat) : va_W := [((a 1), .inl (cy 2, 1, .inr (.inl (vp_updL (fun _ => 0) 0 0))))]
set_option maxHeartbeats 40000000 in
set_option maxRecDepth 100000 in
/-- count(..) of the law on a new object: it answers -/
theorem l_count_1 (l : Launch) (dC : Nat → ClassId) (dI : Nat → Nat → Nat) (cy : Nat → ClassId) (k : Nat → Nat) (a : Nat → Nat) (sz : Nat) : Met l yL_count w_l_count_1 ({ frames := 1, cells := 0, slots := 0, locals := 21 }) (va_Pc [.ref (a 0), .int 1, .ref (a 1)] (nInE (dC, dI) cy k sz (v0_l_count_1 cy a))) (va_Qi (fun (z : Int32) (_ : Nat → Nat) => z = 0) (fun r t => nOut (dC, dI) cy (va_A (v0_l_count_1 cy a) sz) (v1_l_count_1 cy a r) t) (va_A (v0_l_count_1 cy a) sz)) 0 0 (va_A (v0_l_count_1 cy a) sz) := by
  refine nb_ofWH (cc := cL_count) (maxL := 4) (ret := (some .int)) (by decide) rfl ?_
  intro p e s m args below meth c s₁ B hml hv
  obtain ⟨rfl, ⟨hsz, hP, hK, hD0, hG⟩, hE⟩ := hv
  have hx := B.exec
  have hb := B.bytes
  have hr := B.returns
  have hts := atoms_spec (ws := w_l_count_1) B.pre
  have hown : s.vm.findClass RL = some m.cls := findClass_of_methodNamed B.named
  have hlocks := B.notSynchronized
  subst hsz
  have hD := hD0.self (sz := s.heap.size)
  generalize hAe : va_A (v0_l_count_1 cy a) s.heap.size = A at hD hE ⊢
  have hA : ∀ q : Nat, s.heap.size ≤ q → A q := fun q h => by rw [← hAe]; exact Or.inr h
  have hS : va_S A s.heap s.heap [] := va_S.rf
  have hP : va_P (dC, dI) nCl (v0_l_count_1 cy a) s.heap := hP
  have hl := lv_entry ([.ref (a 0), .int 1, .ref (a 1)]) (n := 4) (Nat.le_of_ble_eq_true rfl)
  rw [lg_entry_eq]
  generalize (lg_sl ([.ref (a 0), .int 1, .ref (a 1)]) ++ List.replicate (4 - (lg_sl ([.ref (a 0), .int 1, .ref (a 1)])).length) Slot.unset).toArray = ls at hl ⊢
  have hl : lv_has ls 4 [(0, .ref (a 0)), (1, .int 1), (2, .ref (a 1))] := hl
  have hP : va_P (dC, dI) nCl [((a 0), .inr (10, [.ref (a 3), .ref (a 4), .ref (a 5), .ref (a 6), .ref (a 7), .ref (a 8), .ref (a 9), .ref (a 10), .ref (a 2), .ref (a 11), .int 0, .int 0, .int 0, .int 0, .ref (a 12), .ref (a 13), .ref (a 14), .int 0, .int 0, .int 0])), ((a 2), .inr (6, [.ref (a 15), .int 0, .int 0, .int 0, .int 0, .ref (a 16), .ref (a 17), .ref (a 18), .ref (a 19), .ref (a 20), .ref (a 21), .int 0, .int 0, .ref (a 22), .ref (a 23), .ref (a 24), .ref (a 25), .ref (a 26), .ref (a 27), .int 0])), ((a 1), .inl (cy 2, 1, .inr (.inl (fun _ => 0))))] s.heap := hP
  have hD : va_D A [((a 0), .inr (10, [.ref (a 3), .ref (a 4), .ref (a 5), .ref (a 6), .ref (a 7), .ref (a 8), .ref (a 9), .ref (a 10), .ref (a 2), .ref (a 11), .int 0, .int 0, .int 0, .int 0, .ref (a 12), .ref (a 13), .ref (a 14), .int 0, .int 0, .int 0])), ((a 2), .inr (6, [.ref (a 15), .int 0, .int 0, .int 0, .int 0, .ref (a 16), .ref (a 17), .ref (a 18), .ref (a 19), .ref (a 20), .ref (a 21), .int 0, .int 0, .ref (a 22), .ref (a 23), .ref (a 24), .ref (a 25), .ref (a 26), .ref (a 27), .int 0])), ((a 1), .inl (cy 2, 1, .inr (.inl (fun _ => 0))))] := hD
  refine lv_aload_n hx hb dL_count_0 rfl (lv_at hl 2 rfl) ?_
  refine lv_iconst (v := 0) hx hb dL_count_1 (by decide) ?_
  refine lv_aload_n hx hb dL_count_2 rfl (lv_at hl 0 rfl) ?_
  refine lv_iload_n hx hb dL_count_3 rfl (lv_at hl 1 rfl) ?_
  have hPc := hP.sub (ws' := [((a 0), .inr (10, [.ref (a 3), .ref (a 4), .ref (a 5), .ref (a 6), .ref (a 7), .ref (a 8), .ref (a 9), .ref (a 10), .ref (a 2), .ref (a 11), .int 0, .int 0, .int 0, .int 0, .ref (a 12), .ref (a 13), .ref (a 14), .int 0, .int 0, .int 0])), ((a 2), .inr (6, [.ref (a 15), .int 0, .int 0, .int 0, .int 0, .ref (a 16), .ref (a 17), .ref (a 18), .ref (a 19), .ref (a 20), .ref (a 21), .int 0, .int 0, .ref (a 22), .ref (a 23), .ref (a 24), .ref (a 25), .ref (a 26), .ref (a 27), .int 0]))]) [0, 1] rfl
  have hPc : va_P (dC, dI) nCl (v0_k_X11_count_1 cy (fun j9 => [(a 0), (a 2), (a 3), (a 4), (a 5), (a 6), (a 7), (a 8), (a 9), (a 10), (a 11), (a 12), (a 13), (a 14), (a 15), (a 16), (a 17), (a 18), (a 19), (a 20), (a 21), (a 22), (a 23), (a 24), (a 25), (a 26), (a 27)].getD j9 0)) s.heap := hPc
  have hDc := hD.sub (ws' := [((a 0), .inr (10, [.ref (a 3), .ref (a 4), .ref (a 5), .ref (a 6), .ref (a 7), .ref (a 8), .ref (a 9), .ref (a 10), .ref (a 2), .ref (a 11), .int 0, .int 0, .int 0, .int 0, .ref (a 12), .ref (a 13), .ref (a 14), .int 0, .int 0, .int 0])), ((a 2), .inr (6, [.ref (a 15), .int 0, .int 0, .int 0, .int 0, .ref (a 16), .ref (a 17), .ref (a 18), .ref (a 19), .ref (a 20), .ref (a 21), .int 0, .int 0, .ref (a 22), .ref (a 23), .ref (a 24), .ref (a 25), .ref (a 26), .ref (a 27), .int 0]))]) [0, 1] (by decide) rfl
  have hDc : va_D A (v0_k_X11_count_1 cy (fun j9 => [(a 0), (a 2), (a 3), (a 4), (a 5), (a 6), (a 7), (a 8), (a 9), (a 10), (a 11), (a 12), (a 13), (a 14), (a 15), (a 16), (a 17), (a 18), (a 19), (a 20), (a 21), (a 22), (a 23), (a 24), (a 25), (a 26), (a 27)].getD j9 0)) := hDc
  have hFc := va_free (wc := (v0_k_X11_count_1 cy (fun j9 => [(a 0), (a 2), (a 3), (a 4), (a 5), (a 6), (a 7), (a 8), (a 9), (a 10), (a 11), (a 12), (a 13), (a 14), (a 15), (a 16), (a 17), (a 18), (a 19), (a 20), (a 21), (a 22), (a 23), (a 24), (a 25), (a 26), (a 27)].getD j9 0))) hD hS hA [0, 1] rfl
  refine va_calli (va_runV (As := [.int 1]) (rest := [.int 0, .ref (a 1)]) ⟨hx, hb, hml, hown, hts⟩ (k_X11_count_1 l dC dI cy k (fun j9 => [(a 0), (a 2), (a 3), (a 4), (a 5), (a 6), (a 7), (a 8), (a 9), (a 10), (a 11), (a 12), (a 13), (a 14), (a 15), (a 16), (a 17), (a 18), (a 19), (a 20), (a 21), (a 22), (a 23), (a 24), (a 25), (a 26), (a 27)].getD j9 0) s.heap.size) (cwV 1 hts g_l_count_1_65_k_X11_count_1 rfl rfl rfl (by decide +kernel) ⟨Nat.le_of_ble_eq_true rfl, Nat.le_of_ble_eq_true rfl⟩) ⟨nb_blindE, va_recv hK hPc (ci := 10) (q0 := 0) rfl rfl, fun U hU hW => ⟨rfl, ⟨by rw [hU], by rw [hU]; exact hPc, va_K.moved hW.alike hK, hDc.weaken (fun _ _ _ _ => trivial), hG.warm hW⟩, nE.to hE hS hW hU hFc⟩⟩ rfl rfl hl.1 rfl (lv_room (Nat.le_of_ble_eq_true rfl)) dL_count_4 ⟨Nat.le_of_ble_eq_true rfl, Nat.le_of_ble_eq_true rfl⟩) hS (fun q _ h => hFc q h) hFc (fun r_1 u1 t H1 locs ht hvm hw hB hz1 hk1 hS => ?_)
  subst hw
  obtain ⟨hP1, hK1, hD1⟩ := hB
  rw [ht] at hP1
  obtain ⟨hP, hD⟩ := va_join (wr := [((a 1), .inl (cy 2, 1, .inr (.inl (fun _ => 0))))]) (w1 := v1_k_X11_count_1 cy (fun j9 => [(a 0), (a 2), (a 3), (a 4), (a 5), (a 6), (a 7), (a 8), (a 9), (a 10), (a 11), (a 12), (a 13), (a 14), (a 15), (a 16), (a 17), (a 18), (a 19), (a 20), (a 21), (a 22), (a 23), (a 24), (a 25), (a 26), (a 27)].getD j9 0) u1) hP hD [0, 1] [2] rfl rfl (by decide) (by decide) hk1 hFc hP1 hD1
  generalize H1 = H at hP hS ⊢
  have hP : va_P (dC, dI) nCl [((a 1), .inl (cy 2, 1, .inr (.inl (fun _ => 0))))] H := hP
  have hD : va_D A [((a 1), .inl (cy 2, 1, .inr (.inl (fun _ => 0))))] := hD
  refine lv_i2l (v := 0) hx hb dL_count_7 (by decide) ?_
  refine va_last hx hb hK hP hD hS 0 2 rfl rfl (nb_in (by decide)) dL_count_8 (fun H locs hP hD hS => ?_)
  have hP : va_P (dC, dI) nCl [((a 1), .inl (cy 2, 1, .inr (.inl (vp_updL (fun _ => 0) 0 0))))] H := hP
  have hD : va_D A [((a 1), .inl (cy 2, 1, .inr (.inl (vp_updL (fun _ => 0) 0 0))))] := hD
  refine lv_goto (tgt := 15) hx hb dL_count_9 (by decide) ?_
  refine lv_iconst (v := 0) hx hb dL_count_15 (by decide) ?_
  have hP := hP.sub (ws' := [((a 1), .inl (cy 2, 1, .inr (.inl (vp_updL (fun _ => 0) 0 0))))]) [0] rfl
  have hD := hD.sub (ws' := [((a 1), .inl (cy 2, 1, .inr (.inl (vp_updL (fun _ => 0) 0 0))))]) [0] (by decide) rfl
  have hP : va_P (dC, dI) nCl (v1_l_count_1 cy a (fun _ => 0)) H := hP
  have hD : va_D A (v1_l_count_1 cy a (fun _ => 0)) := hD
  exact W.iret (v := 0) hx hb hr (fun t ht hW => ⟨⟨0, (fun _ => 0), rfl, rfl, by rw [ht]; exact hP, va_K.moved hW.alike hK, hD⟩, hS.F ht⟩) hS.2.2 dL_count_16
def o_l_count_2 : List Cond := [.methodLink RL 65 yX11_count, .instanceMethod yX11_count, .selects RX11 yX11_count yX11_count, .initialized RX11]
theorem o_l_count_2_good : o_l_count_2.all goodWord = true := by decide +kernel
def p_l_count_2 : List Cond := o_l_count_2 ++ ((.code yX11_count cX11_count 2 (some .int) :: p_k_X11_count_2) ++ [])
theorem p_l_count_2_good : p_l_count_2.all goodWord = true := nb_all2 o_l_count_2_good (nb_all2 (nb_allc (by decide +kernel) p_k_X11_count_2_good) rfl)
def w_l_count_2 : List Cond := .codeWith yL_count cL_count 4 (some .int) [(0, 9, 12, 37)] :: (p_l_count_2 ++ fC)
theorem w_l_count_2_good : w_l_count_2.all goodWord = true := nb_allc (by decide +kernel) (nb_all2 p_l_count_2_good fC_good)
theorem gg_l_count_2_k_X11_count_2 : GoodIn w_l_count_2 w_k_X11_count_2 := goodIn_sub (fun w h => (List.mem_cons.mp h).elim (fun e => (List.mem_cons_of_mem _ (List.mem_append_left _ (List.mem_append_right _ (List.mem_append_left _ (List.mem_cons.mpr (Or.inl e))))))) (fun h => (List.mem_append.mp h).elim (fun h => (List.mem_cons_of_mem _ (List.mem_append_left _ (List.mem_append_right _ (List.mem_append_left _ (List.mem_cons_of_mem _ h)))))) (fun h => List.mem_cons_of_mem _ (List.mem_append_right _ h)))) w_k_X11_count_2_good
theorem g_l_count_2_65_k_X11_count_2 : GoodIn w_l_count_2 (wsV RL 65 RX11 yX11_count w_k_X11_count_2) := goodIn_app (nb_g4 (List.mem_cons_of_mem _ (List.mem_append_left _ (List.mem_append_left _ (List.mem_of_getElem? (i := 0) rfl)))) (List.mem_cons_of_mem _ (List.mem_append_left _ (List.mem_append_left _ (List.mem_of_getElem? (i := 1) rfl)))) (List.mem_cons_of_mem _ (List.mem_append_left _ (List.mem_append_left _ (List.mem_of_getElem? (i := 2) rfl)))) (List.mem_cons_of_mem _ (List.mem_append_left _ (List.mem_append_left _ (List.mem_of_getElem? (i := 3) rfl)))) (by decide +kernel)) gg_l_count_2_k_X11_count_2
def v0_l_count_2 (cy : Nat → ClassId) (a : Nat → Nat) : va_W := [((a 0), .inr (10, [.ref (a 4), .ref (a 5), .ref (a 6), .ref (a 7), .ref (a 8), .ref (a 9), .ref (a 10), .ref (a 11), .ref (a 2), .ref (a 12), .int 0, .int 0, .int 0, .int 0, .ref (a 13), .ref (a 14), .ref (a 15), .int 0, .int 0, .int 0])), ((a 2), .inr (6, [.ref (a 16), .int 0, .int 0, .int 0, .int 0, .ref (a 17), .ref (a 18), .ref (a 19), .ref (a 20), .ref (a 21), .ref (a 22), .int 0, .int 0, .ref (a 23), .ref (a 24), .ref (a 25), .ref (a 3), .ref (a 26), .ref (a 27), .int 0])), ((a 3), .inl (cy 1, 42, .inl nZ)), ((a 1), .inl (cy 2, 1, .inr (.inl (fun _ => 0))))]
def v1_l_count_2 (cy : Nat → ClassId) (a : Nat → Nat) (r : Nat → Nat) : va_W := [((a 1), .inl (cy 2, 1, .inr (.inl (vp_updL (fun _ => 0) 0 0))))]
set_option maxHeartbeats 40000000 in
set_option maxRecDepth 100000 in
/-- count(..) of the law on a new object: it answers -/
theorem l_count_2 (l : Launch) (dC : Nat → ClassId) (dI : Nat → Nat → Nat) (cy : Nat → ClassId) (k : Nat → Nat) (a : Nat → Nat) (sz : Nat) : Met l yL_count w_l_count_2 ({ frames := 1, cells := 0, slots := 0, locals := 21 }) (va_Pc [.ref (a 0), .int 2, .ref (a 1)] (nInE (dC, dI) cy k sz (v0_l_count_2 cy a))) (va_Qi (fun (z : Int32) (_ : Nat → Nat) => z = 0) (fun r t => nOut (dC, dI) cy (va_A (v0_l_count_2 cy a) sz) (v1_l_count_2 cy a r) t) (va_A (v0_l_count_2 cy a) sz)) 0 0 (va_A (v0_l_count_2 cy a) sz) := by
  refine nb_ofWH (cc := cL_count) (maxL := 4) (ret := (some .int)) (by decide) rfl ?_
  intro p e s m args below meth c s₁ B hml hv
  obtain ⟨rfl, ⟨hsz, hP, hK, hD0, hG⟩, hE⟩ := hv
  have hx := B.exec
  have hb := B.bytes
  have hr := B.returns
  have hts := atoms_spec (ws := w_l_count_2) B.pre
  have hown : s.vm.findClass RL = some m.cls := findClass_of_methodNamed B.named
  have hlocks := B.notSynchronized
  subst hsz
  have hD := hD0.self (sz := s.heap.size)
  generalize hAe : va_A (v0_l_count_2 cy a) s.heap.size = A at hD hE ⊢
  have hA : ∀ q : Nat, s.heap.size ≤ q → A q := fun q h => by rw [← hAe]; exact Or.inr h
  have hS : va_S A s.heap s.heap [] := va_S.rf
  have hP : va_P (dC, dI) nCl (v0_l_count_2 cy a) s.heap := hP
  have hl := lv_entry ([.ref (a 0), .int 2, .ref (a 1)]) (n := 4) (Nat.le_of_ble_eq_true rfl)
  rw [lg_entry_eq]
  generalize (lg_sl ([.ref (a 0), .int 2, .ref (a 1)]) ++ List.replicate (4 - (lg_sl ([.ref (a 0), .int 2, .ref (a 1)])).length) Slot.unset).toArray = ls at hl ⊢
  have hl : lv_has ls 4 [(0, .ref (a 0)), (1, .int 2), (2, .ref (a 1))] := hl
  have hP : va_P (dC, dI) nCl [((a 0), .inr (10, [.ref (a 4), .ref (a 5), .ref (a 6), .ref (a 7), .ref (a 8), .ref (a 9), .ref (a 10), .ref (a 11), .ref (a 2), .ref (a 12), .int 0, .int 0, .int 0, .int 0, .ref (a 13), .ref (a 14), .ref (a 15), .int 0, .int 0, .int 0])), ((a 2), .inr (6, [.ref (a 16), .int 0, .int 0, .int 0, .int 0, .ref (a 17), .ref (a 18), .ref (a 19), .ref (a 20), .ref (a 21), .ref (a 22), .int 0, .int 0, .ref (a 23), .ref (a 24), .ref (a 25), .ref (a 3), .ref (a 26), .ref (a 27), .int 0])), ((a 3), .inl (cy 1, 42, .inl nZ)), ((a 1), .inl (cy 2, 1, .inr (.inl (fun _ => 0))))] s.heap := hP
  have hD : va_D A [((a 0), .inr (10, [.ref (a 4), .ref (a 5), .ref (a 6), .ref (a 7), .ref (a 8), .ref (a 9), .ref (a 10), .ref (a 11), .ref (a 2), .ref (a 12), .int 0, .int 0, .int 0, .int 0, .ref (a 13), .ref (a 14), .ref (a 15), .int 0, .int 0, .int 0])), ((a 2), .inr (6, [.ref (a 16), .int 0, .int 0, .int 0, .int 0, .ref (a 17), .ref (a 18), .ref (a 19), .ref (a 20), .ref (a 21), .ref (a 22), .int 0, .int 0, .ref (a 23), .ref (a 24), .ref (a 25), .ref (a 3), .ref (a 26), .ref (a 27), .int 0])), ((a 3), .inl (cy 1, 42, .inl nZ)), ((a 1), .inl (cy 2, 1, .inr (.inl (fun _ => 0))))] := hD
  refine lv_aload_n hx hb dL_count_0 rfl (lv_at hl 2 rfl) ?_
  refine lv_iconst (v := 0) hx hb dL_count_1 (by decide) ?_
  refine lv_aload_n hx hb dL_count_2 rfl (lv_at hl 0 rfl) ?_
  refine lv_iload_n hx hb dL_count_3 rfl (lv_at hl 1 rfl) ?_
  have hPc := hP.sub (ws' := [((a 0), .inr (10, [.ref (a 4), .ref (a 5), .ref (a 6), .ref (a 7), .ref (a 8), .ref (a 9), .ref (a 10), .ref (a 11), .ref (a 2), .ref (a 12), .int 0, .int 0, .int 0, .int 0, .ref (a 13), .ref (a 14), .ref (a 15), .int 0, .int 0, .int 0])), ((a 2), .inr (6, [.ref (a 16), .int 0, .int 0, .int 0, .int 0, .ref (a 17), .ref (a 18), .ref (a 19), .ref (a 20), .ref (a 21), .ref (a 22), .int 0, .int 0, .ref (a 23), .ref (a 24), .ref (a 25), .ref (a 3), .ref (a 26), .ref (a 27), .int 0])), ((a 3), .inl (cy 1, 42, .inl nZ))]) [0, 1, 2] rfl
  have hPc : va_P (dC, dI) nCl (v0_k_X11_count_2 cy (fun j9 => [(a 0), (a 2), (a 3), (a 4), (a 5), (a 6), (a 7), (a 8), (a 9), (a 10), (a 11), (a 12), (a 13), (a 14), (a 15), (a 16), (a 17), (a 18), (a 19), (a 20), (a 21), (a 22), (a 23), (a 24), (a 25), (a 26), (a 27)].getD j9 0)) s.heap := hPc
  have hDc := hD.sub (ws' := [((a 0), .inr (10, [.ref (a 4), .ref (a 5), .ref (a 6), .ref (a 7), .ref (a 8), .ref (a 9), .ref (a 10), .ref (a 11), .ref (a 2), .ref (a 12), .int 0, .int 0, .int 0, .int 0, .ref (a 13), .ref (a 14), .ref (a 15), .int 0, .int 0, .int 0])), ((a 2), .inr (6, [.ref (a 16), .int 0, .int 0, .int 0, .int 0, .ref (a 17), .ref (a 18), .ref (a 19), .ref (a 20), .ref (a 21), .ref (a 22), .int 0, .int 0, .ref (a 23), .ref (a 24), .ref (a 25), .ref (a 3), .ref (a 26), .ref (a 27), .int 0])), ((a 3), .inl (cy 1, 42, .inl nZ))]) [0, 1, 2] (by decide) rfl
  have hDc : va_D A (v0_k_X11_count_2 cy (fun j9 => [(a 0), (a 2), (a 3), (a 4), (a 5), (a 6), (a 7), (a 8), (a 9), (a 10), (a 11), (a 12), (a 13), (a 14), (a 15), (a 16), (a 17), (a 18), (a 19), (a 20), (a 21), (a 22), (a 23), (a 24), (a 25), (a 26), (a 27)].getD j9 0)) := hDc
  have hFc := va_free (wc := (v0_k_X11_count_2 cy (fun j9 => [(a 0), (a 2), (a 3), (a 4), (a 5), (a 6), (a 7), (a 8), (a 9), (a 10), (a 11), (a 12), (a 13), (a 14), (a 15), (a 16), (a 17), (a 18), (a 19), (a 20), (a 21), (a 22), (a 23), (a 24), (a 25), (a 26), (a 27)].getD j9 0))) hD hS hA [0, 1, 2] rfl
  refine va_calli (va_runV (As := [.int 2]) (rest := [.int 0, .ref (a 1)]) ⟨hx, hb, hml, hown, hts⟩ (k_X11_count_2 l dC dI cy k (fun j9 => [(a 0), (a 2), (a 3), (a 4), (a 5), (a 6), (a 7), (a 8), (a 9), (a 10), (a 11), (a 12), (a 13), (a 14), (a 15), (a 16), (a 17), (a 18), (a 19), (a 20), (a 21), (a 22), (a 23), (a 24), (a 25), (a 26), (a 27)].getD j9 0) s.heap.size) (cwV 1 hts g_l_count_2_65_k_X11_count_2 rfl rfl rfl (by decide +kernel) ⟨Nat.le_of_ble_eq_true rfl, Nat.le_of_ble_eq_true rfl⟩) ⟨nb_blindE, va_recv hK hPc (ci := 10) (q0 := 0) rfl rfl, fun U hU hW => ⟨rfl, ⟨by rw [hU], by rw [hU]; exact hPc, va_K.moved hW.alike hK, hDc.weaken (fun _ _ _ _ => trivial), hG.warm hW⟩, nE.to hE hS hW hU hFc⟩⟩ rfl rfl hl.1 rfl (lv_room (Nat.le_of_ble_eq_true rfl)) dL_count_4 ⟨Nat.le_of_ble_eq_true rfl, Nat.le_of_ble_eq_true rfl⟩) hS (fun q _ h => hFc q h) hFc (fun r_1 u1 t H1 locs ht hvm hw hB hz1 hk1 hS => ?_)
  subst hw
  obtain ⟨hP1, hK1, hD1⟩ := hB
  rw [ht] at hP1
  obtain ⟨hP, hD⟩ := va_join (wr := [((a 1), .inl (cy 2, 1, .inr (.inl (fun _ => 0))))]) (w1 := v1_k_X11_count_2 cy (fun j9 => [(a 0), (a 2), (a 3), (a 4), (a 5), (a 6), (a 7), (a 8), (a 9), (a 10), (a 11), (a 12), (a 13), (a 14), (a 15), (a 16), (a 17), (a 18), (a 19), (a 20), (a 21), (a 22), (a 23), (a 24), (a 25), (a 26), (a 27)].getD j9 0) u1) hP hD [0, 1, 2] [3] rfl rfl (by decide) (by decide) hk1 hFc hP1 hD1
  generalize H1 = H at hP hS ⊢
  have hP : va_P (dC, dI) nCl [((a 1), .inl (cy 2, 1, .inr (.inl (fun _ => 0))))] H := hP
  have hD : va_D A [((a 1), .inl (cy 2, 1, .inr (.inl (fun _ => 0))))] := hD
  refine lv_i2l (v := 0) hx hb dL_count_7 (by decide) ?_
  refine va_last hx hb hK hP hD hS 0 2 rfl rfl (nb_in (by decide)) dL_count_8 (fun H locs hP hD hS => ?_)
  have hP : va_P (dC, dI) nCl [((a 1), .inl (cy 2, 1, .inr (.inl (vp_updL (fun _ => 0) 0 0))))] H := hP
  have hD : va_D A [((a 1), .inl (cy 2, 1, .inr (.inl (vp_updL (fun _ => 0) 0 0))))] := hD
  refine lv_goto (tgt := 15) hx hb dL_count_9 (by decide) ?_
  refine lv_iconst (v := 0) hx hb dL_count_15 (by decide) ?_
  have hP := hP.sub (ws' := [((a 1), .inl (cy 2, 1, .inr (.inl (vp_updL (fun _ => 0) 0 0))))]) [0] rfl
  have hD := hD.sub (ws' := [((a 1), .inl (cy 2, 1, .inr (.inl (vp_updL (fun _ => 0) 0 0))))]) [0] (by decide) rfl
  have hP : va_P (dC, dI) nCl (v1_l_count_2 cy a (fun _ => 0)) H := hP
  have hD : va_D A (v1_l_count_2 cy a (fun _ => 0)) := hD
  exact W.iret (v := 0) hx hb hr (fun t ht hW => ⟨⟨0, (fun _ => 0), rfl, rfl, by rw [ht]; exact hP, va_K.moved hW.alike hK, hD⟩, hS.F ht⟩) hS.2.2 dL_count_16
def o_l_count_3 : List Cond := [.methodLink RL 65 yX11_count, .instanceMethod yX11_count, .selects RX11 yX11_count yX11_count, .initialized RX11]
theorem o_l_count_3_good : o_l_count_3.all goodWord = true := by decide +kernel
def p_l_count_3 : List Cond := o_l_count_3 ++ ((.code yX11_count cX11_count 2 (some .int) :: p_k_X11_count_3) ++ [])
theorem p_l_count_3_good : p_l_count_3.all goodWord = true := nb_all2 o_l_count_3_good (nb_all2 (nb_allc (by decide +kernel) p_k_X11_count_3_good) rfl)
def w_l_count_3 : List Cond := .codeWith yL_count cL_count 4 (some .int) [(0, 9, 12, 37)] :: (p_l_count_3 ++ fC)
theorem w_l_count_3_good : w_l_count_3.all goodWord = true := nb_allc (by decide +kernel) (nb_all2 p_l_count_3_good fC_good)
theorem gg_l_count_3_k_X11_count_3 : GoodIn w_l_count_3 w_k_X11_count_3 := goodIn_sub (fun w h => (List.mem_cons.mp h).elim (fun e => (List.mem_cons_of_mem _ (List.mem_append_left _ (List.mem_append_right _ (List.mem_append_left _ (List.mem_cons.mpr (Or.inl e))))))) (fun h => (List.mem_append.mp h).elim (fun h => (List.mem_cons_of_mem _ (List.mem_append_left _ (List.mem_append_right _ (List.mem_append_left _ (List.mem_cons_of_mem _ h)))))) (fun h => List.mem_cons_of_mem _ (List.mem_append_right _ h)))) w_k_X11_count_3_good
theorem g_l_count_3_65_k_X11_count_3 : GoodIn w_l_count_3 (wsV RL 65 RX11 yX11_count w_k_X11_count_3) := goodIn_app (nb_g4 (List.mem_cons_of_mem _ (List.mem_append_left _ (List.mem_append_left _ (List.mem_of_getElem? (i := 0) rfl)))) (List.mem_cons_of_mem _ (List.mem_append_left _ (List.mem_append_left _ (List.mem_of_getElem? (i := 1) rfl)))) (List.mem_cons_of_mem _ (List.mem_append_left _ (List.mem_append_left _ (List.mem_of_getElem? (i := 2) rfl)))) (List.mem_cons_of_mem _ (List.mem_append_left _ (List.mem_append_left _ (List.mem_of_getElem? (i := 3) rfl)))) (by decide +kernel)) gg_l_count_3_k_X11_count_3
def v0_l_count_3 (cy : Nat → ClassId) (a : Nat → Nat) : va_W := [((a 0), .inr (10, [.ref (a 3), .ref (a 4), .ref (a 5), .ref (a 6), .ref (a 7), .ref (a 8), .ref (a 9), .ref (a 10), .ref (a 2), .ref (a 11), .int 0, .int 0, .int 0, .int 0, .ref (a 12), .ref (a 13), .ref (a 14), .int 0, .int 0, .int 0])), ((a 2), .inr (6, [.ref (a 15), .int 0, .int 0, .int 0, .int 0, .ref (a 16), .ref (a 17), .ref (a 18), .ref (a 19), .ref (a 20), .ref (a 21), .int 0, .int 0, .ref (a 22), .ref (a 23), .ref (a 24), .ref (a 25), .ref (a 26), .ref (a 27), .int 0])), ((a 1), .inl (cy 2, 1, .inr (.inl (fun _ => 0))))]
def v1_l_count_3 (cy : Nat → ClassId) (a : Nat → Nat) (r : Nat → Nat) : va_W := [((a 1), .inl (cy 2, 1, .inr (.inl (vp_updL (fun _ => 0) 0 0))))]
set_option maxHeartbeats 40000000 in
set_option maxRecDepth 100000 in
/-- count(..) of the law on a new object: it answers -/
theorem l_count_3 (l : Launch) (dC : Nat → ClassId) (dI : Nat → Nat → Nat) (cy : Nat → ClassId) (k : Nat → Nat) (a : Nat → Nat) (sz : Nat) : Met l yL_count w_l_count_3 ({ frames := 1, cells := 0, slots := 0, locals := 21 }) (va_Pc [.ref (a 0), .int 3, .ref (a 1)] (nInE (dC, dI) cy k sz (v0_l_count_3 cy a))) (va_Qi (fun (z : Int32) (_ : Nat → Nat) => z = 0) (fun r t => nOut (dC, dI) cy (va_A (v0_l_count_3 cy a) sz) (v1_l_count_3 cy a r) t) (va_A (v0_l_count_3 cy a) sz)) 0 0 (va_A (v0_l_count_3 cy a) sz) := by
  refine nb_ofWH (cc := cL_count) (maxL := 4) (ret := (some .int)) (by decide) rfl ?_
  intro p e s m args below meth c s₁ B hml hv
  obtain ⟨rfl, ⟨hsz, hP, hK, hD0, hG⟩, hE⟩ := hv
  have hx := B.exec
  have hb := B.bytes
  have hr := B.returns
  have hts := atoms_spec (ws := w_l_count_3) B.pre
  have hown : s.vm.findClass RL = some m.cls := findClass_of_methodNamed B.named
  have hlocks := B.notSynchronized
  subst hsz
  have hD := hD0.self (sz := s.heap.size)
  generalize hAe : va_A (v0_l_count_3 cy a) s.heap.size = A at hD hE ⊢
  have hA : ∀ q : Nat, s.heap.size ≤ q → A q := fun q h => by rw [← hAe]; exact Or.inr h
  have hS : va_S A s.heap s.heap [] := va_S.rf
  have hP : va_P (dC, dI) nCl (v0_l_count_3 cy a) s.heap := hP
  have hl := lv_entry ([.ref (a 0), .int 3, .ref (a 1)]) (n := 4) (Nat.le_of_ble_eq_true rfl)
  rw [lg_entry_eq]
  generalize (lg_sl ([.ref (a 0), .int 3, .ref (a 1)]) ++ List.replicate (4 - (lg_sl ([.ref (a 0), .int 3, .ref (a 1)])).length) Slot.unset).toArray = ls at hl ⊢
  have hl : lv_has ls 4 [(0, .ref (a 0)), (1, .int 3), (2, .ref (a 1))] := hl
  have hP : va_P (dC, dI) nCl [((a 0), .inr (10, [.ref (a 3), .ref (a 4), .ref (a 5), .ref (a 6), .ref (a 7), .ref (a 8), .ref (a 9), .ref (a 10), .ref (a 2), .ref (a 11), .int 0, .int 0, .int 0, .int 0, .ref (a 12), .ref (a 13), .ref (a 14), .int 0, .int 0, .int 0])), ((a 2), .inr (6, [.ref (a 15), .int 0, .int 0, .int 0, .int 0, .ref (a 16), .ref (a 17), .ref (a 18), .ref (a 19), .ref (a 20), .ref (a 21), .int 0, .int 0, .ref (a 22), .ref (a 23), .ref (a 24), .ref (a 25), .ref (a 26), .ref (a 27), .int 0])), ((a 1), .inl (cy 2, 1, .inr (.inl (fun _ => 0))))] s.heap := hP
  have hD : va_D A [((a 0), .inr (10, [.ref (a 3), .ref (a 4), .ref (a 5), .ref (a 6), .ref (a 7), .ref (a 8), .ref (a 9), .ref (a 10), .ref (a 2), .ref (a 11), .int 0, .int 0, .int 0, .int 0, .ref (a 12), .ref (a 13), .ref (a 14), .int 0, .int 0, .int 0])), ((a 2), .inr (6, [.ref (a 15), .int 0, .int 0, .int 0, .int 0, .ref (a 16), .ref (a 17), .ref (a 18), .ref (a 19), .ref (a 20), .ref (a 21), .int 0, .int 0, .ref (a 22), .ref (a 23), .ref (a 24), .ref (a 25), .ref (a 26), .ref (a 27), .int 0])), ((a 1), .inl (cy 2, 1, .inr (.inl (fun _ => 0))))] := hD
  refine lv_aload_n hx hb dL_count_0 rfl (lv_at hl 2 rfl) ?_
  refine lv_iconst (v := 0) hx hb dL_count_1 (by decide) ?_
  refine lv_aload_n hx hb dL_count_2 rfl (lv_at hl 0 rfl) ?_
  refine lv_iload_n hx hb dL_count_3 rfl (lv_at hl 1 rfl) ?_
  have hPc := hP.sub (ws' := [((a 0), .inr (10, [.ref (a 3), .ref (a 4), .ref (a 5), .ref (a 6), .ref (a 7), .ref (a 8), .ref (a 9), .ref (a 10), .ref (a 2), .ref (a 11), .int 0, .int 0, .int 0, .int 0, .ref (a 12), .ref (a 13), .ref (a 14), .int 0, .int 0, .int 0])), ((a 2), .inr (6, [.ref (a 15), .int 0, .int 0, .int 0, .int 0, .ref (a 16), .ref (a 17), .ref (a 18), .ref (a 19), .ref (a 20), .ref (a 21), .int 0, .int 0, .ref (a 22), .ref (a 23), .ref (a 24), .ref (a 25), .ref (a 26), .ref (a 27), .int 0]))]) [0, 1] rfl
  have hPc : va_P (dC, dI) nCl (v0_k_X11_count_3 cy (fun j9 => [(a 0), (a 2), (a 3), (a 4), (a 5), (a 6), (a 7), (a 8), (a 9), (a 10), (a 11), (a 12), (a 13), (a 14), (a 15), (a 16), (a 17), (a 18), (a 19), (a 20), (a 21), (a 22), (a 23), (a 24), (a 25), (a 26), (a 27)].getD j9 0)) s.heap := hPc
  have hDc := hD.sub (ws' := [((a 0), .inr (10, [.ref (a 3), .ref (a 4), .ref (a 5), .ref (a 6), .ref (a 7), .ref (a 8), .ref (a 9), .ref (a 10), .ref (a 2), .ref (a 11), .int 0, .int 0, .int 0, .int 0, .ref (a 12), .ref (a 13), .ref (a 14), .int 0, .int 0, .int 0])), ((a 2), .inr (6, [.ref (a 15), .int 0, .int 0, .int 0, .int 0, .ref (a 16), .ref (a 17), .ref (a 18), .ref (a 19), .ref (a 20), .ref (a 21), .int 0, .int 0, .ref (a 22), .ref (a 23), .ref (a 24), .ref (a 25), .ref (a 26), .ref (a 27), .int 0]))]) [0, 1] (by decide) rfl
  have hDc : va_D A (v0_k_X11_count_3 cy (fun j9 => [(a 0), (a 2), (a 3), (a 4), (a 5), (a 6), (a 7), (a 8), (a 9), (a 10), (a 11), (a 12), (a 13), (a 14), (a 15), (a 16), (a 17), (a 18), (a 19), (a 20), (a 21), (a 22), (a 23), (a 24), (a 25), (a 26), (a 27)].getD j9 0)) := hDc
  have hFc := va_free (wc := (v0_k_X11_count_3 cy (fun j9 => [(a 0), (a 2), (a 3), (a 4), (a 5), (a 6), (a 7), (a 8), (a 9), (a 10), (a 11), (a 12), (a 13), (a 14), (a 15), (a 16), (a 17), (a 18), (a 19), (a 20), (a 21), (a 22), (a 23), (a 24), (a 25), (a 26), (a 27)].getD j9 0))) hD hS hA [0, 1] rfl
  refine va_calli (va_runV (As := [.int 3]) (rest := [.int 0, .ref (a 1)]) ⟨hx, hb, hml, hown, hts⟩ (k_X11_count_3 l dC dI cy k (fun j9 => [(a 0), (a 2), (a 3), (a 4), (a 5), (a 6), (a 7), (a 8), (a 9), (a 10), (a 11), (a 12), (a 13), (a 14), (a 15), (a 16), (a 17), (a 18), (a 19), (a 20), (a 21), (a 22), (a 23), (a 24), (a 25), (a 26), (a 27)].getD j9 0) s.heap.size) (cwV 1 hts g_l_count_3_65_k_X11_count_3 rfl rfl rfl (by decide +kernel) ⟨Nat.le_of_ble_eq_true rfl, Nat.le_of_ble_eq_true rfl⟩) ⟨nb_blindE, va_recv hK hPc (ci := 10) (q0 := 0) rfl rfl, fun U hU hW => ⟨rfl, ⟨by rw [hU], by rw [hU]; exact hPc, va_K.moved hW.alike hK, hDc.weaken (fun _ _ _ _ => trivial), hG.warm hW⟩, nE.to hE hS hW hU hFc⟩⟩ rfl rfl hl.1 rfl (lv_room (Nat.le_of_ble_eq_true rfl)) dL_count_4 ⟨Nat.le_of_ble_eq_true rfl, Nat.le_of_ble_eq_true rfl⟩) hS (fun q _ h => hFc q h) hFc (fun r_1 u1 t H1 locs ht hvm hw hB hz1 hk1 hS => ?_)
  subst hw
  obtain ⟨hP1, hK1, hD1⟩ := hB
  rw [ht] at hP1
  obtain ⟨hP, hD⟩ := va_join (wr := [((a 1), .inl (cy 2, 1, .inr (.inl (fun _ => 0))))]) (w1 := v1_k_X11_count_3 cy (fun j9 => [(a 0), (a 2), (a 3), (a 4), (a 5), (a 6), (a 7), (a 8), (a 9), (a 10), (a 11), (a 12), (a 13), (a 14), (a 15), (a 16), (a 17), (a 18), (a 19), (a 20), (a 21), (a 22), (a 23), (a 24), (a 25), (a 26), (a 27)].getD j9 0) u1) hP hD [0, 1] [2] rfl rfl (by decide) (by decide) hk1 hFc hP1 hD1
  generalize H1 = H at hP hS ⊢
  have hP : va_P (dC, dI) nCl [((a 1), .inl (cy 2, 1, .inr (.inl (fun _ => 0))))] H := hP
  have hD : va_D A [((a 1), .inl (cy 2, 1, .inr (.inl (fun _ => 0))))] := hD
  refine lv_i2l (v := 0) hx hb dL_count_7 (by decide) ?_
  refine va_last hx hb hK hP hD hS 0 2 rfl rfl (nb_in (by decide)) dL_count_8 (fun H locs hP hD hS => ?_)
  have hP : va_P (dC, dI) nCl [((a 1), .inl (cy 2, 1, .inr (.inl (vp_updL (fun _ => 0) 0 0))))] H := hP
  have hD : va_D A [((a 1), .inl (cy 2, 1, .inr (.inl (vp_updL (fun _ => 0) 0 0))))] := hD
  refine lv_goto (tgt := 15) hx hb dL_count_9 (by decide) ?_
  refine lv_iconst (v := 0) hx hb dL_count_15 (by decide) ?_
  have hP := hP.sub (ws' := [((a 1), .inl (cy 2, 1, .inr (.inl (vp_updL (fun _ => 0) 0 0))))]) [0] rfl
  have hD := hD.sub (ws' := [((a 1), .inl (cy 2, 1, .inr (.inl (vp_updL (fun _ => 0) 0 0))))]) [0] (by decide) rfl
  have hP : va_P (dC, dI) nCl (v1_l_count_3 cy a (fun _ => 0)) H := hP
  have hD : va_D A (v1_l_count_3 cy a (fun _ => 0)) := hD
  exact W.iret (v := 0) hx hb hr (fun t ht hW => ⟨⟨0, (fun _ => 0), rfl, rfl, by rw [ht]; exact hP, va_K.moved hW.alike hK, hD⟩, hS.F ht⟩) hS.2.2 dL_count_16
def o_l_count_4 : List Cond := [.methodLink RL 65 yX11_count, .instanceMethod yX11_count, .selects RX11 yX11_count yX11_count, .initialized RX11]
theorem o_l_count_4_good : o_l_count_4.all goodWord = true := by decide +kernel
def p_l_count_4 : List Cond := o_l_count_4 ++ ((.code yX11_count cX11_count 2 (some .int) :: p_k_X11_count_4) ++ [])
theorem p_l_count_4_good : p_l_count_4.all goodWord = true := nb_all2 o_l_count_4_good (nb_all2 (nb_allc (by decide +kernel) p_k_X11_count_4_good) rfl)
def w_l_count_4 : List Cond := .codeWith yL_count cL_count 4 (some .int) [(0, 9, 12, 37)] :: (p_l_count_4 ++ fC)
theorem w_l_count_4_good : w_l_count_4.all goodWord = true := nb_allc (by decide +kernel) (nb_all2 p_l_count_4_good fC_good)
theorem gg_l_count_4_k_X11_count_4 : GoodIn w_l_count_4 w_k_X11_count_4 := goodIn_sub (fun w h => (List.mem_cons.mp h).elim (fun e => (List.mem_cons_of_mem _ (List.mem_append_left _ (List.mem_append_right _ (List.mem_append_left _ (List.mem_cons.mpr (Or.inl e))))))) (fun h => (List.mem_append.mp h).elim (fun h => (List.mem_cons_of_mem _ (List.mem_append_left _ (List.mem_append_right _ (List.mem_append_left _ (List.mem_cons_of_mem _ h)))))) (fun h => List.mem_cons_of_mem _ (List.mem_append_right _ h)))) w_k_X11_count_4_good
theorem g_l_count_4_65_k_X11_count_4 : GoodIn w_l_count_4 (wsV RL 65 RX11 yX11_count w_k_X11_count_4) := goodIn_app (nb_g4 (List.mem_cons_of_mem _ (List.mem_append_left _ (List.mem_append_left _ (List.mem_of_getElem? (i := 0) rfl)))) (List.mem_cons_of_mem _ (List.mem_append_left _ (List.mem_append_left _ (List.mem_of_getElem? (i := 1) rfl)))) (List.mem_cons_of_mem _ (List.mem_append_left _ (List.mem_append_left _ (List.mem_of_getElem? (i := 2) rfl)))) (List.mem_cons_of_mem _ (List.mem_append_left _ (List.mem_append_left _ (List.mem_of_getElem? (i := 3) rfl)))) (by decide +kernel)) gg_l_count_4_k_X11_count_4
def v0_l_count_4 (cy : Nat → ClassId) (a : Nat → Nat) : va_W := [((a 0), .inr (10, [.ref (a 2), .ref (a 3), .ref (a 4), .ref (a 5), .ref (a 6), .ref (a 7), .ref (a 8), .ref (a 9), .ref (a 10), .ref (a 11), .int 0, .int 0, .int 0, .int 0, .ref (a 12), .ref (a 13), .ref (a 14), .int 0, .int 0, .int 0])), ((a 1), .inl (cy 2, 1, .inr (.inl (fun _ => 0))))]
def v1_l_count_4 (cy : Nat → ClassId) (a : Nat → Nat) (r : Nat → Nat) : va_W := [((a 1), .inl (cy 2, 1, .inr (.inl (vp_updL (fun _ => 0) 0 0))))]
set_option maxHeartbeats 40000000 in
set_option maxRecDepth 100000 in
/-- count(..) of the law on a new object: it answers -/
theorem l_count_4 (l : Launch) (dC : Nat → ClassId) (dI : Nat → Nat → Nat) (cy : Nat → ClassId) (k : Nat → Nat) (a : Nat → Nat) (sz : Nat) : Met l yL_count w_l_count_4 ({ frames := 1, cells := 0, slots := 0, locals := 21 }) (va_Pc [.ref (a 0), .int 4, .ref (a 1)] (nInE (dC, dI) cy k sz (v0_l_count_4 cy a))) (va_Qi (fun (z : Int32) (_ : Nat → Nat) => z = 0) (fun r t => nOut (dC, dI) cy (va_A (v0_l_count_4 cy a) sz) (v1_l_count_4 cy a r) t) (va_A (v0_l_count_4 cy a) sz)) 0 0 (va_A (v0_l_count_4 cy a) sz) := by
  refine nb_ofWH (cc := cL_count) (maxL := 4) (ret := (some .int)) (by decide) rfl ?_
  intro p e s m args below meth c s₁ B hml hv
  obtain ⟨rfl, ⟨hsz, hP, hK, hD0, hG⟩, hE⟩ := hv
  have hx := B.exec
  have hb := B.bytes
  have hr := B.returns
  have hts := atoms_spec (ws := w_l_count_4) B.pre
  have hown : s.vm.findClass RL = some m.cls := findClass_of_methodNamed B.named
  have hlocks := B.notSynchronized
  subst hsz
  have hD := hD0.self (sz := s.heap.size)
  generalize hAe : va_A (v0_l_count_4 cy a) s.heap.size = A at hD hE ⊢
  have hA : ∀ q : Nat, s.heap.size ≤ q → A q := fun q h => by rw [← hAe]; exact Or.inr h
  have hS : va_S A s.heap s.heap [] := va_S.rf
  have hP : va_P (dC, dI) nCl (v0_l_count_4 cy a) s.heap := hP
  have hl := lv_entry ([.ref (a 0), .int 4, .ref (a 1)]) (n := 4) (Nat.le_of_ble_eq_true rfl)
  rw [lg_entry_eq]
  generalize (lg_sl ([.ref (a 0), .int 4, .ref (a 1)]) ++ List.replicate (4 - (lg_sl ([.ref (a 0), .int 4, .ref (a 1)])).length) Slot.unset).toArray = ls at hl ⊢
  have hl : lv_has ls 4 [(0, .ref (a 0)), (1, .int 4), (2, .ref (a 1))] := hl
  have hP : va_P (dC, dI) nCl [((a 0), .inr (10, [.ref (a 2), .ref (a 3), .ref (a 4), .ref (a 5), .ref (a 6), .ref (a 7), .ref (a 8), .ref (a 9), .ref (a 10), .ref (a 11), .int 0, .int 0, .int 0, .int 0, .ref (a 12), .ref (a 13), .ref (a 14), .int 0, .int 0, .int 0])), ((a 1), .inl (cy 2, 1, .inr (.inl (fun _ => 0))))] s.heap := hP
  have hD : va_D A [((a 0), .inr (10, [.ref (a 2), .ref (a 3), .ref (a 4), .ref (a 5), .ref (a 6), .ref (a 7), .ref (a 8), .ref (a 9), .ref (a 10), .ref (a 11), .int 0, .int 0, .int 0, .int 0, .ref (a 12), .ref (a 13), .ref (a 14), .int 0, .int 0, .int 0])), ((a 1), .inl (cy 2, 1, .inr (.inl (fun _ => 0))))] := hD
  refine lv_aload_n hx hb dL_count_0 rfl (lv_at hl 2 rfl) ?_
  refine lv_iconst (v := 0) hx hb dL_count_1 (by decide) ?_
  refine lv_aload_n hx hb dL_count_2 rfl (lv_at hl 0 rfl) ?_
  refine lv_iload_n hx hb dL_count_3 rfl (lv_at hl 1 rfl) ?_
  have hPc := hP.sub (ws' := [((a 0), .inr (10, [.ref (a 2), .ref (a 3), .ref (a 4), .ref (a 5), .ref (a 6), .ref (a 7), .ref (a 8), .ref (a 9), .ref (a 10), .ref (a 11), .int 0, .int 0, .int 0, .int 0, .ref (a 12), .ref (a 13), .ref (a 14), .int 0, .int 0, .int 0]))]) [0] rfl
  have hPc : va_P (dC, dI) nCl (v0_k_X11_count_4 cy (fun j9 => [(a 0), (a 2), (a 3), (a 4), (a 5), (a 6), (a 7), (a 8), (a 9), (a 10), (a 11), (a 12), (a 13), (a 14)].getD j9 0)) s.heap := hPc
  have hDc := hD.sub (ws' := [((a 0), .inr (10, [.ref (a 2), .ref (a 3), .ref (a 4), .ref (a 5), .ref (a 6), .ref (a 7), .ref (a 8), .ref (a 9), .ref (a 10), .ref (a 11), .int 0, .int 0, .int 0, .int 0, .ref (a 12), .ref (a 13), .ref (a 14), .int 0, .int 0, .int 0]))]) [0] (by decide) rfl
  have hDc : va_D A (v0_k_X11_count_4 cy (fun j9 => [(a 0), (a 2), (a 3), (a 4), (a 5), (a 6), (a 7), (a 8), (a 9), (a 10), (a 11), (a 12), (a 13), (a 14)].getD j9 0)) := hDc
  have hFc := va_free (wc := (v0_k_X11_count_4 cy (fun j9 => [(a 0), (a 2), (a 3), (a 4), (a 5), (a 6), (a 7), (a 8), (a 9), (a 10), (a 11), (a 12), (a 13), (a 14)].getD j9 0))) hD hS hA [0] rfl
  refine va_calli (va_runV (As := [.int 4]) (rest := [.int 0, .ref (a 1)]) ⟨hx, hb, hml, hown, hts⟩ (k_X11_count_4 l dC dI cy k (fun j9 => [(a 0), (a 2), (a 3), (a 4), (a 5), (a 6), (a 7), (a 8), (a 9), (a 10), (a 11), (a 12), (a 13), (a 14)].getD j9 0) s.heap.size) (cwV 1 hts g_l_count_4_65_k_X11_count_4 rfl rfl rfl (by decide +kernel) ⟨Nat.le_of_ble_eq_true rfl, Nat.le_of_ble_eq_true rfl⟩) ⟨nb_blindE, va_recv hK hPc (ci := 10) (q0 := 0) rfl rfl, fun U hU hW => ⟨rfl, ⟨by rw [hU], by rw [hU]; exact hPc, va_K.moved hW.alike hK, hDc.weaken (fun _ _ _ _ => trivial), hG.warm hW⟩, nE.to hE hS hW hU hFc⟩⟩ rfl rfl hl.1 rfl (lv_room (Nat.le_of_ble_eq_true rfl)) dL_count_4 ⟨Nat.le_of_ble_eq_true rfl, Nat.le_of_ble_eq_true rfl⟩) hS (fun q _ h => hFc q h) hFc (fun r_1 u1 t H1 locs ht hvm hw hB hz1 hk1 hS => ?_)
  subst hw
  obtain ⟨hP1, hK1, hD1⟩ := hB
  rw [ht] at hP1
  obtain ⟨hP, hD⟩ := va_join (wr := [((a 1), .inl (cy 2, 1, .inr (.inl (fun _ => 0))))]) (w1 := v1_k_X11_count_4 cy (fun j9 => [(a 0), (a 2), (a 3), (a 4), (a 5), (a 6), (a 7), (a 8), (a 9), (a 10), (a 11), (a 12), (a 13), (a 14)].getD j9 0) u1) hP hD [0] [1] rfl rfl (by decide) (by decide) hk1 hFc hP1 hD1
  generalize H1 = H at hP hS ⊢
  have hP : va_P (dC, dI) nCl [((a 1), .inl (cy 2, 1, .inr (.inl (fun _ => 0))))] H := hP
  have hD : va_D A [((a 1), .inl (cy 2, 1, .inr (.inl (fun _ => 0))))] := hD
  refine lv_i2l (v := 0) hx hb dL_count_7 (by decide) ?_
  refine va_last hx hb hK hP hD hS 0 2 rfl rfl (nb_in (by decide)) dL_count_8 (fun H locs hP hD hS => ?_)
  have hP : va_P (dC, dI) nCl [((a 1), .inl (cy 2, 1, .inr (.inl (vp_updL (fun _ => 0) 0 0))))] H := hP
  have hD : va_D A [((a 1), .inl (cy 2, 1, .inr (.inl (vp_updL (fun _ => 0) 0 0))))] := hD
  refine lv_goto (tgt := 15) hx hb dL_count_9 (by decide) ?_
  refine lv_iconst (v := 0) hx hb dL_count_15 (by decide) ?_
  have hP := hP.sub (ws' := [((a 1), .inl (cy 2, 1, .inr (.inl (vp_updL (fun _ => 0) 0 0))))]) [0] rfl
  have hD := hD.sub (ws' := [((a 1), .inl (cy 2, 1, .inr (.inl (vp_updL (fun _ => 0) 0 0))))]) [0] (by decide) rfl
  have hP : va_P (dC, dI) nCl (v1_l_count_4 cy a (fun _ => 0)) H := hP
  have hD : va_D A (v1_l_count_4 cy a (fun _ => 0)) := hD
  exact W.iret (v := 0) hx hb hr (fun t ht hW => ⟨⟨0, (fun _ => 0), rfl, rfl, by rw [ht]; exact hP, va_K.moved hW.alike hK, hD⟩, hS.F ht⟩) hS.2.2 dL_count_16
def o_l_start : List Cond := [.methodLink RL 21 yX11_start, .instanceMethod yX11_start, .selects RX11 yX11_start yX11_start, .initialized RX11, .classLink RL 25 "java/lang/IllegalStateException"]
theorem o_l_start_good : o_l_start.all goodWord = true := by decide +kernel
def p_l_start : List Cond := o_l_start ++ ((.code yX11_start cX11_start 3 none :: p_t_start) ++ [])
theorem p_l_start_good : p_l_start.all goodWord = true := nb_all2 o_l_start_good (nb_all2 (nb_allc (by decide +kernel) p_t_start_good) rfl)
def w_l_start : List Cond := .codeWith yL_start cL_start 4 (some .int) [(0, 5, 8, 25)] :: (p_l_start ++ fC)
theorem w_l_start_good : w_l_start.all goodWord = true := nb_allc (by decide +kernel) (nb_all2 p_l_start_good fC_good)
theorem gg_l_start_t_start : GoodIn w_l_start w_t_start := goodIn_sub (fun w h => (List.mem_cons.mp h).elim (fun e => (List.mem_cons_of_mem _ (List.mem_append_left _ (List.mem_append_right _ (List.mem_append_left _ (List.mem_cons.mpr (Or.inl e))))))) (fun h => (List.mem_append.mp h).elim (fun h => (List.mem_cons_of_mem _ (List.mem_append_left _ (List.mem_append_right _ (List.mem_append_left _ (List.mem_cons_of_mem _ h)))))) (fun h => List.mem_cons_of_mem _ (List.mem_append_right _ h)))) w_t_start_good
theorem g_l_start_21_t_start : GoodIn w_l_start (wsV RL 21 RX11 yX11_start w_t_start) := goodIn_app (nb_g4 (List.mem_cons_of_mem _ (List.mem_append_left _ (List.mem_append_left _ (List.mem_of_getElem? (i := 0) rfl)))) (List.mem_cons_of_mem _ (List.mem_append_left _ (List.mem_append_left _ (List.mem_of_getElem? (i := 1) rfl)))) (List.mem_cons_of_mem _ (List.mem_append_left _ (List.mem_append_left _ (List.mem_of_getElem? (i := 2) rfl)))) (List.mem_cons_of_mem _ (List.mem_append_left _ (List.mem_append_left _ (List.mem_of_getElem? (i := 3) rfl)))) (by decide +kernel)) gg_l_start_t_start
def v0_l_start (cy : Nat → ClassId) (a : Nat → Nat) (s9 : Int64) : va_W := [((a 0), .inr (10, [.ref (a 1), .ref (a 2), .ref (a 3), .ref (a 4), .ref (a 5), .ref (a 6), .ref (a 7), .ref (a 8), .ref (a 9), .ref (a 10), .int 0, .int 0, .int 0, .int 0, .ref (a 11), .ref (a 12), .ref (a 13), .int 0, .int 0, .int 0]))]
def v1_l_start (cy : Nat → ClassId) (a : Nat → Nat) (s9 : Int64) (r : Nat → Nat) : va_W := []
set_option maxHeartbeats 40000000 in
set_option maxRecDepth 100000 in
/-- start(..) of the law on a new object: it throws -/
theorem l_start (l : Launch) (hl0 : l.stackTraces = false) (dC : Nat → ClassId) (dI : Nat → Nat → Nat) (cy : Nat → ClassId) (k : Nat → Nat) (a : Nat → Nat) (s9 : Int64) (sz : Nat) : Met l yL_start w_l_start ({ frames := 7, cells := 1, slots := 6, locals := 112 }) (va_Pc [.ref (a 0), .long s9] (nInF (dC, dI) cy k sz (v0_l_start cy a s9))) (va_Qi (fun (z : Int32) (_ : Nat → Nat) => z = 1) (fun r t => nOut (dC, dI) cy (va_A (v0_l_start cy a s9) sz) (v1_l_start cy a s9 r) t) (va_A (v0_l_start cy a s9) sz)) 1 6 (va_A (v0_l_start cy a s9) sz) := by
  refine nb_ofWH (cc := cL_start) (maxL := 4) (ret := (some .int)) (by decide) rfl ?_
  intro p e s m args below meth c s₁ B hml hv
  obtain ⟨rfl, ⟨⟨hsz, hP, hK, hD0, hG⟩, hE⟩, hT⟩ := hv
  have hx := B.exec
  have hb := B.bytes
  have hr := B.returns
  have hts := atoms_spec (ws := w_l_start) B.pre
  have hown : s.vm.findClass RL = some m.cls := findClass_of_methodNamed B.named
  have hlocks := B.notSynchronized
  subst hsz
  have hD := hD0.self (sz := s.heap.size)
  generalize hAe : va_A (v0_l_start cy a s9) s.heap.size = A at hD hE hT ⊢
  have hA : ∀ q : Nat, s.heap.size ≤ q → A q := fun q h => by rw [← hAe]; exact Or.inr h
  have hS : va_S A s.heap s.heap [] := va_S.rf
  have hP : va_P (dC, dI) nCl (v0_l_start cy a s9) s.heap := hP
  have hl := lv_entry ([.ref (a 0), .long s9]) (n := 4) (Nat.le_of_ble_eq_true rfl)
  rw [lg_entry_eq]
  generalize (lg_sl ([.ref (a 0), .long s9]) ++ List.replicate (4 - (lg_sl ([.ref (a 0), .long s9])).length) Slot.unset).toArray = ls at hl ⊢
  have hl : lv_has ls 4 [(0, .ref (a 0)), (1, .long s9)] := hl
  have hTb : c.exceptionTable.toList = tableOf [(0, 5, 8, 25)] := vx_table (x := yL_start) B (hts _ List.mem_cons_self)
  have hP : va_P (dC, dI) nCl [((a 0), .inr (10, [.ref (a 1), .ref (a 2), .ref (a 3), .ref (a 4), .ref (a 5), .ref (a 6), .ref (a 7), .ref (a 8), .ref (a 9), .ref (a 10), .int 0, .int 0, .int 0, .int 0, .ref (a 11), .ref (a 12), .ref (a 13), .int 0, .int 0, .int 0]))] s.heap := hP
  have hD : va_D A [((a 0), .inr (10, [.ref (a 1), .ref (a 2), .ref (a 3), .ref (a 4), .ref (a 5), .ref (a 6), .ref (a 7), .ref (a 8), .ref (a 9), .ref (a 10), .int 0, .int 0, .int 0, .int 0, .ref (a 11), .ref (a 12), .ref (a 13), .int 0, .int 0, .int 0]))] := hD
  refine lv_aload_n hx hb dL_start_0 rfl (lv_at hl 0 rfl) ?_
  refine lv_lload_n hx hb dL_start_1 rfl (lv_at hl 1 rfl) ?_
  have hPc : va_P (dC, dI) nCl (v0_t_start cy (fun j9 => [(a 0), (a 1), (a 2), (a 3), (a 4), (a 5), (a 6), (a 7), (a 8), (a 9), (a 10), (a 11), (a 12), (a 13)].getD j9 0) s9) s.heap := hP
  have hDc : va_D A (v0_t_start cy (fun j9 => [(a 0), (a 1), (a 2), (a 3), (a 4), (a 5), (a 6), (a 7), (a 8), (a 9), (a 10), (a 11), (a 12), (a 13)].getD j9 0) s9) := hD
  have hFc := va_free (wc := (v0_t_start cy (fun j9 => [(a 0), (a 1), (a 2), (a 3), (a 4), (a 5), (a 6), (a 7), (a 8), (a 9), (a 10), (a 11), (a 12), (a 13)].getD j9 0) s9)) hD hS hA [0] rfl
  refine vx_callv (vx_runV (As := [.long s9]) (rest := []) ⟨hx, hb, hml, hown, hts⟩ (t_start l hl0 dC dI cy k (fun j9 => [(a 0), (a 1), (a 2), (a 3), (a 4), (a 5), (a 6), (a 7), (a 8), (a 9), (a 10), (a 11), (a 12), (a 13)].getD j9 0) s9 s.heap.size) (cwV 1 hts g_l_start_21_t_start rfl rfl rfl (by decide +kernel) ⟨Nat.le_of_ble_eq_true rfl, Nat.le_of_ble_eq_true rfl⟩) ⟨nb_blindF, va_recv hK hPc (ci := 10) (q0 := 0) rfl rfl, fun U hU hW => ⟨rfl, ⟨⟨by rw [hU], by rw [hU]; exact hPc, va_K.moved hW.alike hK, hDc.weaken (fun _ _ _ _ => trivial), hG.warm hW⟩, nE.to hE hS hW hU hFc⟩, nT.to hT hS hW hU hFc⟩⟩ rfl rfl hl.1 rfl (lv_room (Nat.le_of_ble_eq_true rfl)) dL_start_2 ⟨Nat.le_of_ble_eq_true rfl, Nat.le_of_ble_eq_true rfl⟩) hS (fun q _ h => hFc q h) hFc (fun q _ h => hFc q h) (fun E ce q9 u t H locs ht hvm hp hB hz1 hk1 hS hce hcv hcl => ?_) (fun u t H1 locs ht hvm hp hB hz1 hk1 hS => hp.elim)
  subst hB
  refine vx_widen (k := 1) (n := 6) (Nat.le_of_ble_eq_true rfl) (Nat.le_of_ble_eq_true rfl) ?_
  refine vx_catch (E := "java/lang/IllegalStateException") (name := "java/lang/IllegalStateException") hown [] (⟨0, 5, 8, 25⟩ : ExceptionTableEntry) [] (by rw [hTb]; rfl) (fun z h => absurd h List.not_mem_nil) (by decide) (by decide) (hts _ (List.mem_cons_of_mem _ (List.mem_append_left _ (List.mem_append_left _ (List.mem_of_getElem? (i := 4) rfl))))) (va_Nw.use (by decide +kernel) (hT.2.2.1 _ (List.mem_of_getElem? (i := 0) rfl))) hce hcv hcl ?_
  have hP : va_P (dC, dI) nCl [] H := nb_nil
  have hD : va_D A [] := nb_nilD
  refine lv_astore_n (lv' := [(3, .ref q9), (0, .ref (a 0)), (1, .long s9)]) hx hb dL_start_8 rfl hl (by decide) rfl (fun ls hl => ?_)
  refine lv_iconst (v := 1) hx hb dL_start_9 (by decide) ?_
  have hP : va_P (dC, dI) nCl (v1_l_start cy a s9 (fun _ => 0)) H := hP
  have hD : va_D A (v1_l_start cy a s9 (fun _ => 0)) := hD
  exact W.iret (v := 1) hx hb hr (fun t ht hW => ⟨⟨1, (fun _ => 0), rfl, rfl, by rw [ht]; exact hP, va_K.moved hW.alike hK, hD⟩, hS.F ht⟩) hS.2.2 dL_start_10
def o_l_view : List Cond := [.methodLink RL 49 yX11_view, .instanceMethod yX11_view, .selects RX11 yX11_view yX11_view, .initialized RX11, .classLink RL 25 "java/lang/IllegalStateException"]
theorem o_l_view_good : o_l_view.all goodWord = true := by decide +kernel
def p_l_view : List Cond := o_l_view ++ ((.code yX11_view cX11_view 4 (some .int) :: p_t_view) ++ [])
theorem p_l_view_good : p_l_view.all goodWord = true := nb_all2 o_l_view_good (nb_all2 (nb_allc (by decide +kernel) p_t_view_good) rfl)
def w_l_view : List Cond := .codeWith yL_view cL_view 3 (some .int) [(0, 8, 11, 25), (0, 8, 14, 13)] :: (p_l_view ++ fC)
theorem w_l_view_good : w_l_view.all goodWord = true := nb_allc (by decide +kernel) (nb_all2 p_l_view_good fC_good)
theorem gg_l_view_t_view : GoodIn w_l_view w_t_view := goodIn_sub (fun w h => (List.mem_cons.mp h).elim (fun e => (List.mem_cons_of_mem _ (List.mem_append_left _ (List.mem_append_right _ (List.mem_append_left _ (List.mem_cons.mpr (Or.inl e))))))) (fun h => (List.mem_append.mp h).elim (fun h => (List.mem_cons_of_mem _ (List.mem_append_left _ (List.mem_append_right _ (List.mem_append_left _ (List.mem_cons_of_mem _ h)))))) (fun h => List.mem_cons_of_mem _ (List.mem_append_right _ h)))) w_t_view_good
theorem g_l_view_49_t_view : GoodIn w_l_view (wsV RL 49 RX11 yX11_view w_t_view) := goodIn_app (nb_g4 (List.mem_cons_of_mem _ (List.mem_append_left _ (List.mem_append_left _ (List.mem_of_getElem? (i := 0) rfl)))) (List.mem_cons_of_mem _ (List.mem_append_left _ (List.mem_append_left _ (List.mem_of_getElem? (i := 1) rfl)))) (List.mem_cons_of_mem _ (List.mem_append_left _ (List.mem_append_left _ (List.mem_of_getElem? (i := 2) rfl)))) (List.mem_cons_of_mem _ (List.mem_append_left _ (List.mem_append_left _ (List.mem_of_getElem? (i := 3) rfl)))) (by decide +kernel)) gg_l_view_t_view
def v0_l_view (cy : Nat → ClassId) (a : Nat → Nat) : va_W := [((a 0), .inr (10, [.ref (a 1), .ref (a 2), .ref (a 3), .ref (a 4), .ref (a 5), .ref (a 6), .ref (a 7), .ref (a 8), .ref (a 9), .ref (a 10), .int 0, .int 0, .int 0, .int 0, .ref (a 11), .ref (a 12), .ref (a 13), .int 0, .int 0, .int 0]))]
def v1_l_view (cy : Nat → ClassId) (a : Nat → Nat) (r : Nat → Nat) : va_W := []
set_option maxHeartbeats 40000000 in
set_option maxRecDepth 100000 in
/-- view(..) of the law on a new object: it throws -/
theorem l_view (l : Launch) (hl0 : l.stackTraces = false) (dC : Nat → ClassId) (dI : Nat → Nat → Nat) (cy : Nat → ClassId) (k : Nat → Nat) (a : Nat → Nat) (sz : Nat) : Met l yL_view w_l_view ({ frames := 7, cells := 1, slots := 6, locals := 113 }) (va_Pc [.ref (a 0), .ref (a 14)] (nInF (dC, dI) cy k sz (v0_l_view cy a))) (va_Qi (fun (z : Int32) (_ : Nat → Nat) => z = 1) (fun r t => nOut (dC, dI) cy (va_A (v0_l_view cy a) sz) (v1_l_view cy a r) t) (va_A (v0_l_view cy a) sz)) 1 6 (va_A (v0_l_view cy a) sz) := by
  refine nb_ofWH (cc := cL_view) (maxL := 3) (ret := (some .int)) (by decide) rfl ?_
  intro p e s m args below meth c s₁ B hml hv
  obtain ⟨rfl, ⟨⟨hsz, hP, hK, hD0, hG⟩, hE⟩, hT⟩ := hv
  have hx := B.exec
  have hb := B.bytes
  have hr := B.returns
  have hts := atoms_spec (ws := w_l_view) B.pre
  have hown : s.vm.findClass RL = some m.cls := findClass_of_methodNamed B.named
  have hlocks := B.notSynchronized
  subst hsz
  have hD := hD0.self (sz := s.heap.size)
  generalize hAe : va_A (v0_l_view cy a) s.heap.size = A at hD hE hT ⊢
  have hA : ∀ q : Nat, s.heap.size ≤ q → A q := fun q h => by rw [← hAe]; exact Or.inr h
  have hS : va_S A s.heap s.heap [] := va_S.rf
  have hP : va_P (dC, dI) nCl (v0_l_view cy a) s.heap := hP
  have hl := lv_entry ([.ref (a 0), .ref (a 14)]) (n := 3) (Nat.le_of_ble_eq_true rfl)
  rw [lg_entry_eq]
  generalize (lg_sl ([.ref (a 0), .ref (a 14)]) ++ List.replicate (3 - (lg_sl ([.ref (a 0), .ref (a 14)])).length) Slot.unset).toArray = ls at hl ⊢
  have hl : lv_has ls 3 [(0, .ref (a 0)), (1, .ref (a 14))] := hl
  have hTb : c.exceptionTable.toList = tableOf [(0, 8, 11, 25), (0, 8, 14, 13)] := vx_table (x := yL_view) B (hts _ List.mem_cons_self)
  have hP : va_P (dC, dI) nCl [((a 0), .inr (10, [.ref (a 1), .ref (a 2), .ref (a 3), .ref (a 4), .ref (a 5), .ref (a 6), .ref (a 7), .ref (a 8), .ref (a 9), .ref (a 10), .int 0, .int 0, .int 0, .int 0, .ref (a 11), .ref (a 12), .ref (a 13), .int 0, .int 0, .int 0]))] s.heap := hP
  have hD : va_D A [((a 0), .inr (10, [.ref (a 1), .ref (a 2), .ref (a 3), .ref (a 4), .ref (a 5), .ref (a 6), .ref (a 7), .ref (a 8), .ref (a 9), .ref (a 10), .int 0, .int 0, .int 0, .int 0, .ref (a 11), .ref (a 12), .ref (a 13), .int 0, .int 0, .int 0]))] := hD
  refine lv_aload_n hx hb dL_view_0 rfl (lv_at hl 1 rfl) ?_
  refine lv_iconst (v := 0) hx hb dL_view_1 (by decide) ?_
  refine lv_aload_n hx hb dL_view_2 rfl (lv_at hl 0 rfl) ?_
  have hPc : va_P (dC, dI) nCl (v0_t_view cy (fun j9 => [(a 0), (a 1), (a 2), (a 3), (a 4), (a 5), (a 6), (a 7), (a 8), (a 9), (a 10), (a 11), (a 12), (a 13), (a 14)].getD j9 0)) s.heap := hP
  have hDc : va_D A (v0_t_view cy (fun j9 => [(a 0), (a 1), (a 2), (a 3), (a 4), (a 5), (a 6), (a 7), (a 8), (a 9), (a 10), (a 11), (a 12), (a 13), (a 14)].getD j9 0)) := hD
  have hFc := va_free (wc := (v0_t_view cy (fun j9 => [(a 0), (a 1), (a 2), (a 3), (a 4), (a 5), (a 6), (a 7), (a 8), (a 9), (a 10), (a 11), (a 12), (a 13), (a 14)].getD j9 0))) hD hS hA [0] rfl
  refine vx_calli (vx_runV (As := []) (rest := [.int 0, .ref (a 14)]) ⟨hx, hb, hml, hown, hts⟩ (t_view l hl0 dC dI cy k (fun j9 => [(a 0), (a 1), (a 2), (a 3), (a 4), (a 5), (a 6), (a 7), (a 8), (a 9), (a 10), (a 11), (a 12), (a 13), (a 14)].getD j9 0) s.heap.size) (cwV 0 hts g_l_view_49_t_view rfl rfl rfl (by decide +kernel) ⟨Nat.le_of_ble_eq_true rfl, Nat.le_of_ble_eq_true rfl⟩) ⟨nb_blindF, va_recv hK hPc (ci := 10) (q0 := 0) rfl rfl, fun U hU hW => ⟨rfl, ⟨⟨by rw [hU], by rw [hU]; exact hPc, va_K.moved hW.alike hK, hDc.weaken (fun _ _ _ _ => trivial), hG.warm hW⟩, nE.to hE hS hW hU hFc⟩, nT.to hT hS hW hU hFc⟩⟩ rfl rfl hl.1 rfl (lv_room (Nat.le_of_ble_eq_true rfl)) dL_view_3 ⟨Nat.le_of_ble_eq_true rfl, Nat.le_of_ble_eq_true rfl⟩) hS (fun q _ h => hFc q h) hFc (fun q _ h => hFc q h) (fun E ce q9 u t H locs ht hvm hp hB hz1 hk1 hS hce hcv hcl => ?_) (fun r9 u t H1 locs ht hvm hp hB hz1 hk1 hS => hp.elim)
  subst hB
  refine vx_widen (k := 1) (n := 6) (Nat.le_of_ble_eq_true rfl) (Nat.le_of_ble_eq_true rfl) ?_
  refine vx_catch (E := "java/lang/IllegalStateException") (name := "java/lang/IllegalStateException") hown [] (⟨0, 8, 11, 25⟩ : ExceptionTableEntry) [(⟨0, 8, 14, 13⟩ : ExceptionTableEntry)] (by rw [hTb]; rfl) (fun z h => absurd h List.not_mem_nil) (by decide) (by decide) (hts _ (List.mem_cons_of_mem _ (List.mem_append_left _ (List.mem_append_left _ (List.mem_of_getElem? (i := 4) rfl))))) (va_Nw.use (by decide +kernel) (hT.2.2.1 _ (List.mem_of_getElem? (i := 0) rfl))) hce hcv hcl ?_
  have hP : va_P (dC, dI) nCl [] H := nb_nil
  have hD : va_D A [] := nb_nilD
  refine lv_astore_n (lv' := [(2, .ref q9), (0, .ref (a 0)), (1, .ref (a 14))]) hx hb dL_view_11 rfl hl (by decide) rfl (fun ls hl => ?_)
  refine lv_iconst (v := 1) hx hb dL_view_12 (by decide) ?_
  have hP : va_P (dC, dI) nCl (v1_l_view cy a (fun _ => 0)) H := hP
  have hD : va_D A (v1_l_view cy a (fun _ => 0)) := hD
  exact W.iret (v := 1) hx hb hr (fun t ht hW => ⟨⟨1, (fun _ => 0), rfl, rfl, by rw [ht]; exact hP, va_K.moved hW.alike hK, hD⟩, hS.F ht⟩) hS.2.2 dL_view_13
def o_l_step : List Cond := [.methodLink RL 27 yX11_step, .instanceMethod yX11_step, .selects RX11 yX11_step yX11_step, .initialized RX11, .classLink RL 25 "java/lang/IllegalStateException"]
theorem o_l_step_good : o_l_step.all goodWord = true := by decide +kernel
def p_l_step : List Cond := o_l_step ++ ((.code yX11_step cX11_step 2 (some .int) :: p_t_step) ++ [])
theorem p_l_step_good : p_l_step.all goodWord = true := nb_all2 o_l_step_good (nb_all2 (nb_allc (by decide +kernel) p_t_step_good) rfl)
def w_l_step : List Cond := .codeWith yL_step cL_step 4 (some .int) [(0, 9, 12, 25), (0, 9, 15, 19)] :: (p_l_step ++ fC)
theorem w_l_step_good : w_l_step.all goodWord = true := nb_allc (by decide +kernel) (nb_all2 p_l_step_good fC_good)
theorem gg_l_step_t_step : GoodIn w_l_step w_t_step := goodIn_sub (fun w h => (List.mem_cons.mp h).elim (fun e => (List.mem_cons_of_mem _ (List.mem_append_left _ (List.mem_append_right _ (List.mem_append_left _ (List.mem_cons.mpr (Or.inl e))))))) (fun h => (List.mem_append.mp h).elim (fun h => (List.mem_cons_of_mem _ (List.mem_append_left _ (List.mem_append_right _ (List.mem_append_left _ (List.mem_cons_of_mem _ h)))))) (fun h => List.mem_cons_of_mem _ (List.mem_append_right _ h)))) w_t_step_good
theorem g_l_step_27_t_step : GoodIn w_l_step (wsV RL 27 RX11 yX11_step w_t_step) := goodIn_app (nb_g4 (List.mem_cons_of_mem _ (List.mem_append_left _ (List.mem_append_left _ (List.mem_of_getElem? (i := 0) rfl)))) (List.mem_cons_of_mem _ (List.mem_append_left _ (List.mem_append_left _ (List.mem_of_getElem? (i := 1) rfl)))) (List.mem_cons_of_mem _ (List.mem_append_left _ (List.mem_append_left _ (List.mem_of_getElem? (i := 2) rfl)))) (List.mem_cons_of_mem _ (List.mem_append_left _ (List.mem_append_left _ (List.mem_of_getElem? (i := 3) rfl)))) (by decide +kernel)) gg_l_step_t_step
def v0_l_step (cy : Nat → ClassId) (a : Nat → Nat) (n9 : Int32) : va_W := [((a 0), .inr (10, [.ref (a 1), .ref (a 2), .ref (a 3), .ref (a 4), .ref (a 5), .ref (a 6), .ref (a 7), .ref (a 8), .ref (a 9), .ref (a 10), .int 0, .int 0, .int 0, .int 0, .ref (a 11), .ref (a 12), .ref (a 13), .int 0, .int 0, .int 0]))]
def v1_l_step (cy : Nat → ClassId) (a : Nat → Nat) (n9 : Int32) (r : Nat → Nat) : va_W := []
set_option maxHeartbeats 40000000 in
set_option maxRecDepth 100000 in
/-- step(..) of the law on a new object: it throws -/
theorem l_step (l : Launch) (hl0 : l.stackTraces = false) (dC : Nat → ClassId) (dI : Nat → Nat → Nat) (cy : Nat → ClassId) (k : Nat → Nat) (a : Nat → Nat) (n9 : Int32) (sz : Nat) : Met l yL_step w_l_step ({ frames := 8, cells := 1, slots := 6, locals := 131 }) (va_Pc [.ref (a 0), .int n9, .ref (a 14)] (nInF (dC, dI) cy k sz (v0_l_step cy a n9))) (va_Qi (fun (z : Int32) (_ : Nat → Nat) => z = 1) (fun r t => nOut (dC, dI) cy (va_A (v0_l_step cy a n9) sz) (v1_l_step cy a n9 r) t) (va_A (v0_l_step cy a n9) sz)) 1 6 (va_A (v0_l_step cy a n9) sz) := by
  refine nb_ofWH (cc := cL_step) (maxL := 4) (ret := (some .int)) (by decide) rfl ?_
  intro p e s m args below meth c s₁ B hml hv
  obtain ⟨rfl, ⟨⟨hsz, hP, hK, hD0, hG⟩, hE⟩, hT⟩ := hv
  have hx := B.exec
  have hb := B.bytes
  have hr := B.returns
  have hts := atoms_spec (ws := w_l_step) B.pre
  have hown : s.vm.findClass RL = some m.cls := findClass_of_methodNamed B.named
  have hlocks := B.notSynchronized
  subst hsz
  have hD := hD0.self (sz := s.heap.size)
  generalize hAe : va_A (v0_l_step cy a n9) s.heap.size = A at hD hE hT ⊢
  have hA : ∀ q : Nat, s.heap.size ≤ q → A q := fun q h => by rw [← hAe]; exact Or.inr h
  have hS : va_S A s.heap s.heap [] := va_S.rf
  have hP : va_P (dC, dI) nCl (v0_l_step cy a n9) s.heap := hP
  have hl := lv_entry ([.ref (a 0), .int n9, .ref (a 14)]) (n := 4) (Nat.le_of_ble_eq_true rfl)
  rw [lg_entry_eq]
  generalize (lg_sl ([.ref (a 0), .int n9, .ref (a 14)]) ++ List.replicate (4 - (lg_sl ([.ref (a 0), .int n9, .ref (a 14)])).length) Slot.unset).toArray = ls at hl ⊢
  have hl : lv_has ls 4 [(0, .ref (a 0)), (1, .int n9), (2, .ref (a 14))] := hl
  have hTb : c.exceptionTable.toList = tableOf [(0, 9, 12, 25), (0, 9, 15, 19)] := vx_table (x := yL_step) B (hts _ List.mem_cons_self)
  have hP : va_P (dC, dI) nCl [((a 0), .inr (10, [.ref (a 1), .ref (a 2), .ref (a 3), .ref (a 4), .ref (a 5), .ref (a 6), .ref (a 7), .ref (a 8), .ref (a 9), .ref (a 10), .int 0, .int 0, .int 0, .int 0, .ref (a 11), .ref (a 12), .ref (a 13), .int 0, .int 0, .int 0]))] s.heap := hP
  have hD : va_D A [((a 0), .inr (10, [.ref (a 1), .ref (a 2), .ref (a 3), .ref (a 4), .ref (a 5), .ref (a 6), .ref (a 7), .ref (a 8), .ref (a 9), .ref (a 10), .int 0, .int 0, .int 0, .int 0, .ref (a 11), .ref (a 12), .ref (a 13), .int 0, .int 0, .int 0]))] := hD
  refine lv_aload_n hx hb dL_step_0 rfl (lv_at hl 2 rfl) ?_
  refine lv_iconst (v := 0) hx hb dL_step_1 (by decide) ?_
  refine lv_aload_n hx hb dL_step_2 rfl (lv_at hl 0 rfl) ?_
  refine lv_iload_n hx hb dL_step_3 rfl (lv_at hl 1 rfl) ?_
  have hPc : va_P (dC, dI) nCl (v0_t_step cy (fun j9 => [(a 0), (a 1), (a 2), (a 3), (a 4), (a 5), (a 6), (a 7), (a 8), (a 9), (a 10), (a 11), (a 12), (a 13), (a 14)].getD j9 0) n9) s.heap := hP
  have hDc : va_D A (v0_t_step cy (fun j9 => [(a 0), (a 1), (a 2), (a 3), (a 4), (a 5), (a 6), (a 7), (a 8), (a 9), (a 10), (a 11), (a 12), (a 13), (a 14)].getD j9 0) n9) := hD
  have hFc := va_free (wc := (v0_t_step cy (fun j9 => [(a 0), (a 1), (a 2), (a 3), (a 4), (a 5), (a 6), (a 7), (a 8), (a 9), (a 10), (a 11), (a 12), (a 13), (a 14)].getD j9 0) n9)) hD hS hA [0] rfl
  refine vx_calli (vx_runV (As := [.int n9]) (rest := [.int 0, .ref (a 14)]) ⟨hx, hb, hml, hown, hts⟩ (t_step l hl0 dC dI cy k (fun j9 => [(a 0), (a 1), (a 2), (a 3), (a 4), (a 5), (a 6), (a 7), (a 8), (a 9), (a 10), (a 11), (a 12), (a 13), (a 14)].getD j9 0) n9 s.heap.size) (cwV 1 hts g_l_step_27_t_step rfl rfl rfl (by decide +kernel) ⟨Nat.le_of_ble_eq_true rfl, Nat.le_of_ble_eq_true rfl⟩) ⟨nb_blindF, va_recv hK hPc (ci := 10) (q0 := 0) rfl rfl, fun U hU hW => ⟨rfl, ⟨⟨by rw [hU], by rw [hU]; exact hPc, va_K.moved hW.alike hK, hDc.weaken (fun _ _ _ _ => trivial), hG.warm hW⟩, nE.to hE hS hW hU hFc⟩, nT.to hT hS hW hU hFc⟩⟩ rfl rfl hl.1 rfl (lv_room (Nat.le_of_ble_eq_true rfl)) dL_step_4 ⟨Nat.le_of_ble_eq_true rfl, Nat.le_of_ble_eq_true rfl⟩) hS (fun q _ h => hFc q h) hFc (fun q _ h => hFc q h) (fun E ce q9 u t H locs ht hvm hp hB hz1 hk1 hS hce hcv hcl => ?_) (fun r9 u t H1 locs ht hvm hp hB hz1 hk1 hS => hp.elim)
  subst hB
  refine vx_widen (k := 1) (n := 6) (Nat.le_of_ble_eq_true rfl) (Nat.le_of_ble_eq_true rfl) ?_
  refine vx_catch (E := "java/lang/IllegalStateException") (name := "java/lang/IllegalStateException") hown [] (⟨0, 9, 12, 25⟩ : ExceptionTableEntry) [(⟨0, 9, 15, 19⟩ : ExceptionTableEntry)] (by rw [hTb]; rfl) (fun z h => absurd h List.not_mem_nil) (by decide) (by decide) (hts _ (List.mem_cons_of_mem _ (List.mem_append_left _ (List.mem_append_left _ (List.mem_of_getElem? (i := 4) rfl))))) (va_Nw.use (by decide +kernel) (hT.2.2.1 _ (List.mem_of_getElem? (i := 0) rfl))) hce hcv hcl ?_
  have hP : va_P (dC, dI) nCl [] H := nb_nil
  have hD : va_D A [] := nb_nilD
  refine lv_astore_n (lv' := [(3, .ref q9), (0, .ref (a 0)), (1, .int n9), (2, .ref (a 14))]) hx hb dL_step_12 rfl hl (by decide) rfl (fun ls hl => ?_)
  refine lv_iconst (v := 1) hx hb dL_step_13 (by decide) ?_
  have hP : va_P (dC, dI) nCl (v1_l_step cy a n9 (fun _ => 0)) H := hP
  have hD : va_D A (v1_l_step cy a n9 (fun _ => 0)) := hD
  exact W.iret (v := 1) hx hb hr (fun t ht hW => ⟨⟨1, (fun _ => 0), rfl, rfl, by rw [ht]; exact hP, va_K.moved hW.alike hK, hD⟩, hS.F ht⟩) hS.2.2 dL_step_14
def o_l_back : List Cond := [.methodLink RL 31 yX11_back, .instanceMethod yX11_back, .selects RX11 yX11_back yX11_back, .initialized RX11, .classLink RL 25 "java/lang/IllegalStateException"]
theorem o_l_back_good : o_l_back.all goodWord = true := by decide +kernel
def p_l_back : List Cond := o_l_back ++ ((.code yX11_back cX11_back 2 (some .int) :: p_t_back) ++ [])
theorem p_l_back_good : p_l_back.all goodWord = true := nb_all2 o_l_back_good (nb_all2 (nb_allc (by decide +kernel) p_t_back_good) rfl)
def w_l_back : List Cond := .codeWith yL_back cL_back 4 (some .int) [(0, 9, 12, 25), (0, 9, 15, 19)] :: (p_l_back ++ fC)
theorem w_l_back_good : w_l_back.all goodWord = true := nb_allc (by decide +kernel) (nb_all2 p_l_back_good fC_good)
theorem gg_l_back_t_back : GoodIn w_l_back w_t_back := goodIn_sub (fun w h => (List.mem_cons.mp h).elim (fun e => (List.mem_cons_of_mem _ (List.mem_append_left _ (List.mem_append_right _ (List.mem_append_left _ (List.mem_cons.mpr (Or.inl e))))))) (fun h => (List.mem_append.mp h).elim (fun h => (List.mem_cons_of_mem _ (List.mem_append_left _ (List.mem_append_right _ (List.mem_append_left _ (List.mem_cons_of_mem _ h)))))) (fun h => List.mem_cons_of_mem _ (List.mem_append_right _ h)))) w_t_back_good
theorem g_l_back_31_t_back : GoodIn w_l_back (wsV RL 31 RX11 yX11_back w_t_back) := goodIn_app (nb_g4 (List.mem_cons_of_mem _ (List.mem_append_left _ (List.mem_append_left _ (List.mem_of_getElem? (i := 0) rfl)))) (List.mem_cons_of_mem _ (List.mem_append_left _ (List.mem_append_left _ (List.mem_of_getElem? (i := 1) rfl)))) (List.mem_cons_of_mem _ (List.mem_append_left _ (List.mem_append_left _ (List.mem_of_getElem? (i := 2) rfl)))) (List.mem_cons_of_mem _ (List.mem_append_left _ (List.mem_append_left _ (List.mem_of_getElem? (i := 3) rfl)))) (by decide +kernel)) gg_l_back_t_back
def v0_l_back (cy : Nat → ClassId) (a : Nat → Nat) (n9 : Int32) : va_W := [((a 0), .inr (10, [.ref (a 1), .ref (a 2), .ref (a 3), .ref (a 4), .ref (a 5), .ref (a 6), .ref (a 7), .ref (a 8), .ref (a 9), .ref (a 10), .int 0, .int 0, .int 0, .int 0, .ref (a 11), .ref (a 12), .ref (a 13), .int 0, .int 0, .int 0]))]
def v1_l_back (cy : Nat → ClassId) (a : Nat → Nat) (n9 : Int32) (r : Nat → Nat) : va_W := []
set_option maxHeartbeats 40000000 in
set_option maxRecDepth 100000 in
/-- back(..) of the law on a new object: it throws -/
theorem l_back (l : Launch) (hl0 : l.stackTraces = false) (dC : Nat → ClassId) (dI : Nat → Nat → Nat) (cy : Nat → ClassId) (k : Nat → Nat) (a : Nat → Nat) (n9 : Int32) (sz : Nat) : Met l yL_back w_l_back ({ frames := 8, cells := 1, slots := 6, locals := 131 }) (va_Pc [.ref (a 0), .int n9, .ref (a 14)] (nInF (dC, dI) cy k sz (v0_l_back cy a n9))) (va_Qi (fun (z : Int32) (_ : Nat → Nat) => z = 1) (fun r t => nOut (dC, dI) cy (va_A (v0_l_back cy a n9) sz) (v1_l_back cy a n9 r) t) (va_A (v0_l_back cy a n9) sz)) 1 6 (va_A (v0_l_back cy a n9) sz) := by
  refine nb_ofWH (cc := cL_back) (maxL := 4) (ret := (some .int)) (by decide) rfl ?_
  intro p e s m args below meth c s₁ B hml hv
  obtain ⟨rfl, ⟨⟨hsz, hP, hK, hD0, hG⟩, hE⟩, hT⟩ := hv
  have hx := B.exec
  have hb := B.bytes
  have hr := B.returns
  have hts := atoms_spec (ws := w_l_back) B.pre
  have hown : s.vm.findClass RL = some m.cls := findClass_of_methodNamed B.named
  have hlocks := B.notSynchronized
  subst hsz
  have hD := hD0.self (sz := s.heap.size)
  generalize hAe : va_A (v0_l_back cy a n9) s.heap.size = A at hD hE hT ⊢
  have hA : ∀ q : Nat, s.heap.size ≤ q → A q := fun q h => by rw [← hAe]; exact Or.inr h
  have hS : va_S A s.heap s.heap [] := va_S.rf
  have hP : va_P (dC, dI) nCl (v0_l_back cy a n9) s.heap := hP
  have hl := lv_entry ([.ref (a 0), .int n9, .ref (a 14)]) (n := 4) (Nat.le_of_ble_eq_true rfl)
  rw [lg_entry_eq]
  generalize (lg_sl ([.ref (a 0), .int n9, .ref (a 14)]) ++ List.replicate (4 - (lg_sl ([.ref (a 0), .int n9, .ref (a 14)])).length) Slot.unset).toArray = ls at hl ⊢
  have hl : lv_has ls 4 [(0, .ref (a 0)), (1, .int n9), (2, .ref (a 14))] := hl
  have hTb : c.exceptionTable.toList = tableOf [(0, 9, 12, 25), (0, 9, 15, 19)] := vx_table (x := yL_back) B (hts _ List.mem_cons_self)
  have hP : va_P (dC, dI) nCl [((a 0), .inr (10, [.ref (a 1), .ref (a 2), .ref (a 3), .ref (a 4), .ref (a 5), .ref (a 6), .ref (a 7), .ref (a 8), .ref (a 9), .ref (a 10), .int 0, .int 0, .int 0, .int 0, .ref (a 11), .ref (a 12), .ref (a 13), .int 0, .int 0, .int 0]))] s.heap := hP
  have hD : va_D A [((a 0), .inr (10, [.ref (a 1), .ref (a 2), .ref (a 3), .ref (a 4), .ref (a 5), .ref (a 6), .ref (a 7), .ref (a 8), .ref (a 9), .ref (a 10), .int 0, .int 0, .int 0, .int 0, .ref (a 11), .ref (a 12), .ref (a 13), .int 0, .int 0, .int 0]))] := hD
  refine lv_aload_n hx hb dL_back_0 rfl (lv_at hl 2 rfl) ?_
  refine lv_iconst (v := 0) hx hb dL_back_1 (by decide) ?_
  refine lv_aload_n hx hb dL_back_2 rfl (lv_at hl 0 rfl) ?_
  refine lv_iload_n hx hb dL_back_3 rfl (lv_at hl 1 rfl) ?_
  have hPc : va_P (dC, dI) nCl (v0_t_back cy (fun j9 => [(a 0), (a 1), (a 2), (a 3), (a 4), (a 5), (a 6), (a 7), (a 8), (a 9), (a 10), (a 11), (a 12), (a 13), (a 14)].getD j9 0) n9) s.heap := hP
  have hDc : va_D A (v0_t_back cy (fun j9 => [(a 0), (a 1), (a 2), (a 3), (a 4), (a 5), (a 6), (a 7), (a 8), (a 9), (a 10), (a 11), (a 12), (a 13), (a 14)].getD j9 0) n9) := hD
  have hFc := va_free (wc := (v0_t_back cy (fun j9 => [(a 0), (a 1), (a 2), (a 3), (a 4), (a 5), (a 6), (a 7), (a 8), (a 9), (a 10), (a 11), (a 12), (a 13), (a 14)].getD j9 0) n9)) hD hS hA [0] rfl
  refine vx_calli (vx_runV (As := [.int n9]) (rest := [.int 0, .ref (a 14)]) ⟨hx, hb, hml, hown, hts⟩ (t_back l hl0 dC dI cy k (fun j9 => [(a 0), (a 1), (a 2), (a 3), (a 4), (a 5), (a 6), (a 7), (a 8), (a 9), (a 10), (a 11), (a 12), (a 13), (a 14)].getD j9 0) n9 s.heap.size) (cwV 1 hts g_l_back_31_t_back rfl rfl rfl (by decide +kernel) ⟨Nat.le_of_ble_eq_true rfl, Nat.le_of_ble_eq_true rfl⟩) ⟨nb_blindF, va_recv hK hPc (ci := 10) (q0 := 0) rfl rfl, fun U hU hW => ⟨rfl, ⟨⟨by rw [hU], by rw [hU]; exact hPc, va_K.moved hW.alike hK, hDc.weaken (fun _ _ _ _ => trivial), hG.warm hW⟩, nE.to hE hS hW hU hFc⟩, nT.to hT hS hW hU hFc⟩⟩ rfl rfl hl.1 rfl (lv_room (Nat.le_of_ble_eq_true rfl)) dL_back_4 ⟨Nat.le_of_ble_eq_true rfl, Nat.le_of_ble_eq_true rfl⟩) hS (fun q _ h => hFc q h) hFc (fun q _ h => hFc q h) (fun E ce q9 u t H locs ht hvm hp hB hz1 hk1 hS hce hcv hcl => ?_) (fun r9 u t H1 locs ht hvm hp hB hz1 hk1 hS => hp.elim)
  subst hB
  refine vx_widen (k := 1) (n := 6) (Nat.le_of_ble_eq_true rfl) (Nat.le_of_ble_eq_true rfl) ?_
  refine vx_catch (E := "java/lang/IllegalStateException") (name := "java/lang/IllegalStateException") hown [] (⟨0, 9, 12, 25⟩ : ExceptionTableEntry) [(⟨0, 9, 15, 19⟩ : ExceptionTableEntry)] (by rw [hTb]; rfl) (fun z h => absurd h List.not_mem_nil) (by decide) (by decide) (hts _ (List.mem_cons_of_mem _ (List.mem_append_left _ (List.mem_append_left _ (List.mem_of_getElem? (i := 4) rfl))))) (va_Nw.use (by decide +kernel) (hT.2.2.1 _ (List.mem_of_getElem? (i := 0) rfl))) hce hcv hcl ?_
  have hP : va_P (dC, dI) nCl [] H := nb_nil
  have hD : va_D A [] := nb_nilD
  refine lv_astore_n (lv' := [(3, .ref q9), (0, .ref (a 0)), (1, .int n9), (2, .ref (a 14))]) hx hb dL_back_12 rfl hl (by decide) rfl (fun ls hl => ?_)
  refine lv_iconst (v := 1) hx hb dL_back_13 (by decide) ?_
  have hP : va_P (dC, dI) nCl (v1_l_back cy a n9 (fun _ => 0)) H := hP
  have hD : va_D A (v1_l_back cy a n9 (fun _ => 0)) := hD
  exact W.iret (v := 1) hx hb hr (fun t ht hW => ⟨⟨1, (fun _ => 0), rfl, rfl, by rw [ht]; exact hP, va_K.moved hW.alike hK, hD⟩, hS.F ht⟩) hS.2.2 dL_back_14
def o_l_value : List Cond := [.methodLink RL 42 yX11_value, .instanceMethod yX11_value, .selects RX11 yX11_value yX11_value, .initialized RX11, .classLink RL 25 "java/lang/IllegalStateException"]
theorem o_l_value_good : o_l_value.all goodWord = true := by decide +kernel
def p_l_value : List Cond := o_l_value ++ ((.code yX11_value cX11_value 3 (some .int) :: p_t_value) ++ [])
theorem p_l_value_good : p_l_value.all goodWord = true := nb_all2 o_l_value_good (nb_all2 (nb_allc (by decide +kernel) p_t_value_good) rfl)
def w_l_value : List Cond := .codeWith yL_value cL_value 3 (some .int) [(0, 8, 11, 25), (0, 8, 14, 19)] :: (p_l_value ++ fC)
theorem w_l_value_good : w_l_value.all goodWord = true := nb_allc (by decide +kernel) (nb_all2 p_l_value_good fC_good)
theorem gg_l_value_t_value : GoodIn w_l_value w_t_value := goodIn_sub (fun w h => (List.mem_cons.mp h).elim (fun e => (List.mem_cons_of_mem _ (List.mem_append_left _ (List.mem_append_right _ (List.mem_append_left _ (List.mem_cons.mpr (Or.inl e))))))) (fun h => (List.mem_append.mp h).elim (fun h => (List.mem_cons_of_mem _ (List.mem_append_left _ (List.mem_append_right _ (List.mem_append_left _ (List.mem_cons_of_mem _ h)))))) (fun h => List.mem_cons_of_mem _ (List.mem_append_right _ h)))) w_t_value_good
theorem g_l_value_42_t_value : GoodIn w_l_value (wsV RL 42 RX11 yX11_value w_t_value) := goodIn_app (nb_g4 (List.mem_cons_of_mem _ (List.mem_append_left _ (List.mem_append_left _ (List.mem_of_getElem? (i := 0) rfl)))) (List.mem_cons_of_mem _ (List.mem_append_left _ (List.mem_append_left _ (List.mem_of_getElem? (i := 1) rfl)))) (List.mem_cons_of_mem _ (List.mem_append_left _ (List.mem_append_left _ (List.mem_of_getElem? (i := 2) rfl)))) (List.mem_cons_of_mem _ (List.mem_append_left _ (List.mem_append_left _ (List.mem_of_getElem? (i := 3) rfl)))) (by decide +kernel)) gg_l_value_t_value
def v0_l_value (cy : Nat → ClassId) (a : Nat → Nat) : va_W := [((a 0), .inr (10, [.ref (a 1), .ref (a 2), .ref (a 3), .ref (a 4), .ref (a 5), .ref (a 6), .ref (a 7), .ref (a 8), .ref (a 9), .ref (a 10), .int 0, .int 0, .int 0, .int 0, .ref (a 11), .ref (a 12), .ref (a 13), .int 0, .int 0, .int 0]))]
def v1_l_value (cy : Nat → ClassId) (a : Nat → Nat) (r : Nat → Nat) : va_W := []
set_option maxHeartbeats 40000000 in
set_option maxRecDepth 100000 in
/-- value(..) of the law on a new object: it throws -/
theorem l_value (l : Launch) (hl0 : l.stackTraces = false) (dC : Nat → ClassId) (dI : Nat → Nat → Nat) (cy : Nat → ClassId) (k : Nat → Nat) (a : Nat → Nat) (sz : Nat) : Met l yL_value w_l_value ({ frames := 8, cells := 1, slots := 6, locals := 132 }) (va_Pc [.ref (a 0), .ref (a 14)] (nInF (dC, dI) cy k sz (v0_l_value cy a))) (va_Qi (fun (z : Int32) (_ : Nat → Nat) => z = 1) (fun r t => nOut (dC, dI) cy (va_A (v0_l_value cy a) sz) (v1_l_value cy a r) t) (va_A (v0_l_value cy a) sz)) 1 6 (va_A (v0_l_value cy a) sz) := by
  refine nb_ofWH (cc := cL_value) (maxL := 3) (ret := (some .int)) (by decide) rfl ?_
  intro p e s m args below meth c s₁ B hml hv
  obtain ⟨rfl, ⟨⟨hsz, hP, hK, hD0, hG⟩, hE⟩, hT⟩ := hv
  have hx := B.exec
  have hb := B.bytes
  have hr := B.returns
  have hts := atoms_spec (ws := w_l_value) B.pre
  have hown : s.vm.findClass RL = some m.cls := findClass_of_methodNamed B.named
  have hlocks := B.notSynchronized
  subst hsz
  have hD := hD0.self (sz := s.heap.size)
  generalize hAe : va_A (v0_l_value cy a) s.heap.size = A at hD hE hT ⊢
  have hA : ∀ q : Nat, s.heap.size ≤ q → A q := fun q h => by rw [← hAe]; exact Or.inr h
  have hS : va_S A s.heap s.heap [] := va_S.rf
  have hP : va_P (dC, dI) nCl (v0_l_value cy a) s.heap := hP
  have hl := lv_entry ([.ref (a 0), .ref (a 14)]) (n := 3) (Nat.le_of_ble_eq_true rfl)
  rw [lg_entry_eq]
  generalize (lg_sl ([.ref (a 0), .ref (a 14)]) ++ List.replicate (3 - (lg_sl ([.ref (a 0), .ref (a 14)])).length) Slot.unset).toArray = ls at hl ⊢
  have hl : lv_has ls 3 [(0, .ref (a 0)), (1, .ref (a 14))] := hl
  have hTb : c.exceptionTable.toList = tableOf [(0, 8, 11, 25), (0, 8, 14, 19)] := vx_table (x := yL_value) B (hts _ List.mem_cons_self)
  have hP : va_P (dC, dI) nCl [((a 0), .inr (10, [.ref (a 1), .ref (a 2), .ref (a 3), .ref (a 4), .ref (a 5), .ref (a 6), .ref (a 7), .ref (a 8), .ref (a 9), .ref (a 10), .int 0, .int 0, .int 0, .int 0, .ref (a 11), .ref (a 12), .ref (a 13), .int 0, .int 0, .int 0]))] s.heap := hP
  have hD : va_D A [((a 0), .inr (10, [.ref (a 1), .ref (a 2), .ref (a 3), .ref (a 4), .ref (a 5), .ref (a 6), .ref (a 7), .ref (a 8), .ref (a 9), .ref (a 10), .int 0, .int 0, .int 0, .int 0, .ref (a 11), .ref (a 12), .ref (a 13), .int 0, .int 0, .int 0]))] := hD
  refine lv_aload_n hx hb dL_value_0 rfl (lv_at hl 1 rfl) ?_
  refine lv_iconst (v := 0) hx hb dL_value_1 (by decide) ?_
  refine lv_aload_n hx hb dL_value_2 rfl (lv_at hl 0 rfl) ?_
  have hPc : va_P (dC, dI) nCl (v0_t_value cy (fun j9 => [(a 0), (a 1), (a 2), (a 3), (a 4), (a 5), (a 6), (a 7), (a 8), (a 9), (a 10), (a 11), (a 12), (a 13), (a 14)].getD j9 0)) s.heap := hP
  have hDc : va_D A (v0_t_value cy (fun j9 => [(a 0), (a 1), (a 2), (a 3), (a 4), (a 5), (a 6), (a 7), (a 8), (a 9), (a 10), (a 11), (a 12), (a 13), (a 14)].getD j9 0)) := hD
  have hFc := va_free (wc := (v0_t_value cy (fun j9 => [(a 0), (a 1), (a 2), (a 3), (a 4), (a 5), (a 6), (a 7), (a 8), (a 9), (a 10), (a 11), (a 12), (a 13), (a 14)].getD j9 0))) hD hS hA [0] rfl
  refine vx_calli (vx_runV (As := []) (rest := [.int 0, .ref (a 14)]) ⟨hx, hb, hml, hown, hts⟩ (t_value l hl0 dC dI cy k (fun j9 => [(a 0), (a 1), (a 2), (a 3), (a 4), (a 5), (a 6), (a 7), (a 8), (a 9), (a 10), (a 11), (a 12), (a 13), (a 14)].getD j9 0) s.heap.size) (cwV 0 hts g_l_value_42_t_value rfl rfl rfl (by decide +kernel) ⟨Nat.le_of_ble_eq_true rfl, Nat.le_of_ble_eq_true rfl⟩) ⟨nb_blindF, va_recv hK hPc (ci := 10) (q0 := 0) rfl rfl, fun U hU hW => ⟨rfl, ⟨⟨by rw [hU], by rw [hU]; exact hPc, va_K.moved hW.alike hK, hDc.weaken (fun _ _ _ _ => trivial), hG.warm hW⟩, nE.to hE hS hW hU hFc⟩, nT.to hT hS hW hU hFc⟩⟩ rfl rfl hl.1 rfl (lv_room (Nat.le_of_ble_eq_true rfl)) dL_value_3 ⟨Nat.le_of_ble_eq_true rfl, Nat.le_of_ble_eq_true rfl⟩) hS (fun q _ h => hFc q h) hFc (fun q _ h => hFc q h) (fun E ce q9 u t H locs ht hvm hp hB hz1 hk1 hS hce hcv hcl => ?_) (fun r9 u t H1 locs ht hvm hp hB hz1 hk1 hS => hp.elim)
  subst hB
  refine vx_widen (k := 1) (n := 6) (Nat.le_of_ble_eq_true rfl) (Nat.le_of_ble_eq_true rfl) ?_
  refine vx_catch (E := "java/lang/IllegalStateException") (name := "java/lang/IllegalStateException") hown [] (⟨0, 8, 11, 25⟩ : ExceptionTableEntry) [(⟨0, 8, 14, 19⟩ : ExceptionTableEntry)] (by rw [hTb]; rfl) (fun z h => absurd h List.not_mem_nil) (by decide) (by decide) (hts _ (List.mem_cons_of_mem _ (List.mem_append_left _ (List.mem_append_left _ (List.mem_of_getElem? (i := 4) rfl))))) (va_Nw.use (by decide +kernel) (hT.2.2.1 _ (List.mem_of_getElem? (i := 0) rfl))) hce hcv hcl ?_
  have hP : va_P (dC, dI) nCl [] H := nb_nil
  have hD : va_D A [] := nb_nilD
  refine lv_astore_n (lv' := [(2, .ref q9), (0, .ref (a 0)), (1, .ref (a 14))]) hx hb dL_value_11 rfl hl (by decide) rfl (fun ls hl => ?_)
  refine lv_iconst (v := 1) hx hb dL_value_12 (by decide) ?_
  have hP : va_P (dC, dI) nCl (v1_l_value cy a (fun _ => 0)) H := hP
  have hD : va_D A (v1_l_value cy a (fun _ => 0)) := hD
  exact W.iret (v := 1) hx hb hr (fun t ht hW => ⟨⟨1, (fun _ => 0), rfl, rfl, by rw [ht]; exact hP, va_K.moved hW.alike hK, hD⟩, hS.F ht⟩) hS.2.2 dL_value_13
def o_l_work : List Cond := [.methodLink RL 46 yX11_work, .instanceMethod yX11_work, .selects RX11 yX11_work yX11_work, .initialized RX11, .classLink RL 25 "java/lang/IllegalStateException"]
theorem o_l_work_good : o_l_work.all goodWord = true := by decide +kernel
def p_l_work : List Cond := o_l_work ++ ((.code yX11_work cX11_work 4 (some .int) :: p_t_work) ++ [])
theorem p_l_work_good : p_l_work.all goodWord = true := nb_all2 o_l_work_good (nb_all2 (nb_allc (by decide +kernel) p_t_work_good) rfl)
def w_l_work : List Cond := .codeWith yL_work cL_work 3 (some .int) [(0, 8, 11, 25)] :: (p_l_work ++ fC)
theorem w_l_work_good : w_l_work.all goodWord = true := nb_allc (by decide +kernel) (nb_all2 p_l_work_good fC_good)
theorem gg_l_work_t_work : GoodIn w_l_work w_t_work := goodIn_sub (fun w h => (List.mem_cons.mp h).elim (fun e => (List.mem_cons_of_mem _ (List.mem_append_left _ (List.mem_append_right _ (List.mem_append_left _ (List.mem_cons.mpr (Or.inl e))))))) (fun h => (List.mem_append.mp h).elim (fun h => (List.mem_cons_of_mem _ (List.mem_append_left _ (List.mem_append_right _ (List.mem_append_left _ (List.mem_cons_of_mem _ h)))))) (fun h => List.mem_cons_of_mem _ (List.mem_append_right _ h)))) w_t_work_good
theorem g_l_work_46_t_work : GoodIn w_l_work (wsV RL 46 RX11 yX11_work w_t_work) := goodIn_app (nb_g4 (List.mem_cons_of_mem _ (List.mem_append_left _ (List.mem_append_left _ (List.mem_of_getElem? (i := 0) rfl)))) (List.mem_cons_of_mem _ (List.mem_append_left _ (List.mem_append_left _ (List.mem_of_getElem? (i := 1) rfl)))) (List.mem_cons_of_mem _ (List.mem_append_left _ (List.mem_append_left _ (List.mem_of_getElem? (i := 2) rfl)))) (List.mem_cons_of_mem _ (List.mem_append_left _ (List.mem_append_left _ (List.mem_of_getElem? (i := 3) rfl)))) (by decide +kernel)) gg_l_work_t_work
def v0_l_work (cy : Nat → ClassId) (a : Nat → Nat) : va_W := [((a 0), .inr (10, [.ref (a 1), .ref (a 2), .ref (a 3), .ref (a 4), .ref (a 5), .ref (a 6), .ref (a 7), .ref (a 8), .ref (a 9), .ref (a 10), .int 0, .int 0, .int 0, .int 0, .ref (a 11), .ref (a 12), .ref (a 13), .int 0, .int 0, .int 0]))]
def v1_l_work (cy : Nat → ClassId) (a : Nat → Nat) (r : Nat → Nat) : va_W := []
set_option maxHeartbeats 40000000 in
set_option maxRecDepth 100000 in
/-- work(..) of the law on a new object: it throws -/
theorem l_work (l : Launch) (hl0 : l.stackTraces = false) (dC : Nat → ClassId) (dI : Nat → Nat → Nat) (cy : Nat → ClassId) (k : Nat → Nat) (a : Nat → Nat) (sz : Nat) : Met l yL_work w_l_work ({ frames := 8, cells := 1, slots := 6, locals := 133 }) (va_Pc [.ref (a 0), .ref (a 14)] (nInF (dC, dI) cy k sz (v0_l_work cy a))) (va_Qi (fun (z : Int32) (_ : Nat → Nat) => z = 1) (fun r t => nOut (dC, dI) cy (va_A (v0_l_work cy a) sz) (v1_l_work cy a r) t) (va_A (v0_l_work cy a) sz)) 1 6 (va_A (v0_l_work cy a) sz) := by
  refine nb_ofWH (cc := cL_work) (maxL := 3) (ret := (some .int)) (by decide) rfl ?_
  intro p e s m args below meth c s₁ B hml hv
  obtain ⟨rfl, ⟨⟨hsz, hP, hK, hD0, hG⟩, hE⟩, hT⟩ := hv
  have hx := B.exec
  have hb := B.bytes
  have hr := B.returns
  have hts := atoms_spec (ws := w_l_work) B.pre
  have hown : s.vm.findClass RL = some m.cls := findClass_of_methodNamed B.named
  have hlocks := B.notSynchronized
  subst hsz
  have hD := hD0.self (sz := s.heap.size)
  generalize hAe : va_A (v0_l_work cy a) s.heap.size = A at hD hE hT ⊢
  have hA : ∀ q : Nat, s.heap.size ≤ q → A q := fun q h => by rw [← hAe]; exact Or.inr h
  have hS : va_S A s.heap s.heap [] := va_S.rf
  have hP : va_P (dC, dI) nCl (v0_l_work cy a) s.heap := hP
  have hl := lv_entry ([.ref (a 0), .ref (a 14)]) (n := 3) (Nat.le_of_ble_eq_true rfl)
  rw [lg_entry_eq]
  generalize (lg_sl ([.ref (a 0), .ref (a 14)]) ++ List.replicate (3 - (lg_sl ([.ref (a 0), .ref (a 14)])).length) Slot.unset).toArray = ls at hl ⊢
  have hl : lv_has ls 3 [(0, .ref (a 0)), (1, .ref (a 14))] := hl
  have hTb : c.exceptionTable.toList = tableOf [(0, 8, 11, 25)] := vx_table (x := yL_work) B (hts _ List.mem_cons_self)
  have hP : va_P (dC, dI) nCl [((a 0), .inr (10, [.ref (a 1), .ref (a 2), .ref (a 3), .ref (a 4), .ref (a 5), .ref (a 6), .ref (a 7), .ref (a 8), .ref (a 9), .ref (a 10), .int 0, .int 0, .int 0, .int 0, .ref (a 11), .ref (a 12), .ref (a 13), .int 0, .int 0, .int 0]))] s.heap := hP
  have hD : va_D A [((a 0), .inr (10, [.ref (a 1), .ref (a 2), .ref (a 3), .ref (a 4), .ref (a 5), .ref (a 6), .ref (a 7), .ref (a 8), .ref (a 9), .ref (a 10), .int 0, .int 0, .int 0, .int 0, .ref (a 11), .ref (a 12), .ref (a 13), .int 0, .int 0, .int 0]))] := hD
  refine lv_aload_n hx hb dL_work_0 rfl (lv_at hl 1 rfl) ?_
  refine lv_iconst (v := 0) hx hb dL_work_1 (by decide) ?_
  refine lv_aload_n hx hb dL_work_2 rfl (lv_at hl 0 rfl) ?_
  have hPc : va_P (dC, dI) nCl (v0_t_work cy (fun j9 => [(a 0), (a 1), (a 2), (a 3), (a 4), (a 5), (a 6), (a 7), (a 8), (a 9), (a 10), (a 11), (a 12), (a 13), (a 14)].getD j9 0)) s.heap := hP
  have hDc : va_D A (v0_t_work cy (fun j9 => [(a 0), (a 1), (a 2), (a 3), (a 4), (a 5), (a 6), (a 7), (a 8), (a 9), (a 10), (a 11), (a 12), (a 13), (a 14)].getD j9 0)) := hD
  have hFc := va_free (wc := (v0_t_work cy (fun j9 => [(a 0), (a 1), (a 2), (a 3), (a 4), (a 5), (a 6), (a 7), (a 8), (a 9), (a 10), (a 11), (a 12), (a 13), (a 14)].getD j9 0))) hD hS hA [0] rfl
  refine vx_calli (vx_runV (As := []) (rest := [.int 0, .ref (a 14)]) ⟨hx, hb, hml, hown, hts⟩ (t_work l hl0 dC dI cy k (fun j9 => [(a 0), (a 1), (a 2), (a 3), (a 4), (a 5), (a 6), (a 7), (a 8), (a 9), (a 10), (a 11), (a 12), (a 13), (a 14)].getD j9 0) s.heap.size) (cwV 0 hts g_l_work_46_t_work rfl rfl rfl (by decide +kernel) ⟨Nat.le_of_ble_eq_true rfl, Nat.le_of_ble_eq_true rfl⟩) ⟨nb_blindF, va_recv hK hPc (ci := 10) (q0 := 0) rfl rfl, fun U hU hW => ⟨rfl, ⟨⟨by rw [hU], by rw [hU]; exact hPc, va_K.moved hW.alike hK, hDc.weaken (fun _ _ _ _ => trivial), hG.warm hW⟩, nE.to hE hS hW hU hFc⟩, nT.to hT hS hW hU hFc⟩⟩ rfl rfl hl.1 rfl (lv_room (Nat.le_of_ble_eq_true rfl)) dL_work_3 ⟨Nat.le_of_ble_eq_true rfl, Nat.le_of_ble_eq_true rfl⟩) hS (fun q _ h => hFc q h) hFc (fun q _ h => hFc q h) (fun E ce q9 u t H locs ht hvm hp hB hz1 hk1 hS hce hcv hcl => ?_) (fun r9 u t H1 locs ht hvm hp hB hz1 hk1 hS => hp.elim)
  subst hB
  refine vx_widen (k := 1) (n := 6) (Nat.le_of_ble_eq_true rfl) (Nat.le_of_ble_eq_true rfl) ?_
  refine vx_catch (E := "java/lang/IllegalStateException") (name := "java/lang/IllegalStateException") hown [] (⟨0, 8, 11, 25⟩ : ExceptionTableEntry) [] (by rw [hTb]; rfl) (fun z h => absurd h List.not_mem_nil) (by decide) (by decide) (hts _ (List.mem_cons_of_mem _ (List.mem_append_left _ (List.mem_append_left _ (List.mem_of_getElem? (i := 4) rfl))))) (va_Nw.use (by decide +kernel) (hT.2.2.1 _ (List.mem_of_getElem? (i := 0) rfl))) hce hcv hcl ?_
  have hP : va_P (dC, dI) nCl [] H := nb_nil
  have hD : va_D A [] := nb_nilD
  refine lv_astore_n (lv' := [(2, .ref q9), (0, .ref (a 0)), (1, .ref (a 14))]) hx hb dL_work_11 rfl hl (by decide) rfl (fun ls hl => ?_)
  refine lv_iconst (v := 1) hx hb dL_work_12 (by decide) ?_
  have hP : va_P (dC, dI) nCl (v1_l_work cy a (fun _ => 0)) H := hP
  have hD : va_D A (v1_l_work cy a (fun _ => 0)) := hD
  exact W.iret (v := 1) hx hb hr (fun t ht hW => ⟨⟨1, (fun _ => 0), rfl, rfl, by rw [ht]; exact hP, va_K.moved hW.alike hK, hD⟩, hS.F ht⟩) hS.2.2 dL_work_13
def o_l_round : List Cond := [.methodLink RL 52 yX11_round, .instanceMethod yX11_round, .selects RX11 yX11_round yX11_round, .initialized RX11, .classLink RL 25 "java/lang/IllegalStateException"]
theorem o_l_round_good : o_l_round.all goodWord = true := by decide +kernel
def p_l_round : List Cond := o_l_round ++ ((.code yX11_round cX11_round 4 (some .int) :: p_t_round) ++ [])
theorem p_l_round_good : p_l_round.all goodWord = true := nb_all2 o_l_round_good (nb_all2 (nb_allc (by decide +kernel) p_t_round_good) rfl)
def w_l_round : List Cond := .codeWith yL_round cL_round 3 (some .int) [(0, 8, 11, 25)] :: (p_l_round ++ fC)
theorem w_l_round_good : w_l_round.all goodWord = true := nb_allc (by decide +kernel) (nb_all2 p_l_round_good fC_good)
theorem gg_l_round_t_round : GoodIn w_l_round w_t_round := goodIn_sub (fun w h => (List.mem_cons.mp h).elim (fun e => (List.mem_cons_of_mem _ (List.mem_append_left _ (List.mem_append_right _ (List.mem_append_left _ (List.mem_cons.mpr (Or.inl e))))))) (fun h => (List.mem_append.mp h).elim (fun h => (List.mem_cons_of_mem _ (List.mem_append_left _ (List.mem_append_right _ (List.mem_append_left _ (List.mem_cons_of_mem _ h)))))) (fun h => List.mem_cons_of_mem _ (List.mem_append_right _ h)))) w_t_round_good
theorem g_l_round_52_t_round : GoodIn w_l_round (wsV RL 52 RX11 yX11_round w_t_round) := goodIn_app (nb_g4 (List.mem_cons_of_mem _ (List.mem_append_left _ (List.mem_append_left _ (List.mem_of_getElem? (i := 0) rfl)))) (List.mem_cons_of_mem _ (List.mem_append_left _ (List.mem_append_left _ (List.mem_of_getElem? (i := 1) rfl)))) (List.mem_cons_of_mem _ (List.mem_append_left _ (List.mem_append_left _ (List.mem_of_getElem? (i := 2) rfl)))) (List.mem_cons_of_mem _ (List.mem_append_left _ (List.mem_append_left _ (List.mem_of_getElem? (i := 3) rfl)))) (by decide +kernel)) gg_l_round_t_round
def v0_l_round (cy : Nat → ClassId) (a : Nat → Nat) : va_W := [((a 0), .inr (10, [.ref (a 1), .ref (a 2), .ref (a 3), .ref (a 4), .ref (a 5), .ref (a 6), .ref (a 7), .ref (a 8), .ref (a 9), .ref (a 10), .int 0, .int 0, .int 0, .int 0, .ref (a 11), .ref (a 12), .ref (a 13), .int 0, .int 0, .int 0]))]
def v1_l_round (cy : Nat → ClassId) (a : Nat → Nat) (r : Nat → Nat) : va_W := []
set_option maxHeartbeats 40000000 in
set_option maxRecDepth 100000 in
/-- round(..) of the law on a new object: it throws -/
theorem l_round (l : Launch) (hl0 : l.stackTraces = false) (dC : Nat → ClassId) (dI : Nat → Nat → Nat) (cy : Nat → ClassId) (k : Nat → Nat) (a : Nat → Nat) (sz : Nat) : Met l yL_round w_l_round ({ frames := 8, cells := 1, slots := 6, locals := 133 }) (va_Pc [.ref (a 0), .ref (a 14)] (nInF (dC, dI) cy k sz (v0_l_round cy a))) (va_Qi (fun (z : Int32) (_ : Nat → Nat) => z = 1) (fun r t => nOut (dC, dI) cy (va_A (v0_l_round cy a) sz) (v1_l_round cy a r) t) (va_A (v0_l_round cy a) sz)) 1 6 (va_A (v0_l_round cy a) sz) := by
  refine nb_ofWH (cc := cL_round) (maxL := 3) (ret := (some .int)) (by decide) rfl ?_
  intro p e s m args below meth c s₁ B hml hv
  obtain ⟨rfl, ⟨⟨hsz, hP, hK, hD0, hG⟩, hE⟩, hT⟩ := hv
  have hx := B.exec
  have hb := B.bytes
  have hr := B.returns
  have hts := atoms_spec (ws := w_l_round) B.pre
  have hown : s.vm.findClass RL = some m.cls := findClass_of_methodNamed B.named
  have hlocks := B.notSynchronized
  subst hsz
  have hD := hD0.self (sz := s.heap.size)
  generalize hAe : va_A (v0_l_round cy a) s.heap.size = A at hD hE hT ⊢
  have hA : ∀ q : Nat, s.heap.size ≤ q → A q := fun q h => by rw [← hAe]; exact Or.inr h
  have hS : va_S A s.heap s.heap [] := va_S.rf
  have hP : va_P (dC, dI) nCl (v0_l_round cy a) s.heap := hP
  have hl := lv_entry ([.ref (a 0), .ref (a 14)]) (n := 3) (Nat.le_of_ble_eq_true rfl)
  rw [lg_entry_eq]
  generalize (lg_sl ([.ref (a 0), .ref (a 14)]) ++ List.replicate (3 - (lg_sl ([.ref (a 0), .ref (a 14)])).length) Slot.unset).toArray = ls at hl ⊢
  have hl : lv_has ls 3 [(0, .ref (a 0)), (1, .ref (a 14))] := hl
  have hTb : c.exceptionTable.toList = tableOf [(0, 8, 11, 25)] := vx_table (x := yL_round) B (hts _ List.mem_cons_self)
  have hP : va_P (dC, dI) nCl [((a 0), .inr (10, [.ref (a 1), .ref (a 2), .ref (a 3), .ref (a 4), .ref (a 5), .ref (a 6), .ref (a 7), .ref (a 8), .ref (a 9), .ref (a 10), .int 0, .int 0, .int 0, .int 0, .ref (a 11), .ref (a 12), .ref (a 13), .int 0, .int 0, .int 0]))] s.heap := hP
  have hD : va_D A [((a 0), .inr (10, [.ref (a 1), .ref (a 2), .ref (a 3), .ref (a 4), .ref (a 5), .ref (a 6), .ref (a 7), .ref (a 8), .ref (a 9), .ref (a 10), .int 0, .int 0, .int 0, .int 0, .ref (a 11), .ref (a 12), .ref (a 13), .int 0, .int 0, .int 0]))] := hD
  refine lv_aload_n hx hb dL_round_0 rfl (lv_at hl 1 rfl) ?_
  refine lv_iconst (v := 0) hx hb dL_round_1 (by decide) ?_
  refine lv_aload_n hx hb dL_round_2 rfl (lv_at hl 0 rfl) ?_
  have hPc : va_P (dC, dI) nCl (v0_t_round cy (fun j9 => [(a 0), (a 1), (a 2), (a 3), (a 4), (a 5), (a 6), (a 7), (a 8), (a 9), (a 10), (a 11), (a 12), (a 13), (a 14)].getD j9 0)) s.heap := hP
  have hDc : va_D A (v0_t_round cy (fun j9 => [(a 0), (a 1), (a 2), (a 3), (a 4), (a 5), (a 6), (a 7), (a 8), (a 9), (a 10), (a 11), (a 12), (a 13), (a 14)].getD j9 0)) := hD
  have hFc := va_free (wc := (v0_t_round cy (fun j9 => [(a 0), (a 1), (a 2), (a 3), (a 4), (a 5), (a 6), (a 7), (a 8), (a 9), (a 10), (a 11), (a 12), (a 13), (a 14)].getD j9 0))) hD hS hA [0] rfl
  refine vx_calli (vx_runV (As := []) (rest := [.int 0, .ref (a 14)]) ⟨hx, hb, hml, hown, hts⟩ (t_round l hl0 dC dI cy k (fun j9 => [(a 0), (a 1), (a 2), (a 3), (a 4), (a 5), (a 6), (a 7), (a 8), (a 9), (a 10), (a 11), (a 12), (a 13), (a 14)].getD j9 0) s.heap.size) (cwV 0 hts g_l_round_52_t_round rfl rfl rfl (by decide +kernel) ⟨Nat.le_of_ble_eq_true rfl, Nat.le_of_ble_eq_true rfl⟩) ⟨nb_blindF, va_recv hK hPc (ci := 10) (q0 := 0) rfl rfl, fun U hU hW => ⟨rfl, ⟨⟨by rw [hU], by rw [hU]; exact hPc, va_K.moved hW.alike hK, hDc.weaken (fun _ _ _ _ => trivial), hG.warm hW⟩, nE.to hE hS hW hU hFc⟩, nT.to hT hS hW hU hFc⟩⟩ rfl rfl hl.1 rfl (lv_room (Nat.le_of_ble_eq_true rfl)) dL_round_3 ⟨Nat.le_of_ble_eq_true rfl, Nat.le_of_ble_eq_true rfl⟩) hS (fun q _ h => hFc q h) hFc (fun q _ h => hFc q h) (fun E ce q9 u t H locs ht hvm hp hB hz1 hk1 hS hce hcv hcl => ?_) (fun r9 u t H1 locs ht hvm hp hB hz1 hk1 hS => hp.elim)
  subst hB
  refine vx_widen (k := 1) (n := 6) (Nat.le_of_ble_eq_true rfl) (Nat.le_of_ble_eq_true rfl) ?_
  refine vx_catch (E := "java/lang/IllegalStateException") (name := "java/lang/IllegalStateException") hown [] (⟨0, 8, 11, 25⟩ : ExceptionTableEntry) [] (by rw [hTb]; rfl) (fun z h => absurd h List.not_mem_nil) (by decide) (by decide) (hts _ (List.mem_cons_of_mem _ (List.mem_append_left _ (List.mem_append_left _ (List.mem_of_getElem? (i := 4) rfl))))) (va_Nw.use (by decide +kernel) (hT.2.2.1 _ (List.mem_of_getElem? (i := 0) rfl))) hce hcv hcl ?_
  have hP : va_P (dC, dI) nCl [] H := nb_nil
  have hD : va_D A [] := nb_nilD
  refine lv_astore_n (lv' := [(2, .ref q9), (0, .ref (a 0)), (1, .ref (a 14))]) hx hb dL_round_11 rfl hl (by decide) rfl (fun ls hl => ?_)
  refine lv_iconst (v := 1) hx hb dL_round_12 (by decide) ?_
  have hP : va_P (dC, dI) nCl (v1_l_round cy a (fun _ => 0)) H := hP
  have hD : va_D A (v1_l_round cy a (fun _ => 0)) := hD
  exact W.iret (v := 1) hx hb hr (fun t ht hW => ⟨⟨1, (fun _ => 0), rfl, rfl, by rw [ht]; exact hP, va_K.moved hW.alike hK, hD⟩, hS.F ht⟩) hS.2.2 dL_round_13
def o_l_out : List Cond := [.methodLink RL 39 yX11_out, .instanceMethod yX11_out, .selects RX11 yX11_out yX11_out, .initialized RX11, .classLink RL 37 "java/lang/IndexOutOfBoundsException"]
theorem o_l_out_good : o_l_out.all goodWord = true := by decide +kernel
def p_l_out : List Cond := o_l_out ++ ((.code yX11_out cX11_out 2 (some .int) :: p_t_out) ++ [])
theorem p_l_out_good : p_l_out.all goodWord = true := nb_all2 o_l_out_good (nb_all2 (nb_allc (by decide +kernel) p_t_out_good) rfl)
def w_l_out : List Cond := .codeWith yL_out cL_out 4 (some .int) [(0, 9, 12, 37)] :: (p_l_out ++ fC)
theorem w_l_out_good : w_l_out.all goodWord = true := nb_allc (by decide +kernel) (nb_all2 p_l_out_good fC_good)
theorem gg_l_out_t_out : GoodIn w_l_out w_t_out := goodIn_sub (fun w h => (List.mem_cons.mp h).elim (fun e => (List.mem_cons_of_mem _ (List.mem_append_left _ (List.mem_append_right _ (List.mem_append_left _ (List.mem_cons.mpr (Or.inl e))))))) (fun h => (List.mem_append.mp h).elim (fun h => (List.mem_cons_of_mem _ (List.mem_append_left _ (List.mem_append_right _ (List.mem_append_left _ (List.mem_cons_of_mem _ h)))))) (fun h => List.mem_cons_of_mem _ (List.mem_append_right _ h)))) w_t_out_good
theorem g_l_out_39_t_out : GoodIn w_l_out (wsV RL 39 RX11 yX11_out w_t_out) := goodIn_app (nb_g4 (List.mem_cons_of_mem _ (List.mem_append_left _ (List.mem_append_left _ (List.mem_of_getElem? (i := 0) rfl)))) (List.mem_cons_of_mem _ (List.mem_append_left _ (List.mem_append_left _ (List.mem_of_getElem? (i := 1) rfl)))) (List.mem_cons_of_mem _ (List.mem_append_left _ (List.mem_append_left _ (List.mem_of_getElem? (i := 2) rfl)))) (List.mem_cons_of_mem _ (List.mem_append_left _ (List.mem_append_left _ (List.mem_of_getElem? (i := 3) rfl)))) (by decide +kernel)) gg_l_out_t_out
def v0_l_out (cy : Nat → ClassId) (a : Nat → Nat) (n9 : Int32) : va_W := [((a 0), .inr (10, [.ref (a 1), .ref (a 2), .ref (a 3), .ref (a 4), .ref (a 5), .ref (a 6), .ref (a 7), .ref (a 8), .ref (a 9), .ref (a 10), .int 0, .int 0, .int 0, .int 0, .ref (a 11), .ref (a 12), .ref (a 13), .int 0, .int 0, .int 0]))]
def v1_l_out (cy : Nat → ClassId) (a : Nat → Nat) (n9 : Int32) (r : Nat → Nat) : va_W := []
set_option maxHeartbeats 40000000 in
set_option maxRecDepth 100000 in
/-- out(..) of the law on a new object: it throws -/
theorem l_out (l : Launch) (hl0 : l.stackTraces = false) (dC : Nat → ClassId) (dI : Nat → Nat → Nat) (cy : Nat → ClassId) (k : Nat → Nat) (a : Nat → Nat) (n9 : Int32) (sz : Nat) : Met l yL_out w_l_out ({ frames := 7, cells := 1, slots := 6, locals := 111 }) (va_Pc [.ref (a 0), .int n9, .ref (a 14)] (nInF (dC, dI) cy k sz (v0_l_out cy a n9))) (va_Qi (fun (z : Int32) (_ : Nat → Nat) => z = 1) (fun r t => nOut (dC, dI) cy (va_A (v0_l_out cy a n9) sz) (v1_l_out cy a n9 r) t) (va_A (v0_l_out cy a n9) sz)) 1 6 (va_A (v0_l_out cy a n9) sz) := by
  refine nb_ofWH (cc := cL_out) (maxL := 4) (ret := (some .int)) (by decide) rfl ?_
  intro p e s m args below meth c s₁ B hml hv
  obtain ⟨rfl, ⟨⟨hsz, hP, hK, hD0, hG⟩, hE⟩, hT⟩ := hv
  have hx := B.exec
  have hb := B.bytes
  have hr := B.returns
  have hts := atoms_spec (ws := w_l_out) B.pre
  have hown : s.vm.findClass RL = some m.cls := findClass_of_methodNamed B.named
  have hlocks := B.notSynchronized
  subst hsz
  have hD := hD0.self (sz := s.heap.size)
  generalize hAe : va_A (v0_l_out cy a n9) s.heap.size = A at hD hE hT ⊢
  have hA : ∀ q : Nat, s.heap.size ≤ q → A q := fun q h => by rw [← hAe]; exact Or.inr h
  have hS : va_S A s.heap s.heap [] := va_S.rf
  have hP : va_P (dC, dI) nCl (v0_l_out cy a n9) s.heap := hP
  have hl := lv_entry ([.ref (a 0), .int n9, .ref (a 14)]) (n := 4) (Nat.le_of_ble_eq_true rfl)
  rw [lg_entry_eq]
  generalize (lg_sl ([.ref (a 0), .int n9, .ref (a 14)]) ++ List.replicate (4 - (lg_sl ([.ref (a 0), .int n9, .ref (a 14)])).length) Slot.unset).toArray = ls at hl ⊢
  have hl : lv_has ls 4 [(0, .ref (a 0)), (1, .int n9), (2, .ref (a 14))] := hl
  have hTb : c.exceptionTable.toList = tableOf [(0, 9, 12, 37)] := vx_table (x := yL_out) B (hts _ List.mem_cons_self)
  have hP : va_P (dC, dI) nCl [((a 0), .inr (10, [.ref (a 1), .ref (a 2), .ref (a 3), .ref (a 4), .ref (a 5), .ref (a 6), .ref (a 7), .ref (a 8), .ref (a 9), .ref (a 10), .int 0, .int 0, .int 0, .int 0, .ref (a 11), .ref (a 12), .ref (a 13), .int 0, .int 0, .int 0]))] s.heap := hP
  have hD : va_D A [((a 0), .inr (10, [.ref (a 1), .ref (a 2), .ref (a 3), .ref (a 4), .ref (a 5), .ref (a 6), .ref (a 7), .ref (a 8), .ref (a 9), .ref (a 10), .int 0, .int 0, .int 0, .int 0, .ref (a 11), .ref (a 12), .ref (a 13), .int 0, .int 0, .int 0]))] := hD
  refine lv_aload_n hx hb dL_out_0 rfl (lv_at hl 2 rfl) ?_
  refine lv_iconst (v := 0) hx hb dL_out_1 (by decide) ?_
  refine lv_aload_n hx hb dL_out_2 rfl (lv_at hl 0 rfl) ?_
  refine lv_iload_n hx hb dL_out_3 rfl (lv_at hl 1 rfl) ?_
  have hPc : va_P (dC, dI) nCl (v0_t_out cy (fun j9 => [(a 0), (a 1), (a 2), (a 3), (a 4), (a 5), (a 6), (a 7), (a 8), (a 9), (a 10), (a 11), (a 12), (a 13), (a 14)].getD j9 0) n9) s.heap := hP
  have hDc : va_D A (v0_t_out cy (fun j9 => [(a 0), (a 1), (a 2), (a 3), (a 4), (a 5), (a 6), (a 7), (a 8), (a 9), (a 10), (a 11), (a 12), (a 13), (a 14)].getD j9 0) n9) := hD
  have hFc := va_free (wc := (v0_t_out cy (fun j9 => [(a 0), (a 1), (a 2), (a 3), (a 4), (a 5), (a 6), (a 7), (a 8), (a 9), (a 10), (a 11), (a 12), (a 13), (a 14)].getD j9 0) n9)) hD hS hA [0] rfl
  refine vx_calli (vx_runV (As := [.int n9]) (rest := [.int 0, .ref (a 14)]) ⟨hx, hb, hml, hown, hts⟩ (t_out l hl0 dC dI cy k (fun j9 => [(a 0), (a 1), (a 2), (a 3), (a 4), (a 5), (a 6), (a 7), (a 8), (a 9), (a 10), (a 11), (a 12), (a 13), (a 14)].getD j9 0) n9 s.heap.size) (cwV 1 hts g_l_out_39_t_out rfl rfl rfl (by decide +kernel) ⟨Nat.le_of_ble_eq_true rfl, Nat.le_of_ble_eq_true rfl⟩) ⟨nb_blindF, va_recv hK hPc (ci := 10) (q0 := 0) rfl rfl, fun U hU hW => ⟨rfl, ⟨⟨by rw [hU], by rw [hU]; exact hPc, va_K.moved hW.alike hK, hDc.weaken (fun _ _ _ _ => trivial), hG.warm hW⟩, nE.to hE hS hW hU hFc⟩, nT.to hT hS hW hU hFc⟩⟩ rfl rfl hl.1 rfl (lv_room (Nat.le_of_ble_eq_true rfl)) dL_out_4 ⟨Nat.le_of_ble_eq_true rfl, Nat.le_of_ble_eq_true rfl⟩) hS (fun q _ h => hFc q h) hFc (fun q _ h => hFc q h) (fun E ce q9 u t H locs ht hvm hp hB hz1 hk1 hS hce hcv hcl => ?_) (fun r9 u t H1 locs ht hvm hp hB hz1 hk1 hS => hp.elim)
  subst hB
  refine vx_widen (k := 1) (n := 6) (Nat.le_of_ble_eq_true rfl) (Nat.le_of_ble_eq_true rfl) ?_
  refine vx_catch (E := "java/lang/IndexOutOfBoundsException") (name := "java/lang/IndexOutOfBoundsException") hown [] (⟨0, 9, 12, 37⟩ : ExceptionTableEntry) [] (by rw [hTb]; rfl) (fun z h => absurd h List.not_mem_nil) (by decide) (by decide) (hts _ (List.mem_cons_of_mem _ (List.mem_append_left _ (List.mem_append_left _ (List.mem_of_getElem? (i := 4) rfl))))) (va_Nw.use (by decide +kernel) (hT.2.2.1 _ (List.mem_of_getElem? (i := 2) rfl))) hce hcv hcl ?_
  have hP : va_P (dC, dI) nCl [] H := nb_nil
  have hD : va_D A [] := nb_nilD
  refine lv_astore_n (lv' := [(3, .ref q9), (0, .ref (a 0)), (1, .int n9), (2, .ref (a 14))]) hx hb dL_out_12 rfl hl (by decide) rfl (fun ls hl => ?_)
  refine lv_iconst (v := 1) hx hb dL_out_13 (by decide) ?_
  have hP : va_P (dC, dI) nCl (v1_l_out cy a n9 (fun _ => 0)) H := hP
  have hD : va_D A (v1_l_out cy a n9 (fun _ => 0)) := hD
  exact W.iret (v := 1) hx hb hr (fun t ht hW => ⟨⟨1, (fun _ => 0), rfl, rfl, by rw [ht]; exact hP, va_K.moved hW.alike hK, hD⟩, hS.F ht⟩) hS.2.2 dL_out_14
def o_l_end_n : List Cond := [.methodLink RL 15 yX11_end, .instanceMethod yX11_end, .selects RX11 yX11_end yX11_end, .initialized RX11, .classLink RL 19 "java/lang/IllegalArgumentException"]
theorem o_l_end_n_good : o_l_end_n.all goodWord = true := by decide +kernel
def p_l_end_n : List Cond := o_l_end_n ++ ((.code yX11_end cX11_end 2 none :: p_t_end_n) ++ [])
theorem p_l_end_n_good : p_l_end_n.all goodWord = true := nb_all2 o_l_end_n_good (nb_all2 (nb_allc (by decide +kernel) p_t_end_n_good) rfl)
def w_l_end_n : List Cond := .codeWith yL_end cL_end 3 (some .int) [(0, 5, 8, 19)] :: (p_l_end_n ++ fC)
theorem w_l_end_n_good : w_l_end_n.all goodWord = true := nb_allc (by decide +kernel) (nb_all2 p_l_end_n_good fC_good)
theorem gg_l_end_n_t_end_n : GoodIn w_l_end_n w_t_end_n := goodIn_sub (fun w h => (List.mem_cons.mp h).elim (fun e => (List.mem_cons_of_mem _ (List.mem_append_left _ (List.mem_append_right _ (List.mem_append_left _ (List.mem_cons.mpr (Or.inl e))))))) (fun h => (List.mem_append.mp h).elim (fun h => (List.mem_cons_of_mem _ (List.mem_append_left _ (List.mem_append_right _ (List.mem_append_left _ (List.mem_cons_of_mem _ h)))))) (fun h => List.mem_cons_of_mem _ (List.mem_append_right _ h)))) w_t_end_n_good
theorem g_l_end_n_15_t_end_n : GoodIn w_l_end_n (wsV RL 15 RX11 yX11_end w_t_end_n) := goodIn_app (nb_g4 (List.mem_cons_of_mem _ (List.mem_append_left _ (List.mem_append_left _ (List.mem_of_getElem? (i := 0) rfl)))) (List.mem_cons_of_mem _ (List.mem_append_left _ (List.mem_append_left _ (List.mem_of_getElem? (i := 1) rfl)))) (List.mem_cons_of_mem _ (List.mem_append_left _ (List.mem_append_left _ (List.mem_of_getElem? (i := 2) rfl)))) (List.mem_cons_of_mem _ (List.mem_append_left _ (List.mem_append_left _ (List.mem_of_getElem? (i := 3) rfl)))) (by decide +kernel)) gg_l_end_n_t_end_n
def v0_l_end_n (cy : Nat → ClassId) (a : Nat → Nat) (n9 : Int32) : va_W := [((a 0), .inr (10, [.ref (a 1), .ref (a 2), .ref (a 3), .ref (a 4), .ref (a 5), .ref (a 6), .ref (a 7), .ref (a 8), .ref (a 9), .ref (a 10), .int 0, .int 0, .int 0, .int 0, .ref (a 11), .ref (a 12), .ref (a 13), .int 0, .int 0, .int 0]))]
def v1_l_end_n (cy : Nat → ClassId) (a : Nat → Nat) (n9 : Int32) (r : Nat → Nat) : va_W := []
set_option maxHeartbeats 40000000 in
set_option maxRecDepth 100000 in
/-- end(..) of the law on a new object: it throws -/
theorem l_end_n (l : Launch) (hl0 : l.stackTraces = false) (dC : Nat → ClassId) (dI : Nat → Nat → Nat) (cy : Nat → ClassId) (k : Nat → Nat) (a : Nat → Nat) (n9 : Int32) (h1 : n9 < 0) (sz : Nat) : Met l yL_end w_l_end_n ({ frames := 7, cells := 1, slots := 6, locals := 111 }) (va_Pc [.ref (a 0), .int n9] (nInF (dC, dI) cy k sz (v0_l_end_n cy a n9))) (va_Qi (fun (z : Int32) (_ : Nat → Nat) => z = 1) (fun r t => nOut (dC, dI) cy (va_A (v0_l_end_n cy a n9) sz) (v1_l_end_n cy a n9 r) t) (va_A (v0_l_end_n cy a n9) sz)) 1 6 (va_A (v0_l_end_n cy a n9) sz) := by
  refine nb_ofWH (cc := cL_end) (maxL := 3) (ret := (some .int)) (by decide) rfl ?_
  intro p e s m args below meth c s₁ B hml hv
  obtain ⟨rfl, ⟨⟨hsz, hP, hK, hD0, hG⟩, hE⟩, hT⟩ := hv
  have hx := B.exec
  have hb := B.bytes
  have hr := B.returns
  have hts := atoms_spec (ws := w_l_end_n) B.pre
  have hown : s.vm.findClass RL = some m.cls := findClass_of_methodNamed B.named
  have hlocks := B.notSynchronized
  subst hsz
  have hD := hD0.self (sz := s.heap.size)
  generalize hAe : va_A (v0_l_end_n cy a n9) s.heap.size = A at hD hE hT ⊢
  have hA : ∀ q : Nat, s.heap.size ≤ q → A q := fun q h => by rw [← hAe]; exact Or.inr h
  have hS : va_S A s.heap s.heap [] := va_S.rf
  have hP : va_P (dC, dI) nCl (v0_l_end_n cy a n9) s.heap := hP
  have hl := lv_entry ([.ref (a 0), .int n9]) (n := 3) (Nat.le_of_ble_eq_true rfl)
  rw [lg_entry_eq]
  generalize (lg_sl ([.ref (a 0), .int n9]) ++ List.replicate (3 - (lg_sl ([.ref (a 0), .int n9])).length) Slot.unset).toArray = ls at hl ⊢
  have hl : lv_has ls 3 [(0, .ref (a 0)), (1, .int n9)] := hl
  have hTb : c.exceptionTable.toList = tableOf [(0, 5, 8, 19)] := vx_table (x := yL_end) B (hts _ List.mem_cons_self)
  have hP : va_P (dC, dI) nCl [((a 0), .inr (10, [.ref (a 1), .ref (a 2), .ref (a 3), .ref (a 4), .ref (a 5), .ref (a 6), .ref (a 7), .ref (a 8), .ref (a 9), .ref (a 10), .int 0, .int 0, .int 0, .int 0, .ref (a 11), .ref (a 12), .ref (a 13), .int 0, .int 0, .int 0]))] s.heap := hP
  have hD : va_D A [((a 0), .inr (10, [.ref (a 1), .ref (a 2), .ref (a 3), .ref (a 4), .ref (a 5), .ref (a 6), .ref (a 7), .ref (a 8), .ref (a 9), .ref (a 10), .int 0, .int 0, .int 0, .int 0, .ref (a 11), .ref (a 12), .ref (a 13), .int 0, .int 0, .int 0]))] := hD
  refine lv_aload_n hx hb dL_end_0 rfl (lv_at hl 0 rfl) ?_
  refine lv_iload_n hx hb dL_end_1 rfl (lv_at hl 1 rfl) ?_
  have hPc : va_P (dC, dI) nCl (v0_t_end_n cy (fun j9 => [(a 0), (a 1), (a 2), (a 3), (a 4), (a 5), (a 6), (a 7), (a 8), (a 9), (a 10), (a 11), (a 12), (a 13)].getD j9 0) n9) s.heap := hP
  have hDc : va_D A (v0_t_end_n cy (fun j9 => [(a 0), (a 1), (a 2), (a 3), (a 4), (a 5), (a 6), (a 7), (a 8), (a 9), (a 10), (a 11), (a 12), (a 13)].getD j9 0) n9) := hD
  have hFc := va_free (wc := (v0_t_end_n cy (fun j9 => [(a 0), (a 1), (a 2), (a 3), (a 4), (a 5), (a 6), (a 7), (a 8), (a 9), (a 10), (a 11), (a 12), (a 13)].getD j9 0) n9)) hD hS hA [0] rfl
  refine vx_callv (vx_runV (As := [.int n9]) (rest := []) ⟨hx, hb, hml, hown, hts⟩ (t_end_n l hl0 dC dI cy k (fun j9 => [(a 0), (a 1), (a 2), (a 3), (a 4), (a 5), (a 6), (a 7), (a 8), (a 9), (a 10), (a 11), (a 12), (a 13)].getD j9 0) n9 h1 s.heap.size) (cwV 1 hts g_l_end_n_15_t_end_n rfl rfl rfl (by decide +kernel) ⟨Nat.le_of_ble_eq_true rfl, Nat.le_of_ble_eq_true rfl⟩) ⟨nb_blindF, va_recv hK hPc (ci := 10) (q0 := 0) rfl rfl, fun U hU hW => ⟨rfl, ⟨⟨by rw [hU], by rw [hU]; exact hPc, va_K.moved hW.alike hK, hDc.weaken (fun _ _ _ _ => trivial), hG.warm hW⟩, nE.to hE hS hW hU hFc⟩, nT.to hT hS hW hU hFc⟩⟩ rfl rfl hl.1 rfl (lv_room (Nat.le_of_ble_eq_true rfl)) dL_end_2 ⟨Nat.le_of_ble_eq_true rfl, Nat.le_of_ble_eq_true rfl⟩) hS (fun q _ h => hFc q h) hFc (fun q _ h => hFc q h) (fun E ce q9 u t H locs ht hvm hp hB hz1 hk1 hS hce hcv hcl => ?_) (fun u t H1 locs ht hvm hp hB hz1 hk1 hS => hp.elim)
  subst hB
  refine vx_widen (k := 1) (n := 6) (Nat.le_of_ble_eq_true rfl) (Nat.le_of_ble_eq_true rfl) ?_
  refine vx_catch (E := "java/lang/IllegalArgumentException") (name := "java/lang/IllegalArgumentException") hown [] (⟨0, 5, 8, 19⟩ : ExceptionTableEntry) [] (by rw [hTb]; rfl) (fun z h => absurd h List.not_mem_nil) (by decide) (by decide) (hts _ (List.mem_cons_of_mem _ (List.mem_append_left _ (List.mem_append_left _ (List.mem_of_getElem? (i := 4) rfl))))) (va_Nw.use (by decide +kernel) (hT.2.2.1 _ (List.mem_of_getElem? (i := 1) rfl))) hce hcv hcl ?_
  have hP : va_P (dC, dI) nCl [] H := nb_nil
  have hD : va_D A [] := nb_nilD
  refine lv_astore_n (lv' := [(2, .ref q9), (0, .ref (a 0)), (1, .int n9)]) hx hb dL_end_8 rfl hl (by decide) rfl (fun ls hl => ?_)
  refine lv_iconst (v := 1) hx hb dL_end_9 (by decide) ?_
  have hP : va_P (dC, dI) nCl (v1_l_end_n cy a n9 (fun _ => 0)) H := hP
  have hD : va_D A (v1_l_end_n cy a n9 (fun _ => 0)) := hD
  exact W.iret (v := 1) hx hb hr (fun t ht hW => ⟨⟨1, (fun _ => 0), rfl, rfl, by rw [ht]; exact hP, va_K.moved hW.alike hK, hD⟩, hS.F ht⟩) hS.2.2 dL_end_10
def o_l_end_p : List Cond := [.methodLink RL 15 yX11_end, .instanceMethod yX11_end, .selects RX11 yX11_end yX11_end, .initialized RX11, .classLink RL 19 "java/lang/IllegalArgumentException"]
theorem o_l_end_p_good : o_l_end_p.all goodWord = true := by decide +kernel
def p_l_end_p : List Cond := o_l_end_p ++ ((.code yX11_end cX11_end 2 none :: p_t_end_p) ++ [])
theorem p_l_end_p_good : p_l_end_p.all goodWord = true := nb_all2 o_l_end_p_good (nb_all2 (nb_allc (by decide +kernel) p_t_end_p_good) rfl)
def w_l_end_p : List Cond := .codeWith yL_end cL_end 3 (some .int) [(0, 5, 8, 19)] :: (p_l_end_p ++ fC)
theorem w_l_end_p_good : w_l_end_p.all goodWord = true := nb_allc (by decide +kernel) (nb_all2 p_l_end_p_good fC_good)
theorem gg_l_end_p_t_end_p : GoodIn w_l_end_p w_t_end_p := goodIn_sub (fun w h => (List.mem_cons.mp h).elim (fun e => (List.mem_cons_of_mem _ (List.mem_append_left _ (List.mem_append_right _ (List.mem_append_left _ (List.mem_cons.mpr (Or.inl e))))))) (fun h => (List.mem_append.mp h).elim (fun h => (List.mem_cons_of_mem _ (List.mem_append_left _ (List.mem_append_right _ (List.mem_append_left _ (List.mem_cons_of_mem _ h)))))) (fun h => List.mem_cons_of_mem _ (List.mem_append_right _ h)))) w_t_end_p_good
theorem g_l_end_p_15_t_end_p : GoodIn w_l_end_p (wsV RL 15 RX11 yX11_end w_t_end_p) := goodIn_app (nb_g4 (List.mem_cons_of_mem _ (List.mem_append_left _ (List.mem_append_left _ (List.mem_of_getElem? (i := 0) rfl)))) (List.mem_cons_of_mem _ (List.mem_append_left _ (List.mem_append_left _ (List.mem_of_getElem? (i := 1) rfl)))) (List.mem_cons_of_mem _ (List.mem_append_left _ (List.mem_append_left _ (List.mem_of_getElem? (i := 2) rfl)))) (List.mem_cons_of_mem _ (List.mem_append_left _ (List.mem_append_left _ (List.mem_of_getElem? (i := 3) rfl)))) (by decide +kernel)) gg_l_end_p_t_end_p
def v0_l_end_p (cy : Nat → ClassId) (a : Nat → Nat) (n9 : Int32) : va_W := [((a 0), .inr (10, [.ref (a 2), .ref (a 3), .ref (a 4), .ref (a 5), .ref (a 6), .ref (a 7), .ref (a 1), .ref (a 8), .ref (a 9), .ref (a 10), .int 0, .int 0, .int 0, .int 0, .ref (a 11), .ref (a 12), .ref (a 13), .int 0, .int 0, .int 0])), ((a 1), .inr (2, [.ref (a 14), .int 0, .int 0, .int 0, .int 0, .long 0, .long 0, .ref (a 15)]))]
def v1_l_end_p (cy : Nat → ClassId) (a : Nat → Nat) (n9 : Int32) (r : Nat → Nat) : va_W := []
set_option maxHeartbeats 40000000 in
set_option maxRecDepth 100000 in
/-- end(..) of the law on a new object: it throws -/
theorem l_end_p (l : Launch) (hl0 : l.stackTraces = false) (dC : Nat → ClassId) (dI : Nat → Nat → Nat) (cy : Nat → ClassId) (k : Nat → Nat) (a : Nat → Nat) (n9 : Int32) (h1 : ¬ n9 < 0) (h2 : ¬ n9 ≤ 0) (sz : Nat) : Met l yL_end w_l_end_p ({ frames := 7, cells := 1, slots := 6, locals := 111 }) (va_Pc [.ref (a 0), .int n9] (nInF (dC, dI) cy k sz (v0_l_end_p cy a n9))) (va_Qi (fun (z : Int32) (_ : Nat → Nat) => z = 1) (fun r t => nOut (dC, dI) cy (va_A (v0_l_end_p cy a n9) sz) (v1_l_end_p cy a n9 r) t) (va_A (v0_l_end_p cy a n9) sz)) 1 6 (va_A (v0_l_end_p cy a n9) sz) := by
  refine nb_ofWH (cc := cL_end) (maxL := 3) (ret := (some .int)) (by decide) rfl ?_
  intro p e s m args below meth c s₁ B hml hv
  obtain ⟨rfl, ⟨⟨hsz, hP, hK, hD0, hG⟩, hE⟩, hT⟩ := hv
  have hx := B.exec
  have hb := B.bytes
  have hr := B.returns
  have hts := atoms_spec (ws := w_l_end_p) B.pre
  have hown : s.vm.findClass RL = some m.cls := findClass_of_methodNamed B.named
  have hlocks := B.notSynchronized
  subst hsz
  have hD := hD0.self (sz := s.heap.size)
  generalize hAe : va_A (v0_l_end_p cy a n9) s.heap.size = A at hD hE hT ⊢
  have hA : ∀ q : Nat, s.heap.size ≤ q → A q := fun q h => by rw [← hAe]; exact Or.inr h
  have hS : va_S A s.heap s.heap [] := va_S.rf
  have hP : va_P (dC, dI) nCl (v0_l_end_p cy a n9) s.heap := hP
  have hl := lv_entry ([.ref (a 0), .int n9]) (n := 3) (Nat.le_of_ble_eq_true rfl)
  rw [lg_entry_eq]
  generalize (lg_sl ([.ref (a 0), .int n9]) ++ List.replicate (3 - (lg_sl ([.ref (a 0), .int n9])).length) Slot.unset).toArray = ls at hl ⊢
  have hl : lv_has ls 3 [(0, .ref (a 0)), (1, .int n9)] := hl
  have hTb : c.exceptionTable.toList = tableOf [(0, 5, 8, 19)] := vx_table (x := yL_end) B (hts _ List.mem_cons_self)
  have hP : va_P (dC, dI) nCl [((a 0), .inr (10, [.ref (a 2), .ref (a 3), .ref (a 4), .ref (a 5), .ref (a 6), .ref (a 7), .ref (a 1), .ref (a 8), .ref (a 9), .ref (a 10), .int 0, .int 0, .int 0, .int 0, .ref (a 11), .ref (a 12), .ref (a 13), .int 0, .int 0, .int 0])), ((a 1), .inr (2, [.ref (a 14), .int 0, .int 0, .int 0, .int 0, .long 0, .long 0, .ref (a 15)]))] s.heap := hP
  have hD : va_D A [((a 0), .inr (10, [.ref (a 2), .ref (a 3), .ref (a 4), .ref (a 5), .ref (a 6), .ref (a 7), .ref (a 1), .ref (a 8), .ref (a 9), .ref (a 10), .int 0, .int 0, .int 0, .int 0, .ref (a 11), .ref (a 12), .ref (a 13), .int 0, .int 0, .int 0])), ((a 1), .inr (2, [.ref (a 14), .int 0, .int 0, .int 0, .int 0, .long 0, .long 0, .ref (a 15)]))] := hD
  refine lv_aload_n hx hb dL_end_0 rfl (lv_at hl 0 rfl) ?_
  refine lv_iload_n hx hb dL_end_1 rfl (lv_at hl 1 rfl) ?_
  have hPc : va_P (dC, dI) nCl (v0_t_end_p cy (fun j9 => [(a 0), (a 1), (a 2), (a 3), (a 4), (a 5), (a 6), (a 7), (a 8), (a 9), (a 10), (a 11), (a 12), (a 13), (a 14), (a 15)].getD j9 0) n9) s.heap := hP
  have hDc : va_D A (v0_t_end_p cy (fun j9 => [(a 0), (a 1), (a 2), (a 3), (a 4), (a 5), (a 6), (a 7), (a 8), (a 9), (a 10), (a 11), (a 12), (a 13), (a 14), (a 15)].getD j9 0) n9) := hD
  have hFc := va_free (wc := (v0_t_end_p cy (fun j9 => [(a 0), (a 1), (a 2), (a 3), (a 4), (a 5), (a 6), (a 7), (a 8), (a 9), (a 10), (a 11), (a 12), (a 13), (a 14), (a 15)].getD j9 0) n9)) hD hS hA [0, 1] rfl
  refine vx_callv (vx_runV (As := [.int n9]) (rest := []) ⟨hx, hb, hml, hown, hts⟩ (t_end_p l hl0 dC dI cy k (fun j9 => [(a 0), (a 1), (a 2), (a 3), (a 4), (a 5), (a 6), (a 7), (a 8), (a 9), (a 10), (a 11), (a 12), (a 13), (a 14), (a 15)].getD j9 0) n9 h1 h2 s.heap.size) (cwV 1 hts g_l_end_p_15_t_end_p rfl rfl rfl (by decide +kernel) ⟨Nat.le_of_ble_eq_true rfl, Nat.le_of_ble_eq_true rfl⟩) ⟨nb_blindF, va_recv hK hPc (ci := 10) (q0 := 0) rfl rfl, fun U hU hW => ⟨rfl, ⟨⟨by rw [hU], by rw [hU]; exact hPc, va_K.moved hW.alike hK, hDc.weaken (fun _ _ _ _ => trivial), hG.warm hW⟩, nE.to hE hS hW hU hFc⟩, nT.to hT hS hW hU hFc⟩⟩ rfl rfl hl.1 rfl (lv_room (Nat.le_of_ble_eq_true rfl)) dL_end_2 ⟨Nat.le_of_ble_eq_true rfl, Nat.le_of_ble_eq_true rfl⟩) hS (fun q _ h => hFc q h) hFc (fun q _ h => hFc q h) (fun E ce q9 u t H locs ht hvm hp hB hz1 hk1 hS hce hcv hcl => ?_) (fun u t H1 locs ht hvm hp hB hz1 hk1 hS => hp.elim)
  subst hB
  refine vx_widen (k := 1) (n := 6) (Nat.le_of_ble_eq_true rfl) (Nat.le_of_ble_eq_true rfl) ?_
  refine vx_catch (E := "java/lang/IllegalArgumentException") (name := "java/lang/IllegalArgumentException") hown [] (⟨0, 5, 8, 19⟩ : ExceptionTableEntry) [] (by rw [hTb]; rfl) (fun z h => absurd h List.not_mem_nil) (by decide) (by decide) (hts _ (List.mem_cons_of_mem _ (List.mem_append_left _ (List.mem_append_left _ (List.mem_of_getElem? (i := 4) rfl))))) (va_Nw.use (by decide +kernel) (hT.2.2.1 _ (List.mem_of_getElem? (i := 1) rfl))) hce hcv hcl ?_
  have hP : va_P (dC, dI) nCl [] H := nb_nil
  have hD : va_D A [] := nb_nilD
  refine lv_astore_n (lv' := [(2, .ref q9), (0, .ref (a 0)), (1, .int n9)]) hx hb dL_end_8 rfl hl (by decide) rfl (fun ls hl => ?_)
  refine lv_iconst (v := 1) hx hb dL_end_9 (by decide) ?_
  have hP : va_P (dC, dI) nCl (v1_l_end_p cy a n9 (fun _ => 0)) H := hP
  have hD : va_D A (v1_l_end_p cy a n9 (fun _ => 0)) := hD
  exact W.iret (v := 1) hx hb hr (fun t ht hW => ⟨⟨1, (fun _ => 0), rfl, rfl, by rw [ht]; exact hP, va_K.moved hW.alike hK, hD⟩, hS.F ht⟩) hS.2.2 dL_end_10
def o_l_state_n : List Cond := [.methodLink RL 34 yX11_state, .instanceMethod yX11_state, .selects RX11 yX11_state yX11_state, .initialized RX11, .classLink RL 37 "java/lang/IndexOutOfBoundsException"]
theorem o_l_state_n_good : o_l_state_n.all goodWord = true := by decide +kernel
def p_l_state_n : List Cond := o_l_state_n ++ ((.code yX11_state cX11_state 3 (some .int) :: p_t_state_n) ++ [])
theorem p_l_state_n_good : p_l_state_n.all goodWord = true := nb_all2 o_l_state_n_good (nb_all2 (nb_allc (by decide +kernel) p_t_state_n_good) rfl)
def w_l_state_n : List Cond := .codeWith yL_state cL_state 4 (some .int) [(0, 9, 12, 37), (0, 9, 15, 25)] :: (p_l_state_n ++ fC)
theorem w_l_state_n_good : w_l_state_n.all goodWord = true := nb_allc (by decide +kernel) (nb_all2 p_l_state_n_good fC_good)
theorem gg_l_state_n_t_state_n : GoodIn w_l_state_n w_t_state_n := goodIn_sub (fun w h => (List.mem_cons.mp h).elim (fun e => (List.mem_cons_of_mem _ (List.mem_append_left _ (List.mem_append_right _ (List.mem_append_left _ (List.mem_cons.mpr (Or.inl e))))))) (fun h => (List.mem_append.mp h).elim (fun h => (List.mem_cons_of_mem _ (List.mem_append_left _ (List.mem_append_right _ (List.mem_append_left _ (List.mem_cons_of_mem _ h)))))) (fun h => List.mem_cons_of_mem _ (List.mem_append_right _ h)))) w_t_state_n_good
theorem g_l_state_n_34_t_state_n : GoodIn w_l_state_n (wsV RL 34 RX11 yX11_state w_t_state_n) := goodIn_app (nb_g4 (List.mem_cons_of_mem _ (List.mem_append_left _ (List.mem_append_left _ (List.mem_of_getElem? (i := 0) rfl)))) (List.mem_cons_of_mem _ (List.mem_append_left _ (List.mem_append_left _ (List.mem_of_getElem? (i := 1) rfl)))) (List.mem_cons_of_mem _ (List.mem_append_left _ (List.mem_append_left _ (List.mem_of_getElem? (i := 2) rfl)))) (List.mem_cons_of_mem _ (List.mem_append_left _ (List.mem_append_left _ (List.mem_of_getElem? (i := 3) rfl)))) (by decide +kernel)) gg_l_state_n_t_state_n
def v0_l_state_n (cy : Nat → ClassId) (a : Nat → Nat) (n9 : Int32) : va_W := [((a 0), .inr (10, [.ref (a 1), .ref (a 2), .ref (a 3), .ref (a 4), .ref (a 5), .ref (a 6), .ref (a 7), .ref (a 8), .ref (a 9), .ref (a 10), .int 0, .int 0, .int 0, .int 0, .ref (a 11), .ref (a 12), .ref (a 13), .int 0, .int 0, .int 0]))]
def v1_l_state_n (cy : Nat → ClassId) (a : Nat → Nat) (n9 : Int32) (r : Nat → Nat) : va_W := []
set_option maxHeartbeats 40000000 in
set_option maxRecDepth 100000 in
/-- state(..) of the law on a new object: it throws -/
theorem l_state_n (l : Launch) (hl0 : l.stackTraces = false) (dC : Nat → ClassId) (dI : Nat → Nat → Nat) (cy : Nat → ClassId) (k : Nat → Nat) (a : Nat → Nat) (n9 : Int32) (h1 : n9 < 0) (sz : Nat) : Met l yL_state w_l_state_n ({ frames := 7, cells := 1, slots := 6, locals := 112 }) (va_Pc [.ref (a 0), .int n9, .ref (a 14)] (nInF (dC, dI) cy k sz (v0_l_state_n cy a n9))) (va_Qi (fun (z : Int32) (_ : Nat → Nat) => z = 1) (fun r t => nOut (dC, dI) cy (va_A (v0_l_state_n cy a n9) sz) (v1_l_state_n cy a n9 r) t) (va_A (v0_l_state_n cy a n9) sz)) 1 6 (va_A (v0_l_state_n cy a n9) sz) := by
  refine nb_ofWH (cc := cL_state) (maxL := 4) (ret := (some .int)) (by decide) rfl ?_
  intro p e s m args below meth c s₁ B hml hv
  obtain ⟨rfl, ⟨⟨hsz, hP, hK, hD0, hG⟩, hE⟩, hT⟩ := hv
  have hx := B.exec
  have hb := B.bytes
  have hr := B.returns
  have hts := atoms_spec (ws := w_l_state_n) B.pre
  have hown : s.vm.findClass RL = some m.cls := findClass_of_methodNamed B.named
  have hlocks := B.notSynchronized
  subst hsz
  have hD := hD0.self (sz := s.heap.size)
  generalize hAe : va_A (v0_l_state_n cy a n9) s.heap.size = A at hD hE hT ⊢
  have hA : ∀ q : Nat, s.heap.size ≤ q → A q := fun q h => by rw [← hAe]; exact Or.inr h
  have hS : va_S A s.heap s.heap [] := va_S.rf
  have hP : va_P (dC, dI) nCl (v0_l_state_n cy a n9) s.heap := hP
  have hl := lv_entry ([.ref (a 0), .int n9, .ref (a 14)]) (n := 4) (Nat.le_of_ble_eq_true rfl)
  rw [lg_entry_eq]
  generalize (lg_sl ([.ref (a 0), .int n9, .ref (a 14)]) ++ List.replicate (4 - (lg_sl ([.ref (a 0), .int n9, .ref (a 14)])).length) Slot.unset).toArray = ls at hl ⊢
  have hl : lv_has ls 4 [(0, .ref (a 0)), (1, .int n9), (2, .ref (a 14))] := hl
  have hTb : c.exceptionTable.toList = tableOf [(0, 9, 12, 37), (0, 9, 15, 25)] := vx_table (x := yL_state) B (hts _ List.mem_cons_self)
  have hP : va_P (dC, dI) nCl [((a 0), .inr (10, [.ref (a 1), .ref (a 2), .ref (a 3), .ref (a 4), .ref (a 5), .ref (a 6), .ref (a 7), .ref (a 8), .ref (a 9), .ref (a 10), .int 0, .int 0, .int 0, .int 0, .ref (a 11), .ref (a 12), .ref (a 13), .int 0, .int 0, .int 0]))] s.heap := hP
  have hD : va_D A [((a 0), .inr (10, [.ref (a 1), .ref (a 2), .ref (a 3), .ref (a 4), .ref (a 5), .ref (a 6), .ref (a 7), .ref (a 8), .ref (a 9), .ref (a 10), .int 0, .int 0, .int 0, .int 0, .ref (a 11), .ref (a 12), .ref (a 13), .int 0, .int 0, .int 0]))] := hD
  refine lv_aload_n hx hb dL_state_0 rfl (lv_at hl 2 rfl) ?_
  refine lv_iconst (v := 0) hx hb dL_state_1 (by decide) ?_
  refine lv_aload_n hx hb dL_state_2 rfl (lv_at hl 0 rfl) ?_
  refine lv_iload_n hx hb dL_state_3 rfl (lv_at hl 1 rfl) ?_
  have hPc : va_P (dC, dI) nCl (v0_t_state_n cy (fun j9 => [(a 0), (a 1), (a 2), (a 3), (a 4), (a 5), (a 6), (a 7), (a 8), (a 9), (a 10), (a 11), (a 12), (a 13), (a 14)].getD j9 0) n9) s.heap := hP
  have hDc : va_D A (v0_t_state_n cy (fun j9 => [(a 0), (a 1), (a 2), (a 3), (a 4), (a 5), (a 6), (a 7), (a 8), (a 9), (a 10), (a 11), (a 12), (a 13), (a 14)].getD j9 0) n9) := hD
  have hFc := va_free (wc := (v0_t_state_n cy (fun j9 => [(a 0), (a 1), (a 2), (a 3), (a 4), (a 5), (a 6), (a 7), (a 8), (a 9), (a 10), (a 11), (a 12), (a 13), (a 14)].getD j9 0) n9)) hD hS hA [0] rfl
  refine vx_calli (vx_runV (As := [.int n9]) (rest := [.int 0, .ref (a 14)]) ⟨hx, hb, hml, hown, hts⟩ (t_state_n l hl0 dC dI cy k (fun j9 => [(a 0), (a 1), (a 2), (a 3), (a 4), (a 5), (a 6), (a 7), (a 8), (a 9), (a 10), (a 11), (a 12), (a 13), (a 14)].getD j9 0) n9 h1 s.heap.size) (cwV 1 hts g_l_state_n_34_t_state_n rfl rfl rfl (by decide +kernel) ⟨Nat.le_of_ble_eq_true rfl, Nat.le_of_ble_eq_true rfl⟩) ⟨nb_blindF, va_recv hK hPc (ci := 10) (q0 := 0) rfl rfl, fun U hU hW => ⟨rfl, ⟨⟨by rw [hU], by rw [hU]; exact hPc, va_K.moved hW.alike hK, hDc.weaken (fun _ _ _ _ => trivial), hG.warm hW⟩, nE.to hE hS hW hU hFc⟩, nT.to hT hS hW hU hFc⟩⟩ rfl rfl hl.1 rfl (lv_room (Nat.le_of_ble_eq_true rfl)) dL_state_4 ⟨Nat.le_of_ble_eq_true rfl, Nat.le_of_ble_eq_true rfl⟩) hS (fun q _ h => hFc q h) hFc (fun q _ h => hFc q h) (fun E ce q9 u t H locs ht hvm hp hB hz1 hk1 hS hce hcv hcl => ?_) (fun r9 u t H1 locs ht hvm hp hB hz1 hk1 hS => hp.elim)
  subst hB
  refine vx_widen (k := 1) (n := 6) (Nat.le_of_ble_eq_true rfl) (Nat.le_of_ble_eq_true rfl) ?_
  refine vx_catch (E := "java/lang/IndexOutOfBoundsException") (name := "java/lang/IndexOutOfBoundsException") hown [] (⟨0, 9, 12, 37⟩ : ExceptionTableEntry) [(⟨0, 9, 15, 25⟩ : ExceptionTableEntry)] (by rw [hTb]; rfl) (fun z h => absurd h List.not_mem_nil) (by decide) (by decide) (hts _ (List.mem_cons_of_mem _ (List.mem_append_left _ (List.mem_append_left _ (List.mem_of_getElem? (i := 4) rfl))))) (va_Nw.use (by decide +kernel) (hT.2.2.1 _ (List.mem_of_getElem? (i := 2) rfl))) hce hcv hcl ?_
  have hP : va_P (dC, dI) nCl [] H := nb_nil
  have hD : va_D A [] := nb_nilD
  refine lv_astore_n (lv' := [(3, .ref q9), (0, .ref (a 0)), (1, .int n9), (2, .ref (a 14))]) hx hb dL_state_12 rfl hl (by decide) rfl (fun ls hl => ?_)
  refine lv_iconst (v := 1) hx hb dL_state_13 (by decide) ?_
  have hP : va_P (dC, dI) nCl (v1_l_state_n cy a n9 (fun _ => 0)) H := hP
  have hD : va_D A (v1_l_state_n cy a n9 (fun _ => 0)) := hD
  exact W.iret (v := 1) hx hb hr (fun t ht hW => ⟨⟨1, (fun _ => 0), rfl, rfl, by rw [ht]; exact hP, va_K.moved hW.alike hK, hD⟩, hS.F ht⟩) hS.2.2 dL_state_14
def o_l_state_p : List Cond := [.methodLink RL 34 yX11_state, .instanceMethod yX11_state, .selects RX11 yX11_state yX11_state, .initialized RX11, .classLink RL 37 "java/lang/IndexOutOfBoundsException"]
theorem o_l_state_p_good : o_l_state_p.all goodWord = true := by decide +kernel
def p_l_state_p : List Cond := o_l_state_p ++ ((.code yX11_state cX11_state 3 (some .int) :: p_t_state_p) ++ [])
theorem p_l_state_p_good : p_l_state_p.all goodWord = true := nb_all2 o_l_state_p_good (nb_all2 (nb_allc (by decide +kernel) p_t_state_p_good) rfl)
def w_l_state_p : List Cond := .codeWith yL_state cL_state 4 (some .int) [(0, 9, 12, 37), (0, 9, 15, 25)] :: (p_l_state_p ++ fC)
theorem w_l_state_p_good : w_l_state_p.all goodWord = true := nb_allc (by decide +kernel) (nb_all2 p_l_state_p_good fC_good)
theorem gg_l_state_p_t_state_p : GoodIn w_l_state_p w_t_state_p := goodIn_sub (fun w h => (List.mem_cons.mp h).elim (fun e => (List.mem_cons_of_mem _ (List.mem_append_left _ (List.mem_append_right _ (List.mem_append_left _ (List.mem_cons.mpr (Or.inl e))))))) (fun h => (List.mem_append.mp h).elim (fun h => (List.mem_cons_of_mem _ (List.mem_append_left _ (List.mem_append_right _ (List.mem_append_left _ (List.mem_cons_of_mem _ h)))))) (fun h => List.mem_cons_of_mem _ (List.mem_append_right _ h)))) w_t_state_p_good
theorem g_l_state_p_34_t_state_p : GoodIn w_l_state_p (wsV RL 34 RX11 yX11_state w_t_state_p) := goodIn_app (nb_g4 (List.mem_cons_of_mem _ (List.mem_append_left _ (List.mem_append_left _ (List.mem_of_getElem? (i := 0) rfl)))) (List.mem_cons_of_mem _ (List.mem_append_left _ (List.mem_append_left _ (List.mem_of_getElem? (i := 1) rfl)))) (List.mem_cons_of_mem _ (List.mem_append_left _ (List.mem_append_left _ (List.mem_of_getElem? (i := 2) rfl)))) (List.mem_cons_of_mem _ (List.mem_append_left _ (List.mem_append_left _ (List.mem_of_getElem? (i := 3) rfl)))) (by decide +kernel)) gg_l_state_p_t_state_p
def v0_l_state_p (cy : Nat → ClassId) (a : Nat → Nat) (n9 : Int32) : va_W := [((a 0), .inr (10, [.ref (a 1), .ref (a 2), .ref (a 3), .ref (a 4), .ref (a 5), .ref (a 6), .ref (a 7), .ref (a 8), .ref (a 9), .ref (a 10), .int 0, .int 0, .int 0, .int 0, .ref (a 11), .ref (a 12), .ref (a 13), .int 0, .int 0, .int 0]))]
def v1_l_state_p (cy : Nat → ClassId) (a : Nat → Nat) (n9 : Int32) (r : Nat → Nat) : va_W := []
set_option maxHeartbeats 40000000 in
set_option maxRecDepth 100000 in
/-- state(..) of the law on a new object: it throws -/
theorem l_state_p (l : Launch) (hl0 : l.stackTraces = false) (dC : Nat → ClassId) (dI : Nat → Nat → Nat) (cy : Nat → ClassId) (k : Nat → Nat) (a : Nat → Nat) (n9 : Int32) (h1 : ¬ n9 < 0) (h2 : ¬ n9 ≤ 9) (sz : Nat) : Met l yL_state w_l_state_p ({ frames := 7, cells := 1, slots := 6, locals := 112 }) (va_Pc [.ref (a 0), .int n9, .ref (a 14)] (nInF (dC, dI) cy k sz (v0_l_state_p cy a n9))) (va_Qi (fun (z : Int32) (_ : Nat → Nat) => z = 1) (fun r t => nOut (dC, dI) cy (va_A (v0_l_state_p cy a n9) sz) (v1_l_state_p cy a n9 r) t) (va_A (v0_l_state_p cy a n9) sz)) 1 6 (va_A (v0_l_state_p cy a n9) sz) := by
  refine nb_ofWH (cc := cL_state) (maxL := 4) (ret := (some .int)) (by decide) rfl ?_
  intro p e s m args below meth c s₁ B hml hv
  obtain ⟨rfl, ⟨⟨hsz, hP, hK, hD0, hG⟩, hE⟩, hT⟩ := hv
  have hx := B.exec
  have hb := B.bytes
  have hr := B.returns
  have hts := atoms_spec (ws := w_l_state_p) B.pre
  have hown : s.vm.findClass RL = some m.cls := findClass_of_methodNamed B.named
  have hlocks := B.notSynchronized
  subst hsz
  have hD := hD0.self (sz := s.heap.size)
  generalize hAe : va_A (v0_l_state_p cy a n9) s.heap.size = A at hD hE hT ⊢
  have hA : ∀ q : Nat, s.heap.size ≤ q → A q := fun q h => by rw [← hAe]; exact Or.inr h
  have hS : va_S A s.heap s.heap [] := va_S.rf
  have hP : va_P (dC, dI) nCl (v0_l_state_p cy a n9) s.heap := hP
  have hl := lv_entry ([.ref (a 0), .int n9, .ref (a 14)]) (n := 4) (Nat.le_of_ble_eq_true rfl)
  rw [lg_entry_eq]
  generalize (lg_sl ([.ref (a 0), .int n9, .ref (a 14)]) ++ List.replicate (4 - (lg_sl ([.ref (a 0), .int n9, .ref (a 14)])).length) Slot.unset).toArray = ls at hl ⊢
  have hl : lv_has ls 4 [(0, .ref (a 0)), (1, .int n9), (2, .ref (a 14))] := hl
  have hTb : c.exceptionTable.toList = tableOf [(0, 9, 12, 37), (0, 9, 15, 25)] := vx_table (x := yL_state) B (hts _ List.mem_cons_self)
  have hP : va_P (dC, dI) nCl [((a 0), .inr (10, [.ref (a 1), .ref (a 2), .ref (a 3), .ref (a 4), .ref (a 5), .ref (a 6), .ref (a 7), .ref (a 8), .ref (a 9), .ref (a 10), .int 0, .int 0, .int 0, .int 0, .ref (a 11), .ref (a 12), .ref (a 13), .int 0, .int 0, .int 0]))] s.heap := hP
  have hD : va_D A [((a 0), .inr (10, [.ref (a 1), .ref (a 2), .ref (a 3), .ref (a 4), .ref (a 5), .ref (a 6), .ref (a 7), .ref (a 8), .ref (a 9), .ref (a 10), .int 0, .int 0, .int 0, .int 0, .ref (a 11), .ref (a 12), .ref (a 13), .int 0, .int 0, .int 0]))] := hD
  refine lv_aload_n hx hb dL_state_0 rfl (lv_at hl 2 rfl) ?_
  refine lv_iconst (v := 0) hx hb dL_state_1 (by decide) ?_
  refine lv_aload_n hx hb dL_state_2 rfl (lv_at hl 0 rfl) ?_
  refine lv_iload_n hx hb dL_state_3 rfl (lv_at hl 1 rfl) ?_
  have hPc : va_P (dC, dI) nCl (v0_t_state_p cy (fun j9 => [(a 0), (a 1), (a 2), (a 3), (a 4), (a 5), (a 6), (a 7), (a 8), (a 9), (a 10), (a 11), (a 12), (a 13), (a 14)].getD j9 0) n9) s.heap := hP
  have hDc : va_D A (v0_t_state_p cy (fun j9 => [(a 0), (a 1), (a 2), (a 3), (a 4), (a 5), (a 6), (a 7), (a 8), (a 9), (a 10), (a 11), (a 12), (a 13), (a 14)].getD j9 0) n9) := hD
  have hFc := va_free (wc := (v0_t_state_p cy (fun j9 => [(a 0), (a 1), (a 2), (a 3), (a 4), (a 5), (a 6), (a 7), (a 8), (a 9), (a 10), (a 11), (a 12), (a 13), (a 14)].getD j9 0) n9)) hD hS hA [0] rfl
  refine vx_calli (vx_runV (As := [.int n9]) (rest := [.int 0, .ref (a 14)]) ⟨hx, hb, hml, hown, hts⟩ (t_state_p l hl0 dC dI cy k (fun j9 => [(a 0), (a 1), (a 2), (a 3), (a 4), (a 5), (a 6), (a 7), (a 8), (a 9), (a 10), (a 11), (a 12), (a 13), (a 14)].getD j9 0) n9 h1 h2 s.heap.size) (cwV 1 hts g_l_state_p_34_t_state_p rfl rfl rfl (by decide +kernel) ⟨Nat.le_of_ble_eq_true rfl, Nat.le_of_ble_eq_true rfl⟩) ⟨nb_blindF, va_recv hK hPc (ci := 10) (q0 := 0) rfl rfl, fun U hU hW => ⟨rfl, ⟨⟨by rw [hU], by rw [hU]; exact hPc, va_K.moved hW.alike hK, hDc.weaken (fun _ _ _ _ => trivial), hG.warm hW⟩, nE.to hE hS hW hU hFc⟩, nT.to hT hS hW hU hFc⟩⟩ rfl rfl hl.1 rfl (lv_room (Nat.le_of_ble_eq_true rfl)) dL_state_4 ⟨Nat.le_of_ble_eq_true rfl, Nat.le_of_ble_eq_true rfl⟩) hS (fun q _ h => hFc q h) hFc (fun q _ h => hFc q h) (fun E ce q9 u t H locs ht hvm hp hB hz1 hk1 hS hce hcv hcl => ?_) (fun r9 u t H1 locs ht hvm hp hB hz1 hk1 hS => hp.elim)
  subst hB
  refine vx_widen (k := 1) (n := 6) (Nat.le_of_ble_eq_true rfl) (Nat.le_of_ble_eq_true rfl) ?_
  refine vx_catch (E := "java/lang/IndexOutOfBoundsException") (name := "java/lang/IndexOutOfBoundsException") hown [] (⟨0, 9, 12, 37⟩ : ExceptionTableEntry) [(⟨0, 9, 15, 25⟩ : ExceptionTableEntry)] (by rw [hTb]; rfl) (fun z h => absurd h List.not_mem_nil) (by decide) (by decide) (hts _ (List.mem_cons_of_mem _ (List.mem_append_left _ (List.mem_append_left _ (List.mem_of_getElem? (i := 4) rfl))))) (va_Nw.use (by decide +kernel) (hT.2.2.1 _ (List.mem_of_getElem? (i := 2) rfl))) hce hcv hcl ?_
  have hP : va_P (dC, dI) nCl [] H := nb_nil
  have hD : va_D A [] := nb_nilD
  refine lv_astore_n (lv' := [(3, .ref q9), (0, .ref (a 0)), (1, .int n9), (2, .ref (a 14))]) hx hb dL_state_12 rfl hl (by decide) rfl (fun ls hl => ?_)
  refine lv_iconst (v := 1) hx hb dL_state_13 (by decide) ?_
  have hP : va_P (dC, dI) nCl (v1_l_state_p cy a n9 (fun _ => 0)) H := hP
  have hD : va_D A (v1_l_state_p cy a n9 (fun _ => 0)) := hD
  exact W.iret (v := 1) hx hb hr (fun t ht hW => ⟨⟨1, (fun _ => 0), rfl, rfl, by rw [ht]; exact hP, va_K.moved hW.alike hK, hD⟩, hS.F ht⟩) hS.2.2 dL_state_14
def o_l_state_i : List Cond := [.methodLink RL 34 yX11_state, .instanceMethod yX11_state, .selects RX11 yX11_state yX11_state, .initialized RX11, .classLink RL 37 "java/lang/IndexOutOfBoundsException", .classLink RL 25 "java/lang/IllegalStateException"]
theorem o_l_state_i_good : o_l_state_i.all goodWord = true := by decide +kernel
def p_l_state_i : List Cond := o_l_state_i ++ ((.code yX11_state cX11_state 3 (some .int) :: p_t_state_i) ++ [])
theorem p_l_state_i_good : p_l_state_i.all goodWord = true := nb_all2 o_l_state_i_good (nb_all2 (nb_allc (by decide +kernel) p_t_state_i_good) rfl)
def w_l_state_i : List Cond := .codeWith yL_state cL_state 4 (some .int) [(0, 9, 12, 37), (0, 9, 15, 25)] :: (p_l_state_i ++ fC)
theorem w_l_state_i_good : w_l_state_i.all goodWord = true := nb_allc (by decide +kernel) (nb_all2 p_l_state_i_good fC_good)
theorem gg_l_state_i_t_state_i : GoodIn w_l_state_i w_t_state_i := goodIn_sub (fun w h => (List.mem_cons.mp h).elim (fun e => (List.mem_cons_of_mem _ (List.mem_append_left _ (List.mem_append_right _ (List.mem_append_left _ (List.mem_cons.mpr (Or.inl e))))))) (fun h => (List.mem_append.mp h).elim (fun h => (List.mem_cons_of_mem _ (List.mem_append_left _ (List.mem_append_right _ (List.mem_append_left _ (List.mem_cons_of_mem _ h)))))) (fun h => List.mem_cons_of_mem _ (List.mem_append_right _ h)))) w_t_state_i_good
theorem g_l_state_i_34_t_state_i : GoodIn w_l_state_i (wsV RL 34 RX11 yX11_state w_t_state_i) := goodIn_app (nb_g4 (List.mem_cons_of_mem _ (List.mem_append_left _ (List.mem_append_left _ (List.mem_of_getElem? (i := 0) rfl)))) (List.mem_cons_of_mem _ (List.mem_append_left _ (List.mem_append_left _ (List.mem_of_getElem? (i := 1) rfl)))) (List.mem_cons_of_mem _ (List.mem_append_left _ (List.mem_append_left _ (List.mem_of_getElem? (i := 2) rfl)))) (List.mem_cons_of_mem _ (List.mem_append_left _ (List.mem_append_left _ (List.mem_of_getElem? (i := 3) rfl)))) (by decide +kernel)) gg_l_state_i_t_state_i
def v0_l_state_i (cy : Nat → ClassId) (a : Nat → Nat) (n9 : Int32) : va_W := [((a 0), .inr (10, [.ref (a 1), .ref (a 2), .ref (a 3), .ref (a 4), .ref (a 5), .ref (a 6), .ref (a 7), .ref (a 8), .ref (a 9), .ref (a 10), .int 0, .int 0, .int 0, .int 0, .ref (a 11), .ref (a 12), .ref (a 13), .int 0, .int 0, .int 0]))]
def v1_l_state_i (cy : Nat → ClassId) (a : Nat → Nat) (n9 : Int32) (r : Nat → Nat) : va_W := []
set_option maxHeartbeats 40000000 in
set_option maxRecDepth 100000 in
/-- state(..) of the law on a new object: it throws -/
theorem l_state_i (l : Launch) (hl0 : l.stackTraces = false) (dC : Nat → ClassId) (dI : Nat → Nat → Nat) (cy : Nat → ClassId) (k : Nat → Nat) (a : Nat → Nat) (n9 : Int32) (h1 : ¬ n9 < 0) (h2 : n9 ≤ 9) (sz : Nat) : Met l yL_state w_l_state_i ({ frames := 8, cells := 1, slots := 6, locals := 132 }) (va_Pc [.ref (a 0), .int n9, .ref (a 14)] (nInF (dC, dI) cy k sz (v0_l_state_i cy a n9))) (va_Qi (fun (z : Int32) (_ : Nat → Nat) => z = 2) (fun r t => nOut (dC, dI) cy (va_A (v0_l_state_i cy a n9) sz) (v1_l_state_i cy a n9 r) t) (va_A (v0_l_state_i cy a n9) sz)) 1 6 (va_A (v0_l_state_i cy a n9) sz) := by
  refine nb_ofWH (cc := cL_state) (maxL := 4) (ret := (some .int)) (by decide) rfl ?_
  intro p e s m args below meth c s₁ B hml hv
  obtain ⟨rfl, ⟨⟨hsz, hP, hK, hD0, hG⟩, hE⟩, hT⟩ := hv
  have hx := B.exec
  have hb := B.bytes
  have hr := B.returns
  have hts := atoms_spec (ws := w_l_state_i) B.pre
  have hown : s.vm.findClass RL = some m.cls := findClass_of_methodNamed B.named
  have hlocks := B.notSynchronized
  subst hsz
  have hD := hD0.self (sz := s.heap.size)
  generalize hAe : va_A (v0_l_state_i cy a n9) s.heap.size = A at hD hE hT ⊢
  have hA : ∀ q : Nat, s.heap.size ≤ q → A q := fun q h => by rw [← hAe]; exact Or.inr h
  have hS : va_S A s.heap s.heap [] := va_S.rf
  have hP : va_P (dC, dI) nCl (v0_l_state_i cy a n9) s.heap := hP
  have hl := lv_entry ([.ref (a 0), .int n9, .ref (a 14)]) (n := 4) (Nat.le_of_ble_eq_true rfl)
  rw [lg_entry_eq]
  generalize (lg_sl ([.ref (a 0), .int n9, .ref (a 14)]) ++ List.replicate (4 - (lg_sl ([.ref (a 0), .int n9, .ref (a 14)])).length) Slot.unset).toArray = ls at hl ⊢
  have hl : lv_has ls 4 [(0, .ref (a 0)), (1, .int n9), (2, .ref (a 14))] := hl
  have hTb : c.exceptionTable.toList = tableOf [(0, 9, 12, 37), (0, 9, 15, 25)] := vx_table (x := yL_state) B (hts _ List.mem_cons_self)
  have hP : va_P (dC, dI) nCl [((a 0), .inr (10, [.ref (a 1), .ref (a 2), .ref (a 3), .ref (a 4), .ref (a 5), .ref (a 6), .ref (a 7), .ref (a 8), .ref (a 9), .ref (a 10), .int 0, .int 0, .int 0, .int 0, .ref (a 11), .ref (a 12), .ref (a 13), .int 0, .int 0, .int 0]))] s.heap := hP
  have hD : va_D A [((a 0), .inr (10, [.ref (a 1), .ref (a 2), .ref (a 3), .ref (a 4), .ref (a 5), .ref (a 6), .ref (a 7), .ref (a 8), .ref (a 9), .ref (a 10), .int 0, .int 0, .int 0, .int 0, .ref (a 11), .ref (a 12), .ref (a 13), .int 0, .int 0, .int 0]))] := hD
  refine lv_aload_n hx hb dL_state_0 rfl (lv_at hl 2 rfl) ?_
  refine lv_iconst (v := 0) hx hb dL_state_1 (by decide) ?_
  refine lv_aload_n hx hb dL_state_2 rfl (lv_at hl 0 rfl) ?_
  refine lv_iload_n hx hb dL_state_3 rfl (lv_at hl 1 rfl) ?_
  have hPc : va_P (dC, dI) nCl (v0_t_state_i cy (fun j9 => [(a 0), (a 1), (a 2), (a 3), (a 4), (a 5), (a 6), (a 7), (a 8), (a 9), (a 10), (a 11), (a 12), (a 13), (a 14)].getD j9 0) n9) s.heap := hP
  have hDc : va_D A (v0_t_state_i cy (fun j9 => [(a 0), (a 1), (a 2), (a 3), (a 4), (a 5), (a 6), (a 7), (a 8), (a 9), (a 10), (a 11), (a 12), (a 13), (a 14)].getD j9 0) n9) := hD
  have hFc := va_free (wc := (v0_t_state_i cy (fun j9 => [(a 0), (a 1), (a 2), (a 3), (a 4), (a 5), (a 6), (a 7), (a 8), (a 9), (a 10), (a 11), (a 12), (a 13), (a 14)].getD j9 0) n9)) hD hS hA [0] rfl
  refine vx_calli (vx_runV (As := [.int n9]) (rest := [.int 0, .ref (a 14)]) ⟨hx, hb, hml, hown, hts⟩ (t_state_i l hl0 dC dI cy k (fun j9 => [(a 0), (a 1), (a 2), (a 3), (a 4), (a 5), (a 6), (a 7), (a 8), (a 9), (a 10), (a 11), (a 12), (a 13), (a 14)].getD j9 0) n9 h1 h2 s.heap.size) (cwV 1 hts g_l_state_i_34_t_state_i rfl rfl rfl (by decide +kernel) ⟨Nat.le_of_ble_eq_true rfl, Nat.le_of_ble_eq_true rfl⟩) ⟨nb_blindF, va_recv hK hPc (ci := 10) (q0 := 0) rfl rfl, fun U hU hW => ⟨rfl, ⟨⟨by rw [hU], by rw [hU]; exact hPc, va_K.moved hW.alike hK, hDc.weaken (fun _ _ _ _ => trivial), hG.warm hW⟩, nE.to hE hS hW hU hFc⟩, nT.to hT hS hW hU hFc⟩⟩ rfl rfl hl.1 rfl (lv_room (Nat.le_of_ble_eq_true rfl)) dL_state_4 ⟨Nat.le_of_ble_eq_true rfl, Nat.le_of_ble_eq_true rfl⟩) hS (fun q _ h => hFc q h) hFc (fun q _ h => hFc q h) (fun E ce q9 u t H locs ht hvm hp hB hz1 hk1 hS hce hcv hcl => ?_) (fun r9 u t H1 locs ht hvm hp hB hz1 hk1 hS => hp.elim)
  subst hB
  refine vx_widen (k := 1) (n := 6) (Nat.le_of_ble_eq_true rfl) (Nat.le_of_ble_eq_true rfl) ?_
  refine vx_catch (E := "java/lang/IllegalStateException") (name := "java/lang/IllegalStateException") hown [(⟨0, 9, 12, 37⟩ : ExceptionTableEntry)] (⟨0, 9, 15, 25⟩ : ExceptionTableEntry) [] (by rw [hTb]; rfl) (fun z h => by rw [List.mem_singleton] at h; subst h; exact Or.inr ⟨by decide, "java/lang/IndexOutOfBoundsException", (hts _ (List.mem_cons_of_mem _ (List.mem_append_left _ (List.mem_append_left _ (List.mem_of_getElem? (i := 4) rfl))))), hT.2.2.2⟩) (by decide) (by decide) (hts _ (List.mem_cons_of_mem _ (List.mem_append_left _ (List.mem_append_left _ (List.mem_of_getElem? (i := 5) rfl))))) (va_Nw.use (by decide +kernel) (hT.2.2.1 _ (List.mem_of_getElem? (i := 0) rfl))) hce hcv hcl ?_
  have hP : va_P (dC, dI) nCl [] H := nb_nil
  have hD : va_D A [] := nb_nilD
  refine lv_astore_n (lv' := [(3, .ref q9), (0, .ref (a 0)), (1, .int n9), (2, .ref (a 14))]) hx hb dL_state_15 rfl hl (by decide) rfl (fun ls hl => ?_)
  refine lv_iconst (v := 2) hx hb dL_state_16 (by decide) ?_
  have hP : va_P (dC, dI) nCl (v1_l_state_i cy a n9 (fun _ => 0)) H := hP
  have hD : va_D A (v1_l_state_i cy a n9 (fun _ => 0)) := hD
  exact W.iret (v := 2) hx hb hr (fun t ht hW => ⟨⟨2, (fun _ => 0), rfl, rfl, by rw [ht]; exact hP, va_K.moved hW.alike hK, hD⟩, hS.F ht⟩) hS.2.2 dL_state_17
def o_l_seen_n : List Cond := [.methodLink RL 55 yX11_seen, .instanceMethod yX11_seen, .selects RX11 yX11_seen yX11_seen, .initialized RX11, .classLink RL 37 "java/lang/IndexOutOfBoundsException"]
theorem o_l_seen_n_good : o_l_seen_n.all goodWord = true := by decide +kernel
def p_l_seen_n : List Cond := o_l_seen_n ++ ((.code yX11_seen cX11_seen 3 (some .int) :: p_t_seen_n) ++ [])
theorem p_l_seen_n_good : p_l_seen_n.all goodWord = true := nb_all2 o_l_seen_n_good (nb_all2 (nb_allc (by decide +kernel) p_t_seen_n_good) rfl)
def w_l_seen_n : List Cond := .codeWith yL_seen cL_seen 5 (some .int) [(0, 10, 13, 37), (0, 10, 17, 25)] :: (p_l_seen_n ++ fC)
theorem w_l_seen_n_good : w_l_seen_n.all goodWord = true := nb_allc (by decide +kernel) (nb_all2 p_l_seen_n_good fC_good)
theorem gg_l_seen_n_t_seen_n : GoodIn w_l_seen_n w_t_seen_n := goodIn_sub (fun w h => (List.mem_cons.mp h).elim (fun e => (List.mem_cons_of_mem _ (List.mem_append_left _ (List.mem_append_right _ (List.mem_append_left _ (List.mem_cons.mpr (Or.inl e))))))) (fun h => (List.mem_append.mp h).elim (fun h => (List.mem_cons_of_mem _ (List.mem_append_left _ (List.mem_append_right _ (List.mem_append_left _ (List.mem_cons_of_mem _ h)))))) (fun h => List.mem_cons_of_mem _ (List.mem_append_right _ h)))) w_t_seen_n_good
theorem g_l_seen_n_55_t_seen_n : GoodIn w_l_seen_n (wsV RL 55 RX11 yX11_seen w_t_seen_n) := goodIn_app (nb_g4 (List.mem_cons_of_mem _ (List.mem_append_left _ (List.mem_append_left _ (List.mem_of_getElem? (i := 0) rfl)))) (List.mem_cons_of_mem _ (List.mem_append_left _ (List.mem_append_left _ (List.mem_of_getElem? (i := 1) rfl)))) (List.mem_cons_of_mem _ (List.mem_append_left _ (List.mem_append_left _ (List.mem_of_getElem? (i := 2) rfl)))) (List.mem_cons_of_mem _ (List.mem_append_left _ (List.mem_append_left _ (List.mem_of_getElem? (i := 3) rfl)))) (by decide +kernel)) gg_l_seen_n_t_seen_n
def v0_l_seen_n (cy : Nat → ClassId) (a : Nat → Nat) (n9 : Int32) (v9 : Int32) : va_W := [((a 0), .inr (10, [.ref (a 1), .ref (a 2), .ref (a 3), .ref (a 4), .ref (a 5), .ref (a 6), .ref (a 7), .ref (a 8), .ref (a 9), .ref (a 10), .int 0, .int 0, .int 0, .int 0, .ref (a 11), .ref (a 12), .ref (a 13), .int 0, .int 0, .int 0]))]
def v1_l_seen_n (cy : Nat → ClassId) (a : Nat → Nat) (n9 : Int32) (v9 : Int32) (r : Nat → Nat) : va_W := []
set_option maxHeartbeats 40000000 in
set_option maxRecDepth 100000 in
/-- seen(..) of the law on a new object: it throws -/
theorem l_seen_n (l : Launch) (hl0 : l.stackTraces = false) (dC : Nat → ClassId) (dI : Nat → Nat → Nat) (cy : Nat → ClassId) (k : Nat → Nat) (a : Nat → Nat) (n9 : Int32) (v9 : Int32) (h1 : n9 < 0) (sz : Nat) : Met l yL_seen w_l_seen_n ({ frames := 7, cells := 1, slots := 6, locals := 112 }) (va_Pc [.ref (a 0), .int n9, .int v9, .ref (a 14)] (nInF (dC, dI) cy k sz (v0_l_seen_n cy a n9 v9))) (va_Qi (fun (z : Int32) (_ : Nat → Nat) => z = 1) (fun r t => nOut (dC, dI) cy (va_A (v0_l_seen_n cy a n9 v9) sz) (v1_l_seen_n cy a n9 v9 r) t) (va_A (v0_l_seen_n cy a n9 v9) sz)) 1 6 (va_A (v0_l_seen_n cy a n9 v9) sz) := by
  refine nb_ofWH (cc := cL_seen) (maxL := 5) (ret := (some .int)) (by decide) rfl ?_
  intro p e s m args below meth c s₁ B hml hv
  obtain ⟨rfl, ⟨⟨hsz, hP, hK, hD0, hG⟩, hE⟩, hT⟩ := hv
  have hx := B.exec
  have hb := B.bytes
  have hr := B.returns
  have hts := atoms_spec (ws := w_l_seen_n) B.pre
  have hown : s.vm.findClass RL = some m.cls := findClass_of_methodNamed B.named
  have hlocks := B.notSynchronized
  subst hsz
  have hD := hD0.self (sz := s.heap.size)
  generalize hAe : va_A (v0_l_seen_n cy a n9 v9) s.heap.size = A at hD hE hT ⊢
  have hA : ∀ q : Nat, s.heap.size ≤ q → A q := fun q h => by rw [← hAe]; exact Or.inr h
  have hS : va_S A s.heap s.heap [] := va_S.rf
  have hP : va_P (dC, dI) nCl (v0_l_seen_n cy a n9 v9) s.heap := hP
  have hl := lv_entry ([.ref (a 0), .int n9, .int v9, .ref (a 14)]) (n := 5) (Nat.le_of_ble_eq_true rfl)
  rw [lg_entry_eq]
  generalize (lg_sl ([.ref (a 0), .int n9, .int v9, .ref (a 14)]) ++ List.replicate (5 - (lg_sl ([.ref (a 0), .int n9, .int v9, .ref (a 14)])).length) Slot.unset).toArray = ls at hl ⊢
  have hl : lv_has ls 5 [(0, .ref (a 0)), (1, .int n9), (2, .int v9), (3, .ref (a 14))] := hl
  have hTb : c.exceptionTable.toList = tableOf [(0, 10, 13, 37), (0, 10, 17, 25)] := vx_table (x := yL_seen) B (hts _ List.mem_cons_self)
  have hP : va_P (dC, dI) nCl [((a 0), .inr (10, [.ref (a 1), .ref (a 2), .ref (a 3), .ref (a 4), .ref (a 5), .ref (a 6), .ref (a 7), .ref (a 8), .ref (a 9), .ref (a 10), .int 0, .int 0, .int 0, .int 0, .ref (a 11), .ref (a 12), .ref (a 13), .int 0, .int 0, .int 0]))] s.heap := hP
  have hD : va_D A [((a 0), .inr (10, [.ref (a 1), .ref (a 2), .ref (a 3), .ref (a 4), .ref (a 5), .ref (a 6), .ref (a 7), .ref (a 8), .ref (a 9), .ref (a 10), .int 0, .int 0, .int 0, .int 0, .ref (a 11), .ref (a 12), .ref (a 13), .int 0, .int 0, .int 0]))] := hD
  refine lv_aload_n hx hb dL_seen_0 rfl (lv_at hl 3 rfl) ?_
  refine lv_iconst (v := 0) hx hb dL_seen_1 (by decide) ?_
  refine lv_aload_n hx hb dL_seen_2 rfl (lv_at hl 0 rfl) ?_
  refine lv_iload_n hx hb dL_seen_3 rfl (lv_at hl 1 rfl) ?_
  refine lv_iload_n hx hb dL_seen_4 rfl (lv_at hl 2 rfl) ?_
  have hPc : va_P (dC, dI) nCl (v0_t_seen_n cy (fun j9 => [(a 0), (a 1), (a 2), (a 3), (a 4), (a 5), (a 6), (a 7), (a 8), (a 9), (a 10), (a 11), (a 12), (a 13), (a 14)].getD j9 0) n9 v9) s.heap := hP
  have hDc : va_D A (v0_t_seen_n cy (fun j9 => [(a 0), (a 1), (a 2), (a 3), (a 4), (a 5), (a 6), (a 7), (a 8), (a 9), (a 10), (a 11), (a 12), (a 13), (a 14)].getD j9 0) n9 v9) := hD
  have hFc := va_free (wc := (v0_t_seen_n cy (fun j9 => [(a 0), (a 1), (a 2), (a 3), (a 4), (a 5), (a 6), (a 7), (a 8), (a 9), (a 10), (a 11), (a 12), (a 13), (a 14)].getD j9 0) n9 v9)) hD hS hA [0] rfl
  refine vx_calli (vx_runV (As := [.int n9, .int v9]) (rest := [.int 0, .ref (a 14)]) ⟨hx, hb, hml, hown, hts⟩ (t_seen_n l hl0 dC dI cy k (fun j9 => [(a 0), (a 1), (a 2), (a 3), (a 4), (a 5), (a 6), (a 7), (a 8), (a 9), (a 10), (a 11), (a 12), (a 13), (a 14)].getD j9 0) n9 v9 h1 s.heap.size) (cwV 2 hts g_l_seen_n_55_t_seen_n rfl rfl rfl (by decide +kernel) ⟨Nat.le_of_ble_eq_true rfl, Nat.le_of_ble_eq_true rfl⟩) ⟨nb_blindF, va_recv hK hPc (ci := 10) (q0 := 0) rfl rfl, fun U hU hW => ⟨rfl, ⟨⟨by rw [hU], by rw [hU]; exact hPc, va_K.moved hW.alike hK, hDc.weaken (fun _ _ _ _ => trivial), hG.warm hW⟩, nE.to hE hS hW hU hFc⟩, nT.to hT hS hW hU hFc⟩⟩ rfl rfl hl.1 rfl (lv_room (Nat.le_of_ble_eq_true rfl)) dL_seen_5 ⟨Nat.le_of_ble_eq_true rfl, Nat.le_of_ble_eq_true rfl⟩) hS (fun q _ h => hFc q h) hFc (fun q _ h => hFc q h) (fun E ce q9 u t H locs ht hvm hp hB hz1 hk1 hS hce hcv hcl => ?_) (fun r9 u t H1 locs ht hvm hp hB hz1 hk1 hS => hp.elim)
  subst hB
  refine vx_widen (k := 1) (n := 6) (Nat.le_of_ble_eq_true rfl) (Nat.le_of_ble_eq_true rfl) ?_
  refine vx_catch (E := "java/lang/IndexOutOfBoundsException") (name := "java/lang/IndexOutOfBoundsException") hown [] (⟨0, 10, 13, 37⟩ : ExceptionTableEntry) [(⟨0, 10, 17, 25⟩ : ExceptionTableEntry)] (by rw [hTb]; rfl) (fun z h => absurd h List.not_mem_nil) (by decide) (by decide) (hts _ (List.mem_cons_of_mem _ (List.mem_append_left _ (List.mem_append_left _ (List.mem_of_getElem? (i := 4) rfl))))) (va_Nw.use (by decide +kernel) (hT.2.2.1 _ (List.mem_of_getElem? (i := 2) rfl))) hce hcv hcl ?_
  have hP : va_P (dC, dI) nCl [] H := nb_nil
  have hD : va_D A [] := nb_nilD
  refine lv_astore (lv' := [(4, .ref q9), (0, .ref (a 0)), (1, .int n9), (2, .int v9), (3, .ref (a 14))]) hx hb dL_seen_13 hl (by decide) rfl (fun ls hl => ?_)
  refine lv_iconst (v := 1) hx hb dL_seen_15 (by decide) ?_
  have hP : va_P (dC, dI) nCl (v1_l_seen_n cy a n9 v9 (fun _ => 0)) H := hP
  have hD : va_D A (v1_l_seen_n cy a n9 v9 (fun _ => 0)) := hD
  exact W.iret (v := 1) hx hb hr (fun t ht hW => ⟨⟨1, (fun _ => 0), rfl, rfl, by rw [ht]; exact hP, va_K.moved hW.alike hK, hD⟩, hS.F ht⟩) hS.2.2 dL_seen_16
def o_l_seen_p : List Cond := [.methodLink RL 55 yX11_seen, .instanceMethod yX11_seen, .selects RX11 yX11_seen yX11_seen, .initialized RX11, .classLink RL 37 "java/lang/IndexOutOfBoundsException"]
theorem o_l_seen_p_good : o_l_seen_p.all goodWord = true := by decide +kernel
def p_l_seen_p : List Cond := o_l_seen_p ++ ((.code yX11_seen cX11_seen 3 (some .int) :: p_t_seen_p) ++ [])
theorem p_l_seen_p_good : p_l_seen_p.all goodWord = true := nb_all2 o_l_seen_p_good (nb_all2 (nb_allc (by decide +kernel) p_t_seen_p_good) rfl)
def w_l_seen_p : List Cond := .codeWith yL_seen cL_seen 5 (some .int) [(0, 10, 13, 37), (0, 10, 17, 25)] :: (p_l_seen_p ++ fC)
theorem w_l_seen_p_good : w_l_seen_p.all goodWord = true := nb_allc (by decide +kernel) (nb_all2 p_l_seen_p_good fC_good)
theorem gg_l_seen_p_t_seen_p : GoodIn w_l_seen_p w_t_seen_p := goodIn_sub (fun w h => (List.mem_cons.mp h).elim (fun e => (List.mem_cons_of_mem _ (List.mem_append_left _ (List.mem_append_right _ (List.mem_append_left _ (List.mem_cons.mpr (Or.inl e))))))) (fun h => (List.mem_append.mp h).elim (fun h => (List.mem_cons_of_mem _ (List.mem_append_left _ (List.mem_append_right _ (List.mem_append_left _ (List.mem_cons_of_mem _ h)))))) (fun h => List.mem_cons_of_mem _ (List.mem_append_right _ h)))) w_t_seen_p_good
theorem g_l_seen_p_55_t_seen_p : GoodIn w_l_seen_p (wsV RL 55 RX11 yX11_seen w_t_seen_p) := goodIn_app (nb_g4 (List.mem_cons_of_mem _ (List.mem_append_left _ (List.mem_append_left _ (List.mem_of_getElem? (i := 0) rfl)))) (List.mem_cons_of_mem _ (List.mem_append_left _ (List.mem_append_left _ (List.mem_of_getElem? (i := 1) rfl)))) (List.mem_cons_of_mem _ (List.mem_append_left _ (List.mem_append_left _ (List.mem_of_getElem? (i := 2) rfl)))) (List.mem_cons_of_mem _ (List.mem_append_left _ (List.mem_append_left _ (List.mem_of_getElem? (i := 3) rfl)))) (by decide +kernel)) gg_l_seen_p_t_seen_p
def v0_l_seen_p (cy : Nat → ClassId) (a : Nat → Nat) (n9 : Int32) (v9 : Int32) : va_W := [((a 0), .inr (10, [.ref (a 1), .ref (a 2), .ref (a 3), .ref (a 4), .ref (a 5), .ref (a 6), .ref (a 7), .ref (a 8), .ref (a 9), .ref (a 10), .int 0, .int 0, .int 0, .int 0, .ref (a 11), .ref (a 12), .ref (a 13), .int 0, .int 0, .int 0]))]
def v1_l_seen_p (cy : Nat → ClassId) (a : Nat → Nat) (n9 : Int32) (v9 : Int32) (r : Nat → Nat) : va_W := []
set_option maxHeartbeats 40000000 in
set_option maxRecDepth 100000 in
/-- seen(..) of the law on a new object: it throws -/
theorem l_seen_p (l : Launch) (hl0 : l.stackTraces = false) (dC : Nat → ClassId) (dI : Nat → Nat → Nat) (cy : Nat → ClassId) (k : Nat → Nat) (a : Nat → Nat) (n9 : Int32) (v9 : Int32) (h1 : ¬ n9 < 0) (h2 : 0 ≤ n9) (sz : Nat) : Met l yL_seen w_l_seen_p ({ frames := 7, cells := 1, slots := 6, locals := 112 }) (va_Pc [.ref (a 0), .int n9, .int v9, .ref (a 14)] (nInF (dC, dI) cy k sz (v0_l_seen_p cy a n9 v9))) (va_Qi (fun (z : Int32) (_ : Nat → Nat) => z = 1) (fun r t => nOut (dC, dI) cy (va_A (v0_l_seen_p cy a n9 v9) sz) (v1_l_seen_p cy a n9 v9 r) t) (va_A (v0_l_seen_p cy a n9 v9) sz)) 1 6 (va_A (v0_l_seen_p cy a n9 v9) sz) := by
  refine nb_ofWH (cc := cL_seen) (maxL := 5) (ret := (some .int)) (by decide) rfl ?_
  intro p e s m args below meth c s₁ B hml hv
  obtain ⟨rfl, ⟨⟨hsz, hP, hK, hD0, hG⟩, hE⟩, hT⟩ := hv
  have hx := B.exec
  have hb := B.bytes
  have hr := B.returns
  have hts := atoms_spec (ws := w_l_seen_p) B.pre
  have hown : s.vm.findClass RL = some m.cls := findClass_of_methodNamed B.named
  have hlocks := B.notSynchronized
  subst hsz
  have hD := hD0.self (sz := s.heap.size)
  generalize hAe : va_A (v0_l_seen_p cy a n9 v9) s.heap.size = A at hD hE hT ⊢
  have hA : ∀ q : Nat, s.heap.size ≤ q → A q := fun q h => by rw [← hAe]; exact Or.inr h
  have hS : va_S A s.heap s.heap [] := va_S.rf
  have hP : va_P (dC, dI) nCl (v0_l_seen_p cy a n9 v9) s.heap := hP
  have hl := lv_entry ([.ref (a 0), .int n9, .int v9, .ref (a 14)]) (n := 5) (Nat.le_of_ble_eq_true rfl)
  rw [lg_entry_eq]
  generalize (lg_sl ([.ref (a 0), .int n9, .int v9, .ref (a 14)]) ++ List.replicate (5 - (lg_sl ([.ref (a 0), .int n9, .int v9, .ref (a 14)])).length) Slot.unset).toArray = ls at hl ⊢
  have hl : lv_has ls 5 [(0, .ref (a 0)), (1, .int n9), (2, .int v9), (3, .ref (a 14))] := hl
  have hTb : c.exceptionTable.toList = tableOf [(0, 10, 13, 37), (0, 10, 17, 25)] := vx_table (x := yL_seen) B (hts _ List.mem_cons_self)
  have hP : va_P (dC, dI) nCl [((a 0), .inr (10, [.ref (a 1), .ref (a 2), .ref (a 3), .ref (a 4), .ref (a 5), .ref (a 6), .ref (a 7), .ref (a 8), .ref (a 9), .ref (a 10), .int 0, .int 0, .int 0, .int 0, .ref (a 11), .ref (a 12), .ref (a 13), .int 0, .int 0, .int 0]))] s.heap := hP
  have hD : va_D A [((a 0), .inr (10, [.ref (a 1), .ref (a 2), .ref (a 3), .ref (a 4), .ref (a 5), .ref (a 6), .ref (a 7), .ref (a 8), .ref (a 9), .ref (a 10), .int 0, .int 0, .int 0, .int 0, .ref (a 11), .ref (a 12), .ref (a 13), .int 0, .int 0, .int 0]))] := hD
  refine lv_aload_n hx hb dL_seen_0 rfl (lv_at hl 3 rfl) ?_
  refine lv_iconst (v := 0) hx hb dL_seen_1 (by decide) ?_
  refine lv_aload_n hx hb dL_seen_2 rfl (lv_at hl 0 rfl) ?_
  refine lv_iload_n hx hb dL_seen_3 rfl (lv_at hl 1 rfl) ?_
  refine lv_iload_n hx hb dL_seen_4 rfl (lv_at hl 2 rfl) ?_
  have hPc : va_P (dC, dI) nCl (v0_t_seen_p cy (fun j9 => [(a 0), (a 1), (a 2), (a 3), (a 4), (a 5), (a 6), (a 7), (a 8), (a 9), (a 10), (a 11), (a 12), (a 13), (a 14)].getD j9 0) n9 v9) s.heap := hP
  have hDc : va_D A (v0_t_seen_p cy (fun j9 => [(a 0), (a 1), (a 2), (a 3), (a 4), (a 5), (a 6), (a 7), (a 8), (a 9), (a 10), (a 11), (a 12), (a 13), (a 14)].getD j9 0) n9 v9) := hD
  have hFc := va_free (wc := (v0_t_seen_p cy (fun j9 => [(a 0), (a 1), (a 2), (a 3), (a 4), (a 5), (a 6), (a 7), (a 8), (a 9), (a 10), (a 11), (a 12), (a 13), (a 14)].getD j9 0) n9 v9)) hD hS hA [0] rfl
  refine vx_calli (vx_runV (As := [.int n9, .int v9]) (rest := [.int 0, .ref (a 14)]) ⟨hx, hb, hml, hown, hts⟩ (t_seen_p l hl0 dC dI cy k (fun j9 => [(a 0), (a 1), (a 2), (a 3), (a 4), (a 5), (a 6), (a 7), (a 8), (a 9), (a 10), (a 11), (a 12), (a 13), (a 14)].getD j9 0) n9 v9 h1 h2 s.heap.size) (cwV 2 hts g_l_seen_p_55_t_seen_p rfl rfl rfl (by decide +kernel) ⟨Nat.le_of_ble_eq_true rfl, Nat.le_of_ble_eq_true rfl⟩) ⟨nb_blindF, va_recv hK hPc (ci := 10) (q0 := 0) rfl rfl, fun U hU hW => ⟨rfl, ⟨⟨by rw [hU], by rw [hU]; exact hPc, va_K.moved hW.alike hK, hDc.weaken (fun _ _ _ _ => trivial), hG.warm hW⟩, nE.to hE hS hW hU hFc⟩, nT.to hT hS hW hU hFc⟩⟩ rfl rfl hl.1 rfl (lv_room (Nat.le_of_ble_eq_true rfl)) dL_seen_5 ⟨Nat.le_of_ble_eq_true rfl, Nat.le_of_ble_eq_true rfl⟩) hS (fun q _ h => hFc q h) hFc (fun q _ h => hFc q h) (fun E ce q9 u t H locs ht hvm hp hB hz1 hk1 hS hce hcv hcl => ?_) (fun r9 u t H1 locs ht hvm hp hB hz1 hk1 hS => hp.elim)
  subst hB
  refine vx_widen (k := 1) (n := 6) (Nat.le_of_ble_eq_true rfl) (Nat.le_of_ble_eq_true rfl) ?_
  refine vx_catch (E := "java/lang/IndexOutOfBoundsException") (name := "java/lang/IndexOutOfBoundsException") hown [] (⟨0, 10, 13, 37⟩ : ExceptionTableEntry) [(⟨0, 10, 17, 25⟩ : ExceptionTableEntry)] (by rw [hTb]; rfl) (fun z h => absurd h List.not_mem_nil) (by decide) (by decide) (hts _ (List.mem_cons_of_mem _ (List.mem_append_left _ (List.mem_append_left _ (List.mem_of_getElem? (i := 4) rfl))))) (va_Nw.use (by decide +kernel) (hT.2.2.1 _ (List.mem_of_getElem? (i := 2) rfl))) hce hcv hcl ?_
  have hP : va_P (dC, dI) nCl [] H := nb_nil
  have hD : va_D A [] := nb_nilD
  refine lv_astore (lv' := [(4, .ref q9), (0, .ref (a 0)), (1, .int n9), (2, .int v9), (3, .ref (a 14))]) hx hb dL_seen_13 hl (by decide) rfl (fun ls hl => ?_)
  refine lv_iconst (v := 1) hx hb dL_seen_15 (by decide) ?_
  have hP : va_P (dC, dI) nCl (v1_l_seen_p cy a n9 v9 (fun _ => 0)) H := hP
  have hD : va_D A (v1_l_seen_p cy a n9 v9 (fun _ => 0)) := hD
  exact W.iret (v := 1) hx hb hr (fun t ht hW => ⟨⟨1, (fun _ => 0), rfl, rfl, by rw [ht]; exact hP, va_K.moved hW.alike hK, hD⟩, hS.F ht⟩) hS.2.2 dL_seen_16
def o_l_shown_n : List Cond := [.methodLink RL 59 yX11_shown, .instanceMethod yX11_shown, .selects RX11 yX11_shown yX11_shown, .initialized RX11, .classLink RL 37 "java/lang/IndexOutOfBoundsException"]
theorem o_l_shown_n_good : o_l_shown_n.all goodWord = true := by decide +kernel
def p_l_shown_n : List Cond := o_l_shown_n ++ ((.code yX11_shown cX11_shown 2 (some .int) :: p_t_shown_n) ++ [])
theorem p_l_shown_n_good : p_l_shown_n.all goodWord = true := nb_all2 o_l_shown_n_good (nb_all2 (nb_allc (by decide +kernel) p_t_shown_n_good) rfl)
def w_l_shown_n : List Cond := .codeWith yL_shown cL_shown 4 (some .int) [(0, 9, 12, 37)] :: (p_l_shown_n ++ fC)
theorem w_l_shown_n_good : w_l_shown_n.all goodWord = true := nb_allc (by decide +kernel) (nb_all2 p_l_shown_n_good fC_good)
theorem gg_l_shown_n_t_shown_n : GoodIn w_l_shown_n w_t_shown_n := goodIn_sub (fun w h => (List.mem_cons.mp h).elim (fun e => (List.mem_cons_of_mem _ (List.mem_append_left _ (List.mem_append_right _ (List.mem_append_left _ (List.mem_cons.mpr (Or.inl e))))))) (fun h => (List.mem_append.mp h).elim (fun h => (List.mem_cons_of_mem _ (List.mem_append_left _ (List.mem_append_right _ (List.mem_append_left _ (List.mem_cons_of_mem _ h)))))) (fun h => List.mem_cons_of_mem _ (List.mem_append_right _ h)))) w_t_shown_n_good
theorem g_l_shown_n_59_t_shown_n : GoodIn w_l_shown_n (wsV RL 59 RX11 yX11_shown w_t_shown_n) := goodIn_app (nb_g4 (List.mem_cons_of_mem _ (List.mem_append_left _ (List.mem_append_left _ (List.mem_of_getElem? (i := 0) rfl)))) (List.mem_cons_of_mem _ (List.mem_append_left _ (List.mem_append_left _ (List.mem_of_getElem? (i := 1) rfl)))) (List.mem_cons_of_mem _ (List.mem_append_left _ (List.mem_append_left _ (List.mem_of_getElem? (i := 2) rfl)))) (List.mem_cons_of_mem _ (List.mem_append_left _ (List.mem_append_left _ (List.mem_of_getElem? (i := 3) rfl)))) (by decide +kernel)) gg_l_shown_n_t_shown_n
def v0_l_shown_n (cy : Nat → ClassId) (a : Nat → Nat) (n9 : Int32) : va_W := [((a 0), .inr (10, [.ref (a 1), .ref (a 2), .ref (a 3), .ref (a 4), .ref (a 5), .ref (a 6), .ref (a 7), .ref (a 8), .ref (a 9), .ref (a 10), .int 0, .int 0, .int 0, .int 0, .ref (a 11), .ref (a 12), .ref (a 13), .int 0, .int 0, .int 0]))]
def v1_l_shown_n (cy : Nat → ClassId) (a : Nat → Nat) (n9 : Int32) (r : Nat → Nat) : va_W := []
set_option maxHeartbeats 40000000 in
set_option maxRecDepth 100000 in
/-- shown(..) of the law on a new object: it throws -/
theorem l_shown_n (l : Launch) (hl0 : l.stackTraces = false) (dC : Nat → ClassId) (dI : Nat → Nat → Nat) (cy : Nat → ClassId) (k : Nat → Nat) (a : Nat → Nat) (n9 : Int32) (h1 : n9 < 0) (sz : Nat) : Met l yL_shown w_l_shown_n ({ frames := 7, cells := 1, slots := 6, locals := 111 }) (va_Pc [.ref (a 0), .int n9, .ref (a 14)] (nInF (dC, dI) cy k sz (v0_l_shown_n cy a n9))) (va_Qi (fun (z : Int32) (_ : Nat → Nat) => z = 1) (fun r t => nOut (dC, dI) cy (va_A (v0_l_shown_n cy a n9) sz) (v1_l_shown_n cy a n9 r) t) (va_A (v0_l_shown_n cy a n9) sz)) 1 6 (va_A (v0_l_shown_n cy a n9) sz) := by
  refine nb_ofWH (cc := cL_shown) (maxL := 4) (ret := (some .int)) (by decide) rfl ?_
  intro p e s m args below meth c s₁ B hml hv
  obtain ⟨rfl, ⟨⟨hsz, hP, hK, hD0, hG⟩, hE⟩, hT⟩ := hv
  have hx := B.exec
  have hb := B.bytes
  have hr := B.returns
  have hts := atoms_spec (ws := w_l_shown_n) B.pre
  have hown : s.vm.findClass RL = some m.cls := findClass_of_methodNamed B.named
  have hlocks := B.notSynchronized
  subst hsz
  have hD := hD0.self (sz := s.heap.size)
  generalize hAe : va_A (v0_l_shown_n cy a n9) s.heap.size = A at hD hE hT ⊢
  have hA : ∀ q : Nat, s.heap.size ≤ q → A q := fun q h => by rw [← hAe]; exact Or.inr h
  have hS : va_S A s.heap s.heap [] := va_S.rf
  have hP : va_P (dC, dI) nCl (v0_l_shown_n cy a n9) s.heap := hP
  have hl := lv_entry ([.ref (a 0), .int n9, .ref (a 14)]) (n := 4) (Nat.le_of_ble_eq_true rfl)
  rw [lg_entry_eq]
  generalize (lg_sl ([.ref (a 0), .int n9, .ref (a 14)]) ++ List.replicate (4 - (lg_sl ([.ref (a 0), .int n9, .ref (a 14)])).length) Slot.unset).toArray = ls at hl ⊢
  have hl : lv_has ls 4 [(0, .ref (a 0)), (1, .int n9), (2, .ref (a 14))] := hl
  have hTb : c.exceptionTable.toList = tableOf [(0, 9, 12, 37)] := vx_table (x := yL_shown) B (hts _ List.mem_cons_self)
  have hP : va_P (dC, dI) nCl [((a 0), .inr (10, [.ref (a 1), .ref (a 2), .ref (a 3), .ref (a 4), .ref (a 5), .ref (a 6), .ref (a 7), .ref (a 8), .ref (a 9), .ref (a 10), .int 0, .int 0, .int 0, .int 0, .ref (a 11), .ref (a 12), .ref (a 13), .int 0, .int 0, .int 0]))] s.heap := hP
  have hD : va_D A [((a 0), .inr (10, [.ref (a 1), .ref (a 2), .ref (a 3), .ref (a 4), .ref (a 5), .ref (a 6), .ref (a 7), .ref (a 8), .ref (a 9), .ref (a 10), .int 0, .int 0, .int 0, .int 0, .ref (a 11), .ref (a 12), .ref (a 13), .int 0, .int 0, .int 0]))] := hD
  refine lv_aload_n hx hb dL_shown_0 rfl (lv_at hl 2 rfl) ?_
  refine lv_iconst (v := 0) hx hb dL_shown_1 (by decide) ?_
  refine lv_aload_n hx hb dL_shown_2 rfl (lv_at hl 0 rfl) ?_
  refine lv_iload_n hx hb dL_shown_3 rfl (lv_at hl 1 rfl) ?_
  have hPc : va_P (dC, dI) nCl (v0_t_shown_n cy (fun j9 => [(a 0), (a 1), (a 2), (a 3), (a 4), (a 5), (a 6), (a 7), (a 8), (a 9), (a 10), (a 11), (a 12), (a 13), (a 14)].getD j9 0) n9) s.heap := hP
  have hDc : va_D A (v0_t_shown_n cy (fun j9 => [(a 0), (a 1), (a 2), (a 3), (a 4), (a 5), (a 6), (a 7), (a 8), (a 9), (a 10), (a 11), (a 12), (a 13), (a 14)].getD j9 0) n9) := hD
  have hFc := va_free (wc := (v0_t_shown_n cy (fun j9 => [(a 0), (a 1), (a 2), (a 3), (a 4), (a 5), (a 6), (a 7), (a 8), (a 9), (a 10), (a 11), (a 12), (a 13), (a 14)].getD j9 0) n9)) hD hS hA [0] rfl
  refine vx_calli (vx_runV (As := [.int n9]) (rest := [.int 0, .ref (a 14)]) ⟨hx, hb, hml, hown, hts⟩ (t_shown_n l hl0 dC dI cy k (fun j9 => [(a 0), (a 1), (a 2), (a 3), (a 4), (a 5), (a 6), (a 7), (a 8), (a 9), (a 10), (a 11), (a 12), (a 13), (a 14)].getD j9 0) n9 h1 s.heap.size) (cwV 1 hts g_l_shown_n_59_t_shown_n rfl rfl rfl (by decide +kernel) ⟨Nat.le_of_ble_eq_true rfl, Nat.le_of_ble_eq_true rfl⟩) ⟨nb_blindF, va_recv hK hPc (ci := 10) (q0 := 0) rfl rfl, fun U hU hW => ⟨rfl, ⟨⟨by rw [hU], by rw [hU]; exact hPc, va_K.moved hW.alike hK, hDc.weaken (fun _ _ _ _ => trivial), hG.warm hW⟩, nE.to hE hS hW hU hFc⟩, nT.to hT hS hW hU hFc⟩⟩ rfl rfl hl.1 rfl (lv_room (Nat.le_of_ble_eq_true rfl)) dL_shown_4 ⟨Nat.le_of_ble_eq_true rfl, Nat.le_of_ble_eq_true rfl⟩) hS (fun q _ h => hFc q h) hFc (fun q _ h => hFc q h) (fun E ce q9 u t H locs ht hvm hp hB hz1 hk1 hS hce hcv hcl => ?_) (fun r9 u t H1 locs ht hvm hp hB hz1 hk1 hS => hp.elim)
  subst hB
  refine vx_widen (k := 1) (n := 6) (Nat.le_of_ble_eq_true rfl) (Nat.le_of_ble_eq_true rfl) ?_
  refine vx_catch (E := "java/lang/IndexOutOfBoundsException") (name := "java/lang/IndexOutOfBoundsException") hown [] (⟨0, 9, 12, 37⟩ : ExceptionTableEntry) [] (by rw [hTb]; rfl) (fun z h => absurd h List.not_mem_nil) (by decide) (by decide) (hts _ (List.mem_cons_of_mem _ (List.mem_append_left _ (List.mem_append_left _ (List.mem_of_getElem? (i := 4) rfl))))) (va_Nw.use (by decide +kernel) (hT.2.2.1 _ (List.mem_of_getElem? (i := 2) rfl))) hce hcv hcl ?_
  have hP : va_P (dC, dI) nCl [] H := nb_nil
  have hD : va_D A [] := nb_nilD
  refine lv_astore_n (lv' := [(3, .ref q9), (0, .ref (a 0)), (1, .int n9), (2, .ref (a 14))]) hx hb dL_shown_12 rfl hl (by decide) rfl (fun ls hl => ?_)
  refine lv_iconst (v := 1) hx hb dL_shown_13 (by decide) ?_
  have hP : va_P (dC, dI) nCl (v1_l_shown_n cy a n9 (fun _ => 0)) H := hP
  have hD : va_D A (v1_l_shown_n cy a n9 (fun _ => 0)) := hD
  exact W.iret (v := 1) hx hb hr (fun t ht hW => ⟨⟨1, (fun _ => 0), rfl, rfl, by rw [ht]; exact hP, va_K.moved hW.alike hK, hD⟩, hS.F ht⟩) hS.2.2 dL_shown_14
def o_l_shown_p : List Cond := [.methodLink RL 59 yX11_shown, .instanceMethod yX11_shown, .selects RX11 yX11_shown yX11_shown, .initialized RX11, .classLink RL 37 "java/lang/IndexOutOfBoundsException"]
theorem o_l_shown_p_good : o_l_shown_p.all goodWord = true := by decide +kernel
def p_l_shown_p : List Cond := o_l_shown_p ++ ((.code yX11_shown cX11_shown 2 (some .int) :: p_t_shown_p) ++ [])
theorem p_l_shown_p_good : p_l_shown_p.all goodWord = true := nb_all2 o_l_shown_p_good (nb_all2 (nb_allc (by decide +kernel) p_t_shown_p_good) rfl)
def w_l_shown_p : List Cond := .codeWith yL_shown cL_shown 4 (some .int) [(0, 9, 12, 37)] :: (p_l_shown_p ++ fC)
theorem w_l_shown_p_good : w_l_shown_p.all goodWord = true := nb_allc (by decide +kernel) (nb_all2 p_l_shown_p_good fC_good)
theorem gg_l_shown_p_t_shown_p : GoodIn w_l_shown_p w_t_shown_p := goodIn_sub (fun w h => (List.mem_cons.mp h).elim (fun e => (List.mem_cons_of_mem _ (List.mem_append_left _ (List.mem_append_right _ (List.mem_append_left _ (List.mem_cons.mpr (Or.inl e))))))) (fun h => (List.mem_append.mp h).elim (fun h => (List.mem_cons_of_mem _ (List.mem_append_left _ (List.mem_append_right _ (List.mem_append_left _ (List.mem_cons_of_mem _ h)))))) (fun h => List.mem_cons_of_mem _ (List.mem_append_right _ h)))) w_t_shown_p_good
theorem g_l_shown_p_59_t_shown_p : GoodIn w_l_shown_p (wsV RL 59 RX11 yX11_shown w_t_shown_p) := goodIn_app (nb_g4 (List.mem_cons_of_mem _ (List.mem_append_left _ (List.mem_append_left _ (List.mem_of_getElem? (i := 0) rfl)))) (List.mem_cons_of_mem _ (List.mem_append_left _ (List.mem_append_left _ (List.mem_of_getElem? (i := 1) rfl)))) (List.mem_cons_of_mem _ (List.mem_append_left _ (List.mem_append_left _ (List.mem_of_getElem? (i := 2) rfl)))) (List.mem_cons_of_mem _ (List.mem_append_left _ (List.mem_append_left _ (List.mem_of_getElem? (i := 3) rfl)))) (by decide +kernel)) gg_l_shown_p_t_shown_p
def v0_l_shown_p (cy : Nat → ClassId) (a : Nat → Nat) (n9 : Int32) : va_W := [((a 0), .inr (10, [.ref (a 1), .ref (a 2), .ref (a 3), .ref (a 4), .ref (a 5), .ref (a 6), .ref (a 7), .ref (a 8), .ref (a 9), .ref (a 10), .int 0, .int 0, .int 0, .int 0, .ref (a 11), .ref (a 12), .ref (a 13), .int 0, .int 0, .int 0]))]
def v1_l_shown_p (cy : Nat → ClassId) (a : Nat → Nat) (n9 : Int32) (r : Nat → Nat) : va_W := []
set_option maxHeartbeats 40000000 in
set_option maxRecDepth 100000 in
/-- shown(..) of the law on a new object: it throws -/
theorem l_shown_p (l : Launch) (hl0 : l.stackTraces = false) (dC : Nat → ClassId) (dI : Nat → Nat → Nat) (cy : Nat → ClassId) (k : Nat → Nat) (a : Nat → Nat) (n9 : Int32) (h1 : ¬ n9 < 0) (sz : Nat) : Met l yL_shown w_l_shown_p ({ frames := 7, cells := 1, slots := 6, locals := 111 }) (va_Pc [.ref (a 0), .int n9, .ref (a 14)] (nInF (dC, dI) cy k sz (v0_l_shown_p cy a n9))) (va_Qi (fun (z : Int32) (_ : Nat → Nat) => z = 1) (fun r t => nOut (dC, dI) cy (va_A (v0_l_shown_p cy a n9) sz) (v1_l_shown_p cy a n9 r) t) (va_A (v0_l_shown_p cy a n9) sz)) 1 6 (va_A (v0_l_shown_p cy a n9) sz) := by
  refine nb_ofWH (cc := cL_shown) (maxL := 4) (ret := (some .int)) (by decide) rfl ?_
  intro p e s m args below meth c s₁ B hml hv
  obtain ⟨rfl, ⟨⟨hsz, hP, hK, hD0, hG⟩, hE⟩, hT⟩ := hv
  have hx := B.exec
  have hb := B.bytes
  have hr := B.returns
  have hts := atoms_spec (ws := w_l_shown_p) B.pre
  have hown : s.vm.findClass RL = some m.cls := findClass_of_methodNamed B.named
  have hlocks := B.notSynchronized
  subst hsz
  have hD := hD0.self (sz := s.heap.size)
  generalize hAe : va_A (v0_l_shown_p cy a n9) s.heap.size = A at hD hE hT ⊢
  have hA : ∀ q : Nat, s.heap.size ≤ q → A q := fun q h => by rw [← hAe]; exact Or.inr h
  have hS : va_S A s.heap s.heap [] := va_S.rf
  have hP : va_P (dC, dI) nCl (v0_l_shown_p cy a n9) s.heap := hP
  have hl := lv_entry ([.ref (a 0), .int n9, .ref (a 14)]) (n := 4) (Nat.le_of_ble_eq_true rfl)
  rw [lg_entry_eq]
  generalize (lg_sl ([.ref (a 0), .int n9, .ref (a 14)]) ++ List.replicate (4 - (lg_sl ([.ref (a 0), .int n9, .ref (a 14)])).length) Slot.unset).toArray = ls at hl ⊢
  have hl : lv_has ls 4 [(0, .ref (a 0)), (1, .int n9), (2, .ref (a 14))] := hl
  have hTb : c.exceptionTable.toList = tableOf [(0, 9, 12, 37)] := vx_table (x := yL_shown) B (hts _ List.mem_cons_self)
  have hP : va_P (dC, dI) nCl [((a 0), .inr (10, [.ref (a 1), .ref (a 2), .ref (a 3), .ref (a 4), .ref (a 5), .ref (a 6), .ref (a 7), .ref (a 8), .ref (a 9), .ref (a 10), .int 0, .int 0, .int 0, .int 0, .ref (a 11), .ref (a 12), .ref (a 13), .int 0, .int 0, .int 0]))] s.heap := hP
  have hD : va_D A [((a 0), .inr (10, [.ref (a 1), .ref (a 2), .ref (a 3), .ref (a 4), .ref (a 5), .ref (a 6), .ref (a 7), .ref (a 8), .ref (a 9), .ref (a 10), .int 0, .int 0, .int 0, .int 0, .ref (a 11), .ref (a 12), .ref (a 13), .int 0, .int 0, .int 0]))] := hD
  refine lv_aload_n hx hb dL_shown_0 rfl (lv_at hl 2 rfl) ?_
  refine lv_iconst (v := 0) hx hb dL_shown_1 (by decide) ?_
  refine lv_aload_n hx hb dL_shown_2 rfl (lv_at hl 0 rfl) ?_
  refine lv_iload_n hx hb dL_shown_3 rfl (lv_at hl 1 rfl) ?_
  have hPc : va_P (dC, dI) nCl (v0_t_shown_p cy (fun j9 => [(a 0), (a 1), (a 2), (a 3), (a 4), (a 5), (a 6), (a 7), (a 8), (a 9), (a 10), (a 11), (a 12), (a 13), (a 14)].getD j9 0) n9) s.heap := hP
  have hDc : va_D A (v0_t_shown_p cy (fun j9 => [(a 0), (a 1), (a 2), (a 3), (a 4), (a 5), (a 6), (a 7), (a 8), (a 9), (a 10), (a 11), (a 12), (a 13), (a 14)].getD j9 0) n9) := hD
  have hFc := va_free (wc := (v0_t_shown_p cy (fun j9 => [(a 0), (a 1), (a 2), (a 3), (a 4), (a 5), (a 6), (a 7), (a 8), (a 9), (a 10), (a 11), (a 12), (a 13), (a 14)].getD j9 0) n9)) hD hS hA [0] rfl
  refine vx_calli (vx_runV (As := [.int n9]) (rest := [.int 0, .ref (a 14)]) ⟨hx, hb, hml, hown, hts⟩ (t_shown_p l hl0 dC dI cy k (fun j9 => [(a 0), (a 1), (a 2), (a 3), (a 4), (a 5), (a 6), (a 7), (a 8), (a 9), (a 10), (a 11), (a 12), (a 13), (a 14)].getD j9 0) n9 h1 s.heap.size) (cwV 1 hts g_l_shown_p_59_t_shown_p rfl rfl rfl (by decide +kernel) ⟨Nat.le_of_ble_eq_true rfl, Nat.le_of_ble_eq_true rfl⟩) ⟨nb_blindF, va_recv hK hPc (ci := 10) (q0 := 0) rfl rfl, fun U hU hW => ⟨rfl, ⟨⟨by rw [hU], by rw [hU]; exact hPc, va_K.moved hW.alike hK, hDc.weaken (fun _ _ _ _ => trivial), hG.warm hW⟩, nE.to hE hS hW hU hFc⟩, nT.to hT hS hW hU hFc⟩⟩ rfl rfl hl.1 rfl (lv_room (Nat.le_of_ble_eq_true rfl)) dL_shown_4 ⟨Nat.le_of_ble_eq_true rfl, Nat.le_of_ble_eq_true rfl⟩) hS (fun q _ h => hFc q h) hFc (fun q _ h => hFc q h) (fun E ce q9 u t H locs ht hvm hp hB hz1 hk1 hS hce hcv hcl => ?_) (fun r9 u t H1 locs ht hvm hp hB hz1 hk1 hS => hp.elim)
  subst hB
  refine vx_widen (k := 1) (n := 6) (Nat.le_of_ble_eq_true rfl) (Nat.le_of_ble_eq_true rfl) ?_
  refine vx_catch (E := "java/lang/IndexOutOfBoundsException") (name := "java/lang/IndexOutOfBoundsException") hown [] (⟨0, 9, 12, 37⟩ : ExceptionTableEntry) [] (by rw [hTb]; rfl) (fun z h => absurd h List.not_mem_nil) (by decide) (by decide) (hts _ (List.mem_cons_of_mem _ (List.mem_append_left _ (List.mem_append_left _ (List.mem_of_getElem? (i := 4) rfl))))) (va_Nw.use (by decide +kernel) (hT.2.2.1 _ (List.mem_of_getElem? (i := 2) rfl))) hce hcv hcl ?_
  have hP : va_P (dC, dI) nCl [] H := nb_nil
  have hD : va_D A [] := nb_nilD
  refine lv_astore_n (lv' := [(3, .ref q9), (0, .ref (a 0)), (1, .int n9), (2, .ref (a 14))]) hx hb dL_shown_12 rfl hl (by decide) rfl (fun ls hl => ?_)
  refine lv_iconst (v := 1) hx hb dL_shown_13 (by decide) ?_
  have hP : va_P (dC, dI) nCl (v1_l_shown_p cy a n9 (fun _ => 0)) H := hP
  have hD : va_D A (v1_l_shown_p cy a n9 (fun _ => 0)) := hD
  exact W.iret (v := 1) hx hb hr (fun t ht hW => ⟨⟨1, (fun _ => 0), rfl, rfl, by rw [ht]; exact hP, va_K.moved hW.alike hK, hD⟩, hS.F ht⟩) hS.2.2 dL_shown_14
def o_l_shape_n : List Cond := [.methodLink RL 62 yX11_shape, .instanceMethod yX11_shape, .selects RX11 yX11_shape yX11_shape, .initialized RX11, .classLink RL 37 "java/lang/IndexOutOfBoundsException"]
theorem o_l_shape_n_good : o_l_shape_n.all goodWord = true := by decide +kernel
def p_l_shape_n : List Cond := o_l_shape_n ++ ((.code yX11_shape cX11_shape 4 (some .int) :: p_t_shape_n) ++ [])
theorem p_l_shape_n_good : p_l_shape_n.all goodWord = true := nb_all2 o_l_shape_n_good (nb_all2 (nb_allc (by decide +kernel) p_t_shape_n_good) rfl)
def w_l_shape_n : List Cond := .codeWith yL_shape cL_shape 4 (some .int) [(0, 9, 12, 37)] :: (p_l_shape_n ++ fC)
theorem w_l_shape_n_good : w_l_shape_n.all goodWord = true := nb_allc (by decide +kernel) (nb_all2 p_l_shape_n_good fC_good)
theorem gg_l_shape_n_t_shape_n : GoodIn w_l_shape_n w_t_shape_n := goodIn_sub (fun w h => (List.mem_cons.mp h).elim (fun e => (List.mem_cons_of_mem _ (List.mem_append_left _ (List.mem_append_right _ (List.mem_append_left _ (List.mem_cons.mpr (Or.inl e))))))) (fun h => (List.mem_append.mp h).elim (fun h => (List.mem_cons_of_mem _ (List.mem_append_left _ (List.mem_append_right _ (List.mem_append_left _ (List.mem_cons_of_mem _ h)))))) (fun h => List.mem_cons_of_mem _ (List.mem_append_right _ h)))) w_t_shape_n_good
theorem g_l_shape_n_62_t_shape_n : GoodIn w_l_shape_n (wsV RL 62 RX11 yX11_shape w_t_shape_n) := goodIn_app (nb_g4 (List.mem_cons_of_mem _ (List.mem_append_left _ (List.mem_append_left _ (List.mem_of_getElem? (i := 0) rfl)))) (List.mem_cons_of_mem _ (List.mem_append_left _ (List.mem_append_left _ (List.mem_of_getElem? (i := 1) rfl)))) (List.mem_cons_of_mem _ (List.mem_append_left _ (List.mem_append_left _ (List.mem_of_getElem? (i := 2) rfl)))) (List.mem_cons_of_mem _ (List.mem_append_left _ (List.mem_append_left _ (List.mem_of_getElem? (i := 3) rfl)))) (by decide +kernel)) gg_l_shape_n_t_shape_n
def v0_l_shape_n (cy : Nat → ClassId) (a : Nat → Nat) (n9 : Int32) : va_W := [((a 0), .inr (10, [.ref (a 1), .ref (a 2), .ref (a 3), .ref (a 4), .ref (a 5), .ref (a 6), .ref (a 7), .ref (a 8), .ref (a 9), .ref (a 10), .int 0, .int 0, .int 0, .int 0, .ref (a 11), .ref (a 12), .ref (a 13), .int 0, .int 0, .int 0]))]
def v1_l_shape_n (cy : Nat → ClassId) (a : Nat → Nat) (n9 : Int32) (r : Nat → Nat) : va_W := []
set_option maxHeartbeats 40000000 in
set_option maxRecDepth 100000 in
/-- shape(..) of the law on a new object: it throws -/
theorem l_shape_n (l : Launch) (hl0 : l.stackTraces = false) (dC : Nat → ClassId) (dI : Nat → Nat → Nat) (cy : Nat → ClassId) (k : Nat → Nat) (a : Nat → Nat) (n9 : Int32) (h1 : n9 < 0) (sz : Nat) : Met l yL_shape w_l_shape_n ({ frames := 7, cells := 1, slots := 6, locals := 113 }) (va_Pc [.ref (a 0), .int n9, .ref (a 14)] (nInF (dC, dI) cy k sz (v0_l_shape_n cy a n9))) (va_Qi (fun (z : Int32) (_ : Nat → Nat) => z = 1) (fun r t => nOut (dC, dI) cy (va_A (v0_l_shape_n cy a n9) sz) (v1_l_shape_n cy a n9 r) t) (va_A (v0_l_shape_n cy a n9) sz)) 1 6 (va_A (v0_l_shape_n cy a n9) sz) := by
  refine nb_ofWH (cc := cL_shape) (maxL := 4) (ret := (some .int)) (by decide) rfl ?_
  intro p e s m args below meth c s₁ B hml hv
  obtain ⟨rfl, ⟨⟨hsz, hP, hK, hD0, hG⟩, hE⟩, hT⟩ := hv
  have hx := B.exec
  have hb := B.bytes
  have hr := B.returns
  have hts := atoms_spec (ws := w_l_shape_n) B.pre
  have hown : s.vm.findClass RL = some m.cls := findClass_of_methodNamed B.named
  have hlocks := B.notSynchronized
  subst hsz
  have hD := hD0.self (sz := s.heap.size)
  generalize hAe : va_A (v0_l_shape_n cy a n9) s.heap.size = A at hD hE hT ⊢
  have hA : ∀ q : Nat, s.heap.size ≤ q → A q := fun q h => by rw [← hAe]; exact Or.inr h
  have hS : va_S A s.heap s.heap [] := va_S.rf
  have hP : va_P (dC, dI) nCl (v0_l_shape_n cy a n9) s.heap := hP
  have hl := lv_entry ([.ref (a 0), .int n9, .ref (a 14)]) (n := 4) (Nat.le_of_ble_eq_true rfl)
  rw [lg_entry_eq]
  generalize (lg_sl ([.ref (a 0), .int n9, .ref (a 14)]) ++ List.replicate (4 - (lg_sl ([.ref (a 0), .int n9, .ref (a 14)])).length) Slot.unset).toArray = ls at hl ⊢
  have hl : lv_has ls 4 [(0, .ref (a 0)), (1, .int n9), (2, .ref (a 14))] := hl
  have hTb : c.exceptionTable.toList = tableOf [(0, 9, 12, 37)] := vx_table (x := yL_shape) B (hts _ List.mem_cons_self)
  have hP : va_P (dC, dI) nCl [((a 0), .inr (10, [.ref (a 1), .ref (a 2), .ref (a 3), .ref (a 4), .ref (a 5), .ref (a 6), .ref (a 7), .ref (a 8), .ref (a 9), .ref (a 10), .int 0, .int 0, .int 0, .int 0, .ref (a 11), .ref (a 12), .ref (a 13), .int 0, .int 0, .int 0]))] s.heap := hP
  have hD : va_D A [((a 0), .inr (10, [.ref (a 1), .ref (a 2), .ref (a 3), .ref (a 4), .ref (a 5), .ref (a 6), .ref (a 7), .ref (a 8), .ref (a 9), .ref (a 10), .int 0, .int 0, .int 0, .int 0, .ref (a 11), .ref (a 12), .ref (a 13), .int 0, .int 0, .int 0]))] := hD
  refine lv_aload_n hx hb dL_shape_0 rfl (lv_at hl 2 rfl) ?_
  refine lv_iconst (v := 0) hx hb dL_shape_1 (by decide) ?_
  refine lv_aload_n hx hb dL_shape_2 rfl (lv_at hl 0 rfl) ?_
  refine lv_iload_n hx hb dL_shape_3 rfl (lv_at hl 1 rfl) ?_
  have hPc : va_P (dC, dI) nCl (v0_t_shape_n cy (fun j9 => [(a 0), (a 1), (a 2), (a 3), (a 4), (a 5), (a 6), (a 7), (a 8), (a 9), (a 10), (a 11), (a 12), (a 13), (a 14)].getD j9 0) n9) s.heap := hP
  have hDc : va_D A (v0_t_shape_n cy (fun j9 => [(a 0), (a 1), (a 2), (a 3), (a 4), (a 5), (a 6), (a 7), (a 8), (a 9), (a 10), (a 11), (a 12), (a 13), (a 14)].getD j9 0) n9) := hD
  have hFc := va_free (wc := (v0_t_shape_n cy (fun j9 => [(a 0), (a 1), (a 2), (a 3), (a 4), (a 5), (a 6), (a 7), (a 8), (a 9), (a 10), (a 11), (a 12), (a 13), (a 14)].getD j9 0) n9)) hD hS hA [0] rfl
  refine vx_calli (vx_runV (As := [.int n9]) (rest := [.int 0, .ref (a 14)]) ⟨hx, hb, hml, hown, hts⟩ (t_shape_n l hl0 dC dI cy k (fun j9 => [(a 0), (a 1), (a 2), (a 3), (a 4), (a 5), (a 6), (a 7), (a 8), (a 9), (a 10), (a 11), (a 12), (a 13), (a 14)].getD j9 0) n9 h1 s.heap.size) (cwV 1 hts g_l_shape_n_62_t_shape_n rfl rfl rfl (by decide +kernel) ⟨Nat.le_of_ble_eq_true rfl, Nat.le_of_ble_eq_true rfl⟩) ⟨nb_blindF, va_recv hK hPc (ci := 10) (q0 := 0) rfl rfl, fun U hU hW => ⟨rfl, ⟨⟨by rw [hU], by rw [hU]; exact hPc, va_K.moved hW.alike hK, hDc.weaken (fun _ _ _ _ => trivial), hG.warm hW⟩, nE.to hE hS hW hU hFc⟩, nT.to hT hS hW hU hFc⟩⟩ rfl rfl hl.1 rfl (lv_room (Nat.le_of_ble_eq_true rfl)) dL_shape_4 ⟨Nat.le_of_ble_eq_true rfl, Nat.le_of_ble_eq_true rfl⟩) hS (fun q _ h => hFc q h) hFc (fun q _ h => hFc q h) (fun E ce q9 u t H locs ht hvm hp hB hz1 hk1 hS hce hcv hcl => ?_) (fun r9 u t H1 locs ht hvm hp hB hz1 hk1 hS => hp.elim)
  subst hB
  refine vx_widen (k := 1) (n := 6) (Nat.le_of_ble_eq_true rfl) (Nat.le_of_ble_eq_true rfl) ?_
  refine vx_catch (E := "java/lang/IndexOutOfBoundsException") (name := "java/lang/IndexOutOfBoundsException") hown [] (⟨0, 9, 12, 37⟩ : ExceptionTableEntry) [] (by rw [hTb]; rfl) (fun z h => absurd h List.not_mem_nil) (by decide) (by decide) (hts _ (List.mem_cons_of_mem _ (List.mem_append_left _ (List.mem_append_left _ (List.mem_of_getElem? (i := 4) rfl))))) (va_Nw.use (by decide +kernel) (hT.2.2.1 _ (List.mem_of_getElem? (i := 2) rfl))) hce hcv hcl ?_
  have hP : va_P (dC, dI) nCl [] H := nb_nil
  have hD : va_D A [] := nb_nilD
  refine lv_astore_n (lv' := [(3, .ref q9), (0, .ref (a 0)), (1, .int n9), (2, .ref (a 14))]) hx hb dL_shape_12 rfl hl (by decide) rfl (fun ls hl => ?_)
  refine lv_iconst (v := 1) hx hb dL_shape_13 (by decide) ?_
  have hP : va_P (dC, dI) nCl (v1_l_shape_n cy a n9 (fun _ => 0)) H := hP
  have hD : va_D A (v1_l_shape_n cy a n9 (fun _ => 0)) := hD
  exact W.iret (v := 1) hx hb hr (fun t ht hW => ⟨⟨1, (fun _ => 0), rfl, rfl, by rw [ht]; exact hP, va_K.moved hW.alike hK, hD⟩, hS.F ht⟩) hS.2.2 dL_shape_14
def o_l_shape_p : List Cond := [.methodLink RL 62 yX11_shape, .instanceMethod yX11_shape, .selects RX11 yX11_shape yX11_shape, .initialized RX11, .classLink RL 37 "java/lang/IndexOutOfBoundsException"]
theorem o_l_shape_p_good : o_l_shape_p.all goodWord = true := by decide +kernel
def p_l_shape_p : List Cond := o_l_shape_p ++ ((.code yX11_shape cX11_shape 4 (some .int) :: p_t_shape_p) ++ [])
theorem p_l_shape_p_good : p_l_shape_p.all goodWord = true := nb_all2 o_l_shape_p_good (nb_all2 (nb_allc (by decide +kernel) p_t_shape_p_good) rfl)
def w_l_shape_p : List Cond := .codeWith yL_shape cL_shape 4 (some .int) [(0, 9, 12, 37)] :: (p_l_shape_p ++ fC)
theorem w_l_shape_p_good : w_l_shape_p.all goodWord = true := nb_allc (by decide +kernel) (nb_all2 p_l_shape_p_good fC_good)
theorem gg_l_shape_p_t_shape_p : GoodIn w_l_shape_p w_t_shape_p := goodIn_sub (fun w h => (List.mem_cons.mp h).elim (fun e => (List.mem_cons_of_mem _ (List.mem_append_left _ (List.mem_append_right _ (List.mem_append_left _ (List.mem_cons.mpr (Or.inl e))))))) (fun h => (List.mem_append.mp h).elim (fun h => (List.mem_cons_of_mem _ (List.mem_append_left _ (List.mem_append_right _ (List.mem_append_left _ (List.mem_cons_of_mem _ h)))))) (fun h => List.mem_cons_of_mem _ (List.mem_append_right _ h)))) w_t_shape_p_good
theorem g_l_shape_p_62_t_shape_p : GoodIn w_l_shape_p (wsV RL 62 RX11 yX11_shape w_t_shape_p) := goodIn_app (nb_g4 (List.mem_cons_of_mem _ (List.mem_append_left _ (List.mem_append_left _ (List.mem_of_getElem? (i := 0) rfl)))) (List.mem_cons_of_mem _ (List.mem_append_left _ (List.mem_append_left _ (List.mem_of_getElem? (i := 1) rfl)))) (List.mem_cons_of_mem _ (List.mem_append_left _ (List.mem_append_left _ (List.mem_of_getElem? (i := 2) rfl)))) (List.mem_cons_of_mem _ (List.mem_append_left _ (List.mem_append_left _ (List.mem_of_getElem? (i := 3) rfl)))) (by decide +kernel)) gg_l_shape_p_t_shape_p
def v0_l_shape_p (cy : Nat → ClassId) (a : Nat → Nat) (n9 : Int32) : va_W := [((a 0), .inr (10, [.ref (a 1), .ref (a 2), .ref (a 3), .ref (a 4), .ref (a 5), .ref (a 6), .ref (a 7), .ref (a 8), .ref (a 9), .ref (a 10), .int 0, .int 0, .int 0, .int 0, .ref (a 11), .ref (a 12), .ref (a 13), .int 0, .int 0, .int 0]))]
def v1_l_shape_p (cy : Nat → ClassId) (a : Nat → Nat) (n9 : Int32) (r : Nat → Nat) : va_W := []
set_option maxHeartbeats 40000000 in
set_option maxRecDepth 100000 in
/-- shape(..) of the law on a new object: it throws -/
theorem l_shape_p (l : Launch) (hl0 : l.stackTraces = false) (dC : Nat → ClassId) (dI : Nat → Nat → Nat) (cy : Nat → ClassId) (k : Nat → Nat) (a : Nat → Nat) (n9 : Int32) (h1 : ¬ n9 < 0) (h2 : ¬ n9 ≤ 3) (sz : Nat) : Met l yL_shape w_l_shape_p ({ frames := 7, cells := 1, slots := 6, locals := 113 }) (va_Pc [.ref (a 0), .int n9, .ref (a 14)] (nInF (dC, dI) cy k sz (v0_l_shape_p cy a n9))) (va_Qi (fun (z : Int32) (_ : Nat → Nat) => z = 1) (fun r t => nOut (dC, dI) cy (va_A (v0_l_shape_p cy a n9) sz) (v1_l_shape_p cy a n9 r) t) (va_A (v0_l_shape_p cy a n9) sz)) 1 6 (va_A (v0_l_shape_p cy a n9) sz) := by
  refine nb_ofWH (cc := cL_shape) (maxL := 4) (ret := (some .int)) (by decide) rfl ?_
  intro p e s m args below meth c s₁ B hml hv
  obtain ⟨rfl, ⟨⟨hsz, hP, hK, hD0, hG⟩, hE⟩, hT⟩ := hv
  have hx := B.exec
  have hb := B.bytes
  have hr := B.returns
  have hts := atoms_spec (ws := w_l_shape_p) B.pre
  have hown : s.vm.findClass RL = some m.cls := findClass_of_methodNamed B.named
  have hlocks := B.notSynchronized
  subst hsz
  have hD := hD0.self (sz := s.heap.size)
  generalize hAe : va_A (v0_l_shape_p cy a n9) s.heap.size = A at hD hE hT ⊢
  have hA : ∀ q : Nat, s.heap.size ≤ q → A q := fun q h => by rw [← hAe]; exact Or.inr h
  have hS : va_S A s.heap s.heap [] := va_S.rf
  have hP : va_P (dC, dI) nCl (v0_l_shape_p cy a n9) s.heap := hP
  have hl := lv_entry ([.ref (a 0), .int n9, .ref (a 14)]) (n := 4) (Nat.le_of_ble_eq_true rfl)
  rw [lg_entry_eq]
  generalize (lg_sl ([.ref (a 0), .int n9, .ref (a 14)]) ++ List.replicate (4 - (lg_sl ([.ref (a 0), .int n9, .ref (a 14)])).length) Slot.unset).toArray = ls at hl ⊢
  have hl : lv_has ls 4 [(0, .ref (a 0)), (1, .int n9), (2, .ref (a 14))] := hl
  have hTb : c.exceptionTable.toList = tableOf [(0, 9, 12, 37)] := vx_table (x := yL_shape) B (hts _ List.mem_cons_self)
  have hP : va_P (dC, dI) nCl [((a 0), .inr (10, [.ref (a 1), .ref (a 2), .ref (a 3), .ref (a 4), .ref (a 5), .ref (a 6), .ref (a 7), .ref (a 8), .ref (a 9), .ref (a 10), .int 0, .int 0, .int 0, .int 0, .ref (a 11), .ref (a 12), .ref (a 13), .int 0, .int 0, .int 0]))] s.heap := hP
  have hD : va_D A [((a 0), .inr (10, [.ref (a 1), .ref (a 2), .ref (a 3), .ref (a 4), .ref (a 5), .ref (a 6), .ref (a 7), .ref (a 8), .ref (a 9), .ref (a 10), .int 0, .int 0, .int 0, .int 0, .ref (a 11), .ref (a 12), .ref (a 13), .int 0, .int 0, .int 0]))] := hD
  refine lv_aload_n hx hb dL_shape_0 rfl (lv_at hl 2 rfl) ?_
  refine lv_iconst (v := 0) hx hb dL_shape_1 (by decide) ?_
  refine lv_aload_n hx hb dL_shape_2 rfl (lv_at hl 0 rfl) ?_
  refine lv_iload_n hx hb dL_shape_3 rfl (lv_at hl 1 rfl) ?_
  have hPc : va_P (dC, dI) nCl (v0_t_shape_p cy (fun j9 => [(a 0), (a 1), (a 2), (a 3), (a 4), (a 5), (a 6), (a 7), (a 8), (a 9), (a 10), (a 11), (a 12), (a 13), (a 14)].getD j9 0) n9) s.heap := hP
  have hDc : va_D A (v0_t_shape_p cy (fun j9 => [(a 0), (a 1), (a 2), (a 3), (a 4), (a 5), (a 6), (a 7), (a 8), (a 9), (a 10), (a 11), (a 12), (a 13), (a 14)].getD j9 0) n9) := hD
  have hFc := va_free (wc := (v0_t_shape_p cy (fun j9 => [(a 0), (a 1), (a 2), (a 3), (a 4), (a 5), (a 6), (a 7), (a 8), (a 9), (a 10), (a 11), (a 12), (a 13), (a 14)].getD j9 0) n9)) hD hS hA [0] rfl
  refine vx_calli (vx_runV (As := [.int n9]) (rest := [.int 0, .ref (a 14)]) ⟨hx, hb, hml, hown, hts⟩ (t_shape_p l hl0 dC dI cy k (fun j9 => [(a 0), (a 1), (a 2), (a 3), (a 4), (a 5), (a 6), (a 7), (a 8), (a 9), (a 10), (a 11), (a 12), (a 13), (a 14)].getD j9 0) n9 h1 h2 s.heap.size) (cwV 1 hts g_l_shape_p_62_t_shape_p rfl rfl rfl (by decide +kernel) ⟨Nat.le_of_ble_eq_true rfl, Nat.le_of_ble_eq_true rfl⟩) ⟨nb_blindF, va_recv hK hPc (ci := 10) (q0 := 0) rfl rfl, fun U hU hW => ⟨rfl, ⟨⟨by rw [hU], by rw [hU]; exact hPc, va_K.moved hW.alike hK, hDc.weaken (fun _ _ _ _ => trivial), hG.warm hW⟩, nE.to hE hS hW hU hFc⟩, nT.to hT hS hW hU hFc⟩⟩ rfl rfl hl.1 rfl (lv_room (Nat.le_of_ble_eq_true rfl)) dL_shape_4 ⟨Nat.le_of_ble_eq_true rfl, Nat.le_of_ble_eq_true rfl⟩) hS (fun q _ h => hFc q h) hFc (fun q _ h => hFc q h) (fun E ce q9 u t H locs ht hvm hp hB hz1 hk1 hS hce hcv hcl => ?_) (fun r9 u t H1 locs ht hvm hp hB hz1 hk1 hS => hp.elim)
  subst hB
  refine vx_widen (k := 1) (n := 6) (Nat.le_of_ble_eq_true rfl) (Nat.le_of_ble_eq_true rfl) ?_
  refine vx_catch (E := "java/lang/IndexOutOfBoundsException") (name := "java/lang/IndexOutOfBoundsException") hown [] (⟨0, 9, 12, 37⟩ : ExceptionTableEntry) [] (by rw [hTb]; rfl) (fun z h => absurd h List.not_mem_nil) (by decide) (by decide) (hts _ (List.mem_cons_of_mem _ (List.mem_append_left _ (List.mem_append_left _ (List.mem_of_getElem? (i := 4) rfl))))) (va_Nw.use (by decide +kernel) (hT.2.2.1 _ (List.mem_of_getElem? (i := 2) rfl))) hce hcv hcl ?_
  have hP : va_P (dC, dI) nCl [] H := nb_nil
  have hD : va_D A [] := nb_nilD
  refine lv_astore_n (lv' := [(3, .ref q9), (0, .ref (a 0)), (1, .int n9), (2, .ref (a 14))]) hx hb dL_shape_12 rfl hl (by decide) rfl (fun ls hl => ?_)
  refine lv_iconst (v := 1) hx hb dL_shape_13 (by decide) ?_
  have hP : va_P (dC, dI) nCl (v1_l_shape_p cy a n9 (fun _ => 0)) H := hP
  have hD : va_D A (v1_l_shape_p cy a n9 (fun _ => 0)) := hD
  exact W.iret (v := 1) hx hb hr (fun t ht hW => ⟨⟨1, (fun _ => 0), rfl, rfl, by rw [ht]; exact hP, va_K.moved hW.alike hK, hD⟩, hS.F ht⟩) hS.2.2 dL_shape_14
def o_l_count_n : List Cond := [.methodLink RL 65 yX11_count, .instanceMethod yX11_count, .selects RX11 yX11_count yX11_count, .initialized RX11, .classLink RL 37 "java/lang/IndexOutOfBoundsException"]
theorem o_l_count_n_good : o_l_count_n.all goodWord = true := by decide +kernel
def p_l_count_n : List Cond := o_l_count_n ++ ((.code yX11_count cX11_count 2 (some .int) :: p_t_count_n) ++ [])
theorem p_l_count_n_good : p_l_count_n.all goodWord = true := nb_all2 o_l_count_n_good (nb_all2 (nb_allc (by decide +kernel) p_t_count_n_good) rfl)
def w_l_count_n : List Cond := .codeWith yL_count cL_count 4 (some .int) [(0, 9, 12, 37)] :: (p_l_count_n ++ fC)
theorem w_l_count_n_good : w_l_count_n.all goodWord = true := nb_allc (by decide +kernel) (nb_all2 p_l_count_n_good fC_good)
theorem gg_l_count_n_t_count_n : GoodIn w_l_count_n w_t_count_n := goodIn_sub (fun w h => (List.mem_cons.mp h).elim (fun e => (List.mem_cons_of_mem _ (List.mem_append_left _ (List.mem_append_right _ (List.mem_append_left _ (List.mem_cons.mpr (Or.inl e))))))) (fun h => (List.mem_append.mp h).elim (fun h => (List.mem_cons_of_mem _ (List.mem_append_left _ (List.mem_append_right _ (List.mem_append_left _ (List.mem_cons_of_mem _ h)))))) (fun h => List.mem_cons_of_mem _ (List.mem_append_right _ h)))) w_t_count_n_good
theorem g_l_count_n_65_t_count_n : GoodIn w_l_count_n (wsV RL 65 RX11 yX11_count w_t_count_n) := goodIn_app (nb_g4 (List.mem_cons_of_mem _ (List.mem_append_left _ (List.mem_append_left _ (List.mem_of_getElem? (i := 0) rfl)))) (List.mem_cons_of_mem _ (List.mem_append_left _ (List.mem_append_left _ (List.mem_of_getElem? (i := 1) rfl)))) (List.mem_cons_of_mem _ (List.mem_append_left _ (List.mem_append_left _ (List.mem_of_getElem? (i := 2) rfl)))) (List.mem_cons_of_mem _ (List.mem_append_left _ (List.mem_append_left _ (List.mem_of_getElem? (i := 3) rfl)))) (by decide +kernel)) gg_l_count_n_t_count_n
def v0_l_count_n (cy : Nat → ClassId) (a : Nat → Nat) (n9 : Int32) : va_W := [((a 0), .inr (10, [.ref (a 1), .ref (a 2), .ref (a 3), .ref (a 4), .ref (a 5), .ref (a 6), .ref (a 7), .ref (a 8), .ref (a 9), .ref (a 10), .int 0, .int 0, .int 0, .int 0, .ref (a 11), .ref (a 12), .ref (a 13), .int 0, .int 0, .int 0]))]
def v1_l_count_n (cy : Nat → ClassId) (a : Nat → Nat) (n9 : Int32) (r : Nat → Nat) : va_W := []
set_option maxHeartbeats 40000000 in
set_option maxRecDepth 100000 in
/-- count(..) of the law on a new object: it throws -/
theorem l_count_n (l : Launch) (hl0 : l.stackTraces = false) (dC : Nat → ClassId) (dI : Nat → Nat → Nat) (cy : Nat → ClassId) (k : Nat → Nat) (a : Nat → Nat) (n9 : Int32) (h1 : n9.toInt < 0) (sz : Nat) : Met l yL_count w_l_count_n ({ frames := 7, cells := 1, slots := 6, locals := 111 }) (va_Pc [.ref (a 0), .int n9, .ref (a 14)] (nInF (dC, dI) cy k sz (v0_l_count_n cy a n9))) (va_Qi (fun (z : Int32) (_ : Nat → Nat) => z = 1) (fun r t => nOut (dC, dI) cy (va_A (v0_l_count_n cy a n9) sz) (v1_l_count_n cy a n9 r) t) (va_A (v0_l_count_n cy a n9) sz)) 1 6 (va_A (v0_l_count_n cy a n9) sz) := by
  refine nb_ofWH (cc := cL_count) (maxL := 4) (ret := (some .int)) (by decide) rfl ?_
  intro p e s m args below meth c s₁ B hml hv
  obtain ⟨rfl, ⟨⟨hsz, hP, hK, hD0, hG⟩, hE⟩, hT⟩ := hv
  have hx := B.exec
  have hb := B.bytes
  have hr := B.returns
  have hts := atoms_spec (ws := w_l_count_n) B.pre
  have hown : s.vm.findClass RL = some m.cls := findClass_of_methodNamed B.named
  have hlocks := B.notSynchronized
  subst hsz
  have hD := hD0.self (sz := s.heap.size)
  generalize hAe : va_A (v0_l_count_n cy a n9) s.heap.size = A at hD hE hT ⊢
  have hA : ∀ q : Nat, s.heap.size ≤ q → A q := fun q h => by rw [← hAe]; exact Or.inr h
  have hS : va_S A s.heap s.heap [] := va_S.rf
  have hP : va_P (dC, dI) nCl (v0_l_count_n cy a n9) s.heap := hP
  have hl := lv_entry ([.ref (a 0), .int n9, .ref (a 14)]) (n := 4) (Nat.le_of_ble_eq_true rfl)
  rw [lg_entry_eq]
  generalize (lg_sl ([.ref (a 0), .int n9, .ref (a 14)]) ++ List.replicate (4 - (lg_sl ([.ref (a 0), .int n9, .ref (a 14)])).length) Slot.unset).toArray = ls at hl ⊢
  have hl : lv_has ls 4 [(0, .ref (a 0)), (1, .int n9), (2, .ref (a 14))] := hl
  have hTb : c.exceptionTable.toList = tableOf [(0, 9, 12, 37)] := vx_table (x := yL_count) B (hts _ List.mem_cons_self)
  have hP : va_P (dC, dI) nCl [((a 0), .inr (10, [.ref (a 1), .ref (a 2), .ref (a 3), .ref (a 4), .ref (a 5), .ref (a 6), .ref (a 7), .ref (a 8), .ref (a 9), .ref (a 10), .int 0, .int 0, .int 0, .int 0, .ref (a 11), .ref (a 12), .ref (a 13), .int 0, .int 0, .int 0]))] s.heap := hP
  have hD : va_D A [((a 0), .inr (10, [.ref (a 1), .ref (a 2), .ref (a 3), .ref (a 4), .ref (a 5), .ref (a 6), .ref (a 7), .ref (a 8), .ref (a 9), .ref (a 10), .int 0, .int 0, .int 0, .int 0, .ref (a 11), .ref (a 12), .ref (a 13), .int 0, .int 0, .int 0]))] := hD
  refine lv_aload_n hx hb dL_count_0 rfl (lv_at hl 2 rfl) ?_
  refine lv_iconst (v := 0) hx hb dL_count_1 (by decide) ?_
  refine lv_aload_n hx hb dL_count_2 rfl (lv_at hl 0 rfl) ?_
  refine lv_iload_n hx hb dL_count_3 rfl (lv_at hl 1 rfl) ?_
  have hPc : va_P (dC, dI) nCl (v0_t_count_n cy (fun j9 => [(a 0), (a 1), (a 2), (a 3), (a 4), (a 5), (a 6), (a 7), (a 8), (a 9), (a 10), (a 11), (a 12), (a 13), (a 14)].getD j9 0) n9) s.heap := hP
  have hDc : va_D A (v0_t_count_n cy (fun j9 => [(a 0), (a 1), (a 2), (a 3), (a 4), (a 5), (a 6), (a 7), (a 8), (a 9), (a 10), (a 11), (a 12), (a 13), (a 14)].getD j9 0) n9) := hD
  have hFc := va_free (wc := (v0_t_count_n cy (fun j9 => [(a 0), (a 1), (a 2), (a 3), (a 4), (a 5), (a 6), (a 7), (a 8), (a 9), (a 10), (a 11), (a 12), (a 13), (a 14)].getD j9 0) n9)) hD hS hA [0] rfl
  refine vx_calli (vx_runV (As := [.int n9]) (rest := [.int 0, .ref (a 14)]) ⟨hx, hb, hml, hown, hts⟩ (t_count_n l hl0 dC dI cy k (fun j9 => [(a 0), (a 1), (a 2), (a 3), (a 4), (a 5), (a 6), (a 7), (a 8), (a 9), (a 10), (a 11), (a 12), (a 13), (a 14)].getD j9 0) n9 h1 s.heap.size) (cwV 1 hts g_l_count_n_65_t_count_n rfl rfl rfl (by decide +kernel) ⟨Nat.le_of_ble_eq_true rfl, Nat.le_of_ble_eq_true rfl⟩) ⟨nb_blindF, va_recv hK hPc (ci := 10) (q0 := 0) rfl rfl, fun U hU hW => ⟨rfl, ⟨⟨by rw [hU], by rw [hU]; exact hPc, va_K.moved hW.alike hK, hDc.weaken (fun _ _ _ _ => trivial), hG.warm hW⟩, nE.to hE hS hW hU hFc⟩, nT.to hT hS hW hU hFc⟩⟩ rfl rfl hl.1 rfl (lv_room (Nat.le_of_ble_eq_true rfl)) dL_count_4 ⟨Nat.le_of_ble_eq_true rfl, Nat.le_of_ble_eq_true rfl⟩) hS (fun q _ h => hFc q h) hFc (fun q _ h => hFc q h) (fun E ce q9 u t H locs ht hvm hp hB hz1 hk1 hS hce hcv hcl => ?_) (fun r9 u t H1 locs ht hvm hp hB hz1 hk1 hS => hp.elim)
  subst hB
  refine vx_widen (k := 1) (n := 6) (Nat.le_of_ble_eq_true rfl) (Nat.le_of_ble_eq_true rfl) ?_
  refine vx_catch (E := "java/lang/IndexOutOfBoundsException") (name := "java/lang/IndexOutOfBoundsException") hown [] (⟨0, 9, 12, 37⟩ : ExceptionTableEntry) [] (by rw [hTb]; rfl) (fun z h => absurd h List.not_mem_nil) (by decide) (by decide) (hts _ (List.mem_cons_of_mem _ (List.mem_append_left _ (List.mem_append_left _ (List.mem_of_getElem? (i := 4) rfl))))) (va_Nw.use (by decide +kernel) (hT.2.2.1 _ (List.mem_of_getElem? (i := 2) rfl))) hce hcv hcl ?_
  have hP : va_P (dC, dI) nCl [] H := nb_nil
  have hD : va_D A [] := nb_nilD
  refine lv_astore_n (lv' := [(3, .ref q9), (0, .ref (a 0)), (1, .int n9), (2, .ref (a 14))]) hx hb dL_count_12 rfl hl (by decide) rfl (fun ls hl => ?_)
  refine lv_iconst (v := 1) hx hb dL_count_13 (by decide) ?_
  have hP : va_P (dC, dI) nCl (v1_l_count_n cy a n9 (fun _ => 0)) H := hP
  have hD : va_D A (v1_l_count_n cy a n9 (fun _ => 0)) := hD
  exact W.iret (v := 1) hx hb hr (fun t ht hW => ⟨⟨1, (fun _ => 0), rfl, rfl, by rw [ht]; exact hP, va_K.moved hW.alike hK, hD⟩, hS.F ht⟩) hS.2.2 dL_count_14
def o_l_count_p : List Cond := [.methodLink RL 65 yX11_count, .instanceMethod yX11_count, .selects RX11 yX11_count yX11_count, .initialized RX11, .classLink RL 37 "java/lang/IndexOutOfBoundsException"]
theorem o_l_count_p_good : o_l_count_p.all goodWord = true := by decide +kernel
def p_l_count_p : List Cond := o_l_count_p ++ ((.code yX11_count cX11_count 2 (some .int) :: p_t_count_p) ++ [])
theorem p_l_count_p_good : p_l_count_p.all goodWord = true := nb_all2 o_l_count_p_good (nb_all2 (nb_allc (by decide +kernel) p_t_count_p_good) rfl)
def w_l_count_p : List Cond := .codeWith yL_count cL_count 4 (some .int) [(0, 9, 12, 37)] :: (p_l_count_p ++ fC)
theorem w_l_count_p_good : w_l_count_p.all goodWord = true := nb_allc (by decide +kernel) (nb_all2 p_l_count_p_good fC_good)
theorem gg_l_count_p_t_count_p : GoodIn w_l_count_p w_t_count_p := goodIn_sub (fun w h => (List.mem_cons.mp h).elim (fun e => (List.mem_cons_of_mem _ (List.mem_append_left _ (List.mem_append_right _ (List.mem_append_left _ (List.mem_cons.mpr (Or.inl e))))))) (fun h => (List.mem_append.mp h).elim (fun h => (List.mem_cons_of_mem _ (List.mem_append_left _ (List.mem_append_right _ (List.mem_append_left _ (List.mem_cons_of_mem _ h)))))) (fun h => List.mem_cons_of_mem _ (List.mem_append_right _ h)))) w_t_count_p_good
theorem g_l_count_p_65_t_count_p : GoodIn w_l_count_p (wsV RL 65 RX11 yX11_count w_t_count_p) := goodIn_app (nb_g4 (List.mem_cons_of_mem _ (List.mem_append_left _ (List.mem_append_left _ (List.mem_of_getElem? (i := 0) rfl)))) (List.mem_cons_of_mem _ (List.mem_append_left _ (List.mem_append_left _ (List.mem_of_getElem? (i := 1) rfl)))) (List.mem_cons_of_mem _ (List.mem_append_left _ (List.mem_append_left _ (List.mem_of_getElem? (i := 2) rfl)))) (List.mem_cons_of_mem _ (List.mem_append_left _ (List.mem_append_left _ (List.mem_of_getElem? (i := 3) rfl)))) (by decide +kernel)) gg_l_count_p_t_count_p
def v0_l_count_p (cy : Nat → ClassId) (a : Nat → Nat) (n9 : Int32) : va_W := [((a 0), .inr (10, [.ref (a 1), .ref (a 2), .ref (a 3), .ref (a 4), .ref (a 5), .ref (a 6), .ref (a 7), .ref (a 8), .ref (a 9), .ref (a 10), .int 0, .int 0, .int 0, .int 0, .ref (a 11), .ref (a 12), .ref (a 13), .int 0, .int 0, .int 0]))]
def v1_l_count_p (cy : Nat → ClassId) (a : Nat → Nat) (n9 : Int32) (r : Nat → Nat) : va_W := []
set_option maxHeartbeats 40000000 in
set_option maxRecDepth 100000 in
/-- count(..) of the law on a new object: it throws -/
theorem l_count_p (l : Launch) (hl0 : l.stackTraces = false) (dC : Nat → ClassId) (dI : Nat → Nat → Nat) (cy : Nat → ClassId) (k : Nat → Nat) (a : Nat → Nat) (n9 : Int32) (h1 : 4 < n9.toInt) (sz : Nat) : Met l yL_count w_l_count_p ({ frames := 7, cells := 1, slots := 6, locals := 111 }) (va_Pc [.ref (a 0), .int n9, .ref (a 14)] (nInF (dC, dI) cy k sz (v0_l_count_p cy a n9))) (va_Qi (fun (z : Int32) (_ : Nat → Nat) => z = 1) (fun r t => nOut (dC, dI) cy (va_A (v0_l_count_p cy a n9) sz) (v1_l_count_p cy a n9 r) t) (va_A (v0_l_count_p cy a n9) sz)) 1 6 (va_A (v0_l_count_p cy a n9) sz) := by
  refine nb_ofWH (cc := cL_count) (maxL := 4) (ret := (some .int)) (by decide) rfl ?_
  intro p e s m args below meth c s₁ B hml hv
  obtain ⟨rfl, ⟨⟨hsz, hP, hK, hD0, hG⟩, hE⟩, hT⟩ := hv
  have hx := B.exec
  have hb := B.bytes
  have hr := B.returns
  have hts := atoms_spec (ws := w_l_count_p) B.pre
  have hown : s.vm.findClass RL = some m.cls := findClass_of_methodNamed B.named
  have hlocks := B.notSynchronized
  subst hsz
  have hD := hD0.self (sz := s.heap.size)
  generalize hAe : va_A (v0_l_count_p cy a n9) s.heap.size = A at hD hE hT ⊢
  have hA : ∀ q : Nat, s.heap.size ≤ q → A q := fun q h => by rw [← hAe]; exact Or.inr h
  have hS : va_S A s.heap s.heap [] := va_S.rf
  have hP : va_P (dC, dI) nCl (v0_l_count_p cy a n9) s.heap := hP
  have hl := lv_entry ([.ref (a 0), .int n9, .ref (a 14)]) (n := 4) (Nat.le_of_ble_eq_true rfl)
  rw [lg_entry_eq]
  generalize (lg_sl ([.ref (a 0), .int n9, .ref (a 14)]) ++ List.replicate (4 - (lg_sl ([.ref (a 0), .int n9, .ref (a 14)])).length) Slot.unset).toArray = ls at hl ⊢
  have hl : lv_has ls 4 [(0, .ref (a 0)), (1, .int n9), (2, .ref (a 14))] := hl
  have hTb : c.exceptionTable.toList = tableOf [(0, 9, 12, 37)] := vx_table (x := yL_count) B (hts _ List.mem_cons_self)
  have hP : va_P (dC, dI) nCl [((a 0), .inr (10, [.ref (a 1), .ref (a 2), .ref (a 3), .ref (a 4), .ref (a 5), .ref (a 6), .ref (a 7), .ref (a 8), .ref (a 9), .ref (a 10), .int 0, .int 0, .int 0, .int 0, .ref (a 11), .ref (a 12), .ref (a 13), .int 0, .int 0, .int 0]))] s.heap := hP
  have hD : va_D A [((a 0), .inr (10, [.ref (a 1), .ref (a 2), .ref (a 3), .ref (a 4), .ref (a 5), .ref (a 6), .ref (a 7), .ref (a 8), .ref (a 9), .ref (a 10), .int 0, .int 0, .int 0, .int 0, .ref (a 11), .ref (a 12), .ref (a 13), .int 0, .int 0, .int 0]))] := hD
  refine lv_aload_n hx hb dL_count_0 rfl (lv_at hl 2 rfl) ?_
  refine lv_iconst (v := 0) hx hb dL_count_1 (by decide) ?_
  refine lv_aload_n hx hb dL_count_2 rfl (lv_at hl 0 rfl) ?_
  refine lv_iload_n hx hb dL_count_3 rfl (lv_at hl 1 rfl) ?_
  have hPc : va_P (dC, dI) nCl (v0_t_count_p cy (fun j9 => [(a 0), (a 1), (a 2), (a 3), (a 4), (a 5), (a 6), (a 7), (a 8), (a 9), (a 10), (a 11), (a 12), (a 13), (a 14)].getD j9 0) n9) s.heap := hP
  have hDc : va_D A (v0_t_count_p cy (fun j9 => [(a 0), (a 1), (a 2), (a 3), (a 4), (a 5), (a 6), (a 7), (a 8), (a 9), (a 10), (a 11), (a 12), (a 13), (a 14)].getD j9 0) n9) := hD
  have hFc := va_free (wc := (v0_t_count_p cy (fun j9 => [(a 0), (a 1), (a 2), (a 3), (a 4), (a 5), (a 6), (a 7), (a 8), (a 9), (a 10), (a 11), (a 12), (a 13), (a 14)].getD j9 0) n9)) hD hS hA [0] rfl
  refine vx_calli (vx_runV (As := [.int n9]) (rest := [.int 0, .ref (a 14)]) ⟨hx, hb, hml, hown, hts⟩ (t_count_p l hl0 dC dI cy k (fun j9 => [(a 0), (a 1), (a 2), (a 3), (a 4), (a 5), (a 6), (a 7), (a 8), (a 9), (a 10), (a 11), (a 12), (a 13), (a 14)].getD j9 0) n9 h1 s.heap.size) (cwV 1 hts g_l_count_p_65_t_count_p rfl rfl rfl (by decide +kernel) ⟨Nat.le_of_ble_eq_true rfl, Nat.le_of_ble_eq_true rfl⟩) ⟨nb_blindF, va_recv hK hPc (ci := 10) (q0 := 0) rfl rfl, fun U hU hW => ⟨rfl, ⟨⟨by rw [hU], by rw [hU]; exact hPc, va_K.moved hW.alike hK, hDc.weaken (fun _ _ _ _ => trivial), hG.warm hW⟩, nE.to hE hS hW hU hFc⟩, nT.to hT hS hW hU hFc⟩⟩ rfl rfl hl.1 rfl (lv_room (Nat.le_of_ble_eq_true rfl)) dL_count_4 ⟨Nat.le_of_ble_eq_true rfl, Nat.le_of_ble_eq_true rfl⟩) hS (fun q _ h => hFc q h) hFc (fun q _ h => hFc q h) (fun E ce q9 u t H locs ht hvm hp hB hz1 hk1 hS hce hcv hcl => ?_) (fun r9 u t H1 locs ht hvm hp hB hz1 hk1 hS => hp.elim)
  subst hB
  refine vx_widen (k := 1) (n := 6) (Nat.le_of_ble_eq_true rfl) (Nat.le_of_ble_eq_true rfl) ?_
  refine vx_catch (E := "java/lang/IndexOutOfBoundsException") (name := "java/lang/IndexOutOfBoundsException") hown [] (⟨0, 9, 12, 37⟩ : ExceptionTableEntry) [] (by rw [hTb]; rfl) (fun z h => absurd h List.not_mem_nil) (by decide) (by decide) (hts _ (List.mem_cons_of_mem _ (List.mem_append_left _ (List.mem_append_left _ (List.mem_of_getElem? (i := 4) rfl))))) (va_Nw.use (by decide +kernel) (hT.2.2.1 _ (List.mem_of_getElem? (i := 2) rfl))) hce hcv hcl ?_
  have hP : va_P (dC, dI) nCl [] H := nb_nil
  have hD : va_D A [] := nb_nilD
  refine lv_astore_n (lv' := [(3, .ref q9), (0, .ref (a 0)), (1, .int n9), (2, .ref (a 14))]) hx hb dL_count_12 rfl hl (by decide) rfl (fun ls hl => ?_)
  refine lv_iconst (v := 1) hx hb dL_count_13 (by decide) ?_
  have hP : va_P (dC, dI) nCl (v1_l_count_p cy a n9 (fun _ => 0)) H := hP
  have hD : va_D A (v1_l_count_p cy a n9 (fun _ => 0)) := hD
  exact W.iret (v := 1) hx hb hr (fun t ht hW => ⟨⟨1, (fun _ => 0), rfl, rfl, by rw [ht]; exact hP, va_K.moved hW.alike hK, hD⟩, hS.F ht⟩) hS.2.2 dL_count_14

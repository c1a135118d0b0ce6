def nFill (v : Int32) (i : Nat) (f : Nat → Int32) : Nat → Int32 := fun j => if j < i then v else f j
theorem nFill_0 (v : Int32) (f : Nat → Int32) : nFill v 0 f = f := by funext j; simp [nFill]
theorem nFill_s (v : Int32) (i : Nat) (f : Nat → Int32) : upd (nFill v i f) i v = nFill v (i + 1) f := by
  funext j
  by_cases hj : j = i
  · subst hj
    rw [pk_us]
    simp [nFill]
  · rw [pk_un hj]
    by_cases h2 : j < i
    · simp [nFill, h2, Nat.lt_succ_of_lt h2]
    · have h3 : ¬ j < i + 1 := by omega
      simp [nFill, h2, h3]
set_option maxHeartbeats 4000000 in
theorem lo_fill {p : Program} {l : Launch} {e : Env} {R : Room} {s : State} {m : MethodId} {args : Array Value} {below : List Frame} {meth : Method} {c : Code} {cells slots : Nat} {Q : State → Prop} {D : va_G} {cy : Nat → ClassId} {A : Nat → Prop} {hM N : Nat} {v : Int32} {f : Nat → Int32} (hN : N < 2 ^ 31) (hx : p.tables.exec = Jvm.exec) (hb : c.code = cJ7_fill_53178) (hK : va_K D nCl (nTy cy) s) (kk : ∀ (H : Heap) (locs : List Loc) (ls : Array Slot), va_P D nCl [(hM, .inl (cy 1, N, .inl (nFill v N f)))] H → va_D A [(hM, .inl (cy 1, N, .inl (nFill v N f)))] → va_S A s.heap H locs → W p l e R s m args below meth c H locs cells slots Q (F0 m 20 ls [])) : ∀ (n i : Nat), i ≤ N → N - i < n → ∀ (H : Heap) (locs : List Loc) (ls : Array Slot), va_P D nCl [(hM, .inl (cy 1, N, .inl (nFill v i f)))] H → va_D A [(hM, .inl (cy 1, N, .inl (nFill v i f)))] → va_S A s.heap H locs → lv_has ls 4 [(2, .int (nI i)), (3, .int (nI N)), (0, .ref hM), (1, .int v)] → W p l e R s m args below meth c H locs cells slots Q (F0 m 5 ls []) := by
  intro n
  induction n with
  | zero => intro i h1 h2; omega
  | succ n ih =>
    intro i h1 h2 H locs ls hP hD hS hl
    refine lv_iload_n hx hb dJ7_fill_53178_5 rfl (lv_at hl 0 rfl) ?_
    refine lv_iload_n hx hb dJ7_fill_53178_6 rfl (lv_at hl 1 rfl) ?_
    refine lv_icmp_ge (tgt := 20) hx hb dJ7_fill_53178_7 (by decide) (fun c1 => ?_) (fun c1 => ?_)
    · have hi : i = N := by
        rcases Nat.lt_or_ge i N with q | q
        · exact absurd c1 (nI_ge q hN)
        · omega
      subst hi
      exact kk H locs ls hP hD hS
    · have hi : i < N := by
        rcases Nat.lt_or_ge i N with q | q
        · exact q
        · exact absurd (nI_le q (by omega)) c1
      refine lv_aload_n hx hb dJ7_fill_53178_10 rfl (lv_at hl 2 rfl) ?_
      refine lv_iload_n hx hb dJ7_fill_53178_11 rfl (lv_at hl 0 rfl) ?_
      refine lv_iload_n hx hb dJ7_fill_53178_12 rfl (lv_at hl 3 rfl) ?_
      refine va_iast hx hb hK hP hD hS 0 1 rfl rfl (vp_in_nI hi hN) dJ7_fill_53178_13 (fun H locs hP hD hS => ?_)
      rw [nI_clamp (by omega), nFill_s] at hP hD
      refine lv_iinc (v := nI (i + 1)) (lv' := [(2, .int (nI (i + 1))), (3, .int (nI N)), (0, .ref hM), (1, .int v)]) hx hb dJ7_fill_53178_14 hl (k := 0) rfl (by rw [← nI_1]; rfl) (by decide) rfl (fun ls hl => ?_)
      refine lv_goto (tgt := 5) hx hb dJ7_fill_53178_17 (by decide) ?_
      exact ih (i + 1) hi (by omega) _ _ ls hP hD hS hl
def v0_c_J_fill27 (cy : Nat → ClassId) (hM : Nat) : va_W := [(hM, .inl (cy 1, 27, .inl nZ))]
def v1_c_J_fill27 (cy : Nat → ClassId) (hM : Nat) (v9 : Int32) (r : Nat → Nat) : va_W := [(hM, .inl (cy 1, 27, .inl (nFill v9 27 nZ)))]
set_option maxHeartbeats 40000000 in
set_option maxRecDepth 100000 in
/-- Arrays.fill -/
theorem c_J_fill27 (l : Launch) (dC : Nat → ClassId) (dI : Nat → Nat → Nat) (cy : Nat → ClassId) (hM : Nat) (v9 : Int32) (sz : Nat) : Met l yJ7_fill_53178 wsJ7_fill_53178 ({ frames := 0, cells := 0, slots := 0, locals := 0 }) (va_Pc [.ref hM, .int v9] (nIn (dC, dI) cy sz (v0_c_J_fill27 cy hM))) (va_Qv (fun _ : Nat → Nat => True) (fun r t => nOut (dC, dI) cy (va_A (v0_c_J_fill27 cy hM) sz) (v1_c_J_fill27 cy hM v9 r) t) (va_A (v0_c_J_fill27 cy hM) sz)) 0 0 (va_A (v0_c_J_fill27 cy hM) sz) := by
  refine Met.ofW (cc := cJ7_fill_53178) (maxL := 4) (ret := none) (by decide) rfl ?_
  intro p e s m args below meth c s₁ B hml hv
  obtain ⟨rfl, hsz, hP, hK, hD0, hG⟩ := hv
  have hx := B.exec
  have hb := B.bytes
  have hr := B.returns
  have hts := atoms_spec (ws := wsJ7_fill_53178) B.pre
  have hown : s.vm.findClass RJ7 = some m.cls := findClass_of_methodNamed B.named
  have hlocks := B.notSynchronized
  subst hsz
  have hD := hD0.self (sz := s.heap.size)
  generalize hAe : va_A (v0_c_J_fill27 cy hM) s.heap.size = A at hD ⊢
  have hA : ∀ q : Nat, s.heap.size ≤ q → A q := fun q h => by rw [← hAe]; exact Or.inr h
  have hS : va_S A s.heap s.heap [] := va_S.rf
  have hP : va_P (dC, dI) nCl (v0_c_J_fill27 cy hM) s.heap := hP
  have hl := lv_entry ([.ref hM, .int v9]) (n := 4) (Nat.le_of_ble_eq_true rfl)
  rw [lg_entry_eq]
  generalize (lg_sl ([.ref hM, .int v9]) ++ List.replicate (4 - (lg_sl ([.ref hM, .int v9])).length) Slot.unset).toArray = ls at hl ⊢
  have hl : lv_has ls 4 [(0, .ref hM), (1, .int v9)] := hl
  have hP : va_P (dC, dI) nCl [(hM, .inl (cy 1, 27, .inl nZ))] s.heap := hP
  have hD : va_D A [(hM, .inl (cy 1, 27, .inl nZ))] := hD
  refine lv_iconst (v := 0) hx hb dJ7_fill_53178_0 (by decide) ?_
  refine lv_istore_n (lv' := [(2, .int 0), (0, .ref hM), (1, .int v9)]) hx hb dJ7_fill_53178_1 rfl hl (by decide) rfl (fun ls hl => ?_)
  refine lv_aload_n hx hb dJ7_fill_53178_2 rfl (lv_at hl 1 rfl) ?_
  refine va_alen hx hb hK hP 0 1 rfl rfl (v := 27) rfl dJ7_fill_53178_3 ?_
  refine lv_istore_n (lv' := [(3, .int 27), (2, .int 0), (0, .ref hM), (1, .int v9)]) hx hb dJ7_fill_53178_4 rfl hl (by decide) rfl (fun ls hl => ?_)
  rw [← nFill_0 v9 nZ] at hP hD
  refine lo_fill (N := 27) (f := nZ) (by decide) hx hb hK (fun H locs ls hP hD hS => ?_) 28 0 (by omega) (by omega) _ _ ls hP hD hS (lv_sub hl [1, 0, 2, 3] rfl)
  have hP : va_P (dC, dI) nCl (v1_c_J_fill27 cy hM v9 (fun _ => 0)) H := hP
  have hD : va_D A (v1_c_J_fill27 cy hM v9 (fun _ => 0)) := hD
  exact W.vret hx hb hr (fun t ht hW => ⟨⟨(fun _ => 0), rfl, trivial, by rw [ht]; exact hP, va_K.moved hW.alike hK, hD⟩, hS.F ht⟩) hS.2.2 dJ7_fill_53178_20
theorem in_X7_openUnit_X7 : ∀ w ∈ wsX70, w ∈ wsX7_openUnit := fun _ h9 => (List.mem_cons_of_mem _ (List.mem_append_right _ h9))
theorem in_X7_emptyBehind_X7 : ∀ w ∈ wsX70, w ∈ wsX7_emptyBehind := fun _ h9 => (List.mem_cons_of_mem _ (List.mem_append_right _ h9))
def v0_c_X7_openUnit0 (cy : Nat → ClassId) (h0 : Nat) (a0 : Nat) (a1 : Nat) (a2 : Nat) (a3 : Nat) (a4 : Nat) (a5 : Nat) (a6 : Nat) (a7 : Nat) (a8 : Nat) (a9 : Nat) (a10 : Nat) (a11 : Nat) (a12 : Nat) : va_W := [(h0, .inr (6, [.ref a0, .int 0, .int 0, .int 0, .int 0, .ref a1, .ref a2, .ref a3, .ref a4, .ref a5, .ref a6, .int 0, .int 0, .ref a7, .ref a8, .ref a9, .ref a10, .ref a11, .ref a12, .int 0])), (a7, .inl (cy 1, 42, .inl nZ)), (a8, .inl (cy 1, 42, .inl nZ)), (a9, .inl (cy 1, 42, .inl nZ)), (a10, .inl (cy 1, 42, .inl nZ)), (a11, .inl (cy 1, 42, .inl nZ)), (a12, .inl (cy 1, 42, .inl nZ))]
def v1_c_X7_openUnit0 (cy : Nat → ClassId) (h0 : Nat) (a0 : Nat) (a1 : Nat) (a2 : Nat) (a3 : Nat) (a4 : Nat) (a5 : Nat) (a6 : Nat) (a7 : Nat) (a8 : Nat) (a9 : Nat) (a10 : Nat) (a11 : Nat) (a12 : Nat) (r : Nat → Nat) : va_W := [(h0, .inr (6, [.ref a0, .int 0, .int 0, .int 0, .int 0, .ref a1, .ref a2, .ref a3, .ref a4, .ref a5, .ref a6, .int 0, .int 0, .ref a7, .ref a8, .ref a9, .ref a10, .ref a11, .ref a12, .int 0])), (a7, .inl (cy 1, 42, .inl nZ)), (a8, .inl (cy 1, 42, .inl nZ)), (a9, .inl (cy 1, 42, .inl nZ)), (a10, .inl (cy 1, 42, .inl nZ)), (a11, .inl (cy 1, 42, .inl nZ)), (a12, .inl (cy 1, 42, .inl nZ))]
set_option maxHeartbeats 40000000 in
set_option maxRecDepth 100000 in
/-- openUnit(0) of a new Program -/
theorem c_X7_openUnit0 (l : Launch) (dC : Nat → ClassId) (dI : Nat → Nat → Nat) (cy : Nat → ClassId) (h0 : Nat) (a0 : Nat) (a1 : Nat) (a2 : Nat) (a3 : Nat) (a4 : Nat) (a5 : Nat) (a6 : Nat) (a7 : Nat) (a8 : Nat) (a9 : Nat) (a10 : Nat) (a11 : Nat) (a12 : Nat) (sz : Nat) : Met l yX7_openUnit wsX7_openUnit ({ frames := 0, cells := 0, slots := 0, locals := 0 }) (va_Pc [.ref h0, .int 0] (nIn (dC, dI) cy sz (v0_c_X7_openUnit0 cy h0 a0 a1 a2 a3 a4 a5 a6 a7 a8 a9 a10 a11 a12))) (va_Qv (fun _ : Nat → Nat => True) (fun r t => nOut (dC, dI) cy (va_A (v0_c_X7_openUnit0 cy h0 a0 a1 a2 a3 a4 a5 a6 a7 a8 a9 a10 a11 a12) sz) (v1_c_X7_openUnit0 cy h0 a0 a1 a2 a3 a4 a5 a6 a7 a8 a9 a10 a11 a12 r) t) (va_A (v0_c_X7_openUnit0 cy h0 a0 a1 a2 a3 a4 a5 a6 a7 a8 a9 a10 a11 a12) sz)) 0 0 (va_A (v0_c_X7_openUnit0 cy h0 a0 a1 a2 a3 a4 a5 a6 a7 a8 a9 a10 a11 a12) sz) := by
  refine Met.ofW (cc := cX7_openUnit) (maxL := 2) (ret := none) (by decide) rfl ?_
  intro p e s m args below meth c s₁ B hml hv
  obtain ⟨rfl, hsz, hP, hK, hD0, hG⟩ := hv
  have hx := B.exec
  have hb := B.bytes
  have hr := B.returns
  have hts := atoms_spec (ws := wsX7_openUnit) B.pre
  have hown : s.vm.findClass RX7 = some m.cls := findClass_of_methodNamed B.named
  have hlocks := B.notSynchronized
  subst hsz
  have hD := hD0.self (sz := s.heap.size)
  generalize hAe : va_A (v0_c_X7_openUnit0 cy h0 a0 a1 a2 a3 a4 a5 a6 a7 a8 a9 a10 a11 a12) s.heap.size = A at hD ⊢
  have hA : ∀ q : Nat, s.heap.size ≤ q → A q := fun q h => by rw [← hAe]; exact Or.inr h
  have hS : va_S A s.heap s.heap [] := va_S.rf
  have hP : va_P (dC, dI) nCl (v0_c_X7_openUnit0 cy h0 a0 a1 a2 a3 a4 a5 a6 a7 a8 a9 a10 a11 a12) s.heap := hP
  have hl := lv_entry ([.ref h0, .int 0]) (n := 2) (Nat.le_of_ble_eq_true rfl)
  rw [lg_entry_eq]
  generalize (lg_sl ([.ref h0, .int 0]) ++ List.replicate (2 - (lg_sl ([.ref h0, .int 0])).length) Slot.unset).toArray = ls at hl ⊢
  have hl : lv_has ls 2 [(0, .ref h0), (1, .int 0)] := hl
  have hP : va_P (dC, dI) nCl [(h0, .inr (6, [.ref a0, .int 0, .int 0, .int 0, .int 0, .ref a1, .ref a2, .ref a3, .ref a4, .ref a5, .ref a6, .int 0, .int 0, .ref a7, .ref a8, .ref a9, .ref a10, .ref a11, .ref a12, .int 0])), (a7, .inl (cy 1, 42, .inl nZ)), (a8, .inl (cy 1, 42, .inl nZ)), (a9, .inl (cy 1, 42, .inl nZ)), (a10, .inl (cy 1, 42, .inl nZ)), (a11, .inl (cy 1, 42, .inl nZ)), (a12, .inl (cy 1, 42, .inl nZ))] s.heap := hP
  have hD : va_D A [(h0, .inr (6, [.ref a0, .int 0, .int 0, .int 0, .int 0, .ref a1, .ref a2, .ref a3, .ref a4, .ref a5, .ref a6, .int 0, .int 0, .ref a7, .ref a8, .ref a9, .ref a10, .ref a11, .ref a12, .int 0])), (a7, .inl (cy 1, 42, .inl nZ)), (a8, .inl (cy 1, 42, .inl nZ)), (a9, .inl (cy 1, 42, .inl nZ)), (a10, .inl (cy 1, 42, .inl nZ)), (a11, .inl (cy 1, 42, .inl nZ)), (a12, .inl (cy 1, 42, .inl nZ))] := hD
  refine lv_aload_n hx hb dX7_openUnit_0 rfl (lv_at hl 0 rfl) ?_
  refine va_get (D := (dC, dI)) (ci := 6) (v := .ref a7) (C := RX7) (T := TX7) (N := 20) hx hb hts in_X7_openUnit_X7 hown hK hP 0 rfl rfl 13 (by decide) (hts _ (List.mem_cons_of_mem _ (List.mem_append_left _ (List.mem_of_getElem? (i := 0) rfl)))) (fun _ h9 => h9) rfl dX7_openUnit_1 ?_
  refine lv_iload_n hx hb dX7_openUnit_4 rfl (lv_at hl 1 rfl) ?_
  refine lv_aload_n hx hb dX7_openUnit_5 rfl (lv_at hl 0 rfl) ?_
  refine va_get (D := (dC, dI)) (ci := 6) (v := .int 0) (C := RX7) (T := TX7) (N := 20) hx hb hts in_X7_openUnit_X7 hown hK hP 0 rfl rfl 1 (by decide) (hts _ (List.mem_cons_of_mem _ (List.mem_append_left _ (List.mem_of_getElem? (i := 1) rfl)))) (fun _ h9 => h9) rfl dX7_openUnit_6 ?_
  refine nb_iz hx hb hK hP hD hS 1 1 rfl rfl (nb_in (by decide)) dX7_openUnit_9 (fun H locs hP hS => ?_)
  refine lv_aload_n hx hb dX7_openUnit_10 rfl (lv_at hl 0 rfl) ?_
  refine va_get (D := (dC, dI)) (ci := 6) (v := .ref a8) (C := RX7) (T := TX7) (N := 20) hx hb hts in_X7_openUnit_X7 hown hK hP 0 rfl rfl 14 (by decide) (hts _ (List.mem_cons_of_mem _ (List.mem_append_left _ (List.mem_of_getElem? (i := 2) rfl)))) (fun _ h9 => h9) rfl dX7_openUnit_11 ?_
  refine lv_iload_n hx hb dX7_openUnit_14 rfl (lv_at hl 1 rfl) ?_
  refine lv_iconst (v := 0) hx hb dX7_openUnit_15 (by decide) ?_
  refine nb_iz hx hb hK hP hD hS 2 1 rfl rfl (nb_in (by decide)) dX7_openUnit_16 (fun H locs hP hS => ?_)
  refine lv_aload_n hx hb dX7_openUnit_17 rfl (lv_at hl 0 rfl) ?_
  refine va_get (D := (dC, dI)) (ci := 6) (v := .ref a9) (C := RX7) (T := TX7) (N := 20) hx hb hts in_X7_openUnit_X7 hown hK hP 0 rfl rfl 15 (by decide) (hts _ (List.mem_cons_of_mem _ (List.mem_append_left _ (List.mem_of_getElem? (i := 3) rfl)))) (fun _ h9 => h9) rfl dX7_openUnit_18 ?_
  refine lv_iload_n hx hb dX7_openUnit_21 rfl (lv_at hl 1 rfl) ?_
  refine lv_iconst (v := 0) hx hb dX7_openUnit_22 (by decide) ?_
  refine nb_iz hx hb hK hP hD hS 3 1 rfl rfl (nb_in (by decide)) dX7_openUnit_23 (fun H locs hP hS => ?_)
  refine lv_aload_n hx hb dX7_openUnit_24 rfl (lv_at hl 0 rfl) ?_
  refine va_get (D := (dC, dI)) (ci := 6) (v := .ref a10) (C := RX7) (T := TX7) (N := 20) hx hb hts in_X7_openUnit_X7 hown hK hP 0 rfl rfl 16 (by decide) (hts _ (List.mem_cons_of_mem _ (List.mem_append_left _ (List.mem_of_getElem? (i := 4) rfl)))) (fun _ h9 => h9) rfl dX7_openUnit_25 ?_
  refine lv_iload_n hx hb dX7_openUnit_28 rfl (lv_at hl 1 rfl) ?_
  refine lv_iconst (v := 0) hx hb dX7_openUnit_29 (by decide) ?_
  refine nb_iz hx hb hK hP hD hS 4 1 rfl rfl (nb_in (by decide)) dX7_openUnit_30 (fun H locs hP hS => ?_)
  refine lv_aload_n hx hb dX7_openUnit_31 rfl (lv_at hl 0 rfl) ?_
  refine va_get (D := (dC, dI)) (ci := 6) (v := .ref a11) (C := RX7) (T := TX7) (N := 20) hx hb hts in_X7_openUnit_X7 hown hK hP 0 rfl rfl 17 (by decide) (hts _ (List.mem_cons_of_mem _ (List.mem_append_left _ (List.mem_of_getElem? (i := 5) rfl)))) (fun _ h9 => h9) rfl dX7_openUnit_32 ?_
  refine lv_iload_n hx hb dX7_openUnit_35 rfl (lv_at hl 1 rfl) ?_
  refine lv_iconst (v := 0) hx hb dX7_openUnit_36 (by decide) ?_
  refine nb_iz hx hb hK hP hD hS 5 1 rfl rfl (nb_in (by decide)) dX7_openUnit_37 (fun H locs hP hS => ?_)
  refine lv_aload_n hx hb dX7_openUnit_38 rfl (lv_at hl 0 rfl) ?_
  refine va_get (D := (dC, dI)) (ci := 6) (v := .ref a12) (C := RX7) (T := TX7) (N := 20) hx hb hts in_X7_openUnit_X7 hown hK hP 0 rfl rfl 18 (by decide) (hts _ (List.mem_cons_of_mem _ (List.mem_append_left _ (List.mem_of_getElem? (i := 6) rfl)))) (fun _ h9 => h9) rfl dX7_openUnit_39 ?_
  refine lv_iload_n hx hb dX7_openUnit_42 rfl (lv_at hl 1 rfl) ?_
  refine lv_iconst (v := 0) hx hb dX7_openUnit_43 (by decide) ?_
  refine nb_iz hx hb hK hP hD hS 6 1 rfl rfl (nb_in (by decide)) dX7_openUnit_44 (fun H locs hP hS => ?_)
  refine lv_aload_n hx hb dX7_openUnit_45 rfl (lv_at hl 0 rfl) ?_
  refine lv_iconst (v := 0) hx hb dX7_openUnit_46 (by decide) ?_
  refine va_put (D := (dC, dI)) (ci := 6) (v := .int 0) (ty := .int) (C := RX7) (T := TX7) (N := 20) hx hb hts in_X7_openUnit_X7 tyX7 tyX7_ok nmX7 hown hK hP hD hS 0 rfl rfl 19 (by decide) (hts _ (List.mem_cons_of_mem _ (List.mem_append_left _ (List.mem_of_getElem? (i := 7) rfl)))) (fun _ h9 => h9) rfl (by decide +kernel) rfl rfl (Nat.le_of_ble_eq_true rfl) dX7_openUnit_47 (fun H locs hP hD hS => ?_)
  have hP : va_P (dC, dI) nCl [(h0, .inr (6, [.ref a0, .int 0, .int 0, .int 0, .int 0, .ref a1, .ref a2, .ref a3, .ref a4, .ref a5, .ref a6, .int 0, .int 0, .ref a7, .ref a8, .ref a9, .ref a10, .ref a11, .ref a12, .int 0])), (a7, .inl (cy 1, 42, .inl nZ)), (a8, .inl (cy 1, 42, .inl nZ)), (a9, .inl (cy 1, 42, .inl nZ)), (a10, .inl (cy 1, 42, .inl nZ)), (a11, .inl (cy 1, 42, .inl nZ)), (a12, .inl (cy 1, 42, .inl nZ))] H := hP
  have hD : va_D A [(h0, .inr (6, [.ref a0, .int 0, .int 0, .int 0, .int 0, .ref a1, .ref a2, .ref a3, .ref a4, .ref a5, .ref a6, .int 0, .int 0, .ref a7, .ref a8, .ref a9, .ref a10, .ref a11, .ref a12, .int 0])), (a7, .inl (cy 1, 42, .inl nZ)), (a8, .inl (cy 1, 42, .inl nZ)), (a9, .inl (cy 1, 42, .inl nZ)), (a10, .inl (cy 1, 42, .inl nZ)), (a11, .inl (cy 1, 42, .inl nZ)), (a12, .inl (cy 1, 42, .inl nZ))] := hD
  have hP : va_P (dC, dI) nCl (v1_c_X7_openUnit0 cy h0 a0 a1 a2 a3 a4 a5 a6 a7 a8 a9 a10 a11 a12 (fun _ => 0)) H := hP
  have hD : va_D A (v1_c_X7_openUnit0 cy h0 a0 a1 a2 a3 a4 a5 a6 a7 a8 a9 a10 a11 a12 (fun _ => 0)) := hD
  exact W.vret hx hb hr (fun t ht hW => ⟨⟨(fun _ => 0), rfl, trivial, by rw [ht]; exact hP, va_K.moved hW.alike hK, hD⟩, hS.F ht⟩) hS.2.2 dX7_openUnit_50
def v0_c_X7_emptyBehind0 (cy : Nat → ClassId) (h0 : Nat) (a0 : Nat) (a1 : Nat) (a2 : Nat) (a3 : Nat) (a4 : Nat) (a5 : Nat) (a6 : Nat) (a7 : Nat) (a8 : Nat) (a9 : Nat) (a10 : Nat) (a11 : Nat) (a12 : Nat) : va_W := [(h0, .inr (6, [.ref a0, .int 0, .int 0, .int 0, .int 0, .ref a1, .ref a2, .ref a3, .ref a4, .ref a5, .ref a6, .int 0, .int 0, .ref a7, .ref a8, .ref a9, .ref a10, .ref a11, .ref a12, .int 0])), (a7, .inl (cy 1, 42, .inl nZ)), (a8, .inl (cy 1, 42, .inl nZ)), (a9, .inl (cy 1, 42, .inl nZ)), (a10, .inl (cy 1, 42, .inl nZ)), (a11, .inl (cy 1, 42, .inl nZ)), (a12, .inl (cy 1, 42, .inl nZ))]
def v1_c_X7_emptyBehind0 (cy : Nat → ClassId) (h0 : Nat) (a0 : Nat) (a1 : Nat) (a2 : Nat) (a3 : Nat) (a4 : Nat) (a5 : Nat) (a6 : Nat) (a7 : Nat) (a8 : Nat) (a9 : Nat) (a10 : Nat) (a11 : Nat) (a12 : Nat) (r : Nat → Nat) : va_W := [(h0, .inr (6, [.ref a0, .int 0, .int 0, .int 0, .int 0, .ref a1, .ref a2, .ref a3, .ref a4, .ref a5, .ref a6, .int 0, .int 0, .ref a7, .ref a8, .ref a9, .ref a10, .ref a11, .ref a12, .int 0])), (a7, .inl (cy 1, 42, .inl nZ)), (a8, .inl (cy 1, 42, .inl nZ)), (a9, .inl (cy 1, 42, .inl nZ)), (a10, .inl (cy 1, 42, .inl nZ)), (a11, .inl (cy 1, 42, .inl nZ)), (a12, .inl (cy 1, 42, .inl nZ))]
set_option maxHeartbeats 40000000 in
set_option maxRecDepth 100000 in
/-- emptyBehind(itself) of a new Program -/
theorem c_X7_emptyBehind0 (l : Launch) (dC : Nat → ClassId) (dI : Nat → Nat → Nat) (cy : Nat → ClassId) (h0 : Nat) (a0 : Nat) (a1 : Nat) (a2 : Nat) (a3 : Nat) (a4 : Nat) (a5 : Nat) (a6 : Nat) (a7 : Nat) (a8 : Nat) (a9 : Nat) (a10 : Nat) (a11 : Nat) (a12 : Nat) (sz : Nat) : Met l yX7_emptyBehind wsX7_emptyBehind ({ frames := 1, cells := 0, slots := 0, locals := 21 }) (va_Pc [.ref h0, .ref h0] (nIn (dC, dI) cy sz (v0_c_X7_emptyBehind0 cy h0 a0 a1 a2 a3 a4 a5 a6 a7 a8 a9 a10 a11 a12))) (va_Qv (fun _ : Nat → Nat => True) (fun r t => nOut (dC, dI) cy (va_A (v0_c_X7_emptyBehind0 cy h0 a0 a1 a2 a3 a4 a5 a6 a7 a8 a9 a10 a11 a12) sz) (v1_c_X7_emptyBehind0 cy h0 a0 a1 a2 a3 a4 a5 a6 a7 a8 a9 a10 a11 a12 r) t) (va_A (v0_c_X7_emptyBehind0 cy h0 a0 a1 a2 a3 a4 a5 a6 a7 a8 a9 a10 a11 a12) sz)) 0 0 (va_A (v0_c_X7_emptyBehind0 cy h0 a0 a1 a2 a3 a4 a5 a6 a7 a8 a9 a10 a11 a12) sz) := by
  refine Met.ofW (cc := cX7_emptyBehind) (maxL := 2) (ret := none) (by decide) rfl ?_
  intro p e s m args below meth c s₁ B hml hv
  obtain ⟨rfl, hsz, hP, hK, hD0, hG⟩ := hv
  have hx := B.exec
  have hb := B.bytes
  have hr := B.returns
  have hts := atoms_spec (ws := wsX7_emptyBehind) B.pre
  have hown : s.vm.findClass RX7 = some m.cls := findClass_of_methodNamed B.named
  have hlocks := B.notSynchronized
  subst hsz
  have hD := hD0.self (sz := s.heap.size)
  generalize hAe : va_A (v0_c_X7_emptyBehind0 cy h0 a0 a1 a2 a3 a4 a5 a6 a7 a8 a9 a10 a11 a12) s.heap.size = A at hD ⊢
  have hA : ∀ q : Nat, s.heap.size ≤ q → A q := fun q h => by rw [← hAe]; exact Or.inr h
  have hS : va_S A s.heap s.heap [] := va_S.rf
  have hP : va_P (dC, dI) nCl (v0_c_X7_emptyBehind0 cy h0 a0 a1 a2 a3 a4 a5 a6 a7 a8 a9 a10 a11 a12) s.heap := hP
  have hl := lv_entry ([.ref h0, .ref h0]) (n := 2) (Nat.le_of_ble_eq_true rfl)
  rw [lg_entry_eq]
  generalize (lg_sl ([.ref h0, .ref h0]) ++ List.replicate (2 - (lg_sl ([.ref h0, .ref h0])).length) Slot.unset).toArray = ls at hl ⊢
  have hl : lv_has ls 2 [(0, .ref h0), (1, .ref h0)] := hl
  have hP : va_P (dC, dI) nCl [(h0, .inr (6, [.ref a0, .int 0, .int 0, .int 0, .int 0, .ref a1, .ref a2, .ref a3, .ref a4, .ref a5, .ref a6, .int 0, .int 0, .ref a7, .ref a8, .ref a9, .ref a10, .ref a11, .ref a12, .int 0])), (a7, .inl (cy 1, 42, .inl nZ)), (a8, .inl (cy 1, 42, .inl nZ)), (a9, .inl (cy 1, 42, .inl nZ)), (a10, .inl (cy 1, 42, .inl nZ)), (a11, .inl (cy 1, 42, .inl nZ)), (a12, .inl (cy 1, 42, .inl nZ))] s.heap := hP
  have hD : va_D A [(h0, .inr (6, [.ref a0, .int 0, .int 0, .int 0, .int 0, .ref a1, .ref a2, .ref a3, .ref a4, .ref a5, .ref a6, .int 0, .int 0, .ref a7, .ref a8, .ref a9, .ref a10, .ref a11, .ref a12, .int 0])), (a7, .inl (cy 1, 42, .inl nZ)), (a8, .inl (cy 1, 42, .inl nZ)), (a9, .inl (cy 1, 42, .inl nZ)), (a10, .inl (cy 1, 42, .inl nZ)), (a11, .inl (cy 1, 42, .inl nZ)), (a12, .inl (cy 1, 42, .inl nZ))] := hD
  refine lv_aload_n hx hb dX7_emptyBehind_0 rfl (lv_at hl 0 rfl) ?_
  refine lv_aload_n hx hb dX7_emptyBehind_1 rfl (lv_at hl 1 rfl) ?_
  refine va_get (D := (dC, dI)) (ci := 6) (v := .ref a0) (C := RX7) (T := TX7) (N := 20) hx hb hts in_X7_emptyBehind_X7 hown hK hP 0 rfl rfl 0 (by decide) (hts _ (List.mem_cons_of_mem _ (List.mem_append_left _ (List.mem_of_getElem? (i := 0) rfl)))) (fun _ h9 => h9) rfl dX7_emptyBehind_2 ?_
  refine va_put (D := (dC, dI)) (ci := 6) (v := .ref a0) (ty := .array .int) (C := RX7) (T := TX7) (N := 20) hx hb hts in_X7_emptyBehind_X7 tyX7 tyX7_ok nmX7 hown hK hP hD hS 0 rfl rfl 0 (by decide) (hts _ (List.mem_cons_of_mem _ (List.mem_append_left _ (List.mem_of_getElem? (i := 0) rfl)))) (fun _ h9 => h9) rfl (by decide +kernel) rfl rfl (Nat.le_of_ble_eq_true rfl) dX7_emptyBehind_5 (fun H locs hP hD hS => ?_)
  have hP : va_P (dC, dI) nCl [(h0, .inr (6, [.ref a0, .int 0, .int 0, .int 0, .int 0, .ref a1, .ref a2, .ref a3, .ref a4, .ref a5, .ref a6, .int 0, .int 0, .ref a7, .ref a8, .ref a9, .ref a10, .ref a11, .ref a12, .int 0])), (a7, .inl (cy 1, 42, .inl nZ)), (a8, .inl (cy 1, 42, .inl nZ)), (a9, .inl (cy 1, 42, .inl nZ)), (a10, .inl (cy 1, 42, .inl nZ)), (a11, .inl (cy 1, 42, .inl nZ)), (a12, .inl (cy 1, 42, .inl nZ))] H := hP
  have hD : va_D A [(h0, .inr (6, [.ref a0, .int 0, .int 0, .int 0, .int 0, .ref a1, .ref a2, .ref a3, .ref a4, .ref a5, .ref a6, .int 0, .int 0, .ref a7, .ref a8, .ref a9, .ref a10, .ref a11, .ref a12, .int 0])), (a7, .inl (cy 1, 42, .inl nZ)), (a8, .inl (cy 1, 42, .inl nZ)), (a9, .inl (cy 1, 42, .inl nZ)), (a10, .inl (cy 1, 42, .inl nZ)), (a11, .inl (cy 1, 42, .inl nZ)), (a12, .inl (cy 1, 42, .inl nZ))] := hD
  refine lv_aload_n hx hb dX7_emptyBehind_8 rfl (lv_at hl 0 rfl) ?_
  refine lv_aload_n hx hb dX7_emptyBehind_9 rfl (lv_at hl 1 rfl) ?_
  refine va_get (D := (dC, dI)) (ci := 6) (v := .int 0) (C := RX7) (T := TX7) (N := 20) hx hb hts in_X7_emptyBehind_X7 hown hK hP 0 rfl rfl 1 (by decide) (hts _ (List.mem_cons_of_mem _ (List.mem_append_left _ (List.mem_of_getElem? (i := 1) rfl)))) (fun _ h9 => h9) rfl dX7_emptyBehind_10 ?_
  refine va_put (D := (dC, dI)) (ci := 6) (v := .int 0) (ty := .int) (C := RX7) (T := TX7) (N := 20) hx hb hts in_X7_emptyBehind_X7 tyX7 tyX7_ok nmX7 hown hK hP hD hS 0 rfl rfl 1 (by decide) (hts _ (List.mem_cons_of_mem _ (List.mem_append_left _ (List.mem_of_getElem? (i := 1) rfl)))) (fun _ h9 => h9) rfl (by decide +kernel) rfl rfl (Nat.le_of_ble_eq_true rfl) dX7_emptyBehind_13 (fun H locs hP hD hS => ?_)
  have hP : va_P (dC, dI) nCl [(h0, .inr (6, [.ref a0, .int 0, .int 0, .int 0, .int 0, .ref a1, .ref a2, .ref a3, .ref a4, .ref a5, .ref a6, .int 0, .int 0, .ref a7, .ref a8, .ref a9, .ref a10, .ref a11, .ref a12, .int 0])), (a7, .inl (cy 1, 42, .inl nZ)), (a8, .inl (cy 1, 42, .inl nZ)), (a9, .inl (cy 1, 42, .inl nZ)), (a10, .inl (cy 1, 42, .inl nZ)), (a11, .inl (cy 1, 42, .inl nZ)), (a12, .inl (cy 1, 42, .inl nZ))] H := hP
  have hD : va_D A [(h0, .inr (6, [.ref a0, .int 0, .int 0, .int 0, .int 0, .ref a1, .ref a2, .ref a3, .ref a4, .ref a5, .ref a6, .int 0, .int 0, .ref a7, .ref a8, .ref a9, .ref a10, .ref a11, .ref a12, .int 0])), (a7, .inl (cy 1, 42, .inl nZ)), (a8, .inl (cy 1, 42, .inl nZ)), (a9, .inl (cy 1, 42, .inl nZ)), (a10, .inl (cy 1, 42, .inl nZ)), (a11, .inl (cy 1, 42, .inl nZ)), (a12, .inl (cy 1, 42, .inl nZ))] := hD
  refine lv_aload_n hx hb dX7_emptyBehind_16 rfl (lv_at hl 0 rfl) ?_
  refine lv_aload_n hx hb dX7_emptyBehind_17 rfl (lv_at hl 1 rfl) ?_
  refine va_get (D := (dC, dI)) (ci := 6) (v := .int 0) (C := RX7) (T := TX7) (N := 20) hx hb hts in_X7_emptyBehind_X7 hown hK hP 0 rfl rfl 1 (by decide) (hts _ (List.mem_cons_of_mem _ (List.mem_append_left _ (List.mem_of_getElem? (i := 1) rfl)))) (fun _ h9 => h9) rfl dX7_emptyBehind_18 ?_
  refine va_put (D := (dC, dI)) (ci := 6) (v := .int 0) (ty := .int) (C := RX7) (T := TX7) (N := 20) hx hb hts in_X7_emptyBehind_X7 tyX7 tyX7_ok nmX7 hown hK hP hD hS 0 rfl rfl 2 (by decide) (hts _ (List.mem_cons_of_mem _ (List.mem_append_left _ (List.mem_of_getElem? (i := 2) rfl)))) (fun _ h9 => h9) rfl (by decide +kernel) rfl rfl (Nat.le_of_ble_eq_true rfl) dX7_emptyBehind_21 (fun H locs hP hD hS => ?_)
  have hP : va_P (dC, dI) nCl [(h0, .inr (6, [.ref a0, .int 0, .int 0, .int 0, .int 0, .ref a1, .ref a2, .ref a3, .ref a4, .ref a5, .ref a6, .int 0, .int 0, .ref a7, .ref a8, .ref a9, .ref a10, .ref a11, .ref a12, .int 0])), (a7, .inl (cy 1, 42, .inl nZ)), (a8, .inl (cy 1, 42, .inl nZ)), (a9, .inl (cy 1, 42, .inl nZ)), (a10, .inl (cy 1, 42, .inl nZ)), (a11, .inl (cy 1, 42, .inl nZ)), (a12, .inl (cy 1, 42, .inl nZ))] H := hP
  have hD : va_D A [(h0, .inr (6, [.ref a0, .int 0, .int 0, .int 0, .int 0, .ref a1, .ref a2, .ref a3, .ref a4, .ref a5, .ref a6, .int 0, .int 0, .ref a7, .ref a8, .ref a9, .ref a10, .ref a11, .ref a12, .int 0])), (a7, .inl (cy 1, 42, .inl nZ)), (a8, .inl (cy 1, 42, .inl nZ)), (a9, .inl (cy 1, 42, .inl nZ)), (a10, .inl (cy 1, 42, .inl nZ)), (a11, .inl (cy 1, 42, .inl nZ)), (a12, .inl (cy 1, 42, .inl nZ))] := hD
  refine lv_aload_n hx hb dX7_emptyBehind_24 rfl (lv_at hl 0 rfl) ?_
  refine lv_iconst (v := 0) hx hb dX7_emptyBehind_25 (by decide) ?_
  refine va_put (D := (dC, dI)) (ci := 6) (v := .int 0) (ty := .int) (C := RX7) (T := TX7) (N := 20) hx hb hts in_X7_emptyBehind_X7 tyX7 tyX7_ok nmX7 hown hK hP hD hS 0 rfl rfl 3 (by decide) (hts _ (List.mem_cons_of_mem _ (List.mem_append_left _ (List.mem_of_getElem? (i := 3) rfl)))) (fun _ h9 => h9) rfl (by decide +kernel) rfl rfl (Nat.le_of_ble_eq_true rfl) dX7_emptyBehind_26 (fun H locs hP hD hS => ?_)
  have hP : va_P (dC, dI) nCl [(h0, .inr (6, [.ref a0, .int 0, .int 0, .int 0, .int 0, .ref a1, .ref a2, .ref a3, .ref a4, .ref a5, .ref a6, .int 0, .int 0, .ref a7, .ref a8, .ref a9, .ref a10, .ref a11, .ref a12, .int 0])), (a7, .inl (cy 1, 42, .inl nZ)), (a8, .inl (cy 1, 42, .inl nZ)), (a9, .inl (cy 1, 42, .inl nZ)), (a10, .inl (cy 1, 42, .inl nZ)), (a11, .inl (cy 1, 42, .inl nZ)), (a12, .inl (cy 1, 42, .inl nZ))] H := hP
  have hD : va_D A [(h0, .inr (6, [.ref a0, .int 0, .int 0, .int 0, .int 0, .ref a1, .ref a2, .ref a3, .ref a4, .ref a5, .ref a6, .int 0, .int 0, .ref a7, .ref a8, .ref a9, .ref a10, .ref a11, .ref a12, .int 0])), (a7, .inl (cy 1, 42, .inl nZ)), (a8, .inl (cy 1, 42, .inl nZ)), (a9, .inl (cy 1, 42, .inl nZ)), (a10, .inl (cy 1, 42, .inl nZ)), (a11, .inl (cy 1, 42, .inl nZ)), (a12, .inl (cy 1, 42, .inl nZ))] := hD
  refine lv_aload_n hx hb dX7_emptyBehind_29 rfl (lv_at hl 0 rfl) ?_
  refine lv_iconst (v := 0) hx hb dX7_emptyBehind_30 (by decide) ?_
  refine va_put (D := (dC, dI)) (ci := 6) (v := .int 0) (ty := .int) (C := RX7) (T := TX7) (N := 20) hx hb hts in_X7_emptyBehind_X7 tyX7 tyX7_ok nmX7 hown hK hP hD hS 0 rfl rfl 4 (by decide) (hts _ (List.mem_cons_of_mem _ (List.mem_append_left _ (List.mem_of_getElem? (i := 4) rfl)))) (fun _ h9 => h9) rfl (by decide +kernel) rfl rfl (Nat.le_of_ble_eq_true rfl) dX7_emptyBehind_31 (fun H locs hP hD hS => ?_)
  have hP : va_P (dC, dI) nCl [(h0, .inr (6, [.ref a0, .int 0, .int 0, .int 0, .int 0, .ref a1, .ref a2, .ref a3, .ref a4, .ref a5, .ref a6, .int 0, .int 0, .ref a7, .ref a8, .ref a9, .ref a10, .ref a11, .ref a12, .int 0])), (a7, .inl (cy 1, 42, .inl nZ)), (a8, .inl (cy 1, 42, .inl nZ)), (a9, .inl (cy 1, 42, .inl nZ)), (a10, .inl (cy 1, 42, .inl nZ)), (a11, .inl (cy 1, 42, .inl nZ)), (a12, .inl (cy 1, 42, .inl nZ))] H := hP
  have hD : va_D A [(h0, .inr (6, [.ref a0, .int 0, .int 0, .int 0, .int 0, .ref a1, .ref a2, .ref a3, .ref a4, .ref a5, .ref a6, .int 0, .int 0, .ref a7, .ref a8, .ref a9, .ref a10, .ref a11, .ref a12, .int 0])), (a7, .inl (cy 1, 42, .inl nZ)), (a8, .inl (cy 1, 42, .inl nZ)), (a9, .inl (cy 1, 42, .inl nZ)), (a10, .inl (cy 1, 42, .inl nZ)), (a11, .inl (cy 1, 42, .inl nZ)), (a12, .inl (cy 1, 42, .inl nZ))] := hD
  refine lv_aload_n hx hb dX7_emptyBehind_34 rfl (lv_at hl 0 rfl) ?_
  refine lv_iconst (v := 0) hx hb dX7_emptyBehind_35 (by decide) ?_
  refine va_put (D := (dC, dI)) (ci := 6) (v := .int 0) (ty := .int) (C := RX7) (T := TX7) (N := 20) hx hb hts in_X7_emptyBehind_X7 tyX7 tyX7_ok nmX7 hown hK hP hD hS 0 rfl rfl 11 (by decide) (hts _ (List.mem_cons_of_mem _ (List.mem_append_left _ (List.mem_of_getElem? (i := 5) rfl)))) (fun _ h9 => h9) rfl (by decide +kernel) rfl rfl (Nat.le_of_ble_eq_true rfl) dX7_emptyBehind_36 (fun H locs hP hD hS => ?_)
  have hP : va_P (dC, dI) nCl [(h0, .inr (6, [.ref a0, .int 0, .int 0, .int 0, .int 0, .ref a1, .ref a2, .ref a3, .ref a4, .ref a5, .ref a6, .int 0, .int 0, .ref a7, .ref a8, .ref a9, .ref a10, .ref a11, .ref a12, .int 0])), (a7, .inl (cy 1, 42, .inl nZ)), (a8, .inl (cy 1, 42, .inl nZ)), (a9, .inl (cy 1, 42, .inl nZ)), (a10, .inl (cy 1, 42, .inl nZ)), (a11, .inl (cy 1, 42, .inl nZ)), (a12, .inl (cy 1, 42, .inl nZ))] H := hP
  have hD : va_D A [(h0, .inr (6, [.ref a0, .int 0, .int 0, .int 0, .int 0, .ref a1, .ref a2, .ref a3, .ref a4, .ref a5, .ref a6, .int 0, .int 0, .ref a7, .ref a8, .ref a9, .ref a10, .ref a11, .ref a12, .int 0])), (a7, .inl (cy 1, 42, .inl nZ)), (a8, .inl (cy 1, 42, .inl nZ)), (a9, .inl (cy 1, 42, .inl nZ)), (a10, .inl (cy 1, 42, .inl nZ)), (a11, .inl (cy 1, 42, .inl nZ)), (a12, .inl (cy 1, 42, .inl nZ))] := hD
  refine lv_aload_n hx hb dX7_emptyBehind_39 rfl (lv_at hl 0 rfl) ?_
  refine lv_iconst (v := 0) hx hb dX7_emptyBehind_40 (by decide) ?_
  refine va_put (D := (dC, dI)) (ci := 6) (v := .int 0) (ty := .int) (C := RX7) (T := TX7) (N := 20) hx hb hts in_X7_emptyBehind_X7 tyX7 tyX7_ok nmX7 hown hK hP hD hS 0 rfl rfl 12 (by decide) (hts _ (List.mem_cons_of_mem _ (List.mem_append_left _ (List.mem_of_getElem? (i := 6) rfl)))) (fun _ h9 => h9) rfl (by decide +kernel) rfl rfl (Nat.le_of_ble_eq_true rfl) dX7_emptyBehind_41 (fun H locs hP hD hS => ?_)
  have hP : va_P (dC, dI) nCl [(h0, .inr (6, [.ref a0, .int 0, .int 0, .int 0, .int 0, .ref a1, .ref a2, .ref a3, .ref a4, .ref a5, .ref a6, .int 0, .int 0, .ref a7, .ref a8, .ref a9, .ref a10, .ref a11, .ref a12, .int 0])), (a7, .inl (cy 1, 42, .inl nZ)), (a8, .inl (cy 1, 42, .inl nZ)), (a9, .inl (cy 1, 42, .inl nZ)), (a10, .inl (cy 1, 42, .inl nZ)), (a11, .inl (cy 1, 42, .inl nZ)), (a12, .inl (cy 1, 42, .inl nZ))] H := hP
  have hD : va_D A [(h0, .inr (6, [.ref a0, .int 0, .int 0, .int 0, .int 0, .ref a1, .ref a2, .ref a3, .ref a4, .ref a5, .ref a6, .int 0, .int 0, .ref a7, .ref a8, .ref a9, .ref a10, .ref a11, .ref a12, .int 0])), (a7, .inl (cy 1, 42, .inl nZ)), (a8, .inl (cy 1, 42, .inl nZ)), (a9, .inl (cy 1, 42, .inl nZ)), (a10, .inl (cy 1, 42, .inl nZ)), (a11, .inl (cy 1, 42, .inl nZ)), (a12, .inl (cy 1, 42, .inl nZ))] := hD
  refine lv_aload_n hx hb dX7_emptyBehind_44 rfl (lv_at hl 0 rfl) ?_
  refine lv_iconst (v := 0) hx hb dX7_emptyBehind_45 (by decide) ?_
  have hPc : va_P (dC, dI) nCl (v0_c_X7_openUnit0 cy h0 a0 a1 a2 a3 a4 a5 a6 a7 a8 a9 a10 a11 a12) H := hP.sub (ws' := [(h0, .inr (6, [.ref a0, .int 0, .int 0, .int 0, .int 0, .ref a1, .ref a2, .ref a3, .ref a4, .ref a5, .ref a6, .int 0, .int 0, .ref a7, .ref a8, .ref a9, .ref a10, .ref a11, .ref a12, .int 0])), (a7, .inl (cy 1, 42, .inl nZ)), (a8, .inl (cy 1, 42, .inl nZ)), (a9, .inl (cy 1, 42, .inl nZ)), (a10, .inl (cy 1, 42, .inl nZ)), (a11, .inl (cy 1, 42, .inl nZ)), (a12, .inl (cy 1, 42, .inl nZ))]) [0, 1, 2, 3, 4, 5, 6] rfl
  have hDc : va_D A (v0_c_X7_openUnit0 cy h0 a0 a1 a2 a3 a4 a5 a6 a7 a8 a9 a10 a11 a12) := hD.sub (ws' := [(h0, .inr (6, [.ref a0, .int 0, .int 0, .int 0, .int 0, .ref a1, .ref a2, .ref a3, .ref a4, .ref a5, .ref a6, .int 0, .int 0, .ref a7, .ref a8, .ref a9, .ref a10, .ref a11, .ref a12, .int 0])), (a7, .inl (cy 1, 42, .inl nZ)), (a8, .inl (cy 1, 42, .inl nZ)), (a9, .inl (cy 1, 42, .inl nZ)), (a10, .inl (cy 1, 42, .inl nZ)), (a11, .inl (cy 1, 42, .inl nZ)), (a12, .inl (cy 1, 42, .inl nZ))]) [0, 1, 2, 3, 4, 5, 6] (by decide) rfl
  have hFc := va_free (wc := (v0_c_X7_openUnit0 cy h0 a0 a1 a2 a3 a4 a5 a6 a7 a8 a9 a10 a11 a12)) hD hS hA [0, 1, 2, 3, 4, 5, 6] rfl
  refine va_callv (va_runV (As := [.int 0]) (rest := []) ⟨hx, hb, hml, hown, hts⟩ (c_X7_openUnit0 l dC dI cy h0 a0 a1 a2 a3 a4 a5 a6 a7 a8 a9 a10 a11 a12 H.size) (cwV 1 hts gX7_emptyBehind_X7_openUnit rfl rfl rfl (by decide +kernel) ⟨Nat.le_of_ble_eq_true rfl, Nat.le_of_ble_eq_true rfl⟩) ⟨nb_blind, va_recv hK hPc (ci := 6) (q0 := 0) rfl rfl, fun U hU hW => ⟨rfl, by rw [hU], by rw [hU]; exact hPc, va_K.moved hW.alike hK, hDc.weaken (fun _ _ _ _ => trivial), hG.warm hW⟩⟩ rfl rfl hl.1 rfl (lv_room (Nat.le_of_ble_eq_true rfl)) dX7_emptyBehind_46 ⟨Nat.le_of_ble_eq_true rfl, Nat.le_of_ble_eq_true rfl⟩) hS (fun q _ h => hFc q h) hFc (fun u1 t H1 locs ht hvm hw hB hz1 hk1 hS => ?_)
  obtain ⟨hP1, hK1, hD1⟩ := hB
  rw [ht] at hP1
  obtain ⟨hP, hD⟩ := va_join (wr := []) (w1 := (v1_c_X7_openUnit0 cy h0 a0 a1 a2 a3 a4 a5 a6 a7 a8 a9 a10 a11 a12 u1)) hP hD [0, 1, 2, 3, 4, 5, 6] [] rfl rfl (by decide) (by decide) hk1 hFc hP1 hD1
  generalize H1 = H at hP hS ⊢
  have hP : va_P (dC, dI) nCl [(h0, .inr (6, [.ref a0, .int 0, .int 0, .int 0, .int 0, .ref a1, .ref a2, .ref a3, .ref a4, .ref a5, .ref a6, .int 0, .int 0, .ref a7, .ref a8, .ref a9, .ref a10, .ref a11, .ref a12, .int 0])), (a7, .inl (cy 1, 42, .inl nZ)), (a8, .inl (cy 1, 42, .inl nZ)), (a9, .inl (cy 1, 42, .inl nZ)), (a10, .inl (cy 1, 42, .inl nZ)), (a11, .inl (cy 1, 42, .inl nZ)), (a12, .inl (cy 1, 42, .inl nZ))] H := hP
  have hD : va_D A [(h0, .inr (6, [.ref a0, .int 0, .int 0, .int 0, .int 0, .ref a1, .ref a2, .ref a3, .ref a4, .ref a5, .ref a6, .int 0, .int 0, .ref a7, .ref a8, .ref a9, .ref a10, .ref a11, .ref a12, .int 0])), (a7, .inl (cy 1, 42, .inl nZ)), (a8, .inl (cy 1, 42, .inl nZ)), (a9, .inl (cy 1, 42, .inl nZ)), (a10, .inl (cy 1, 42, .inl nZ)), (a11, .inl (cy 1, 42, .inl nZ)), (a12, .inl (cy 1, 42, .inl nZ))] := hD
  have hP : va_P (dC, dI) nCl (v1_c_X7_emptyBehind0 cy h0 a0 a1 a2 a3 a4 a5 a6 a7 a8 a9 a10 a11 a12 (fun _ => 0)) H := hP
  have hD : va_D A (v1_c_X7_emptyBehind0 cy h0 a0 a1 a2 a3 a4 a5 a6 a7 a8 a9 a10 a11 a12 (fun _ => 0)) := hD
  exact W.vret hx hb hr (fun t ht hW => ⟨⟨(fun _ => 0), rfl, trivial, by rw [ht]; exact hP, va_K.moved hW.alike hK, hD⟩, hS.F ht⟩) hS.2.2 dX7_emptyBehind_49

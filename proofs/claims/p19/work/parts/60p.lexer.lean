/-! Lexer(): the words' table. lxS i: how many words, the word so far, the table, behind i bytes of the text. -/
def lxS : Nat → Nat × Int64 × (Nat → Int64)
  | 0 => (0, 0, fun _ => 0)
  | i + 1 => if lxB.getD i 0 &&& 255 = 32 then (if (lxS i).1 < 53 then ((lxS i).1 + 1, 0, vp_updL (lxS i).2.2 (lxS i).1 (lxS i).2.1) else ((lxS i).1, (lxS i).2.1, (lxS i).2.2)) else ((lxS i).1, ((lxS i).2.1 <<< ((8 : Int32).toInt64 &&& 63)) ||| (lxB.getD i 0 &&& 255).toInt64, (lxS i).2.2)
def lxW : Nat → Int64 := (lxS 264).2.2
theorem lxS_le (i : Nat) : (lxS i).1 ≤ 53 := by
  induction i with
  | zero => exact Nat.zero_le _
  | succ i ih =>
    rw [lxS]
    split
    · split
      · simp only; omega
      · exact ih
    · exact ih
theorem in_X2_init_X2 : ∀ w ∈ wsX20, w ∈ wsX2_init := fun _ h9 => (List.mem_cons_of_mem _ (List.mem_append_right _ h9))
set_option maxHeartbeats 4000000 in
set_option maxRecDepth 100000 in
theorem lo_lx {p : Program} (l : Launch) {e : Env} {R : Room} {s : State} {m : MethodId} {args : Array Value} {below : List Frame} {meth : Method} {c : Code} {cells slots : Nat} {Q : State → Prop} {dC : Nat → ClassId} {dI : Nat → Nat → Nat} {cy : Nat → ClassId} {k : Nat → Nat} {A : Nat → Prop} {h0 q1 q2 : Nat} (hR : R.frames = 4 ∧ R.locals = 85 ∧ cells ≤ R.cells ∧ slots ≤ R.slots) (hx : p.tables.exec = Jvm.exec) (hb : c.code = cX2_init) (hml : c.maxLocals = 6) (hts : ∀ w ∈ wsX2_init, w.before args s = true) (hown : s.vm.findClass RX2 = some m.cls) (hK : va_K (dC, dI) nCl (nTy cy) s) (hG : nG s) (hE : nE1 k A s s.heap) (hA : ∀ q : Nat, s.heap.size ≤ q → A q) (kk : ∀ (H : Heap) (locs : List Loc) (ls : Array Slot), va_P (dC, dI) nCl [(h0, .inr (2, [.ref q1, .int 0, .int 0, .int 0, .int 0, .long 0, .long 0, .ref q2])), (q1, .inl (cy 0, 1024, .inl nZ)), (q2, .inl (cy 2, 53, .inr (.inl lxW)))] H → va_D A [(h0, .inr (2, [.ref q1, .int 0, .int 0, .int 0, .int 0, .long 0, .long 0, .ref q2])), (q1, .inl (cy 0, 1024, .inl nZ)), (q2, .inl (cy 2, 53, .inr (.inl lxW)))] → va_S A s.heap H locs → W p l e R s m args below meth c H locs cells slots Q (F0 m 93 ls [])) : ∀ (n i : Nat), i ≤ 264 → 264 - i < n → ∀ (H : Heap) (locs : List Loc) (ls : Array Slot), va_P (dC, dI) nCl [(h0, .inr (2, [.ref q1, .int 0, .int 0, .int 0, .int 0, .long 0, .long 0, .ref q2])), (q1, .inl (cy 0, 1024, .inl nZ)), (q2, .inl (cy 2, 53, .inr (.inl (lxS i).2.2)))] H → va_D A [(h0, .inr (2, [.ref q1, .int 0, .int 0, .int 0, .int 0, .long 0, .long 0, .ref q2])), (q1, .inl (cy 0, 1024, .inl nZ)), (q2, .inl (cy 2, 53, .inr (.inl (lxS i).2.2)))] → va_S A s.heap H locs → lv_has ls 6 [(4, .int (nI i)), (2, .long (lxS i).2.1), (1, .int (nI (lxS i).1)), (0, .ref h0)] → W p l e R s m args below meth c H locs cells slots Q (F0 m 28 ls []) := by
  intro n
  induction n with
  | zero => intro i h1 h2; omega
  | succ n ih =>
    intro i h1 h2 H locs ls hP hD hS hl
    have hle := lxS_le i
    refine lv_iload hx hb dX2_init_28 (lv_at hl 0 rfl) ?_
    refine va_ldcS hx hb hown hE.2.2.2.1 dX2_init_30 ?_
    have hPc : va_P (dC, dI) nCl (v0_c_J_len cy ) H := hP.sub (ws' := []) [] rfl
    have hDc : va_D A (v0_c_J_len cy ) := hD.sub (ws' := []) [] (by decide) rfl
    have hFc := va_free (wc := (v0_c_J_len cy )) hD hS hA [] rfl
    refine va_calli (va_runV (As := []) (rest := [.int (nI i)]) ⟨hx, hb, hml, hown, hts⟩ (c_J_len l dC dI cy k  H.size) (cwV 0 hts gX2_init_J0_length_8abf5 rfl rfl rfl (by decide +kernel) ⟨Nat.le_of_ble_eq_true (by rw [hR.1]; rfl), Nat.le_of_ble_eq_true (by rw [hR.2.1]; rfl)⟩) ⟨nb_blindE1, (vk_recv (i := 0) hE.2.2.1 (by decide) hS), fun U hU hW => ⟨rfl, ⟨by rw [hU], by rw [hU]; exact hPc, va_K.moved hW.alike hK, hDc.weaken (fun _ _ _ _ => trivial), hG.warm hW⟩, nE1.to hE hS hW hU hFc⟩⟩ rfl rfl hl.1 rfl (lv_room (Nat.le_of_ble_eq_true rfl)) dX2_init_32 hR.2.2) hS (fun q _ h => hFc q h) hFc (fun r_1 u1 t H1 locs ht hvm hw hB hz1 hk1 hS => ?_)
    have hw : r_1 = 264 := hw.trans (by decide)
    subst hw
    obtain ⟨hP1, hK1, hD1⟩ := hB
    rw [ht] at hP1
    obtain ⟨hP, hD⟩ := va_join (wr := [(h0, .inr (2, [.ref q1, .int 0, .int 0, .int 0, .int 0, .long 0, .long 0, .ref q2])), (q1, .inl (cy 0, 1024, .inl nZ)), (q2, .inl (cy 2, 53, .inr (.inl (lxS i).2.2)))]) (w1 := (v1_c_J_len cy  u1)) hP hD [] [0, 1, 2] rfl rfl (by decide) (by decide) hk1 hFc hP1 hD1
    generalize H1 = H at hP hS ⊢
    have hP : va_P (dC, dI) nCl [(h0, .inr (2, [.ref q1, .int 0, .int 0, .int 0, .int 0, .long 0, .long 0, .ref q2])), (q1, .inl (cy 0, 1024, .inl nZ)), (q2, .inl (cy 2, 53, .inr (.inl (lxS i).2.2)))] H := hP
    have hD : va_D A [(h0, .inr (2, [.ref q1, .int 0, .int 0, .int 0, .int 0, .long 0, .long 0, .ref q2])), (q1, .inl (cy 0, 1024, .inl nZ)), (q2, .inl (cy 2, 53, .inr (.inl (lxS i).2.2)))] := hD
    refine lv_icmp_ge (tgt := 93) hx hb dX2_init_35 (by decide) (fun c1 => ?_) (fun c1 => ?_)
    · have hi : i = 264 := by
        rcases Nat.lt_or_ge i 264 with q | q
        · exact absurd c1 (nI_ge (b := 264) q (by omega))
        · omega
      subst hi
      exact kk H locs ls hP hD hS
    · have hi : i < 264 := by
        rcases Nat.lt_or_ge i 264 with q | q
        · exact q
        · exact absurd (nI_le (a := 264) q (by omega)) c1
      refine va_ldcS hx hb hown hE.2.2.2.1 dX2_init_38 ?_
      refine lv_iload hx hb dX2_init_40 (lv_at hl 0 rfl) ?_
      have hPc : va_P (dC, dI) nCl (v0_c_J_charAt cy ) H := hP.sub (ws' := []) [] rfl
      have hDc : va_D A (v0_c_J_charAt cy ) := hD.sub (ws' := []) [] (by decide) rfl
      have hFc := va_free (wc := (v0_c_J_charAt cy )) hD hS hA [] rfl
      refine va_calli (va_runV (As := [.int (nI i)]) (rest := []) ⟨hx, hb, hml, hown, hts⟩ (c_J_charAt l dC dI cy k i hi H.size) (cwV 1 hts gX2_init_J0_charAt_5068e rfl rfl rfl (by decide +kernel) ⟨Nat.le_of_ble_eq_true (by rw [hR.1]; rfl), Nat.le_of_ble_eq_true (by rw [hR.2.1]; rfl)⟩) ⟨nb_blindE1, (vk_recv (i := 0) hE.2.2.1 (by decide) hS), fun U hU hW => ⟨rfl, ⟨by rw [hU], by rw [hU]; exact hPc, va_K.moved hW.alike hK, hDc.weaken (fun _ _ _ _ => trivial), hG.warm hW⟩, nE1.to hE hS hW hU hFc⟩⟩ rfl rfl hl.1 rfl (lv_room (Nat.le_of_ble_eq_true rfl)) dX2_init_42 hR.2.2) hS (fun q _ h => hFc q h) hFc (fun r_2 u2 t H1 locs ht hvm hw hB hz1 hk1 hS => ?_)
      obtain ⟨hP1, hK1, hD1⟩ := hB
      rw [ht] at hP1
      obtain ⟨hP, hD⟩ := va_join (wr := [(h0, .inr (2, [.ref q1, .int 0, .int 0, .int 0, .int 0, .long 0, .long 0, .ref q2])), (q1, .inl (cy 0, 1024, .inl nZ)), (q2, .inl (cy 2, 53, .inr (.inl (lxS i).2.2)))]) (w1 := (v1_c_J_charAt cy  u2)) hP hD [] [0, 1, 2] rfl rfl (by decide) (by decide) hk1 hFc hP1 hD1
      generalize H1 = H at hP hS ⊢
      have hP : va_P (dC, dI) nCl [(h0, .inr (2, [.ref q1, .int 0, .int 0, .int 0, .int 0, .long 0, .long 0, .ref q2])), (q1, .inl (cy 0, 1024, .inl nZ)), (q2, .inl (cy 2, 53, .inr (.inl (lxS i).2.2)))] H := hP
      have hD : va_D A [(h0, .inr (2, [.ref q1, .int 0, .int 0, .int 0, .int 0, .long 0, .long 0, .ref q2])), (q1, .inl (cy 0, 1024, .inl nZ)), (q2, .inl (cy 2, 53, .inr (.inl (lxS i).2.2)))] := hD
      subst hw
      refine lv_istore (lv' := [(5, .int (lxB.getD i 0 &&& 255)), (4, .int (nI i)), (2, .long (lxS i).2.1), (1, .int (nI (lxS i).1)), (0, .ref h0)]) hx hb dX2_init_45 hl (by decide) rfl (fun ls hl => ?_)
      refine lv_iload hx hb dX2_init_47 (lv_at hl 0 rfl) ?_
      refine lv_bipush (v := 32) hx hb dX2_init_49 (by decide) ?_
      refine lv_icmp_eq (tgt := 66) hx hb dX2_init_51 (by decide) (fun c1 => ?_) (fun c1 => ?_)
      · have hn : lxS (i + 1) = (if (lxS i).1 < 53 then ((lxS i).1 + 1, 0, vp_updL (lxS i).2.2 (lxS i).1 (lxS i).2.1) else ((lxS i).1, (lxS i).2.1, (lxS i).2.2)) := by rw [lxS, if_pos c1]
        refine lv_iload_n hx hb dX2_init_66 rfl (lv_at hl 3 rfl) ?_
        refine lv_aload_n hx hb dX2_init_67 rfl (lv_at hl 4 rfl) ?_
        refine va_get (D := (dC, dI)) (ci := 2) (v := .ref q2) (C := RX2) (T := TX2) (N := 8) hx hb hts in_X2_init_X2 hown hK hP 0 rfl rfl 7 (by decide) (hts _ (List.mem_cons_of_mem _ (List.mem_append_left _ (List.mem_append_left _ (List.mem_of_getElem? (i := 6) rfl))))) (fun _ h9 => h9) rfl dX2_init_68 ?_
        refine va_alen hx hb hK hP 2 2 rfl rfl (v := 53) rfl dX2_init_71 ?_
        refine lv_icmp_ge (tgt := 87) hx hb dX2_init_72 (by decide) (fun c2 => ?_) (fun c2 => ?_)
        · have h53 : ¬ (lxS i).1 < 53 := fun q => absurd c2 (nI_ge (b := 53) q (by omega))
          rw [if_neg h53] at hn
          refine lv_iinc (v := nI (i + 1)) (lv' := [(4, .int (nI (i + 1))), (5, .int (lxB.getD i 0 &&& 255)), (2, .long (lxS i).2.1), (1, .int (nI (lxS i).1)), (0, .ref h0)]) hx hb dX2_init_87 hl (k := 1) rfl (by rw [← nI_1]; rfl) (by decide) rfl (fun ls hl => ?_)
          refine lv_goto (tgt := 28) hx hb dX2_init_90 (by decide) ?_
          exact ih (i + 1) hi (by omega) _ _ ls (by rw [hn]; exact hP) (by rw [hn]; exact hD) hS (by rw [hn]; exact lv_sub hl [0, 2, 3, 4] rfl)
        · have h53 : (lxS i).1 < 53 := by
            rcases Nat.lt_or_ge (lxS i).1 53 with q | q
            · exact q
            · exact absurd (nI_le (a := 53) q (by omega)) c2
          rw [if_pos h53] at hn
          refine lv_aload_n hx hb dX2_init_75 rfl (lv_at hl 4 rfl) ?_
          refine va_get (D := (dC, dI)) (ci := 2) (v := .ref q2) (C := RX2) (T := TX2) (N := 8) hx hb hts in_X2_init_X2 hown hK hP 0 rfl rfl 7 (by decide) (hts _ (List.mem_cons_of_mem _ (List.mem_append_left _ (List.mem_append_left _ (List.mem_of_getElem? (i := 6) rfl))))) (fun _ h9 => h9) rfl dX2_init_76 ?_
          refine lv_iload_n hx hb dX2_init_79 rfl (lv_at hl 3 rfl) ?_
          refine lv_lload_n hx hb dX2_init_80 rfl (lv_at hl 2 rfl) ?_
          refine va_last hx hb hK hP hD hS 2 2 rfl rfl (vp_in_nI h53 (by omega)) dX2_init_81 (fun H locs hP hD hS => ?_)
          rw [nI_clamp (by omega)] at hP hD
          have hP : va_P (dC, dI) nCl [(h0, .inr (2, [.ref q1, .int 0, .int 0, .int 0, .int 0, .long 0, .long 0, .ref q2])), (q1, .inl (cy 0, 1024, .inl nZ)), (q2, .inl (cy 2, 53, .inr (.inl (vp_updL (lxS i).2.2 (lxS i).1 (lxS i).2.1))))] H := hP
          have hD : va_D A [(h0, .inr (2, [.ref q1, .int 0, .int 0, .int 0, .int 0, .long 0, .long 0, .ref q2])), (q1, .inl (cy 0, 1024, .inl nZ)), (q2, .inl (cy 2, 53, .inr (.inl (vp_updL (lxS i).2.2 (lxS i).1 (lxS i).2.1))))] := hD
          refine lv_iinc (v := nI ((lxS i).1 + 1)) (lv' := [(1, .int (nI ((lxS i).1 + 1))), (5, .int (lxB.getD i 0 &&& 255)), (4, .int (nI i)), (2, .long (lxS i).2.1), (0, .ref h0)]) hx hb dX2_init_82 hl (k := 3) rfl (by rw [← nI_1]; rfl) (by decide) rfl (fun ls hl => ?_)
          refine lv_lconst (v := 0) hx hb dX2_init_85 (by decide) ?_
          refine lv_lstore_n (lv' := [(2, .long 0), (1, .int (nI ((lxS i).1 + 1))), (5, .int (lxB.getD i 0 &&& 255)), (4, .int (nI i)), (0, .ref h0)]) hx hb dX2_init_86 rfl hl (by decide) rfl (fun ls hl => ?_)
          refine lv_iinc (v := nI (i + 1)) (lv' := [(4, .int (nI (i + 1))), (2, .long 0), (1, .int (nI ((lxS i).1 + 1))), (5, .int (lxB.getD i 0 &&& 255)), (0, .ref h0)]) hx hb dX2_init_87 hl (k := 3) rfl (by rw [← nI_1]; rfl) (by decide) rfl (fun ls hl => ?_)
          refine lv_goto (tgt := 28) hx hb dX2_init_90 (by decide) ?_
          exact ih (i + 1) hi (by omega) _ _ ls (by rw [hn]; exact hP) (by rw [hn]; exact hD) hS (by rw [hn]; exact lv_sub hl [0, 1, 2, 4] rfl)
      · have hn : lxS (i + 1) = ((lxS i).1, ((lxS i).2.1 <<< ((8 : Int32).toInt64 &&& 63)) ||| (lxB.getD i 0 &&& 255).toInt64, (lxS i).2.2) := by rw [lxS, if_neg c1]
        refine lv_lload_n hx hb dX2_init_54 rfl (lv_at hl 2 rfl) ?_
        refine lv_bipush (v := 8) hx hb dX2_init_55 (by decide) ?_
        refine lv_lshl (v := (lxS i).2.1 <<< ((8 : Int32).toInt64 &&& 63)) hx hb dX2_init_57 rfl ?_
        refine lv_iload hx hb dX2_init_58 (lv_at hl 0 rfl) ?_
        refine lv_i2l (v := (lxB.getD i 0 &&& 255).toInt64) hx hb dX2_init_60 rfl ?_
        refine lv_lor hx hb dX2_init_61 ?_
        refine lv_lstore_n (lv' := [(2, .long (((lxS i).2.1 <<< ((8 : Int32).toInt64 &&& 63)) ||| (lxB.getD i 0 &&& 255).toInt64)), (5, .int (lxB.getD i 0 &&& 255)), (4, .int (nI i)), (1, .int (nI (lxS i).1)), (0, .ref h0)]) hx hb dX2_init_62 rfl hl (by decide) rfl (fun ls hl => ?_)
        refine lv_goto (tgt := 87) hx hb dX2_init_63 (by decide) ?_
        refine lv_iinc (v := nI (i + 1)) (lv' := [(4, .int (nI (i + 1))), (2, .long (((lxS i).2.1 <<< ((8 : Int32).toInt64 &&& 63)) ||| (lxB.getD i 0 &&& 255).toInt64)), (5, .int (lxB.getD i 0 &&& 255)), (1, .int (nI (lxS i).1)), (0, .ref h0)]) hx hb dX2_init_87 hl (k := 2) rfl (by rw [← nI_1]; rfl) (by decide) rfl (fun ls hl => ?_)
        refine lv_goto (tgt := 28) hx hb dX2_init_90 (by decide) ?_
        exact ih (i + 1) hi (by omega) _ _ ls (by rw [hn]; exact hP) (by rw [hn]; exact hD) hS (by rw [hn]; exact lv_sub hl [0, 1, 3, 4] rfl)
def v0_c_X2_init (cy : Nat → ClassId) (h0 : Nat) : va_W := [(h0, .inr (2, [.null, .int 0, .int 0, .int 0, .int 0, .long 0, .long 0, .null]))]
def v1_c_X2_init (cy : Nat → ClassId) (h0 : Nat) (r : Nat → Nat) : va_W := [(h0, .inr (2, [.ref (r 0), .int 0, .int 0, .int 0, .int 0, .long 0, .long 0, .ref (r 1)])), ((r 0), .inl (cy 0, 1024, .inl nZ)), ((r 1), .inl (cy 2, 53, .inr (.inl lxW)))]
set_option maxHeartbeats 40000000 in
set_option maxRecDepth 100000 in
/-- Lexer() -/
theorem c_X2_init (l : Launch) (dC : Nat → ClassId) (dI : Nat → Nat → Nat) (cy : Nat → ClassId) (k : Nat → Nat) (h0 : Nat) (sz : Nat) : Met l yX2_init wsX2_init ({ frames := 4, cells := 2, slots := 1077, locals := 85 }) (va_Pc [.ref h0] (nInE1 (dC, dI) cy k sz (v0_c_X2_init cy h0))) (va_Qv (fun _ : Nat → Nat => True) (fun r t => nOut (dC, dI) cy (va_A (v0_c_X2_init cy h0) sz) (v1_c_X2_init cy h0 r) t) (va_A (v0_c_X2_init cy h0) sz)) 2 1077 (va_A (v0_c_X2_init cy h0) sz) := by
  refine Met.ofW (cc := cX2_init) (maxL := 6) (ret := none) (by decide) rfl ?_
  intro p e s m args below meth c s₁ B hml hv
  obtain ⟨rfl, ⟨hsz, hP, hK, hD0, hG⟩, hE⟩ := hv
  have hx := B.exec
  have hb := B.bytes
  have hr := B.returns
  have hts := atoms_spec (ws := wsX2_init) B.pre
  have hown : s.vm.findClass RX2 = some m.cls := findClass_of_methodNamed B.named
  have hlocks := B.notSynchronized
  have hin : meth.name = "<init>" := (name_of_methodNamed B.named B.method).1
  subst hsz
  have hD := hD0.self (sz := s.heap.size)
  generalize hAe : va_A (v0_c_X2_init cy h0) s.heap.size = A at hD hE ⊢
  have hA : ∀ q : Nat, s.heap.size ≤ q → A q := fun q h => by rw [← hAe]; exact Or.inr h
  have hS : va_S A s.heap s.heap [] := va_S.rf
  have hP : va_P (dC, dI) nCl (v0_c_X2_init cy h0) s.heap := hP
  have hl := lv_entry ([.ref h0]) (n := 6) (Nat.le_of_ble_eq_true rfl)
  rw [lg_entry_eq]
  generalize (lg_sl ([.ref h0]) ++ List.replicate (6 - (lg_sl ([.ref h0])).length) Slot.unset).toArray = ls at hl ⊢
  have hl : lv_has ls 6 [(0, .ref h0)] := hl
  have hP : va_P (dC, dI) nCl [(h0, .inr (2, [.null, .int 0, .int 0, .int 0, .int 0, .long 0, .long 0, .null]))] s.heap := hP
  have hD : va_D A [(h0, .inr (2, [.null, .int 0, .int 0, .int 0, .int 0, .long 0, .long 0, .null]))] := hD
  refine lv_aload_n hx hb dX2_init_0 rfl (lv_at hl 0 rfl) ?_
  refine W.objInit hx hb hown (hts _ (List.mem_cons_of_mem _ (List.mem_append_left _ (List.mem_append_left _ (List.mem_of_getElem? (i := 0) rfl))))) (hts _ (List.mem_cons_of_mem _ (List.mem_append_left _ (List.mem_append_left _ (List.mem_of_getElem? (i := 1) rfl))))) (hts _ (List.mem_cons_of_mem _ (List.mem_append_left _ (List.mem_append_left _ (List.mem_of_getElem? (i := 2) rfl))))) rfl (by rw [hml]; exact hl.1) rfl dX2_init_1 (Nat.le_of_ble_eq_true rfl) (Nat.le_of_ble_eq_true rfl) ?_
  refine W.eq (g2 := F0 m 4 ls []) rfl ?_
  refine lv_aload_n hx hb dX2_init_4 rfl (lv_at hl 0 rfl) ?_
  refine lv_sipush (v := 1024) hx hb dX2_init_5 (by decide) ?_
  refine nb_newa (ty := .byte) (cA := cy 0) (N' := 1024) (a0 := (1024, .inl nZ)) hx hb (hts _ (List.mem_cons_of_mem _ (List.mem_append_left _ (List.mem_append_left _ (List.mem_of_getElem? (i := 3) rfl))))) rfl hK hP hD hS hA 0 rfl (fun _ => rfl) (by decide) rfl (by decide) (Nat.le_of_ble_eq_true rfl) (Nat.le_of_ble_eq_true rfl) dX2_init_8 (fun q1 H hP hD hS => ?_)
  refine W.widen (k := 1) (n := 1024) (Nat.le_of_ble_eq_true rfl) (Nat.le_of_ble_eq_true rfl) ?_
  have hP : va_P (dC, dI) nCl [(h0, .inr (2, [.null, .int 0, .int 0, .int 0, .int 0, .long 0, .long 0, .null])), (q1, .inl (cy 0, 1024, .inl nZ))] H := hP
  have hD : va_D A [(h0, .inr (2, [.null, .int 0, .int 0, .int 0, .int 0, .long 0, .long 0, .null])), (q1, .inl (cy 0, 1024, .inl nZ))] := hD
  refine va_put (D := (dC, dI)) (ci := 2) (v := .ref q1) (ty := .array .byte) (C := RX2) (T := TX2) (N := 8) hx hb hts in_X2_init_X2 tyX2 tyX2_ok nmX2 hown hK hP hD hS 0 rfl rfl 0 (by decide) (hts _ (List.mem_cons_of_mem _ (List.mem_append_left _ (List.mem_append_left _ (List.mem_of_getElem? (i := 4) rfl))))) (fun _ h9 => h9) rfl (by decide +kernel) rfl rfl (Nat.le_of_ble_eq_true rfl) dX2_init_10 (fun H locs hP hD hS => ?_)
  have hP : va_P (dC, dI) nCl [(h0, .inr (2, [.ref q1, .int 0, .int 0, .int 0, .int 0, .long 0, .long 0, .null])), (q1, .inl (cy 0, 1024, .inl nZ))] H := hP
  have hD : va_D A [(h0, .inr (2, [.ref q1, .int 0, .int 0, .int 0, .int 0, .long 0, .long 0, .null])), (q1, .inl (cy 0, 1024, .inl nZ))] := hD
  refine lv_aload_n hx hb dX2_init_13 rfl (lv_at hl 0 rfl) ?_
  refine lv_bipush (v := 53) hx hb dX2_init_14 (by decide) ?_
  refine nb_newa (ty := .long) (cA := cy 2) (N' := 53) (a0 := (53, .inr (.inl (fun _ => 0)))) hx hb (hts _ (List.mem_cons_of_mem _ (List.mem_append_left _ (List.mem_append_left _ (List.mem_of_getElem? (i := 5) rfl))))) rfl hK hP hD hS hA 2 rfl (fun _ => rfl) (by decide) rfl (by decide) (Nat.le_of_ble_eq_true rfl) (Nat.le_of_ble_eq_true rfl) dX2_init_16 (fun q2 H hP hD hS => ?_)
  refine W.widen (k := 2) (n := 1077) (Nat.le_of_ble_eq_true rfl) (Nat.le_of_ble_eq_true rfl) ?_
  have hP : va_P (dC, dI) nCl [(h0, .inr (2, [.ref q1, .int 0, .int 0, .int 0, .int 0, .long 0, .long 0, .null])), (q1, .inl (cy 0, 1024, .inl nZ)), (q2, .inl (cy 2, 53, .inr (.inl (fun _ => 0))))] H := hP
  have hD : va_D A [(h0, .inr (2, [.ref q1, .int 0, .int 0, .int 0, .int 0, .long 0, .long 0, .null])), (q1, .inl (cy 0, 1024, .inl nZ)), (q2, .inl (cy 2, 53, .inr (.inl (fun _ => 0))))] := hD
  refine va_putF (D := (dC, dI)) (ci := 2) (v := .ref q2) (ty := .array .long) (C := RX2) (T := TX2) (N := 8) hx hb hts in_X2_init_X2 tyX2 tyX2_ok nmX2 hown hK hP hD hS 0 rfl rfl 7 (by decide) (hts _ (List.mem_cons_of_mem _ (List.mem_append_left _ (List.mem_append_left _ (List.mem_of_getElem? (i := 6) rfl))))) (fun _ h9 => h9) rfl hin rfl (by decide +kernel) rfl rfl (Nat.le_of_ble_eq_true rfl) dX2_init_18 (fun H locs hP hD hS => ?_)
  have hP : va_P (dC, dI) nCl [(h0, .inr (2, [.ref q1, .int 0, .int 0, .int 0, .int 0, .long 0, .long 0, .ref q2])), (q1, .inl (cy 0, 1024, .inl nZ)), (q2, .inl (cy 2, 53, .inr (.inl (fun _ => 0))))] H := hP
  have hD : va_D A [(h0, .inr (2, [.ref q1, .int 0, .int 0, .int 0, .int 0, .long 0, .long 0, .ref q2])), (q1, .inl (cy 0, 1024, .inl nZ)), (q2, .inl (cy 2, 53, .inr (.inl (fun _ => 0))))] := hD
  refine lv_iconst (v := 0) hx hb dX2_init_21 (by decide) ?_
  refine lv_istore_n (lv' := [(1, .int 0), (0, .ref h0)]) hx hb dX2_init_22 rfl hl (by decide) rfl (fun ls hl => ?_)
  refine lv_lconst (v := 0) hx hb dX2_init_23 (by decide) ?_
  refine lv_lstore_n (lv' := [(2, .long 0), (1, .int 0), (0, .ref h0)]) hx hb dX2_init_24 rfl hl (by decide) rfl (fun ls hl => ?_)
  refine lv_iconst (v := 0) hx hb dX2_init_25 (by decide) ?_
  refine lv_istore (lv' := [(4, .int 0), (2, .long 0), (1, .int 0), (0, .ref h0)]) hx hb dX2_init_26 hl (by decide) rfl (fun ls hl => ?_)
  refine lo_lx l (R := (headSpec wsX2_init { frames := 4, cells := 2, slots := 1077, locals := 85 }).room) (k := k) (h0 := h0) (q1 := q1) (q2 := q2) ⟨rfl, rfl, Nat.le_of_ble_eq_true rfl, Nat.le_of_ble_eq_true rfl⟩ hx hb hml hts hown hK hG hE hA (fun H locs ls hP hD hS => ?_) 265 0 (by omega) (by omega) _ _ ls hP hD hS (lv_sub hl [0, 1, 2, 3] rfl)
  have hP : va_P (dC, dI) nCl (v1_c_X2_init cy h0 (fun k => [q1, q2].getD k 0)) H := hP
  have hD : va_D A (v1_c_X2_init cy h0 (fun k => [q1, q2].getD k 0)) := hD
  exact W.vret hx hb hr (fun t ht hW => ⟨⟨(fun k => [q1, q2].getD k 0), rfl, trivial, by rw [ht]; exact hP, va_K.moved hW.alike hK, hD⟩, hS.F ht⟩) hS.2.2 dX2_init_93

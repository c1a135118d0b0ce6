/-! Statements on both sides (reference): whiles, fors are begun. -/
section WHF
variable {T : Nat → Nat → Int32} {FN : Nat → Nat → Prop} {S : Nat → Nat → Nat → Nat → Prop} {t w XC : Nat} {σ1 σ2 : MS}
theorem s_gobM {τ : MS} {L : Nat → Int32} (d : L 1 = -1) : Tm (fun k => x_goOnBehind k 0 L τ) (fun r => r = (0, τ)) := by
  refine Tm_suc (fun k => by rw [x_goOnBehind]) ?_
  rw [d]
  exact Tm_ite (fun _ => Tm_some rfl) (fun z => absurd rfl z)
/-- within the body of an if or a while -/
theorem Pos_bd (hW : SWf T FN S) {c un d v n : Nat} {F : List Nat} {σ : MS} {y : Int32} (hP : Pos T S c un d v n F σ) (hk : T 4 n = 46 ∨ T 4 n = 47) (hB : BdE T S un d v n y) : InP T S c un (d + 1) (nI n) F σ ∧ (y = -1 ∨ ∃ b v', y = nI b ∧ Pos T S c un (d + 1) v' b F σ) := by
  obtain ⟨_, _, ⟨n7, _, _⟩, b3, b4⟩ := Pos_b hW hP
  obtain ⟨h1, h2, h3, h4, h5, h6, h7⟩ := id hP
  have n48 : ¬ T 4 n = 48 := by rcases hk with z | z <;> (rw [z]; decide)
  refine ⟨⟨h1, h2, h4, h5, h6, h7, b3, b4, Or.inr ⟨n, d, v, F, rfl, rfl, h3, by rw [if_neg n48], hk.imp id Or.inl⟩⟩, ?_⟩
  rcases hB with z | ⟨b, v', yb, hS, _, hu⟩
  · exact Or.inl z
  · refine Or.inr ⟨b, v', yb, ?_⟩
    have := LVs_dn n7 h3 hu hS
    rw [if_neg n48] at this
    exact Pos_lv hP this
/-- a while is tested -/
theorem E_testAgain (hW : SWf T FN S) (hXC : XC ≤ 401000) (ht : t + 9 + KBn T ≤ w + 17000) {c un d v n w' : Nat} {F : List Nat} {τ1 τ2 : MS} (hw : w ≤ w') (hM : Mid T FN S t w' XC σ1 σ2 τ1 τ2) (hP : Pos T S c un d v n F τ1) (hk : T 4 n = 47) (h5 : Wx0 T FN (lcU un T) (T 5 n)) (h6 : BdE T S un d v n (T 6 n)) {L1 L2 : Nat → Int32} (d1 : L1 1 = nI n) (d2 : L2 1 = nI n) : T2 (fun k => x_testAgain k 0 L1 τ1) (fun k => x_testAgain k 0 L2 τ2) (fun r1 r2 => OuQ T FN S t w XC σ1 σ2 r1.2 r2.2) := by
  obtain ⟨hE, U1, U2, B1, B2, kp⟩ := id hM
  have w6 := EI_w hE
  obtain ⟨_, _, ⟨n7, _, _⟩, _, _⟩ := Pos_b hW hP
  have hSc := Pos_sc B1 hP
  refine T2_suc (fun k => by rw [x_testAgain]) (fun k => by rw [x_testAgain]) ?_
  rw [d1, d2]
  refine T2_chk (n_in (by omega) (by omega)) (n_in (by omega) (by omega)) ?_
  rw [n_cl (p := n) (by omega), B1.1.1 5 _ (by omega) (by omega) (by omega), B2.1.1 5 _ (by omega) (by omega) (by omega)]
  refine T2_ob (E_hold (by omega) (by omega) hSc.1 h5 hE rfl rfl) (fun r1 r2 hr => ?_)
  obtain ⟨a1, f1, f2, a4⟩ := hr
  rcases a4 with ⟨w2, hw2, hJ⟩ | ⟨z1, z2, _⟩
  case inr =>
    refine T2_ite ⟨fun z => absurd z (EZ_le z1), fun z => absurd z (EZ_le z2)⟩ (fun z _ => absurd z (EZ_le z1)) (fun _ _ => ?_)
    exact T2_some (OuQ_z (I := fun _ => False) hM (FC_fe f1) (FC_fe f2) (UT_fe f1 U1) (UT_fe f2 U2) (by omega) z1 z2)
  obtain ⟨e1, e2⟩ := EI_e hJ
  have hM' : Mid T FN S t w2 XC σ1 σ2 r1.2 r2.2 := Mid_fc (I := fun _ => False) hM (FC_fe f1) (FC_fe f2) hJ (UT_fe f1 U1) (UT_fe f2 U2)
  have hP' := Pos_fs hW (FS_fe f1) hP
  have B1' := hM'.2.2.2.1
  have B2' := hM'.2.2.2.2.1
  rw [e1, e2]
  refine T2_ite Iff.rfl (fun _ _ => ?_) (fun z _ => absurd (by decide) z)
  refine T2_suc (fun k => by rw [x_testAgain]) (fun k => by rw [x_testAgain]) ?_
  have fin3 : ∀ (s1 s2 : MS) (K1 K2 : Nat → Int32), OuQ T FN S t w XC σ1 σ2 s1 s2 → T2 (fun k => x_testAgain k 3 K1 s1) (fun k => x_testAgain k 3 K2 s2) (fun r1 r2 => OuQ T FN S t w XC σ1 σ2 r1.2 r2.2) := fun s1 s2 K1 K2 h => T2_suc (fun k => by rw [x_testAgain]) (fun k => by rw [x_testAgain]) (T2_some h)
  show T2 (fun k => if r1.1 = 0 then _ else _) (fun k => if r2.1 = 0 then _ else _) _
  refine T2_ite (by rw [a1]) (fun _ _ => ?_) (fun _ _ => ?_)
  · refine T2_suc (fun k => by rw [x_testAgain]) (fun k => by rw [x_testAgain]) ?_
    exact T2_ob (E_goOnBehind hW hXC ht (Nat.le_trans hw hw2) hM' hP' (by exact d1) (by exact d2)) (fun s1 s2 hs => fin3 _ _ _ _ hs)
  · show T2 (fun k => if ¬ (L1 1 < 0 ∨ 70000 ≤ (L1 1).toNatClampNeg) then _ else _) (fun k => if ¬ (L2 1 < 0 ∨ 70000 ≤ (L2 1).toNatClampNeg) then _ else _) _
    rw [d1, d2]
    refine T2_chk (n_in (by omega) (by omega)) (n_in (by omega) (by omega)) ?_
    obtain ⟨hIn, hy⟩ := Pos_bd hW hP' (Or.inr hk) h6
    refine T2_ob (E_enter hW hXC ht (Nat.le_trans hw hw2) hM' hIn hy ?_ ?_ (by exact d1) (by exact d2)) (fun s1 s2 hs => fin3 _ _ _ _ hs)
    · show r1.2.2.2 6 (L1 1).toNatClampNeg = _
      rw [d1, n_cl (p := n) (by omega), B1'.1.1 6 _ (by omega) (by omega) (by omega)]
    · show r2.2.2.2 6 (L2 1).toNatClampNeg = _
      rw [d2, n_cl (p := n) (by omega), B2'.1.1 6 _ (by omega) (by omega) (by omega)]
/-- a for is begun -/
theorem E_beginFor (hW : SWf T FN S) (hXC : XC ≤ 401000) (ht : t + 9 + KBn T ≤ w + 17000) {c un d v n w' : Nat} {F : List Nat} {τ1 τ2 : MS} (hw : w ≤ w') (hM : Mid T FN S t w' XC σ1 σ2 τ1 τ2) (hP : Pos T S c un d v n F τ1) (hk : T 4 n = 48) {L1 L2 : Nat → Int32} (d1 : L1 1 = nI n) (d2 : L2 1 = nI n) : T2 (fun k => x_beginFor k 0 L1 τ1) (fun k => x_beginFor k 0 L2 τ2) (fun r1 r2 => OuQ T FN S t w XC σ1 σ2 r1.2 r2.2) := by
  obtain ⟨hE, U1, U2, B1, B2, kp⟩ := id hM
  have w6 := EI_w hE
  obtain ⟨pb1, pb2, ⟨n7, v6, d20⟩, b3, b4⟩ := Pos_b hW hP
  obtain ⟨h1, hc, hLV, h2, hF, h3, hIt⟩ := id hP
  obtain ⟨_, _, _, _, h48, _⟩ := hW un d v n (LVs_S hLV)
  obtain ⟨d19, f1, f2, f3, f4, f5⟩ := h48 hk
  have p1 : (3214 : Int32) + 2 * nI F.length = nI (3214 + 2 * F.length) := by
    rw [show (2 : Int32) * nI F.length = nI (2 * F.length) from n_mulN 2 F.length]; exact n_add (p := 3214) (by omega)
  -- three numbers are written
  have wr : ∀ (i : Nat) (x : Int32) (ρ1 ρ2 : MS), (¬ Zn 30 i ∧ i ≠ 1 ∧ i ≠ 3 ∧ ¬ (65 ≤ i ∧ i < 214 ∧ i % 3 = 2)) ∧ i ≠ 2 → Mid T FN S t w' XC σ1 σ2 ρ1 ρ2 → Mid T FN S t w' XC σ1 σ2 (mAr ρ1 30 i x) (mAr ρ2 30 i x) := fun i x ρ1 ρ2 hi h => Mid_fc (I := fun j => j = i) h (FC_w rfl) (FC_w rfl) (EI_c30 ⟨hi.1.1, hi.1.2.1, hi.1.2.2.1, hi.2⟩ h.1) (UT_c30 hi.1 (EI_B h.1).1 h.2.1) (UT_c30 hi.1 (EI_B h.1).2 h.2.2.1)
  have o : ∀ (ρ : MS) (i j : Nat) (x : Int32), j ≠ i → (mAr ρ 30 i x).2.2 30 j = ρ.2.2 30 j := fun ρ i j x hj => by rw [mAr_s, upd_other hj]
  have hM1 := wr (3214 + 2 * F.length) (nI n) τ1 τ2 (by unfold Zn; omega) hM
  have hM2 := wr (3214 + 2 * F.length + 1) (nI (suI T F)) _ _ (by unfold Zn; omega) hM1
  have vA : ∀ τ : MS, (mAr (mAr τ 30 (3214 + 2 * F.length) (nI n)) 30 (3214 + 2 * F.length + 1) (nI (suI T F))).2.2 30 (3214 + 2 * F.length) = nI n := fun τ => by rw [o _ _ _ _ (by omega), mAr_s, upd_same]
  have vB : ∀ τ : MS, (mAr (mAr τ 30 (3214 + 2 * F.length) (nI n)) 30 (3214 + 2 * F.length + 1) (nI (suI T F))).2.2 30 (3214 + 2 * F.length + 1) = nI (suI T F) := fun τ => by rw [mAr_s, upd_same]
  have hM3 := Mid_fc (I := fun j => j = 2) hM2 (FC_w (x := nI (F.length + 1)) rfl) (FC_w rfl) (EI_f1 (f := F.length) (by rw [o _ _ _ _ (by omega), o _ _ _ _ (by omega)]; exact h2) (by omega) (fun j hj => by
    rcases hj with e | e
    · rw [e, vA, vA]
    · rw [e, vB, vB]) hM2.1) (UT_c30 (by unfold Zn; omega) (EI_B hM2.1).1 hM2.2.1) (UT_c30 (by unfold Zn; omega) (EI_B hM2.1).2 hM2.2.2.1)
  have k2 : τ2.2.2 30 2 = nI F.length := (EI_30 hE (by unfold Zn; omega) (InA_4 (by omega))).trans h2
  have k3 : τ2.2.2 30 3 = nI (suI T F) := (EI_30 hE (by unfold Zn; omega) (InA_4 (by omega))).trans h3
  refine T2_suc (fun k => by rw [x_beginFor]) (fun k => by rw [x_beginFor]) ?_
  refine T2_chk (by decide) (by decide) ?_
  rw [show (2 : Int32).toNatClampNeg = 2 from by decide, h2, k2, p1, d1, d2]
  refine T2_chk (n_in (by omega) (by omega)) (n_in (by omega) (by omega)) ?_
  rw [n_cl (p := 3214 + 2 * F.length) (by omega)]
  refine T2_suc (fun k => by rw [x_beginFor]) (fun k => by rw [x_beginFor]) ?_
  refine T2_chk (by decide) (by decide) ?_
  show T2 (fun k => if ¬ (nI (3214 + 2 * F.length) + 1 < 0 ∨ 11514 ≤ (nI (3214 + 2 * F.length) + 1).toNatClampNeg) then x_beginFor k 2 _ (mAr (mAr τ1 30 (3214 + 2 * F.length) (nI n)) 30 (nI (3214 + 2 * F.length) + 1).toNatClampNeg ((mAr τ1 30 (3214 + 2 * F.length) (nI n)).2.2 30 (3 : Int32).toNatClampNeg)) else none) (fun k => if ¬ (nI (3214 + 2 * F.length) + 1 < 0 ∨ 11514 ≤ (nI (3214 + 2 * F.length) + 1).toNatClampNeg) then x_beginFor k 2 _ (mAr (mAr τ2 30 (3214 + 2 * F.length) (nI n)) 30 (nI (3214 + 2 * F.length) + 1).toNatClampNeg ((mAr τ2 30 (3214 + 2 * F.length) (nI n)).2.2 30 (3 : Int32).toNatClampNeg)) else none) _
  rw [show (3 : Int32).toNatClampNeg = 3 from by decide, o τ1 _ 3 _ (by omega), o τ2 _ 3 _ (by omega), h3, k3, n_add1]
  refine T2_chk (n_in (by omega) (by omega)) (n_in (by omega) (by omega)) ?_
  rw [n_cl (p := 3214 + 2 * F.length + 1) (by omega)]
  have q2 : (mAr (mAr τ1 30 (3214 + 2 * F.length) (nI n)) 30 (3214 + 2 * F.length + 1) (nI (suI T F))).2.2 30 2 = nI F.length := by rw [o _ _ _ _ (by omega), o _ _ _ _ (by omega)]; exact h2
  have q2' : (mAr (mAr τ2 30 (3214 + 2 * F.length) (nI n)) 30 (3214 + 2 * F.length + 1) (nI (suI T F))).2.2 30 2 = nI F.length := by rw [o _ _ _ _ (by omega), o _ _ _ _ (by omega)]; exact k2
  refine T2_suc (fun k => by rw [x_beginFor]) (fun k => by rw [x_beginFor]) ?_
  refine T2_chk (by decide) (by decide) ?_
  refine T2_chk (by decide) (by decide) ?_
  rw [show (2 : Int32).toNatClampNeg = 2 from by decide, q2, q2', n_add1]
  refine T2_suc (fun k => by rw [x_beginFor]) (fun k => by rw [x_beginFor]) ?_
  show T2 (fun k => ob (x_seek k 0 (upd (upd (fun _ => 0) 1 (L1 1)) 2 1) (mAr (mAr (mAr τ1 30 (3214 + 2 * F.length) (nI n)) 30 (3214 + 2 * F.length + 1) (nI (suI T F))) 30 2 (nI (F.length + 1)))) (fun r1 => ob (x_goOnBehind k 0 (upd (fun _ => 0) 1 r1.1) r1.2) (fun r2 => some (0, r2.2)))) (fun k => ob (x_seek k 0 (upd (upd (fun _ => 0) 1 (L2 1)) 2 1) (mAr (mAr (mAr τ2 30 (3214 + 2 * F.length) (nI n)) 30 (3214 + 2 * F.length + 1) (nI (suI T F))) 30 2 (nI (F.length + 1)))) (fun r1 => ob (x_goOnBehind k 0 (upd (fun _ => 0) 1 r1.1) r1.2) (fun r2 => some (0, r2.2)))) _
  rw [d1, d2]
  have e0 : ∀ j, j ≠ 2 → j ≠ 3214 + 2 * F.length → j ≠ 3214 + 2 * F.length + 1 → (mAr (mAr (mAr τ1 30 (3214 + 2 * F.length) (nI n)) 30 (3214 + 2 * F.length + 1) (nI (suI T F))) 30 2 (nI (F.length + 1))).2.2 30 j = τ1.2.2 30 j := fun j a b c => by rw [o _ _ _ _ a, o _ _ _ _ c, o _ _ _ _ b]
  have s2 : (mAr (mAr (mAr τ1 30 (3214 + 2 * F.length) (nI n)) 30 (3214 + 2 * F.length + 1) (nI (suI T F))) 30 2 (nI (F.length + 1))).2.2 30 2 = nI (F.length + 1) := by rw [mAr_s, upd_same]
  have sA : (mAr (mAr (mAr τ1 30 (3214 + 2 * F.length) (nI n)) 30 (3214 + 2 * F.length + 1) (nI (suI T F))) 30 2 (nI (F.length + 1))).2.2 30 (3214 + 2 * F.length) = nI n := by rw [o _ _ _ _ (by omega), o _ _ _ _ (by omega), mAr_s, upd_same]
  have sB : (mAr (mAr (mAr τ1 30 (3214 + 2 * F.length) (nI n)) 30 (3214 + 2 * F.length + 1) (nI (suI T F))) 30 2 (nI (F.length + 1))).2.2 30 (3214 + 2 * F.length + 1) = nI (suI T F) := by rw [o _ _ _ _ (by omega), mAr_s, upd_same]
  have s28 : (mAr (mAr (mAr τ1 30 (3214 + 2 * F.length) (nI n)) 30 (3214 + 2 * F.length + 1) (nI (suI T F))) 30 2 (nI (F.length + 1))).2.2 28 = τ1.2.2 28 := by rw [mAr_o (by decide), mAr_o (by decide), mAr_o (by decide)]
  generalize mAr (mAr (mAr τ1 30 (3214 + 2 * F.length) (nI n)) 30 (3214 + 2 * F.length + 1) (nI (suI T F))) 30 2 (nI (F.length + 1)) = ρ1 at *
  generalize mAr (mAr (mAr τ2 30 (3214 + 2 * F.length) (nI n)) 30 (3214 + 2 * F.length + 1) (nI (suI T F))) 30 2 (nI (F.length + 1)) = ρ2 at *
  have hF' : ∀ (G : List Nat), G.length ≤ F.length → FSk T (τ1.2.2 30) G → FSk T (ρ1.2.2 30) G := by
    intro G
    induction G with
    | nil => intro _ _; trivial
    | cons m G ih =>
      intro hl h
      have hl : G.length + 1 ≤ F.length := hl
      refine ⟨⟨h.1.1, ?_, ?_⟩, ih (by omega) h.2⟩
      · rw [e0 _ (by omega) (by omega) (by omega)]; exact h.1.2.1
      · rw [e0 _ (by omega) (by omega) (by omega)]; exact h.1.2.2
  have lv' : LVs T S (ρ1.2.2 30) c un d v n F := LVs_c h1 (fun i a b => e0 i (by omega) (by omega) (by omega)) hLV
  have c1' : ρ1.2.2 30 1 = nI c := (e0 1 (by omega) (by omega) (by omega)).trans hc
  have r3 : ρ1.2.2 30 3 = nI (suI T F + 0) := by rw [e0 3 (by omega) (by omega) (by omega)]; exact h3
  have it' : ItS ρ1 (suI T F + 0) := ItS_c (σ := τ1) (by omega) s28 (fun i hi => e0 i (by omega) (by omega) (by omega)) hIt
  have hSc := Sc1_lv hM3.2.2.2.1 c1' h1 (LVs_u lv')
  refine T2_ob (E_seek (c := 0) (go := 1) (F := F) hXC (by omega) n7 f3 ⟨f1, by omega⟩ (by omega) (by omega) f4 hSc hM3.1 hM3.2.1 hM3.2.2.1 s2 ⟨⟨n7, sA, sB⟩, hF' F (Nat.le_refl _) hF⟩ r3 it' (by omega) (fun _ => by omega) rfl rfl rfl rfl) (fun r1 r2 hr => ?_)
  obtain ⟨a1, a2, a3, a4, a5, a6⟩ := hr
  have lc : ∀ i, 64 ≤ i → i < 214 → r1.2.2.2 30 i = ρ1.2.2 30 i := fun i h1 h2 => FC_30 a2 (by unfold Zn; omega) (by unfold Isk Inx; omega)
  have c11 : r1.2.2.2 30 1 = nI c := (FC_30 a2 (by unfold Zn; omega) (by unfold Isk Inx; omega)).trans c1'
  have fk : ∀ i, 3214 ≤ i → i < 5314 → r1.2.2.2 30 i = ρ1.2.2 30 i := fun i h1 h2 => FC_30 a2 (by unfold Zn; omega) (by unfold Isk Inx; omega)
  have stay : OuQ T FN S t w XC σ1 σ2 r1.2 r2.2 → r1.1 = -1 → T2 (fun k => ob (x_goOnBehind k 0 (upd (fun _ => 0) 1 r1.1) r1.2) (fun r2 => some (0, r2.2))) (fun k => ob (x_goOnBehind k 0 (upd (fun _ => 0) 1 r2.1) r2.2) (fun r2 => some (0, r2.2))) (fun r1 r2 => OuQ T FN S t w XC σ1 σ2 r1.2 r2.2) := fun h z => by
    refine T2_ob (T2_t (s_gobM (by exact z)) (s_gobM (by exact a1.symm.trans z))) (fun s1 s2 hs => ?_)
    rw [hs.1, hs.2]
    exact T2_some h
  rcases a6 with ⟨z1, z7, w2, hw2, hK, k0, k2', k3', k4'⟩ | ⟨z1, w2, hw2, hK, k2', k3', k4'⟩ | ⟨z1, z2, z3⟩
  · obtain ⟨b, vb, xb, hSb, hvb, ub⟩ := f5.resolve_left z7
    have hD := LVs_dn n7 lv' ub hSb
    rw [if_pos hk] at hD
    have es : suI T (n :: F) = suI T F + itn T n := Nat.add_comm _ _
    refine stay (Or.inl ⟨w2, by omega, Mid_fc hM3 a2 a3 hK a4 a5, Or.inl ⟨c, un, d + 1, vb, b, n :: F, ⟨h1, c11, LVs_c h1 lc hD, k2', FSk_c (by show F.length + 1 ≤ 1050; omega) fk ⟨⟨n7, sA, sB⟩, hF' F (Nat.le_refl _) hF⟩, by rw [es]; exact k3', by rw [es]; exact k4'⟩, k0.trans xb⟩⟩) z1
  · refine T2_ob (E_goOnBehind hW hXC ht (Nat.le_trans hw hw2) (Mid_fc hM3 a2 a3 hK a4 a5) ⟨h1, c11, LVs_c h1 lc lv', k2', FSk_c (by omega) fk (hF' F (Nat.le_refl _) hF), k3', k4'⟩ (by exact z1) (by exact a1.symm.trans z1)) (fun s1 s2 hs => T2_some hs)
  · exact stay (OuQ_z hM3 a2 a3 a4 a5 (by omega) z2 z3) z1
end WHF

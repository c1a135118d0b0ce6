/-! Two runs side by side (reference): strings, joined, plus (made by j2.py). -/
section KJO
variable {g1 g2 : Nat → Prop} {l1 l2 : List Nat} {B1 h1 B2 h2 n : Nat} {σ1 σ2 : MS}
theorem k_stringOf51 {f1 f2 w : Nat} (hS1 : HS g1 l1 B1 h1 σ1) (hS2 : HS g2 l2 B2 h2 σ2) (e1 : σ1.1 56 = 0) (e2 : σ2.1 56 = 0) (hr1 : h1 + 4004 ≤ B1 + 870000) (hr2 : h2 + 4004 ≤ B2 + 870000) (hw : w ≤ 60000) (q1 : w ≤ 3996 → f1 + w ≤ 8200) (q2 : w ≤ 3996 → f2 + w ≤ 8200) (hc : ∀ i, i < w → σ1.2.2 51 (f1 + i) = σ2.2.2 51 (f2 + i)) {L1 L2 : Nat → Int32} (d1 : L1 2 = nI f1) (d2 : L2 2 = nI f2) (d3 : L1 3 = nI w) (d4 : L2 3 = nI w) : Pm n (fun k => x_stringOf__51 k 0 L1 σ1) (fun k => x_stringOf__51 k 0 L2 σ2) (KQ h1 h2 4004) := by
  have hb1 := HS_b hS1
  have hb2 := HS_b hS2
  have x1 := hS1.2.1
  have x2 := hS2.2.1
  by_cases hn : w ≤ 3996
  · refine Pm_mono (Pm_u2 (u_stringOf51 hS1 e1 hn (by omega) (q1 hn) d1 d3) (u_stringOf51 hS2 e2 hn (by omega) (q2 hn) d2 d4)) (fun r1 r2 hr => ?_)
    exact NwO_ev (by omega) hn (by omega) (by omega) (by omega) (by omega) (by omega) hr.1 hr.2 hc
  · refine Pm_mono (Pm_u2 (v_stringOf51 hn hw d3) (v_stringOf51 hn hw d4)) (fun r1 r2 hr => ?_)
    rw [hr.1, hr.2]
    exact KQ_er (mEr_e (by decide)) (mEr_e (by decide)) ((mEr_s (by decide)).trans hS1.2.2.1) ((mEr_s (by decide)).trans hS2.2.2.1)
theorem k_stringOf48 {f1 f2 w : Nat} (hS1 : HS g1 l1 B1 h1 σ1) (hS2 : HS g2 l2 B2 h2 σ2) (e1 : σ1.1 56 = 0) (e2 : σ2.1 56 = 0) (hr1 : h1 + 4004 ≤ B1 + 870000) (hr2 : h2 + 4004 ≤ B2 + 870000) (hw : w ≤ 60000) (q1 : w ≤ 3996 → f1 + w ≤ 12000) (q2 : w ≤ 3996 → f2 + w ≤ 12000) (hc : ∀ i, i < w → σ1.2.2 48 (f1 + i) = σ2.2.2 48 (f2 + i)) {L1 L2 : Nat → Int32} (d1 : L1 2 = nI f1) (d2 : L2 2 = nI f2) (d3 : L1 3 = nI w) (d4 : L2 3 = nI w) : Pm n (fun k => x_stringOf__48 k 0 L1 σ1) (fun k => x_stringOf__48 k 0 L2 σ2) (KQ h1 h2 4004) := by
  have hb1 := HS_b hS1
  have hb2 := HS_b hS2
  have x1 := hS1.2.1
  have x2 := hS2.2.1
  by_cases hn : w ≤ 3996
  · refine Pm_mono (Pm_u2 (u_stringOf48 hS1 e1 hn (by omega) (q1 hn) d1 d3) (u_stringOf48 hS2 e2 hn (by omega) (q2 hn) d2 d4)) (fun r1 r2 hr => ?_)
    exact NwO_ev (by omega) hn (by omega) (by omega) (by omega) (by omega) (by omega) hr.1 hr.2 hc
  · refine Pm_mono (Pm_u2 (v_stringOf48 hn hw d3) (v_stringOf48 hn hw d4)) (fun r1 r2 hr => ?_)
    rw [hr.1, hr.2]
    exact KQ_er (mEr_e (by decide)) (mEr_e (by decide)) ((mEr_s (by decide)).trans hS1.2.2.1) ((mEr_s (by decide)).trans hS2.2.2.1)
theorem k_stringOf28 {f1 f2 w : Nat} (hS1 : HS g1 l1 B1 h1 σ1) (hS2 : HS g2 l2 B2 h2 σ2) (e1 : σ1.1 56 = 0) (e2 : σ2.1 56 = 0) (hr1 : h1 + 4004 ≤ B1 + 870000) (hr2 : h2 + 4004 ≤ B2 + 870000) (hw : w ≤ 60000) (q1 : w ≤ 3996 → f1 + w ≤ h1) (q2 : w ≤ 3996 → f2 + w ≤ h2) (hc : ∀ i, i < w → σ1.2.2 28 (f1 + i) = σ2.2.2 28 (f2 + i)) {L1 L2 : Nat → Int32} (d1 : L1 2 = nI f1) (d2 : L2 2 = nI f2) (d3 : L1 3 = nI w) (d4 : L2 3 = nI w) : Pm n (fun k => x_stringOf__28 k 0 L1 σ1) (fun k => x_stringOf__28 k 0 L2 σ2) (KQ h1 h2 4004) := by
  have hb1 := HS_b hS1
  have hb2 := HS_b hS2
  have x1 := hS1.2.1
  have x2 := hS2.2.1
  by_cases hn : w ≤ 3996
  · refine Pm_mono (Pm_u2 (u_stringOf28 hS1 e1 hn (by omega) (q1 hn) d1 d3) (u_stringOf28 hS2 e2 hn (by omega) (q2 hn) d2 d4)) (fun r1 r2 hr => ?_)
    exact NwO_ev (by omega) hn (by omega) (by omega) (by omega) (by omega) (by omega) hr.1 hr.2 hc
  · refine Pm_mono (Pm_u2 (v_stringOf28 hn hw d3) (v_stringOf28 hn hw d4)) (fun r1 r2 hr => ?_)
    rw [hr.1, hr.2]
    exact KQ_er (mEr_e (by decide)) (mEr_e (by decide)) ((mEr_s (by decide)).trans hS1.2.2.1) ((mEr_s (by decide)).trans hS2.2.2.1)
theorem k_stringOf12 {f1 f2 w : Nat} (hS1 : HS g1 l1 B1 h1 σ1) (hS2 : HS g2 l2 B2 h2 σ2) (e1 : σ1.1 56 = 0) (e2 : σ2.1 56 = 0) (hr1 : h1 + 4004 ≤ B1 + 870000) (hr2 : h2 + 4004 ≤ B2 + 870000) (hw : w ≤ 60000) (q1 : w ≤ 3996 → f1 + w ≤ 70000) (q2 : w ≤ 3996 → f2 + w ≤ 70000) (hc : ∀ i, i < w → σ1.2.2 12 (f1 + i) = σ2.2.2 12 (f2 + i)) {L1 L2 : Nat → Int32} (d1 : L1 2 = nI f1) (d2 : L2 2 = nI f2) (d3 : L1 3 = nI w) (d4 : L2 3 = nI w) : Pm n (fun k => x_stringOf__12 k 0 L1 σ1) (fun k => x_stringOf__12 k 0 L2 σ2) (KQ h1 h2 4004) := by
  have hb1 := HS_b hS1
  have hb2 := HS_b hS2
  have x1 := hS1.2.1
  have x2 := hS2.2.1
  by_cases hn : w ≤ 3996
  · refine Pm_mono (Pm_u2 (u_stringOf12 hS1 e1 hn (by omega) (q1 hn) d1 d3) (u_stringOf12 hS2 e2 hn (by omega) (q2 hn) d2 d4)) (fun r1 r2 hr => ?_)
    exact NwO_ev (by omega) hn (by omega) (by omega) (by omega) (by omega) (by omega) hr.1 hr.2 hc
  · refine Pm_mono (Pm_u2 (v_stringOf12 hn hw d3) (v_stringOf12 hn hw d4)) (fun r1 r2 hr => ?_)
    rw [hr.1, hr.2]
    exact KQ_er (mEr_e (by decide)) (mEr_e (by decide)) ((mEr_s (by decide)).trans hS1.2.2.1) ((mEr_s (by decide)).trans hS2.2.2.1)
theorem k_er {e : Int32} {K : Nat} (he : ¬ e = 0) (hS1 : HS g1 l1 B1 h1 σ1) (hS2 : HS g2 l2 B2 h2 σ2) : KQ h1 h2 K (0, mEr σ1 e) (0, mEr σ2 e) := KQ_er (mEr_e he) (mEr_e he) ((mEr_s (by decide)).trans hS1.2.2.1) ((mEr_s (by decide)).trans hS2.2.2.1)
theorem k_wrongKind {K : Nat} (hS1 : HS g1 l1 B1 h1 σ1) (hS2 : HS g2 l2 B2 h2 σ2) (L1 L2 : Nat → Int32) : Pm n (fun k => x_wrongKind k 0 L1 σ1) (fun k => x_wrongKind k 0 L2 σ2) (KQ h1 h2 K) :=
  Pm_mono (Pm_t2 (s_wrongKind L1) (fun k => f_wrongKind k _ _ _) (s_wrongKind L2) (fun k => f_wrongKind k _ _ _)) (fun r1 r2 hr => by rw [hr.1, hr.2]; exact k_er (by decide) hS1 hS2)
theorem k_fail {K : Nat} {e : Int32} (he : ¬ e = 0) (hS1 : HS g1 l1 B1 h1 σ1) (hS2 : HS g2 l2 B2 h2 σ2) {L1 L2 : Nat → Int32} (d1 : L1 1 = e) (d2 : L2 1 = e) : Pm n (fun k => x_fail k 0 L1 σ1) (fun k => x_fail k 0 L2 σ2) (fun r1 r2 => r1 = (0, mEr σ1 e) ∧ r2 = (0, mEr σ2 e) ∧ KQ h1 h2 K (0, mEr σ1 e) (0, mEr σ2 e)) :=
  Pm_mono (Pm_t2 (s_fail L1 σ1) (fun k => f_fail k _ _ _) (s_fail L2 σ2) (fun k => f_fail k _ _ _)) (fun r1 r2 hr => ⟨by rw [hr.1, d1], by rw [hr.2, d2], k_er he hS1 hS2⟩)
theorem k_joined {a1 a2 p b1 b2 q : Nat} (hS1 : HS g1 l1 B1 h1 σ1) (hS2 : HS g2 l2 B2 h2 σ2) (e1 : σ1.1 56 = 0) (e2 : σ2.1 56 = 0) (hr1 : h1 + 4004 ≤ B1 + 870000) (hr2 : h2 + 4004 ≤ B2 + 870000) (hA : OE g1 g2 (σ1.2.2 28) (σ2.2.2 28) a1 a2 4 p) (hB : OE g1 g2 (σ1.2.2 28) (σ2.2.2 28) b1 b2 4 q) {L1 L2 : Nat → Int32} (d1 : L1 1 = nI a1) (d2 : L1 2 = nI b1) (f1 : L2 1 = nI a2) (f2 : L2 2 = nI b2) (hL : LE3 L1 L2) : Pm n (fun k => x_joined k 0 L1 σ1) (fun k => x_joined k 0 L2 σ2) (KQ h1 h2 4004) := by
  obtain ⟨_, _, _, _, _, o6, _, _, _, _, o11, o12, o13, o14, _, _, o17⟩ := hA
  obtain ⟨_, _, _, _, _, p6, _, _, _, _, p11, p12, p13, p14, _, _, p17⟩ := hB
  have ca := o17 (by decide)
  have cb := p17 (by decide)
  have b4 : ∀ (m i : Nat) (N1 N2 : Nat → Int32) (τ1 τ2 : MS), i ≤ q → LE3 N1 N2 → N1 2 = nI b1 → N2 2 = nI b2 → N1 3 = nI p → N1 4 = nI q → N1 5 = nI i → (∀ j, τ1.1 j = σ1.1 j) → (∀ j, τ2.1 j = σ2.1 j) → (∀ j, j ≠ 51 → τ1.2.2 j = σ1.2.2 j) → (∀ j, j ≠ 51 → τ2.2.2 j = σ2.2.2 j) → AgN (τ1.2.2 51) (τ2.2.2 51) (p + i) → Pm m (fun k => x_joined k 4 N1 τ1) (fun k => x_joined k 4 N2 τ2) (KQ h1 h2 4004) := by
    intro m
    induction m using Nat.strongRecOn with
    | ind m ih =>
    intro i N1 N2 τ1 τ2 hi hN x2 y2 x3 x4 x5 s1 s2 t1 t2 hC
    have y3 : N2 3 = nI p := (hN 3 (by omega)).symm.trans x3
    have y4 : N2 4 = nI q := (hN 4 (by omega)).symm.trans x4
    have y5 : N2 5 = nI i := (hN 5 (by omega)).symm.trans x5
    refine Pm_suc rfl (fun k => by rw [x_joined]) (fun k => by rw [x_joined]) (fun k1 hk1 => ?_)
    rw [x2, y2, x3, y3, x4, y4, x5, y5, show nI b1 + 4 = nI (b1 + 4) from n_add (q := 4) (by omega), show nI b2 + 4 = nI (b2 + 4) from n_add (q := 4) (by omega), n_add (p := b1 + 4) (by omega), n_add (p := b2 + 4) (by omega), n_add (p := p) (by omega), n_cl (p := b1 + 4 + i) (by omega), n_cl (p := b2 + 4 + i) (by omega), n_cl (p := p + i) (by omega)]
    refine Pm_ite Iff.rfl (fun y _ => ?_) (fun y _ => ?_)
    · have y := (n_le (by omega) (by omega)).mp y
      have e : i = q := by omega
      rw [e] at hC
      refine Pm_suc rfl (fun k => by rw [x_joined]) (fun k => by rw [x_joined]) (fun k2 hk2 => ?_)
      rw [x3, y3, x4, y4, n_add (by omega)]
      exact Pm_ob (k_stringOf51 (f1 := 0) (f2 := 0) (w := p + q) (HS_c hS1 (s1 54) (s1 55) (t1 28 (by decide))) (HS_c hS2 (s2 54) (s2 55) (t2 28 (by decide))) ((s1 56).trans e1) ((s2 56).trans e2) hr1 hr2 (by omega) (fun _ => by omega) (fun _ => by omega) (fun i hi => by rw [Nat.zero_add]; exact hC i hi) rfl rfl rfl rfl) (fun r1 r2 hr => Pm_some hr)
    have hiq : i < q := by
      by_cases e : q ≤ i
      · exact absurd ((n_le (by omega) (by omega)).mpr e) y
      · omega
    refine Pm_chk (fun _ _ => ?_)
    refine Pm_chk (fun _ _ => ?_)
    show Pm k1 (fun k => x_joined k 5 N1 (mAr τ1 51 (p + i) (τ1.2.2 28 (b1 + 4 + i)))) (fun k => x_joined k 5 N2 (mAr τ2 51 (p + i) (τ2.2.2 28 (b2 + 4 + i)))) _
    refine Pm_suc rfl (fun k => by rw [x_joined]) (fun k => by rw [x_joined]) (fun k2 hk2 => ?_)
    refine ih k2 (by omega) (i + 1) _ _ _ _ (by omega) (LE_u hN (by rw [x5, y5])) x2 y2 x3 x4 (by show N1 5 + 1 = _; rw [x5, n_add1]) s1 s2 (fun j hj => (mAr_o hj).trans (t1 j hj)) (fun j hj => (mAr_o hj).trans (t2 j hj)) ?_
    rw [mAr_s, mAr_s]
    exact AgN_up hC (by rw [t1 28 (by decide), t2 28 (by decide)]; exact (cb i hiq).symm)
  have b1' : ∀ (m i : Nat) (N1 N2 : Nat → Int32) (τ1 τ2 : MS), i ≤ p → LE3 N1 N2 → N1 1 = nI a1 → N2 1 = nI a2 → N1 2 = nI b1 → N2 2 = nI b2 → N1 3 = nI p → N1 4 = nI q → N1 5 = nI i → (∀ j, τ1.1 j = σ1.1 j) → (∀ j, τ2.1 j = σ2.1 j) → (∀ j, j ≠ 51 → τ1.2.2 j = σ1.2.2 j) → (∀ j, j ≠ 51 → τ2.2.2 j = σ2.2.2 j) → AgN (τ1.2.2 51) (τ2.2.2 51) i → Pm m (fun k => x_joined k 1 N1 τ1) (fun k => x_joined k 1 N2 τ2) (KQ h1 h2 4004) := by
    intro m
    induction m using Nat.strongRecOn with
    | ind m ih =>
    intro i N1 N2 τ1 τ2 hi hN x1 y1 x2 y2 x3 x4 x5 s1 s2 t1 t2 hC
    have y3 : N2 3 = nI p := (hN 3 (by omega)).symm.trans x3
    have y5 : N2 5 = nI i := (hN 5 (by omega)).symm.trans x5
    refine Pm_suc rfl (fun k => by rw [x_joined]) (fun k => by rw [x_joined]) (fun k1 hk1 => ?_)
    rw [x1, y1, x3, y3, x5, y5, show nI a1 + 4 = nI (a1 + 4) from n_add (q := 4) (by omega), show nI a2 + 4 = nI (a2 + 4) from n_add (q := 4) (by omega), n_add (p := a1 + 4) (by omega), n_add (p := a2 + 4) (by omega), n_cl (p := a1 + 4 + i) (by omega), n_cl (p := a2 + 4 + i) (by omega), n_cl (p := i) (by omega)]
    refine Pm_ite Iff.rfl (fun y _ => ?_) (fun y _ => ?_)
    · have y := (n_le (by omega) (by omega)).mp y
      have e : i = p := by omega
      rw [e] at hC
      refine Pm_suc rfl (fun k => by rw [x_joined]) (fun k => by rw [x_joined]) (fun k2 hk2 => ?_)
      exact b4 k2 0 _ _ _ _ (Nat.zero_le _) (LE_u hN rfl) x2 y2 x3 x4 rfl s1 s2 t1 t2 hC
    have hip : i < p := by
      by_cases e : p ≤ i
      · exact absurd ((n_le (by omega) (by omega)).mpr e) y
      · omega
    refine Pm_chk (fun _ _ => ?_)
    refine Pm_chk (fun _ _ => ?_)
    show Pm k1 (fun k => x_joined k 2 N1 (mAr τ1 51 i (τ1.2.2 28 (a1 + 4 + i)))) (fun k => x_joined k 2 N2 (mAr τ2 51 i (τ2.2.2 28 (a2 + 4 + i)))) _
    refine Pm_suc rfl (fun k => by rw [x_joined]) (fun k => by rw [x_joined]) (fun k2 hk2 => ?_)
    refine ih k2 (by omega) (i + 1) _ _ _ _ (by omega) (LE_u hN (by rw [x5, y5])) x1 y1 x2 y2 x3 x4 (by show N1 5 + 1 = _; rw [x5, n_add1]) s1 s2 (fun j hj => (mAr_o hj).trans (t1 j hj)) (fun j hj => (mAr_o hj).trans (t2 j hj)) ?_
    rw [mAr_s, mAr_s]
    exact AgN_up hC (by rw [t1 28 (by decide), t2 28 (by decide)]; exact (ca i hip).symm)
  refine Pm_suc rfl (fun k => by rw [x_joined]) (fun k => by rw [x_joined]) (fun m1 _ => ?_)
  rw [d1, d2, f1, f2, n_add1, n_add1, n_add1, n_add1, n_cl (p := a1 + 1) (by omega), n_cl (p := a2 + 1) (by omega), n_cl (p := b1 + 1) (by omega), n_cl (p := b2 + 1) (by omega), o11, o12, p11, p12]
  refine Pm_chk (fun _ _ => ?_)
  refine Pm_chk (fun _ _ => ?_)
  exact b1' m1 0 _ _ _ _ (Nat.zero_le _) (LE_u (LE_u (LE_u hL rfl) rfl) rfl) d1 f1 d2 f2 rfl rfl rfl (fun _ => rfl) (fun _ => rfl) (fun _ _ => rfl) (fun _ _ => rfl) (fun i hi => absurd hi (Nat.not_lt_zero i))
theorem k_plus {f a1 a2 b1 b2 : Nat} (hS1 : HS g1 l1 B1 h1 σ1) (hS2 : HS g2 l2 B2 h2 σ2) (e1 : σ1.1 56 = 0) (e2 : σ2.1 56 = 0) (t1 : σ1.1 59 = nI f) (t2 : σ2.1 59 = nI f) (hf : f ≤ 177000) (hr1 : h1 + 8004 ≤ B1 + 870000) (hr2 : h2 + 8004 ≤ B2 + 870000) (ha1 : a1 < 3 ∨ g1 a1) (ha2 : a2 < 3 ∨ g2 a2) (va : EVb (σ1.2.2 28) (σ2.2.2 28) a1 a2) (hb1 : b1 < 3 ∨ g1 b1) (hb2 : b2 < 3 ∨ g2 b2) (vb : EVb (σ1.2.2 28) (σ2.2.2 28) b1 b2) {L1 L2 : Nat → Int32} (d1 : L1 1 = nI a1) (d2 : L1 2 = nI b1) (f1 : L2 1 = nI a2) (f2 : L2 2 = nI b2) (hL : LE3 L1 L2) : Pm n (fun k => x_plus k 0 L1 σ1) (fun k => x_plus k 0 L2 σ2) (KQ h1 h2 8004) := by
  have ka := kdN_6 hS1 ha1
  have kb := kdN_6 hS1 hb1
  have b1' : ∀ (m : Nat) (N1 N2 : Nat → Int32), Pm m (fun k => x_plus k 1 N1 σ1) (fun k => x_plus k 1 N2 σ2) (KQ h1 h2 8004) := fun m N1 N2 => by
    refine Pm_suc rfl (fun k => by rw [x_plus]) (fun k => by rw [x_plus]) (fun m1 _ => ?_)
    exact Pm_ob (k_wrongKind hS1 hS2 _ _) (fun r1 r2 hr => Pm_some hr)
  -- rows
  have b4 : kdN (σ1.2.2 28) b1 = kdN (σ1.2.2 28) a1 → 5 ≤ kdN (σ1.2.2 28) a1 → ∀ (m : Nat) (N1 N2 : Nat → Int32), LE3 N1 N2 → N1 1 = nI a1 → N1 2 = nI b1 → N2 1 = nI a2 → N2 2 = nI b2 → Pm m (fun k => x_plus k 4 N1 σ1) (fun k => x_plus k 4 N2 σ2) (KQ h1 h2 8004) := by
    intro hkk h5 m N1 N2 hN x1 x2 y1 y2
    obtain ⟨k, p, hA⟩ := OE_of hS1 hS2 (kdN_ge hS1 ha1 (by omega)) ha2 va
    obtain ⟨k', q, hB⟩ := OE_of hS1 hS2 (kdN_ge hS1 hb1 (by omega)) hb2 vb
    obtain ⟨_, _, _, _, _, o6, o7, _, _, _, o11, o12, o13, o14, _, o16, _⟩ := hA
    obtain ⟨_, _, _, _, _, p6, p7, _, _, _, p11, p12, p13, p14, _, p16, _⟩ := hB
    have ca := o16 (by omega)
    have cb := p16 (by omega)
    have fin : ∀ (m' w : Nat) (M1 M2 : Nat → Int32) (τ1 τ2 : MS), w ≤ 7992 → LE3 M1 M2 → M1 4 = nI f → KPu g1 g2 f w σ1 σ2 τ1 τ2 → Pm m' (fun k => x_plus k 8 M1 τ1) (fun k => x_plus k 8 M2 τ2) (KQ h1 h2 8004) := by
      intro m' w M1 M2 τ1 τ2 hw hM z4 hK
      have w4 : M2 4 = nI f := (hM 4 (by omega)).symm.trans z4
      have b10 : ∀ (m2 : Nat) (O1 O2 : Nat → Int32) (r1 r2 : Int32 × MS), O1 100 = r1.1 → O2 100 = r2.1 → KQ h1 h2 8004 r1 r2 → Pm m2 (fun k => x_plus k 10 O1 r1.2) (fun k => x_plus k 10 O2 r2.2) (KQ h1 h2 8004) := fun m2 O1 O2 r1 r2 u1 u2 hr => by
        refine Pm_suc rfl (fun k => by rw [x_plus]) (fun k => by rw [x_plus]) (fun m3 _ => ?_)
        rw [u1, u2]
        exact Pm_some hr
      refine Pm_suc rfl (fun k => by rw [x_plus]) (fun k => by rw [x_plus]) (fun k1 hk1 => ?_)
      refine Pm_ite (by rw [hM 3 (by omega)]) (fun _ _ => ?_) (fun _ _ => ?_)
      · exact Pm_ob (k_setP hK hS1 hS2 e1 e2 (by omega) (by omega) (by omega) (by omega) (by exact z4) (by exact w4)) (fun r1 r2 hr => b10 k1 _ _ r1 r2 rfl rfl (KQ_mo hr (by omega)))
      · refine Pm_suc rfl (fun k => by rw [x_plus]) (fun k => by rw [x_plus]) (fun k2 hk2 => ?_)
        exact Pm_ob (k_tupP hK hS1 hS2 e1 e2 (by omega) (by omega) (by omega) (by exact z4) (by exact w4)) (fun r1 r2 hr => b10 k2 _ _ r1 r2 rfl rfl (KQ_mo hr (by omega)))
    have b7 : ∀ (m' i : Nat) (M1 M2 : Nat → Int32) (τ1 τ2 : MS), i ≤ q → LE3 M1 M2 → M1 2 = nI b1 → M2 2 = nI b2 → M1 4 = nI f → M1 5 = nI i → KPu g1 g2 f (p + i) σ1 σ2 τ1 τ2 → Pm m' (fun k => x_plus k 7 M1 τ1) (fun k => x_plus k 7 M2 τ2) (KQ h1 h2 8004) := by
      intro m'
      induction m' using Nat.strongRecOn with
      | ind m' ih =>
      intro i M1 M2 τ1 τ2 hi hM z2 w2 z4 z5 hK
      have w5 : M2 5 = nI i := (hM 5 (by omega)).symm.trans z5
      have a28 : τ1.2.2 28 = σ1.2.2 28 := hK.1.2.1 28 (by decide)
      have b28 : τ2.2.2 28 = σ2.2.2 28 := hK.2.1.2.1 28 (by decide)
      refine Pm_suc rfl (fun k => by rw [x_plus]) (fun k => by rw [x_plus]) (fun k1 hk1 => ?_)
      rw [z2, w2, z5, w5, n_add1 b1, n_add1 b2, n_cl (p := b1 + 1) (by omega), n_cl (p := b2 + 1) (by omega), a28, b28, p11, p12, show nI b1 + 4 = nI (b1 + 4) from n_add (q := 4) (by omega), show nI b2 + 4 = nI (b2 + 4) from n_add (q := 4) (by omega), n_add (p := b1 + 4) (by omega), n_add (p := b2 + 4) (by omega), n_cl (p := b1 + 4 + i) (by omega), n_cl (p := b2 + 4 + i) (by omega)]
      refine Pm_chk (fun _ _ => ?_)
      refine Pm_ite Iff.rfl (fun _ _ => fin k1 (p + i) _ _ _ _ (by omega) hM z4 hK) (fun y _ => ?_)
      have hiq : i < q := by
        by_cases e : q ≤ i
        · exact absurd ((n_le (by omega) (by omega)).mpr e) y
        · omega
      refine Pm_chk (fun _ _ => ?_)
      exact Pm_ob (k_push hK (by omega) (cb i hiq) rfl rfl) (fun r1 r2 hr => ih k1 (by omega) (i + 1) _ _ _ _ (by omega) (LE_u hM rfl) z2 w2 z4 (by show nI i + 1 = _; rw [n_add1]) hr)
    have b5 : ∀ (m' i : Nat) (M1 M2 : Nat → Int32) (τ1 τ2 : MS), i ≤ p → LE3 M1 M2 → M1 1 = nI a1 → M2 1 = nI a2 → M1 2 = nI b1 → M2 2 = nI b2 → M1 4 = nI f → M1 5 = nI i → KPu g1 g2 f i σ1 σ2 τ1 τ2 → Pm m' (fun k => x_plus k 5 M1 τ1) (fun k => x_plus k 5 M2 τ2) (KQ h1 h2 8004) := by
      intro m'
      induction m' using Nat.strongRecOn with
      | ind m' ih =>
      intro i M1 M2 τ1 τ2 hi hM z1 w1 z2 w2 z4 z5 hK
      have w5 : M2 5 = nI i := (hM 5 (by omega)).symm.trans z5
      have a28 : τ1.2.2 28 = σ1.2.2 28 := hK.1.2.1 28 (by decide)
      have b28 : τ2.2.2 28 = σ2.2.2 28 := hK.2.1.2.1 28 (by decide)
      refine Pm_suc rfl (fun k => by rw [x_plus]) (fun k => by rw [x_plus]) (fun k1 hk1 => ?_)
      rw [z1, w1, z5, w5, n_add1 a1, n_add1 a2, n_cl (p := a1 + 1) (by omega), n_cl (p := a2 + 1) (by omega), a28, b28, o11, o12, show nI a1 + 4 = nI (a1 + 4) from n_add (q := 4) (by omega), show nI a2 + 4 = nI (a2 + 4) from n_add (q := 4) (by omega), n_add (p := a1 + 4) (by omega), n_add (p := a2 + 4) (by omega), n_cl (p := a1 + 4 + i) (by omega), n_cl (p := a2 + 4 + i) (by omega)]
      refine Pm_chk (fun _ _ => ?_)
      refine Pm_ite Iff.rfl (fun y _ => ?_) (fun y _ => ?_)
      · have y := (n_le (by omega) (by omega)).mp y
        have e : i = p := by omega
        rw [e] at hK
        refine Pm_suc rfl (fun k => by rw [x_plus]) (fun k => by rw [x_plus]) (fun k2 hk2 => ?_)
        exact b7 k2 0 _ _ _ _ (Nat.zero_le _) (LE_u hM rfl) z2 w2 z4 rfl hK
      have hip : i < p := by
        by_cases e : p ≤ i
        · exact absurd ((n_le (by omega) (by omega)).mpr e) y
        · omega
      refine Pm_chk (fun _ _ => ?_)
      exact Pm_ob (k_push hK (by omega) (ca i hip) rfl rfl) (fun r1 r2 hr => ih k1 (by omega) (i + 1) _ _ _ _ (by omega) (LE_u hM rfl) z1 w1 z2 w2 z4 (by show nI i + 1 = _; rw [n_add1]) hr)
    refine Pm_suc rfl (fun k => by rw [x_plus]) (fun k => by rw [x_plus]) (fun m1 _ => ?_)
    rw [t1, t2]
    exact b5 m1 0 _ _ _ _ (Nat.zero_le _) (LE_u (LE_u hN rfl) rfl) x1 y1 x2 y2 rfl rfl (KPu_0 t1 t2)
  have b2 : kdN (σ1.2.2 28) b1 = kdN (σ1.2.2 28) a1 → (kdN (σ1.2.2 28) a1 = 2 ∨ 4 ≤ kdN (σ1.2.2 28) a1) → ∀ (m : Nat) (N1 N2 : Nat → Int32), LE3 N1 N2 → N1 1 = nI a1 → N1 2 = nI b1 → N2 1 = nI a2 → N2 2 = nI b2 → N1 3 = nI (kdN (σ1.2.2 28) a1) → Pm m (fun k => x_plus k 2 N1 σ1) (fun k => x_plus k 2 N2 σ2) (KQ h1 h2 8004) := by
    intro hkk hor m N1 N2 hN x1 x2 y1 y2 x3
    have y3 : N2 3 = nI (kdN (σ1.2.2 28) a1) := (hN 3 (by omega)).symm.trans x3
    refine Pm_suc rfl (fun k => by rw [x_plus]) (fun k => by rw [x_plus]) (fun m1 _ => ?_)
    rw [x3, y3]
    refine Pm_ite Iff.rfl (fun z _ => ?_) (fun z _ => ?_)
    · have z := (n_eq (q := 2) (by omega) (by decide)).mp z
      obtain ⟨p, hA⟩ := WhE_of hS1 hS2 ha1 ha2 va z
      obtain ⟨q, hB⟩ := WhE_of hS1 hS2 hb1 hb2 vb (by omega)
      refine Pm_ob (k_add hS1 hS2 e1 e2 (by omega) (by omega) hA hB (by exact x1) (by exact x2) (by exact y1) (by exact y2) (fun i hi => ?_)) (fun r1 r2 hr => Pm_some (KQ_mo hr (by omega)))
      by_cases e : i = 3
      · rw [e]; rfl
      · rw [upd_other e, upd_other (by omega), upd_other (by omega), upd_other e, upd_other (by omega), upd_other (by omega)]
    · refine Pm_suc rfl (fun k => by rw [x_plus]) (fun k => by rw [x_plus]) (fun m2 _ => ?_)
      rw [x3, y3]
      refine Pm_ite Iff.rfl (fun z4 _ => ?_) (fun z4 _ => ?_)
      · have z4 := (n_eq (q := 4) (by omega) (by decide)).mp z4
        obtain ⟨k, p, hA⟩ := OE_of hS1 hS2 (kdN_ge hS1 ha1 (by omega)) ha2 va
        obtain ⟨k', q, hB⟩ := OE_of hS1 hS2 (kdN_ge hS1 hb1 (by omega)) hb2 vb
        have ek : k = 4 := by have := hA.2.2.2.2.2.2.1; omega
        have ek' : k' = 4 := by have := hB.2.2.2.2.2.2.1; omega
        subst ek
        subst ek'
        refine Pm_ob (k_joined hS1 hS2 e1 e2 (by omega) (by omega) hA hB (by exact x1) (by exact x2) (by exact y1) (by exact y2) (fun i hi => ?_)) (fun r1 r2 hr => Pm_some (KQ_mo hr (by omega)))
        rw [upd_other (by omega), upd_other (by omega), upd_other (by omega), upd_other (by omega)]
      · have n2 : ¬ kdN (σ1.2.2 28) a1 = 2 := fun e => z (by rw [e]; rfl)
        have n4 : ¬ kdN (σ1.2.2 28) a1 = 4 := fun e => z4 (by rw [e]; rfl)
        exact b4 hkk (by omega) m2 _ _ hN x1 x2 y1 y2
  refine Pm_suc rfl (fun k => by rw [x_plus]) (fun k => by rw [x_plus]) (fun m1 _ => ?_)
  refine Pm_ob (Pm_t2 (s_kind hS1 ha1 (by exact d1)) (fun k => f_kind k _ _ _) (s_kind hS2 ha2 (by exact f1)) (fun k => f_kind k _ _ _)) (fun r1 r2 hr => ?_)
  rw [hr.1, hr.2]
  refine Pm_ob (Pm_t2 (s_kind hS1 hb1 (by exact d2)) (fun k => f_kind k _ _ _) (s_kind hS2 hb2 (by exact f2)) (fun k => f_kind k _ _ _)) (fun s1 s2 hs => ?_)
  rw [hs.1, hs.2, (EVb_sz va).2.2, (EVb_sz vb).2.2]
  have hL3 : LE3 (upd L1 3 (nI (kdN (σ1.2.2 28) a1))) (upd L2 3 (nI (kdN (σ1.2.2 28) a1))) := LE_u hL rfl
  refine Pm_ite Iff.rfl (fun z _ => ?_) (fun _ _ => b1' m1 _ _)
  have z := (n_eq (by omega) (by omega)).mp z
  refine Pm_ite Iff.rfl (fun q _ => ?_) (fun q _ => ?_)
  · have q := (n_eq (q := 2) (by omega) (by decide)).mp q
    exact b2 z.symm (Or.inl q) m1 _ _ hL3 d1 d2 f1 f2 rfl
  refine Pm_ite Iff.rfl (fun q _ => ?_) (fun _ _ => b1' m1 _ _)
  have q := (n_le (p := 4) (by decide) (by omega)).mp q
  exact b2 z.symm (Or.inr q) m1 _ _ hL3 d1 d2 f1 f2 rfl
end KJO

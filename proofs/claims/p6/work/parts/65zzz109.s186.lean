/-! Two runs side by side (reference): values upon the pile while the heaps grow; power sets. -/
section KPO
variable {g1 g2 g1' g2' g1'' g2'' : Nat → Prop} {l1 l2 l1' l2' l1'' l2'' : List Nat} {B1 h1 B2 h2 h1' h2' h1'' h2'' n : Nat} {σ1 σ2 τ1 τ2 : MS}
theorem VC_g2 (hS1 : HS g1 l1 B1 h1 σ1) (hS2 : HS g2 l2 B2 h2 σ2) (a1 : HG g1 B1 h1 σ1 τ1 g1' l1' h1') (a2 : HG g2 B2 h2 σ2 τ2 g2' l2' h2') {x y : Int32} (h : VC g1 g2 (σ1.2.2 28) (σ2.2.2 28) x y) : VC g1' g2' (τ1.2.2 28) (τ2.2.2 28) x y := by
  obtain ⟨m, m', e1, e2, e3, e4, e5, e6, e7⟩ := h
  exact ⟨m, m', e1, e2.imp id (a1.2.1 m), e3, e4.imp id (a2.2.1 m'), EVb_g2 hS1.2.2.2.2 (HS_b hS1).2 a1.2.2.2 hS2.2.2.2.2 (HS_b hS2).2 a2.2.2.2 e2 e4 e5, e6, e7⟩
/-- an operation that went well on both sides -/
theorem KQ_gr {K t : Nat} {r1 r2 : Int32 × MS} (hK : K ≤ 1000000) (hS1 : HS g1 l1 B1 h1 σ1) (hS2 : HS g2 l2 B2 h2 σ2) (a : VO g1 B1 h1 t σ1 r1) (b : VO g2 B2 h2 t σ2 r2) (q : KQ h1 h2 K r1 r2) (e : r1.2.1 56 = 0) : ∃ (g1' : Nat → Prop) (l1' : List Nat) (h1' : Nat) (g2' : Nat → Prop) (l2' : List Nat) (h2' : Nat), HG g1 B1 h1 σ1 r1.2 g1' l1' h1' ∧ HG g2 B2 h2 σ2 r2.2 g2' l2' h2' ∧ FW t σ1 r1.2 ∧ FW t σ2 r2.2 ∧ r1.2.1 59 = nI t ∧ r2.2.1 59 = nI t ∧ r2.2.1 56 = 0 ∧ VC g1' g2' (r1.2.2.2 28) (r2.2.2.2 28) r1.1 r2.1 ∧ h1' ≤ h1 + K ∧ h2' ≤ h2 + K := by
  obtain ⟨g1', l1', h1', a1, a2, a3, a4, a5, k1, a6, a7⟩ := a
  obtain ⟨g2', l2', h2', b1, b2, b3, b4, b5, k2, b6, b7⟩ := b
  obtain ⟨q1, q2, p1, p2, c1, c2, c3, c4⟩ := q
  obtain ⟨x, y, d1, d2, d3, d4, d5⟩ := q2 e
  have w1 := HS_b hS1
  have w2 := HS_b hS2
  have u1 := HS_b a1.1
  have u2 := HS_b b1.1
  have f1 : h1' = p1 := (n_eq (by omega) (by omega)).mp (a1.1.2.2.1.symm.trans c1)
  have f2 : h2' = p2 := (n_eq (by omega) (by omega)).mp (b1.1.2.2.1.symm.trans c2)
  have v1 := HS_vb a1.1 a7
  have v2 := HS_vb b1.1 b7
  have e1 : k1 = x := (n_eq (by omega) (by omega)).mp (a6.symm.trans d1)
  have e2 : k2 = y := (n_eq (by omega) (by omega)).mp (b6.symm.trans d2)
  subst e1
  subst e2
  exact ⟨g1', l1', h1', g2', l2', h2', a1, b1, a2, b2, a3, b3, q1.mp e, ⟨k1, k2, d1, a7, d2, b7, d5, d3, d4⟩, by omega, by omega⟩
/-- w values that hold the same upon both piles, above f; the heaps may have grown by K -/
def KPx (g1 g2 : Nat → Prop) (B1 h1 B2 h2 f w K : Nat) (σ1 σ2 τ1 τ2 : MS) (g1' : Nat → Prop) (l1' : List Nat) (h1' : Nat) (g2' : Nat → Prop) (l2' : List Nat) (h2' : Nat) : Prop := HG g1 B1 h1 σ1 τ1 g1' l1' h1' ∧ HG g2 B2 h2 σ2 τ2 g2' l2' h2' ∧ FW f σ1 τ1 ∧ FW f σ2 τ2 ∧ τ1.1 59 = nI (f + w) ∧ τ2.1 59 = nI (f + w) ∧ PlE g1' g2' τ1 τ2 f w ∧ τ1.1 56 = 0 ∧ τ2.1 56 = 0 ∧ h1' ≤ h1 + K ∧ h2' ≤ h2 + K
def KPh (g1 g2 : Nat → Prop) (B1 h1 B2 h2 f w K : Nat) (σ1 σ2 τ1 τ2 : MS) : Prop := ∃ (g1' : Nat → Prop) (l1' : List Nat) (h1' : Nat) (g2' : Nat → Prop) (l2' : List Nat) (h2' : Nat), KPx g1 g2 B1 h1 B2 h2 f w K σ1 σ2 τ1 τ2 g1' l1' h1' g2' l2' h2'
theorem KPh_0 {f : Nat} (hS1 : HS g1 l1 B1 h1 σ1) (hS2 : HS g2 l2 B2 h2 σ2) (e1 : σ1.1 56 = 0) (e2 : σ2.1 56 = 0) (t1 : σ1.1 59 = nI f) (t2 : σ2.1 59 = nI f) : KPh g1 g2 B1 h1 B2 h2 f 0 0 σ1 σ2 σ1 σ2 := ⟨g1, l1, h1, g2, l2, h2, HG_rf hS1, HG_rf hS2, FW_rf, FW_rf, t1, t2, fun i hi => absurd hi (Nat.not_lt_zero i), e1, e2, by omega, by omega⟩
/-- one more: what an operation gave -/
theorem KPx_op {f w K K' : Nat} {r1 r2 : Int32 × MS} (hK : KPx g1 g2 B1 h1 B2 h2 f w K σ1 σ2 τ1 τ2 g1' l1' h1' g2' l2' h2') (a1 : HG g1' B1 h1' τ1 r1.2 g1'' l1'' h1'') (a2 : HG g2' B2 h2' τ2 r2.2 g2'' l2'' h2'') (f1 : FW (f + w) τ1 r1.2) (f2 : FW (f + w) τ2 r2.2) (e1 : r1.2.1 56 = 0) (e2 : r2.2.1 56 = 0) (hv : VC g1'' g2'' (r1.2.2.2 28) (r2.2.2.2 28) r1.1 r2.1) (b1 : h1'' ≤ h1' + K') (b2 : h2'' ≤ h2' + K') : KPx g1 g2 B1 h1 B2 h2 f (w + 1) (K + K') σ1 σ2 (mPu r1.2 (f + w) r1.1) (mPu r2.2 (f + w) r2.1) g1'' l1'' h1'' g2'' l2'' h2'' := by
  obtain ⟨q1, q2, q3, q4, q5, q6, q7, q8, q9, q10, q11⟩ := hK
  have k1 := HG_tr q1 a1
  have k2 := HG_tr q2 a2
  refine ⟨⟨HS_pu k1.1, k1.2.1, k1.2.2.1, fun i x y => ?_⟩, ⟨HS_pu k2.1, k2.2.1, k2.2.2.1, fun i x y => ?_⟩, FW_tr (FW_tr q3 (FW_mo f1 (by omega))) (FW_pu (by omega)), FW_tr (FW_tr q4 (FW_mo f2 (by omega))) (FW_pu (by omega)), mPu_59, mPu_59, fun i hi => ?_, (mPu_s (by decide)).trans e1, (mPu_s (by decide)).trans e2, by omega, by omega⟩
  · rw [mPu_o (by decide)]; exact k1.2.2.2 i x y
  · rw [mPu_o (by decide)]; exact k2.2.2.2 i x y
  · show VC g1'' g2'' ((mPu r1.2 (f + w) r1.1).2.2 28) ((mPu r2.2 (f + w) r2.1).2.2 28) ((mPu r1.2 (f + w) r1.1).2.2 29 (f + i)) ((mPu r2.2 (f + w) r2.1).2.2 29 (f + i))
    rw [mPu_o (by decide), mPu_o (by decide), mPu_29, mPu_29]
    by_cases e : i = w
    · rw [e, upd_same, upd_same]; exact hv
    · rw [upd_other (by omega), upd_other (by omega), f1.2.2 (f + i) (by omega), f2.2.2 (f + i) (by omega)]
      exact VC_g2 q1.1 q2.1 a1 a2 (q7 i (by omega))
theorem VO_E {g : Nat → Prop} {B h t : Nat} {σ : MS} {r : Int32 × MS} (hr : VO g B h t σ r) : ErB r.2 := by
  obtain ⟨_, _, _, _, _, _, e, _⟩ := hr
  exact e
theorem ErB_pos {τ : MS} (h : ErB τ) (e : ¬ τ.1 56 = 0) : ¬ τ.1 56 ≤ 0 := by
  obtain ⟨c, c1, c2⟩ := h
  rw [c1] at e ⊢
  intro z
  have z := (n_le0 (by omega)).mp z
  exact e (by rw [z]; rfl)
/-- both with an error -/
def KE (h1 h2 K : Nat) (τ1 τ2 : MS) : Prop := ¬ τ1.1 56 = 0 ∧ ¬ τ2.1 56 = 0 ∧ (∃ p1 p2, τ1.1 55 = nI p1 ∧ τ2.1 55 = nI p2 ∧ p1 ≤ h1 + K ∧ p2 ≤ h2 + K) ∧ ErB τ1 ∧ ErB τ2
theorem KE_le {K : Nat} (h : KE h1 h2 K τ1 τ2) : ¬ τ1.1 56 ≤ 0 ∧ ¬ τ2.1 56 ≤ 0 := ⟨ErB_pos h.2.2.2.1 h.1, ErB_pos h.2.2.2.2 h.2.1⟩
theorem KE_mo {K K' : Nat} (h : KE h1 h2 K τ1 τ2) (hK : K ≤ K') : KE h1 h2 K' τ1 τ2 := by
  obtain ⟨e1, e2, ⟨p1, p2, c1, c2, c3, c4⟩, b1, b2⟩ := h
  exact ⟨e1, e2, ⟨p1, p2, c1, c2, by omega, by omega⟩, b1, b2⟩
theorem KE_Q {K : Nat} {x y : Int32} (h : KE h1 h2 K τ1 τ2) : KQ h1 h2 K (x, τ1) (y, τ2) := ⟨⟨fun z => absurd z h.1, fun z => absurd z h.2.1⟩, fun z => absurd z h.1, h.2.2.1⟩
theorem KE_of {K K' : Nat} {r1 r2 : Int32 × MS} (q : KQ h1' h2' K r1 r2) (e : ¬ r1.2.1 56 = 0) (b1 : h1' + K ≤ h1 + K') (b2 : h2' + K ≤ h2 + K') (x1 : ErB r1.2) (x2 : ErB r2.2) : KE h1 h2 K' r1.2 r2.2 := by
  obtain ⟨q1, q2, p1, p2, c1, c2, c3, c4⟩ := q
  exact ⟨e, fun z => e (q1.mpr z), ⟨p1, p2, c1, c2, by omega, by omega⟩, x1, x2⟩
theorem KE_pu {K t : Nat} {x y : Int32} (h : KE h1 h2 K τ1 τ2) : KE h1 h2 K (mPu τ1 t x) (mPu τ2 t y) := by
  obtain ⟨e1, e2, ⟨p1, p2, c1, c2, c3, c4⟩, b1, b2⟩ := h
  exact ⟨by rw [mPu_s (by decide)]; exact e1, by rw [mPu_s (by decide)]; exact e2, ⟨p1, p2, by rw [mPu_s (by decide)]; exact c1, by rw [mPu_s (by decide)]; exact c2, c3, c4⟩, ErB_c (mPu_s (by decide)) b1, ErB_c (mPu_s (by decide)) b2⟩
theorem KQ_tr {K K' : Nat} {r1 r2 : Int32 × MS} (q : KQ h1' h2' K r1 r2) (b1 : h1' + K ≤ h1 + K') (b2 : h2' + K ≤ h2 + K') : KQ h1 h2 K' r1 r2 := by
  obtain ⟨q1, q2, p1, p2, c1, c2, c3, c4⟩ := q
  exact ⟨q1, q2, p1, p2, c1, c2, by omega, by omega⟩
theorem k_powerSet {f v1 v2 : Nat} (hS1 : HS g1 l1 B1 h1 σ1) (hS2 : HS g2 l2 B2 h2 σ2) (e1 : σ1.1 56 = 0) (e2 : σ2.1 56 = 0) (t1 : σ1.1 59 = nI f) (t2 : σ2.1 59 = nI f) (hf : f ≤ 177000) (hr1 : h1 + 4004 ≤ B1 + 870000) (hr2 : h2 + 4004 ≤ B2 + 870000) (hv1 : v1 < 3 ∨ g1 v1) (hv2 : v2 < 3 ∨ g2 v2) (hv : EVb (σ1.2.2 28) (σ2.2.2 28) v1 v2) {L1 L2 : Nat → Int32} (d1 : L1 1 = nI v1) (f1 : L2 1 = nI v2) (hL : LEn 2 L1 L2) : Pm n (fun k => x_powerSet k 0 L1 σ1) (fun k => x_powerSet k 0 L2 σ2) (KQ h1 h2 4004) := by
  refine Pm_suc rfl (fun k => by rw [x_powerSet]) (fun k => by rw [x_powerSet]) (fun m1 _ => ?_)
  refine Pm_ob (Pm_t2 (s_kind hS1 hv1 (by exact d1)) (fun k => f_kind k _ _ _) (s_kind hS2 hv2 (by exact f1)) (fun k => f_kind k _ _ _)) (fun r1 r2 hr => ?_)
  rw [hr.1, hr.2, (EVb_sz hv).2.2]
  have kv := kdN_6 hS1 hv1
  refine Pm_ite Iff.rfl (fun w _ => ?_) (fun _ _ => Pm_ob (k_wrongKind hS1 hS2 _ _) (fun r1 r2 hr => Pm_some hr))
  have w := (n_eq (q := 6) (by omega) (by decide)).mp w
  obtain ⟨k, p, hO⟩ := OE_of hS1 hS2 (kdN_ge hS1 hv1 (by omega)) hv2 hv
  obtain ⟨_, _, _, _, k6, o6, o7, _, o9, o10, o11, o12, o13, o14, _, o16, o17⟩ := hO
  have ca := o16 (by omega)
  refine Pm_suc rfl (fun k => by rw [x_powerSet]) (fun k => by rw [x_powerSet]) (fun m2 _ => ?_)
  rw [d1, f1, n_add1, n_add1, n_cl (p := v1 + 1) (by omega), n_cl (p := v2 + 1) (by omega), o11, o12]
  refine Pm_chk (fun _ _ => ?_)
  refine Pm_ite Iff.rfl (fun z _ => ?_) (fun _ _ => ?_)
  case refine_2 =>
    refine Pm_ob (k_fail (K := 4004) (e := 5) (by decide) hS1 hS2 rfl rfl) (fun r1 r2 hr => ?_)
    rw [hr.1, hr.2.1]
    exact Pm_some hr.2.2
  have hp8 := (n_le (q := 8) (by omega) (by decide)).mp z
  obtain ⟨p1, p2, p3⟩ := n_pow8 hp8
  generalize 2 ^ p = P at p1 p2 p3
  have vb1 : B1 + 4 ≤ v1 ∧ v1 + 4 + p ≤ h1 := by
    obtain ⟨k', n', s', u', q1, q2, q3⟩ := HS_at hS1 (kdN_ge hS1 hv1 (by omega))
    have hn := q1.2.2.2.2.2.2.2.1
    have h1 := q1.2.1
    rw [o11] at h1
    have := (n_eq (by omega) (by omega)).mp h1
    omega
  have vb2 : B2 + 4 ≤ v2 ∧ v2 + 4 + p ≤ h2 := by
    obtain ⟨k', n', s', u', q1, q2, q3⟩ := HS_at hS2 (kdN_ge hS2 hv2 (by rw [(EVb_sz hv).2.2]; omega))
    have hn := q1.2.2.2.2.2.2.2.1
    have h1 := q1.2.1
    rw [o12] at h1
    have := (n_eq (by omega) (by omega)).mp h1
    omega
  have b9 : ∀ (m : Nat) (N1 N2 : Nat → Int32) (r1 r2 : Int32 × MS), N1 100 = r1.1 → N2 100 = r2.1 → KQ h1 h2 4004 r1 r2 → Pm m (fun k => x_powerSet k 9 N1 r1.2) (fun k => x_powerSet k 9 N2 r2.2) (KQ h1 h2 4004) := fun m N1 N2 r1 r2 u1 u2 hr => by
    refine Pm_suc rfl (fun k => by rw [x_powerSet]) (fun k => by rw [x_powerSet]) (fun m3 _ => ?_)
    rw [u1, u2]
    exact Pm_some hr
  have bE7 : ∀ (m : Nat) (N1 N2 : Nat → Int32) (τ1 τ2 : MS), KE h1 h2 4004 τ1 τ2 → Pm m (fun k => x_powerSet k 7 N1 τ1) (fun k => x_powerSet k 7 N2 τ2) (KQ h1 h2 4004) := fun m N1 N2 τ1 τ2 hE => by
    refine Pm_suc rfl (fun k => by rw [x_powerSet]) (fun k => by rw [x_powerSet]) (fun m3 _ => ?_)
    refine Pm_ite ⟨fun z => absurd z hE.1, fun z => absurd z hE.2.1⟩ (fun z _ => absurd z hE.1) (fun _ _ => ?_)
    refine Pm_suc rfl (fun k => by rw [x_powerSet]) (fun k => by rw [x_powerSet]) (fun m4 _ => ?_)
    exact b9 m4 _ _ (0, τ1) (0, τ2) rfl rfl (KE_Q hE)
  have b7 : ∀ (m i : Nat) (N1 N2 : Nat → Int32) (τ1 τ2 : MS), i ≤ 256 → LEn 2 N1 N2 → N2 3 = nI f → KPh g1 g2 B1 h1 B2 h2 f i (12 * i) σ1 σ2 τ1 τ2 → Pm m (fun k => x_powerSet k 7 N1 τ1) (fun k => x_powerSet k 7 N2 τ2) (KQ h1 h2 4004) := fun m i N1 N2 τ1 τ2 hi hN n3 hK => by
    obtain ⟨g1', l1', h1', g2', l2', h2', q1, q2, q3, q4, q5, q6, q7, q8, q9, q10, q11⟩ := hK
    refine Pm_suc rfl (fun k => by rw [x_powerSet]) (fun k => by rw [x_powerSet]) (fun m3 _ => ?_)
    rw [q8, q9]
    refine Pm_ite Iff.rfl (fun _ _ => ?_) (fun z _ => absurd rfl z)
    exact Pm_ob (k_setOf q1.1 q2.1 q8 q9 q5 q6 (by omega) (by omega) (by omega) (by omega) q7 (by show N1 3 = _; rw [hN 3 (by omega), n3]) (by exact n3)) (fun r1 r2 hr => b9 m3 _ _ r1 r2 rfl rfl (KQ_tr hr (by omega) (by omega)))
  have b3 : ∀ (m i : Nat) (N1 N2 : Nat → Int32) (τ1 τ2 : MS), i ≤ P → LEn 2 N1 N2 → N1 1 = nI v1 → N2 1 = nI v2 → N2 2 = nI p → N2 3 = nI f → N2 4 = nI i → KPh g1 g2 B1 h1 B2 h2 f i (12 * i) σ1 σ2 τ1 τ2 → Pm m (fun k => x_powerSet k 3 N1 τ1) (fun k => x_powerSet k 3 N2 τ2) (KQ h1 h2 4004) := by
    intro m
    induction m using Nat.strongRecOn with
    | ind m ih =>
    intro i N1 N2 τ1 τ2 hi hN n1 y1 n2 n3 n4 hK
    refine Pm_suc rfl (fun k => by rw [x_powerSet]) (fun k => by rw [x_powerSet]) (fun k1 hk1 => ?_)
    rw [hN 2 (by omega), hN 4 (by omega), n2, p1, n4]
    refine Pm_ite Iff.rfl (fun _ _ => b7 k1 i N1 N2 τ1 τ2 (by omega) hN n3 hK) (fun z _ => ?_)
    have hiP : i < P := by
      by_cases c : i < P
      · exact c
      · exact absurd ((n_le (by omega) (by omega)).mpr (by omega)) z
    obtain ⟨g1', l1', h1', g2', l2', h2', hX⟩ := hK
    have hX0 := hX
    obtain ⟨q1, q2, q3, q4, q5, q6, q7, q8, q9, q10, q11⟩ := hX
    rw [q8, q9]
    refine Pm_ite Iff.rfl (fun _ _ => ?_) (fun z _ => absurd rfl z)
    rw [q5, q6]
    have b4 : ∀ (m' j w : Nat) (M1 M2 : Nat → Int32) (υ1 υ2 : MS), m' < m → j ≤ p → w ≤ j → LEn 2 M1 M2 → M1 1 = nI v1 → M2 1 = nI v2 → M2 2 = nI p → M2 3 = nI f → M2 4 = nI i → M2 5 = nI (f + i) → M2 6 = nI j → KPu g1' g2' (f + i) w τ1 τ2 υ1 υ2 → Pm m' (fun k => x_powerSet k 4 M1 υ1) (fun k => x_powerSet k 4 M2 υ2) (KQ h1 h2 4004) := by
      intro m'
      induction m' using Nat.strongRecOn with
      | ind m' ih4 =>
      intro j w M1 M2 υ1 υ2 hm' hj hw hM x1 z1 z2 z3 z4 z5 z6 hU
      have b5 : ∀ (m'' w' : Nat) (ρ1 ρ2 : MS), m'' < m' → j < p → w' ≤ j + 1 → KPu g1' g2' (f + i) w' τ1 τ2 ρ1 ρ2 → Pm m'' (fun k => x_powerSet k 5 M1 ρ1) (fun k => x_powerSet k 5 M2 ρ2) (KQ h1 h2 4004) := fun m'' w' ρ1 ρ2 hm'' hjp hw' hU' => by
        refine Pm_suc rfl (fun k => by rw [x_powerSet]) (fun k => by rw [x_powerSet]) (fun k3 hk3 => ?_)
        exact ih4 k3 (by omega) (j + 1) w' _ _ _ _ (by omega) (by omega) hw' (LEn_u hM (by rw [hM 6 (by omega)])) x1 z1 z2 z3 z4 z5 (by show M2 6 + 1 = _; rw [z6, n_add1]) hU'
      refine Pm_suc rfl (fun k => by rw [x_powerSet]) (fun k => by rw [x_powerSet]) (fun k2 hk2 => ?_)
      rw [hM 2 (by omega), hM 6 (by omega), hM 4 (by omega), z2, z6, z4, x1, z1, show nI v1 + 4 = nI (v1 + 4) from n_add (q := 4) (by omega), show nI v2 + 4 = nI (v2 + 4) from n_add (q := 4) (by omega), n_add (p := v1 + 4) (by omega), n_add (p := v2 + 4) (by omega)]
      refine Pm_ite Iff.rfl (fun _ _ => ?_) (fun z _ => ?_)
      · refine Pm_suc rfl (fun k => by rw [x_powerSet]) (fun k => by rw [x_powerSet]) (fun k3 hk3 => ?_)
        refine Pm_ob (Pm_un (PuS_set hU.1 q1.1 ⟨0, q8, by decide⟩ (by omega) (by omega) (by show M1 5 = _; rw [hM 5 (by omega), z5])) (fun k => f_setOf k _ _ _) (PuS_set hU.2.1 q2.1 ⟨0, q9, by decide⟩ (by omega) (by omega) (by exact z5)) (fun k => f_setOf k _ _ _) (k_setP hU q1.1 q2.1 q8 q9 (by omega) (by omega) (by omega) (by omega) (by show M1 5 = _; rw [hM 5 (by omega), z5]) (by exact z5))) (fun r1 r2 hr => ?_)
        obtain ⟨hq, hv1', hv2'⟩ := hr
        have s1 : r1.2.1 59 = nI (f + i) := by obtain ⟨_, _, _, _, _, e, _⟩ := hv1'; exact e
        have s2 : r2.2.1 59 = nI (f + i) := by obtain ⟨_, _, _, _, _, e, _⟩ := hv2'; exact e
        refine Pm_ob (Pm_t2 (s_push s1 (by omega) _) (fun k => f_push k _ _ _) (s_push s2 (by omega) _) (fun k => f_push k _ _ _)) (fun u1 u2 hu => ?_)
        rw [hu.1, hu.2]
        have hM' : LEn 2 (upd M1 4 (M1 4 + 1)) (upd M2 4 (M2 4 + 1)) := LEn_u hM (by rw [hM 4 (by omega)])
        have m4 : upd M2 4 (M2 4 + 1) 4 = nI (i + 1) := by show M2 4 + 1 = _; rw [z4, n_add1]
        by_cases er : r1.2.1 56 = 0
        · obtain ⟨g1'', l1'', h1'', g2'', l2'', h2'', a1, a2, a3, a4, a5, a6, a7, a8, a9, a10⟩ := KQ_gr (by omega) q1.1 q2.1 hv1' hv2' hq er
          refine ih k3 (by omega) (i + 1) _ _ _ _ (by omega) hM' x1 z1 z2 z3 m4 ⟨g1'', l1'', h1'', g2'', l2'', h2'', ?_⟩
          have := KPx_op (K' := 12) hX0 a1 a2 a3 a4 er a7 a8 (by omega) (by omega)
          rw [show 12 * (i + 1) = 12 * i + 12 by omega]
          exact this
        · have hE := KE_pu (t := f + i) (x := r1.1) (y := r2.1) (KE_of (h1 := h1) (h2 := h2) (K' := 4004) hq er (by omega) (by omega) (VO_E hv1') (VO_E hv2'))
          refine Pm_suc rfl (fun k => by rw [x_powerSet]) (fun k => by rw [x_powerSet]) (fun k4 hk4 => ?_)
          rw [hM' 2 (by omega), hM' 4 (by omega)]
          refine Pm_ite Iff.rfl (fun _ _ => bE7 k4 _ _ _ _ hE) (fun _ _ => ?_)
          exact Pm_ite ⟨fun z => absurd z hE.1, fun z => absurd z hE.2.1⟩ (fun z _ => absurd z hE.1) (fun _ _ => bE7 k4 _ _ _ _ hE)
      · have hjp : j < p := by
          by_cases c : j < p
          · exact c
          · exact absurd ((n_le (by omega) (by omega)).mpr (by omega)) z
        refine Pm_ite Iff.rfl (fun _ _ => ?_) (fun _ _ => b5 k2 w υ1 υ2 (by omega) hjp (by omega) hU)
        rw [n_cl (p := v1 + 4 + j) (by omega), n_cl (p := v2 + 4 + j) (by omega), hU.1.2.1 28 (by decide), hU.2.1.2.1 28 (by decide)]
        refine Pm_chk (fun _ _ => ?_)
        refine Pm_ob (k_push hU (by omega) (x := τ1.2.2 28 (v1 + 4 + j)) (y := τ2.2.2 28 (v2 + 4 + j)) ?_ rfl rfl) (fun r1 r2 hr => b5 k2 (w + 1) r1.2 r2.2 (by omega) hjp (by omega) hr)
        rw [q1.2.2.2 (v1 + 4 + j) (by omega) (by omega), q2.2.2.2 (v2 + 4 + j) (by omega) (by omega)]
        exact VC_g2 hS1 hS2 q1 q2 (ca j hjp)
    exact b4 k1 0 0 _ _ _ _ (by omega) (Nat.zero_le _) (Nat.le_refl _) (LEn_u (LEn_u hN rfl) rfl) n1 y1 n2 n3 n4 rfl rfl (KPu_0 q5 q6)
  refine Pm_suc rfl (fun k => by rw [x_powerSet]) (fun k => by rw [x_powerSet]) (fun m3 _ => ?_)
  rw [t1, t2]
  exact b3 m3 0 _ _ _ _ (by omega) (LEn_u (LEn_u (LEn_u hL rfl) rfl) rfl) d1 f1 rfl rfl rfl (KPh_0 hS1 hS2 e1 e2 t1 t2)
end KPO

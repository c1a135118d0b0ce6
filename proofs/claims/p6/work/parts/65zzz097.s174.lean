/-! Two runs side by side (reference): members, maps. -/
section KMA
variable {g1 g2 : Nat → Prop} {l1 l2 : List Nat} {B1 h1 B2 h2 n : Nat} {σ1 σ2 : MS}
theorem KQ_VC {K : Nat} {x y : Int32} (hS1 : HS g1 l1 B1 h1 σ1) (hS2 : HS g2 l2 B2 h2 σ2) (e : σ1.1 56 = 0 ↔ σ2.1 56 = 0) (h : VC g1 g2 (σ1.2.2 28) (σ2.2.2 28) x y) : KQ h1 h2 K (x, σ1) (y, σ2) := by
  obtain ⟨a, b, a1, _, b1, _, ev, ab, bb⟩ := h
  rw [a1, b1]
  exact KQ_same hS1 hS2 e ab bb ev
theorem k_byteString (hS1 : HS g1 l1 B1 h1 σ1) (hS2 : HS g2 l2 B2 h2 σ2) (e1 : σ1.1 56 = 0) (e2 : σ2.1 56 = 0) (hr1 : h1 + 5 ≤ B1 + 870000) (hr2 : h2 + 5 ≤ B2 + 870000) {L1 L2 : Nat → Int32} (hL : L1 1 = L2 1) : Pm n (fun k => x_byteString k 0 L1 σ1) (fun k => x_byteString k 0 L2 σ2) (KQ h1 h2 5) := by
  have b1 := HS_b hS1
  have b2 := HS_b hS2
  have x1 := hS1.2.1
  have x2 := hS2.2.1
  refine Pm_mono (Pm_u2 (u_byteString hS1 e1 hr1 L1) (u_byteString hS2 e2 hr2 L2)) (fun r1 r2 hr => ?_)
  exact NwO_ev (by omega) (by omega) (by omega) (by omega) (by omega) (by omega) (by omega) hr.1 hr.2 (fun i hi => hL)
theorem k_memberAt {v1 v2 k p i : Nat} (hS1 : HS g1 l1 B1 h1 σ1) (hS2 : HS g2 l2 B2 h2 σ2) (e1 : σ1.1 56 = 0) (e2 : σ2.1 56 = 0) (hr1 : h1 + 5 ≤ B1 + 870000) (hr2 : h2 + 5 ≤ B2 + 870000) (hO : OE g1 g2 (σ1.2.2 28) (σ2.2.2 28) v1 v2 k p) (hk : 4 ≤ k) (hi : i < p) {L1 L2 : Nat → Int32} (d1 : L1 1 = nI v1) (d2 : L1 2 = nI i) (f1 : L2 1 = nI v2) (f2 : L2 2 = nI i) : Pm n (fun k => x_memberAt k 0 L1 σ1) (fun k => x_memberAt k 0 L2 σ2) (KQ h1 h2 5) := by
  obtain ⟨o1, o2, _, _, o5, o6, o7, o8, o9, o10, o11, o12, o13, o14, _, o16, o17⟩ := hO
  refine Pm_suc rfl (fun k => by rw [x_memberAt]) (fun k => by rw [x_memberAt]) (fun m1 _ => ?_)
  rw [d1, f1, d2, f2, n_cl (p := v1) (by omega), n_cl (p := v2) (by omega), o9, o10, show nI v1 + 4 = nI (v1 + 4) from n_add (q := 4) (by omega), show nI v2 + 4 = nI (v2 + 4) from n_add (q := 4) (by omega), n_add (p := v1 + 4) (by omega), n_add (p := v2 + 4) (by omega), n_cl (p := v1 + 4 + i) (by omega), n_cl (p := v2 + 4 + i) (by omega)]
  refine Pm_chk (fun _ _ => ?_)
  refine Pm_ite Iff.rfl (fun z _ => ?_) (fun z _ => ?_)
  · have z := (n_eq (q := 4) (by omega) (by decide)).mp z
    refine Pm_chk (fun _ _ => ?_)
    refine Pm_ob (k_byteString hS1 hS2 e1 e2 hr1 hr2 (by exact (o17 (by omega) i hi).symm)) (fun r1 r2 hr => ?_)
    refine Pm_suc rfl (fun k => by rw [x_memberAt]) (fun k => by rw [x_memberAt]) (fun m2 _ => ?_)
    exact Pm_some hr
  · have z : ¬ k = 4 := fun e => z (by rw [e]; rfl)
    refine Pm_suc rfl (fun k => by rw [x_memberAt]) (fun k => by rw [x_memberAt]) (fun m2 _ => ?_)
    rw [d1, f1, d2, f2, show nI v1 + 4 = nI (v1 + 4) from n_add (q := 4) (by omega), show nI v2 + 4 = nI (v2 + 4) from n_add (q := 4) (by omega), n_add (p := v1 + 4) (by omega), n_add (p := v2 + 4) (by omega), n_cl (p := v1 + 4 + i) (by omega), n_cl (p := v2 + 4 + i) (by omega)]
    refine Pm_chk (fun _ _ => ?_)
    refine Pm_suc rfl (fun k => by rw [x_memberAt]) (fun k => by rw [x_memberAt]) (fun m3 _ => ?_)
    exact Pm_some (KQ_VC hS1 hS2 (by rw [e1, e2]) (o16 (by omega) i hi))
theorem k_many {v1 v2 : Nat} (hS1 : HS g1 l1 B1 h1 σ1) (hS2 : HS g2 l2 B2 h2 σ2) (e1 : σ1.1 56 = 0) (e2 : σ2.1 56 = 0) (hr1 : h1 + 70 ≤ B1 + 870000) (hr2 : h2 + 70 ≤ B2 + 870000) (hv1 : v1 < 3 ∨ g1 v1) (hv2 : v2 < 3 ∨ g2 v2) (hv : EVb (σ1.2.2 28) (σ2.2.2 28) v1 v2) {L1 L2 : Nat → Int32} (d1 : L1 1 = nI v1) (f1 : L2 1 = nI v2) : Pm n (fun k => x_many k 0 L1 σ1) (fun k => x_many k 0 L2 σ2) (KQ h1 h2 70) := by
  have kv := kdN_6 hS1 hv1
  refine Pm_suc rfl (fun k => by rw [x_many]) (fun k => by rw [x_many]) (fun m1 _ => ?_)
  refine Pm_ob (Pm_t2 (s_kind hS1 hv1 (by exact d1)) (fun k => f_kind k _ _ _) (s_kind hS2 hv2 (by exact f1)) (fun k => f_kind k _ _ _)) (fun r1 r2 hr => ?_)
  rw [hr.1, hr.2, (EVb_sz hv).2.2]
  refine Pm_ite Iff.rfl (fun z _ => ?_) (fun _ _ => ?_)
  · have z := (n_le (p := 4) (by decide) (by omega)).mp z
    obtain ⟨k, p, hO⟩ := OE_of hS1 hS2 (kdN_ge hS1 hv1 (by omega)) hv2 hv
    obtain ⟨_, _, _, _, _, o6, _, _, _, _, o11, o12, o13, o14, _, _, _⟩ := hO
    refine Pm_suc rfl (fun k => by rw [x_many]) (fun k => by rw [x_many]) (fun m2 _ => ?_)
    rw [d1, f1, n_add1, n_add1, n_cl (p := v1 + 1) (by omega), n_cl (p := v2 + 1) (by omega), o11, o12]
    refine Pm_chk (fun _ _ => ?_)
    exact Pm_ob (k_small hS1 hS2 e1 e2 hr1 hr2 (fun i hi => rfl)) (fun s1 s2 hs => Pm_some hs)
  · refine Pm_ob (k_fail (K := 70) (e := 1) (by decide) hS1 hS2 rfl rfl) (fun s1 s2 hs => ?_)
    rw [hs.1, hs.2.1]
    exact Pm_some hs.2.2
theorem k_negative {v1 v2 : Nat} (hS1 : HS g1 l1 B1 h1 σ1) (hS2 : HS g2 l2 B2 h2 σ2) (e1 : σ1.1 56 = 0) (e2 : σ2.1 56 = 0) (hr1 : h1 + 70 ≤ B1 + 870000) (hr2 : h2 + 70 ≤ B2 + 870000) (hv1 : v1 < 3 ∨ g1 v1) (hv2 : v2 < 3 ∨ g2 v2) (hv : EVb (σ1.2.2 28) (σ2.2.2 28) v1 v2) {L1 L2 : Nat → Int32} (d1 : L1 1 = nI v1) (f1 : L2 1 = nI v2) : Pm n (fun k => x_negative k 0 L1 σ1) (fun k => x_negative k 0 L2 σ2) (KQ h1 h2 70) := by
  have kv := kdN_6 hS1 hv1
  have b2 : ∀ (m : Nat) (N1 N2 : Nat → Int32) (r1 r2 : Int32 × MS), N1 100 = r1.1 → N2 100 = r2.1 → KQ h1 h2 70 r1 r2 → Pm m (fun k => x_negative k 2 N1 r1.2) (fun k => x_negative k 2 N2 r2.2) (KQ h1 h2 70) := fun m N1 N2 r1 r2 u1 u2 hr => by
    refine Pm_suc rfl (fun k => by rw [x_negative]) (fun k => by rw [x_negative]) (fun m1 _ => ?_)
    rw [u1, u2]
    exact Pm_some hr
  refine Pm_suc rfl (fun k => by rw [x_negative]) (fun k => by rw [x_negative]) (fun m1 _ => ?_)
  refine Pm_ob (Pm_t2 (s_kind hS1 hv1 (by exact d1)) (fun k => f_kind k _ _ _) (s_kind hS2 hv2 (by exact f1)) (fun k => f_kind k _ _ _)) (fun r1 r2 hr => ?_)
  rw [hr.1, hr.2, (EVb_sz hv).2.2]
  refine Pm_ite Iff.rfl (fun z _ => ?_) (fun _ _ => ?_)
  · have z := (n_eq (q := 2) (by omega) (by decide)).mp z
    obtain ⟨p, hW⟩ := WhE_of hS1 hS2 hv1 hv2 hv z
    refine Pm_suc rfl (fun k => by rw [x_negative]) (fun k => by rw [x_negative]) (fun m2 _ => ?_)
    exact Pm_ob (k_other hS1 hS2 e1 e2 hr1 hr2 hW (by exact d1) (by exact f1)) (fun s1 s2 hs => b2 m2 _ _ s1 s2 rfl rfl hs)
  · exact Pm_ob (k_wrongKind hS1 hS2 _ _) (fun s1 s2 hs => b2 m1 _ _ s1 s2 rfl rfl hs)
theorem k_turned {K v1 v2 : Nat} (hS1 : HS g1 l1 B1 h1 σ1) (hS2 : HS g2 l2 B2 h2 σ2) (e1 : σ1.1 56 = 0) (e2 : σ2.1 56 = 0) (b1 : v1 < 1740000) (b2 : v2 < 1740000) (hv : EVb (σ1.2.2 28) (σ2.2.2 28) v1 v2) {L1 L2 : Nat → Int32} (d1 : L1 1 = nI v1) (f1 : L2 1 = nI v2) : Pm n (fun k => x_turned k 0 L1 σ1) (fun k => x_turned k 0 L2 σ2) (KQ h1 h2 K) := by
  have iq : ∀ q : Nat, q < 3 → (nI v1 = nI q ↔ nI v2 = nI q) := fun q hq => by
    rw [n_eq (by omega) (by omega), n_eq (by omega) (by omega)]
    rcases EVb_3 hv with ⟨z1, z2⟩ | ⟨z1, z2⟩
    · rw [z2]
    · omega
  have fin : ∀ (m : Nat) (N1 N2 : Nat → Int32) (τ1 τ2 : MS), HS g1 l1 B1 h1 τ1 → HS g2 l2 B2 h2 τ2 → (τ1.1 56 = 0 ↔ τ2.1 56 = 0) → N1 1 = nI v1 → N2 1 = nI v2 → Pm m (fun k => x_turned k 1 N1 τ1) (fun k => x_turned k 1 N2 τ2) (KQ h1 h2 K) := by
    intro m N1 N2 τ1 τ2 hT1 hT2 he x1 y1
    have b3 : ∀ (m' : Nat) (M1 M2 : Nat → Int32), M1 100 = M2 100 → Pm m' (fun k => x_turned k 3 M1 τ1) (fun k => x_turned k 3 M2 τ2) (KQ h1 h2 K) := fun m' M1 M2 h => by
      refine Pm_suc rfl (fun k => by rw [x_turned]) (fun k => by rw [x_turned]) (fun m2 _ => ?_)
      exact Pm_ob (k_truth hT1 hT2 he (by exact h)) (fun s1 s2 hs => Pm_some hs.1)
    refine Pm_suc rfl (fun k => by rw [x_turned]) (fun k => by rw [x_turned]) (fun m1 _ => ?_)
    rw [x1, y1]
    refine Pm_ite (iq 1 (by decide)) (fun _ _ => b3 m1 _ _ rfl) (fun _ _ => ?_)
    refine Pm_suc rfl (fun k => by rw [x_turned]) (fun k => by rw [x_turned]) (fun m2 _ => ?_)
    exact b3 m2 _ _ rfl
  have ee : σ1.1 56 = 0 ↔ σ2.1 56 = 0 := by rw [e1, e2]
  refine Pm_suc rfl (fun k => by rw [x_turned]) (fun k => by rw [x_turned]) (fun m1 _ => ?_)
  rw [d1, f1]
  refine Pm_ite (iq 2 (by decide)) (fun _ _ => fin m1 _ _ _ _ hS1 hS2 ee d1 f1) (fun _ _ => ?_)
  refine Pm_ite (iq 1 (by decide)) (fun _ _ => fin m1 _ _ _ _ hS1 hS2 ee d1 f1) (fun _ _ => ?_)
  refine Pm_ob (Pm_t2 (s_fail _ σ1) (fun k => f_fail k _ _ _) (s_fail _ σ2) (fun k => f_fail k _ _ _)) (fun s1 s2 hs => ?_)
  rw [hs.1, hs.2]
  exact fin m1 _ _ _ _ (HS_er hS1 _) (HS_er hS2 _) ⟨fun z => absurd z (mEr_e (by decide)), fun z => absurd z (mEr_e (by decide))⟩ d1 f1
theorem k_isMap {v1 v2 : Nat} (hS1 : HS g1 l1 B1 h1 σ1) (hS2 : HS g2 l2 B2 h2 σ2) (hv1 : v1 < 3 ∨ g1 v1) (hv2 : v2 < 3 ∨ g2 v2) (hv : EVb (σ1.2.2 28) (σ2.2.2 28) v1 v2) {L1 L2 : Nat → Int32} (d1 : L1 1 = nI v1) (f1 : L2 1 = nI v2) : Pm n (fun k => x_isMap k 0 L1 σ1) (fun k => x_isMap k 0 L2 σ2) (fun r1 r2 => r1.1 = r2.1) := by
  have kv := kdN_6 hS1 hv1
  have b6 : ∀ (m : Nat) (N1 N2 : Nat → Int32), N1 2 = N2 2 → Pm m (fun k => x_isMap k 6 N1 σ1) (fun k => x_isMap k 6 N2 σ2) (fun r1 r2 => r1.1 = r2.1) := fun m N1 N2 h => by
    refine Pm_suc rfl (fun k => by rw [x_isMap]) (fun k => by rw [x_isMap]) (fun m1 _ => ?_)
    refine Pm_chk (fun _ _ => ?_)
    exact Pm_some h
  have b3 : ∀ (m i : Nat) (N1 N2 : Nat → Int32), N1 1 = nI v1 → N2 1 = nI v2 → N1 2 = N2 2 → (¬ N1 2 = 0 → kdN (σ1.2.2 28) v1 = 6) → N1 3 = nI i → N2 3 = nI i → i ≤ 4000 → Pm m (fun k => x_isMap k 3 N1 σ1) (fun k => x_isMap k 3 N2 σ2) (fun r1 r2 => r1.1 = r2.1) := by
    intro m
    induction m using Nat.strongRecOn with
    | ind m ih =>
    intro i N1 N2 x1 y1 x2 hk x3 y3 hi4
    refine Pm_suc rfl (fun k => by rw [x_isMap]) (fun k => by rw [x_isMap]) (fun k1 hk1 => ?_)
    refine Pm_ite (by rw [x2]) (fun _ _ => b6 k1 _ _ x2) (fun z _ => ?_)
    have hk6 := hk z
    obtain ⟨k, p, hO⟩ := OE_of hS1 hS2 (kdN_ge hS1 hv1 (by omega)) hv2 hv
    obtain ⟨o1, o2, _, _, o5, o6, o7, o8, o9, o10, o11, o12, o13, o14, _, o16, _⟩ := hO
    have ca := o16 (by omega)
    rw [x1, y1, x3, y3, n_add1 v1, n_add1 v2, n_cl (p := v1 + 1) (by omega), n_cl (p := v2 + 1) (by omega), o11, o12, show nI v1 + 4 = nI (v1 + 4) from n_add (q := 4) (by omega), show nI v2 + 4 = nI (v2 + 4) from n_add (q := 4) (by omega), n_add (p := v1 + 4) (by omega), n_add (p := v2 + 4) (by omega), n_cl (p := v1 + 4 + i) (by omega), n_cl (p := v2 + 4 + i) (by omega)]
    refine Pm_chk (fun _ _ => ?_)
    refine Pm_ite Iff.rfl (fun _ _ => b6 k1 _ _ x2) (fun y _ => ?_)
    have hip : i < p := by
      by_cases e : p ≤ i
      · exact absurd ((n_le (by omega) (by omega)).mpr e) y
      · omega
    refine Pm_chk (fun _ _ => ?_)
    obtain ⟨u, v, u1, u2, u3, u4, u5, u6, u7⟩ := ca i hip
    rw [u1, u3]
    have ku := kdN_6 hS1 u2
    refine Pm_ob (Pm_t2 (s_kind hS1 u2 rfl) (fun k => f_kind k _ _ _) (s_kind hS2 u4 rfl) (fun k => f_kind k _ _ _)) (fun r1 r2 hr => ?_)
    rw [hr.1, hr.2, (EVb_sz u5).2.2]
    have b5 : ∀ (m' : Nat) (M1 M2 : Nat → Int32), m' < m → M1 1 = nI v1 → M2 1 = nI v2 → M1 100 = M2 100 → M1 3 = nI i → M2 3 = nI i → Pm m' (fun k => x_isMap k 5 M1 σ1) (fun k => x_isMap k 5 M2 σ2) (fun r1 r2 => r1.1 = r2.1) := by
      intro m' M1 M2 hm' q1 q2 q3 q4 q5
      refine Pm_suc rfl (fun k => by rw [x_isMap]) (fun k => by rw [x_isMap]) (fun k2 hk2 => ?_)
      exact ih k2 (by omega) (i + 1) _ _ q1 q2 q3 (fun _ => hk6) (by show M1 3 + 1 = _; rw [q4, n_add1]) (by show M2 3 + 1 = _; rw [q5, n_add1]) (by omega)
    have b4 : ∀ (m' : Nat) (M1 M2 : Nat → Int32), m' < m → M1 1 = nI v1 → M2 1 = nI v2 → M1 3 = nI i → M2 3 = nI i → Pm m' (fun k => x_isMap k 4 M1 σ1) (fun k => x_isMap k 4 M2 σ2) (fun r1 r2 => r1.1 = r2.1) := by
      intro m' M1 M2 hm' q1 q2 q4 q5
      refine Pm_suc rfl (fun k => by rw [x_isMap]) (fun k => by rw [x_isMap]) (fun k2 hk2 => ?_)
      exact b5 k2 _ _ (by omega) q1 q2 rfl q4 q5
    refine Pm_ite Iff.rfl (fun w _ => ?_) (fun _ _ => b4 k1 _ _ (by omega) x1 y1 x3 y3)
    have w := (n_eq (q := 5) (by omega) (by decide)).mp w
    have gu := kdN_ge hS1 u2 (by omega)
    obtain ⟨k', p', hU⟩ := OE_of hS1 hS2 gu u4 u5
    obtain ⟨_, _, _, _, _, _, _, _, _, _, w11, w12, w13, w14, _⟩ := hU
    rw [n_add1 u, n_add1 v, n_cl (p := u + 1) (by omega), n_cl (p := v + 1) (by omega), w11, w12]
    refine Pm_chk (fun _ _ => ?_)
    exact Pm_ite Iff.rfl (fun _ _ => b5 k1 _ _ (by omega) x1 y1 rfl x3 y3) (fun _ _ => b4 k1 _ _ (by omega) x1 y1 x3 y3)
  have b2 : ∀ (m : Nat) (N1 N2 : Nat → Int32), N1 1 = nI v1 → N2 1 = nI v2 → N1 100 = N2 100 → (¬ N1 100 = 0 → kdN (σ1.2.2 28) v1 = 6) → Pm m (fun k => x_isMap k 2 N1 σ1) (fun k => x_isMap k 2 N2 σ2) (fun r1 r2 => r1.1 = r2.1) := by
    intro m N1 N2 x1 y1 h hk
    refine Pm_suc rfl (fun k => by rw [x_isMap]) (fun k => by rw [x_isMap]) (fun m1 _ => ?_)
    exact b3 m1 0 _ _ x1 y1 h hk rfl rfl (by omega)
  refine Pm_suc rfl (fun k => by rw [x_isMap]) (fun k => by rw [x_isMap]) (fun m1 _ => ?_)
  refine Pm_ob (Pm_t2 (s_kind hS1 hv1 (by exact d1)) (fun k => f_kind k _ _ _) (s_kind hS2 hv2 (by exact f1)) (fun k => f_kind k _ _ _)) (fun r1 r2 hr => ?_)
  rw [hr.1, hr.2, (EVb_sz hv).2.2]
  refine Pm_ite Iff.rfl (fun z _ => ?_) (fun _ _ => ?_)
  · have z := (n_eq (q := 6) (by omega) (by decide)).mp z
    exact b2 m1 _ _ d1 f1 rfl (fun _ => z)
  · refine Pm_suc rfl (fun k => by rw [x_isMap]) (fun k => by rw [x_isMap]) (fun m2 _ => ?_)
    exact b2 m2 _ _ d1 f1 rfl (fun z => absurd rfl z)
/-- the pairs of two maps that hold the same -/
def MpE (g1 g2 : Nat → Prop) (H1 H2 : Nat → Int32) (v1 v2 p : Nat) : Prop := ∀ i, i < p → ∃ u v, H1 (v1 + 4 + i) = nI u ∧ H2 (v2 + 4 + i) = nI v ∧ u + 6 ≤ 1740000 ∧ v + 6 ≤ 1740000 ∧ VC g1 g2 H1 H2 (nI u) (nI v) ∧ VC g1 g2 H1 H2 (H1 (u + 4)) (H2 (v + 4)) ∧ VC g1 g2 H1 H2 (H1 (u + 5)) (H2 (v + 5))
/-- what isMap tells of both -/
theorem k_isMapE {v1 v2 : Nat} (hS1 : HS g1 l1 B1 h1 σ1) (hS2 : HS g2 l2 B2 h2 σ2) (hv1 : v1 < 3 ∨ g1 v1) (hv2 : v2 < 3 ∨ g2 v2) (hv : EVb (σ1.2.2 28) (σ2.2.2 28) v1 v2) {L1 L2 : Nat → Int32} (d1 : L1 1 = nI v1) (f1 : L2 1 = nI v2) : Pm n (fun k => x_isMap k 0 L1 σ1) (fun k => x_isMap k 0 L2 σ2) (fun r1 r2 => r1.1 = r2.1 ∧ r1.2 = σ1 ∧ r2.2 = σ2 ∧ (¬ r1.1 = 0 → ∃ p, OE g1 g2 (σ1.2.2 28) (σ2.2.2 28) v1 v2 6 p ∧ MpE g1 g2 (σ1.2.2 28) (σ2.2.2 28) v1 v2 p)) := by
  refine Pm_mono (Pm_un (s_isMap hS1 hv1 d1) (fun k => f_isMap k _ _ _) (s_isMap hS2 hv2 f1) (fun k => f_isMap k _ _ _) (k_isMap hS1 hS2 hv1 hv2 hv d1 f1)) (fun r1 r2 hr => ?_)
  obtain ⟨q0, ⟨q1, q2⟩, ⟨q3, _⟩⟩ := hr
  refine ⟨q0, q1, q3, fun z => ?_⟩
  rcases q2 with q2 | ⟨_, gv, kv6, nn, hn1, hn2, hMp⟩
  · exact absurd q2 z
  obtain ⟨k, p, hO⟩ := OE_of hS1 hS2 gv hv2 hv
  have ek : k = 6 := hO.2.2.2.2.2.2.1.symm.trans kv6
  subst ek
  have hO0 := hO
  obtain ⟨o1, o2, _, _, o5, o6, o7, o8, o9, o10, o11, o12, o13, o14, _, o16, _⟩ := hO
  have en : nn = p := (n_eq (by omega) (by omega)).mp (hn2.symm.trans o11)
  subst en
  refine ⟨nn, hO0, fun i hi => ?_⟩
  have hc := o16 (by omega) i hi
  obtain ⟨u, v, u1, u2, u3, u4, u5, u6, u7⟩ := o16 (by omega) i hi
  obtain ⟨w, w1, w2, w3, w4⟩ := hMp i hi
  have hwb := HS_vb hS1 (Or.inr w2)
  have ew : w = u := (n_eq (by omega) (by omega)).mp (w1.symm.trans u1)
  subst ew
  obtain ⟨k', p', hU⟩ := OE_of hS1 hS2 w2 u4 u5
  obtain ⟨_, _, _, _, _, r6, r7, _, _, _, r11, r12, r13, r14, _, r16, _⟩ := hU
  have ep : p' = 2 := (n_eq (by omega) (by omega)).mp (r11.symm.trans w4)
  subst ep
  rw [u1, u3] at hc
  exact ⟨w, v, u1, u3, by omega, by omega, hc, r16 (by omega) 0 (by omega), r16 (by omega) 1 (by omega)⟩
end KMA

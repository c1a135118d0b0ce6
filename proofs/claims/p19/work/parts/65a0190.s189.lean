section JnS189
/-! Two runs side by side (reference): parts and images of maps are written. -/
section KPA
variable {g1 g2 : Nat → Prop} {l1 l2 : List Nat} {B1 h1 B2 h2 n : Nat} {σ1 σ2 : MS}
theorem Pm_if1 {Q : Int32 × MS → Int32 × MS → Prop} {c : Prop} {d : Decidable c} {a b g : Nat → Option (Int32 × MS)} (h : ¬ c) (t : Pm n b g Q) : Pm n (fun k => if c then a k else b k) g Q := by
  intro k hk r1 r2 e1 e2
  have e1 : (if c then a k else b k) = some r1 := e1
  rw [if_neg h] at e1
  exact t k hk r1 r2 e1 e2
theorem Pm_if2 {Q : Int32 × MS → Int32 × MS → Prop} {c : Prop} {d : Decidable c} {a b g : Nat → Option (Int32 × MS)} (h : ¬ c) (t : Pm n g b Q) : Pm n g (fun k => if c then a k else b k) Q := by
  intro k hk r1 r2 e1 e2
  have e2 : (if c then a k else b k) = some r2 := e2
  rw [if_neg h] at e2
  exact t k hk r1 r2 e1 e2
theorem KPu_Px {f w : Nat} {τ1 τ2 : MS} (hS1 : HS g1 l1 B1 h1 σ1) (hS2 : HS g2 l2 B2 h2 σ2) (e1 : σ1.1 56 = 0) (e2 : σ2.1 56 = 0) (hU : KPu g1 g2 f w σ1 σ2 τ1 τ2) : KPx g1 g2 B1 h1 B2 h2 f w 0 σ1 σ2 τ1 τ2 g1 l1 h1 g2 l2 h2 :=
  ⟨⟨PuS_HS hU.1 hS1, fun _ z => z, Nat.le_refl _, fun i _ _ => by rw [hU.1.2.1 28 (by decide)]⟩, ⟨PuS_HS hU.2.1 hS2, fun _ z => z, Nat.le_refl _, fun i _ _ => by rw [hU.2.1.2.1 28 (by decide)]⟩, PuS_FW hU.1, PuS_FW hU.2.1, hU.1.2.2.2.1, hU.2.1.2.2.2.1, hU.2.2, (hU.1.1 56 (by decide)).trans e1, (hU.2.1.1 56 (by decide)).trans e2, by omega, by omega⟩
theorem KPh_mo {f w K K' : Nat} {τ1 τ2 : MS} (h : KPh g1 g2 B1 h1 B2 h2 f w K σ1 σ2 τ1 τ2) (hK : K ≤ K') : KPh g1 g2 B1 h1 B2 h2 f w K' σ1 σ2 τ1 τ2 := by
  obtain ⟨g1', l1', h1', g2', l2', h2', q1, q2, q3, q4, q5, q6, q7, q8, q9, q10, q11⟩ := h
  exact ⟨g1', l1', h1', g2', l2', h2', q1, q2, q3, q4, q5, q6, q7, q8, q9, by omega, by omega⟩
/-- a pair is made and pushed: well on both sides, or an error on both -/
theorem k_pairP {Q : Int32 × MS → Int32 × MS → Prop} {F1 F2 : Nat → Int32 × MS → Option (Int32 × MS)} {f w K : Nat} {τ1 τ2 : MS} (hS1 : HS g1 l1 B1 h1 σ1) (hS2 : HS g2 l2 B2 h2 σ2) (hX : KPh g1 g2 B1 h1 B2 h2 f w K σ1 σ2 τ1 τ2) (hfw : f + w + 2 ≤ 185000) (hr1 : h1 + K + 6 ≤ B1 + 870000) (hr2 : h2 + K + 6 ≤ B2 + 870000) {a1 a2 c1 c2 : Int32} (va : VC g1 g2 (σ1.2.2 28) (σ2.2.2 28) a1 a2) (vc : VC g1 g2 (σ1.2.2 28) (σ2.2.2 28) c1 c2) {L1 L2 : Nat → Int32} (d1 : L1 1 = a1) (d2 : L1 2 = c1) (f1 : L2 1 = a2) (f2 : L2 2 = c2) (hQ : ∀ s1 s2 : Int32 × MS, KPh g1 g2 B1 h1 B2 h2 f (w + 1) (K + 6) σ1 σ2 s1.2 s2.2 ∨ KE h1 h2 (K + 6) s1.2 s2.2 → Pm n (fun k => F1 k s1) (fun k => F2 k s2) Q) : Pm n (fun k => ob (x_pair k 0 L1 τ1) (fun r3 => ob (x_push k 0 (upd (fun _ => 0) 1 r3.1) r3.2) (F1 k))) (fun k => ob (x_pair k 0 L2 τ2) (fun r3 => ob (x_push k 0 (upd (fun _ => 0) 1 r3.1) r3.2) (F2 k))) Q := by
  obtain ⟨g1', l1', h1', g2', l2', h2', hX0⟩ := hX
  have hX := hX0
  obtain ⟨q1, q2, q3, q4, q5, q6, q7, q8, q9, q10, q11⟩ := hX
  have va := VC_g2 hS1 hS2 q1 q2 va
  have vc := VC_g2 hS1 hS2 q1 q2 vc
  obtain ⟨x1, x2, x3, x4, x5, x6, x7, x8, x9⟩ := va
  obtain ⟨y1, y2, y3, y4, y5, y6, y7, y8, y9⟩ := vc
  rw [x3] at d1
  rw [x5] at f1
  rw [y3] at d2
  rw [y5] at f2
  refine Pm_ob (Pm_un (s_pairW q1.1 ⟨0, q8, by decide⟩ q5 (by omega) x4 y4 d1 d2) (fun k => f_pair k _ _ _) (s_pairW q2.1 ⟨0, q9, by decide⟩ q6 (by omega) x6 y6 f1 f2) (fun k => f_pair k _ _ _) (k_pair q1.1 q2.1 q8 q9 q5 q6 (by omega) (by omega) (by omega) ⟨x1, x2, rfl, x4, rfl, x6, x7, x8, x9⟩ ⟨y1, y2, rfl, y4, rfl, y6, y7, y8, y9⟩ d1 d2 f1 f2)) (fun r1 r2 hr => ?_)
  obtain ⟨hq, v1, v2⟩ := hr
  refine Pm_ob (Pm_t2 (s_push (VO_59 v1) (by omega) _) (fun k => f_push k _ _ _) (s_push (VO_59 v2) (by omega) _) (fun k => f_push k _ _ _)) (fun u1 u2 hu => ?_)
  refine hQ u1 u2 ?_
  rw [hu.1, hu.2]
  by_cases er : r1.2.1 56 = 0
  · obtain ⟨g1'', l1'', h1'', g2'', l2'', h2'', a1, a2, a3, a4, a5, a6, a7, a8, a9, a10⟩ := KQ_gr (by omega) q1.1 q2.1 v1 v2 hq er
    exact Or.inl ⟨g1'', l1'', h1'', g2'', l2'', h2'', KPx_op (K' := 6) hX0 a1 a2 a3 a4 er a7 a8 a9 a10⟩
  · exact Or.inr (KE_pu (KE_of hq er (by omega) (by omega) (VO_E v1) (VO_E v2)))
theorem k_putMap {f v1 v2 a1 a2 q m : Nat} {x y : Int32} (hS1 : HS g1 l1 B1 h1 σ1) (hS2 : HS g2 l2 B2 h2 σ2) (e1 : σ1.1 56 = 0) (e2 : σ2.1 56 = 0) (t1 : σ1.1 59 = nI f) (t2 : σ2.1 59 = nI f) (hf : f ≤ 177000) (hr1 : h1 + 4004 ≤ B1 + 870000) (hr2 : h2 + 4004 ≤ B2 + 870000) (ha1 : a1 < 3 ∨ g1 a1) (ha2 : a2 < 3 ∨ g2 a2) (va : EVb (σ1.2.2 28) (σ2.2.2 28) a1 a2) (hx : VC g1 g2 (σ1.2.2 28) (σ2.2.2 28) x y) (hO : OE g1 g2 (σ1.2.2 28) (σ2.2.2 28) v1 v2 6 q) (hM : MpE g1 g2 (σ1.2.2 28) (σ2.2.2 28) v1 v2 q) (hq9 : q ≤ 999) {N1 N2 : Nat → Int32} (n1 : N1 1 = nI v1) (o1 : N2 1 = nI v2) (n2 : N1 2 = nI a1) (o2 : N2 2 = nI a2) (n3 : N1 3 = x) (o3 : N2 3 = y) : Pm m (fun k => x_putAt k 14 N1 σ1) (fun k => x_putAt k 14 N2 σ2) (KQ h1 h2 4004) := by
  have b17 : ∀ (m : Nat) (N1 N2 : Nat → Int32) (r1 r2 : Int32 × MS), N1 100 = r1.1 → N2 100 = r2.1 → KQ h1 h2 4004 r1 r2 → Pm m (fun k => x_putAt k 17 N1 r1.2) (fun k => x_putAt k 17 N2 r2.2) (KQ h1 h2 4004) := fun m N1 N2 r1 r2 u1 u2 hr => by
    refine Pm_suc rfl (fun k => by rw [x_putAt]) (fun k => by rw [x_putAt]) (fun m3 _ => ?_)
    rw [u1, u2]; exact Pm_some hr
  have b15 : ∀ (m w : Nat) (M1 M2 : Nat → Int32) (τ1 τ2 : MS), w ≤ 1000 → M1 5 = nI f → M2 5 = nI f → (KPh g1 g2 B1 h1 B2 h2 f w 6 σ1 σ2 τ1 τ2 ∨ KE h1 h2 6 τ1 τ2) → Pm m (fun k => x_putAt k 15 M1 τ1) (fun k => x_putAt k 15 M2 τ2) (KQ h1 h2 4004) := fun m w M1 M2 τ1 τ2 hw m5 o5 hK => by
    refine Pm_suc rfl (fun k => by rw [x_putAt]) (fun k => by rw [x_putAt]) (fun m3 _ => ?_)
    rcases hK with hK | hE
    · obtain ⟨g1', l1', h1', g2', l2', h2', q1, q2, q3, q4, q5, q6, q7, q8, q9, q10, q11⟩ := hK
      rw [q8, q9]
      refine Pm_ite Iff.rfl (fun _ _ => ?_) (fun z _ => absurd (by decide) z)
      refine Pm_suc rfl (fun k => by rw [x_putAt]) (fun k => by rw [x_putAt]) (fun m4 _ => ?_)
      exact Pm_ob (k_setOf q1.1 q2.1 q8 q9 q5 q6 (by omega) (by omega) (by omega) (by omega) q7 (by exact m5) (by exact o5)) (fun r1 r2 hr => b17 m4 _ _ r1 r2 rfl rfl (KQ_tr hr (by omega) (by omega)))
    · obtain ⟨z1, z2⟩ := KE_le hE
      refine Pm_ite ⟨fun z => absurd z z1, fun z => absurd z z2⟩ (fun z _ => absurd z z1) (fun _ _ => ?_)
      exact b17 m3 _ _ (0, τ1) (0, τ2) rfl rfl (KQ_mo (KE_Q hE) (by omega))
  refine Pm_suc rfl (fun k => by rw [x_putAt]) (fun k => by rw [x_putAt]) (fun m1 _ => ?_)
  refine Pm_ob (k_pushOthers hS1 hS2 t1 t2 hf hO hM ha1 ha2 va (by exact n1) (by exact o1) (by exact n2) (by exact o2)) (fun r1 r2 hr => ?_)
  obtain ⟨w, hw, hU⟩ := hr
  have hX : KPh g1 g2 B1 h1 B2 h2 f w 0 σ1 σ2 r1.2 r2.2 := ⟨g1, l1, h1, g2, l2, h2, KPu_Px hS1 hS2 e1 e2 hU⟩
  refine Pm_ite (by rw [n3, o3]; exact VC_0 hx) (fun _ _ => ?_) (fun _ _ => ?_)
  · exact b15 m1 w _ _ _ _ (by omega) t1 t2 (Or.inl (KPh_mo hX (by omega)))
  · exact k_pairP hS1 hS2 hX (by omega) (by omega) (by omega) (VC_ev hS1 hS2 ha1 ha2 va) hx (by exact n2) (by exact n3) (by exact o2) (by exact o3) (fun s1 s2 hs => b15 m1 (w + 1) _ _ _ _ (by omega) t1 t2 hs)
theorem k_putImage {f v1 v2 a1 a2 x1 x2 : Nat} (hS1 : HS g1 l1 B1 h1 σ1) (hS2 : HS g2 l2 B2 h2 σ2) (e1 : σ1.1 56 = 0) (e2 : σ2.1 56 = 0) (t1 : σ1.1 59 = nI f) (t2 : σ2.1 59 = nI f) (hf : f ≤ 177000) (hr1 : h1 + 8204 ≤ B1 + 870000) (hr2 : h2 + 8204 ≤ B2 + 870000) (hv1 : v1 < 3 ∨ g1 v1) (hv2 : v2 < 3 ∨ g2 v2) (hv : EVb (σ1.2.2 28) (σ2.2.2 28) v1 v2) (ha1 : a1 < 3 ∨ g1 a1) (ha2 : a2 < 3 ∨ g2 a2) (va : EVb (σ1.2.2 28) (σ2.2.2 28) a1 a2) (hx1 : x1 < 3 ∨ g1 x1) (hx2 : x2 < 3 ∨ g2 x2) (hx : EVb (σ1.2.2 28) (σ2.2.2 28) x1 x2) {L1 L2 : Nat → Int32} (d1 : L1 1 = nI v1) (f1 : L2 1 = nI v2) (d2 : L1 2 = nI a1) (f2 : L2 2 = nI a2) (d3 : L1 3 = nI x1) (f3 : L2 3 = nI x2) : Pm n (fun k => x_putImage k 0 L1 σ1) (fun k => x_putImage k 0 L2 σ2) (KQ h1 h2 8204) := by
  have kx := kdN_6 hS1 hx1
  have b1 : ∀ (m : Nat) (N1 N2 : Nat → Int32), Pm m (fun k => x_putImage k 1 N1 σ1) (fun k => x_putImage k 1 N2 σ2) (KQ h1 h2 8204) := fun m N1 N2 => by
    refine Pm_suc rfl (fun k => by rw [x_putImage]) (fun k => by rw [x_putImage]) (fun m3 _ => ?_)
    exact Pm_ob (k_wrongKind hS1 hS2 _ _) (fun r1 r2 hr => Pm_some hr)
  refine Pm_suc rfl (fun k => by rw [x_putImage]) (fun k => by rw [x_putImage]) (fun m1 _ => ?_)
  refine Pm_ob (k_isMapE hS1 hS2 hv1 hv2 hv (by exact d1) (by exact f1)) (fun r1 r2 hr => ?_)
  obtain ⟨c1, c2, c3, c4⟩ := hr
  rw [c2, c3, ← c1]
  refine Pm_ite Iff.rfl (fun _ _ => b1 m1 _ _) (fun z _ => ?_)
  obtain ⟨q, hO, hM⟩ := c4 z
  have hO0 := hO
  obtain ⟨gv1, gv2, _, _, _, o6, o7, _, _, _, o11, _, _, _, _, _, _⟩ := hO
  have hq9 := ob_n hS1 gv1 (by omega) o11 o6
  refine Pm_ob (Pm_t2 (s_kind hS1 hx1 (by exact d3)) (fun k => f_kind k _ _ _) (s_kind hS2 hx2 (by exact f3)) (fun k => f_kind k _ _ _)) (fun s1 s2 hs => ?_)
  rw [hs.1, hs.2, (EVb_sz hx).2.2]
  refine Pm_ite Iff.rfl (fun w _ => ?_) (fun _ _ => b1 m1 _ _)
  have w := (n_eq (q := 6) (by omega) (by decide)).mp w
  obtain ⟨k, p, hE⟩ := OE_of hS1 hS2 (kdN_ge hS1 hx1 (by omega)) hx2 hx
  obtain ⟨gx1, gx2, _, _, _, y6, y7, _, _, _, y11, y12, y13, y14, _, y16, _⟩ := hE
  have ca := y16 (by omega)
  have hp9 := ob_n hS1 gx1 (by omega) y11 y6
  have vb1 : B1 + 4 ≤ x1 ∧ x1 + 4 + p ≤ h1 := by
    obtain ⟨k', n', s', u', q1, q2, q3⟩ := HS_at hS1 gx1
    have hn := q1.2.2.2.2.2.2.2.1
    have h1 := q1.2.1
    rw [y11] at h1
    have := (n_eq (by omega) (by omega)).mp h1
    omega
  have vb2 : B2 + 4 ≤ x2 ∧ x2 + 4 + p ≤ h2 := by
    obtain ⟨k', n', s', u', q1, q2, q3⟩ := HS_at hS2 gx2
    have hn := q1.2.2.2.2.2.2.2.1
    have h1 := q1.2.1
    rw [y12] at h1
    have := (n_eq (by omega) (by omega)).mp h1
    omega
  have b6 : ∀ (m : Nat) (N1 N2 : Nat → Int32) (r1 r2 : Int32 × MS), N1 100 = r1.1 → N2 100 = r2.1 → KQ h1 h2 8204 r1 r2 → Pm m (fun k => x_putImage k 6 N1 r1.2) (fun k => x_putImage k 6 N2 r2.2) (KQ h1 h2 8204) := fun m N1 N2 r1 r2 u1 u2 hr => by
    refine Pm_suc rfl (fun k => by rw [x_putImage]) (fun k => by rw [x_putImage]) (fun m3 _ => ?_)
    rw [u1, u2]; exact Pm_some hr
  have b4E : ∀ (m : Nat) (M1 M2 : Nat → Int32) (τ1 τ2 : MS), KE h1 h2 8204 τ1 τ2 → Pm m (fun k => x_putImage k 4 M1 τ1) (fun k => x_putImage k 4 M2 τ2) (KQ h1 h2 8204) := fun m M1 M2 τ1 τ2 hE => by
    refine Pm_suc rfl (fun k => by rw [x_putImage]) (fun k => by rw [x_putImage]) (fun m3 _ => ?_)
    obtain ⟨z1, z2⟩ := KE_le hE
    refine Pm_ite ⟨fun z => absurd z z1, fun z => absurd z z2⟩ (fun z _ => absurd z z1) (fun _ _ => ?_)
    exact b6 m3 _ _ (0, τ1) (0, τ2) rfl rfl (KE_Q hE)
  have b4 : ∀ (m w : Nat) (M1 M2 : Nat → Int32) (τ1 τ2 : MS), w ≤ 2000 → M1 4 = nI f → M2 4 = nI f → KPh g1 g2 B1 h1 B2 h2 f w 6000 σ1 σ2 τ1 τ2 → Pm m (fun k => x_putImage k 4 M1 τ1) (fun k => x_putImage k 4 M2 τ2) (KQ h1 h2 8204) := fun m w M1 M2 τ1 τ2 hw m4 o4 hK => by
    refine Pm_suc rfl (fun k => by rw [x_putImage]) (fun k => by rw [x_putImage]) (fun m3 _ => ?_)
    obtain ⟨g1', l1', h1', g2', l2', h2', q1, q2, q3, q4, q5, q6, q7, q8, q9, q10, q11⟩ := hK
    rw [q8, q9]
    refine Pm_ite Iff.rfl (fun _ _ => ?_) (fun z _ => absurd (by decide) z)
    refine Pm_suc rfl (fun k => by rw [x_putImage]) (fun k => by rw [x_putImage]) (fun m5 _ => ?_)
    exact Pm_ob (k_setOf q1.1 q2.1 q8 q9 q5 q6 (by omega) (by omega) (by omega) (by omega) q7 (by exact m4) (by exact o4)) (fun r1 r2 hr => b6 m5 _ _ r1 r2 rfl rfl (KQ_tr hr (by omega) (by omega)))
  have b3 : ∀ (m i w : Nat) (M1 M2 : Nat → Int32) (τ1 τ2 : MS), i ≤ p → w ≤ q + i → M1 2 = nI a1 → M2 2 = nI a2 → M1 3 = nI x1 → M2 3 = nI x2 → M1 4 = nI f → M2 4 = nI f → M1 5 = nI i → M2 5 = nI i → KPh g1 g2 B1 h1 B2 h2 f w (6 * i) σ1 σ2 τ1 τ2 → Pm m (fun k => x_putImage k 3 M1 τ1) (fun k => x_putImage k 3 M2 τ2) (KQ h1 h2 8204) := by
    intro m
    induction m using Nat.strongRecOn with
    | ind m ih =>
    intro i w M1 M2 τ1 τ2 hi hw n2 o2 n3 o3 n4 o4 n5 o5 hK
    have hK0 := hK
    obtain ⟨g1', l1', h1', g2', l2', h2', q1, q2, q3, q4, q5, q6, q7, q8, q9, q10, q11⟩ := hK
    refine Pm_suc rfl (fun k => by rw [x_putImage]) (fun k => by rw [x_putImage]) (fun k1 hk1 => ?_)
    rw [n2, o2, n3, o3, n5, o5, n_add1 x1, n_add1 x2, n_cl (p := x1 + 1) (by omega), n_cl (p := x2 + 1) (by omega), show nI x1 + 4 = nI (x1 + 4) from n_add (q := 4) (by omega), show nI x2 + 4 = nI (x2 + 4) from n_add (q := 4) (by omega), n_add (p := x1 + 4) (by omega), n_add (p := x2 + 4) (by omega), n_cl (p := x1 + 4 + i) (by omega), n_cl (p := x2 + 4 + i) (by omega), q1.2.2.2 (x1 + 1) (by omega) (by omega), q2.2.2.2 (x2 + 1) (by omega) (by omega), y11, y12, q8, q9]
    refine Pm_chk (fun _ _ => ?_)
    refine Pm_ite Iff.rfl (fun _ _ => b4 k1 w _ _ _ _ (by omega) n4 o4 (KPh_mo hK0 (by omega))) (fun z _ => ?_)
    have hip : i < p := by
      by_cases c : i < p
      · exact c
      · exact absurd ((n_le (by omega) (by omega)).mpr (by omega)) z
    refine Pm_ite Iff.rfl (fun _ _ => ?_) (fun z _ => absurd rfl z)
    refine Pm_chk (fun _ _ => ?_)
    rw [q1.2.2.2 (x1 + 4 + i) (by omega) (by omega), q2.2.2.2 (x2 + 4 + i) (by omega) (by omega)]
    refine k_pairP hS1 hS2 hK0 (by omega) (by omega) (by omega) (VC_ev hS1 hS2 ha1 ha2 va) (ca i hip) rfl rfl rfl rfl (fun s1 s2 hs => ?_)
    rw [n_add1]
    rcases hs with hs | hs
    · exact ih k1 (by omega) (i + 1) (w + 1) _ _ _ _ (by omega) (by omega) n2 o2 n3 o3 n4 o4 rfl rfl (by rw [show 6 * (i + 1) = 6 * i + 6 by omega]; exact hs)
    · have hE := KE_mo (K' := 8204) hs (by omega)
      refine Pm_suc rfl (fun k => by rw [x_putImage]) (fun k => by rw [x_putImage]) (fun k2 hk2 => ?_)
      have u1 : upd M1 5 (nI (i + 1)) 3 = nI x1 := n3
      have u2 : upd M2 5 (nI (i + 1)) 3 = nI x2 := o3
      rw [u1, u2]
      refine Pm_chk (fun _ _ => ?_)
      refine Pm_ite4 (fun _ _ => b4E k2 _ _ _ _ hE) (fun _ _ => ?_) (fun _ _ => ?_) (fun _ _ => ?_)
      · exact Pm_if2 hE.2.1 (b4E k2 _ _ _ _ hE)
      · exact Pm_if1 hE.1 (b4E k2 _ _ _ _ hE)
      · exact Pm_ite ⟨fun z => absurd z hE.1, fun z => absurd z hE.2.1⟩ (fun z _ => absurd z hE.1) (fun _ _ => b4E k2 _ _ _ _ hE)
  refine Pm_suc rfl (fun k => by rw [x_putImage]) (fun k => by rw [x_putImage]) (fun m2 _ => ?_)
  refine Pm_ob (k_pushOthers hS1 hS2 t1 t2 hf hO0 hM ha1 ha2 va (by exact d1) (by exact f1) (by exact d2) (by exact f2)) (fun r1 r2 hr => ?_)
  obtain ⟨w, hw, hU⟩ := hr
  rw [t1, t2]
  exact b3 m2 0 w _ _ _ _ (Nat.zero_le _) (by omega) d2 f2 d3 f3 rfl rfl rfl rfl ⟨g1, l1, h1, g2, l2, h2, KPu_Px hS1 hS2 e1 e2 hU⟩
end KPA
end JnS189
section JnS190
/-! Two runs side by side (reference): parts are written. -/
section KPB
variable {g1 g2 : Nat → Prop} {l1 l2 : List Nat} {B1 h1 B2 h2 n : Nat} {σ1 σ2 : MS}
/-- what putting bytes into row 51 changes -/
def B51 (σ τ : MS) : Prop := (∀ j, τ.1 j = σ.1 j) ∧ (∀ j, j ≠ 51 → τ.2.2 j = σ.2.2 j)
theorem B51_rf {σ : MS} : B51 σ σ := ⟨fun _ => rfl, fun _ _ => rfl⟩
theorem B51_w {σ τ : MS} {i : Nat} {x : Int32} (h : B51 σ τ) : B51 σ (mAr τ 51 i x) := ⟨h.1, fun j hj => (mAr_o hj).trans (h.2 j hj)⟩
theorem B51_HS {g : Nat → Prop} {l : List Nat} {B h : Nat} {σ τ : MS} (hN : B51 σ τ) (hS : HS g l B h σ) : HS g l B h τ := HS_c hS (hN.1 54) (hN.1 55) (hN.2 28 (by decide))
theorem k_str51 {w : Nat} {τ1 τ2 : MS} (hS1 : HS g1 l1 B1 h1 σ1) (hS2 : HS g2 l2 B2 h2 σ2) (e1 : σ1.1 56 = 0) (e2 : σ2.1 56 = 0) (hr1 : h1 + 4004 ≤ B1 + 870000) (hr2 : h2 + 4004 ≤ B2 + 870000) (b1 : B51 σ1 τ1) (b2 : B51 σ2 τ2) (hw : w ≤ 8200) (hA : AgN (τ1.2.2 51) (τ2.2.2 51) w) {L1 L2 : Nat → Int32} (d2 : L1 2 = 0) (f2 : L2 2 = 0) (d3 : L1 3 = nI w) (f3 : L2 3 = nI w) : Pm n (fun k => x_stringOf__51 k 0 L1 τ1) (fun k => x_stringOf__51 k 0 L2 τ2) (KQ h1 h2 4004) :=
  k_stringOf51 (f1 := 0) (f2 := 0) (w := w) (B51_HS b1 hS1) (B51_HS b2 hS2) ((b1.1 56).trans e1) ((b2.1 56).trans e2) hr1 hr2 (by omega) (fun _ => by omega) (fun _ => by omega) (fun i hi => by rw [Nat.zero_add]; exact hA i hi) d2 f2 d3 f3
/-- one byte more, from two cells alike -/
theorem AgN_w51 {τ1 τ2 : MS} {w : Nat} {x y : Int32} (hA : AgN (τ1.2.2 51) (τ2.2.2 51) w) (e : x = y) : AgN ((mAr τ1 51 w x).2.2 51) ((mAr τ2 51 w y).2.2 51) (w + 1) := by
  rw [mAr_s, mAr_s]; exact AgN_up hA e
theorem k_putStr {v1 v2 x1 x2 q p m : Nat} (hS1 : HS g1 l1 B1 h1 σ1) (hS2 : HS g2 l2 B2 h2 σ2) (e1 : σ1.1 56 = 0) (e2 : σ2.1 56 = 0) (hr1 : h1 + 4004 ≤ B1 + 870000) (hr2 : h2 + 4004 ≤ B2 + 870000) (hO : OE g1 g2 (σ1.2.2 28) (σ2.2.2 28) v1 v2 4 q) (hX : OE g1 g2 (σ1.2.2 28) (σ2.2.2 28) x1 x2 4 1) (hp1 : 1 ≤ p) (hp : p ≤ q + 1) {N1 N2 : Nat → Int32} (n1 : N1 1 = nI v1) (o1 : N2 1 = nI v2) (n3 : N1 3 = nI x1) (o3 : N2 3 = nI x2) (n5 : N2 5 = nI p) (n6 : N2 6 = nI q) (n7 : N2 7 = nI 0) (hN : LEn 4 N1 N2) : Pm m (fun k => x_putAt k 6 N1 σ1) (fun k => x_putAt k 6 N2 σ2) (KQ h1 h2 4004) := by
  obtain ⟨_, _, _, _, _, o6, o7, _, _, _, o11, o12, o13, o14, _, _, o17⟩ := hO
  obtain ⟨_, _, _, _, _, _, _, _, _, _, _, _, x13, x14, _, _, x17⟩ := hX
  have ca := o17 (by omega)
  have cx := x17 (by omega) 0 (by omega)
  have lp : ∀ (m i : Nat) (M1 M2 : Nat → Int32) (τ1 τ2 : MS), i ≤ q → M1 1 = nI v1 → M2 1 = nI v2 → M1 3 = nI x1 → M2 3 = nI x2 → M2 5 = nI p → M2 6 = nI q → M2 7 = nI i → LEn 4 M1 M2 → B51 σ1 τ1 → B51 σ2 τ2 → AgN (τ1.2.2 51) (τ2.2.2 51) i → Pm m (fun k => x_putAt k 6 M1 τ1) (fun k => x_putAt k 6 M2 τ2) (KQ h1 h2 4004) := by
    intro m
    induction m using Nat.strongRecOn with
    | ind m ih =>
    intro i M1 M2 τ1 τ2 hi n1 o1 n3 o3 n5 n6 n7 hN b1 b2 hA
    have a28 : τ1.2.2 28 = σ1.2.2 28 := b1.2 28 (by decide)
    have b28 : τ2.2.2 28 = σ2.2.2 28 := b2.2 28 (by decide)
    refine Pm_suc rfl (fun k => by rw [x_putAt]) (fun k => by rw [x_putAt]) (fun k1 hk1 => ?_)
    rw [n1, o1, hN 6 (by omega), hN 7 (by omega), n6, n7, show nI v1 + 4 = nI (v1 + 4) from n_add (q := 4) (by omega), show nI v2 + 4 = nI (v2 + 4) from n_add (q := 4) (by omega), n_add (p := v1 + 4) (by omega), n_add (p := v2 + 4) (by omega), n_cl (p := v1 + 4 + i) (by omega), n_cl (p := v2 + 4 + i) (by omega), n_cl (p := i) (by omega), a28, b28]
    refine Pm_ite Iff.rfl (fun z _ => ?_) (fun z _ => ?_)
    · have z := (n_le (by omega) (by omega)).mp z
      have hiq : i = q := by omega
      subst hiq
      refine Pm_suc rfl (fun k => by rw [x_putAt]) (fun k => by rw [x_putAt]) (fun k2 hk2 => ?_)
      rw [n3, o3, hN 5 (by omega), n5, show nI x1 + 4 = nI (x1 + 4) from n_add (q := 4) (by omega), show nI x2 + 4 = nI (x2 + 4) from n_add (q := 4) (by omega), n_cl (p := x1 + 4) (by omega), n_cl (p := x2 + 4) (by omega), show nI p - 1 = nI (p - 1) from n_sub (p := p) (q := 1) (by omega) (by omega), n_cl (p := p - 1) (by omega), a28, b28]
      refine Pm_chk (fun _ _ => ?_)
      refine Pm_chk (fun _ _ => ?_)
      show Pm k2 (fun k => x_putAt k 9 M1 (mAr τ1 51 (p - 1) (σ1.2.2 28 (x1 + 4)))) (fun k => x_putAt k 9 M2 (mAr τ2 51 (p - 1) (σ2.2.2 28 (x2 + 4)))) _
      have hA' : AgN ((mAr τ1 51 (p - 1) (σ1.2.2 28 (x1 + 4))).2.2 51) ((mAr τ2 51 (p - 1) (σ2.2.2 28 (x2 + 4))).2.2 51) (if p ≤ i then i else i + 1) := by
        rw [mAr_s, mAr_s]
        by_cases c : p ≤ i
        · rw [if_pos c]; exact AgN_st hA cx.symm
        · rw [if_neg c, show p - 1 = i by omega]; exact AgN_up hA cx.symm
      have c11 : ∀ (m' w : Nat) (O1 O2 : Nat → Int32), w ≤ i + 1 → w ≤ (if p ≤ i then i else i + 1) → O1 101 = 0 → O2 101 = 0 → O1 100 = nI w → O2 100 = nI w → Pm m' (fun k => x_putAt k 11 O1 (mAr τ1 51 (p - 1) (σ1.2.2 28 (x1 + 4)))) (fun k => x_putAt k 11 O2 (mAr τ2 51 (p - 1) (σ2.2.2 28 (x2 + 4)))) (KQ h1 h2 4004) := fun m' w O1 O2 hw hw2 s1 s2 s3 s4 => by
        refine Pm_suc rfl (fun k => by rw [x_putAt]) (fun k => by rw [x_putAt]) (fun k3 hk3 => ?_)
        exact Pm_ob (k_str51 hS1 hS2 e1 e2 hr1 hr2 (B51_w b1) (B51_w b2) (w := w) (by omega) (AgN_mo hA' hw2) (by exact s1) (by exact s2) (by exact s3) (by exact s4)) (fun r1 r2 hr => Pm_some hr)
      refine Pm_suc rfl (fun k => by rw [x_putAt]) (fun k => by rw [x_putAt]) (fun k3 hk3 => ?_)
      rw [hN 5 (by omega), hN 6 (by omega), n5, n6, n_add1]
      refine Pm_ite Iff.rfl (fun z _ => ?_) (fun z _ => ?_)
      · have z := (n_le (by omega) (by omega)).mp z
        refine Pm_suc rfl (fun k => by rw [x_putAt]) (fun k => by rw [x_putAt]) (fun k4 hk4 => ?_)
        exact c11 k4 i _ _ (by omega) (by rw [if_pos z]; exact Nat.le_refl _) rfl rfl (by show M1 6 = _; rw [hN 6 (by omega), n6]) n6
      · have z : ¬ p ≤ i := fun c => z ((n_le (by omega) (by omega)).mpr c)
        exact c11 k3 (i + 1) _ _ (Nat.le_refl _) (by rw [if_neg z]; exact Nat.le_refl _) rfl rfl rfl rfl
    have hiq : i < q := by
      by_cases c : i < q
      · exact c
      · exact absurd ((n_le (by omega) (by omega)).mpr (by omega)) z
    refine Pm_chk (fun _ _ => ?_)
    refine Pm_chk (fun _ _ => ?_)
    show Pm k1 (fun k => x_putAt k 7 M1 (mAr τ1 51 i (σ1.2.2 28 (v1 + 4 + i)))) (fun k => x_putAt k 7 M2 (mAr τ2 51 i (σ2.2.2 28 (v2 + 4 + i)))) _
    refine Pm_suc rfl (fun k => by rw [x_putAt]) (fun k => by rw [x_putAt]) (fun k2 hk2 => ?_)
    exact ih k2 (by omega) (i + 1) _ _ _ _ (by omega) n1 o1 n3 o3 n5 n6 (by show M2 7 + 1 = _; rw [n7, n_add1]) (LEn_u hN (by rw [hN 7 (by omega)])) (B51_w b1) (B51_w b2) (AgN_w51 hA (ca i hiq).symm)
  exact lp m 0 N1 N2 σ1 σ2 (Nat.zero_le _) n1 o1 n3 o3 n5 n6 n7 hN B51_rf B51_rf (fun i hi => absurd hi (Nat.not_lt_zero i))
theorem k_putAt {f v1 v2 a1 a2 x1 x2 : Nat} (hS1 : HS g1 l1 B1 h1 σ1) (hS2 : HS g2 l2 B2 h2 σ2) (e1 : σ1.1 56 = 0) (e2 : σ2.1 56 = 0) (t1 : σ1.1 59 = nI f) (t2 : σ2.1 59 = nI f) (hf : f ≤ 177000) (hr1 : h1 + 4004 ≤ B1 + 870000) (hr2 : h2 + 4004 ≤ B2 + 870000) (hv1 : v1 < 3 ∨ g1 v1) (hv2 : v2 < 3 ∨ g2 v2) (hv : EVb (σ1.2.2 28) (σ2.2.2 28) v1 v2) (ha1 : a1 < 3 ∨ g1 a1) (ha2 : a2 < 3 ∨ g2 a2) (va : EVb (σ1.2.2 28) (σ2.2.2 28) a1 a2) (hx1 : x1 < 3 ∨ g1 x1) (hx2 : x2 < 3 ∨ g2 x2) (hx : EVb (σ1.2.2 28) (σ2.2.2 28) x1 x2) {L1 L2 : Nat → Int32} (d1 : L1 1 = nI v1) (f1 : L2 1 = nI v2) (d2 : L1 2 = nI a1) (f2 : L2 2 = nI a2) (d3 : L1 3 = nI x1) (f3 : L2 3 = nI x2) (hL : LEn 4 L1 L2) : Pm n (fun k => x_putAt k 0 L1 σ1) (fun k => x_putAt k 0 L2 σ2) (KQ h1 h2 4004) := by
  have kv := kdN_6 hS1 hv1
  have ka := kdN_6 hS1 ha1
  have kx := kdN_6 hS1 hx1
  have b2 : ∀ (m : Nat) (N1 N2 : Nat → Int32), Pm m (fun k => x_putAt k 2 N1 σ1) (fun k => x_putAt k 2 N2 σ2) (KQ h1 h2 4004) := fun m N1 N2 => by
    refine Pm_suc rfl (fun k => by rw [x_putAt]) (fun k => by rw [x_putAt]) (fun m3 _ => ?_)
    exact Pm_ob (k_wrongKind hS1 hS2 _ _) (fun r1 r2 hr => Pm_some hr)
  have b4 : ∀ (m : Nat) (N1 N2 : Nat → Int32), Pm m (fun k => x_putAt k 4 N1 σ1) (fun k => x_putAt k 4 N2 σ2) (KQ h1 h2 4004) := fun m N1 N2 => by
    refine Pm_suc rfl (fun k => by rw [x_putAt]) (fun k => by rw [x_putAt]) (fun m3 _ => ?_)
    refine Pm_ob (k_fail (K := 4004) (e := 4) (by decide) hS1 hS2 rfl rfl) (fun r1 r2 hr => ?_)
    rw [hr.1, hr.2.1]
    exact Pm_some hr.2.2
  -- a string or a tuple
  have b3 : (kdN (σ1.2.2 28) v1 = 4 ∨ kdN (σ1.2.2 28) v1 = 5) → kdN (σ1.2.2 28) a1 = 2 → (kdN (σ1.2.2 28) v1 = 4 → OE g1 g2 (σ1.2.2 28) (σ2.2.2 28) x1 x2 4 1) → ∀ (m : Nat) (N1 N2 : Nat → Int32), N1 1 = nI v1 → N2 1 = nI v2 → N1 2 = nI a1 → N2 2 = nI a2 → N1 3 = nI x1 → N2 3 = nI x2 → N2 4 = nI (kdN (σ1.2.2 28) v1) → LEn 4 N1 N2 → Pm m (fun k => x_putAt k 3 N1 σ1) (fun k => x_putAt k 3 N2 σ2) (KQ h1 h2 4004) := by
    intro hk hka hkx m N1 N2 n1 o1 n2 o2 n3 o3 n4 hN
    obtain ⟨k, q, hO⟩ := OE_of hS1 hS2 (kdN_ge hS1 hv1 (by omega)) hv2 hv
    have hO0 := hO
    obtain ⟨gv1, gv2, _, _, _, o6, o7, _, _, _, o11, o12, o13, o14, _, _, _⟩ := hO
    obtain ⟨w, hW⟩ := WhE_of hS1 hS2 ha1 ha2 va hka
    have b5 : ∀ (m p : Nat) (M1 M2 : Nat → Int32), 1 ≤ p → p ≤ 100001 → (k = 4 → p ≤ q + 1) → M1 1 = nI v1 → M2 1 = nI v2 → M1 3 = nI x1 → M2 3 = nI x2 → M2 4 = nI k → M2 5 = nI p → M2 6 = nI q → LEn 4 M1 M2 → Pm m (fun k => x_putAt k 5 M1 σ1) (fun k => x_putAt k 5 M2 σ2) (KQ h1 h2 4004) := by
      intro m p M1 M2 hp1 hp hp4 n1 o1 n3 o3 n4 n5 n6 hM
      refine Pm_suc rfl (fun k => by rw [x_putAt]) (fun k => by rw [x_putAt]) (fun m3 _ => ?_)
      rw [hM 4 (by omega), n4]
      refine Pm_ite Iff.rfl (fun z _ => ?_) (fun z _ => ?_)
      · have z := (n_eq (q := 4) (by omega) (by decide)).mp z
        subst z
        exact k_putStr hS1 hS2 e1 e2 hr1 hr2 hO0 (hkx o7) hp1 (hp4 rfl) n1 o1 n3 o3 n5 n6 rfl (LEn_u hM rfl)
      · have hk5 : k = 5 := by
          have : ¬ k = 4 := fun c => z (by rw [c]; rfl)
          omega
        subst hk5
        refine Pm_suc rfl (fun k => by rw [x_putAt]) (fun k => by rw [x_putAt]) (fun m4 _ => ?_)
        exact Pm_ob (k_putPlace hS1 hS2 e1 e2 t1 t2 hf hr1 hr2 hO0 hp (VC_ev hS1 hS2 hx1 hx2 hx) (by exact n1) (by exact o1) (by show M1 5 = _; rw [hM 5 (by omega), n5]) (by exact n5) (by exact n3) (by exact o3)) (fun r1 r2 hr => Pm_some hr)
    refine Pm_suc rfl (fun k => by rw [x_putAt]) (fun k => by rw [x_putAt]) (fun m3 _ => ?_)
    refine Pm_ob (Pm_un (s_intOf hS1 hW.1 (b := 100000) (by decide) (by exact n2) rfl) (fun k => f_intOf k _ _ _ _) (s_intOf hS2 hW.2.1 (b := 100000) (by decide) (by exact o2) rfl) (fun k => f_intOf k _ _ _ _) (k_intOf hS1 hS2 hW (by exact n2) (by exact o2) rfl)) (fun r1 r2 hr => ?_)
    obtain ⟨c0, ⟨c1, y, y1, y2, y3⟩, ⟨c2, _⟩⟩ := hr
    rw [c1, c2, ← c0, n1, o1, n_add1, n_add1, n_cl (p := v1 + 1) (by omega), n_cl (p := v2 + 1) (by omega), o11, o12, hN 4 (by omega), n4, o7]
    rw [o7] at n4
    refine Pm_chk (fun _ _ => ?_)
    refine Pm_ite Iff.rfl (fun _ _ => b4 _ _ _) (fun z _ => ?_)
    have x1e : (1 : Int32).toInt = 1 := rfl
    have z1 : 1 ≤ r1.1.toInt := by rw [i_lt, x1e] at z; omega
    have ey := sg_pos y1 y2 (by omega)
    have hy1 : 1 ≤ y := by rw [ey, n_int (by omega)] at z1; omega
    rw [ey, n_add1]
    refine Pm_ite Iff.rfl (fun z4 _ => ?_) (fun z4 _ => ?_)
    · refine Pm_ite Iff.rfl (fun z5 _ => ?_) (fun _ _ => b4 _ _ _)
      have z5 := (n_le (by omega) (by omega)).mp z5
      exact b5 m3 y _ _ hy1 y1 (fun _ => z5) n1 o1 n3 o3 n4 rfl rfl (LEn_u (LEn_u hN rfl) rfl)
    · exact b5 m3 y _ _ hy1 y1 (fun c => absurd (by rw [c]; rfl) z4) n1 o1 n3 o3 n4 rfl rfl (LEn_u (LEn_u hN rfl) rfl)
  have b1 : (kdN (σ1.2.2 28) v1 = 4 ∨ kdN (σ1.2.2 28) v1 = 5) → ∀ (m : Nat) (N1 N2 : Nat → Int32), N1 1 = nI v1 → N2 1 = nI v2 → N1 2 = nI a1 → N2 2 = nI a2 → N1 3 = nI x1 → N2 3 = nI x2 → N2 4 = nI (kdN (σ1.2.2 28) v1) → LEn 4 N1 N2 → Pm m (fun k => x_putAt k 1 N1 σ1) (fun k => x_putAt k 1 N2 σ2) (KQ h1 h2 4004) := by
    intro hk m N1 N2 n1 o1 n2 o2 n3 o3 n4 hN
    refine Pm_suc rfl (fun k => by rw [x_putAt]) (fun k => by rw [x_putAt]) (fun m3 _ => ?_)
    refine Pm_ob (Pm_t2 (s_kind hS1 ha1 (by exact n2)) (fun k => f_kind k _ _ _) (s_kind hS2 ha2 (by exact o2)) (fun k => f_kind k _ _ _)) (fun s1 s2 hs => ?_)
    rw [hs.1, hs.2, (EVb_sz va).2.2, hN 4 (by omega), n4]
    refine Pm_ite Iff.rfl (fun w _ => ?_) (fun _ _ => b2 _ _ _)
    have w := (n_eq (q := 2) (by omega) (by decide)).mp w
    refine Pm_ite Iff.rfl (fun w4 _ => ?_) (fun w4 _ => b3 hk w (fun e => absurd (by rw [e]; rfl) w4) m3 N1 N2 n1 o1 n2 o2 n3 o3 n4 hN)
    refine Pm_ob (Pm_t2 (s_kind hS1 hx1 (by exact n3)) (fun k => f_kind k _ _ _) (s_kind hS2 hx2 (by exact o3)) (fun k => f_kind k _ _ _)) (fun u1 u2 hu => ?_)
    rw [hu.1, hu.2, (EVb_sz hx).2.2]
    refine Pm_ite Iff.rfl (fun w5 _ => ?_) (fun _ _ => b2 _ _ _)
    have w5 := (n_eq (q := 4) (by omega) (by decide)).mp w5
    obtain ⟨kk, c, hX⟩ := OE_of hS1 hS2 (kdN_ge hS1 hx1 (by omega)) hx2 hx
    have hX0 := hX
    obtain ⟨_, _, _, _, _, x6, x7, _, _, _, x11, x12, x13, x14, _, _, _⟩ := hX
    rw [n3, o3, n_add1, n_add1, n_cl (p := x1 + 1) (by omega), n_cl (p := x2 + 1) (by omega), x11, x12]
    refine Pm_chk (fun _ _ => ?_)
    refine Pm_ite Iff.rfl (fun w6 _ => ?_) (fun _ _ => b2 _ _ _)
    have w6 := (n_eq (q := 1) (by omega) (by decide)).mp w6
    subst w6
    have hkk : kk = 4 := by omega
    subst hkk
    exact b3 hk w (fun _ => hX0) m3 N1 N2 n1 o1 n2 o2 n3 o3 n4 hN
  refine Pm_suc rfl (fun k => by rw [x_putAt]) (fun k => by rw [x_putAt]) (fun m1 _ => ?_)
  refine Pm_ob (Pm_t2 (s_kind hS1 hv1 (by exact d1)) (fun k => f_kind k _ _ _) (s_kind hS2 hv2 (by exact f1)) (fun k => f_kind k _ _ _)) (fun r1 r2 hr => ?_)
  rw [hr.1, hr.2, (EVb_sz hv).2.2]
  refine Pm_ite Iff.rfl (fun w _ => b1 (Or.inr ((n_eq (q := 5) (by omega) (by decide)).mp w)) m1 _ _ d1 f1 d2 f2 d3 f3 rfl (LEn_u hL rfl)) (fun _ _ => ?_)
  refine Pm_ite Iff.rfl (fun w _ => b1 (Or.inl ((n_eq (q := 4) (by omega) (by decide)).mp w)) m1 _ _ d1 f1 d2 f2 d3 f3 rfl (LEn_u hL rfl)) (fun _ _ => ?_)
  -- a map
  refine Pm_suc rfl (fun k => by rw [x_putAt]) (fun k => by rw [x_putAt]) (fun m2 _ => ?_)
  refine Pm_ob (k_isMapE hS1 hS2 hv1 hv2 hv (by exact d1) (by exact f1)) (fun r1 r2 hr => ?_)
  obtain ⟨c1, c2, c3, c4⟩ := hr
  rw [c2, c3, ← c1]
  refine Pm_ite Iff.rfl (fun _ _ => Pm_ob (k_wrongKind hS1 hS2 _ _) (fun r1 r2 hr => Pm_some hr)) (fun z _ => ?_)
  obtain ⟨q, hO, hM⟩ := c4 z
  have hO0 := hO
  obtain ⟨gv1, gv2, _, _, _, o6, o7, _, _, _, o11, _, _, _, _, _, _⟩ := hO
  have hq9 := ob_n hS1 gv1 (by omega) o11 o6
  exact k_putMap hS1 hS2 e1 e2 t1 t2 hf hr1 hr2 ha1 ha2 va (VC_ev hS1 hS2 hx1 hx2 hx) hO0 hM hq9 d1 f1 d2 f2 d3 f3
end KPB
end JnS190
section JnS191
/-! Two runs side by side (reference): a slice is written. -/
section KSL
variable {g1 g2 : Nat → Prop} {l1 l2 : List Nat} {B1 h1 B2 h2 n : Nat} {σ1 σ2 : MS}
def SLl (v x q p c i : Nat) (N : Nat → Int32) : Prop := N 1 = nI v ∧ N 4 = nI x ∧ N 5 = nI q ∧ N 6 = nI p ∧ N 7 = nI c ∧ N 8 = nI i
theorem k_ptS4 {v1 v2 x1 x2 q p y w m : Nat} (hS1 : HS g1 l1 B1 h1 σ1) (hS2 : HS g2 l2 B2 h2 σ2) (e1 : σ1.1 56 = 0) (e2 : σ2.1 56 = 0) (hr1 : h1 + 4004 ≤ B1 + 870000) (hr2 : h2 + 4004 ≤ B2 + 870000) (hO : OE g1 g2 (σ1.2.2 28) (σ2.2.2 28) v1 v2 4 q) (hX : OE g1 g2 (σ1.2.2 28) (σ2.2.2 28) x1 x2 4 p) (s1 : σ1.1 100 = nI y) (s2 : σ1.1 101 = nI w) (u1 : σ2.1 100 = nI y) (u2 : σ2.1 101 = nI w) (hy : 1 ≤ y) (hyw : y ≤ w + 1) (hw : w ≤ q) {N1 N2 : Nat → Int32} (hN1 : SLl v1 x1 q p 0 0 N1) (hN2 : SLl v2 x2 q p 0 0 N2) : Pm m (fun k => x_putSlice k 4 N1 σ1) (fun k => x_putSlice k 4 N2 σ2) (KQ h1 h2 8204) := by
  obtain ⟨_, _, _, _, _, o6, o7, _, _, _, o11, o12, o13, o14, _, _, o17⟩ := hO
  obtain ⟨_, _, _, _, _, x6, x7, _, _, _, x11, x12, x13, x14, _, _, x17⟩ := hX
  have ca := o17 (by omega)
  have cx := x17 (by omega)
  have c10 : ∀ (m i c : Nat) (M1 M2 : Nat → Int32) (τ1 τ2 : MS), w ≤ i → i ≤ q → c + w = y - 1 + p + i → SLl v1 x1 q p c i M1 → SLl v2 x2 q p c i M2 → B51 σ1 τ1 → B51 σ2 τ2 → AgN (τ1.2.2 51) (τ2.2.2 51) c → Pm m (fun k => x_putSlice k 10 M1 τ1) (fun k => x_putSlice k 10 M2 τ2) (KQ h1 h2 8204) := by
    intro m
    induction m using Nat.strongRecOn with
    | ind m ih =>
    intro i c M1 M2 τ1 τ2 hwi hi hc hM1 hM2 b1 b2 hA
    have a28 : τ1.2.2 28 = σ1.2.2 28 := b1.2 28 (by decide)
    have b28 : τ2.2.2 28 = σ2.2.2 28 := b2.2 28 (by decide)
    refine Pm_suc rfl (fun k => by rw [x_putSlice]) (fun k => by rw [x_putSlice]) (fun k1 hk1 => ?_)
    rw [hM1.1, hM2.1, hM1.2.2.1, hM2.2.2.1, hM1.2.2.2.2.1, hM2.2.2.2.2.1, hM1.2.2.2.2.2, hM2.2.2.2.2.2, show nI v1 + 4 = nI (v1 + 4) from n_add (q := 4) (by omega), show nI v2 + 4 = nI (v2 + 4) from n_add (q := 4) (by omega), n_add (p := v1 + 4) (by omega), n_add (p := v2 + 4) (by omega), n_cl (p := v1 + 4 + i) (by omega), n_cl (p := v2 + 4 + i) (by omega), n_cl (p := c) (by omega), a28, b28]
    refine Pm_ite Iff.rfl (fun z _ => ?_) (fun z _ => ?_)
    · refine Pm_suc rfl (fun k => by rw [x_putSlice]) (fun k => by rw [x_putSlice]) (fun k2 hk2 => ?_)
      exact Pm_ob (k_str51 hS1 hS2 e1 e2 hr1 hr2 b1 b2 (w := c) (by omega) hA rfl rfl (by exact hM1.2.2.2.2.1) (by exact hM2.2.2.2.2.1)) (fun r1 r2 hr => Pm_some (KQ_mo hr (by omega)))
    have hiq : i < q := by
      by_cases d : i < q
      · exact d
      · exact absurd ((n_le (by omega) (by omega)).mpr (by omega)) z
    refine Pm_chk (fun _ _ => ?_)
    refine Pm_chk (fun _ _ => ?_)
    show Pm k1 (fun k => x_putSlice k 11 M1 (mAr τ1 51 c (σ1.2.2 28 (v1 + 4 + i)))) (fun k => x_putSlice k 11 M2 (mAr τ2 51 c (σ2.2.2 28 (v2 + 4 + i)))) _
    refine Pm_suc rfl (fun k => by rw [x_putSlice]) (fun k => by rw [x_putSlice]) (fun k2 hk2 => ?_)
    rw [hM1.2.2.2.2.1, hM2.2.2.2.2.1, hM1.2.2.2.2.2, hM2.2.2.2.2.2, n_add1, n_add1]
    exact ih k2 (by omega) (i + 1) (c + 1) _ _ _ _ (by omega) (by omega) (by omega) ⟨hM1.1, hM1.2.1, hM1.2.2.1, hM1.2.2.2.1, rfl, rfl⟩ ⟨hM2.1, hM2.2.1, hM2.2.2.1, hM2.2.2.2.1, rfl, rfl⟩ (B51_w b1) (B51_w b2) (AgN_w51 hA (ca i hiq).symm)
  have c7 : ∀ (m i c : Nat) (M1 M2 : Nat → Int32) (τ1 τ2 : MS), i ≤ p → c = y - 1 + i → SLl v1 x1 q p c i M1 → SLl v2 x2 q p c i M2 → B51 σ1 τ1 → B51 σ2 τ2 → AgN (τ1.2.2 51) (τ2.2.2 51) c → Pm m (fun k => x_putSlice k 7 M1 τ1) (fun k => x_putSlice k 7 M2 τ2) (KQ h1 h2 8204) := by
    intro m
    induction m using Nat.strongRecOn with
    | ind m ih =>
    intro i c M1 M2 τ1 τ2 hi hc hM1 hM2 b1 b2 hA
    have a28 : τ1.2.2 28 = σ1.2.2 28 := b1.2 28 (by decide)
    have b28 : τ2.2.2 28 = σ2.2.2 28 := b2.2 28 (by decide)
    refine Pm_suc rfl (fun k => by rw [x_putSlice]) (fun k => by rw [x_putSlice]) (fun k1 hk1 => ?_)
    rw [hM1.2.1, hM2.2.1, hM1.2.2.2.1, hM2.2.2.2.1, hM1.2.2.2.2.1, hM2.2.2.2.2.1, hM1.2.2.2.2.2, hM2.2.2.2.2.2, show nI x1 + 4 = nI (x1 + 4) from n_add (q := 4) (by omega), show nI x2 + 4 = nI (x2 + 4) from n_add (q := 4) (by omega), n_add (p := x1 + 4) (by omega), n_add (p := x2 + 4) (by omega), n_cl (p := x1 + 4 + i) (by omega), n_cl (p := x2 + 4 + i) (by omega), n_cl (p := c) (by omega), a28, b28]
    refine Pm_ite Iff.rfl (fun z _ => ?_) (fun z _ => ?_)
    · have z := (n_le (by omega) (by omega)).mp z
      refine Pm_suc rfl (fun k => by rw [x_putSlice]) (fun k => by rw [x_putSlice]) (fun k2 hk2 => ?_)
      rw [b1.1 101, b2.1 101, s2, u2]
      exact c10 k2 w c _ _ _ _ (Nat.le_refl _) hw (by omega) ⟨hM1.1, hM1.2.1, hM1.2.2.1, hM1.2.2.2.1, hM1.2.2.2.2.1, rfl⟩ ⟨hM2.1, hM2.2.1, hM2.2.2.1, hM2.2.2.2.1, hM2.2.2.2.2.1, rfl⟩ b1 b2 hA
    have hip : i < p := by
      by_cases d : i < p
      · exact d
      · exact absurd ((n_le (by omega) (by omega)).mpr (by omega)) z
    refine Pm_chk (fun _ _ => ?_)
    refine Pm_chk (fun _ _ => ?_)
    show Pm k1 (fun k => x_putSlice k 8 M1 (mAr τ1 51 c (σ1.2.2 28 (x1 + 4 + i)))) (fun k => x_putSlice k 8 M2 (mAr τ2 51 c (σ2.2.2 28 (x2 + 4 + i)))) _
    refine Pm_suc rfl (fun k => by rw [x_putSlice]) (fun k => by rw [x_putSlice]) (fun k2 hk2 => ?_)
    rw [hM1.2.2.2.2.1, hM2.2.2.2.2.1, hM1.2.2.2.2.2, hM2.2.2.2.2.2, n_add1, n_add1]
    exact ih k2 (by omega) (i + 1) (c + 1) _ _ _ _ (by omega) (by omega) ⟨hM1.1, hM1.2.1, hM1.2.2.1, hM1.2.2.2.1, rfl, rfl⟩ ⟨hM2.1, hM2.2.1, hM2.2.2.1, hM2.2.2.2.1, rfl, rfl⟩ (B51_w b1) (B51_w b2) (AgN_w51 hA (cx i hip).symm)
  have c4 : ∀ (m i : Nat) (M1 M2 : Nat → Int32) (τ1 τ2 : MS), i + 1 ≤ y → SLl v1 x1 q p i i M1 → SLl v2 x2 q p i i M2 → B51 σ1 τ1 → B51 σ2 τ2 → AgN (τ1.2.2 51) (τ2.2.2 51) i → Pm m (fun k => x_putSlice k 4 M1 τ1) (fun k => x_putSlice k 4 M2 τ2) (KQ h1 h2 8204) := by
    intro m
    induction m using Nat.strongRecOn with
    | ind m ih =>
    intro i M1 M2 τ1 τ2 hi hM1 hM2 b1 b2 hA
    have a28 : τ1.2.2 28 = σ1.2.2 28 := b1.2 28 (by decide)
    have b28 : τ2.2.2 28 = σ2.2.2 28 := b2.2 28 (by decide)
    refine Pm_suc rfl (fun k => by rw [x_putSlice]) (fun k => by rw [x_putSlice]) (fun k1 hk1 => ?_)
    rw [b1.1 100, b2.1 100, s1, u1, show nI y - 1 = nI (y - 1) from n_sub (p := y) (q := 1) (by omega) (by omega), hM1.1, hM2.1, hM1.2.2.2.2.1, hM2.2.2.2.2.1, hM1.2.2.2.2.2, hM2.2.2.2.2.2, show nI v1 + 4 = nI (v1 + 4) from n_add (q := 4) (by omega), show nI v2 + 4 = nI (v2 + 4) from n_add (q := 4) (by omega), n_add (p := v1 + 4) (by omega), n_add (p := v2 + 4) (by omega), n_cl (p := v1 + 4 + i) (by omega), n_cl (p := v2 + 4 + i) (by omega), n_cl (p := i) (by omega), a28, b28]
    refine Pm_ite Iff.rfl (fun z _ => ?_) (fun z _ => ?_)
    · have z := (n_le (by omega) (by omega)).mp z
      refine Pm_suc rfl (fun k => by rw [x_putSlice]) (fun k => by rw [x_putSlice]) (fun k2 hk2 => ?_)
      exact c7 k2 0 i _ _ _ _ (Nat.zero_le _) (by omega) ⟨hM1.1, hM1.2.1, hM1.2.2.1, hM1.2.2.2.1, hM1.2.2.2.2.1, rfl⟩ ⟨hM2.1, hM2.2.1, hM2.2.2.1, hM2.2.2.2.1, hM2.2.2.2.2.1, rfl⟩ b1 b2 hA
    have hiy : i < y - 1 := by
      by_cases d : i < y - 1
      · exact d
      · exact absurd ((n_le (by omega) (by omega)).mpr (by omega)) z
    refine Pm_chk (fun _ _ => ?_)
    refine Pm_chk (fun _ _ => ?_)
    show Pm k1 (fun k => x_putSlice k 5 M1 (mAr τ1 51 i (σ1.2.2 28 (v1 + 4 + i)))) (fun k => x_putSlice k 5 M2 (mAr τ2 51 i (σ2.2.2 28 (v2 + 4 + i)))) _
    refine Pm_suc rfl (fun k => by rw [x_putSlice]) (fun k => by rw [x_putSlice]) (fun k2 hk2 => ?_)
    rw [hM1.2.2.2.2.1, hM2.2.2.2.2.1, hM1.2.2.2.2.2, hM2.2.2.2.2.2, n_add1]
    exact ih k2 (by omega) (i + 1) _ _ _ _ (by omega) ⟨hM1.1, hM1.2.1, hM1.2.2.1, hM1.2.2.2.1, rfl, rfl⟩ ⟨hM2.1, hM2.2.1, hM2.2.2.1, hM2.2.2.2.1, rfl, rfl⟩ (B51_w b1) (B51_w b2) (AgN_w51 hA (ca i (by omega)).symm)
  exact c4 m 0 N1 N2 σ1 σ2 (by omega) hN1 hN2 B51_rf B51_rf (fun i hi => absurd hi (Nat.not_lt_zero i))
theorem k_ptS13 {f v1 v2 x1 x2 q p y w m : Nat} (hS1 : HS g1 l1 B1 h1 σ1) (hS2 : HS g2 l2 B2 h2 σ2) (e1 : σ1.1 56 = 0) (e2 : σ2.1 56 = 0) (t1 : σ1.1 59 = nI f) (t2 : σ2.1 59 = nI f) (hf : f ≤ 177000) (hr1 : h1 + 8204 ≤ B1 + 870000) (hr2 : h2 + 8204 ≤ B2 + 870000) (hO : OE g1 g2 (σ1.2.2 28) (σ2.2.2 28) v1 v2 5 q) (hX : OE g1 g2 (σ1.2.2 28) (σ2.2.2 28) x1 x2 5 p) (s1 : σ1.1 100 = nI y) (s2 : σ1.1 101 = nI w) (u1 : σ2.1 100 = nI y) (u2 : σ2.1 101 = nI w) (hy : 1 ≤ y) (hyw : y ≤ w + 1) (hw : w ≤ q) {N1 N2 : Nat → Int32} (n1 : N1 1 = nI v1) (o1 : N2 1 = nI v2) (n4 : N1 4 = nI x1) (o4 : N2 4 = nI x2) (n5 : N1 5 = nI q) (o5 : N2 5 = nI q) (n6 : N1 6 = nI p) (o6' : N2 6 = nI p) : Pm m (fun k => x_putSlice k 13 N1 σ1) (fun k => x_putSlice k 13 N2 σ2) (KQ h1 h2 8204) := by
  obtain ⟨_, _, _, _, _, o6, o7, _, _, _, o11, o12, o13, o14, _, o16, _⟩ := hO
  obtain ⟨_, _, _, _, _, x6, x7, _, _, _, x11, x12, x13, x14, _, x16, _⟩ := hX
  have ca := o16 (by omega)
  have cx := x16 (by omega)
  have c18 : ∀ (m i c : Nat) (M1 M2 : Nat → Int32) (τ1 τ2 : MS), w ≤ i → i ≤ q → c + w = y - 1 + p + i → SLl v1 x1 q p f i M1 → SLl v2 x2 q p f i M2 → KPu g1 g2 f c σ1 σ2 τ1 τ2 → Pm m (fun k => x_putSlice k 18 M1 τ1) (fun k => x_putSlice k 18 M2 τ2) (KQ h1 h2 8204) := by
    intro m
    induction m using Nat.strongRecOn with
    | ind m ih =>
    intro i c M1 M2 τ1 τ2 hwi hi hc hM1 hM2 hK
    have a28 : τ1.2.2 28 = σ1.2.2 28 := hK.1.2.1 28 (by decide)
    have b28 : τ2.2.2 28 = σ2.2.2 28 := hK.2.1.2.1 28 (by decide)
    refine Pm_suc rfl (fun k => by rw [x_putSlice]) (fun k => by rw [x_putSlice]) (fun k1 hk1 => ?_)
    rw [hM1.1, hM2.1, hM1.2.2.1, hM2.2.2.1, hM1.2.2.2.2.2, hM2.2.2.2.2.2, show nI v1 + 4 = nI (v1 + 4) from n_add (q := 4) (by omega), show nI v2 + 4 = nI (v2 + 4) from n_add (q := 4) (by omega), n_add (p := v1 + 4) (by omega), n_add (p := v2 + 4) (by omega), n_cl (p := v1 + 4 + i) (by omega), n_cl (p := v2 + 4 + i) (by omega), a28, b28, n_add1]
    refine Pm_ite Iff.rfl (fun z _ => ?_) (fun z _ => ?_)
    · refine Pm_suc rfl (fun k => by rw [x_putSlice]) (fun k => by rw [x_putSlice]) (fun k2 hk2 => ?_)
      exact Pm_ob (k_tupP hK hS1 hS2 e1 e2 (by omega) (by omega) (by omega) (by exact hM1.2.2.2.2.1) (by exact hM2.2.2.2.2.1)) (fun r1 r2 hr => Pm_some (KQ_mo hr (by omega)))
    have hiq : i < q := by
      by_cases d : i < q
      · exact d
      · exact absurd ((n_le (by omega) (by omega)).mpr (by omega)) z
    refine Pm_chk (fun _ _ => ?_)
    exact Pm_ob (k_push hK (by omega) (ca i hiq) rfl rfl) (fun r1 r2 hr => ih k1 (by omega) (i + 1) (c + 1) _ _ _ _ (by omega) (by omega) (by omega) ⟨hM1.1, hM1.2.1, hM1.2.2.1, hM1.2.2.2.1, hM1.2.2.2.2.1, rfl⟩ ⟨hM2.1, hM2.2.1, hM2.2.2.1, hM2.2.2.2.1, hM2.2.2.2.2.1, rfl⟩ hr)
  have c16 : ∀ (m i c : Nat) (M1 M2 : Nat → Int32) (τ1 τ2 : MS), i ≤ p → c = y - 1 + i → SLl v1 x1 q p f i M1 → SLl v2 x2 q p f i M2 → KPu g1 g2 f c σ1 σ2 τ1 τ2 → Pm m (fun k => x_putSlice k 16 M1 τ1) (fun k => x_putSlice k 16 M2 τ2) (KQ h1 h2 8204) := by
    intro m
    induction m using Nat.strongRecOn with
    | ind m ih =>
    intro i c M1 M2 τ1 τ2 hi hc hM1 hM2 hK
    have a28 : τ1.2.2 28 = σ1.2.2 28 := hK.1.2.1 28 (by decide)
    have b28 : τ2.2.2 28 = σ2.2.2 28 := hK.2.1.2.1 28 (by decide)
    refine Pm_suc rfl (fun k => by rw [x_putSlice]) (fun k => by rw [x_putSlice]) (fun k1 hk1 => ?_)
    rw [hM1.2.1, hM2.2.1, hM1.2.2.2.1, hM2.2.2.2.1, hM1.2.2.2.2.2, hM2.2.2.2.2.2, show nI x1 + 4 = nI (x1 + 4) from n_add (q := 4) (by omega), show nI x2 + 4 = nI (x2 + 4) from n_add (q := 4) (by omega), n_add (p := x1 + 4) (by omega), n_add (p := x2 + 4) (by omega), n_cl (p := x1 + 4 + i) (by omega), n_cl (p := x2 + 4 + i) (by omega), a28, b28, n_add1]
    refine Pm_ite Iff.rfl (fun z _ => ?_) (fun z _ => ?_)
    · have z := (n_le (by omega) (by omega)).mp z
      refine Pm_suc rfl (fun k => by rw [x_putSlice]) (fun k => by rw [x_putSlice]) (fun k2 hk2 => ?_)
      rw [hK.1.1 101 (by decide), hK.2.1.1 101 (by decide), s2, u2]
      exact c18 k2 w c _ _ _ _ (Nat.le_refl _) hw (by omega) ⟨hM1.1, hM1.2.1, hM1.2.2.1, hM1.2.2.2.1, hM1.2.2.2.2.1, rfl⟩ ⟨hM2.1, hM2.2.1, hM2.2.2.1, hM2.2.2.2.1, hM2.2.2.2.2.1, rfl⟩ hK
    have hip : i < p := by
      by_cases d : i < p
      · exact d
      · exact absurd ((n_le (by omega) (by omega)).mpr (by omega)) z
    refine Pm_chk (fun _ _ => ?_)
    exact Pm_ob (k_push hK (by omega) (cx i hip) rfl rfl) (fun r1 r2 hr => ih k1 (by omega) (i + 1) (c + 1) _ _ _ _ (by omega) (by omega) ⟨hM1.1, hM1.2.1, hM1.2.2.1, hM1.2.2.2.1, hM1.2.2.2.2.1, rfl⟩ ⟨hM2.1, hM2.2.1, hM2.2.2.1, hM2.2.2.2.1, hM2.2.2.2.2.1, rfl⟩ hr)
  have c14 : ∀ (m i : Nat) (M1 M2 : Nat → Int32) (τ1 τ2 : MS), i + 1 ≤ y → SLl v1 x1 q p f i M1 → SLl v2 x2 q p f i M2 → KPu g1 g2 f i σ1 σ2 τ1 τ2 → Pm m (fun k => x_putSlice k 14 M1 τ1) (fun k => x_putSlice k 14 M2 τ2) (KQ h1 h2 8204) := by
    intro m
    induction m using Nat.strongRecOn with
    | ind m ih =>
    intro i M1 M2 τ1 τ2 hi hM1 hM2 hK
    have a28 : τ1.2.2 28 = σ1.2.2 28 := hK.1.2.1 28 (by decide)
    have b28 : τ2.2.2 28 = σ2.2.2 28 := hK.2.1.2.1 28 (by decide)
    refine Pm_suc rfl (fun k => by rw [x_putSlice]) (fun k => by rw [x_putSlice]) (fun k1 hk1 => ?_)
    rw [hK.1.1 100 (by decide), hK.2.1.1 100 (by decide), s1, u1, show nI y - 1 = nI (y - 1) from n_sub (p := y) (q := 1) (by omega) (by omega), hM1.1, hM2.1, hM1.2.2.2.2.2, hM2.2.2.2.2.2, show nI v1 + 4 = nI (v1 + 4) from n_add (q := 4) (by omega), show nI v2 + 4 = nI (v2 + 4) from n_add (q := 4) (by omega), n_add (p := v1 + 4) (by omega), n_add (p := v2 + 4) (by omega), n_cl (p := v1 + 4 + i) (by omega), n_cl (p := v2 + 4 + i) (by omega), a28, b28, n_add1]
    refine Pm_ite Iff.rfl (fun z _ => ?_) (fun z _ => ?_)
    · have z := (n_le (by omega) (by omega)).mp z
      refine Pm_suc rfl (fun k => by rw [x_putSlice]) (fun k => by rw [x_putSlice]) (fun k2 hk2 => ?_)
      exact c16 k2 0 i _ _ _ _ (Nat.zero_le _) (by omega) ⟨hM1.1, hM1.2.1, hM1.2.2.1, hM1.2.2.2.1, hM1.2.2.2.2.1, rfl⟩ ⟨hM2.1, hM2.2.1, hM2.2.2.1, hM2.2.2.2.1, hM2.2.2.2.2.1, rfl⟩ hK
    have hiy : i < y - 1 := by
      by_cases d : i < y - 1
      · exact d
      · exact absurd ((n_le (by omega) (by omega)).mpr (by omega)) z
    refine Pm_chk (fun _ _ => ?_)
    exact Pm_ob (k_push hK (by omega) (ca i (by omega)) rfl rfl) (fun r1 r2 hr => ih k1 (by omega) (i + 1) _ _ _ _ (by omega) ⟨hM1.1, hM1.2.1, hM1.2.2.1, hM1.2.2.2.1, hM1.2.2.2.2.1, rfl⟩ ⟨hM2.1, hM2.2.1, hM2.2.2.1, hM2.2.2.2.1, hM2.2.2.2.2.1, rfl⟩ hr)
  refine Pm_suc rfl (fun k => by rw [x_putSlice]) (fun k => by rw [x_putSlice]) (fun m1 _ => ?_)
  rw [t1, t2]
  exact c14 m1 0 _ _ _ _ (by omega) ⟨n1, n4, n5, n6, rfl, rfl⟩ ⟨o1, o4, o5, o6', rfl, rfl⟩ (KPu_0 t1 t2)
theorem k_putSlice {f v1 v2 a1 a2 b1 b2 x1 x2 : Nat} (hS1 : HS g1 l1 B1 h1 σ1) (hS2 : HS g2 l2 B2 h2 σ2) (e1 : σ1.1 56 = 0) (e2 : σ2.1 56 = 0) (t1 : σ1.1 59 = nI f) (t2 : σ2.1 59 = nI f) (hf : f ≤ 177000) (hr1 : h1 + 8204 ≤ B1 + 870000) (hr2 : h2 + 8204 ≤ B2 + 870000) (hv1 : v1 < 3 ∨ g1 v1) (hv2 : v2 < 3 ∨ g2 v2) (hv : EVb (σ1.2.2 28) (σ2.2.2 28) v1 v2) (ha1 : a1 < 3 ∨ g1 a1) (ha2 : a2 < 3 ∨ g2 a2) (va : EVb (σ1.2.2 28) (σ2.2.2 28) a1 a2) (hb1 : b1 < 3 ∨ g1 b1) (hb2 : b2 < 3 ∨ g2 b2) (vb : EVb (σ1.2.2 28) (σ2.2.2 28) b1 b2) (hx1 : x1 < 3 ∨ g1 x1) (hx2 : x2 < 3 ∨ g2 x2) (hx : EVb (σ1.2.2 28) (σ2.2.2 28) x1 x2) {L1 L2 : Nat → Int32} (d1 : L1 1 = nI v1) (f1 : L2 1 = nI v2) (d2 : L1 2 = nI a1) (f2 : L2 2 = nI a2) (d3 : L1 3 = nI b1) (f3 : L2 3 = nI b2) (d4 : L1 4 = nI x1) (f4 : L2 4 = nI x2) : Pm n (fun k => x_putSlice k 0 L1 σ1) (fun k => x_putSlice k 0 L2 σ2) (KQ h1 h2 8204) := by
  refine Pm_suc rfl (fun k => by rw [x_putSlice]) (fun k => by rw [x_putSlice]) (fun m1 _ => ?_)
  refine Pm_ob (k_isSlice hS1 hS2 hv1 hv2 hv ha1 ha2 va hb1 hb2 vb (by exact d1) (by exact f1) (by exact d2) (by exact f2) (by exact d3) (by exact f3)) (fun r1 r2 hr => ?_)
  rcases hr with ⟨hr1, hr2⟩ | ⟨q1, q2, gv, hk, x, z, y, w, hy, hw, hx', hz, s1, s2⟩
  · rw [hr1, hr2]
    exact Pm_ite Iff.rfl (fun _ _ => Pm_some (k_er (by decide) hS1 hS2)) (fun w _ => absurd rfl w)
  rw [q1, q2, s1, s2]
  refine Pm_ite Iff.rfl (fun w _ => absurd (show (1 : Int32) = 0 from w) (by decide)) (fun _ _ => ?_)
  have hT1 : HS g1 l1 B1 h1 (mSc (mSc σ1 100 x) 101 z) := HS_c hS1 rfl rfl rfl
  have hT2 : HS g2 l2 B2 h2 (mSc (mSc σ2 100 x) 101 z) := HS_c hS2 rfl rfl rfl
  have e1' : (mSc (mSc σ1 100 x) 101 z).1 56 = 0 := e1
  have e2' : (mSc (mSc σ2 100 x) 101 z).1 56 = 0 := e2
  have t1' : (mSc (mSc σ1 100 x) 101 z).1 59 = nI f := t1
  have t2' : (mSc (mSc σ2 100 x) 101 z).1 59 = nI f := t2
  have hv' : EVb ((mSc (mSc σ1 100 x) 101 z).2.2 28) ((mSc (mSc σ2 100 x) 101 z).2.2 28) v1 v2 := hv
  have hxx : EVb ((mSc (mSc σ1 100 x) 101 z).2.2 28) ((mSc (mSc σ2 100 x) 101 z).2.2 28) x1 x2 := hx
  have hk' : kdN ((mSc (mSc σ1 100 x) 101 z).2.2 28) v1 = 4 ∨ kdN ((mSc (mSc σ1 100 x) 101 z).2.2 28) v1 = 5 := hk
  have y1 : (mSc (mSc σ1 100 x) 101 z).1 100 = nI y ∨ (mSc (mSc σ1 100 x) 101 z).1 100 = - nI y := hx'
  have z1 : (mSc (mSc σ1 100 x) 101 z).1 101 = nI w ∨ (mSc (mSc σ1 100 x) 101 z).1 101 = - nI w := hz
  have y2 : (mSc (mSc σ2 100 x) 101 z).1 100 = nI y ∨ (mSc (mSc σ2 100 x) 101 z).1 100 = - nI y := hx'
  have z2 : (mSc (mSc σ2 100 x) 101 z).1 101 = nI w ∨ (mSc (mSc σ2 100 x) 101 z).1 101 = - nI w := hz
  have w1 : (mSc (mSc σ1 100 x) 101 z).1 100 = (mSc (mSc σ2 100 x) 101 z).1 100 := rfl
  have w2 : (mSc (mSc σ1 100 x) 101 z).1 101 = (mSc (mSc σ2 100 x) 101 z).1 101 := rfl
  generalize mSc (mSc σ1 100 x) 101 z = ρ1 at hT1 e1' t1' hv' hxx hk' y1 z1 w1 w2
  generalize mSc (mSc σ2 100 x) 101 z = ρ2 at hT2 e2' t2' hv' hxx y2 z2 w1 w2
  have kx := kdN_6 hT1 hx1
  obtain ⟨k, q, hO⟩ := OE_of hT1 hT2 gv hv2 hv'
  have hO0 := hO
  obtain ⟨_, _, _, _, _, o6, o7, _, o9, o10, o11, o12, o13, o14, _, o16, o17⟩ := hO
  refine Pm_suc rfl (fun k => by rw [x_putSlice]) (fun k => by rw [x_putSlice]) (fun m2 _ => ?_)
  refine Pm_ob (Pm_t2 (s_kind hT1 hx1 (by exact d4)) (fun k => f_kind k _ _ _) (s_kind hT2 hx2 (by exact f4)) (fun k => f_kind k _ _ _)) (fun r1 r2 hr => ?_)
  rw [hr.1, hr.2, (EVb_sz hxx).2.2]
  refine Pm_ob (Pm_t2 (s_kind hT1 hv1 (by exact d1)) (fun k => f_kind k _ _ _) (s_kind hT2 hv2 (by exact f1)) (fun k => f_kind k _ _ _)) (fun r1 r2 hr => ?_)
  rw [hr.1, hr.2, (EVb_sz hv').2.2]
  refine Pm_ite Iff.rfl (fun e _ => ?_) (fun _ _ => Pm_ob (k_wrongKind hT1 hT2 _ _) (fun r1 r2 hr => Pm_some hr))
  have e := (n_eq (by omega) (by omega)).mp e
  obtain ⟨k', p, hX⟩ := OE_of hT1 hT2 (kdN_ge hT1 hx1 (by omega)) hx2 hxx
  have hX0 := hX
  obtain ⟨_, _, _, _, _, x6, x7, _, x9, x10, x11, x12, x13, x14, _, x16, x17⟩ := hX
  have ekk : k' = k := by omega
  subst ekk
  refine Pm_suc rfl (fun k => by rw [x_putSlice]) (fun k => by rw [x_putSlice]) (fun m3 _ => ?_)
  refine Pm_ob (Pm_un (s_isSliceIn hT1 o11 o6 o13 hy hw y1 z1 (by exact d1)) (fun k => f_isSliceIn k _ _ _) (s_isSliceIn hT2 o12 o6 o14 hy hw y2 z2 (by exact f1)) (fun k => f_isSliceIn k _ _ _) (k_isSliceIn o11 o12 o13 o14 w1 w2 (by exact d1) (by exact f1))) (fun u1 u2 hu => ?_)
  obtain ⟨hu0, hu1, hu2⟩ := hu
  rcases hu1 with hu1 | ⟨hu1, q11, q12, q13, q14, q15⟩
  · rcases hu2 with hu2 | ⟨hu2, _⟩
    · rw [hu1, hu2]
      exact Pm_ite Iff.rfl (fun _ _ => Pm_some (k_er (by decide) hT1 hT2)) (fun w _ => absurd rfl w)
    · rw [hu1, hu2] at hu0
      exact absurd hu0 (show ¬ (0 : Int32) = 1 by decide)
  rcases hu2 with hu2 | ⟨hu2, q21, q22, _, _, _⟩
  · rw [hu1, hu2] at hu0
    exact absurd hu0 (show ¬ (1 : Int32) = 0 by decide)
  rw [hu1, hu2]
  refine Pm_ite Iff.rfl (fun w _ => absurd (show (1 : Int32) = 0 from w) (by decide)) (fun _ _ => ?_)
  show Pm m3 (fun k => x_putSlice k 3 L1 ρ1) (fun k => x_putSlice k 3 L2 ρ2) _
  refine Pm_suc rfl (fun k => by rw [x_putSlice]) (fun k => by rw [x_putSlice]) (fun m4 _ => ?_)
  rw [d1, f1, d4, f4, n_add1, n_add1, n_add1, n_add1, n_cl (p := v1) (by omega), n_cl (p := v2) (by omega), n_cl (p := v1 + 1) (by omega), n_cl (p := v2 + 1) (by omega), n_cl (p := x1 + 1) (by omega), n_cl (p := x2 + 1) (by omega), o9, o10, o11, o12, x11, x12]
  refine Pm_chk (fun _ _ => ?_)
  refine Pm_chk (fun _ _ => ?_)
  refine Pm_chk (fun _ _ => ?_)
  refine Pm_ite Iff.rfl (fun c _ => ?_) (fun c _ => ?_)
  · have c := (n_eq (q := 4) (by omega) (by decide)).mp c
    subst c
    exact k_ptS4 hT1 hT2 e1' e2' (by omega) (by omega) hO0 hX0 q11 q12 q21 q22 q13 q14 q15 ⟨d1, d4, rfl, rfl, rfl, rfl⟩ ⟨f1, f4, rfl, rfl, rfl, rfl⟩
  · have c5 : k' = 5 := by
      have : ¬ k' = 4 := fun e => c (by rw [e]; rfl)
      omega
    subst c5
    exact k_ptS13 hT1 hT2 e1' e2' t1' t2' hf hr1 hr2 hO0 hX0 q11 q12 q21 q22 q13 q14 q15 d1 f1 d4 f4 rfl rfl rfl rfl
end KSL
end JnS191
section JnS192
/-! A whole less itself: no error (reference). -/
section ASM
variable {g : Nat → Prop} {l : List Nat} {B h : Nat} {σ : MS}
theorem u_wh0 {m c : Nat} {τ : MS} (hS : HS g l B h σ) (e : σ.1 56 = 0) (hr : h + 70 ≤ B + 870000) (hF : NF σ τ) (h86 : τ.1 86 = nI c) (hc : c ≤ 64) (L : Nat → Int32) : Um m (fun k => ob (x_wholeOf k 0 L τ) (fun r1 => some (r1.1, r1.2))) (fun r => r.2.1 56 = 0) := by
  refine Um_ob (u_wholeOf (NF_HS hF hS) ((hF.1 56 (by decide)).trans e) hr (c := c) (by omega) h86 _) (fun r hr => ?_)
  rcases hr with ⟨_, q⟩ | ⟨q, _⟩
  · exact Um_some q.2.2.1
  · have := trN_le (τ.2.2 44) c
    omega
theorem u_sub0 {c : Nat} (hS : HS g l B h σ) (e : σ.1 56 = 0) (hr : h + 70 ≤ B + 870000) (hc : c ≤ 64) : ∀ (m b : Nat) (N : Nat → Int32) (τ : MS), 19 ≤ b → b ≤ 32 → NF σ τ → τ.1 86 = nI c → Um m (fun k => x_add k b N τ) (fun r => r.2.1 56 = 0) := by
  intro m
  induction m using Nat.strongRecOn with
  | ind m ih =>
  intro b N τ hb1 hb2 hF h86
  have go : ∀ (m1 b : Nat) (M : Nat → Int32), m1 + 1 = m → 19 ≤ b → b ≤ 32 → Um m1 (fun k => x_add k b M τ) (fun r => r.2.1 56 = 0) := fun m1 b M h1 h2 h3 => ih m1 (by omega) b M τ h2 h3 hF h86
  have hb : b = 19 ∨ b = 20 ∨ b = 21 ∨ b = 22 ∨ b = 23 ∨ b = 24 ∨ b = 25 ∨ b = 26 ∨ b = 27 ∨ b = 28 ∨ b = 29 ∨ b = 30 ∨ b = 31 ∨ b = 32 := by omega
  rcases hb with rfl | rfl | rfl | rfl | rfl | rfl | rfl | rfl | rfl | rfl | rfl | rfl | rfl | rfl
  · exact Um_suc rfl (fun k => by rw [x_add]) (fun m1 h1 => go m1 20 _ h1 (by omega) (by omega))
  · exact Um_suc rfl (fun k => by rw [x_add]) (fun m1 h1 => Um_ite (fun _ => go m1 30 _ h1 (by omega) (by omega)) (fun _ => Um_ite (fun _ => go m1 21 _ h1 (by omega) (by omega)) (fun _ => Um_chk (fun _ => go m1 22 _ h1 (by omega) (by omega)))))
  · exact Um_suc rfl (fun k => by rw [x_add]) (fun m1 h1 => go m1 22 _ h1 (by omega) (by omega))
  · exact Um_suc rfl (fun k => by rw [x_add]) (fun m1 h1 => Um_ite (fun _ => go m1 23 _ h1 (by omega) (by omega)) (fun _ => Um_chk (fun _ => go m1 24 _ h1 (by omega) (by omega))))
  · exact Um_suc rfl (fun k => by rw [x_add]) (fun m1 h1 => go m1 24 _ h1 (by omega) (by omega))
  · exact Um_suc rfl (fun k => by rw [x_add]) (fun m1 h1 => Um_ite (fun _ => go m1 25 _ h1 (by omega) (by omega)) (fun _ => go m1 26 _ h1 (by omega) (by omega)))
  · exact Um_suc rfl (fun k => by rw [x_add]) (fun m1 h1 => go m1 26 _ h1 (by omega) (by omega))
  · exact Um_suc rfl (fun k => by rw [x_add]) (fun m1 h1 => Um_ite (fun _ => go m1 27 _ h1 (by omega) (by omega)) (fun _ => go m1 28 _ h1 (by omega) (by omega)))
  · exact Um_suc rfl (fun k => by rw [x_add]) (fun m1 h1 => go m1 28 _ h1 (by omega) (by omega))
  · refine Um_suc rfl (fun k => by rw [x_add]) (fun m1 h1 => Um_chk (fun _ => ?_))
    exact ih m1 (by omega) 29 _ (mAr τ 44 (N 8).toNatClampNeg (N 11 &&& 65535)) (by omega) (by omega) (NF_tr hF (NF_ar (by omega))) h86
  · exact Um_suc rfl (fun k => by rw [x_add]) (fun m1 h1 => go m1 20 _ h1 (by omega) (by omega))
  · exact Um_suc rfl (fun k => by rw [x_add]) (fun m1 h1 => Um_ite (fun _ => go m1 31 _ h1 (by omega) (by omega)) (fun _ => go m1 32 _ h1 (by omega) (by omega)))
  · exact Um_suc rfl (fun k => by rw [x_add]) (fun m1 h1 => go m1 32 _ h1 (by omega) (by omega))
  · exact Um_suc rfl (fun k => by rw [x_add]) (fun m1 h1 => u_wh0 hS e hr hF h86 hc _)
theorem u_addSame {a n m : Nat} (hS : HS g l B h σ) (e : σ.1 56 = 0) (hr : h + 70 ≤ B + 870000) (hW : Wh σ a n) (hs : SgOK (σ.2.2 28) a n) {L : Nat → Int32} (d1 : L 1 = nI a) (d2 : L 2 = nI a) (d3 : L 3 = -1) : Um m (fun k => x_add k 0 L σ) (fun r => r.2.1 56 = 0) := by
  have hn := hW.2.2.1
  have hn1 := hW.2.1
  have hab := hW.2.2.2.1
  refine Um_suc rfl (fun k => by rw [x_add]) (fun m1 h1 => ?_)
  refine Um_ob (Um_t (s_loadA hS hW.1 hW.2.1 hW.2.2.1 hW.2.2.2.1 hW.2.2.2.2 (by exact d1)) (fun k => f_loadA k _ _ _)) (fun r1 hr1 => ?_)
  obtain ⟨_, p84, _, q43, q85⟩ := hr1
  have hF1 : NF σ r1.2 := ⟨fun j hj => q85 j (by omega), fun j hj => q43 j (by omega)⟩
  have hW1 := Wh_NF hF1 hW
  refine Um_ob (Um_t (s_loadB (NF_HS hF1 hS) hW1.1 hW1.2.1 hW1.2.2.1 hW1.2.2.2.1 hW1.2.2.2.2 (by exact d2)) (fun k => f_loadB k _ _ _)) (fun r2 hr2 => ?_)
  obtain ⟨hF2, p85, _, _, q84⟩ := hr2
  have hF : NF σ r2.2 := NF_tr hF1 hF2
  have p84 : r2.2.1 84 = nI (n - 1) := q84.trans p84
  have c28 : r2.2.2.2 28 = σ.2.2 28 := hF.2 28 (by decide)
  generalize r2.2 = ρ at hF p84 p85 c28
  refine Um_ob (Um_t (s_signOf (NF_HS hF hS) (m := a) (by omega) (by exact d1)) (fun k => f_signOf k _ _ _)) (fun r3 hr3 => ?_)
  rw [hr3, c28]
  refine Um_ob (Um_t (s_signOf (NF_HS hF hS) (m := a) (by omega) (by exact d2)) (fun k => f_signOf k _ _ _)) (fun r4 hr4 => ?_)
  rw [hr4, c28, d3]
  have c16 : ∀ (m : Nat) (N : Nat → Int32), Um m (fun k => x_add k 16 N ρ) (fun r => r.2.1 56 = 0) := fun m N => by
    refine Um_suc rfl (fun k => by rw [x_add]) (fun m2 h2 => ?_)
    refine Um_ob (Um_t (s_cmpR42 (n := n - 1) (by omega) (by exact p84)) (fun k => f_compareRows__42__43 k _ _ _)) (fun r5 hr5 => ?_)
    rw [hr5]
    have c18 : ∀ (m : Nat) (M : Nat → Int32), M 100 = nI (n - 1) → Um m (fun k => x_add k 18 M ρ) (fun r => r.2.1 56 = 0) := fun m M hM => by
      refine Um_suc rfl (fun k => by rw [x_add]) (fun m3 h3 => ?_)
      rw [hM]
      exact u_sub0 (c := n - 1) hS e hr (by omega) m3 19 M (mSc ρ 86 (nI (n - 1))) (by omega) (by omega) (NF_tr hF (NF_sc (by omega))) rfl
    refine Um_ite (fun _ => ?_) (fun _ => c18 m2 _ p84)
    refine Um_suc rfl (fun k => by rw [x_add]) (fun m3 h3 => ?_)
    exact c18 m3 _ p85
  rcases hs with hs | ⟨hs1, hs2⟩
  · rcases hs with hs | hs
    · rw [hs]
      refine Um_ite (fun z => absurd z (show ¬ (1 : Int32) = 0 by decide)) (fun _ => ?_)
      refine Um_ite (fun z => absurd z (show ¬ (1 : Int32) * -1 = 0 by decide)) (fun _ => ?_)
      exact Um_ite (fun z => absurd z (show ¬ (1 : Int32) = 1 * -1 by decide)) (fun _ => c16 m1 _)
    · rw [hs]
      refine Um_ite (fun z => absurd z (show ¬ (-1 : Int32) = 0 by decide)) (fun _ => ?_)
      refine Um_ite (fun z => absurd z (show ¬ (-1 : Int32) * -1 = 0 by decide)) (fun _ => ?_)
      exact Um_ite (fun z => absurd z (show ¬ (-1 : Int32) = -1 * -1 by decide)) (fun _ => c16 m1 _)
  · rw [hs2]
    refine Um_ite (fun _ => ?_) (fun z => absurd rfl z)
    subst hs1
    have p84 : ρ.1 84 = nI 0 := p84
    have p85 : ρ.1 85 = nI 0 := p85
    refine Um_suc rfl (fun k => by rw [x_add]) (fun m2 h2 => ?_)
    rw [p84, p85]
    refine Um_ite (fun _ => ?_) (fun z => absurd (by decide) z)
    refine Um_suc rfl (fun k => by rw [x_add]) (fun m3 h3 => ?_)
    rw [p85]
    refine Um_suc rfl (fun k => by rw [x_add]) (fun m4 h4 => ?_)
    have hG : NF σ (mSc ρ 86 (nI 0)) := NF_tr hF (NF_sc (by omega))
    have e86 : (mSc ρ 86 (nI 0)).1 86 = nI 0 := rfl
    refine Um_suc rfl (fun k => by rw [x_add]) (fun m5 h5 => ?_)
    have c15 : ∀ (m : Nat) (M : Nat → Int32), Um m (fun k => x_add k 15 M (mSc ρ 86 (nI 0))) (fun r => r.2.1 56 = 0) := fun m M => by
      exact Um_suc rfl (fun k => by rw [x_add]) (fun m1 h1 => u_wh0 hS e hr hG e86 (by omega) _)
    refine Um_suc rfl (fun k => by rw [x_add]) (fun m6 h6 => ?_)
    refine Um_ite (fun _ => ?_) (fun z => absurd (show nI 0 ≤ (0 : Int32) by decide) z)
    refine Um_suc rfl (fun k => by rw [x_add]) (fun m7 h7 => ?_)
    refine Um_ite (fun _ => ?_) (fun z => absurd (show (0 : Int32) ≤ 0 by decide) z)
    refine Um_suc rfl (fun k => by rw [x_add]) (fun m8 h8 => ?_)
    refine Um_ite (fun _ => c15 m8 _) (fun _ => ?_)
    refine Um_suc rfl (fun k => by rw [x_add]) (fun m9 h9 => ?_)
    exact c15 m9 _
end ASM
end JnS192
section JnS193
/-! Two runs side by side (reference): ranges. -/
section KRG
variable {g1 g2 g1' g2' g1'' g2'' : Nat → Prop} {l1 l2 l1' l2' l1'' l2'' : List Nat} {B1 h1 B2 h2 h1' h2' h1'' h2'' n : Nat} {σ1 σ2 τ1 τ2 : MS}
theorem Pm_and {Q R : Int32 × MS → Int32 × MS → Prop} {x1 x2 : Nat → Option (Int32 × MS)} (t : Pm n x1 x2 Q) (u : Pm n x1 x2 R) : Pm n x1 x2 (fun r1 r2 => Q r1 r2 ∧ R r1 r2) := fun k hk r1 r2 a b => ⟨t k hk r1 r2 a b, u k hk r1 r2 a b⟩
/-- an operation, well or not -/
theorem KQ_g0 {K t : Nat} {r1 r2 : Int32 × MS} (hK : K ≤ 1000000) (hS1 : HS g1 l1 B1 h1 σ1) (hS2 : HS g2 l2 B2 h2 σ2) (a : VO g1 B1 h1 t σ1 r1) (b : VO g2 B2 h2 t σ2 r2) (q : KQ h1 h2 K r1 r2) : ∃ (g1' : Nat → Prop) (l1' : List Nat) (h1' : Nat) (g2' : Nat → Prop) (l2' : List Nat) (h2' : Nat), HG g1 B1 h1 σ1 r1.2 g1' l1' h1' ∧ HG g2 B2 h2 σ2 r2.2 g2' l2' h2' ∧ FW t σ1 r1.2 ∧ FW t σ2 r2.2 ∧ r1.2.1 59 = nI t ∧ r2.2.1 59 = nI t ∧ (r1.2.1 56 = 0 → VC g1' g2' (r1.2.2.2 28) (r2.2.2.2 28) r1.1 r2.1) ∧ h1' ≤ h1 + K ∧ h2' ≤ h2 + K := by
  by_cases e : r1.2.1 56 = 0
  · obtain ⟨g1', l1', h1', g2', l2', h2', a1, a2, a3, a4, a5, a6, a7, a8, a9, a10⟩ := KQ_gr hK hS1 hS2 a b q e
    exact ⟨g1', l1', h1', g2', l2', h2', a1, a2, a3, a4, a5, a6, fun _ => a8, a9, a10⟩
  · obtain ⟨g1', l1', h1', a1, a2, a3, a4, a5, a6⟩ := a
    obtain ⟨g2', l2', h2', b1, b2, b3, b4, b5, b6⟩ := b
    obtain ⟨q1, q2, p1, p2, c1, c2, c3, c4⟩ := q
    have w1 := HS_b hS1
    have w2 := HS_b hS2
    have u1 := HS_b a1.1
    have u2 := HS_b b1.1
    have f1 : h1' = p1 := (n_eq (by omega) (by omega)).mp (a1.1.2.2.1.symm.trans c1)
    have f2 : h2' = p2 := (n_eq (by omega) (by omega)).mp (b1.1.2.2.1.symm.trans c2)
    exact ⟨g1', l1', h1', g2', l2', h2', a1, b1, a2, b2, a3, b3, fun z => absurd z e, by omega, by omega⟩
/-- the state goes on while values lie upon both piles -/
theorem KPx_st {f w K K' : Nat} {υ1 υ2 : MS} (hK : KPx g1 g2 B1 h1 B2 h2 f w K σ1 σ2 τ1 τ2 g1' l1' h1' g2' l2' h2') (a1 : HG g1' B1 h1' τ1 υ1 g1'' l1'' h1'') (a2 : HG g2' B2 h2' τ2 υ2 g2'' l2'' h2'') (f1 : FW (f + w) τ1 υ1) (f2 : FW (f + w) τ2 υ2) (t1 : υ1.1 59 = nI (f + w)) (t2 : υ2.1 59 = nI (f + w)) (e1 : υ1.1 56 = 0) (e2 : υ2.1 56 = 0) (b1 : h1'' ≤ h1' + K') (b2 : h2'' ≤ h2' + K') : KPx g1 g2 B1 h1 B2 h2 f w (K + K') σ1 σ2 υ1 υ2 g1'' l1'' h1'' g2'' l2'' h2'' := by
  obtain ⟨q1, q2, q3, q4, q5, q6, q7, q8, q9, q10, q11⟩ := hK
  refine ⟨HG_tr q1 a1, HG_tr q2 a2, FW_tr q3 (FW_mo f1 (by omega)), FW_tr q4 (FW_mo f2 (by omega)), t1, t2, fun i hi => ?_, e1, e2, by omega, by omega⟩
  show VC g1'' g2'' (υ1.2.2 28) (υ2.2.2 28) (υ1.2.2 29 (f + i)) (υ2.2.2 29 (f + i))
  rw [f1.2.2 (f + i) (by omega), f2.2.2 (f + i) (by omega)]
  exact VC_g2 q1.1 q2.1 a1 a2 (q7 i hi)
/-- two wholes that hold the same -/
def RgE (g1 g2 : Nat → Prop) (τ1 τ2 : MS) (x y : Int32) : Prop := ∃ a1 a2, x = nI a1 ∧ y = nI a2 ∧ g1 a1 ∧ g2 a2 ∧ EVb (τ1.2.2 28) (τ2.2.2 28) a1 a2 ∧ kdN (τ1.2.2 28) a1 = 2
theorem RgE_VC {x y : Int32} (hS1 : HS g1 l1 B1 h1 τ1) (hS2 : HS g2 l2 B2 h2 τ2) (h : RgE g1 g2 τ1 τ2 x y) : VC g1 g2 (τ1.2.2 28) (τ2.2.2 28) x y := by
  obtain ⟨a1, a2, e1, e2, c1, c2, ev, k⟩ := h
  rw [e1, e2]
  exact VC_ev hS1 hS2 (Or.inr c1) (Or.inr c2) ev
theorem RgE_c {x y : Int32} {υ1 υ2 : MS} (h : RgE g1 g2 τ1 τ2 x y) (c1 : υ1.2.2 28 = τ1.2.2 28) (c2 : υ2.2.2 28 = τ2.2.2 28) : RgE g1 g2 υ1 υ2 x y := by
  unfold RgE; rw [c1, c2]; exact h
theorem RgE_g {x y : Int32} {υ1 υ2 : MS} (hS1 : HS g1 l1 B1 h1 τ1) (hS2 : HS g2 l2 B2 h2 τ2) (a1 : HG g1 B1 h1 τ1 υ1 g1' l1' h1') (a2 : HG g2 B2 h2 τ2 υ2 g2' l2' h2') (h : RgE g1 g2 τ1 τ2 x y) : RgE g1' g2' υ1 υ2 x y := by
  obtain ⟨c1, c2, e1, e2, c3, c4, ev, k⟩ := h
  refine ⟨c1, c2, e1, e2, a1.2.1 _ c3, a2.2.1 _ c4, EVb_g2 hS1.2.2.2.2 (HS_b hS1).2 a1.2.2.2 hS2.2.2.2.2 (HS_b hS2).2 a2.2.2.2 (Or.inr c3) (Or.inr c4) ev, ?_⟩
  rw [(EVb_sz (EVb_gr hS1.2.2.2.2 (HS_b hS1).2 a1.2.2.2 (Or.inr c3))).2.2]
  exact k
theorem RgE_cmp {x y u v : Int32} (hS1 : HS g1 l1 B1 h1 τ1) (hS2 : HS g2 l2 B2 h2 τ2) (hx : RgE g1 g2 τ1 τ2 x y) (hy : RgE g1 g2 τ1 τ2 u v) {L1 L2 : Nat → Int32} (d1 : L1 1 = x) (d2 : L1 2 = u) (f1 : L2 1 = y) (f2 : L2 2 = v) : Pm n (fun k => x_compareWholes k 0 L1 τ1) (fun k => x_compareWholes k 0 L2 τ2) (fun r1 r2 => r1.1 = r2.1 ∧ r1.2 = τ1 ∧ r2.2 = τ2) := by
  obtain ⟨a1, a2, e1, e2, c3, c4, ev, k⟩ := hx
  obtain ⟨b1, b2, e3, e4, c5, c6, ev', k'⟩ := hy
  obtain ⟨p, hA⟩ := WhE_of hS1 hS2 (Or.inr c3) (Or.inr c4) ev k
  obtain ⟨q, hB⟩ := WhE_of hS1 hS2 (Or.inr c5) (Or.inr c6) ev' k'
  have z1 := hA.1
  have z2 := hA.2.1
  have z3 := hB.1
  have z4 := hB.2.1
  have y1 := z1.2.2.1
  have y3 := z3.2.2.1
  have q1 := d1.trans e1
  have q2 := d2.trans e3
  have q3 := f1.trans e2
  have q4 := f2.trans e4
  exact Pm_un (s_compareWholes hS1 z1.1 z3.1 (by omega) (by omega) z1.2.2.2.1 z3.2.2.2.1 z1.2.1 z3.2.1 q1 q2) (fun k => f_compareWholes k _ _ _) (s_compareWholes hS2 z2.1 z4.1 (by omega) (by omega) z2.2.2.2.1 z4.2.2.2.1 z2.2.1 z4.2.1 q3 q4) (fun k => f_compareWholes k _ _ _) (k_compareWholes hS1 hS2 z1.1 z2.1 z3.1 z4.1 (by omega) (by omega) z1.2.1 z3.2.1 z1.2.2.2.1 z2.2.2.2.1 z3.2.2.2.1 z4.2.2.2.1 hA.2.2 hB.2.2 q1 q2 q3 q4)
/-- what is made without an error is a whole -/
theorem RgE_W {ok : Prop} {t : Nat} {r1 r2 : Int32 × MS} (z : r1.2.1 56 = 0) (w1 : VW ok g1 B1 h1 t τ1 r1) (vc : VC g1' g2' (r1.2.2.2 28) (r2.2.2.2 28) r1.1 r2.1) : RgE g1' g2' r1.2 r2.2 r1.1 r2.1 := by
  obtain ⟨m, m', x1, x2, x3, x4, x5, x6, x7⟩ := vc
  obtain ⟨G, LL, HH, o1, _, _, _, _, _, o7, _, kk⟩ := w1
  have kk := kk z m x1 x6
  have m3 : 3 ≤ m := by
    obtain ⟨v, nn, ev2, gv, _⟩ := o7 z
    have vb := HS_vb o1.1 (Or.inr gv)
    have em : m = v := (n_eq (by omega) (by omega)).mp (x1.symm.trans ev2)
    obtain ⟨_, _, _, _, _, y2, _⟩ := HS_at o1.1 gv
    omega
  have hm1 : g1' m := by
    rcases x2 with c | c
    · omega
    · exact c
  have hm2 : g2' m' := by
    rcases x4 with c | c
    · rcases EVb_3 x5 with y | y <;> omega
    · exact c
  refine ⟨m, m', x1, x3, hm1, hm2, x5, ?_⟩
  unfold kdN
  rw [if_neg (by omega), if_neg (by omega), kk]
  rfl
/-- two wholes are added: the answer is a whole, or both have an error -/
theorem RgE_add {x y u v : Int32} {f : Nat} (hS1 : HS g1 l1 B1 h1 τ1) (hS2 : HS g2 l2 B2 h2 τ2) (e1 : τ1.1 56 = 0) (e2 : τ2.1 56 = 0) (t1 : τ1.1 59 = nI f) (t2 : τ2.1 59 = nI f) (hf : f ≤ 177000) (hr1 : h1 + 70 ≤ B1 + 870000) (hr2 : h2 + 70 ≤ B2 + 870000) (hx : RgE g1 g2 τ1 τ2 x y) (hy : RgE g1 g2 τ1 τ2 u v) {L1 L2 : Nat → Int32} (d1 : L1 1 = x) (d2 : L1 2 = u) (f1 : L2 1 = y) (f2 : L2 2 = v) (d3 : L1 3 = 1 ∨ L1 3 = -1) (hL : LE3 L1 L2) : Pm n (fun k => x_add k 0 L1 τ1) (fun k => x_add k 0 L2 τ2) (fun r1 r2 => (r1.2.1 56 = 0 ↔ r2.2.1 56 = 0) ∧ ErB r1.2 ∧ ErB r2.2 ∧ ∃ (g1' : Nat → Prop) (l1' : List Nat) (h1' : Nat) (g2' : Nat → Prop) (l2' : List Nat) (h2' : Nat), HG g1 B1 h1 τ1 r1.2 g1' l1' h1' ∧ HG g2 B2 h2 τ2 r2.2 g2' l2' h2' ∧ FW f τ1 r1.2 ∧ FW f τ2 r2.2 ∧ r1.2.1 59 = nI f ∧ r2.2.1 59 = nI f ∧ (r1.2.1 56 = 0 → RgE g1' g2' r1.2 r2.2 r1.1 r2.1) ∧ h1' ≤ h1 + 70 ∧ h2' ≤ h2 + 70) := by
  obtain ⟨a1, a2, i1, i2, c3, c4, ev, k⟩ := hx
  obtain ⟨b1, b2, i3, i4, c5, c6, ev', k'⟩ := hy
  obtain ⟨p, hA⟩ := WhE_of hS1 hS2 (Or.inr c3) (Or.inr c4) ev k
  obtain ⟨q, hB⟩ := WhE_of hS1 hS2 (Or.inr c5) (Or.inr c6) ev' k'
  have q1 := d1.trans i1
  have q2 := d2.trans i3
  have q3 := f1.trans i2
  have q4 := f2.trans i4
  refine Pm_mono (Pm_un (s_addW ⟨hS1, t1, hf, ⟨0, e1, by decide⟩⟩ hA.1 hB.1 q1 q2 d3) (fun k => f_add k _ _ _) (s_addW ⟨hS2, t2, hf, ⟨0, e2, by decide⟩⟩ hA.2.1 hB.2.1 q3 q4 (by rw [← hL 3 (by omega)]; exact d3)) (fun k => f_add k _ _ _) (k_add hS1 hS2 e1 e2 hr1 hr2 hA hB q1 q2 q3 q4 hL)) (fun r1 r2 hr => ?_)
  obtain ⟨hq, w1, w2⟩ := hr
  have v1 := VW_VO w1
  have v2 := VW_VO w2
  obtain ⟨g1', l1', h1', g2', l2', h2', s1, s2, s3, s4, s5, s6, s7, s8, s9⟩ := KQ_g0 (by omega) hS1 hS2 v1 v2 hq
  refine ⟨hq.1, VO_E v1, VO_E v2, g1', l1', h1', g2', l2', h2', s1, s2, s3, s4, s5, s6, fun z => ?_, s8, s9⟩
  exact RgE_W z w1 (s7 z)
end KRG
end JnS193
section JnS194
/-! Two runs side by side (reference): ranges, their loop. -/
section KRL
variable {g1 g2 : Nat → Prop} {l1 l2 : List Nat} {B1 h1 B2 h2 n : Nat} {σ1 σ2 : MS}
def RgL (f : Nat) (N1 N2 : Nat → Int32) : Prop := N1 1 = N2 1 ∧ N1 7 = N2 7 ∧ N1 8 = N2 8 ∧ N1 9 = nI f ∧ N2 9 = nI f ∧ N1 11 = N2 11
/-- midway: p pushed -/
def RgS (g1 g2 : Nat → Prop) (B1 h1 B2 h2 f p : Nat) (σ1 σ2 : MS) (N1 N2 : Nat → Int32) (τ1 τ2 : MS) : Prop := ∃ (g1' : Nat → Prop) (l1' : List Nat) (h1' : Nat) (g2' : Nat → Prop) (l2' : List Nat) (h2' : Nat), KPx g1 g2 B1 h1 B2 h2 f p (70 * p + 70) σ1 σ2 τ1 τ2 g1' l1' h1' g2' l2' h2' ∧ RgE g1' g2' τ1 τ2 (N1 3) (N2 3) ∧ RgL f N1 N2 ∧ (¬ N1 11 = 0 → RgE g1' g2' τ1 τ2 (N1 10) (N2 10)) ∧ ((N1 7 = 0 ∧ RgE g1' g2' τ1 τ2 (N1 6) (N2 6)) ∨ (¬ N1 7 = 0 ∧ RgE g1' g2' τ1 τ2 (N1 4) (N2 4) ∧ (¬ N1 11 = 0 → (N1 10 = N1 4 ↔ N2 10 = N2 4))))
theorem k_rng24E {m : Nat} {N1 N2 : Nat → Int32} {τ1 τ2 : MS} (hE : KE h1 h2 71200 τ1 τ2) : Pm m (fun k => x_range k 24 N1 τ1) (fun k => x_range k 24 N2 τ2) (KQ h1 h2 71200) := by
  refine Pm_suc rfl (fun k => by rw [x_range]) (fun k => by rw [x_range]) (fun m1 _ => ?_)
  obtain ⟨z1, z2⟩ := KE_le hE
  exact Pm_ite ⟨fun z => absurd z z1, fun z => absurd z z2⟩ (fun z _ => absurd z z1) (fun _ _ => Pm_some (KE_Q hE))
theorem k_rng24 {f p m : Nat} {N1 N2 : Nat → Int32} {τ1 τ2 : MS} (hf : f ≤ 175990) (hr1 : h1 + 71200 ≤ B1 + 870000) (hr2 : h2 + 71200 ≤ B2 + 870000) (hp : p ≤ 1000) (hK : KPh g1 g2 B1 h1 B2 h2 f p (70 * p + 70) σ1 σ2 τ1 τ2) (n1 : N1 1 = N2 1) (n9 : N1 9 = nI f) (o9 : N2 9 = nI f) : Pm m (fun k => x_range k 24 N1 τ1) (fun k => x_range k 24 N2 τ2) (KQ h1 h2 71200) := by
  obtain ⟨g1', l1', h1', g2', l2', h2', q1, q2, q3, q4, q5, q6, q7, q8, q9, q10, q11⟩ := hK
  have b27 : ∀ (m : Nat) (N1 N2 : Nat → Int32) (r1 r2 : Int32 × MS), N1 100 = r1.1 → N2 100 = r2.1 → KQ h1 h2 71200 r1 r2 → Pm m (fun k => x_range k 27 N1 r1.2) (fun k => x_range k 27 N2 r2.2) (KQ h1 h2 71200) := fun m N1 N2 r1 r2 u1 u2 hr => by
    refine Pm_suc rfl (fun k => by rw [x_range]) (fun k => by rw [x_range]) (fun m3 _ => ?_)
    rw [u1, u2]; exact Pm_some hr
  refine Pm_suc rfl (fun k => by rw [x_range]) (fun k => by rw [x_range]) (fun m1 _ => ?_)
  rw [q8, q9]
  refine Pm_ite Iff.rfl (fun _ _ => ?_) (fun z _ => absurd (by decide) z)
  refine Pm_suc rfl (fun k => by rw [x_range]) (fun k => by rw [x_range]) (fun m2 _ => ?_)
  rw [n1]
  refine Pm_ite Iff.rfl (fun _ _ => ?_) (fun _ _ => ?_)
  · refine Pm_suc rfl (fun k => by rw [x_range]) (fun k => by rw [x_range]) (fun m3 _ => ?_)
    exact Pm_ob (k_tupleOf q1.1 q2.1 q8 q9 q5 q6 (by omega) (by omega) (by omega) q7 (by exact n9) (by exact o9)) (fun r1 r2 hr => b27 m3 _ _ r1 r2 rfl rfl (KQ_tr hr (by omega) (by omega)))
  · exact Pm_ob (k_setOf q1.1 q2.1 q8 q9 q5 q6 (by omega) (by omega) (by omega) (by omega) q7 (by exact n9) (by exact o9)) (fun r1 r2 hr => b27 m2 _ _ r1 r2 rfl rfl (KQ_tr hr (by omega) (by omega)))
theorem k_rng15 {f : Nat} (hf : f ≤ 175990) (hr1 : h1 + 71200 ≤ B1 + 870000) (hr2 : h2 + 71200 ≤ B2 + 870000) : ∀ (m p : Nat) (N1 N2 : Nat → Int32) (τ1 τ2 : MS), p ≤ 1000 → RgS g1 g2 B1 h1 B2 h2 f p σ1 σ2 N1 N2 τ1 τ2 → Pm m (fun k => x_range k 15 N1 τ1) (fun k => x_range k 15 N2 τ2) (KQ h1 h2 71200) := by
  intro m
  induction m using Nat.strongRecOn with
  | ind m ih =>
  intro p N1 N2 τ1 τ2 hp hR
  obtain ⟨g1', l1', h1', g2', l2', h2', hX, r3, hL, r10, r67⟩ := hR
  have hX0 := hX
  obtain ⟨q1, q2, q3, q4, q5, q6, q7, q8, q9, q10, q11⟩ := hX
  obtain ⟨n1, n7, n8, n9, o9, n11⟩ := hL
  have c24 : ∀ m', Pm m' (fun k => x_range k 24 N1 τ1) (fun k => x_range k 24 N2 τ2) (KQ h1 h2 71200) := fun m' => k_rng24 hf hr1 hr2 hp ⟨g1', l1', h1', g2', l2', h2', hX0⟩ n1 n9 o9
  have c17 : ∀ m', m' < m → ¬ N1 11 = 0 → Pm m' (fun k => x_range k 17 N1 τ1) (fun k => x_range k 17 N2 τ2) (KQ h1 h2 71200) := by
    intro m' hm' z11
    have s10 := r10 z11
    refine Pm_suc rfl (fun k => by rw [x_range]) (fun k => by rw [x_range]) (fun k1 hk1 => ?_)
    refine Pm_ob (Pm_t2 (s_push q5 (by omega) _) (fun k => f_push k _ _ _) (s_push q6 (by omega) _) (fun k => f_push k _ _ _)) (fun u1 u2 hu => ?_)
    rw [hu.1, hu.2]
    have hW : KPx g1 g2 B1 h1 B2 h2 f (p + 1) (70 * p + 70 + 0) σ1 σ2 (mPu τ1 (f + p) (N1 10)) (mPu τ2 (f + p) (N2 10)) g1' l1' h1' g2' l2' h2' := KPx_op (r1 := (N1 10, τ1)) (r2 := (N2 10, τ2)) hX0 (HG_rf q1.1) (HG_rf q2.1) FW_rf FW_rf q8 q9 (RgE_VC q1.1 q2.1 s10) (by omega) (by omega)
    show Pm k1 (fun k => if nI (f + p + 1) - N1 9 ≤ 1000 then x_range k 18 N1 (mPu τ1 (f + p) (N1 10)) else ob (x_fail k 0 (upd (fun _ => 0) 1 5) (mPu τ1 (f + p) (N1 10))) (fun r3 => x_range k 15 N1 r3.2)) (fun k => if nI (f + p + 1) - N2 9 ≤ 1000 then x_range k 18 N2 (mPu τ2 (f + p) (N2 10)) else ob (x_fail k 0 (upd (fun _ => 0) 1 5) (mPu τ2 (f + p) (N2 10))) (fun r3 => x_range k 15 N2 r3.2)) _
    have tr : ∀ x y, RgE g1' g2' τ1 τ2 x y → RgE g1' g2' (mPu τ1 (f + p) (N1 10)) (mPu τ2 (f + p) (N2 10)) x y := fun x y hx => RgE_c hx (mPu_o (by decide)) (mPu_o (by decide))
    have s3 := tr _ _ r3
    have s10 := tr _ _ s10
    have s67 : (N1 7 = 0 ∧ RgE g1' g2' (mPu τ1 (f + p) (N1 10)) (mPu τ2 (f + p) (N2 10)) (N1 6) (N2 6)) ∨ (¬ N1 7 = 0 ∧ RgE g1' g2' (mPu τ1 (f + p) (N1 10)) (mPu τ2 (f + p) (N2 10)) (N1 4) (N2 4) ∧ (N1 10 = N1 4 ↔ N2 10 = N2 4)) := r67.imp (fun z => ⟨z.1, tr _ _ z.2⟩) (fun z => ⟨z.1, tr _ _ z.2.1, z.2.2 z11⟩)
    generalize mPu τ1 (f + p) (N1 10) = υ1 at hW s3 s10 s67
    generalize mPu τ2 (f + p) (N2 10) = υ2 at hW s3 s10 s67
    have hW0 := hW
    obtain ⟨w1, w2, w3, w4, w5, w6, w7, w8, w9, w10, w11⟩ := hW
    rw [n9, o9, n_sub (by omega) (by omega), show f + p + 1 - f = p + 1 by omega]
    refine Pm_ite Iff.rfl (fun z _ => ?_) (fun _ _ => ?_)
    case refine_2 =>
      refine Pm_ob (Pm_t2 (s_fail _ υ1) (fun k => f_fail k _ _ _) (s_fail _ υ2) (fun k => f_fail k _ _ _)) (fun r1 r2 hr => ?_)
      rw [hr.1, hr.2]
      have hE : KE h1 h2 71200 (mEr υ1 5) (mEr υ2 5) := ⟨mEr_e (by decide), mEr_e (by decide), ⟨h1', h2', (mEr_s (by decide)).trans w1.1.2.2.1, (mEr_s (by decide)).trans w2.1.2.2.1, by omega, by omega⟩, ErB_er (e := 5) ⟨0, w8, by decide⟩ (by decide), ErB_er (e := 5) ⟨0, w9, by decide⟩ (by decide)⟩
      show Pm k1 (fun k => x_range k 15 N1 (mEr υ1 5)) (fun k => x_range k 15 N2 (mEr υ2 5)) _
      refine Pm_suc rfl (fun k => by rw [x_range]) (fun k => by rw [x_range]) (fun k2 hk2 => ?_)
      exact Pm_ite ⟨fun z => absurd z hE.1, fun z => absurd z hE.2.1⟩ (fun z _ => absurd z hE.1) (fun _ _ => k_rng24E hE)
    have hp1 := (n_le (q := 1000) (by omega) (by decide)).mp z
    refine Pm_suc rfl (fun k => by rw [x_range]) (fun k => by rw [x_range]) (fun k2 hk2 => ?_)
    rw [← n7]
    refine Pm_ite Iff.rfl (fun z7 _ => ?_) (fun z7 _ => ?_)
    · -- one step on
      have s6 : RgE g1' g2' υ1 υ2 (N1 6) (N2 6) := by
        rcases s67 with z | z
        · exact z.2
        · exact absurd z7 z.1
      refine Pm_suc rfl (fun k => by rw [x_range]) (fun k => by rw [x_range]) (fun k3 hk3 => ?_)
      refine Pm_ob (RgE_add w1.1 w2.1 w8 w9 w5 w6 (by omega) (by omega) (by omega) s10 s6 rfl rfl rfl rfl (Or.inl rfl) (fun i hi => ?_)) (fun s1 s2 hs => ?_)
      · by_cases c : i = 3
        · rw [c]; rfl
        · rw [upd_other c, upd_other c, upd_other (by omega), upd_other (by omega), upd_other (by omega), upd_other (by omega)]
      obtain ⟨ee, eb1, eb2, G1, M1, H1, G2, M2, H2, a1, a2, a3, a4, a5, a6, a7, a8, a9⟩ := hs
      have tr3 : ∀ x y, RgE g1' g2' υ1 υ2 x y → RgE G1 G2 s1.2 s2.2 x y := fun x y hx => RgE_g w1.1 w2.1 a1 a2 hx
      have hY : KPx g1 g2 B1 h1 B2 h2 f (p + 1) (70 * p + 70 + 0 + 70) σ1 σ2 (mSc s1.2 56 0) (mSc s2.2 56 0) G1 M1 H1 G2 M2 H2 := KPx_st (υ1 := mSc s1.2 56 0) (υ2 := mSc s2.2 56 0) hW0 ⟨HS_c a1.1 rfl rfl rfl, a1.2.1, a1.2.2.1, a1.2.2.2⟩ ⟨HS_c a2.1 rfl rfl rfl, a2.2.1, a2.2.2.1, a2.2.2.2⟩ (FW_tr a3 (FW_sc (Or.inr (Or.inl rfl)))) (FW_tr a4 (FW_sc (Or.inr (Or.inl rfl)))) a5 a6 rfl rfl a8 a9
      have c23 : ∀ (m'' : Nat) (O1 O2 : Nat → Int32), m'' < m → O1 1 = N1 1 → O2 1 = N2 1 → O1 3 = N1 3 → O2 3 = N2 3 → O1 6 = N1 6 → O2 6 = N2 6 → O1 7 = N1 7 → O2 7 = N2 7 → O1 8 = N1 8 → O2 8 = N2 8 → O1 9 = nI f → O2 9 = nI f → O1 10 = s1.1 → O2 10 = s2.1 → O1 100 = O2 100 → (¬ O1 100 = 0 → s1.2.1 56 = 0) → Pm m'' (fun k => x_range k 23 O1 s1.2) (fun k => x_range k 23 O2 s2.2) (KQ h1 h2 71200) := by
        intro m'' O1 O2 hm'' i1 j1 i3 j3 i6 j6 i7 j7 i8 j8 i9 j9 i10 j10 i100 hz
        refine Pm_suc rfl (fun k => by rw [x_range]) (fun k => by rw [x_range]) (fun k4 hk4 => ?_)
        show Pm k4 (fun k => x_range k 15 (upd O1 11 (O1 100)) (mSc s1.2 56 0)) (fun k => x_range k 15 (upd O2 11 (O2 100)) (mSc s2.2 56 0)) _
        refine ih k4 (by omega) (p + 1) _ _ _ _ hp1 ⟨G1, M1, H1, G2, M2, H2, ?_, ?_, ⟨?_, ?_, ?_, i9, j9, i100⟩, fun y => ?_, Or.inl ⟨?_, ?_⟩⟩
        · rw [show 70 * (p + 1) + 70 = 70 * p + 70 + 0 + 70 by omega]; exact hY
        · show RgE G1 G2 (mSc s1.2 56 0) (mSc s2.2 56 0) (O1 3) (O2 3)
          rw [i3, j3]; exact RgE_c (tr3 _ _ s3) rfl rfl
        · show O1 1 = O2 1
          rw [i1, j1, n1]
        · show O1 7 = O2 7
          rw [i7, j7, n7]
        · show O1 8 = O2 8
          rw [i8, j8, n8]
        · show RgE G1 G2 (mSc s1.2 56 0) (mSc s2.2 56 0) (O1 10) (O2 10)
          rw [i10, j10]; exact RgE_c (a7 (hz y)) rfl rfl
        · show O1 7 = 0
          rw [i7]; exact z7
        · show RgE G1 G2 (mSc s1.2 56 0) (mSc s2.2 56 0) (O1 6) (O2 6)
          rw [i6, j6]; exact RgE_c (tr3 _ _ s6) rfl rfl
      refine Pm_ite ee (fun w0 _ => c23 k3 _ _ (by omega) rfl rfl rfl rfl rfl rfl rfl rfl rfl rfl n9 o9 rfl rfl rfl (fun _ => w0)) (fun _ _ => ?_)
      refine Pm_suc rfl (fun k => by rw [x_range]) (fun k => by rw [x_range]) (fun k4 hk4 => ?_)
      exact c23 k4 _ _ (by omega) rfl rfl rfl rfl rfl rfl rfl rfl rfl rfl n9 o9 rfl rfl rfl (fun y => absurd rfl y)
    · obtain ⟨s4, seq⟩ : RgE g1' g2' υ1 υ2 (N1 4) (N2 4) ∧ (N1 10 = N1 4 ↔ N2 10 = N2 4) := by
        rcases s67 with z | z
        · exact absurd z.1 z7
        · exact z.2
      have c20 : ∀ (m'' : Nat) (O1 O2 : Nat → Int32), m'' < m → O1 1 = N1 1 → O2 1 = N2 1 → O1 3 = N1 3 → O2 3 = N2 3 → O1 4 = N1 4 → O2 4 = N2 4 → O1 7 = N1 7 → O2 7 = N2 7 → O1 8 = N1 8 → O2 8 = N2 8 → O1 9 = nI f → O2 9 = nI f → O1 100 = O2 100 → Pm m'' (fun k => x_range k 20 O1 υ1) (fun k => x_range k 20 O2 υ2) (KQ h1 h2 71200) := by
        intro m'' O1 O2 hm'' i1 j1 i3 j3 i4 j4 i7 j7 i8 j8 i9 j9 i100
        refine Pm_suc rfl (fun k => by rw [x_range]) (fun k => by rw [x_range]) (fun k4 hk4 => ?_)
        refine ih k4 (by omega) (p + 1) _ _ _ _ hp1 ⟨g1', l1', h1', g2', l2', h2', ?_, ?_, ⟨?_, ?_, ?_, i9, j9, i100⟩, fun _ => ?_, Or.inr ⟨?_, ?_, fun _ => Iff.intro (fun _ => rfl) (fun _ => rfl)⟩⟩
        · obtain ⟨v1, v2, v3, v4, v5, v6, v7, v8, v9, v10, v11⟩ := hW0
          exact ⟨v1, v2, v3, v4, v5, v6, v7, v8, v9, by omega, by omega⟩
        · show RgE g1' g2' υ1 υ2 (O1 3) (O2 3)
          rw [i3, j3]; exact s3
        · show O1 1 = O2 1
          rw [i1, j1, n1]
        · show O1 7 = O2 7
          rw [i7, j7, n7]
        · show O1 8 = O2 8
          rw [i8, j8, n8]
        · show RgE g1' g2' υ1 υ2 (O1 4) (O2 4)
          rw [i4, j4]; exact s4
        · show ¬ O1 7 = 0
          rw [i7]; exact z7
        · show RgE g1' g2' υ1 υ2 (O1 4) (O2 4)
          rw [i4, j4]; exact s4
      refine Pm_ite seq (fun _ _ => ?_) (fun _ _ => c20 k2 _ _ (by omega) rfl rfl rfl rfl rfl rfl rfl rfl rfl rfl n9 o9 rfl)
      refine Pm_suc rfl (fun k => by rw [x_range]) (fun k => by rw [x_range]) (fun k3 hk3 => ?_)
      exact c20 k3 _ _ (by omega) rfl rfl rfl rfl rfl rfl rfl rfl rfl rfl n9 o9 rfl
  refine Pm_suc rfl (fun k => by rw [x_range]) (fun k => by rw [x_range]) (fun k1 hk1 => ?_)
  rw [q8, q9, n11, n8]
  refine Pm_ite Iff.rfl (fun _ _ => ?_) (fun z _ => absurd rfl z)
  refine Pm_ite Iff.rfl (fun _ _ => c24 k1) (fun z11 _ => ?_)
  have z11 : ¬ N1 11 = 0 := by rw [n11]; exact z11
  have s10 := r10 z11
  refine Pm_ite Iff.rfl (fun _ _ => ?_) (fun _ _ => ?_)
  · refine Pm_suc rfl (fun k => by rw [x_range]) (fun k => by rw [x_range]) (fun k2 hk2 => ?_)
    refine Pm_ob (RgE_cmp q1.1 q2.1 s10 r3 rfl rfl rfl rfl) (fun r1 r2 hr => ?_)
    rw [hr.1, hr.2.1, hr.2.2]
    exact Pm_ite Iff.rfl (fun _ _ => c24 k2) (fun _ _ => c17 k2 (by omega) z11)
  · refine Pm_ob (RgE_cmp q1.1 q2.1 s10 r3 rfl rfl rfl rfl) (fun r1 r2 hr => ?_)
    rw [hr.1, hr.2.1, hr.2.2]
    exact Pm_ite Iff.rfl (fun _ _ => c24 k1) (fun _ _ => c17 k1 (by omega) z11)
end KRL
end JnS194
section JnS195
/-! Two runs side by side (reference): ranges, from their start. -/
section KRS
variable {g1 g2 g1' g2' : Nat → Prop} {l1 l2 l1' l2' : List Nat} {B1 h1 B2 h2 h1' h2' n : Nat} {σ1 σ2 τ1 τ2 : MS}
theorem k_rng9 {f m : Nat} (hf : f ≤ 175990) (hr1 : h1 + 71200 ≤ B1 + 870000) (hr2 : h2 + 71200 ≤ B2 + 870000) {N1 N2 : Nat → Int32} (hX : KPx g1 g2 B1 h1 B2 h2 f 0 70 σ1 σ2 τ1 τ2 g1' l1' h1' g2' l2' h2') (r3 : RgE g1' g2' τ1 τ2 (N1 3) (N2 3)) (r5 : RgE g1' g2' τ1 τ2 (N1 5) (N2 5)) (n1 : N1 1 = N2 1) (n7 : N1 7 = N2 7) (r67 : (N1 7 = 0 ∧ RgE g1' g2' τ1 τ2 (N1 6) (N2 6)) ∨ (¬ N1 7 = 0 ∧ RgE g1' g2' τ1 τ2 (N1 4) (N2 4) ∧ (N1 5 = N1 4 ↔ N2 5 = N2 4))) : Pm m (fun k => x_range k 9 N1 τ1) (fun k => x_range k 9 N2 τ2) (KQ h1 h2 71200) := by
  have hX0 := hX
  obtain ⟨q1, q2, q3, q4, q5, q6, q7, q8, q9, q10, q11⟩ := hX
  have b14 : ∀ (m : Nat) (M1 M2 : Nat → Int32), M1 1 = N1 1 → M2 1 = N2 1 → M1 3 = N1 3 → M2 3 = N2 3 → M1 4 = N1 4 → M2 4 = N2 4 → M1 6 = N1 6 → M2 6 = N2 6 → M1 7 = N1 7 → M2 7 = N2 7 → M1 8 = M2 8 → M1 9 = nI f → M2 9 = nI f → M1 10 = N1 5 → M2 10 = N2 5 → M1 100 = M2 100 → Pm m (fun k => x_range k 14 M1 τ1) (fun k => x_range k 14 M2 τ2) (KQ h1 h2 71200) := by
    intro m M1 M2 i1 j1 i3 j3 i4 j4 i6 j6 i7 j7 i8 i9 j9 i10 j10 i100
    refine Pm_suc rfl (fun k => by rw [x_range]) (fun k => by rw [x_range]) (fun m1 _ => ?_)
    refine k_rng15 hf hr1 hr2 m1 0 _ _ τ1 τ2 (by omega) ⟨g1', l1', h1', g2', l2', h2', hX0, ?_, ⟨?_, ?_, i8, i9, j9, i100⟩, fun _ => ?_, ?_⟩
    · show RgE g1' g2' τ1 τ2 (M1 3) (M2 3)
      rw [i3, j3]; exact r3
    · show M1 1 = M2 1
      rw [i1, j1, n1]
    · show M1 7 = M2 7
      rw [i7, j7, n7]
    · show RgE g1' g2' τ1 τ2 (M1 10) (M2 10)
      rw [i10, j10]; exact r5
    · show (M1 7 = 0 ∧ RgE g1' g2' τ1 τ2 (M1 6) (M2 6)) ∨ (¬ M1 7 = 0 ∧ RgE g1' g2' τ1 τ2 (M1 4) (M2 4) ∧ (¬ M1 100 = 0 → (M1 10 = M1 4 ↔ M2 10 = M2 4)))
      rw [i7, i6, j6, i4, j4, i10, j10]
      exact r67.imp id (fun z => ⟨z.1, z.2.1, fun _ => z.2.2⟩)
  have b12 : ∀ (m : Nat) (M1 M2 : Nat → Int32), M1 1 = N1 1 → M2 1 = N2 1 → M1 3 = N1 3 → M2 3 = N2 3 → M1 4 = N1 4 → M2 4 = N2 4 → M1 5 = N1 5 → M2 5 = N2 5 → M1 6 = N1 6 → M2 6 = N2 6 → M1 7 = N1 7 → M2 7 = N2 7 → M1 100 = M2 100 → Pm m (fun k => x_range k 12 M1 τ1) (fun k => x_range k 12 M2 τ2) (KQ h1 h2 71200) := by
    intro m M1 M2 i1 j1 i3 j3 i4 j4 i5 j5 i6 j6 i7 j7 i100
    have q5 : τ1.1 59 = nI f := q5
    have q6 : τ2.1 59 = nI f := q6
    refine Pm_suc rfl (fun k => by rw [x_range]) (fun k => by rw [x_range]) (fun m1 _ => ?_)
    rw [i100, q5, q6]
    refine Pm_ite Iff.rfl (fun _ _ => ?_) (fun _ _ => b14 m1 _ _ i1 j1 i3 j3 i4 j4 i6 j6 i7 j7 rfl rfl rfl i5 j5 rfl)
    refine Pm_suc rfl (fun k => by rw [x_range]) (fun k => by rw [x_range]) (fun m2 _ => ?_)
    exact b14 m2 _ _ i1 j1 i3 j3 i4 j4 i6 j6 i7 j7 rfl rfl rfl i5 j5 rfl
  refine Pm_suc rfl (fun k => by rw [x_range]) (fun k => by rw [x_range]) (fun m1 _ => ?_)
  rw [← n7]
  refine Pm_ite Iff.rfl (fun z _ => ?_) (fun z _ => ?_)
  · rcases r67 with r67 | r67
    · obtain ⟨a1, a2, s1, s2, c3, c4, ev, k⟩ := r67.2
      obtain ⟨p, hA⟩ := WhE_of q1.1 q2.1 (Or.inr c3) (Or.inr c4) ev k
      refine Pm_suc rfl (fun k => by rw [x_range]) (fun k => by rw [x_range]) (fun m2 _ => ?_)
      refine Pm_ob (k_signOf q1.1 q2.1 hA (by exact s1) (by exact s2)) (fun r1 r2 hr => ?_)
      rw [hr.1, hr.2]
      exact b12 m2 _ _ rfl rfl rfl rfl rfl rfl rfl rfl rfl rfl rfl rfl rfl
    · exact absurd z r67.1
  · rcases r67 with r67 | r67
    · exact absurd r67.1 z
    · refine Pm_ob (RgE_cmp q1.1 q2.1 r67.2.1 r5 rfl rfl rfl rfl) (fun r1 r2 hr => ?_)
      rw [hr.1, hr.2.1, hr.2.2]
      refine Pm_ite Iff.rfl (fun _ _ => ?_) (fun _ _ => b12 m1 _ _ rfl rfl rfl rfl rfl rfl rfl rfl rfl rfl rfl rfl rfl)
      refine Pm_suc rfl (fun k => by rw [x_range]) (fun k => by rw [x_range]) (fun m2 _ => ?_)
      exact b12 m2 _ _ rfl rfl rfl rfl rfl rfl rfl rfl rfl rfl rfl rfl rfl
theorem u_addS {g : Nat → Prop} {l : List Nat} {B h m : Nat} {σ : MS} {x y : Int32} (hS : HS g l B h σ) (e : σ.1 56 = 0) (hr : h + 70 ≤ B + 870000) (hx : ∃ a, y = nI a ∧ g a ∧ kdN (σ.2.2 28) a = 2) (sg : ∀ a p, g a → kdN (σ.2.2 28) a = 2 → Wh σ a p → SgOK (σ.2.2 28) a p) {L : Nat → Int32} (d1 : L 1 = x) (d2 : L 2 = y) (d3 : L 3 = -1) : Um m (fun k => x_add k 0 L σ) (fun r => y = x → r.2.1 56 = 0) := by
  by_cases c : y = x
  · obtain ⟨a, e1, e2, e3⟩ := hx
    obtain ⟨p, hW⟩ := Wh_of hS (Or.inr e2) e3
    exact Um_mono (u_addSame hS e hr hW (sg a p e2 e3 hW) (d1.trans (c.symm.trans e1)) (d2.trans e1) d3) (fun r hr _ => hr)
  · exact fun k hk r hr z => absurd z c
theorem k_rng4 {f m : Nat} (hS1 : HS g1 l1 B1 h1 σ1) (hS2 : HS g2 l2 B2 h2 σ2) (e1 : σ1.1 56 = 0) (e2 : σ2.1 56 = 0) (t1 : σ1.1 59 = nI f) (t2 : σ2.1 59 = nI f) (hf : f ≤ 175990) (hr1 : h1 + 71200 ≤ B1 + 870000) (hr2 : h2 + 71200 ≤ B2 + 870000) (sg1 : ∀ a p, g1 a → kdN (σ1.2.2 28) a = 2 → Wh σ1 a p → SgOK (σ1.2.2 28) a p) (sg2 : ∀ a p, g2 a → kdN (σ2.2.2 28) a = 2 → Wh σ2 a p → SgOK (σ2.2.2 28) a p) {N1 N2 : Nat → Int32} (r3 : RgE g1 g2 σ1 σ2 (N1 3) (N2 3)) (r5 : RgE g1 g2 σ1 σ2 (N1 5) (N2 5)) (n1 : N1 1 = N2 1) (n2 : N1 2 = N2 2) (r4 : ¬ N2 2 = 0 → RgE g1 g2 σ1 σ2 (N1 4) (N2 4)) : Pm m (fun k => x_range k 4 N1 σ1) (fun k => x_range k 4 N2 σ2) (KQ h1 h2 71200) := by
  have hX0 : KPx g1 g2 B1 h1 B2 h2 f 0 0 σ1 σ2 σ1 σ2 g1 l1 h1 g2 l2 h2 := ⟨HG_rf hS1, HG_rf hS2, FW_rf, FW_rf, t1, t2, fun i hi => absurd hi (Nat.not_lt_zero i), e1, e2, by omega, by omega⟩
  -- the step is known, or it is too large
  have b8 : ∀ (m : Nat) (M1 M2 : Nat → Int32) (r1 r2 : Int32 × MS) (g1' : Nat → Prop) (l1' : List Nat) (h1' : Nat) (g2' : Nat → Prop) (l2' : List Nat) (h2' : Nat), HG g1 B1 h1 σ1 r1.2 g1' l1' h1' → HG g2 B2 h2 σ2 r2.2 g2' l2' h2' → FW f σ1 r1.2 → FW f σ2 r2.2 → r1.2.1 59 = nI f → r2.2.1 59 = nI f → h1' ≤ h1 + 70 → h2' ≤ h2 + 70 → M1 1 = N1 1 → M2 1 = N2 1 → M1 3 = N1 3 → M2 3 = N2 3 → M1 5 = N1 5 → M2 5 = N2 5 → M1 100 = M2 100 → ((M1 100 = 0 ∧ RgE g1' g2' r1.2 r2.2 (M1 6) (M2 6)) ∨ (¬ M1 100 = 0 ∧ RgE g1' g2' r1.2 r2.2 (M1 4) (M2 4) ∧ (M1 5 = M1 4 ↔ M2 5 = M2 4))) → Pm m (fun k => x_range k 8 M1 r1.2) (fun k => x_range k 8 M2 r2.2) (KQ h1 h2 71200) := by
    intro m M1 M2 r1 r2 g1' l1' h1' g2' l2' h2' a1 a2 a3 a4 a5 a6 a7 a8 i1 j1 i3 j3 i5 j5 i100 hor
    refine Pm_suc rfl (fun k => by rw [x_range]) (fun k => by rw [x_range]) (fun m1 _ => ?_)
    show Pm m1 (fun k => x_range k 9 (upd M1 7 (M1 100)) (mSc r1.2 56 0)) (fun k => x_range k 9 (upd M2 7 (M2 100)) (mSc r2.2 56 0)) _
    have hX : KPx g1 g2 B1 h1 B2 h2 f 0 (0 + 70) σ1 σ2 (mSc r1.2 56 0) (mSc r2.2 56 0) g1' l1' h1' g2' l2' h2' := KPx_st (υ1 := mSc r1.2 56 0) (υ2 := mSc r2.2 56 0) hX0 ⟨HS_c a1.1 rfl rfl rfl, a1.2.1, a1.2.2.1, a1.2.2.2⟩ ⟨HS_c a2.1 rfl rfl rfl, a2.2.1, a2.2.2.1, a2.2.2.2⟩ (FW_tr a3 (FW_sc (Or.inr (Or.inl rfl)))) (FW_tr a4 (FW_sc (Or.inr (Or.inl rfl)))) a5 a6 rfl rfl a7 a8
    have tr : ∀ x y, RgE g1 g2 σ1 σ2 x y → RgE g1' g2' (mSc r1.2 56 0) (mSc r2.2 56 0) x y := fun x y hx => RgE_c (RgE_g hS1 hS2 a1 a2 hx) rfl rfl
    refine k_rng9 hf hr1 hr2 hX ?_ ?_ ?_ i100 ?_
    · show RgE g1' g2' (mSc r1.2 56 0) (mSc r2.2 56 0) (M1 3) (M2 3)
      rw [i3, j3]; exact tr _ _ r3
    · show RgE g1' g2' (mSc r1.2 56 0) (mSc r2.2 56 0) (M1 5) (M2 5)
      rw [i5, j5]; exact tr _ _ r5
    · show M1 1 = M2 1
      rw [i1, j1, n1]
    · show (M1 100 = 0 ∧ RgE g1' g2' (mSc r1.2 56 0) (mSc r2.2 56 0) (M1 6) (M2 6)) ∨ (¬ M1 100 = 0 ∧ RgE g1' g2' (mSc r1.2 56 0) (mSc r2.2 56 0) (M1 4) (M2 4) ∧ (M1 5 = M1 4 ↔ M2 5 = M2 4))
      exact hor.imp (fun z => ⟨z.1, RgE_c z.2 rfl rfl⟩) (fun z => ⟨z.1, RgE_c z.2.1 rfl rfl, z.2.2⟩)
  refine Pm_suc rfl (fun k => by rw [x_range]) (fun k => by rw [x_range]) (fun m1 _ => ?_)
  rw [n2]
  refine Pm_ite Iff.rfl (fun _ _ => ?_) (fun z _ => ?_)
  · refine Pm_suc rfl (fun k => by rw [x_range]) (fun k => by rw [x_range]) (fun m2 _ => ?_)
    refine Pm_ob (Pm_un (s_smallW ⟨hS1, t1, by omega, ⟨0, e1, by decide⟩⟩ _) (fun k => f_small k _ _ _) (s_smallW ⟨hS2, t2, by omega, ⟨0, e2, by decide⟩⟩ _) (fun k => f_small k _ _ _) (k_small hS1 hS2 e1 e2 (by omega) (by omega) (fun i hi => rfl))) (fun r1 r2 hr => ?_)
    obtain ⟨hq, w1, w2⟩ := hr
    have v1 := VW_VO w1
    have v2 := VW_VO w2
    have x1 : r1.2.1 56 = 0 := by
      obtain ⟨_, _, _, _, _, _, _, _, _, _, ok, _⟩ := w1
      exact ok trivial e1 (by omega)
    obtain ⟨g1', l1', h1', g2', l2', h2', s1, s2, s3, s4, s5, s6, s7, s8, s9⟩ := KQ_g0 (by omega) hS1 hS2 v1 v2 hq
    refine Pm_suc rfl (fun k => by rw [x_range]) (fun k => by rw [x_range]) (fun m3 _ => ?_)
    rw [x1, hq.1.mp x1]
    refine Pm_ite Iff.rfl (fun _ _ => ?_) (fun y _ => absurd (by decide) y)
    refine Pm_suc rfl (fun k => by rw [x_range]) (fun k => by rw [x_range]) (fun m4 _ => ?_)
    exact b8 m4 _ _ r1 r2 g1' l1' h1' g2' l2' h2' s1 s2 s3 s4 s5 s6 s8 s9 rfl rfl rfl rfl rfl rfl rfl (Or.inl ⟨rfl, RgE_W x1 w1 (s7 x1)⟩)
  · have r4 := r4 z
    have c5 : ∃ a, N1 5 = nI a ∧ g1 a ∧ kdN (σ1.2.2 28) a = 2 := by
      obtain ⟨a1, a2, i1, i2, c3, c4, ev, k⟩ := r5
      exact ⟨a1, i1, c3, k⟩
    have d5 : ∃ a, N2 5 = nI a ∧ g2 a ∧ kdN (σ2.2.2 28) a = 2 := by
      obtain ⟨a1, a2, i1, i2, c3, c4, ev, k⟩ := r5
      exact ⟨a2, i2, c4, by rw [(EVb_sz ev).2.2]; exact k⟩
    refine Pm_ob (Pm_and (RgE_add hS1 hS2 e1 e2 t1 t2 (by omega) (by omega) (by omega) r4 r5 rfl rfl rfl rfl (Or.inr rfl) (fun i hi => ?_)) (Pm_u2 (u_addS (x := N1 4) (y := N1 5) hS1 e1 (by omega) c5 sg1 rfl rfl rfl) (u_addS (x := N2 4) (y := N2 5) hS2 e2 (by omega) d5 sg2 rfl rfl rfl))) (fun r1 r2 hr => ?_)
    · by_cases c : i = 3
      · rw [c]; rfl
      · rw [upd_other c, upd_other c, upd_other (by omega), upd_other (by omega), upd_other (by omega), upd_other (by omega)]
    obtain ⟨⟨ee, eb1, eb2, g1', l1', h1', g2', l2', h2', s1, s2, s3, s4, s5, s6, s7, s8, s9⟩, y1, y2⟩ := hr
    refine Pm_suc rfl (fun k => by rw [x_range]) (fun k => by rw [x_range]) (fun m3 _ => ?_)
    by_cases er : r1.2.1 56 = 0
    · rw [er, ee.mp er]
      refine Pm_ite Iff.rfl (fun _ _ => ?_) (fun y _ => absurd (by decide) y)
      refine Pm_suc rfl (fun k => by rw [x_range]) (fun k => by rw [x_range]) (fun m4 _ => ?_)
      exact b8 m4 _ _ r1 r2 g1' l1' h1' g2' l2' h2' s1 s2 s3 s4 s5 s6 s8 s9 rfl rfl rfl rfl rfl rfl rfl (Or.inl ⟨rfl, s7 er⟩)
    · have er2 : ¬ r2.2.1 56 = 0 := fun c => er (ee.mpr c)
      have z1 := ErB_pos eb1 er
      have z2 := ErB_pos eb2 er2
      refine Pm_ite ⟨fun y => absurd y z1, fun y => absurd y z2⟩ (fun y _ => absurd y z1) (fun _ _ => ?_)
      refine b8 m3 _ _ r1 r2 g1' l1' h1' g2' l2' h2' s1 s2 s3 s4 s5 s6 s8 s9 rfl rfl rfl rfl rfl rfl rfl (Or.inr ⟨show ¬ (1 : Int32) = 0 by decide, ?_, ?_⟩)
      · exact RgE_g hS1 hS2 s1 s2 r4
      · exact ⟨fun c => absurd (y1 c) er, fun c => absurd (y2 c) er2⟩
theorem k_range {f c : Nat} (hS1 : HS g1 l1 B1 h1 σ1) (hS2 : HS g2 l2 B2 h2 σ2) (e1 : σ1.1 56 = 0) (e2 : σ2.1 56 = 0) (hf : f ≤ 175990) (hr1 : h1 + 71200 ≤ B1 + 870000) (hr2 : h2 + 71200 ≤ B2 + 870000) (sg1 : ∀ a p, g1 a → kdN (σ1.2.2 28) a = 2 → Wh σ1 a p → SgOK (σ1.2.2 28) a p) (sg2 : ∀ a p, g2 a → kdN (σ2.2.2 28) a = 2 → Wh σ2 a p → SgOK (σ2.2.2 28) a p) {L1 L2 : Nat → Int32} (d1 : L1 1 = L2 1) (d2 : L1 2 = L2 2) (hc : (L2 2 = 0 ∧ c = 2) ∨ (¬ L2 2 = 0 ∧ c = 3)) (t1 : σ1.1 59 = nI (f + c)) (t2 : σ2.1 59 = nI (f + c)) (hP : PlE g1 g2 σ1 σ2 f c) : Pm n (fun k => x_range k 0 L1 σ1) (fun k => x_range k 0 L2 σ2) (KQ h1 h2 71200) := by
  have b2 : ∀ (m : Nat) (N1 N2 : Nat → Int32) (τ1 τ2 : MS), (∀ j, j ≠ 59 → τ1.1 j = σ1.1 j) → (∀ j, j ≠ 59 → τ2.1 j = σ2.1 j) → τ1.2.2 = σ1.2.2 → τ2.2.2 = σ2.2.2 → τ1.1 59 = nI (f + 1) → τ2.1 59 = nI (f + 1) → N1 1 = L1 1 → N2 1 = L2 1 → N1 2 = L1 2 → N2 2 = L2 2 → VC g1 g2 (σ1.2.2 28) (σ2.2.2 28) (N1 3) (N2 3) → (¬ L2 2 = 0 → VC g1 g2 (σ1.2.2 28) (σ2.2.2 28) (N1 100) (N2 100)) → Pm m (fun k => x_range k 2 N1 τ1) (fun k => x_range k 2 N2 τ2) (KQ h1 h2 71200) := by
    intro m N1 N2 τ1 τ2 a1 a2 c1 c2 t1 t2 n1 o1 n2 o2 v3 v100
    refine Pm_suc rfl (fun k => by rw [x_range]) (fun k => by rw [x_range]) (fun m1 _ => ?_)
    refine Pm_ob (Pm_t2 (s_pop t1 (by omega) _) (fun k => f_pop k _ _ _) (s_pop t2 (by omega) _) (fun k => f_pop k _ _ _)) (fun r1 r2 hr => ?_)
    rw [hr.1, hr.2, c1, c2]
    have v5 : VC g1 g2 (σ1.2.2 28) (σ2.2.2 28) (σ1.2.2 29 f) (σ2.2.2 29 f) := by
      rcases hc with ⟨_, rfl⟩ | ⟨_, rfl⟩
      · exact hP 0 (by omega)
      · exact hP 0 (by omega)
    have p28 : (mSc τ1 59 (nI f)).2.2 28 = σ1.2.2 28 := by show τ1.2.2 28 = _; rw [c1]
    have o28 : (mSc τ2 59 (nI f)).2.2 28 = σ2.2.2 28 := by show τ2.2.2 28 = _; rw [c2]
    have hT1 : HS g1 l1 B1 h1 (mSc τ1 59 (nI f)) := HS_c hS1 (show τ1.1 54 = _ from a1 54 (by decide)) (show τ1.1 55 = _ from a1 55 (by decide)) p28
    have hT2 : HS g2 l2 B2 h2 (mSc τ2 59 (nI f)) := HS_c hS2 (show τ2.1 54 = _ from a2 54 (by decide)) (show τ2.1 55 = _ from a2 55 (by decide)) o28
    have x1 : (mSc τ1 59 (nI f)).1 56 = 0 := (show τ1.1 56 = σ1.1 56 from a1 56 (by decide)).trans e1
    have x2 : (mSc τ2 59 (nI f)).1 56 = 0 := (show τ2.1 56 = σ2.1 56 from a2 56 (by decide)).trans e2
    have y1 : (mSc τ1 59 (nI f)).1 59 = nI f := rfl
    have y2 : (mSc τ2 59 (nI f)).1 59 = nI f := rfl
    have s1 : ∀ a p, g1 a → kdN ((mSc τ1 59 (nI f)).2.2 28) a = 2 → Wh (mSc τ1 59 (nI f)) a p → SgOK ((mSc τ1 59 (nI f)).2.2 28) a p := by
      intro a p; unfold Wh; rw [p28]; exact sg1 a p
    have s2 : ∀ a p, g2 a → kdN ((mSc τ2 59 (nI f)).2.2 28) a = 2 → Wh (mSc τ2 59 (nI f)) a p → SgOK ((mSc τ2 59 (nI f)).2.2 28) a p := by
      intro a p; unfold Wh; rw [o28]; exact sg2 a p
    rw [← p28, ← o28] at v3 v5 v100
    generalize hQ1 : mSc τ1 59 (nI f) = ρ1 at hT1 x1 y1 s1 v3 v5 v100 p28
    generalize hQ2 : mSc τ2 59 (nI f) = ρ2 at hT2 x2 y2 s2 v3 v5 v100 o28
    have b3 : ∀ (m : Nat) (M1 M2 : Nat → Int32), Pm m (fun k => x_range k 3 M1 ρ1) (fun k => x_range k 3 M2 ρ2) (KQ h1 h2 71200) := fun m M1 M2 => by
      refine Pm_suc rfl (fun k => by rw [x_range]) (fun k => by rw [x_range]) (fun m3 _ => ?_)
      exact Pm_ob (k_wrongKind hT1 hT2 _ _) (fun r1 r2 hr => Pm_some hr)
    obtain ⟨a, b, a3, a4, b3', b4, av, ab, bb⟩ := v5
    obtain ⟨d, w, d3, d4, w3, w4, dv, db, wb⟩ := v3
    have ka := kdN_6 hT1 a4
    have kd := kdN_6 hT1 d4
    have R5 : kdN (ρ1.2.2 28) a = 2 → RgE g1 g2 ρ1 ρ2 (σ1.2.2 29 f) (σ2.2.2 29 f) := fun hk => ⟨a, b, a3, b3', kdN_ge hT1 a4 (by omega), kdN_ge hT2 b4 (by rw [(EVb_sz av).2.2]; omega), av, hk⟩
    have R3 : kdN (ρ1.2.2 28) d = 2 → RgE g1 g2 ρ1 ρ2 (N1 3) (N2 3) := fun hk => ⟨d, w, d3, w3, kdN_ge hT1 d4 (by omega), kdN_ge hT2 w4 (by rw [(EVb_sz dv).2.2]; omega), dv, hk⟩
    refine Pm_ob (Pm_t2 (s_kind hT1 a4 (by exact a3)) (fun k => f_kind k _ _ _) (s_kind hT2 b4 (by exact b3')) (fun k => f_kind k _ _ _)) (fun r1 r2 hr => ?_)
    rw [hr.1, hr.2, (EVb_sz av).2.2]
    refine Pm_ite Iff.rfl (fun z _ => ?_) (fun _ _ => b3 _ _ _)
    have z := (n_eq (q := 2) (by omega) (by decide)).mp z
    refine Pm_ob (Pm_t2 (s_kind hT1 d4 (by exact d3)) (fun k => f_kind k _ _ _) (s_kind hT2 w4 (by exact w3)) (fun k => f_kind k _ _ _)) (fun r1 r2 hr => ?_)
    rw [hr.1, hr.2, (EVb_sz dv).2.2, n2, o2, d2]
    refine Pm_ite Iff.rfl (fun z2 _ => ?_) (fun _ _ => b3 _ _ _)
    have z2 := (n_eq (q := 2) (by omega) (by decide)).mp z2
    refine Pm_ite Iff.rfl (fun q _ => ?_) (fun q _ => ?_)
    · exact k_rng4 hT1 hT2 x1 x2 y1 y2 hf hr1 hr2 s1 s2 (R3 z2) (R5 z) (by show N1 1 = N2 1; rw [n1, o1, d1]) (by show N1 2 = N2 2; rw [n2, o2, d2]) (fun y => absurd (o2.trans q) y)
    · obtain ⟨i, j, i3, i4, j3, j4, iv, ib, jb⟩ := v100 q
      have ki := kdN_6 hT1 i4
      refine Pm_ob (Pm_t2 (s_kind hT1 i4 (by exact i3)) (fun k => f_kind k _ _ _) (s_kind hT2 j4 (by exact j3)) (fun k => f_kind k _ _ _)) (fun r1 r2 hr => ?_)
      rw [hr.1, hr.2, (EVb_sz iv).2.2]
      refine Pm_ite Iff.rfl (fun z3 _ => ?_) (fun _ _ => b3 _ _ _)
      have z3 := (n_eq (q := 2) (by omega) (by decide)).mp z3
      exact k_rng4 hT1 hT2 x1 x2 y1 y2 hf hr1 hr2 s1 s2 (R3 z2) (R5 z) (by show N1 1 = N2 1; rw [n1, o1, d1]) (by show N1 2 = N2 2; rw [n2, o2, d2]) (fun _ => ⟨i, j, i3, j3, kdN_ge hT1 i4 (by omega), kdN_ge hT2 j4 (by rw [(EVb_sz iv).2.2]; omega), iv, z3⟩)
  refine Pm_suc rfl (fun k => by rw [x_range]) (fun k => by rw [x_range]) (fun m1 _ => ?_)
  rcases hc with ⟨z, rfl⟩ | ⟨z, rfl⟩
  · refine Pm_ob (Pm_t2 (s_pop (u := f + 1) t1 (by omega) _) (fun k => f_pop k _ _ _) (s_pop (u := f + 1) t2 (by omega) _) (fun k => f_pop k _ _ _)) (fun r1 r2 hr => ?_)
    rw [hr.1, hr.2, d2]
    refine Pm_ite Iff.rfl (fun _ _ => ?_) (fun w _ => absurd z w)
    refine Pm_suc rfl (fun k => by rw [x_range]) (fun k => by rw [x_range]) (fun m2 _ => ?_)
    exact b2 m2 _ _ _ _ (fun j hj => upd_other hj) (fun j hj => upd_other hj) rfl rfl rfl rfl rfl rfl rfl rfl (hP 1 (by omega)) (fun q => absurd z q)
  · refine Pm_ob (Pm_t2 (s_pop (u := f + 2) t1 (by omega) _) (fun k => f_pop k _ _ _) (s_pop (u := f + 2) t2 (by omega) _) (fun k => f_pop k _ _ _)) (fun r1 r2 hr => ?_)
    rw [hr.1, hr.2, d2]
    refine Pm_ite Iff.rfl (fun w _ => absurd w z) (fun _ _ => ?_)
    refine Pm_ob (Pm_t2 (s_pop (σ := mSc σ1 59 (nI (f + 2))) (u := f + 1) rfl (by omega) _) (fun k => f_pop k _ _ _) (s_pop (σ := mSc σ2 59 (nI (f + 2))) (u := f + 1) rfl (by omega) _) (fun k => f_pop k _ _ _)) (fun s1 s2 hs => ?_)
    rw [hs.1, hs.2]
    exact b2 m1 _ _ _ _ (fun j hj => (upd_other hj).trans (upd_other hj)) (fun j hj => (upd_other hj).trans (upd_other hj)) rfl rfl rfl rfl rfl rfl rfl rfl (hP 2 (by omega)) (fun _ => hP 1 (by omega))
end KRS
end JnS195

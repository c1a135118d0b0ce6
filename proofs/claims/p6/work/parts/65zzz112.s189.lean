/-! Two runs side by side (reference): parts and images of maps are written. -/
section KPA
variable {g1 g2 : Nat → Prop} {l1 l2 : List Nat} {B1 h1 B2 h2 n : Nat} {σ1 σ2 : MS}
theorem Pm_if1 {Q : Int32 × MS → Int32 × MS → Prop} {c : Prop} {d : Decidable c} {a b g : Nat → Option (Int32 × MS)} (h : ¬ c) (t : Pm n b g Q) : Pm n (fun k => if c then a k else b k) g Q := by
  intro k hk r1 r2 e1 e2
  have e1 : (if c then a k else b k) = some r1 := e1
  rw [if_neg h] at e1
  exact t k hk r1 r2 e1 e2
theorem Pm_if2 {Q : Int32 × MS → Int32 × MS → Prop} {c : Prop} {d : Decidable c} {a b g : Nat → Option (Int32 × MS)} (h : ¬ c) (t : Pm n g b Q) : Pm n g (fun k => if c then a k else b k) Q := by
  intro k hk r1 r2 e1 e2
  have e2 : (if c then a k else b k) = some r2 := e2
  rw [if_neg h] at e2
  exact t k hk r1 r2 e1 e2
theorem KPu_Px {f w : Nat} {τ1 τ2 : MS} (hS1 : HS g1 l1 B1 h1 σ1) (hS2 : HS g2 l2 B2 h2 σ2) (e1 : σ1.1 56 = 0) (e2 : σ2.1 56 = 0) (hU : KPu g1 g2 f w σ1 σ2 τ1 τ2) : KPx g1 g2 B1 h1 B2 h2 f w 0 σ1 σ2 τ1 τ2 g1 l1 h1 g2 l2 h2 :=
  ⟨⟨PuS_HS hU.1 hS1, fun _ z => z, Nat.le_refl _, fun i _ _ => by rw [hU.1.2.1 28 (by decide)]⟩, ⟨PuS_HS hU.2.1 hS2, fun _ z => z, Nat.le_refl _, fun i _ _ => by rw [hU.2.1.2.1 28 (by decide)]⟩, PuS_FW hU.1, PuS_FW hU.2.1, hU.1.2.2.2.1, hU.2.1.2.2.2.1, hU.2.2, (hU.1.1 56 (by decide)).trans e1, (hU.2.1.1 56 (by decide)).trans e2, by omega, by omega⟩
theorem KPh_mo {f w K K' : Nat} {τ1 τ2 : MS} (h : KPh g1 g2 B1 h1 B2 h2 f w K σ1 σ2 τ1 τ2) (hK : K ≤ K') : KPh g1 g2 B1 h1 B2 h2 f w K' σ1 σ2 τ1 τ2 := by
  obtain ⟨g1', l1', h1', g2', l2', h2', q1, q2, q3, q4, q5, q6, q7, q8, q9, q10, q11⟩ := h
  exact ⟨g1', l1', h1', g2', l2', h2', q1, q2, q3, q4, q5, q6, q7, q8, q9, by omega, by omega⟩
/-- a pair is made and pushed: well on both sides, or an error on both -/
theorem k_pairP {Q : Int32 × MS → Int32 × MS → Prop} {F1 F2 : Nat → Int32 × MS → Option (Int32 × MS)} {f w K : Nat} {τ1 τ2 : MS} (hS1 : HS g1 l1 B1 h1 σ1) (hS2 : HS g2 l2 B2 h2 σ2) (hX : KPh g1 g2 B1 h1 B2 h2 f w K σ1 σ2 τ1 τ2) (hfw : f + w + 2 ≤ 185000) (hr1 : h1 + K + 6 ≤ B1 + 870000) (hr2 : h2 + K + 6 ≤ B2 + 870000) {a1 a2 c1 c2 : Int32} (va : VC g1 g2 (σ1.2.2 28) (σ2.2.2 28) a1 a2) (vc : VC g1 g2 (σ1.2.2 28) (σ2.2.2 28) c1 c2) {L1 L2 : Nat → Int32} (d1 : L1 1 = a1) (d2 : L1 2 = c1) (f1 : L2 1 = a2) (f2 : L2 2 = c2) (hQ : ∀ s1 s2 : Int32 × MS, KPh g1 g2 B1 h1 B2 h2 f (w + 1) (K + 6) σ1 σ2 s1.2 s2.2 ∨ KE h1 h2 (K + 6) s1.2 s2.2 → Pm n (fun k => F1 k s1) (fun k => F2 k s2) Q) : Pm n (fun k => ob (x_pair k 0 L1 τ1) (fun r3 => ob (x_push k 0 (upd (fun _ => 0) 1 r3.1) r3.2) (F1 k))) (fun k => ob (x_pair k 0 L2 τ2) (fun r3 => ob (x_push k 0 (upd (fun _ => 0) 1 r3.1) r3.2) (F2 k))) Q := by
  obtain ⟨g1', l1', h1', g2', l2', h2', hX0⟩ := hX
  have hX := hX0
  obtain ⟨q1, q2, q3, q4, q5, q6, q7, q8, q9, q10, q11⟩ := hX
  have va := VC_g2 hS1 hS2 q1 q2 va
  have vc := VC_g2 hS1 hS2 q1 q2 vc
  obtain ⟨x1, x2, x3, x4, x5, x6, x7, x8, x9⟩ := va
  obtain ⟨y1, y2, y3, y4, y5, y6, y7, y8, y9⟩ := vc
  rw [x3] at d1
  rw [x5] at f1
  rw [y3] at d2
  rw [y5] at f2
  refine Pm_ob (Pm_un (s_pairW q1.1 ⟨0, q8, by decide⟩ q5 (by omega) x4 y4 d1 d2) (fun k => f_pair k _ _ _) (s_pairW q2.1 ⟨0, q9, by decide⟩ q6 (by omega) x6 y6 f1 f2) (fun k => f_pair k _ _ _) (k_pair q1.1 q2.1 q8 q9 q5 q6 (by omega) (by omega) (by omega) ⟨x1, x2, rfl, x4, rfl, x6, x7, x8, x9⟩ ⟨y1, y2, rfl, y4, rfl, y6, y7, y8, y9⟩ d1 d2 f1 f2)) (fun r1 r2 hr => ?_)
  obtain ⟨hq, v1, v2⟩ := hr
  refine Pm_ob (Pm_t2 (s_push (VO_59 v1) (by omega) _) (fun k => f_push k _ _ _) (s_push (VO_59 v2) (by omega) _) (fun k => f_push k _ _ _)) (fun u1 u2 hu => ?_)
  refine hQ u1 u2 ?_
  rw [hu.1, hu.2]
  by_cases er : r1.2.1 56 = 0
  · obtain ⟨g1'', l1'', h1'', g2'', l2'', h2'', a1, a2, a3, a4, a5, a6, a7, a8, a9, a10⟩ := KQ_gr (by omega) q1.1 q2.1 v1 v2 hq er
    exact Or.inl ⟨g1'', l1'', h1'', g2'', l2'', h2'', KPx_op (K' := 6) hX0 a1 a2 a3 a4 er a7 a8 a9 a10⟩
  · exact Or.inr (KE_pu (KE_of hq er (by omega) (by omega) (VO_E v1) (VO_E v2)))
theorem k_putMap {f v1 v2 a1 a2 q m : Nat} {x y : Int32} (hS1 : HS g1 l1 B1 h1 σ1) (hS2 : HS g2 l2 B2 h2 σ2) (e1 : σ1.1 56 = 0) (e2 : σ2.1 56 = 0) (t1 : σ1.1 59 = nI f) (t2 : σ2.1 59 = nI f) (hf : f ≤ 177000) (hr1 : h1 + 4004 ≤ B1 + 870000) (hr2 : h2 + 4004 ≤ B2 + 870000) (ha1 : a1 < 3 ∨ g1 a1) (ha2 : a2 < 3 ∨ g2 a2) (va : EVb (σ1.2.2 28) (σ2.2.2 28) a1 a2) (hx : VC g1 g2 (σ1.2.2 28) (σ2.2.2 28) x y) (hO : OE g1 g2 (σ1.2.2 28) (σ2.2.2 28) v1 v2 6 q) (hM : MpE g1 g2 (σ1.2.2 28) (σ2.2.2 28) v1 v2 q) (hq9 : q ≤ 999) {N1 N2 : Nat → Int32} (n1 : N1 1 = nI v1) (o1 : N2 1 = nI v2) (n2 : N1 2 = nI a1) (o2 : N2 2 = nI a2) (n3 : N1 3 = x) (o3 : N2 3 = y) : Pm m (fun k => x_putAt k 14 N1 σ1) (fun k => x_putAt k 14 N2 σ2) (KQ h1 h2 4004) := by
  have b17 : ∀ (m : Nat) (N1 N2 : Nat → Int32) (r1 r2 : Int32 × MS), N1 100 = r1.1 → N2 100 = r2.1 → KQ h1 h2 4004 r1 r2 → Pm m (fun k => x_putAt k 17 N1 r1.2) (fun k => x_putAt k 17 N2 r2.2) (KQ h1 h2 4004) := fun m N1 N2 r1 r2 u1 u2 hr => by
    refine Pm_suc rfl (fun k => by rw [x_putAt]) (fun k => by rw [x_putAt]) (fun m3 _ => ?_)
    rw [u1, u2]; exact Pm_some hr
  have b15 : ∀ (m w : Nat) (M1 M2 : Nat → Int32) (τ1 τ2 : MS), w ≤ 1000 → M1 5 = nI f → M2 5 = nI f → (KPh g1 g2 B1 h1 B2 h2 f w 6 σ1 σ2 τ1 τ2 ∨ KE h1 h2 6 τ1 τ2) → Pm m (fun k => x_putAt k 15 M1 τ1) (fun k => x_putAt k 15 M2 τ2) (KQ h1 h2 4004) := fun m w M1 M2 τ1 τ2 hw m5 o5 hK => by
    refine Pm_suc rfl (fun k => by rw [x_putAt]) (fun k => by rw [x_putAt]) (fun m3 _ => ?_)
    rcases hK with hK | hE
    · obtain ⟨g1', l1', h1', g2', l2', h2', q1, q2, q3, q4, q5, q6, q7, q8, q9, q10, q11⟩ := hK
      rw [q8, q9]
      refine Pm_ite Iff.rfl (fun _ _ => ?_) (fun z _ => absurd (by decide) z)
      refine Pm_suc rfl (fun k => by rw [x_putAt]) (fun k => by rw [x_putAt]) (fun m4 _ => ?_)
      exact Pm_ob (k_setOf q1.1 q2.1 q8 q9 q5 q6 (by omega) (by omega) (by omega) (by omega) q7 (by exact m5) (by exact o5)) (fun r1 r2 hr => b17 m4 _ _ r1 r2 rfl rfl (KQ_tr hr (by omega) (by omega)))
    · obtain ⟨z1, z2⟩ := KE_le hE
      refine Pm_ite ⟨fun z => absurd z z1, fun z => absurd z z2⟩ (fun z _ => absurd z z1) (fun _ _ => ?_)
      exact b17 m3 _ _ (0, τ1) (0, τ2) rfl rfl (KQ_mo (KE_Q hE) (by omega))
  refine Pm_suc rfl (fun k => by rw [x_putAt]) (fun k => by rw [x_putAt]) (fun m1 _ => ?_)
  refine Pm_ob (k_pushOthers hS1 hS2 t1 t2 hf hO hM ha1 ha2 va (by exact n1) (by exact o1) (by exact n2) (by exact o2)) (fun r1 r2 hr => ?_)
  obtain ⟨w, hw, hU⟩ := hr
  have hX : KPh g1 g2 B1 h1 B2 h2 f w 0 σ1 σ2 r1.2 r2.2 := ⟨g1, l1, h1, g2, l2, h2, KPu_Px hS1 hS2 e1 e2 hU⟩
  refine Pm_ite (by rw [n3, o3]; exact VC_0 hx) (fun _ _ => ?_) (fun _ _ => ?_)
  · exact b15 m1 w _ _ _ _ (by omega) t1 t2 (Or.inl (KPh_mo hX (by omega)))
  · exact k_pairP hS1 hS2 hX (by omega) (by omega) (by omega) (VC_ev hS1 hS2 ha1 ha2 va) hx (by exact n2) (by exact n3) (by exact o2) (by exact o3) (fun s1 s2 hs => b15 m1 (w + 1) _ _ _ _ (by omega) t1 t2 hs)
theorem k_putImage {f v1 v2 a1 a2 x1 x2 : Nat} (hS1 : HS g1 l1 B1 h1 σ1) (hS2 : HS g2 l2 B2 h2 σ2) (e1 : σ1.1 56 = 0) (e2 : σ2.1 56 = 0) (t1 : σ1.1 59 = nI f) (t2 : σ2.1 59 = nI f) (hf : f ≤ 177000) (hr1 : h1 + 8204 ≤ B1 + 870000) (hr2 : h2 + 8204 ≤ B2 + 870000) (hv1 : v1 < 3 ∨ g1 v1) (hv2 : v2 < 3 ∨ g2 v2) (hv : EVb (σ1.2.2 28) (σ2.2.2 28) v1 v2) (ha1 : a1 < 3 ∨ g1 a1) (ha2 : a2 < 3 ∨ g2 a2) (va : EVb (σ1.2.2 28) (σ2.2.2 28) a1 a2) (hx1 : x1 < 3 ∨ g1 x1) (hx2 : x2 < 3 ∨ g2 x2) (hx : EVb (σ1.2.2 28) (σ2.2.2 28) x1 x2) {L1 L2 : Nat → Int32} (d1 : L1 1 = nI v1) (f1 : L2 1 = nI v2) (d2 : L1 2 = nI a1) (f2 : L2 2 = nI a2) (d3 : L1 3 = nI x1) (f3 : L2 3 = nI x2) : Pm n (fun k => x_putImage k 0 L1 σ1) (fun k => x_putImage k 0 L2 σ2) (KQ h1 h2 8204) := by
  have kx := kdN_6 hS1 hx1
  have b1 : ∀ (m : Nat) (N1 N2 : Nat → Int32), Pm m (fun k => x_putImage k 1 N1 σ1) (fun k => x_putImage k 1 N2 σ2) (KQ h1 h2 8204) := fun m N1 N2 => by
    refine Pm_suc rfl (fun k => by rw [x_putImage]) (fun k => by rw [x_putImage]) (fun m3 _ => ?_)
    exact Pm_ob (k_wrongKind hS1 hS2 _ _) (fun r1 r2 hr => Pm_some hr)
  refine Pm_suc rfl (fun k => by rw [x_putImage]) (fun k => by rw [x_putImage]) (fun m1 _ => ?_)
  refine Pm_ob (k_isMapE hS1 hS2 hv1 hv2 hv (by exact d1) (by exact f1)) (fun r1 r2 hr => ?_)
  obtain ⟨c1, c2, c3, c4⟩ := hr
  rw [c2, c3, ← c1]
  refine Pm_ite Iff.rfl (fun _ _ => b1 m1 _ _) (fun z _ => ?_)
  obtain ⟨q, hO, hM⟩ := c4 z
  have hO0 := hO
  obtain ⟨gv1, gv2, _, _, _, o6, o7, _, _, _, o11, _, _, _, _, _, _⟩ := hO
  have hq9 := ob_n hS1 gv1 (by omega) o11 o6
  refine Pm_ob (Pm_t2 (s_kind hS1 hx1 (by exact d3)) (fun k => f_kind k _ _ _) (s_kind hS2 hx2 (by exact f3)) (fun k => f_kind k _ _ _)) (fun s1 s2 hs => ?_)
  rw [hs.1, hs.2, (EVb_sz hx).2.2]
  refine Pm_ite Iff.rfl (fun w _ => ?_) (fun _ _ => b1 m1 _ _)
  have w := (n_eq (q := 6) (by omega) (by decide)).mp w
  obtain ⟨k, p, hE⟩ := OE_of hS1 hS2 (kdN_ge hS1 hx1 (by omega)) hx2 hx
  obtain ⟨gx1, gx2, _, _, _, y6, y7, _, _, _, y11, y12, y13, y14, _, y16, _⟩ := hE
  have ca := y16 (by omega)
  have hp9 := ob_n hS1 gx1 (by omega) y11 y6
  have vb1 : B1 + 4 ≤ x1 ∧ x1 + 4 + p ≤ h1 := by
    obtain ⟨k', n', s', u', q1, q2, q3⟩ := HS_at hS1 gx1
    have hn := q1.2.2.2.2.2.2.2.1
    have h1 := q1.2.1
    rw [y11] at h1
    have := (n_eq (by omega) (by omega)).mp h1
    omega
  have vb2 : B2 + 4 ≤ x2 ∧ x2 + 4 + p ≤ h2 := by
    obtain ⟨k', n', s', u', q1, q2, q3⟩ := HS_at hS2 gx2
    have hn := q1.2.2.2.2.2.2.2.1
    have h1 := q1.2.1
    rw [y12] at h1
    have := (n_eq (by omega) (by omega)).mp h1
    omega
  have b6 : ∀ (m : Nat) (N1 N2 : Nat → Int32) (r1 r2 : Int32 × MS), N1 100 = r1.1 → N2 100 = r2.1 → KQ h1 h2 8204 r1 r2 → Pm m (fun k => x_putImage k 6 N1 r1.2) (fun k => x_putImage k 6 N2 r2.2) (KQ h1 h2 8204) := fun m N1 N2 r1 r2 u1 u2 hr => by
    refine Pm_suc rfl (fun k => by rw [x_putImage]) (fun k => by rw [x_putImage]) (fun m3 _ => ?_)
    rw [u1, u2]; exact Pm_some hr
  have b4E : ∀ (m : Nat) (M1 M2 : Nat → Int32) (τ1 τ2 : MS), KE h1 h2 8204 τ1 τ2 → Pm m (fun k => x_putImage k 4 M1 τ1) (fun k => x_putImage k 4 M2 τ2) (KQ h1 h2 8204) := fun m M1 M2 τ1 τ2 hE => by
    refine Pm_suc rfl (fun k => by rw [x_putImage]) (fun k => by rw [x_putImage]) (fun m3 _ => ?_)
    obtain ⟨z1, z2⟩ := KE_le hE
    refine Pm_ite ⟨fun z => absurd z z1, fun z => absurd z z2⟩ (fun z _ => absurd z z1) (fun _ _ => ?_)
    exact b6 m3 _ _ (0, τ1) (0, τ2) rfl rfl (KE_Q hE)
  have b4 : ∀ (m w : Nat) (M1 M2 : Nat → Int32) (τ1 τ2 : MS), w ≤ 2000 → M1 4 = nI f → M2 4 = nI f → KPh g1 g2 B1 h1 B2 h2 f w 6000 σ1 σ2 τ1 τ2 → Pm m (fun k => x_putImage k 4 M1 τ1) (fun k => x_putImage k 4 M2 τ2) (KQ h1 h2 8204) := fun m w M1 M2 τ1 τ2 hw m4 o4 hK => by
    refine Pm_suc rfl (fun k => by rw [x_putImage]) (fun k => by rw [x_putImage]) (fun m3 _ => ?_)
    obtain ⟨g1', l1', h1', g2', l2', h2', q1, q2, q3, q4, q5, q6, q7, q8, q9, q10, q11⟩ := hK
    rw [q8, q9]
    refine Pm_ite Iff.rfl (fun _ _ => ?_) (fun z _ => absurd (by decide) z)
    refine Pm_suc rfl (fun k => by rw [x_putImage]) (fun k => by rw [x_putImage]) (fun m5 _ => ?_)
    exact Pm_ob (k_setOf q1.1 q2.1 q8 q9 q5 q6 (by omega) (by omega) (by omega) (by omega) q7 (by exact m4) (by exact o4)) (fun r1 r2 hr => b6 m5 _ _ r1 r2 rfl rfl (KQ_tr hr (by omega) (by omega)))
  have b3 : ∀ (m i w : Nat) (M1 M2 : Nat → Int32) (τ1 τ2 : MS), i ≤ p → w ≤ q + i → M1 2 = nI a1 → M2 2 = nI a2 → M1 3 = nI x1 → M2 3 = nI x2 → M1 4 = nI f → M2 4 = nI f → M1 5 = nI i → M2 5 = nI i → KPh g1 g2 B1 h1 B2 h2 f w (6 * i) σ1 σ2 τ1 τ2 → Pm m (fun k => x_putImage k 3 M1 τ1) (fun k => x_putImage k 3 M2 τ2) (KQ h1 h2 8204) := by
    intro m
    induction m using Nat.strongRecOn with
    | ind m ih =>
    intro i w M1 M2 τ1 τ2 hi hw n2 o2 n3 o3 n4 o4 n5 o5 hK
    have hK0 := hK
    obtain ⟨g1', l1', h1', g2', l2', h2', q1, q2, q3, q4, q5, q6, q7, q8, q9, q10, q11⟩ := hK
    refine Pm_suc rfl (fun k => by rw [x_putImage]) (fun k => by rw [x_putImage]) (fun k1 hk1 => ?_)
    rw [n2, o2, n3, o3, n5, o5, n_add1 x1, n_add1 x2, n_cl (p := x1 + 1) (by omega), n_cl (p := x2 + 1) (by omega), show nI x1 + 4 = nI (x1 + 4) from n_add (q := 4) (by omega), show nI x2 + 4 = nI (x2 + 4) from n_add (q := 4) (by omega), n_add (p := x1 + 4) (by omega), n_add (p := x2 + 4) (by omega), n_cl (p := x1 + 4 + i) (by omega), n_cl (p := x2 + 4 + i) (by omega), q1.2.2.2 (x1 + 1) (by omega) (by omega), q2.2.2.2 (x2 + 1) (by omega) (by omega), y11, y12, q8, q9]
    refine Pm_chk (fun _ _ => ?_)
    refine Pm_ite Iff.rfl (fun _ _ => b4 k1 w _ _ _ _ (by omega) n4 o4 (KPh_mo hK0 (by omega))) (fun z _ => ?_)
    have hip : i < p := by
      by_cases c : i < p
      · exact c
      · exact absurd ((n_le (by omega) (by omega)).mpr (by omega)) z
    refine Pm_ite Iff.rfl (fun _ _ => ?_) (fun z _ => absurd rfl z)
    refine Pm_chk (fun _ _ => ?_)
    rw [q1.2.2.2 (x1 + 4 + i) (by omega) (by omega), q2.2.2.2 (x2 + 4 + i) (by omega) (by omega)]
    refine k_pairP hS1 hS2 hK0 (by omega) (by omega) (by omega) (VC_ev hS1 hS2 ha1 ha2 va) (ca i hip) rfl rfl rfl rfl (fun s1 s2 hs => ?_)
    rw [n_add1]
    rcases hs with hs | hs
    · exact ih k1 (by omega) (i + 1) (w + 1) _ _ _ _ (by omega) (by omega) n2 o2 n3 o3 n4 o4 rfl rfl (by rw [show 6 * (i + 1) = 6 * i + 6 by omega]; exact hs)
    · have hE := KE_mo (K' := 8204) hs (by omega)
      refine Pm_suc rfl (fun k => by rw [x_putImage]) (fun k => by rw [x_putImage]) (fun k2 hk2 => ?_)
      have u1 : upd M1 5 (nI (i + 1)) 3 = nI x1 := n3
      have u2 : upd M2 5 (nI (i + 1)) 3 = nI x2 := o3
      rw [u1, u2]
      refine Pm_chk (fun _ _ => ?_)
      refine Pm_ite4 (fun _ _ => b4E k2 _ _ _ _ hE) (fun _ _ => ?_) (fun _ _ => ?_) (fun _ _ => ?_)
      · exact Pm_if2 hE.2.1 (b4E k2 _ _ _ _ hE)
      · exact Pm_if1 hE.1 (b4E k2 _ _ _ _ hE)
      · exact Pm_ite ⟨fun z => absurd z hE.1, fun z => absurd z hE.2.1⟩ (fun z _ => absurd z hE.1) (fun _ _ => b4E k2 _ _ _ _ hE)
  refine Pm_suc rfl (fun k => by rw [x_putImage]) (fun k => by rw [x_putImage]) (fun m2 _ => ?_)
  refine Pm_ob (k_pushOthers hS1 hS2 t1 t2 hf hO0 hM ha1 ha2 va (by exact d1) (by exact f1) (by exact d2) (by exact f2)) (fun r1 r2 hr => ?_)
  obtain ⟨w, hw, hU⟩ := hr
  rw [t1, t2]
  exact b3 m2 0 w _ _ _ _ (Nat.zero_le _) (by omega) d2 f2 d3 f3 rfl rfl rfl rfl ⟨g1, l1, h1, g2, l2, h2, KPu_Px hS1 hS2 e1 e2 hU⟩
end KPA

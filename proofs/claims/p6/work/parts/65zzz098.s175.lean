/-! Two runs side by side (reference): image, sides, parts, pairs. -/
section KIM
variable {g1 g2 : Nat → Prop} {l1 l2 : List Nat} {B1 h1 B2 h2 n : Nat} {σ1 σ2 : MS}
theorem k_image {f v1 v2 x1 x2 : Nat} (hS1 : HS g1 l1 B1 h1 σ1) (hS2 : HS g2 l2 B2 h2 σ2) (e1 : σ1.1 56 = 0) (e2 : σ2.1 56 = 0) (t1 : σ1.1 59 = nI f) (t2 : σ2.1 59 = nI f) (hf : f ≤ 177000) (hr1 : h1 + 4004 ≤ B1 + 870000) (hr2 : h2 + 4004 ≤ B2 + 870000) (hv1 : v1 < 3 ∨ g1 v1) (hv2 : v2 < 3 ∨ g2 v2) (hv : EVb (σ1.2.2 28) (σ2.2.2 28) v1 v2) (hx1 : x1 < 3 ∨ g1 x1) (hx2 : x2 < 3 ∨ g2 x2) (hx : EVb (σ1.2.2 28) (σ2.2.2 28) x1 x2) {L1 L2 : Nat → Int32} (d1 : L1 1 = nI v1) (d2 : L1 2 = nI x1) (f1 : L2 1 = nI v2) (f2 : L2 2 = nI x2) : Pm n (fun k => x_image k 0 L1 σ1) (fun k => x_image k 0 L2 σ2) (KQ h1 h2 4004) := by
  refine Pm_suc rfl (fun k => by rw [x_image]) (fun k => by rw [x_image]) (fun m1 _ => ?_)
  refine Pm_ob (k_isMapE hS1 hS2 hv1 hv2 hv (by exact d1) (by exact f1)) (fun r1 r2 hr => ?_)
  obtain ⟨q0, q1, q2, q3⟩ := hr
  rw [← q0, q1, q2]
  refine Pm_ite Iff.rfl (fun _ _ => Pm_ob (k_wrongKind hS1 hS2 _ _) (fun s1 s2 hs => Pm_some hs)) (fun z _ => ?_)
  obtain ⟨p, hO, hM⟩ := q3 z
  obtain ⟨_, _, _, _, _, o6, _, _, _, _, o11, o12, o13, o14, _, _, _⟩ := hO
  have lp : ∀ (m i w : Nat) (N1 N2 : Nat → Int32) (τ1 τ2 : MS), i ≤ p → w ≤ i → N1 1 = nI v1 → N2 1 = nI v2 → N1 2 = nI x1 → N2 2 = nI x2 → N1 3 = nI f → N2 3 = nI f → N1 4 = nI i → N2 4 = nI i → KPu g1 g2 f w σ1 σ2 τ1 τ2 → Pm m (fun k => x_image k 2 N1 τ1) (fun k => x_image k 2 N2 τ2) (KQ h1 h2 4004) := by
    intro m
    induction m using Nat.strongRecOn with
    | ind m ih =>
    intro i w N1 N2 τ1 τ2 hi hwi a1 c1 a2 c2 a3 c3 a4 c4 hK
    have a28 : τ1.2.2 28 = σ1.2.2 28 := hK.1.2.1 28 (by decide)
    have b28 : τ2.2.2 28 = σ2.2.2 28 := hK.2.1.2.1 28 (by decide)
    have hT1 := PuS_HS hK.1 hS1
    have hT2 := PuS_HS hK.2.1 hS2
    refine Pm_suc rfl (fun k => by rw [x_image]) (fun k => by rw [x_image]) (fun k1 hk1 => ?_)
    rw [a1, c1, a2, c2, a4, c4, n_add1 v1, n_add1 v2, n_cl (p := v1 + 1) (by omega), n_cl (p := v2 + 1) (by omega), a28, b28, o11, o12, show nI v1 + 4 = nI (v1 + 4) from n_add (q := 4) (by omega), show nI v2 + 4 = nI (v2 + 4) from n_add (q := 4) (by omega), n_add (p := v1 + 4) (by omega), n_add (p := v2 + 4) (by omega), n_cl (p := v1 + 4 + i) (by omega), n_cl (p := v2 + 4 + i) (by omega)]
    refine Pm_chk (fun _ _ => ?_)
    refine Pm_ite Iff.rfl (fun _ _ => ?_) (fun y _ => ?_)
    · refine Pm_suc rfl (fun k => by rw [x_image]) (fun k => by rw [x_image]) (fun k2 hk2 => ?_)
      exact Pm_ob (k_setP hK hS1 hS2 e1 e2 (by omega) (by omega) (by omega) (by omega) (by exact a3) (by exact c3)) (fun r1 r2 hr => Pm_some (KQ_mo hr (by omega)))
    have hip : i < p := by
      by_cases e : p ≤ i
      · exact absurd ((n_le (by omega) (by omega)).mpr e) y
      · omega
    obtain ⟨u, v, u1, u2, u3, u4, u5, u6, u7⟩ := hM i hip
    have b3 : ∀ (m' w' : Nat) (M1 M2 : Nat → Int32) (υ1 υ2 : MS), m' < m → w' ≤ i + 1 → M1 1 = nI v1 → M2 1 = nI v2 → M1 2 = nI x1 → M2 2 = nI x2 → M1 3 = nI f → M2 3 = nI f → M1 4 = nI i → M2 4 = nI i → KPu g1 g2 f w' σ1 σ2 υ1 υ2 → Pm m' (fun k => x_image k 3 M1 υ1) (fun k => x_image k 3 M2 υ2) (KQ h1 h2 4004) := by
      intro m' w' M1 M2 υ1 υ2 hm' hw' y1 y2 y3 y4 y5 y6 y7 y8 hK'
      refine Pm_suc rfl (fun k => by rw [x_image]) (fun k => by rw [x_image]) (fun k2 hk2 => ?_)
      exact ih k2 (by omega) (i + 1) w' _ _ _ _ (by omega) hw' y1 y2 y3 y4 y5 y6 (by show M1 4 + 1 = _; rw [y7, n_add1]) (by show M2 4 + 1 = _; rw [y8, n_add1]) hK'
    rw [u1, u2, show nI u + 4 = nI (u + 4) from n_add (q := 4) (by omega), show nI v + 4 = nI (v + 4) from n_add (q := 4) (by omega), show nI u + 5 = nI (u + 5) from n_add (q := 5) (by omega), show nI v + 5 = nI (v + 5) from n_add (q := 5) (by omega), n_cl (p := u + 4) (by omega), n_cl (p := v + 4) (by omega), n_cl (p := u + 5) (by omega), n_cl (p := v + 5) (by omega)]
    refine Pm_chk (fun _ _ => ?_)
    refine Pm_chk (fun _ _ => ?_)
    obtain ⟨y, y', y1, y2, y3, y4, y5, _, _⟩ := u6
    rw [y1, y3]
    have y5' : EVb (τ1.2.2 28) (τ2.2.2 28) y y' := by rw [a28, b28]; exact y5
    have hx' : EVb (τ1.2.2 28) (τ2.2.2 28) x1 x2 := by rw [a28, b28]; exact hx
    refine Pm_ob (k_compare hT1 hT2 y2 hx1 y4 hx2 y5' hx' rfl rfl rfl rfl) (fun r1 r2 hr => ?_)
    rw [hr.1, hr.2.1, hr.2.2, a28, b28]
    refine Pm_ite Iff.rfl (fun _ _ => ?_) (fun _ _ => b3 k1 w _ _ _ _ (by omega) (by omega) a1 c1 a2 c2 a3 c3 a4 c4 hK)
    refine Pm_chk (fun _ _ => ?_)
    exact Pm_ob (k_push hK (by omega) u7 rfl rfl) (fun s1 s2 hs => b3 k1 (w + 1) _ _ _ _ (by omega) (by omega) a1 c1 a2 c2 a3 c3 a4 c4 hs)
  refine Pm_suc rfl (fun k => by rw [x_image]) (fun k => by rw [x_image]) (fun m2 _ => ?_)
  rw [t1, t2]
  exact lp m2 0 0 _ _ _ _ (Nat.zero_le _) (Nat.le_refl _) d1 f1 d2 f2 rfl rfl rfl rfl (KPu_0 t1 t2)
theorem k_partAt {v1 v2 x1 x2 : Nat} (hS1 : HS g1 l1 B1 h1 σ1) (hS2 : HS g2 l2 B2 h2 σ2) (e1 : σ1.1 56 = 0) (e2 : σ2.1 56 = 0) (hr1 : h1 + 5 ≤ B1 + 870000) (hr2 : h2 + 5 ≤ B2 + 870000) (hv1 : v1 < 3 ∨ g1 v1) (hv2 : v2 < 3 ∨ g2 v2) (hv : EVb (σ1.2.2 28) (σ2.2.2 28) v1 v2) (hx1 : x1 < 3 ∨ g1 x1) (hx2 : x2 < 3 ∨ g2 x2) (hx : EVb (σ1.2.2 28) (σ2.2.2 28) x1 x2) {L1 L2 : Nat → Int32} (d1 : L1 1 = nI v1) (d2 : L1 2 = nI x1) (f1 : L2 1 = nI v2) (f2 : L2 2 = nI x2) : Pm n (fun k => x_partAt k 0 L1 σ1) (fun k => x_partAt k 0 L2 σ2) (KQ h1 h2 5) := by
  have kv := kdN_6 hS1 hv1
  have kx := kdN_6 hS1 hx1
  have ee : σ1.1 56 = 0 ↔ σ2.1 56 = 0 := by rw [e1, e2]
  have z0 : KQ h1 h2 5 (0, σ1) (0, σ2) := KQ_same hS1 hS2 ee (a := 0) (b := 0) (by decide) (by decide) (EVb_0 (by decide))
  -- a place
  have b1' : (kdN (σ1.2.2 28) v1 = 4 ∨ kdN (σ1.2.2 28) v1 = 5) → ∀ (m : Nat) (N1 N2 : Nat → Int32), N1 1 = nI v1 → N2 1 = nI v2 → N1 2 = nI x1 → N2 2 = nI x2 → Pm m (fun k => x_partAt k 1 N1 σ1) (fun k => x_partAt k 1 N2 σ2) (KQ h1 h2 5) := by
    intro hk m N1 N2 a1 c1 a2 c2
    refine Pm_suc rfl (fun k => by rw [x_partAt]) (fun k => by rw [x_partAt]) (fun m1 _ => ?_)
    refine Pm_ob (Pm_t2 (s_kind hS1 hx1 (by exact a2)) (fun k => f_kind k _ _ _) (s_kind hS2 hx2 (by exact c2)) (fun k => f_kind k _ _ _)) (fun r1 r2 hr => ?_)
    rw [hr.1, hr.2, (EVb_sz hx).2.2]
    refine Pm_ite Iff.rfl (fun z _ => ?_) (fun _ _ => Pm_ob (k_wrongKind hS1 hS2 _ _) (fun s1 s2 hs => Pm_some hs))
    have z := (n_eq (q := 2) (by omega) (by decide)).mp z
    obtain ⟨q, hB⟩ := WhE_of hS1 hS2 hx1 hx2 hx z
    obtain ⟨k, p, hO⟩ := OE_of hS1 hS2 (kdN_ge hS1 hv1 (by omega)) hv2 hv
    have hO0 := hO
    obtain ⟨_, _, _, _, o5, o6, o7, _, _, _, o11, o12, o13, o14, _, _, _⟩ := hO
    refine Pm_suc rfl (fun k => by rw [x_partAt]) (fun k => by rw [x_partAt]) (fun m2 _ => ?_)
    refine Pm_ob (Pm_un (s_intOf (b := 100000) hS1 hB.1 (by decide) (by exact a2) rfl) (fun k => f_intOf k _ _ _ _) (s_intOf (b := 100000) hS2 hB.2.1 (by decide) (by exact c2) rfl) (fun k => f_intOf k _ _ _ _) (k_intOf hS1 hS2 hB (by exact a2) (by exact c2) rfl)) (fun s1 s2 hs => ?_)
    obtain ⟨hr0, ⟨hr1', y, hy, hy1, _⟩, ⟨hr2', _⟩⟩ := hs
    rw [← hr0, hr1', hr2']
    refine Pm_ite Iff.rfl (fun w _ => ?_) (fun _ _ => ?_)
    case refine_2 =>
      refine Pm_ob (k_fail (K := 5) (e := 4) (by decide) hS1 hS2 rfl rfl) (fun t1 t2 ht => ?_)
      rw [ht.1, ht.2.1]
      exact Pm_some ht.2.2
    have hyy : s1.1 = nI y ∧ 1 ≤ y := by
      have w' := i_le.mp w
      have e1' : (1 : Int32).toInt = 1 := rfl
      have e := sg_pos (by omega) hy1 (by omega)
      rw [e] at w
      exact ⟨e, (n_le (p := 1) (by decide) (by omega)).mp w⟩
    obtain ⟨ey, hy1⟩ := hyy
    rw [ey]
    refine Pm_suc rfl (fun k => by rw [x_partAt]) (fun k => by rw [x_partAt]) (fun m3 _ => ?_)
    rw [show upd N1 4 (nI y) 1 = nI v1 from a1, show upd N2 4 (nI y) 1 = nI v2 from c1, n_add1 v1, n_add1 v2, n_cl (p := v1 + 1) (by omega), n_cl (p := v2 + 1) (by omega), o11, o12, show upd N1 4 (nI y) 4 = nI y from rfl, show upd N2 4 (nI y) 4 = nI y from rfl]
    refine Pm_chk (fun _ _ => ?_)
    refine Pm_ite Iff.rfl (fun w _ => ?_) (fun _ _ => ?_)
    · have w := (n_le (by omega) (by omega)).mp w
      refine Pm_suc rfl (fun k => by rw [x_partAt]) (fun k => by rw [x_partAt]) (fun m4 _ => ?_)
      rw [show upd N1 4 (nI y) 4 = nI y from rfl, show upd N2 4 (nI y) 4 = nI y from rfl, show nI y - 1 = nI (y - 1) from n_sub (p := y) (q := 1) (by omega) hy1]
      refine Pm_ob (k_memberAt (i := y - 1) hS1 hS2 e1 e2 hr1 hr2 hO0 (by omega) (by omega) (by exact a1) rfl (by exact c1) rfl) (fun t1 t2 ht => ?_)
      refine Pm_suc rfl (fun k => by rw [x_partAt]) (fun k => by rw [x_partAt]) (fun m5 _ => ?_)
      exact Pm_some ht
    · refine Pm_suc rfl (fun k => by rw [x_partAt]) (fun k => by rw [x_partAt]) (fun m4 _ => ?_)
      exact Pm_some z0
  -- a map
  have b6 : ∀ (m : Nat) (N1 N2 : Nat → Int32), N1 1 = nI v1 → N2 1 = nI v2 → N1 2 = nI x1 → N2 2 = nI x2 → Pm m (fun k => x_partAt k 6 N1 σ1) (fun k => x_partAt k 6 N2 σ2) (KQ h1 h2 5) := by
    intro m N1 N2 a1 c1 a2 c2
    refine Pm_suc rfl (fun k => by rw [x_partAt]) (fun k => by rw [x_partAt]) (fun m1 _ => ?_)
    refine Pm_ob (k_isMapE hS1 hS2 hv1 hv2 hv (by exact a1) (by exact c1)) (fun r1 r2 hr => ?_)
    obtain ⟨q0, q1, q2, q3⟩ := hr
    rw [← q0, q1, q2]
    refine Pm_ite Iff.rfl (fun _ _ => Pm_ob (k_wrongKind hS1 hS2 _ _) (fun s1 s2 hs => Pm_some hs)) (fun z _ => ?_)
    obtain ⟨p, hO, hM⟩ := q3 z
    obtain ⟨_, _, _, _, _, o6, _, _, _, _, o11, o12, o13, o14, _, _, _⟩ := hO
    have lp : ∀ (m i : Nat) (M1 M2 : Nat → Int32), i ≤ p → M1 1 = nI v1 → M2 1 = nI v2 → M1 2 = nI x1 → M2 2 = nI x2 → VC g1 g2 (σ1.2.2 28) (σ2.2.2 28) (M1 4) (M2 4) → M1 5 = M2 5 → M1 6 = nI i → M2 6 = nI i → Pm m (fun k => x_partAt k 8 M1 σ1) (fun k => x_partAt k 8 M2 σ2) (KQ h1 h2 5) := by
      intro m
      induction m using Nat.strongRecOn with
      | ind m ih =>
      intro i M1 M2 hi a1 c1 a2 c2 a4 a5 a6 c6
      refine Pm_suc rfl (fun k => by rw [x_partAt]) (fun k => by rw [x_partAt]) (fun k1 hk1 => ?_)
      rw [a1, c1, a2, c2, a6, c6, n_add1 v1, n_add1 v2, n_cl (p := v1 + 1) (by omega), n_cl (p := v2 + 1) (by omega), o11, o12, show nI v1 + 4 = nI (v1 + 4) from n_add (q := 4) (by omega), show nI v2 + 4 = nI (v2 + 4) from n_add (q := 4) (by omega), n_add (p := v1 + 4) (by omega), n_add (p := v2 + 4) (by omega), n_cl (p := v1 + 4 + i) (by omega), n_cl (p := v2 + 4 + i) (by omega)]
      refine Pm_chk (fun _ _ => ?_)
      refine Pm_ite Iff.rfl (fun _ _ => ?_) (fun y _ => ?_)
      · refine Pm_suc rfl (fun k => by rw [x_partAt]) (fun k => by rw [x_partAt]) (fun k2 hk2 => ?_)
        refine Pm_ite (by rw [a5]) (fun _ _ => ?_) (fun _ _ => ?_)
        · refine Pm_suc rfl (fun k => by rw [x_partAt]) (fun k => by rw [x_partAt]) (fun k3 hk3 => ?_)
          exact Pm_some (KQ_VC hS1 hS2 ee a4)
        · refine Pm_suc rfl (fun k => by rw [x_partAt]) (fun k => by rw [x_partAt]) (fun k3 hk3 => ?_)
          refine Pm_suc rfl (fun k => by rw [x_partAt]) (fun k => by rw [x_partAt]) (fun k4 hk4 => ?_)
          exact Pm_some z0
      have hip : i < p := by
        by_cases e : p ≤ i
        · exact absurd ((n_le (by omega) (by omega)).mpr e) y
        · omega
      obtain ⟨u, v, u1, u2, u3, u4, u5, u6, u7⟩ := hM i hip
      have b9 : ∀ (m' : Nat) (O1 O2 : Nat → Int32), m' < m → O1 1 = nI v1 → O2 1 = nI v2 → O1 2 = nI x1 → O2 2 = nI x2 → VC g1 g2 (σ1.2.2 28) (σ2.2.2 28) (O1 4) (O2 4) → O1 5 = O2 5 → O1 6 = nI i → O2 6 = nI i → Pm m' (fun k => x_partAt k 9 O1 σ1) (fun k => x_partAt k 9 O2 σ2) (KQ h1 h2 5) := by
        intro m' O1 O2 hm' y1 y2 y3 y4 y5 y6 y7 y8
        refine Pm_suc rfl (fun k => by rw [x_partAt]) (fun k => by rw [x_partAt]) (fun k2 hk2 => ?_)
        exact ih k2 (by omega) (i + 1) _ _ (by omega) y1 y2 y3 y4 y5 y6 (by show O1 6 + 1 = _; rw [y7, n_add1]) (by show O2 6 + 1 = _; rw [y8, n_add1])
      rw [u1, u2, show nI u + 4 = nI (u + 4) from n_add (q := 4) (by omega), show nI v + 4 = nI (v + 4) from n_add (q := 4) (by omega), show nI u + 5 = nI (u + 5) from n_add (q := 5) (by omega), show nI v + 5 = nI (v + 5) from n_add (q := 5) (by omega), n_cl (p := u + 4) (by omega), n_cl (p := v + 4) (by omega), n_cl (p := u + 5) (by omega), n_cl (p := v + 5) (by omega)]
      refine Pm_chk (fun _ _ => ?_)
      refine Pm_chk (fun _ _ => ?_)
      obtain ⟨y, y', y1, y2, y3, y4, y5, _, _⟩ := u6
      rw [y1, y3]
      refine Pm_ob (k_compare hS1 hS2 y2 hx1 y4 hx2 y5 hx rfl rfl rfl rfl) (fun r1 r2 hr => ?_)
      rw [hr.1, hr.2.1, hr.2.2]
      refine Pm_ite Iff.rfl (fun _ _ => ?_) (fun _ _ => b9 k1 _ _ (by omega) a1 c1 a2 c2 a4 a5 a6 c6)
      refine Pm_chk (fun _ _ => ?_)
      exact b9 k1 _ _ (by omega) a1 c1 a2 c2 u7 (by show M1 5 + 1 = M2 5 + 1; rw [a5]) a6 c6
    refine Pm_suc rfl (fun k => by rw [x_partAt]) (fun k => by rw [x_partAt]) (fun m2 _ => ?_)
    exact lp m2 0 _ _ (Nat.zero_le _) a1 c1 a2 c2 ⟨0, 0, rfl, Or.inl (by decide), rfl, Or.inl (by decide), EVb_0 (by decide), by decide, by decide⟩ rfl rfl rfl
  refine Pm_suc rfl (fun k => by rw [x_partAt]) (fun k => by rw [x_partAt]) (fun m1 _ => ?_)
  refine Pm_ob (Pm_t2 (s_kind hS1 hv1 (by exact d1)) (fun k => f_kind k _ _ _) (s_kind hS2 hv2 (by exact f1)) (fun k => f_kind k _ _ _)) (fun r1 r2 hr => ?_)
  rw [hr.1, hr.2, (EVb_sz hv).2.2]
  refine Pm_ite Iff.rfl (fun z _ => b1' (Or.inl ((n_eq (q := 4) (by omega) (by decide)).mp z)) m1 _ _ d1 f1 d2 f2) (fun _ _ => ?_)
  exact Pm_ite Iff.rfl (fun z _ => b1' (Or.inr ((n_eq (q := 5) (by omega) (by decide)).mp z)) m1 _ _ d1 f1 d2 f2) (fun _ _ => b6 m1 _ _ d1 f1 d2 f2)
end KIM

/-! Two runs side by side (reference): parts are written. -/
section KPB
variable {g1 g2 : Nat → Prop} {l1 l2 : List Nat} {B1 h1 B2 h2 n : Nat} {σ1 σ2 : MS}
/-- what putting bytes into row 51 changes -/
def B51 (σ τ : MS) : Prop := (∀ j, τ.1 j = σ.1 j) ∧ (∀ j, j ≠ 51 → τ.2.2 j = σ.2.2 j)
theorem B51_rf {σ : MS} : B51 σ σ := ⟨fun _ => rfl, fun _ _ => rfl⟩
theorem B51_w {σ τ : MS} {i : Nat} {x : Int32} (h : B51 σ τ) : B51 σ (mAr τ 51 i x) := ⟨h.1, fun j hj => (mAr_o hj).trans (h.2 j hj)⟩
theorem B51_HS {g : Nat → Prop} {l : List Nat} {B h : Nat} {σ τ : MS} (hN : B51 σ τ) (hS : HS g l B h σ) : HS g l B h τ := HS_c hS (hN.1 54) (hN.1 55) (hN.2 28 (by decide))
theorem k_str51 {w : Nat} {τ1 τ2 : MS} (hS1 : HS g1 l1 B1 h1 σ1) (hS2 : HS g2 l2 B2 h2 σ2) (e1 : σ1.1 56 = 0) (e2 : σ2.1 56 = 0) (hr1 : h1 + 4004 ≤ B1 + 870000) (hr2 : h2 + 4004 ≤ B2 + 870000) (b1 : B51 σ1 τ1) (b2 : B51 σ2 τ2) (hw : w ≤ 8200) (hA : AgN (τ1.2.2 51) (τ2.2.2 51) w) {L1 L2 : Nat → Int32} (d2 : L1 2 = 0) (f2 : L2 2 = 0) (d3 : L1 3 = nI w) (f3 : L2 3 = nI w) : Pm n (fun k => x_stringOf__51 k 0 L1 τ1) (fun k => x_stringOf__51 k 0 L2 τ2) (KQ h1 h2 4004) :=
  k_stringOf51 (f1 := 0) (f2 := 0) (w := w) (B51_HS b1 hS1) (B51_HS b2 hS2) ((b1.1 56).trans e1) ((b2.1 56).trans e2) hr1 hr2 (by omega) (fun _ => by omega) (fun _ => by omega) (fun i hi => by rw [Nat.zero_add]; exact hA i hi) d2 f2 d3 f3
/-- one byte more, from two cells alike -/
theorem AgN_w51 {τ1 τ2 : MS} {w : Nat} {x y : Int32} (hA : AgN (τ1.2.2 51) (τ2.2.2 51) w) (e : x = y) : AgN ((mAr τ1 51 w x).2.2 51) ((mAr τ2 51 w y).2.2 51) (w + 1) := by
  rw [mAr_s, mAr_s]; exact AgN_up hA e
theorem k_putStr {v1 v2 x1 x2 q p m : Nat} (hS1 : HS g1 l1 B1 h1 σ1) (hS2 : HS g2 l2 B2 h2 σ2) (e1 : σ1.1 56 = 0) (e2 : σ2.1 56 = 0) (hr1 : h1 + 4004 ≤ B1 + 870000) (hr2 : h2 + 4004 ≤ B2 + 870000) (hO : OE g1 g2 (σ1.2.2 28) (σ2.2.2 28) v1 v2 4 q) (hX : OE g1 g2 (σ1.2.2 28) (σ2.2.2 28) x1 x2 4 1) (hp1 : 1 ≤ p) (hp : p ≤ q + 1) {N1 N2 : Nat → Int32} (n1 : N1 1 = nI v1) (o1 : N2 1 = nI v2) (n3 : N1 3 = nI x1) (o3 : N2 3 = nI x2) (n5 : N2 5 = nI p) (n6 : N2 6 = nI q) (n7 : N2 7 = nI 0) (hN : LEn 4 N1 N2) : Pm m (fun k => x_putAt k 6 N1 σ1) (fun k => x_putAt k 6 N2 σ2) (KQ h1 h2 4004) := by
  obtain ⟨_, _, _, _, _, o6, o7, _, _, _, o11, o12, o13, o14, _, _, o17⟩ := hO
  obtain ⟨_, _, _, _, _, _, _, _, _, _, _, _, x13, x14, _, _, x17⟩ := hX
  have ca := o17 (by omega)
  have cx := x17 (by omega) 0 (by omega)
  have lp : ∀ (m i : Nat) (M1 M2 : Nat → Int32) (τ1 τ2 : MS), i ≤ q → M1 1 = nI v1 → M2 1 = nI v2 → M1 3 = nI x1 → M2 3 = nI x2 → M2 5 = nI p → M2 6 = nI q → M2 7 = nI i → LEn 4 M1 M2 → B51 σ1 τ1 → B51 σ2 τ2 → AgN (τ1.2.2 51) (τ2.2.2 51) i → Pm m (fun k => x_putAt k 6 M1 τ1) (fun k => x_putAt k 6 M2 τ2) (KQ h1 h2 4004) := by
    intro m
    induction m using Nat.strongRecOn with
    | ind m ih =>
    intro i M1 M2 τ1 τ2 hi n1 o1 n3 o3 n5 n6 n7 hN b1 b2 hA
    have a28 : τ1.2.2 28 = σ1.2.2 28 := b1.2 28 (by decide)
    have b28 : τ2.2.2 28 = σ2.2.2 28 := b2.2 28 (by decide)
    refine Pm_suc rfl (fun k => by rw [x_putAt]) (fun k => by rw [x_putAt]) (fun k1 hk1 => ?_)
    rw [n1, o1, hN 6 (by omega), hN 7 (by omega), n6, n7, show nI v1 + 4 = nI (v1 + 4) from n_add (q := 4) (by omega), show nI v2 + 4 = nI (v2 + 4) from n_add (q := 4) (by omega), n_add (p := v1 + 4) (by omega), n_add (p := v2 + 4) (by omega), n_cl (p := v1 + 4 + i) (by omega), n_cl (p := v2 + 4 + i) (by omega), n_cl (p := i) (by omega), a28, b28]
    refine Pm_ite Iff.rfl (fun z _ => ?_) (fun z _ => ?_)
    · have z := (n_le (by omega) (by omega)).mp z
      have hiq : i = q := by omega
      subst hiq
      refine Pm_suc rfl (fun k => by rw [x_putAt]) (fun k => by rw [x_putAt]) (fun k2 hk2 => ?_)
      rw [n3, o3, hN 5 (by omega), n5, show nI x1 + 4 = nI (x1 + 4) from n_add (q := 4) (by omega), show nI x2 + 4 = nI (x2 + 4) from n_add (q := 4) (by omega), n_cl (p := x1 + 4) (by omega), n_cl (p := x2 + 4) (by omega), show nI p - 1 = nI (p - 1) from n_sub (p := p) (q := 1) (by omega) (by omega), n_cl (p := p - 1) (by omega), a28, b28]
      refine Pm_chk (fun _ _ => ?_)
      refine Pm_chk (fun _ _ => ?_)
      show Pm k2 (fun k => x_putAt k 9 M1 (mAr τ1 51 (p - 1) (σ1.2.2 28 (x1 + 4)))) (fun k => x_putAt k 9 M2 (mAr τ2 51 (p - 1) (σ2.2.2 28 (x2 + 4)))) _
      have hA' : AgN ((mAr τ1 51 (p - 1) (σ1.2.2 28 (x1 + 4))).2.2 51) ((mAr τ2 51 (p - 1) (σ2.2.2 28 (x2 + 4))).2.2 51) (if p ≤ i then i else i + 1) := by
        rw [mAr_s, mAr_s]
        by_cases c : p ≤ i
        · rw [if_pos c]; exact AgN_st hA cx.symm
        · rw [if_neg c, show p - 1 = i by omega]; exact AgN_up hA cx.symm
      have c11 : ∀ (m' w : Nat) (O1 O2 : Nat → Int32), w ≤ i + 1 → w ≤ (if p ≤ i then i else i + 1) → O1 101 = 0 → O2 101 = 0 → O1 100 = nI w → O2 100 = nI w → Pm m' (fun k => x_putAt k 11 O1 (mAr τ1 51 (p - 1) (σ1.2.2 28 (x1 + 4)))) (fun k => x_putAt k 11 O2 (mAr τ2 51 (p - 1) (σ2.2.2 28 (x2 + 4)))) (KQ h1 h2 4004) := fun m' w O1 O2 hw hw2 s1 s2 s3 s4 => by
        refine Pm_suc rfl (fun k => by rw [x_putAt]) (fun k => by rw [x_putAt]) (fun k3 hk3 => ?_)
        exact Pm_ob (k_str51 hS1 hS2 e1 e2 hr1 hr2 (B51_w b1) (B51_w b2) (w := w) (by omega) (AgN_mo hA' hw2) (by exact s1) (by exact s2) (by exact s3) (by exact s4)) (fun r1 r2 hr => Pm_some hr)
      refine Pm_suc rfl (fun k => by rw [x_putAt]) (fun k => by rw [x_putAt]) (fun k3 hk3 => ?_)
      rw [hN 5 (by omega), hN 6 (by omega), n5, n6, n_add1]
      refine Pm_ite Iff.rfl (fun z _ => ?_) (fun z _ => ?_)
      · have z := (n_le (by omega) (by omega)).mp z
        refine Pm_suc rfl (fun k => by rw [x_putAt]) (fun k => by rw [x_putAt]) (fun k4 hk4 => ?_)
        exact c11 k4 i _ _ (by omega) (by rw [if_pos z]; exact Nat.le_refl _) rfl rfl (by show M1 6 = _; rw [hN 6 (by omega), n6]) n6
      · have z : ¬ p ≤ i := fun c => z ((n_le (by omega) (by omega)).mpr c)
        exact c11 k3 (i + 1) _ _ (Nat.le_refl _) (by rw [if_neg z]; exact Nat.le_refl _) rfl rfl rfl rfl
    have hiq : i < q := by
      by_cases c : i < q
      · exact c
      · exact absurd ((n_le (by omega) (by omega)).mpr (by omega)) z
    refine Pm_chk (fun _ _ => ?_)
    refine Pm_chk (fun _ _ => ?_)
    show Pm k1 (fun k => x_putAt k 7 M1 (mAr τ1 51 i (σ1.2.2 28 (v1 + 4 + i)))) (fun k => x_putAt k 7 M2 (mAr τ2 51 i (σ2.2.2 28 (v2 + 4 + i)))) _
    refine Pm_suc rfl (fun k => by rw [x_putAt]) (fun k => by rw [x_putAt]) (fun k2 hk2 => ?_)
    exact ih k2 (by omega) (i + 1) _ _ _ _ (by omega) n1 o1 n3 o3 n5 n6 (by show M2 7 + 1 = _; rw [n7, n_add1]) (LEn_u hN (by rw [hN 7 (by omega)])) (B51_w b1) (B51_w b2) (AgN_w51 hA (ca i hiq).symm)
  exact lp m 0 N1 N2 σ1 σ2 (Nat.zero_le _) n1 o1 n3 o3 n5 n6 n7 hN B51_rf B51_rf (fun i hi => absurd hi (Nat.not_lt_zero i))
theorem k_putAt {f v1 v2 a1 a2 x1 x2 : Nat} (hS1 : HS g1 l1 B1 h1 σ1) (hS2 : HS g2 l2 B2 h2 σ2) (e1 : σ1.1 56 = 0) (e2 : σ2.1 56 = 0) (t1 : σ1.1 59 = nI f) (t2 : σ2.1 59 = nI f) (hf : f ≤ 177000) (hr1 : h1 + 4004 ≤ B1 + 870000) (hr2 : h2 + 4004 ≤ B2 + 870000) (hv1 : v1 < 3 ∨ g1 v1) (hv2 : v2 < 3 ∨ g2 v2) (hv : EVb (σ1.2.2 28) (σ2.2.2 28) v1 v2) (ha1 : a1 < 3 ∨ g1 a1) (ha2 : a2 < 3 ∨ g2 a2) (va : EVb (σ1.2.2 28) (σ2.2.2 28) a1 a2) (hx1 : x1 < 3 ∨ g1 x1) (hx2 : x2 < 3 ∨ g2 x2) (hx : EVb (σ1.2.2 28) (σ2.2.2 28) x1 x2) {L1 L2 : Nat → Int32} (d1 : L1 1 = nI v1) (f1 : L2 1 = nI v2) (d2 : L1 2 = nI a1) (f2 : L2 2 = nI a2) (d3 : L1 3 = nI x1) (f3 : L2 3 = nI x2) (hL : LEn 4 L1 L2) : Pm n (fun k => x_putAt k 0 L1 σ1) (fun k => x_putAt k 0 L2 σ2) (KQ h1 h2 4004) := by
  have kv := kdN_6 hS1 hv1
  have ka := kdN_6 hS1 ha1
  have kx := kdN_6 hS1 hx1
  have b2 : ∀ (m : Nat) (N1 N2 : Nat → Int32), Pm m (fun k => x_putAt k 2 N1 σ1) (fun k => x_putAt k 2 N2 σ2) (KQ h1 h2 4004) := fun m N1 N2 => by
    refine Pm_suc rfl (fun k => by rw [x_putAt]) (fun k => by rw [x_putAt]) (fun m3 _ => ?_)
    exact Pm_ob (k_wrongKind hS1 hS2 _ _) (fun r1 r2 hr => Pm_some hr)
  have b4 : ∀ (m : Nat) (N1 N2 : Nat → Int32), Pm m (fun k => x_putAt k 4 N1 σ1) (fun k => x_putAt k 4 N2 σ2) (KQ h1 h2 4004) := fun m N1 N2 => by
    refine Pm_suc rfl (fun k => by rw [x_putAt]) (fun k => by rw [x_putAt]) (fun m3 _ => ?_)
    refine Pm_ob (k_fail (K := 4004) (e := 4) (by decide) hS1 hS2 rfl rfl) (fun r1 r2 hr => ?_)
    rw [hr.1, hr.2.1]
    exact Pm_some hr.2.2
  -- a string or a tuple
  have b3 : (kdN (σ1.2.2 28) v1 = 4 ∨ kdN (σ1.2.2 28) v1 = 5) → kdN (σ1.2.2 28) a1 = 2 → (kdN (σ1.2.2 28) v1 = 4 → OE g1 g2 (σ1.2.2 28) (σ2.2.2 28) x1 x2 4 1) → ∀ (m : Nat) (N1 N2 : Nat → Int32), N1 1 = nI v1 → N2 1 = nI v2 → N1 2 = nI a1 → N2 2 = nI a2 → N1 3 = nI x1 → N2 3 = nI x2 → N2 4 = nI (kdN (σ1.2.2 28) v1) → LEn 4 N1 N2 → Pm m (fun k => x_putAt k 3 N1 σ1) (fun k => x_putAt k 3 N2 σ2) (KQ h1 h2 4004) := by
    intro hk hka hkx m N1 N2 n1 o1 n2 o2 n3 o3 n4 hN
    obtain ⟨k, q, hO⟩ := OE_of hS1 hS2 (kdN_ge hS1 hv1 (by omega)) hv2 hv
    have hO0 := hO
    obtain ⟨gv1, gv2, _, _, _, o6, o7, _, _, _, o11, o12, o13, o14, _, _, _⟩ := hO
    obtain ⟨w, hW⟩ := WhE_of hS1 hS2 ha1 ha2 va hka
    have b5 : ∀ (m p : Nat) (M1 M2 : Nat → Int32), 1 ≤ p → p ≤ 100001 → (k = 4 → p ≤ q + 1) → M1 1 = nI v1 → M2 1 = nI v2 → M1 3 = nI x1 → M2 3 = nI x2 → M2 4 = nI k → M2 5 = nI p → M2 6 = nI q → LEn 4 M1 M2 → Pm m (fun k => x_putAt k 5 M1 σ1) (fun k => x_putAt k 5 M2 σ2) (KQ h1 h2 4004) := by
      intro m p M1 M2 hp1 hp hp4 n1 o1 n3 o3 n4 n5 n6 hM
      refine Pm_suc rfl (fun k => by rw [x_putAt]) (fun k => by rw [x_putAt]) (fun m3 _ => ?_)
      rw [hM 4 (by omega), n4]
      refine Pm_ite Iff.rfl (fun z _ => ?_) (fun z _ => ?_)
      · have z := (n_eq (q := 4) (by omega) (by decide)).mp z
        subst z
        exact k_putStr hS1 hS2 e1 e2 hr1 hr2 hO0 (hkx o7) hp1 (hp4 rfl) n1 o1 n3 o3 n5 n6 rfl (LEn_u hM rfl)
      · have hk5 : k = 5 := by
          have : ¬ k = 4 := fun c => z (by rw [c]; rfl)
          omega
        subst hk5
        refine Pm_suc rfl (fun k => by rw [x_putAt]) (fun k => by rw [x_putAt]) (fun m4 _ => ?_)
        exact Pm_ob (k_putPlace hS1 hS2 e1 e2 t1 t2 hf hr1 hr2 hO0 hp (VC_ev hS1 hS2 hx1 hx2 hx) (by exact n1) (by exact o1) (by show M1 5 = _; rw [hM 5 (by omega), n5]) (by exact n5) (by exact n3) (by exact o3)) (fun r1 r2 hr => Pm_some hr)
    refine Pm_suc rfl (fun k => by rw [x_putAt]) (fun k => by rw [x_putAt]) (fun m3 _ => ?_)
    refine Pm_ob (Pm_un (s_intOf hS1 hW.1 (b := 100000) (by decide) (by exact n2) rfl) (fun k => f_intOf k _ _ _ _) (s_intOf hS2 hW.2.1 (b := 100000) (by decide) (by exact o2) rfl) (fun k => f_intOf k _ _ _ _) (k_intOf hS1 hS2 hW (by exact n2) (by exact o2) rfl)) (fun r1 r2 hr => ?_)
    obtain ⟨c0, ⟨c1, y, y1, y2, y3⟩, ⟨c2, _⟩⟩ := hr
    rw [c1, c2, ← c0, n1, o1, n_add1, n_add1, n_cl (p := v1 + 1) (by omega), n_cl (p := v2 + 1) (by omega), o11, o12, hN 4 (by omega), n4, o7]
    rw [o7] at n4
    refine Pm_chk (fun _ _ => ?_)
    refine Pm_ite Iff.rfl (fun _ _ => b4 _ _ _) (fun z _ => ?_)
    have x1e : (1 : Int32).toInt = 1 := rfl
    have z1 : 1 ≤ r1.1.toInt := by rw [i_lt, x1e] at z; omega
    have ey := sg_pos y1 y2 (by omega)
    have hy1 : 1 ≤ y := by rw [ey, n_int (by omega)] at z1; omega
    rw [ey, n_add1]
    refine Pm_ite Iff.rfl (fun z4 _ => ?_) (fun z4 _ => ?_)
    · refine Pm_ite Iff.rfl (fun z5 _ => ?_) (fun _ _ => b4 _ _ _)
      have z5 := (n_le (by omega) (by omega)).mp z5
      exact b5 m3 y _ _ hy1 y1 (fun _ => z5) n1 o1 n3 o3 n4 rfl rfl (LEn_u (LEn_u hN rfl) rfl)
    · exact b5 m3 y _ _ hy1 y1 (fun c => absurd (by rw [c]; rfl) z4) n1 o1 n3 o3 n4 rfl rfl (LEn_u (LEn_u hN rfl) rfl)
  have b1 : (kdN (σ1.2.2 28) v1 = 4 ∨ kdN (σ1.2.2 28) v1 = 5) → ∀ (m : Nat) (N1 N2 : Nat → Int32), N1 1 = nI v1 → N2 1 = nI v2 → N1 2 = nI a1 → N2 2 = nI a2 → N1 3 = nI x1 → N2 3 = nI x2 → N2 4 = nI (kdN (σ1.2.2 28) v1) → LEn 4 N1 N2 → Pm m (fun k => x_putAt k 1 N1 σ1) (fun k => x_putAt k 1 N2 σ2) (KQ h1 h2 4004) := by
    intro hk m N1 N2 n1 o1 n2 o2 n3 o3 n4 hN
    refine Pm_suc rfl (fun k => by rw [x_putAt]) (fun k => by rw [x_putAt]) (fun m3 _ => ?_)
    refine Pm_ob (Pm_t2 (s_kind hS1 ha1 (by exact n2)) (fun k => f_kind k _ _ _) (s_kind hS2 ha2 (by exact o2)) (fun k => f_kind k _ _ _)) (fun s1 s2 hs => ?_)
    rw [hs.1, hs.2, (EVb_sz va).2.2, hN 4 (by omega), n4]
    refine Pm_ite Iff.rfl (fun w _ => ?_) (fun _ _ => b2 _ _ _)
    have w := (n_eq (q := 2) (by omega) (by decide)).mp w
    refine Pm_ite Iff.rfl (fun w4 _ => ?_) (fun w4 _ => b3 hk w (fun e => absurd (by rw [e]; rfl) w4) m3 N1 N2 n1 o1 n2 o2 n3 o3 n4 hN)
    refine Pm_ob (Pm_t2 (s_kind hS1 hx1 (by exact n3)) (fun k => f_kind k _ _ _) (s_kind hS2 hx2 (by exact o3)) (fun k => f_kind k _ _ _)) (fun u1 u2 hu => ?_)
    rw [hu.1, hu.2, (EVb_sz hx).2.2]
    refine Pm_ite Iff.rfl (fun w5 _ => ?_) (fun _ _ => b2 _ _ _)
    have w5 := (n_eq (q := 4) (by omega) (by decide)).mp w5
    obtain ⟨kk, c, hX⟩ := OE_of hS1 hS2 (kdN_ge hS1 hx1 (by omega)) hx2 hx
    have hX0 := hX
    obtain ⟨_, _, _, _, _, x6, x7, _, _, _, x11, x12, x13, x14, _, _, _⟩ := hX
    rw [n3, o3, n_add1, n_add1, n_cl (p := x1 + 1) (by omega), n_cl (p := x2 + 1) (by omega), x11, x12]
    refine Pm_chk (fun _ _ => ?_)
    refine Pm_ite Iff.rfl (fun w6 _ => ?_) (fun _ _ => b2 _ _ _)
    have w6 := (n_eq (q := 1) (by omega) (by decide)).mp w6
    subst w6
    have hkk : kk = 4 := by omega
    subst hkk
    exact b3 hk w (fun _ => hX0) m3 N1 N2 n1 o1 n2 o2 n3 o3 n4 hN
  refine Pm_suc rfl (fun k => by rw [x_putAt]) (fun k => by rw [x_putAt]) (fun m1 _ => ?_)
  refine Pm_ob (Pm_t2 (s_kind hS1 hv1 (by exact d1)) (fun k => f_kind k _ _ _) (s_kind hS2 hv2 (by exact f1)) (fun k => f_kind k _ _ _)) (fun r1 r2 hr => ?_)
  rw [hr.1, hr.2, (EVb_sz hv).2.2]
  refine Pm_ite Iff.rfl (fun w _ => b1 (Or.inr ((n_eq (q := 5) (by omega) (by decide)).mp w)) m1 _ _ d1 f1 d2 f2 d3 f3 rfl (LEn_u hL rfl)) (fun _ _ => ?_)
  refine Pm_ite Iff.rfl (fun w _ => b1 (Or.inl ((n_eq (q := 4) (by omega) (by decide)).mp w)) m1 _ _ d1 f1 d2 f2 d3 f3 rfl (LEn_u hL rfl)) (fun _ _ => ?_)
  -- a map
  refine Pm_suc rfl (fun k => by rw [x_putAt]) (fun k => by rw [x_putAt]) (fun m2 _ => ?_)
  refine Pm_ob (k_isMapE hS1 hS2 hv1 hv2 hv (by exact d1) (by exact f1)) (fun r1 r2 hr => ?_)
  obtain ⟨c1, c2, c3, c4⟩ := hr
  rw [c2, c3, ← c1]
  refine Pm_ite Iff.rfl (fun _ _ => Pm_ob (k_wrongKind hS1 hS2 _ _) (fun r1 r2 hr => Pm_some hr)) (fun z _ => ?_)
  obtain ⟨q, hO, hM⟩ := c4 z
  have hO0 := hO
  obtain ⟨gv1, gv2, _, _, _, o6, o7, _, _, _, o11, _, _, _, _, _, _⟩ := hO
  have hq9 := ob_n hS1 gv1 (by omega) o11 o6
  exact k_putMap hS1 hS2 e1 e2 t1 t2 hf hr1 hr2 ha1 ha2 va (VC_ev hS1 hS2 hx1 hx2 hx) hO0 hM hq9 d1 f1 d2 f2 d3 f3
end KPB

/-! Two runs side by side (reference): differences; add. -/
/-- two wholes that hold the same -/
def WhE (σ1 σ2 : MS) (a1 a2 p : Nat) : Prop := Wh σ1 a1 p ∧ Wh σ2 a2 p ∧ ∀ i, i < p → σ2.2.2 28 (a2 + 4 + i) = σ1.2.2 28 (a1 + 4 + i)
section KSB
variable {g1 g2 : Nat → Prop} {l1 l2 : List Nat} {B1 h1 B2 h2 n : Nat} {σ1 σ2 : MS}
theorem WhE_of (hS1 : HS g1 l1 B1 h1 σ1) (hS2 : HS g2 l2 B2 h2 σ2) {a1 a2 : Nat} (ha1 : a1 < 3 ∨ g1 a1) (ha2 : a2 < 3 ∨ g2 a2) (hv : EVb (σ1.2.2 28) (σ2.2.2 28) a1 a2) (hk : kdN (σ1.2.2 28) a1 = 2) : ∃ p, WhE σ1 σ2 a1 a2 p := by
  obtain ⟨p, w1⟩ := Wh_of hS1 ha1 hk
  obtain ⟨q, w2⟩ := Wh_of hS2 ha2 (by rw [(EVb_sz hv).2.2]; exact hk)
  have ga := kdN_ge hS1 ha1 (by omega)
  obtain ⟨k, p', ga2, c3, c4, k6, hp', k2, kk, ka1, ka2, pa1, pa2, _, _⟩ := EVb_ob hS1 hS2 ga hv ha2
  have e1 : p' = p := (n_eq (by omega) (by have := w1.2.2.1; omega)).mp (pa1.symm.trans w1.1)
  have e2 : p' = q := (n_eq (by omega) (by have := w2.2.2.1; omega)).mp (pa2.symm.trans w2.1)
  subst e1
  subst e2
  have ek : k = 2 := kk.symm.trans hk
  subst ek
  exact ⟨p', w1, w2, fun i hi => EVb_raw hv c3 (by rw [ka1]; decide) pa1 hp' hi⟩
theorem WhE_NF {τ1 τ2 : MS} {a1 a2 p : Nat} (n1 : NF σ1 τ1) (n2 : NF σ2 τ2) (h : WhE σ1 σ2 a1 a2 p) : WhE τ1 τ2 a1 a2 p := by
  refine ⟨Wh_NF n1 h.1, Wh_NF n2 h.2.1, fun i hi => ?_⟩
  rw [n1.2 28 (by decide), n2.2 28 (by decide)]; exact h.2.2 i hi
theorem k_sub16 {p q : Nat} (hp : p ≤ 64) (hq : q ≤ 64) (hS1 : HS g1 l1 B1 h1 σ1) (hS2 : HS g2 l2 B2 h2 σ2) (e1 : σ1.1 56 = 0) (e2 : σ2.1 56 = 0) (hr1 : h1 + 70 ≤ B1 + 870000) (hr2 : h2 + 70 ≤ B2 + 870000) {τ1 τ2 : MS} (hA : ∀ c, SA σ1 σ2 p q c 0 (mSc τ1 86 (nI c)) (mSc τ2 86 (nI c))) (t1 : τ1.1 84 = nI p) (t2 : τ2.1 84 = nI p) (u1 : τ1.1 85 = nI q) (u2 : τ2.1 85 = nI q) {L1 L2 : Nat → Int32} (hL : LE3 L1 L2) : Pm n (fun k => x_add k 16 L1 τ1) (fun k => x_add k 16 L2 τ2) (KQ h1 h2 70) := by
  have b32 : ∀ (m c : Nat) (N1 N2 : Nat → Int32) (υ1 υ2 : MS), c ≤ 65 → LE3 N1 N2 → SA σ1 σ2 p q c c υ1 υ2 → Pm m (fun k => x_add k 32 N1 υ1) (fun k => x_add k 32 N2 υ2) (KQ h1 h2 70) := by
    intro m c N1 N2 υ1 υ2 hc hN hs
    refine Pm_suc rfl (fun k => by rw [x_add]) (fun k => by rw [x_add]) (fun m1 _ => ?_)
    exact Pm_ob (SA_end hs hS1 hS2 e1 e2 hr1 hr2 (by omega) (by exact hN 100 (by omega))) (fun r1 r2 hr => Pm_some hr)
  have b20 : ∀ (m c i : Nat) (N1 N2 : Nat → Int32) (υ1 υ2 : MS), c ≤ 64 → i ≤ c → LE3 N1 N2 → N1 8 = nI i → SA σ1 σ2 p q c i υ1 υ2 → Pm m (fun k => x_add k 20 N1 υ1) (fun k => x_add k 20 N2 υ2) (KQ h1 h2 70) := by
    intro m
    induction m using Nat.strongRecOn with
    | ind m ih =>
    intro c i N1 N2 υ1 υ2 hc hi hN n8 hs
    have o8 : N2 8 = nI i := (hN 8 (by omega)).symm.trans n8
    obtain ⟨a1, a2, a3, a4, a5, a6, a7, a8, a9, a10, a11⟩ := hs
    have hs : SA σ1 σ2 p q c i υ1 υ2 := ⟨a1, a2, a3, a4, a5, a6, a7, a8, a9, a10, a11⟩
    have b28 : ∀ (m' : Nat) (M1 M2 : Nat → Int32), m' < m → i < c → LE3 M1 M2 → M1 8 = nI i → Pm m' (fun k => x_add k 28 M1 υ1) (fun k => x_add k 28 M2 υ2) (KQ h1 h2 70) := by
      intro m' M1 M2 hm' hic hM m8
      have w8 : M2 8 = nI i := (hM 8 (by omega)).symm.trans m8
      refine Pm_suc rfl (fun k => by rw [x_add]) (fun k => by rw [x_add]) (fun m1 h1' => ?_)
      rw [m8, w8, n_cl (p := i) (by omega)]
      refine Pm_chk (fun _ _ => ?_)
      show Pm m1 (fun k => x_add k 29 (upd M1 7 (M1 100)) (mAr υ1 44 i (M1 11 &&& 65535))) (fun k => x_add k 29 (upd M2 7 (M2 100)) (mAr υ2 44 i (M2 11 &&& 65535))) _
      refine Pm_suc rfl (fun k => by rw [x_add]) (fun k => by rw [x_add]) (fun m2 h2' => ?_)
      refine ih m2 (by omega) c (i + 1) _ _ _ _ hc (by omega) (LE_u (LE_u hM (hM 100 (by omega))) ?_) ?_ (SA_w hs (by rw [hM 11 (by omega)]))
      · show M1 8 + 1 = M2 8 + 1
        rw [m8, w8]
      · show M1 8 + 1 = nI (i + 1)
        rw [m8, n_add1]
    have b26 : ∀ (m' : Nat) (M1 M2 : Nat → Int32), m' < m → i < c → LE3 M1 M2 → M1 8 = nI i → Pm m' (fun k => x_add k 26 M1 υ1) (fun k => x_add k 26 M2 υ2) (KQ h1 h2 70) := by
      intro m' M1 M2 hm' hic hM m8
      have ex : M1 100 - M1 7 = M2 100 - M2 7 := by rw [hM 100 (by omega), hM 7 (by omega)]
      refine Pm_suc rfl (fun k => by rw [x_add]) (fun k => by rw [x_add]) (fun m1 h1' => ?_)
      refine Pm_ite (by rw [ex]) (fun _ _ => ?_) (fun _ _ => b28 m1 _ _ (by omega) hic (LE_u (LE_u hM ex) rfl) m8)
      refine Pm_suc rfl (fun k => by rw [x_add]) (fun k => by rw [x_add]) (fun m2 h2' => ?_)
      exact b28 m2 _ _ (by omega) hic (LE_u (LE_u hM ex) rfl) m8
    have b24 : ∀ (m' : Nat) (M1 M2 : Nat → Int32), m' < m → i < c → LE3 M1 M2 → M1 8 = nI i → Pm m' (fun k => x_add k 24 M1 υ1) (fun k => x_add k 24 M2 υ2) (KQ h1 h2 70) := by
      intro m' M1 M2 hm' hic hM m8
      have hM' : LE3 (upd M1 10 (M1 100)) (upd M2 10 (M2 100)) := LE_u hM (hM 100 (by omega))
      refine Pm_suc rfl (fun k => by rw [x_add]) (fun k => by rw [x_add]) (fun m1 h1' => ?_)
      refine Pm_ite (by rw [hM 6 (by omega)]) (fun _ _ => ?_) (fun _ _ => b26 m1 _ _ (by omega) hic (LE_u hM' (by rw [hM 9 (by omega), hM 100 (by omega)])) m8)
      refine Pm_suc rfl (fun k => by rw [x_add]) (fun k => by rw [x_add]) (fun m2 h2' => ?_)
      exact b26 m2 _ _ (by omega) hic (LE_u hM' (by rw [hM' 10 (by omega), hM' 9 (by omega)])) m8
    have b22 : ∀ (m' : Nat) (M1 M2 : Nat → Int32), m' < m → i < c → LE3 M1 M2 → M1 8 = nI i → Pm m' (fun k => x_add k 22 M1 υ1) (fun k => x_add k 22 M2 υ2) (KQ h1 h2 70) := by
      intro m' M1 M2 hm' hic hM m8
      have w8 : M2 8 = nI i := (hM 8 (by omega)).symm.trans m8
      have hM' : LE3 (upd M1 9 (M1 100)) (upd M2 9 (M2 100)) := LE_u hM (hM 100 (by omega))
      refine Pm_suc rfl (fun k => by rw [x_add]) (fun k => by rw [x_add]) (fun m1 h1' => ?_)
      rw [a5, a6, m8, w8, n_cl (p := i) (by omega)]
      refine Pm_ite Iff.rfl (fun _ _ => ?_) (fun y _ => ?_)
      · refine Pm_suc rfl (fun k => by rw [x_add]) (fun k => by rw [x_add]) (fun m2 h2' => ?_)
        exact b24 m2 _ _ (by omega) hic (LE_u hM' rfl) m8
      · have hiq : i < q := by
          by_cases e : q ≤ i
          · exact absurd ((n_le (by omega) (by omega)).mpr e) y
          · omega
        refine Pm_chk (fun _ _ => ?_)
        exact b24 m1 _ _ (by omega) hic (LE_u hM' (a10 i hiq)) m8
    refine Pm_suc rfl (fun k => by rw [x_add]) (fun k => by rw [x_add]) (fun m1 hm1 => ?_)
    rw [a7, a8, a3, a4, n8, o8, n_cl (p := i) (by omega)]
    refine Pm_ite Iff.rfl (fun y _ => ?_) (fun y _ => ?_)
    · have y := (n_le (by omega) (by omega)).mp y
      have ei : i = c := by omega
      subst ei
      refine Pm_suc rfl (fun k => by rw [x_add]) (fun k => by rw [x_add]) (fun m2 hm2 => ?_)
      refine Pm_ite (by rw [hN 6 (by omega)]) (fun _ _ => ?_) (fun _ _ => b32 m2 i _ _ _ _ (by omega) (LE_u hN (hN 4 (by omega))) hs)
      refine Pm_suc rfl (fun k => by rw [x_add]) (fun k => by rw [x_add]) (fun m3 hm3 => ?_)
      exact b32 m3 i _ _ _ _ (by omega) (LE_u hN (hN 5 (by omega))) hs
    have hic : i < c := by
      by_cases e : c ≤ i
      · exact absurd ((n_le (by omega) (by omega)).mpr e) y
      · omega
    refine Pm_ite Iff.rfl (fun _ _ => ?_) (fun y _ => ?_)
    · refine Pm_suc rfl (fun k => by rw [x_add]) (fun k => by rw [x_add]) (fun m2 hm2 => ?_)
      exact b22 m2 _ _ (by omega) hic (LE_u hN rfl) n8
    · have hip : i < p := by
        by_cases e : p ≤ i
        · exact absurd ((n_le (by omega) (by omega)).mpr e) y
        · omega
      refine Pm_chk (fun _ _ => ?_)
      exact b22 m1 _ _ (by omega) hic (LE_u hN (a9 i hip)) n8
  have b18 : ∀ (m c : Nat) (N1 N2 : Nat → Int32), c ≤ 64 → LE3 N1 N2 → N1 100 = nI c → Pm m (fun k => x_add k 18 N1 τ1) (fun k => x_add k 18 N2 τ2) (KQ h1 h2 70) := by
    intro m c N1 N2 hc hN n100
    refine Pm_suc rfl (fun k => by rw [x_add]) (fun k => by rw [x_add]) (fun m1 _ => ?_)
    rw [n100, ← hN 100 (by omega), n100]
    show Pm m1 (fun k => x_add k 19 N1 (mSc τ1 86 (nI c))) (fun k => x_add k 19 N2 (mSc τ2 86 (nI c))) _
    refine Pm_suc rfl (fun k => by rw [x_add]) (fun k => by rw [x_add]) (fun m2 _ => ?_)
    exact b20 m2 c 0 _ _ _ _ hc (Nat.zero_le _) (LE_u (LE_u hN rfl) rfl) rfl (hA c)
  have hA0 := hA 0
  obtain ⟨_, _, _, _, _, _, _, _, a9, a10, _⟩ := hA0
  have a9 : AgN (τ1.2.2 42) (τ2.2.2 42) p := a9
  have a10 : AgN (τ1.2.2 43) (τ2.2.2 43) q := a10
  refine Pm_suc rfl (fun k => by rw [x_add]) (fun k => by rw [x_add]) (fun m1 _ => ?_)
  rw [t1, t2, u1, u2]
  refine Pm_ob (Pm_un (s_cmpR42 (n := p) (by omega) rfl) (fun k => f_compareRows__42__43 k _ _ _) (s_cmpR42 (n := p) (by omega) rfl) (fun k => f_compareRows__42__43 k _ _ _) (k_cmpR42 (p := p) (q := q) (by omega) (by omega) (by omega) a9 a10 rfl rfl rfl rfl)) (fun r1 r2 hr => ?_)
  obtain ⟨hr0, hr1, hr2⟩ := hr
  rw [hr0, hr1, hr2, t1, t2, u1, u2]
  refine Pm_ite Iff.rfl (fun _ _ => ?_) (fun _ _ => b18 m1 p _ _ hp (LE_u (LE_u hL rfl) rfl) rfl)
  refine Pm_suc rfl (fun k => by rw [x_add]) (fun k => by rw [x_add]) (fun m2 _ => ?_)
  rw [u1, u2]
  exact b18 m2 q _ _ hq (LE_u (LE_u hL rfl) rfl) rfl
/-- a whole is loaded on both sides -/
theorem k_loadA {a1 a2 p : Nat} (hS1 : HS g1 l1 B1 h1 σ1) (hS2 : HS g2 l2 B2 h2 σ2) (hW : WhE σ1 σ2 a1 a2 p) {L1 L2 : Nat → Int32} (e1 : L1 1 = nI a1) (e2 : L2 1 = nI a2) : Pm n (fun k => x_loadA k 0 L1 σ1) (fun k => x_loadA k 0 L2 σ2) (fun r1 r2 => NF σ1 r1.2 ∧ NF σ2 r2.2 ∧ r1.2.1 84 = nI (p - 1) ∧ r2.2.1 84 = nI (p - 1) ∧ AgN (r1.2.2.2 42) (r2.2.2.2 42) (p - 1)) := by
  obtain ⟨w1, w2, w3⟩ := hW
  refine Pm_mono (Pm_u2 (Um_and (Um_t (s_loadA hS1 w1.1 w1.2.1 w1.2.2.1 w1.2.2.2.1 w1.2.2.2.2 e1) (fun k => f_loadA k _ _ _)) (u_loadA w1 e1)) (Um_and (Um_t (s_loadA hS2 w2.1 w2.2.1 w2.2.2.1 w2.2.2.2.1 w2.2.2.2.2 e2) (fun k => f_loadA k _ _ _)) (u_loadA w2 e2))) (fun r1 r2 hr => ?_)
  obtain ⟨⟨⟨q1, q2, _⟩, q3⟩, ⟨⟨q4, q5, _⟩, q6⟩⟩ := hr
  refine ⟨q1, q4, q2, q5, fun i hi => ?_⟩
  rw [q3 i hi, q6 i hi, show a2 + 5 + i = a2 + 4 + (i + 1) by omega, w3 (i + 1) (by omega), show a1 + 4 + (i + 1) = a1 + 5 + i by omega]
theorem k_loadB {a1 a2 p : Nat} (hS1 : HS g1 l1 B1 h1 σ1) (hS2 : HS g2 l2 B2 h2 σ2) (hW : WhE σ1 σ2 a1 a2 p) {L1 L2 : Nat → Int32} (e1 : L1 1 = nI a1) (e2 : L2 1 = nI a2) : Pm n (fun k => x_loadB k 0 L1 σ1) (fun k => x_loadB k 0 L2 σ2) (fun r1 r2 => NF σ1 r1.2 ∧ NF σ2 r2.2 ∧ r1.2.1 85 = nI (p - 1) ∧ r2.2.1 85 = nI (p - 1) ∧ AgN (r1.2.2.2 43) (r2.2.2.2 43) (p - 1) ∧ r1.2.2.2 42 = σ1.2.2 42 ∧ r2.2.2.2 42 = σ2.2.2 42 ∧ r1.2.1 84 = σ1.1 84 ∧ r2.2.1 84 = σ2.1 84) := by
  obtain ⟨w1, w2, w3⟩ := hW
  refine Pm_mono (Pm_u2 (Um_and (Um_t (s_loadB hS1 w1.1 w1.2.1 w1.2.2.1 w1.2.2.2.1 w1.2.2.2.2 e1) (fun k => f_loadB k _ _ _)) (u_loadB w1 e1)) (Um_and (Um_t (s_loadB hS2 w2.1 w2.2.1 w2.2.2.1 w2.2.2.2.1 w2.2.2.2.2 e2) (fun k => f_loadB k _ _ _)) (u_loadB w2 e2))) (fun r1 r2 hr => ?_)
  obtain ⟨⟨⟨q1, q2, _, x1, x2⟩, q3⟩, ⟨⟨q4, q5, _, x3, x4⟩, q6⟩⟩ := hr
  refine ⟨q1, q4, q2, q5, fun i hi => ?_, x1, x3, x2, x4⟩
  rw [q3 i hi, q6 i hi, show a2 + 5 + i = a2 + 4 + (i + 1) by omega, w3 (i + 1) (by omega), show a1 + 4 + (i + 1) = a1 + 5 + i by omega]
theorem k_signOf {a1 a2 p : Nat} (hS1 : HS g1 l1 B1 h1 σ1) (hS2 : HS g2 l2 B2 h2 σ2) (hW : WhE σ1 σ2 a1 a2 p) {L1 L2 : Nat → Int32} (e1 : L1 1 = nI a1) (e2 : L2 1 = nI a2) : Pm n (fun k => x_signOf k 0 L1 σ1) (fun k => x_signOf k 0 L2 σ2) (fun r1 r2 => r1 = (σ1.2.2 28 (a1 + 4), σ1) ∧ r2 = (σ1.2.2 28 (a1 + 4), σ2)) := by
  obtain ⟨w1, w2, w3⟩ := hW
  have c0 := w3 0 (by have := w1.2.1; omega)
  refine Pm_mono (Pm_t2 (s_signOf hS1 (m := a1) (by have := w1.2.2.2.1; have := w1.2.1; omega) e1) (fun k => f_signOf k _ _ _) (s_signOf hS2 (m := a2) (by have := w2.2.2.2.1; have := w2.2.1; omega) e2) (fun k => f_signOf k _ _ _)) (fun r1 r2 z => ⟨z.1, by rw [z.2, show a2 + 4 = a2 + 4 + 0 from rfl, c0]⟩)
theorem k_add {a1 a2 b1 b2 p q : Nat} (hS1 : HS g1 l1 B1 h1 σ1) (hS2 : HS g2 l2 B2 h2 σ2) (e1 : σ1.1 56 = 0) (e2 : σ2.1 56 = 0) (hr1 : h1 + 70 ≤ B1 + 870000) (hr2 : h2 + 70 ≤ B2 + 870000) (hA : WhE σ1 σ2 a1 a2 p) (hB : WhE σ1 σ2 b1 b2 q) {L1 L2 : Nat → Int32} (d1 : L1 1 = nI a1) (d2 : L1 2 = nI b1) (f1 : L2 1 = nI a2) (f2 : L2 2 = nI b2) (hL : LE3 L1 L2) : Pm n (fun k => x_add k 0 L1 σ1) (fun k => x_add k 0 L2 σ2) (KQ h1 h2 70) := by
  have hp := hA.1.2.2.1
  have hq := hB.1.2.2.1
  refine Pm_suc rfl (fun k => by rw [x_add]) (fun k => by rw [x_add]) (fun m1 _ => ?_)
  refine Pm_ob (k_loadA hS1 hS2 hA (by exact d1) (by exact f1)) (fun r1 r2 hr => ?_)
  obtain ⟨q1, q2, q3, q4, q5⟩ := hr
  have hT1 := NF_HS q1 hS1
  have hT2 := NF_HS q2 hS2
  refine Pm_ob (k_loadB hT1 hT2 (WhE_NF q1 q2 hB) (by exact d2) (by exact f2)) (fun s1 s2 hs => ?_)
  obtain ⟨w1, w2, w3, w4, w5, w6, w7, w8, w9⟩ := hs
  have n1 := NF_tr q1 w1
  have n2 := NF_tr q2 w2
  have hU1 := NF_HS n1 hS1
  have hU2 := NF_HS n2 hS2
  refine Pm_ob (k_signOf hU1 hU2 (WhE_NF n1 n2 hA) (by exact d1) (by exact f1)) (fun x1 x2 hx => ?_)
  rw [hx.1, hx.2]
  refine Pm_ob (k_signOf hU1 hU2 (WhE_NF n1 n2 hB) (by exact d2) (by exact f2)) (fun y1 y2 hy => ?_)
  rw [hy.1, hy.2]
  generalize hsa : s1.2.2.2 28 (a1 + 4) = sa
  generalize hsb : s1.2.2.2 28 (b1 + 4) = sb
  have hLx : LE3 (upd (upd L1 4 sa) 5 (sb * L1 3)) (upd (upd L2 4 sa) 5 (sb * L2 3)) := LE_u (LE_u hL rfl) (by rw [hL 3 (by omega)])
  have hSA : ∀ c, SA σ1 σ2 (p - 1) (q - 1) c 0 (mSc s1.2 86 (nI c)) (mSc s2.2 86 (nI c)) := fun c => by
    refine ⟨NF_tr n1 (NF_sc (by omega)), NF_tr n2 (NF_sc (by omega)), w8.trans q3, w9.trans q4, w3, w4, rfl, rfl, ?_, w5, fun i hi => absurd hi (Nat.not_lt_zero i)⟩
    show AgN (s1.2.2.2 42) (s2.2.2.2 42) _
    rw [w6, w7]; exact q5
  have go1 := fun m => k_add1 (n := m) (p := p - 1) (q := q - 1) (c0 := 0) (by omega) (by omega) hS1 hS2 e1 e2 hr1 hr2 hSA (w8.trans q3) (w9.trans q4) w3 w4 hLx
  have go16 := fun m => k_sub16 (n := m) (p := p - 1) (q := q - 1) (by omega) (by omega) hS1 hS2 e1 e2 hr1 hr2 hSA (w8.trans q3) (w9.trans q4) w3 w4 hLx
  refine Pm_ite Iff.rfl (fun _ _ => go1 m1) (fun _ _ => ?_)
  refine Pm_ite (by rw [hL 3 (by omega)]) (fun _ _ => go1 m1) (fun _ _ => ?_)
  exact Pm_ite (by rw [hL 3 (by omega)]) (fun _ _ => go1 m1) (fun _ _ => go16 m1)
end KSB

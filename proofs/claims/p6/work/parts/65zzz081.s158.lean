/-! Two runs side by side (reference): sums and differences of wholes. -/
/-- both have an error or none; without one the answers hold the same; the heaps grew by no more than K -/
def KQ (h1 h2 K : Nat) (r1 r2 : Int32 × MS) : Prop := (r1.2.1 56 = 0 ↔ r2.2.1 56 = 0) ∧ (r1.2.1 56 = 0 → ∃ a b, r1.1 = nI a ∧ r2.1 = nI b ∧ a < 1740000 ∧ b < 1740000 ∧ EVb (r1.2.2.2 28) (r2.2.2.2 28) a b) ∧ (∃ p1 p2, r1.2.1 55 = nI p1 ∧ r2.2.1 55 = nI p2 ∧ p1 ≤ h1 + K ∧ p2 ≤ h2 + K)
/-- locals from 3 on are the same -/
def LE3 (N1 N2 : Nat → Int32) : Prop := ∀ i, 3 ≤ i → N1 i = N2 i
theorem LE_u {N1 N2 : Nat → Int32} {j : Nat} {x y : Int32} (h : LE3 N1 N2) (e : x = y) : LE3 (upd N1 j x) (upd N2 j y) := fun i hi => by
  by_cases c : i = j
  · rw [c, upd_same, upd_same, e]
  · rw [upd_other c, upd_other c]; exact h i hi
def SA (σ1 σ2 : MS) (p q c i : Nat) (τ1 τ2 : MS) : Prop := NF σ1 τ1 ∧ NF σ2 τ2 ∧ τ1.1 84 = nI p ∧ τ2.1 84 = nI p ∧ τ1.1 85 = nI q ∧ τ2.1 85 = nI q ∧ τ1.1 86 = nI c ∧ τ2.1 86 = nI c ∧ AgN (τ1.2.2 42) (τ2.2.2 42) p ∧ AgN (τ1.2.2 43) (τ2.2.2 43) q ∧ AgN (τ1.2.2 44) (τ2.2.2 44) i
section KAD
variable {g1 g2 : Nat → Prop} {l1 l2 : List Nat} {B1 h1 B2 h2 n : Nat} {σ1 σ2 : MS}
/-- two objects of bytes or limbs, made alike -/
theorem NwO_ev {hx hy kd n s ht K : Nat} {c d : Nat → Int32} {r1 r2 : Int32 × MS} (hk : kd ≤ 4) (hn : n ≤ 3996) (hK : 4 + n ≤ K) (h3 : 3 ≤ hx) (h4 : 3 ≤ hy) (bx : hx < 1740000) (by' : hy < 1740000) (a : NwO hx kd n s ht c r1) (b : NwO hy kd n s ht d r2) (hc : ∀ i, i < n → c i = d i) : KQ hx hy K r1 r2 := by
  obtain ⟨a1, a2, a3, a4, a5, a6, a7, a8⟩ := a
  obtain ⟨b1, b2, b3, b4, b5, b6, b7, b8⟩ := b
  refine ⟨⟨fun _ => b3, fun _ => a3⟩, fun _ => ⟨hx, hy, a1, b1, bx, by', EVb_mk h3 h4 (fun i hi => ?_) (fun n' hn' hn2 i hi => Or.inr ⟨?_, ?_⟩)⟩, _, _, a2, b2, by omega, by omega⟩
  · have : i = 0 ∨ i = 1 ∨ i = 2 ∨ i = 3 := by omega
    rcases this with rfl | rfl | rfl | rfl
    · exact b4.trans a4.symm
    · exact b5.trans a5.symm
    · exact b6.trans a6.symm
    · exact b7.trans a7.symm
  · rw [a4]
    intro z
    rcases z with z | z
    · have := (n_eq (p := kd) (q := 5) (by omega) (by decide)).mp z; omega
    · have := (n_eq (p := kd) (q := 6) (by omega) (by decide)).mp z; omega
  · have e : n = n' := (n_eq (by omega) (by omega)).mp (a5.symm.trans hn')
    subst e
    rw [a8 i hi, b8 i hi, hc i hi]
theorem KQ_er {K : Nat} {r1 r2 : Int32 × MS} (e1 : ¬ r1.2.1 56 = 0) (e2 : ¬ r2.2.1 56 = 0) (f1 : r1.2.1 55 = nI h1) (f2 : r2.2.1 55 = nI h2) : KQ h1 h2 K r1 r2 := ⟨⟨fun z => absurd z e1, fun z => absurd z e2⟩, fun z => absurd z e1, h1, h2, f1, f2, by omega, by omega⟩
theorem k_wholeOf {c : Nat} (hS1 : HS g1 l1 B1 h1 σ1) (hS2 : HS g2 l2 B2 h2 σ2) (e1 : σ1.1 56 = 0) (e2 : σ2.1 56 = 0) (hr1 : h1 + 70 ≤ B1 + 870000) (hr2 : h2 + 70 ≤ B2 + 870000) (hc : c ≤ 300) (c1 : σ1.1 86 = nI c) (c2 : σ2.1 86 = nI c) (hA : AgN (σ1.2.2 44) (σ2.2.2 44) c) {L1 L2 : Nat → Int32} (hL : L1 1 = L2 1) : Pm n (fun k => x_wholeOf k 0 L1 σ1) (fun k => x_wholeOf k 0 L2 σ2) (KQ h1 h2 70) := by
  have b1 := HS_b hS1
  have b2 := HS_b hS2
  have x1 := hS1.2.1
  have x2 := hS2.2.1
  refine Pm_mono (Pm_u2 (u_wholeOf hS1 e1 hr1 hc c1 L1) (u_wholeOf hS2 e2 hr2 hc c2 L2)) (fun r1 r2 hr => ?_)
  obtain ⟨q1, q2⟩ := hr
  have ez := trN_ag c hA
  have hz := trN_le (σ1.2.2 44) c
  rw [ez] at q2
  rcases q1 with ⟨z1, q1⟩ | ⟨z1, y1, y2, y3⟩
  · rcases q2 with ⟨z2, q2⟩ | ⟨z2, _⟩
    · refine NwO_ev (by omega) (by omega) (by omega) (by omega) (by omega) (by omega) (by omega) q1 q2 (fun i hi => ?_)
      by_cases e0 : i = 0
      · subst e0
        show (if trN (σ1.2.2 44) c = 0 then 0 else L1 1) = (if trN (σ1.2.2 44) c = 0 then 0 else L2 1)
        rw [hL]
      · show (if i = 0 then _ else σ1.2.2 44 (i - 1)) = (if i = 0 then _ else σ2.2.2 44 (i - 1))
        rw [if_neg e0, if_neg e0]
        exact hA (i - 1) (by omega)
    · omega
  · rcases q2 with ⟨z2, _⟩ | ⟨z2, w1, w2, w3⟩
    · omega
    · exact KQ_er y3 w3 y2 w2
theorem SA_w {p q c i : Nat} {τ1 τ2 : MS} {x y : Int32} (h : SA σ1 σ2 p q c i τ1 τ2) (e : x = y) : SA σ1 σ2 p q c (i + 1) (mAr τ1 44 i x) (mAr τ2 44 i y) := by
  obtain ⟨a1, a2, a3, a4, a5, a6, a7, a8, a9, a10, a11⟩ := h
  refine ⟨NF_tr a1 (NF_ar (by omega)), NF_tr a2 (NF_ar (by omega)), a3, a4, a5, a6, a7, a8, ?_, ?_, ?_⟩
  · rw [mAr_o (by decide), mAr_o (by decide)]; exact a9
  · rw [mAr_o (by decide), mAr_o (by decide)]; exact a10
  · rw [mAr_s, mAr_s]; exact AgN_up a11 e
theorem SA_86 {p q c c' i : Nat} {τ1 τ2 : MS} (h : SA σ1 σ2 p q c i τ1 τ2) : SA σ1 σ2 p q c' i (mSc τ1 86 (nI c')) (mSc τ2 86 (nI c')) := by
  obtain ⟨a1, a2, a3, a4, a5, a6, a7, a8, a9, a10, a11⟩ := h
  exact ⟨NF_tr a1 (NF_sc (by omega)), NF_tr a2 (NF_sc (by omega)), a3, a4, a5, a6, rfl, rfl, a9, a10, a11⟩
theorem SA_end {p q c : Nat} {τ1 τ2 : MS} (h : SA σ1 σ2 p q c c τ1 τ2) (hS1 : HS g1 l1 B1 h1 σ1) (hS2 : HS g2 l2 B2 h2 σ2) (e1 : σ1.1 56 = 0) (e2 : σ2.1 56 = 0) (hr1 : h1 + 70 ≤ B1 + 870000) (hr2 : h2 + 70 ≤ B2 + 870000) (hc : c ≤ 300) {L1 L2 : Nat → Int32} (hL : L1 1 = L2 1) : Pm n (fun k => x_wholeOf k 0 L1 τ1) (fun k => x_wholeOf k 0 L2 τ2) (KQ h1 h2 70) := by
  obtain ⟨a1, a2, a3, a4, a5, a6, a7, a8, a9, a10, a11⟩ := h
  exact k_wholeOf (NF_HS a1 hS1) (NF_HS a2 hS2) ((a1.1 56 (by decide)).trans e1) ((a2.1 56 (by decide)).trans e2) hr1 hr2 hc a7 a8 a11 hL
theorem k_cmpR42 {p q : Nat} (hp : p ≤ 139) (hpq : p ≤ 139) (hq : q ≤ 139) (hA : AgN (σ1.2.2 42) (σ2.2.2 42) p) (hB : AgN (σ1.2.2 43) (σ2.2.2 43) q) {L1 L2 : Nat → Int32} (e1 : L1 1 = nI p) (e2 : L2 1 = nI p) (f1 : L1 3 = nI q) (f2 : L2 3 = nI q) : Pm n (fun k => x_compareRows__42__43 k 0 L1 σ1) (fun k => x_compareRows__42__43 k 0 L2 σ2) (fun r1 r2 => r1.1 = r2.1) := by
  have lp : ∀ (m i : Nat) (N1 N2 : Nat → Int32), i ≤ p → N1 4 = N2 4 → (N1 4 = 0 → p = q) → N1 5 = nI i - 1 → N2 5 = nI i - 1 → Pm m (fun k => x_compareRows__42__43 k 1 N1 σ1) (fun k => x_compareRows__42__43 k 1 N2 σ2) (fun r1 r2 => r1.1 = r2.1) := by
    intro m
    induction m using Nat.strongRecOn with
    | ind m ih =>
    intro i N1 N2 hi n4 hpq n5 o5
    have b2 : ∀ m', Pm m' (fun k => x_compareRows__42__43 k 2 N1 σ1) (fun k => x_compareRows__42__43 k 2 N2 σ2) (fun r1 r2 => r1.1 = r2.1) := fun m' => by
      refine Pm_suc rfl (fun k => by rw [x_compareRows__42__43]) (fun k => by rw [x_compareRows__42__43]) (fun m'' _ => ?_)
      exact Pm_some n4
    refine Pm_suc rfl (fun k => by rw [x_compareRows__42__43]) (fun k => by rw [x_compareRows__42__43]) (fun m1 hm1 => ?_)
    rw [n5, o5]
    refine Pm_ite Iff.rfl (fun _ _ => b2 m1) (fun z _ => ?_)
    refine Pm_ite (by rw [n4]) (fun z4 _ => ?_) (fun _ _ => b2 m1)
    have hi1 : 1 ≤ i := by
      by_cases e : i = 0
      · exact absurd (by rw [e]; decide) z
      · omega
    obtain ⟨j, rfl⟩ : ∃ j, i = j + 1 := ⟨i - 1, by omega⟩
    rw [show nI (j + 1) - 1 = nI j from n_sub1 (by omega), n_cl (p := j) (by omega)]
    have epq := hpq z4
    refine Pm_chk (fun _ _ => ?_)
    refine Pm_chk (fun _ _ => ?_)
    refine ih m1 (by omega) j _ _ (by omega) ?_ (fun _ => epq) ?_ ?_
    · show σ1.2.2 42 j - σ1.2.2 43 j = σ2.2.2 42 j - σ2.2.2 43 j
      rw [hA j (by omega), hB j (by omega)]
    · show nI j + (-1) = nI j - 1
      exact (Int32.sub_eq_add_neg _ _).symm
    · show nI j + (-1) = nI j - 1
      exact (Int32.sub_eq_add_neg _ _).symm
  refine Pm_suc rfl (fun k => by rw [x_compareRows__42__43]) (fun k => by rw [x_compareRows__42__43]) (fun m1 _ => ?_)
  rw [e1, e2, f1, f2]
  exact lp m1 p _ _ (Nat.le_refl _) rfl (fun z => (n_sub0 (by omega) (by omega)).mp z) rfl rfl
/-- sums: behind the loading -/
theorem k_add1 {p q : Nat} (hp : p ≤ 64) (hq : q ≤ 64) (hS1 : HS g1 l1 B1 h1 σ1) (hS2 : HS g2 l2 B2 h2 σ2) (e1 : σ1.1 56 = 0) (e2 : σ2.1 56 = 0) (hr1 : h1 + 70 ≤ B1 + 870000) (hr2 : h2 + 70 ≤ B2 + 870000) {τ1 τ2 : MS} {c0 : Nat} (hA : ∀ c, SA σ1 σ2 p q c 0 (mSc τ1 86 (nI c)) (mSc τ2 86 (nI c))) (t1 : τ1.1 84 = nI p) (t2 : τ2.1 84 = nI p) (u1 : τ1.1 85 = nI q) (u2 : τ2.1 85 = nI q) {L1 L2 : Nat → Int32} (hL : LE3 L1 L2) : Pm n (fun k => x_add k 1 L1 τ1) (fun k => x_add k 1 L2 τ2) (KQ h1 h2 70) := by
  -- the end
  have b15 : ∀ (m c : Nat) (N1 N2 : Nat → Int32) (υ1 υ2 : MS), c ≤ 65 → LE3 N1 N2 → SA σ1 σ2 p q c c υ1 υ2 → Pm m (fun k => x_add k 15 N1 υ1) (fun k => x_add k 15 N2 υ2) (KQ h1 h2 70) := by
    intro m c N1 N2 υ1 υ2 hc hN hs
    refine Pm_suc rfl (fun k => by rw [x_add]) (fun k => by rw [x_add]) (fun m1 _ => ?_)
    exact Pm_ob (SA_end hs hS1 hS2 e1 e2 hr1 hr2 (by omega) (by exact hN 100 (by omega))) (fun r1 r2 hr => Pm_some hr)
  have b13 : ∀ (m c : Nat) (N1 N2 : Nat → Int32) (υ1 υ2 : MS), c ≤ 65 → LE3 N1 N2 → SA σ1 σ2 p q c c υ1 υ2 → Pm m (fun k => x_add k 13 N1 υ1) (fun k => x_add k 13 N2 υ2) (KQ h1 h2 70) := by
    intro m c N1 N2 υ1 υ2 hc hN hs
    refine Pm_suc rfl (fun k => by rw [x_add]) (fun k => by rw [x_add]) (fun m1 _ => ?_)
    refine Pm_ite (by rw [hN 4 (by omega)]) (fun _ _ => b15 m1 c _ _ _ _ hc (LE_u hN (hN 5 (by omega))) hs) (fun _ _ => ?_)
    refine Pm_suc rfl (fun k => by rw [x_add]) (fun k => by rw [x_add]) (fun m2 _ => ?_)
    exact b15 m2 c _ _ _ _ hc (LE_u hN (hN 4 (by omega))) hs
  have b5 : ∀ (m c i : Nat) (N1 N2 : Nat → Int32) (υ1 υ2 : MS), c ≤ 64 → i ≤ c → LE3 N1 N2 → N1 7 = nI i → SA σ1 σ2 p q c i υ1 υ2 → Pm m (fun k => x_add k 5 N1 υ1) (fun k => x_add k 5 N2 υ2) (KQ h1 h2 70) := by
    intro m
    induction m using Nat.strongRecOn with
    | ind m ih =>
    intro c i N1 N2 υ1 υ2 hc hi hN n7 hs
    have o7 : N2 7 = nI i := (hN 7 (by omega)).symm.trans n7
    obtain ⟨a1, a2, a3, a4, a5, a6, a7, a8, a9, a10, a11⟩ := hs
    have hs : SA σ1 σ2 p q c i υ1 υ2 := ⟨a1, a2, a3, a4, a5, a6, a7, a8, a9, a10, a11⟩
    -- one limb
    have b9 : ∀ (m' : Nat) (M1 M2 : Nat → Int32), m' < m → i < c → LE3 M1 M2 → M1 7 = nI i → Pm m' (fun k => x_add k 9 M1 υ1) (fun k => x_add k 9 M2 υ2) (KQ h1 h2 70) := by
      intro m' M1 M2 hm' hic hM m7
      have w7 : M2 7 = nI i := (hM 7 (by omega)).symm.trans m7
      have ex : M1 102 + (M1 101 + M1 100) = M2 102 + (M2 101 + M2 100) := by rw [hM 102 (by omega), hM 101 (by omega), hM 100 (by omega)]
      refine Pm_suc rfl (fun k => by rw [x_add]) (fun k => by rw [x_add]) (fun m1 h1' => ?_)
      rw [m7, w7, n_cl (p := i) (by omega)]
      refine Pm_chk (fun _ _ => ?_)
      show Pm m1 (fun k => x_add k 10 (upd M1 6 (M1 102 + (M1 101 + M1 100))) (mAr υ1 44 i ((M1 102 + (M1 101 + M1 100)) &&& 65535))) (fun k => x_add k 10 (upd M2 6 (M2 102 + (M2 101 + M2 100))) (mAr υ2 44 i ((M2 102 + (M2 101 + M2 100)) &&& 65535))) _
      refine Pm_suc rfl (fun k => by rw [x_add]) (fun k => by rw [x_add]) (fun m2 h2' => ?_)
      refine ih m2 (by omega) c (i + 1) _ _ _ _ hc (by omega) (LE_u (LE_u (LE_u hM ex) ?_) ?_) ?_ (SA_w hs (by rw [ex]))
      · show (M1 102 + (M1 101 + M1 100)) >>> _ = (M2 102 + (M2 101 + M2 100)) >>> _
        rw [ex]
      · show M1 7 + 1 = M2 7 + 1
        rw [m7, w7]
      · show M1 7 + 1 = nI (i + 1)
        rw [m7, n_add1]
    have b7 : ∀ (m' : Nat) (M1 M2 : Nat → Int32), m' < m → i < c → LE3 M1 M2 → M1 7 = nI i → Pm m' (fun k => x_add k 7 M1 υ1) (fun k => x_add k 7 M2 υ2) (KQ h1 h2 70) := by
      intro m' M1 M2 hm' hic hM m7
      have w7 : M2 7 = nI i := (hM 7 (by omega)).symm.trans m7
      refine Pm_suc rfl (fun k => by rw [x_add]) (fun k => by rw [x_add]) (fun m1 h1' => ?_)
      rw [a5, a6, m7, w7, n_cl (p := i) (by omega)]
      refine Pm_ite Iff.rfl (fun _ _ => ?_) (fun y _ => ?_)
      · refine Pm_suc rfl (fun k => by rw [x_add]) (fun k => by rw [x_add]) (fun m2 h2' => ?_)
        have hM' : LE3 (upd (upd M1 100 (M1 100)) 101 (M1 101)) (upd (upd M2 100 (M2 100)) 101 (M2 101)) := LE_u (LE_u hM (hM 100 (by omega))) (hM 101 (by omega))
        exact b9 m2 _ _ (by omega) hic (LE_u (LE_u (LE_u hM' rfl) (hM' 100 (by omega))) (hM' 101 (by omega))) m7
      · have hiq : i < q := by
          by_cases e : q ≤ i
          · exact absurd ((n_le (by omega) (by omega)).mpr e) y
          · omega
        refine Pm_chk (fun _ _ => ?_)
        exact b9 m1 _ _ (by omega) hic (LE_u (LE_u (LE_u hM (a10 i hiq)) (hM 100 (by omega))) (hM 101 (by omega))) m7
    refine Pm_suc rfl (fun k => by rw [x_add]) (fun k => by rw [x_add]) (fun m1 hm1 => ?_)
    rw [a7, a8, a3, a4, n7, o7, n_cl (p := i) (by omega)]
    refine Pm_ite Iff.rfl (fun y _ => ?_) (fun y _ => ?_)
    · have y := (n_le (by omega) (by omega)).mp y
      have ei : i = c := by omega
      subst ei
      refine Pm_suc rfl (fun k => by rw [x_add]) (fun k => by rw [x_add]) (fun m2 hm2 => ?_)
      rw [a7, a8, n_cl (p := i) (by omega)]
      refine Pm_ite (by rw [hN 6 (by omega)]) (fun _ _ => b13 m2 i _ _ _ _ (by omega) hN hs) (fun _ _ => ?_)
      refine Pm_chk (fun _ _ => ?_)
      show Pm m2 (fun k => x_add k 12 N1 (mAr υ1 44 i (N1 6))) (fun k => x_add k 12 N2 (mAr υ2 44 i (N2 6))) _
      refine Pm_suc rfl (fun k => by rw [x_add]) (fun k => by rw [x_add]) (fun m3 hm3 => ?_)
      have hs2 := SA_86 (c' := i + 1) (SA_w hs (hN 6 (by omega)))
      rw [show (mAr υ1 44 i (N1 6)).1 86 + 1 = nI (i + 1) by show υ1.1 86 + 1 = _; rw [a7, n_add1], show (mAr υ2 44 i (N2 6)).1 86 + 1 = nI (i + 1) by show υ2.1 86 + 1 = _; rw [a8, n_add1]]
      exact b13 m3 (i + 1) _ _ _ _ (by omega) hN hs2
    have hic : i < c := by
      by_cases e : c ≤ i
      · exact absurd ((n_le (by omega) (by omega)).mpr e) y
      · omega
    refine Pm_ite Iff.rfl (fun _ _ => ?_) (fun y _ => ?_)
    · refine Pm_suc rfl (fun k => by rw [x_add]) (fun k => by rw [x_add]) (fun m2 hm2 => ?_)
      have hM' : LE3 (upd N1 100 (N1 6)) (upd N2 100 (N2 6)) := LE_u hN (hN 6 (by omega))
      exact b7 m2 _ _ (by omega) hic (LE_u (LE_u hM' rfl) (hM' 100 (by omega))) n7
    · have hip : i < p := by
        by_cases e : p ≤ i
        · exact absurd ((n_le (by omega) (by omega)).mpr e) y
        · omega
      refine Pm_chk (fun _ _ => ?_)
      exact b7 m1 _ _ (by omega) hic (LE_u (LE_u hN (a9 i hip)) (hN 6 (by omega))) n7
  have b3 : ∀ (m c : Nat) (N1 N2 : Nat → Int32), c ≤ 64 → LE3 N1 N2 → N1 100 = nI c → Pm m (fun k => x_add k 3 N1 τ1) (fun k => x_add k 3 N2 τ2) (KQ h1 h2 70) := by
    intro m c N1 N2 hc hN n100
    refine Pm_suc rfl (fun k => by rw [x_add]) (fun k => by rw [x_add]) (fun m1 _ => ?_)
    rw [n100, ← hN 100 (by omega), n100]
    show Pm m1 (fun k => x_add k 4 N1 (mSc τ1 86 (nI c))) (fun k => x_add k 4 N2 (mSc τ2 86 (nI c))) _
    refine Pm_suc rfl (fun k => by rw [x_add]) (fun k => by rw [x_add]) (fun m2 _ => ?_)
    exact b5 m2 c 0 _ _ _ _ hc (Nat.zero_le _) (LE_u hN rfl) rfl (hA c)
  refine Pm_suc rfl (fun k => by rw [x_add]) (fun k => by rw [x_add]) (fun m1 _ => ?_)
  rw [t1, t2, u1, u2]
  refine Pm_ite Iff.rfl (fun _ _ => ?_) (fun _ _ => b3 m1 p _ _ hp (LE_u (LE_u hL rfl) rfl) rfl)
  refine Pm_suc rfl (fun k => by rw [x_add]) (fun k => by rw [x_add]) (fun m2 _ => ?_)
  rw [u1, u2]
  exact b3 m2 q _ _ hq (LE_u (LE_u hL rfl) rfl) rfl
end KAD

/-! Two runs side by side (reference): div and mod. -/
section KDI
variable {g1 g2 : Nat → Prop} {l1 l2 : List Nat} {B1 h1 B2 h2 n : Nat} {σ1 σ2 : MS}
/-- behind the rows' division -/
def DB (σ1 σ2 : MS) (na nb r c i : Nat) (τ1 τ2 : MS) : Prop := NF σ1 τ1 ∧ NF σ2 τ2 ∧ τ1.1 86 = nI c ∧ τ2.1 86 = nI c ∧ τ1.1 90 = nI r ∧ τ2.1 90 = nI r ∧ AgN (τ1.2.2 43) (τ2.2.2 43) nb ∧ AgN (τ1.2.2 45) (τ2.2.2 45) na ∧ AgN (τ1.2.2 46) (τ2.2.2 46) r ∧ AgN (τ1.2.2 44) (τ2.2.2 44) i
theorem DB_w {na nb r c i : Nat} {τ1 τ2 : MS} {x y : Int32} (h : DB σ1 σ2 na nb r c i τ1 τ2) (e : x = y) : DB σ1 σ2 na nb r c (i + 1) (mAr τ1 44 i x) (mAr τ2 44 i y) := by
  obtain ⟨a1, a2, a3, a4, a5, a6, a7, a8, a9, a10⟩ := h
  refine ⟨NF_tr a1 (NF_ar (by omega)), NF_tr a2 (NF_ar (by omega)), a3, a4, a5, a6, ?_, ?_, ?_, ?_⟩
  · rw [mAr_o (by decide), mAr_o (by decide)]; exact a7
  · rw [mAr_o (by decide), mAr_o (by decide)]; exact a8
  · rw [mAr_o (by decide), mAr_o (by decide)]; exact a9
  · rw [mAr_s, mAr_s]; exact AgN_up a10 e
/-- the remainder -/
theorem k_mod7 {na nb r c : Nat} (hc : c ≤ 140) (hr : r ≤ 140) (hnb : nb ≤ 64) (hS1 : HS g1 l1 B1 h1 σ1) (hS2 : HS g2 l2 B2 h2 σ2) (e1 : σ1.1 56 = 0) (e2 : σ2.1 56 = 0) (hr1 : h1 + 70 ≤ B1 + 870000) (hr2 : h2 + 70 ≤ B2 + 870000) : ∀ (m i : Nat) (N1 N2 : Nat → Int32) (τ1 τ2 : MS), i ≤ c → LE3 N1 N2 → N1 6 = nI i → (¬ N1 4 = 0 → c = nb) → DB σ1 σ2 na nb r c i τ1 τ2 → Pm m (fun k => x_divide k 7 N1 τ1) (fun k => x_divide k 7 N2 τ2) (KQ h1 h2 70) := by
  intro m
  induction m using Nat.strongRecOn with
  | ind m ih =>
  intro i N1 N2 τ1 τ2 hi hN x6 h4 hD
  have y6 : N2 6 = nI i := (hN 6 (by omega)).symm.trans x6
  obtain ⟨a1, a2, a3, a4, a5, a6, a7, a8, a9, a10⟩ := hD
  have hD : DB σ1 σ2 na nb r c i τ1 τ2 := ⟨a1, a2, a3, a4, a5, a6, a7, a8, a9, a10⟩
  have b13 : ∀ (m' : Nat) (M1 M2 : Nat → Int32), m' < m → i < c → LE3 M1 M2 → M1 6 = nI i → M1 4 = N1 4 → Pm m' (fun k => x_divide k 13 M1 τ1) (fun k => x_divide k 13 M2 τ2) (KQ h1 h2 70) := by
    intro m' M1 M2 hm' hic hM m6 m4
    have w6 : M2 6 = nI i := (hM 6 (by omega)).symm.trans m6
    refine Pm_suc rfl (fun k => by rw [x_divide]) (fun k => by rw [x_divide]) (fun k1 hk1 => ?_)
    rw [m6, w6, n_cl (p := i) (by omega)]
    refine Pm_chk (fun _ _ => ?_)
    show Pm k1 (fun k => x_divide k 14 (upd M1 5 (M1 100)) (mAr τ1 44 i (M1 8 &&& 65535))) (fun k => x_divide k 14 (upd M2 5 (M2 100)) (mAr τ2 44 i (M2 8 &&& 65535))) _
    refine Pm_suc rfl (fun k => by rw [x_divide]) (fun k => by rw [x_divide]) (fun k2 hk2 => ?_)
    refine ih k2 (by omega) (i + 1) _ _ _ _ (by omega) (LE_u (LE_u hM (hM 100 (by omega))) ?_) ?_ (by show ¬ M1 4 = 0 → _; rw [m4]; exact h4) (DB_w hD (by rw [hM 8 (by omega)]))
    · show M1 6 + 1 = M2 6 + 1
      rw [m6, w6]
    · show M1 6 + 1 = nI (i + 1)
      rw [m6, n_add1]
  have b11 : ∀ (m' : Nat) (M1 M2 : Nat → Int32), m' < m → i < c → LE3 M1 M2 → M1 6 = nI i → M1 4 = N1 4 → Pm m' (fun k => x_divide k 11 M1 τ1) (fun k => x_divide k 11 M2 τ2) (KQ h1 h2 70) := by
    intro m' M1 M2 hm' hic hM m6 m4
    have hM8 : LE3 (upd M1 8 (M1 100)) (upd M2 8 (M2 100)) := LE_u hM (hM 100 (by omega))
    have b12 : ∀ m2, m2 < m → Pm m2 (fun k => x_divide k 12 (upd M1 8 (M1 100)) τ1) (fun k => x_divide k 12 (upd M2 8 (M2 100)) τ2) (KQ h1 h2 70) := fun m2 hm2 => by
      refine Pm_suc rfl (fun k => by rw [x_divide]) (fun k => by rw [x_divide]) (fun k2 hk2 => ?_)
      exact b13 k2 _ _ (by omega) hic (LE_u hM8 rfl) m6 m4
    refine Pm_suc rfl (fun k => by rw [x_divide]) (fun k => by rw [x_divide]) (fun k1 hk1 => ?_)
    refine Pm_ite (by rw [hM 4 (by omega)]) (fun _ _ => b12 k1 (by omega)) (fun _ _ => ?_)
    exact Pm_ite (by rw [hM 100 (by omega)]) (fun _ _ => b12 k1 (by omega)) (fun _ _ => b13 k1 _ _ (by omega) hic (LE_u hM8 rfl) m6 m4)
  have b9 : ∀ (m' : Nat) (M1 M2 : Nat → Int32), m' < m → i < c → LE3 M1 M2 → M1 6 = nI i → M1 4 = N1 4 → Pm m' (fun k => x_divide k 9 M1 τ1) (fun k => x_divide k 9 M2 τ2) (KQ h1 h2 70) := by
    intro m' M1 M2 hm' hic hM m6 m4
    have w6 : M2 6 = nI i := (hM 6 (by omega)).symm.trans m6
    have hM7 : LE3 (upd M1 7 (M1 100)) (upd M2 7 (M2 100)) := LE_u hM (hM 100 (by omega))
    refine Pm_suc rfl (fun k => by rw [x_divide]) (fun k => by rw [x_divide]) (fun k1 hk1 => ?_)
    rw [m6, w6, n_cl (p := i) (by omega)]
    refine Pm_ite (by rw [hM 4 (by omega)]) (fun _ _ => ?_) (fun z _ => ?_)
    · refine Pm_suc rfl (fun k => by rw [x_divide]) (fun k => by rw [x_divide]) (fun k2 hk2 => ?_)
      exact b11 k2 _ _ (by omega) hic (LE_u hM7 (hM7 7 (by omega))) m6 m4
    · have ec := h4 (by rw [← m4]; exact z)
      refine Pm_chk (fun _ _ => ?_)
      exact b11 k1 _ _ (by omega) hic (LE_u hM7 (by rw [a7 i (by omega), hM 100 (by omega), hM 5 (by omega)])) m6 m4
  refine Pm_suc rfl (fun k => by rw [x_divide]) (fun k => by rw [x_divide]) (fun k1 hk1 => ?_)
  rw [a3, a4, a5, a6, x6, y6, n_cl (p := i) (by omega)]
  refine Pm_ite Iff.rfl (fun y _ => ?_) (fun y _ => ?_)
  · have y := (n_le (by omega) (by omega)).mp y
    have e : i = c := by omega
    rw [e] at a10
    refine Pm_suc rfl (fun k => by rw [x_divide]) (fun k => by rw [x_divide]) (fun k2 hk2 => ?_)
    exact Pm_ob (k_wholeOf (NF_HS a1 hS1) (NF_HS a2 hS2) ((a1.1 56 (by decide)).trans e1) ((a2.1 56 (by decide)).trans e2) hr1 hr2 (by omega) a3 a4 a10 rfl) (fun r1 r2 hr => Pm_some hr)
  have hic : i < c := by
    by_cases e : c ≤ i
    · exact absurd ((n_le (by omega) (by omega)).mpr e) y
    · omega
  refine Pm_ite Iff.rfl (fun _ _ => ?_) (fun y _ => ?_)
  · refine Pm_suc rfl (fun k => by rw [x_divide]) (fun k => by rw [x_divide]) (fun k2 hk2 => ?_)
    exact b9 k2 _ _ (by omega) hic (LE_u hN rfl) x6 rfl
  · have hir : i < r := by
      by_cases e : r ≤ i
      · exact absurd ((n_le (by omega) (by omega)).mpr e) y
      · omega
    refine Pm_chk (fun _ _ => ?_)
    exact b9 k1 _ _ (by omega) hic (LE_u hN (a9 i hir)) x6 rfl
/-- the quotient -/
theorem k_div20 {a1 a2 b1 b2 p q na nb r : Nat} (hna : na ≤ 64) (hS1 : HS g1 l1 B1 h1 σ1) (hS2 : HS g2 l2 B2 h2 σ2) (e1 : σ1.1 56 = 0) (e2 : σ2.1 56 = 0) (hr1 : h1 + 70 ≤ B1 + 870000) (hr2 : h2 + 70 ≤ B2 + 870000) (hA : WhE σ1 σ2 a1 a2 p) (hB : WhE σ1 σ2 b1 b2 q) : ∀ (m i : Nat) (N1 N2 : Nat → Int32) (τ1 τ2 : MS), i ≤ na → LE3 N1 N2 → N1 1 = nI a1 → N1 2 = nI b1 → N2 1 = nI a2 → N2 2 = nI b2 → N1 6 = nI i → DB σ1 σ2 na nb r na i τ1 τ2 → Pm m (fun k => x_divide k 20 N1 τ1) (fun k => x_divide k 20 N2 τ2) (KQ h1 h2 70) := by
  intro m
  induction m using Nat.strongRecOn with
  | ind m ih =>
  intro i N1 N2 τ1 τ2 hi hN x1 x2 y1 y2 x6 hD
  have y6 : N2 6 = nI i := (hN 6 (by omega)).symm.trans x6
  obtain ⟨a1', a2', a3, a4, a5, a6, a7, a8, a9, a10⟩ := hD
  have hD : DB σ1 σ2 na nb r na i τ1 τ2 := ⟨a1', a2', a3, a4, a5, a6, a7, a8, a9, a10⟩
  have b24 : ∀ (m' c : Nat) (υ1 υ2 : MS), c ≤ 300 → NF σ1 υ1 → NF σ2 υ2 → υ1.1 86 = nI c → υ2.1 86 = nI c → AgN (υ1.2.2 44) (υ2.2.2 44) c → Pm m' (fun k => x_divide k 24 N1 υ1) (fun k => x_divide k 24 N2 υ2) (KQ h1 h2 70) := by
    intro m' c υ1 υ2 hc n1 n2 c1 c2 hC
    have hU1 := NF_HS n1 hS1
    have hU2 := NF_HS n2 hS2
    refine Pm_suc rfl (fun k => by rw [x_divide]) (fun k => by rw [x_divide]) (fun k1 _ => ?_)
    refine Pm_ob (k_signOf hU1 hU2 (WhE_NF n1 n2 hA) (by exact x1) (by exact y1)) (fun z1 z2 hz => ?_)
    rw [hz.1, hz.2]
    refine Pm_ob (k_signOf hU1 hU2 (WhE_NF n1 n2 hB) (by exact x2) (by exact y2)) (fun w1 w2 hw => ?_)
    rw [hw.1, hw.2]
    exact Pm_ob (k_wholeOf hU1 hU2 ((n1.1 56 (by decide)).trans e1) ((n2.1 56 (by decide)).trans e2) hr1 hr2 hc c1 c2 hC rfl) (fun r1 r2 hr => Pm_some hr)
  refine Pm_suc rfl (fun k => by rw [x_divide]) (fun k => by rw [x_divide]) (fun k1 hk1 => ?_)
  rw [a3, a4, x6, y6, n_cl (p := i) (by omega)]
  refine Pm_ite Iff.rfl (fun y _ => ?_) (fun y _ => ?_)
  · have y := (n_le (by omega) (by omega)).mp y
    have e : i = na := by omega
    rw [e] at a10
    refine Pm_suc rfl (fun k => by rw [x_divide]) (fun k => by rw [x_divide]) (fun k2 hk2 => ?_)
    rw [a3, a4, n_cl (p := na) (by omega)]
    refine Pm_ite (by rw [hN 5 (by omega)]) (fun _ _ => b24 k2 na _ _ (by omega) a1' a2' a3 a4 a10) (fun _ _ => ?_)
    refine Pm_chk (fun _ _ => ?_)
    show Pm k2 (fun k => x_divide k 23 N1 (mAr τ1 44 na (N1 5))) (fun k => x_divide k 23 N2 (mAr τ2 44 na (N2 5))) _
    refine Pm_suc rfl (fun k => by rw [x_divide]) (fun k => by rw [x_divide]) (fun k3 hk3 => ?_)
    rw [show (mAr τ1 44 na (N1 5)).1 86 + 1 = nI (na + 1) by show τ1.1 86 + 1 = _; rw [a3, n_add1], show (mAr τ2 44 na (N2 5)).1 86 + 1 = nI (na + 1) by show τ2.1 86 + 1 = _; rw [a4, n_add1]]
    show Pm k3 (fun k => x_divide k 24 N1 (mSc (mAr τ1 44 na (N1 5)) 86 (nI (na + 1)))) (fun k => x_divide k 24 N2 (mSc (mAr τ2 44 na (N2 5)) 86 (nI (na + 1)))) _
    refine b24 k3 (na + 1) _ _ (by omega) (NF_tr a1' (NF_tr (NF_ar (by omega)) (NF_sc (by omega)))) (NF_tr a2' (NF_tr (NF_ar (by omega)) (NF_sc (by omega)))) rfl rfl ?_
    show AgN ((mAr τ1 44 na (N1 5)).2.2 44) ((mAr τ2 44 na (N2 5)).2.2 44) (na + 1)
    rw [mAr_s, mAr_s]; exact AgN_up a10 (hN 5 (by omega))
  have hin : i < na := by
    by_cases e : na ≤ i
    · exact absurd ((n_le (by omega) (by omega)).mpr e) y
    · omega
  have ev : τ1.2.2 45 i + N1 5 = τ2.2.2 45 i + N2 5 := by rw [a8 i hin, hN 5 (by omega)]
  rw [ev]
  refine Pm_chk (fun _ _ => ?_)
  refine Pm_chk (fun _ _ => ?_)
  show Pm k1 (fun k => x_divide k 21 (upd N1 7 (τ2.2.2 45 i + N2 5)) (mAr τ1 44 i ((τ2.2.2 45 i + N2 5) &&& 65535))) (fun k => x_divide k 21 (upd N2 7 (τ2.2.2 45 i + N2 5)) (mAr τ2 44 i ((τ2.2.2 45 i + N2 5) &&& 65535))) _
  refine Pm_suc rfl (fun k => by rw [x_divide]) (fun k => by rw [x_divide]) (fun k2 hk2 => ?_)
  refine ih k2 (by omega) (i + 1) _ _ _ _ (by omega) (LE_u (LE_u (LE_u hN rfl) rfl) ?_) x1 x2 y1 y2 ?_ (DB_w hD rfl)
  · show N1 6 + 1 = N2 6 + 1
    rw [x6, y6]
  · show N1 6 + 1 = nI (i + 1)
    rw [x6, n_add1]
theorem k_divide {a1 a2 b1 b2 p q : Nat} (hS1 : HS g1 l1 B1 h1 σ1) (hS2 : HS g2 l2 B2 h2 σ2) (e1 : σ1.1 56 = 0) (e2 : σ2.1 56 = 0) (hr1 : h1 + 70 ≤ B1 + 870000) (hr2 : h2 + 70 ≤ B2 + 870000) (hA : WhE σ1 σ2 a1 a2 p) (hB : WhE σ1 σ2 b1 b2 q) {L1 L2 : Nat → Int32} (d1 : L1 1 = nI a1) (d2 : L1 2 = nI b1) (f1 : L2 1 = nI a2) (f2 : L2 2 = nI b2) (hL : LE3 L1 L2) : Pm n (fun k => x_divide k 0 L1 σ1) (fun k => x_divide k 0 L2 σ2) (KQ h1 h2 70) := by
  have hp := hA.1.2.2.1
  have hq := hB.1.2.2.1
  refine Pm_suc rfl (fun k => by rw [x_divide]) (fun k => by rw [x_divide]) (fun m1 _ => ?_)
  refine Pm_ob (k_signOf hS1 hS2 hB (by exact d2) (by exact f2)) (fun z1 z2 hz => ?_)
  rw [hz.1, hz.2]
  refine Pm_ite Iff.rfl (fun _ _ => ?_) (fun _ _ => ?_)
  · refine Pm_ob (Pm_t2 (s_fail _ σ1) (fun k => f_fail k _ _ _) (s_fail _ σ2) (fun k => f_fail k _ _ _)) (fun s1 s2 hs => ?_)
    rw [hs.1, hs.2]
    exact Pm_some (KQ_er (mEr_e (by decide)) (mEr_e (by decide)) ((mEr_s (by decide)).trans hS1.2.2.1) ((mEr_s (by decide)).trans hS2.2.2.1))
  refine Pm_suc rfl (fun k => by rw [x_divide]) (fun k => by rw [x_divide]) (fun m2 _ => ?_)
  refine Pm_ob (k_loadA hS1 hS2 hA (by exact d1) (by exact f1)) (fun r1 r2 hr => ?_)
  obtain ⟨q1, q2, q3, q4, q5⟩ := hr
  have hT1 := NF_HS q1 hS1
  have hT2 := NF_HS q2 hS2
  refine Pm_ob (k_loadB hT1 hT2 (WhE_NF q1 q2 hB) (by exact d2) (by exact f2)) (fun s1 s2 hs => ?_)
  obtain ⟨w1, w2, w3, w4, w5, w6, w7, w8, w9⟩ := hs
  have n1 := NF_tr q1 w1
  have n2 := NF_tr q2 w2
  refine Pm_ob (k_divideRows (na := p - 1) (nb := q - 1) (by omega) (by omega) (w8.trans q3) (w9.trans q4) w3 w4 (by rw [w6, w7]; exact q5) w5 _) (fun t1 t2 ht => ?_)
  obtain ⟨r, hr140, c1, c2, _, _, c5, c6, c7, c8, c9, c10, _, c12, c13, c14⟩ := ht
  have n1 := NF_tr n1 c1
  have n2 := NF_tr n2 c2
  have hU1 := NF_HS n1 hS1
  have hU2 := NF_HS n2 hS2
  refine Pm_ob (k_signOf hU1 hU2 (WhE_NF n1 n2 hA) (by exact d1) (by exact f1)) (fun y1 y2 hy => ?_)
  rw [hy.1, hy.2]
  have hDB : ∀ c, DB σ1 σ2 (p - 1) (q - 1) r c 0 (mSc t1.2 86 (nI c)) (mSc t2.2 86 (nI c)) := fun c => ⟨NF_tr n1 (NF_sc (by omega)), NF_tr n2 (NF_sc (by omega)), rfl, rfl, c9, c10, c12, c13, c14, fun i hi => absurd hi (Nat.not_lt_zero i)⟩
  have b5 : ∀ (m c : Nat) (N1 N2 : Nat → Int32), c ≤ 140 → LE3 N1 N2 → N1 100 = nI c → (¬ N1 4 = 0 → c = q - 1) → Pm m (fun k => x_divide k 5 N1 t1.2) (fun k => x_divide k 5 N2 t2.2) (KQ h1 h2 70) := by
    intro m c N1 N2 hc hN n100 h4
    refine Pm_suc rfl (fun k => by rw [x_divide]) (fun k => by rw [x_divide]) (fun k1 _ => ?_)
    rw [n100, ← hN 100 (by omega), n100]
    show Pm k1 (fun k => x_divide k 6 N1 (mSc t1.2 86 (nI c))) (fun k => x_divide k 6 N2 (mSc t2.2 86 (nI c))) _
    refine Pm_suc rfl (fun k => by rw [x_divide]) (fun k => by rw [x_divide]) (fun k2 _ => ?_)
    exact k_mod7 hc hr140 (by omega) hS1 hS2 e1 e2 hr1 hr2 k2 0 _ _ _ _ (Nat.zero_le _) (LE_u (LE_u hN rfl) rfl) rfl h4 (hDB c)
  have b16 : ∀ (m : Nat) (N1 N2 : Nat → Int32), LE3 N1 N2 → N1 1 = nI a1 → N1 2 = nI b1 → N2 1 = nI a2 → N2 2 = nI b2 → Pm m (fun k => x_divide k 16 N1 t1.2) (fun k => x_divide k 16 N2 t2.2) (KQ h1 h2 70) := by
    intro m N1 N2 hN x1 x2 y1 y2
    refine Pm_suc rfl (fun k => by rw [x_divide]) (fun k => by rw [x_divide]) (fun k1 _ => ?_)
    rw [c7, c8]
    show Pm k1 (fun k => x_divide k 17 N1 (mSc t1.2 86 (nI (p - 1)))) (fun k => x_divide k 17 N2 (mSc t2.2 86 (nI (p - 1)))) _
    have b19 : ∀ (m' : Nat) (M1 M2 : Nat → Int32), LE3 M1 M2 → M1 1 = nI a1 → M1 2 = nI b1 → M2 1 = nI a2 → M2 2 = nI b2 → Pm m' (fun k => x_divide k 19 M1 (mSc t1.2 86 (nI (p - 1)))) (fun k => x_divide k 19 M2 (mSc t2.2 86 (nI (p - 1)))) (KQ h1 h2 70) := by
      intro m' M1 M2 hM u1 u2 v1 v2
      refine Pm_suc rfl (fun k => by rw [x_divide]) (fun k => by rw [x_divide]) (fun k3 _ => ?_)
      exact k_div20 (by omega) hS1 hS2 e1 e2 hr1 hr2 hA hB k3 0 _ _ _ _ (Nat.zero_le _) (LE_u (LE_u hM (hM 100 (by omega))) rfl) u1 u2 v1 v2 rfl (hDB (p - 1))
    refine Pm_suc rfl (fun k => by rw [x_divide]) (fun k => by rw [x_divide]) (fun k2 _ => ?_)
    refine Pm_ite (by rw [hN 4 (by omega)]) (fun _ _ => ?_) (fun _ _ => b19 k2 _ _ (LE_u hN rfl) x1 x2 y1 y2)
    refine Pm_suc rfl (fun k => by rw [x_divide]) (fun k => by rw [x_divide]) (fun k3 _ => ?_)
    exact b19 k3 _ _ (LE_u hN rfl) x1 x2 y1 y2
  have b3 : ∀ (m : Nat) (N1 N2 : Nat → Int32), LE3 N1 N2 → N1 1 = nI a1 → N1 2 = nI b1 → N2 1 = nI a2 → N2 2 = nI b2 → Pm m (fun k => x_divide k 3 N1 t1.2) (fun k => x_divide k 3 N2 t2.2) (KQ h1 h2 70) := by
    intro m N1 N2 hN x1 x2 y1 y2
    have hN4 : LE3 (upd N1 4 (N1 100)) (upd N2 4 (N2 100)) := LE_u hN (hN 100 (by omega))
    refine Pm_suc rfl (fun k => by rw [x_divide]) (fun k => by rw [x_divide]) (fun k1 _ => ?_)
    rw [c5, c6]
    refine Pm_ite (by rw [hN 3 (by omega)]) (fun _ _ => b16 k1 _ _ hN4 x1 x2 y1 y2) (fun _ _ => ?_)
    refine Pm_ite (by rw [hN 100 (by omega)]) (fun z _ => ?_) (fun z _ => b5 k1 (q - 1) _ _ (by omega) (LE_u hN4 rfl) rfl (fun _ => rfl))
    refine Pm_suc rfl (fun k => by rw [x_divide]) (fun k => by rw [x_divide]) (fun k2 _ => ?_)
    rw [c9, c10]
    exact b5 k2 r _ _ hr140 (LE_u hN4 rfl) rfl (fun w => absurd z w)
  have b2 : ∀ (m : Nat), Pm m (fun k => x_divide k 2 L1 t1.2) (fun k => x_divide k 2 L2 t2.2) (KQ h1 h2 70) := fun m => by
    refine Pm_suc rfl (fun k => by rw [x_divide]) (fun k => by rw [x_divide]) (fun k1 _ => ?_)
    exact b3 k1 _ _ (LE_u hL rfl) d1 d2 f1 f2
  refine Pm_ite Iff.rfl (fun _ _ => b2 m2) (fun _ _ => ?_)
  rw [c9, c10]
  exact Pm_ite Iff.rfl (fun _ _ => b2 m2) (fun _ _ => b3 m2 _ _ (LE_u hL rfl) d1 d2 f1 f2)
end KDI

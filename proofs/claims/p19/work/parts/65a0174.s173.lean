section JnS173
/-! Two runs side by side (reference): all operators (made by op2.py). -/
section KOP
variable {g1 g2 : Nat → Prop} {l1 l2 : List Nat} {B1 h1 B2 h2 n : Nat} {σ1 σ2 : MS}
theorem LE3_a {x1 x2 y1 y2 z : Int32} : LE3 (upd (upd (upd (fun _ => 0) 1 x1) 2 y1) 3 z) (upd (upd (upd (fun _ => 0) 1 x2) 2 y2) 3 z) := fun i hi => by
  by_cases e : i = 3
  · rw [e]; rfl
  · rw [upd_other e, upd_other (by omega), upd_other (by omega), upd_other e, upd_other (by omega), upd_other (by omega)]
theorem LE3_b {x1 x2 y1 y2 : Int32} : LE3 (upd (upd (fun _ => 0) 1 x1) 2 y1) (upd (upd (fun _ => 0) 1 x2) 2 y2) := fun i hi => by
  rw [upd_other (by omega), upd_other (by omega), upd_other (by omega), upd_other (by omega)]
theorem k_operate {f a1 a2 b1 b2 : Nat} (hS1 : HS g1 l1 B1 h1 σ1) (hS2 : HS g2 l2 B2 h2 σ2) (e1 : σ1.1 56 = 0) (e2 : σ2.1 56 = 0) (t1 : σ1.1 59 = nI f) (t2 : σ2.1 59 = nI f) (hf : f ≤ 176900) (hr1 : h1 + 8204 ≤ B1 + 870000) (hr2 : h2 + 8204 ≤ B2 + 870000) (ha1 : a1 < 3 ∨ g1 a1) (ha2 : a2 < 3 ∨ g2 a2) (va : EVb (σ1.2.2 28) (σ2.2.2 28) a1 a2) (hb1 : b1 < 3 ∨ g1 b1) (hb2 : b2 < 3 ∨ g2 b2) (vb : EVb (σ1.2.2 28) (σ2.2.2 28) b1 b2) {L1 L2 : Nat → Int32} (d0 : L1 1 = L2 1) (d1 : L1 2 = nI a1) (d2 : L1 3 = nI b1) (f1 : L2 2 = nI a2) (f2 : L2 3 = nI b2) (hL : LEn 4 L1 L2) : Pm n (fun k => x_operate k 0 L1 σ1) (fun k => x_operate k 0 L2 σ2) (KQ h1 h2 8204) := by
  have ka := kdN_6 hS1 ha1
  have kb := kdN_6 hS1 hb1
  have ee : σ1.1 56 = 0 ↔ σ2.1 56 = 0 := by rw [e1, e2]
  have wk : ∀ (m : Nat) (M1 M2 : Nat → Int32), Pm m (fun k => x_wrongKind k 0 M1 σ1) (fun k => x_wrongKind k 0 M2 σ2) (KQ h1 h2 8204) := fun m M1 M2 => k_wrongKind hS1 hS2 M1 M2
  have cmp : ∀ (m : Nat) (M1 M2 : Nat → Int32), M1 1 = nI a1 → M1 2 = nI b1 → M2 1 = nI a2 → M2 2 = nI b2 → Pm m (fun k => x_compare k 0 M1 σ1) (fun k => x_compare k 0 M2 σ2) (fun r1 r2 => r1.1 = r2.1 ∧ r1.2 = σ1 ∧ r2.2 = σ2) := fun m M1 M2 x1 x2 y1 y2 => k_compare hS1 hS2 ha1 hb1 ha2 hb2 va vb x1 x2 y1 y2
  have tru : ∀ (m : Nat) (M1 M2 : Nat → Int32), M1 1 = M2 1 → Pm m (fun k => x_truth k 0 M1 σ1) (fun k => x_truth k 0 M2 σ2) (KQ h1 h2 8204) := fun m M1 M2 h => Pm_mono (k_truth hS1 hS2 ee h) (fun r1 r2 hr => hr.1)
  have z7 : ∀ (m : Nat) (M1 M2 : Nat → Int32) (r1 r2 : Int32 × MS), M1 100 = r1.1 → M2 100 = r2.1 → KQ h1 h2 8204 r1 r2 → Pm m (fun k => x_operate k 7 M1 r1.2) (fun k => x_operate k 7 M2 r2.2) (KQ h1 h2 8204) := fun m M1 M2 r1 r2 u1 u2 hr => by
    refine Pm_suc rfl (fun k => by rw [x_operate]) (fun k => by rw [x_operate]) (fun m3 _ => ?_)
    rw [u1, u2]
    exact Pm_some hr
  have z13 : ∀ (m : Nat) (M1 M2 : Nat → Int32) (r1 r2 : Int32 × MS), M1 100 = r1.1 → M2 100 = r2.1 → KQ h1 h2 8204 r1 r2 → Pm m (fun k => x_operate k 13 M1 r1.2) (fun k => x_operate k 13 M2 r2.2) (KQ h1 h2 8204) := fun m M1 M2 r1 r2 u1 u2 hr => by
    refine Pm_suc rfl (fun k => by rw [x_operate]) (fun k => by rw [x_operate]) (fun m3 _ => ?_)
    rw [u1, u2]
    exact Pm_some hr
  have z16 : ∀ (m : Nat) (M1 M2 : Nat → Int32) (r1 r2 : Int32 × MS), M1 100 = r1.1 → M2 100 = r2.1 → KQ h1 h2 8204 r1 r2 → Pm m (fun k => x_operate k 16 M1 r1.2) (fun k => x_operate k 16 M2 r2.2) (KQ h1 h2 8204) := fun m M1 M2 r1 r2 u1 u2 hr => by
    refine Pm_suc rfl (fun k => by rw [x_operate]) (fun k => by rw [x_operate]) (fun m3 _ => ?_)
    rw [u1, u2]
    exact Pm_some hr
  have z25 : ∀ (m : Nat) (M1 M2 : Nat → Int32) (r1 r2 : Int32 × MS), M1 100 = r1.1 → M2 100 = r2.1 → KQ h1 h2 8204 r1 r2 → Pm m (fun k => x_operate k 25 M1 r1.2) (fun k => x_operate k 25 M2 r2.2) (KQ h1 h2 8204) := fun m M1 M2 r1 r2 u1 u2 hr => by
    refine Pm_suc rfl (fun k => by rw [x_operate]) (fun k => by rw [x_operate]) (fun m3 _ => ?_)
    rw [u1, u2]
    exact Pm_some hr
  have z28 : ∀ (m : Nat) (M1 M2 : Nat → Int32) (r1 r2 : Int32 × MS), M1 100 = r1.1 → M2 100 = r2.1 → KQ h1 h2 8204 r1 r2 → Pm m (fun k => x_operate k 28 M1 r1.2) (fun k => x_operate k 28 M2 r2.2) (KQ h1 h2 8204) := fun m M1 M2 r1 r2 u1 u2 hr => by
    refine Pm_suc rfl (fun k => by rw [x_operate]) (fun k => by rw [x_operate]) (fun m3 _ => ?_)
    rw [u1, u2]
    exact Pm_some hr
  have z35 : ∀ (m : Nat) (M1 M2 : Nat → Int32) (r1 r2 : Int32 × MS), M1 100 = r1.1 → M2 100 = r2.1 → KQ h1 h2 8204 r1 r2 → Pm m (fun k => x_operate k 35 M1 r1.2) (fun k => x_operate k 35 M2 r2.2) (KQ h1 h2 8204) := fun m M1 M2 r1 r2 u1 u2 hr => by
    refine Pm_suc rfl (fun k => by rw [x_operate]) (fun k => by rw [x_operate]) (fun m3 _ => ?_)
    rw [u1, u2]
    exact Pm_some hr
  have w6 : ∀ (m : Nat) (M1 M2 : Nat → Int32), Pm m (fun k => x_operate k 6 M1 σ1) (fun k => x_operate k 6 M2 σ2) (KQ h1 h2 8204) := fun m M1 M2 => by
    refine Pm_suc rfl (fun k => by rw [x_operate]) (fun k => by rw [x_operate]) (fun m3 _ => ?_)
    exact Pm_ob (wk m3 _ _) (fun r1 r2 hr => z7 m3 _ _ r1 r2 rfl rfl hr)
  have w12 : ∀ (m : Nat) (M1 M2 : Nat → Int32), Pm m (fun k => x_operate k 12 M1 σ1) (fun k => x_operate k 12 M2 σ2) (KQ h1 h2 8204) := fun m M1 M2 => by
    refine Pm_suc rfl (fun k => by rw [x_operate]) (fun k => by rw [x_operate]) (fun m3 _ => ?_)
    exact Pm_ob (wk m3 _ _) (fun r1 r2 hr => z13 m3 _ _ r1 r2 rfl rfl hr)
  have w15 : ∀ (m : Nat) (M1 M2 : Nat → Int32), Pm m (fun k => x_operate k 15 M1 σ1) (fun k => x_operate k 15 M2 σ2) (KQ h1 h2 8204) := fun m M1 M2 => by
    refine Pm_suc rfl (fun k => by rw [x_operate]) (fun k => by rw [x_operate]) (fun m3 _ => ?_)
    exact Pm_ob (wk m3 _ _) (fun r1 r2 hr => z16 m3 _ _ r1 r2 rfl rfl hr)
  have w24 : ∀ (m : Nat) (M1 M2 : Nat → Int32), Pm m (fun k => x_operate k 24 M1 σ1) (fun k => x_operate k 24 M2 σ2) (KQ h1 h2 8204) := fun m M1 M2 => by
    refine Pm_suc rfl (fun k => by rw [x_operate]) (fun k => by rw [x_operate]) (fun m3 _ => ?_)
    exact Pm_ob (wk m3 _ _) (fun r1 r2 hr => z25 m3 _ _ r1 r2 rfl rfl hr)
  have w27 : ∀ (m : Nat) (M1 M2 : Nat → Int32), Pm m (fun k => x_operate k 27 M1 σ1) (fun k => x_operate k 27 M2 σ2) (KQ h1 h2 8204) := fun m M1 M2 => by
    refine Pm_suc rfl (fun k => by rw [x_operate]) (fun k => by rw [x_operate]) (fun m3 _ => ?_)
    exact Pm_ob (wk m3 _ _) (fun r1 r2 hr => z28 m3 _ _ r1 r2 rfl rfl hr)
  have w34 : ∀ (m : Nat) (M1 M2 : Nat → Int32), Pm m (fun k => x_operate k 34 M1 σ1) (fun k => x_operate k 34 M2 σ2) (KQ h1 h2 8204) := fun m M1 M2 => by
    refine Pm_suc rfl (fun k => by rw [x_operate]) (fun k => by rw [x_operate]) (fun m3 _ => ?_)
    exact Pm_ob (wk m3 _ _) (fun r1 r2 hr => z35 m3 _ _ r1 r2 rfl rfl hr)
  have q19 : ∀ (m : Nat) (M1 M2 : Nat → Int32), M1 100 = M2 100 → Pm m (fun k => x_operate k 19 M1 σ1) (fun k => x_operate k 19 M2 σ2) (KQ h1 h2 8204) := fun m M1 M2 h => by
    refine Pm_suc rfl (fun k => by rw [x_operate]) (fun k => by rw [x_operate]) (fun m3 _ => ?_)
    exact Pm_ob (tru m3 _ _ (by exact h)) (fun r1 r2 hr => Pm_some hr)
  have q22 : ∀ (m : Nat) (M1 M2 : Nat → Int32), M1 100 = M2 100 → Pm m (fun k => x_operate k 22 M1 σ1) (fun k => x_operate k 22 M2 σ2) (KQ h1 h2 8204) := fun m M1 M2 h => by
    refine Pm_suc rfl (fun k => by rw [x_operate]) (fun k => by rw [x_operate]) (fun m3 _ => ?_)
    exact Pm_ob (tru m3 _ _ (by exact h)) (fun r1 r2 hr => Pm_some hr)
  have q32 : ∀ (m : Nat) (M1 M2 : Nat → Int32), M1 100 = M2 100 → Pm m (fun k => x_operate k 32 M1 σ1) (fun k => x_operate k 32 M2 σ2) (KQ h1 h2 8204) := fun m M1 M2 h => by
    refine Pm_suc rfl (fun k => by rw [x_operate]) (fun k => by rw [x_operate]) (fun m3 _ => ?_)
    exact Pm_ob (tru m3 _ _ (by exact h)) (fun r1 r2 hr => Pm_some hr)
  have q46 : ∀ (m : Nat) (M1 M2 : Nat → Int32), M1 100 = M2 100 → Pm m (fun k => x_operate k 46 M1 σ1) (fun k => x_operate k 46 M2 σ2) (KQ h1 h2 8204) := fun m M1 M2 h => by
    refine Pm_suc rfl (fun k => by rw [x_operate]) (fun k => by rw [x_operate]) (fun m3 _ => ?_)
    exact Pm_ob (tru m3 _ _ (by exact h)) (fun r1 r2 hr => Pm_some hr)
  have p18 : ∀ (m : Nat) (M1 M2 : Nat → Int32), Pm m (fun k => x_operate k 18 M1 σ1) (fun k => x_operate k 18 M2 σ2) (KQ h1 h2 8204) := fun m M1 M2 => by
    refine Pm_suc rfl (fun k => by rw [x_operate]) (fun k => by rw [x_operate]) (fun m3 _ => ?_)
    exact q19 m3 _ _ rfl
  have p21 : ∀ (m : Nat) (M1 M2 : Nat → Int32), Pm m (fun k => x_operate k 21 M1 σ1) (fun k => x_operate k 21 M2 σ2) (KQ h1 h2 8204) := fun m M1 M2 => by
    refine Pm_suc rfl (fun k => by rw [x_operate]) (fun k => by rw [x_operate]) (fun m3 _ => ?_)
    exact q22 m3 _ _ rfl
  have p31 : ∀ (m : Nat) (M1 M2 : Nat → Int32), Pm m (fun k => x_operate k 31 M1 σ1) (fun k => x_operate k 31 M2 σ2) (KQ h1 h2 8204) := fun m M1 M2 => by
    refine Pm_suc rfl (fun k => by rw [x_operate]) (fun k => by rw [x_operate]) (fun m3 _ => ?_)
    exact q32 m3 _ _ rfl
  have p39 : ∀ (m : Nat) (M1 M2 : Nat → Int32), Pm m (fun k => x_operate k 39 M1 σ1) (fun k => x_operate k 39 M2 σ2) (KQ h1 h2 8204) := fun m M1 M2 => by
    refine Pm_suc rfl (fun k => by rw [x_operate]) (fun k => by rw [x_operate]) (fun m3 _ => ?_)
    exact q46 m3 _ _ rfl
  have p41 : ∀ (m : Nat) (M1 M2 : Nat → Int32), Pm m (fun k => x_operate k 41 M1 σ1) (fun k => x_operate k 41 M2 σ2) (KQ h1 h2 8204) := fun m M1 M2 => by
    refine Pm_suc rfl (fun k => by rw [x_operate]) (fun k => by rw [x_operate]) (fun m3 _ => ?_)
    exact q46 m3 _ _ rfl
  have p43 : ∀ (m : Nat) (M1 M2 : Nat → Int32), Pm m (fun k => x_operate k 43 M1 σ1) (fun k => x_operate k 43 M2 σ2) (KQ h1 h2 8204) := fun m M1 M2 => by
    refine Pm_suc rfl (fun k => by rw [x_operate]) (fun k => by rw [x_operate]) (fun m3 _ => ?_)
    exact q46 m3 _ _ rfl
  have p45 : ∀ (m : Nat) (M1 M2 : Nat → Int32), Pm m (fun k => x_operate k 45 M1 σ1) (fun k => x_operate k 45 M2 σ2) (KQ h1 h2 8204) := fun m M1 M2 => by
    refine Pm_suc rfl (fun k => by rw [x_operate]) (fun k => by rw [x_operate]) (fun m3 _ => ?_)
    exact q46 m3 _ _ rfl
  have wh : kdN (σ1.2.2 28) a1 = 2 → kdN (σ1.2.2 28) b1 = 2 → (∃ p, WhE σ1 σ2 a1 a2 p) ∧ ∃ q, WhE σ1 σ2 b1 b2 q := fun k1 k2 => ⟨WhE_of hS1 hS2 ha1 ha2 va k1, WhE_of hS1 hS2 hb1 hb2 vb k2⟩
  have ob2 : 3 ≤ kdN (σ1.2.2 28) a1 → 3 ≤ kdN (σ1.2.2 28) b1 → ∃ k p k' q, OE g1 g2 (σ1.2.2 28) (σ2.2.2 28) a1 a2 k p ∧ OE g1 g2 (σ1.2.2 28) (σ2.2.2 28) b1 b2 k' q ∧ k = kdN (σ1.2.2 28) a1 ∧ k' = kdN (σ1.2.2 28) b1 := fun h1' h2' => by
    obtain ⟨k, p, hA⟩ := OE_of hS1 hS2 (kdN_ge hS1 ha1 (by omega)) ha2 va
    obtain ⟨k', q, hB⟩ := OE_of hS1 hS2 (kdN_ge hS1 hb1 (by omega)) hb2 vb
    exact ⟨k, p, k', q, hA, hB, hA.2.2.2.2.2.2.1.symm, hB.2.2.2.2.2.2.1.symm⟩
  -- the operator
  have opr2 : ∀ (m : Nat) (N1 N2 : Nat → Int32), LEn 4 N1 N2 → N1 1 = N2 1 → N1 2 = nI a1 → N1 3 = nI b1 → N2 2 = nI a2 → N2 3 = nI b2 → N1 4 = nI (kdN (σ1.2.2 28) a1) → N1 5 = nI (kdN (σ1.2.2 28) b1) → (¬ N1 100 = 0 → kdN (σ1.2.2 28) a1 = 2 ∧ kdN (σ1.2.2 28) b1 = 2) → Pm m (fun k => x_operate k 2 N1 σ1) (fun k => x_operate k 2 N2 σ2) (KQ h1 h2 8204) := by
    intro m N1 N2 hN x0 x2 x3 y2 y3 x4 x5 hw
    generalize hM1 : upd N1 6 (N1 100) = M1
    generalize hM2 : upd N2 6 (N2 100) = M2
    have hM : LEn 4 M1 M2 := by rw [← hM1, ← hM2]; exact LEn_u hN (hN 100 (by omega))
    have m0 : M1 1 = M2 1 := by rw [← hM1, ← hM2]; exact x0
    have m2 : M1 2 = nI a1 := by rw [← hM1]; exact x2
    have m3 : M1 3 = nI b1 := by rw [← hM1]; exact x3
    have v2 : M2 2 = nI a2 := by rw [← hM2]; exact y2
    have v3 : M2 3 = nI b2 := by rw [← hM2]; exact y3
    have m4 : M1 4 = nI (kdN (σ1.2.2 28) a1) := by rw [← hM1]; exact x4
    have m5 : M1 5 = nI (kdN (σ1.2.2 28) b1) := by rw [← hM1]; exact x5
    have v4 : M2 4 = nI (kdN (σ1.2.2 28) a1) := (hM 4 (by omega)).symm.trans m4
    have v5 : M2 5 = nI (kdN (σ1.2.2 28) b1) := (hM 5 (by omega)).symm.trans m5
    have mw : ¬ M1 6 = 0 → kdN (σ1.2.2 28) a1 = 2 ∧ kdN (σ1.2.2 28) b1 = 2 := by rw [← hM1]; exact hw
    have i6 : M1 6 = 0 ↔ M2 6 = 0 := by rw [hM 6 (by omega)]
    have E6a : nI (kdN (σ1.2.2 28) a1) = 6 → kdN (σ1.2.2 28) a1 = 6 := (n_eq (q := 6) (by omega) (by decide)).mp
    have E6b : nI (kdN (σ1.2.2 28) b1) = 6 → kdN (σ1.2.2 28) b1 = 6 := (n_eq (q := 6) (by omega) (by decide)).mp
    have E4a : nI (kdN (σ1.2.2 28) a1) = 4 → kdN (σ1.2.2 28) a1 = 4 := (n_eq (q := 4) (by omega) (by decide)).mp
    have E5a : nI (kdN (σ1.2.2 28) a1) = 5 → kdN (σ1.2.2 28) a1 = 5 := (n_eq (q := 5) (by omega) (by decide)).mp
    have E2b : nI (kdN (σ1.2.2 28) b1) = 2 → kdN (σ1.2.2 28) b1 = 2 := (n_eq (q := 2) (by omega) (by decide)).mp
    have S := fun {m : Nat} {b : Nat} (h : Pm m (fun k => x_operate k b M1 σ1) (fun k => x_operate k b M2 σ2) (KQ h1 h2 8204)) => h
    -- minus, times on sets
    have sf : kdN (σ1.2.2 28) a1 = 6 → kdN (σ1.2.2 28) b1 = 6 → ∀ (m' : Nat) (z : Int32), Pm m' (fun k => x_sift k 0 (upd (upd (upd (fun _ => 0) 1 (nI a1)) 2 (nI b1)) 3 z) σ1) (fun k => x_sift k 0 (upd (upd (upd (fun _ => 0) 1 (nI a2)) 2 (nI b2)) 3 z) σ2) (KQ h1 h2 8204) := fun q1 q2 m' z => by
      obtain ⟨k, p, k', q, hA, hB, ek, ek'⟩ := ob2 (by omega) (by omega)
      exact Pm_mono (k_sift hS1 hS2 e1 e2 t1 t2 (by omega) (by omega) (by omega) hA (by omega) hB (by omega) rfl rfl rfl rfl LE3_a) (fun r1 r2 hr => KQ_mo hr (by omega))
    have c3 : ∀ m', Pm m' (fun k => x_operate k 3 M1 σ1) (fun k => x_operate k 3 M2 σ2) (KQ h1 h2 8204) := fun m' => by
      refine Pm_suc rfl (fun k => by rw [x_operate]) (fun k => by rw [x_operate]) (fun k1 _ => ?_)
      exact Pm_ob (k_plus hS1 hS2 e1 e2 t1 t2 (by omega) (by omega) (by omega) ha1 ha2 va hb1 hb2 vb (by exact m2) (by exact m3) (by exact v2) (by exact v3) LE3_b) (fun r1 r2 hr => Pm_some (KQ_mo hr (by omega)))
    have c4 : ∀ m', Pm m' (fun k => x_operate k 4 M1 σ1) (fun k => x_operate k 4 M2 σ2) (KQ h1 h2 8204) := fun m' => by
      refine Pm_suc rfl (fun k => by rw [x_operate]) (fun k => by rw [x_operate]) (fun k1 _ => ?_)
      refine Pm_ite i6 (fun _ _ => ?_) (fun z _ => ?_)
      · refine Pm_suc rfl (fun k => by rw [x_operate]) (fun k => by rw [x_operate]) (fun k2 _ => ?_)
        rw [m4, v4, m5, v5, m2, m3, v2, v3]
        refine Pm_ite Iff.rfl (fun q1 _ => ?_) (fun _ _ => w6 k2 _ _)
        refine Pm_ite Iff.rfl (fun q2 _ => ?_) (fun _ _ => w6 k2 _ _)
        exact Pm_ob (sf (E6a q1) (E6b q2) k2 0) (fun r1 r2 hr => z7 k2 _ _ r1 r2 rfl rfl hr)
      · obtain ⟨q1, q2⟩ := mw z
        obtain ⟨⟨p, hA⟩, ⟨q, hB⟩⟩ := wh q1 q2
        exact Pm_ob (k_add hS1 hS2 e1 e2 (by omega) (by omega) hA hB (by exact m2) (by exact m3) (by exact v2) (by exact v3) LE3_a) (fun r1 r2 hr => Pm_some (KQ_mo hr (by omega)))
    have c10 : ∀ m', Pm m' (fun k => x_operate k 10 M1 σ1) (fun k => x_operate k 10 M2 σ2) (KQ h1 h2 8204) := fun m' => by
      have c11 : (kdN (σ1.2.2 28) a1 = 4 ∨ kdN (σ1.2.2 28) a1 = 5) → ∀ m2', Pm m2' (fun k => x_operate k 11 M1 σ1) (fun k => x_operate k 11 M2 σ2) (KQ h1 h2 8204) := fun hk m2' => by
        refine Pm_suc rfl (fun k => by rw [x_operate]) (fun k => by rw [x_operate]) (fun k1 _ => ?_)
        rw [m5, v5]
        refine Pm_ite Iff.rfl (fun q1 _ => ?_) (fun _ _ => w12 k1 _ _)
        obtain ⟨k, p, hA⟩ := OE_of hS1 hS2 (kdN_ge hS1 ha1 (by omega)) ha2 va
        obtain ⟨q, hB⟩ := WhE_of hS1 hS2 hb1 hb2 vb (E2b q1)
        have ek := hA.2.2.2.2.2.2.1
        exact Pm_ob (k_repeat hS1 hS2 e1 e2 t1 t2 hf hr1 hr2 hA (by omega) hB (by exact m2) (by exact m3) (by exact v2) (by exact v3) LE3_b) (fun r1 r2 hr => z13 k1 _ _ r1 r2 rfl rfl hr)
      refine Pm_suc rfl (fun k => by rw [x_operate]) (fun k => by rw [x_operate]) (fun k1 _ => ?_)
      rw [m4, v4]
      refine Pm_ite Iff.rfl (fun q1 _ => c11 (Or.inl (E4a q1)) k1) (fun _ _ => ?_)
      exact Pm_ite Iff.rfl (fun q1 _ => c11 (Or.inr (E5a q1)) k1) (fun _ _ => w12 k1 _ _)
    have c8 : ∀ m', Pm m' (fun k => x_operate k 8 M1 σ1) (fun k => x_operate k 8 M2 σ2) (KQ h1 h2 8204) := fun m' => by
      refine Pm_suc rfl (fun k => by rw [x_operate]) (fun k => by rw [x_operate]) (fun k1 _ => ?_)
      refine Pm_ite i6 (fun _ _ => ?_) (fun z _ => ?_)
      · refine Pm_suc rfl (fun k => by rw [x_operate]) (fun k => by rw [x_operate]) (fun k2 _ => ?_)
        rw [m4, v4, m5, v5, m2, m3, v2, v3]
        refine Pm_ite Iff.rfl (fun q1 _ => ?_) (fun _ _ => c10 k2)
        refine Pm_ite Iff.rfl (fun q2 _ => ?_) (fun _ _ => c10 k2)
        exact Pm_ob (sf (E6a q1) (E6b q2) k2 1) (fun r1 r2 hr => Pm_some hr)
      · obtain ⟨q1, q2⟩ := mw z
        obtain ⟨⟨p, hA⟩, ⟨q, hB⟩⟩ := wh q1 q2
        exact Pm_ob (k_multiply hS1 hS2 e1 e2 (by omega) (by omega) hA hB (by exact m2) (by exact m3) (by exact v2) (by exact v3)) (fun r1 r2 hr => Pm_some (KQ_mo hr (by omega)))
    have c14 : ∀ m', Pm m' (fun k => x_operate k 14 M1 σ1) (fun k => x_operate k 14 M2 σ2) (KQ h1 h2 8204) := fun m' => by
      refine Pm_suc rfl (fun k => by rw [x_operate]) (fun k => by rw [x_operate]) (fun k1 _ => ?_)
      refine Pm_ite i6 (fun _ _ => w15 k1 _ _) (fun z _ => ?_)
      obtain ⟨q1, q2⟩ := mw z
      obtain ⟨⟨p, hA⟩, ⟨q, hB⟩⟩ := wh q1 q2
      exact Pm_ob (k_raise hS1 hS2 e1 e2 (by omega) (by omega) hA hB va (by exact m2) (by exact m3) (by exact v2) (by exact v3) LE3_b) (fun r1 r2 hr => z16 k1 _ _ r1 r2 rfl rfl (KQ_mo hr (by omega)))
    have c23 : ∀ m', Pm m' (fun k => x_operate k 23 M1 σ1) (fun k => x_operate k 23 M2 σ2) (KQ h1 h2 8204) := fun m' => by
      refine Pm_suc rfl (fun k => by rw [x_operate]) (fun k => by rw [x_operate]) (fun k1 _ => ?_)
      refine Pm_ite i6 (fun _ _ => w24 k1 _ _) (fun z _ => ?_)
      obtain ⟨q1, q2⟩ := mw z
      obtain ⟨⟨p, hA⟩, ⟨q, hB⟩⟩ := wh q1 q2
      exact Pm_ob (k_divide hS1 hS2 e1 e2 (by omega) (by omega) hA hB (by exact m2) (by exact m3) (by exact v2) (by exact v3) LE3_a) (fun r1 r2 hr => z25 k1 _ _ r1 r2 rfl rfl (KQ_mo hr (by omega)))
    have c26 : ∀ m', Pm m' (fun k => x_operate k 26 M1 σ1) (fun k => x_operate k 26 M2 σ2) (KQ h1 h2 8204) := fun m' => by
      refine Pm_suc rfl (fun k => by rw [x_operate]) (fun k => by rw [x_operate]) (fun k1 _ => ?_)
      refine Pm_ite i6 (fun _ _ => w27 k1 _ _) (fun z _ => ?_)
      obtain ⟨q1, q2⟩ := mw z
      obtain ⟨⟨p, hA⟩, ⟨q, hB⟩⟩ := wh q1 q2
      exact Pm_ob (k_divide hS1 hS2 e1 e2 (by omega) (by omega) hA hB (by exact m2) (by exact m3) (by exact v2) (by exact v3) LE3_a) (fun r1 r2 hr => z28 k1 _ _ r1 r2 rfl rfl (KQ_mo hr (by omega)))
    have c17 : ∀ m', Pm m' (fun k => x_operate k 17 M1 σ1) (fun k => x_operate k 17 M2 σ2) (KQ h1 h2 8204) := fun m' => by
      refine Pm_suc rfl (fun k => by rw [x_operate]) (fun k => by rw [x_operate]) (fun k1 _ => ?_)
      refine Pm_ob (cmp k1 _ _ (by exact m2) (by exact m3) (by exact v2) (by exact v3)) (fun r1 r2 hr => ?_)
      rw [hr.1, hr.2.1, hr.2.2]
      exact Pm_ite Iff.rfl (fun _ _ => q19 k1 _ _ rfl) (fun _ _ => p18 k1 _ _)
    have c20 : ∀ m', Pm m' (fun k => x_operate k 20 M1 σ1) (fun k => x_operate k 20 M2 σ2) (KQ h1 h2 8204) := fun m' => by
      refine Pm_suc rfl (fun k => by rw [x_operate]) (fun k => by rw [x_operate]) (fun k1 _ => ?_)
      refine Pm_ob (cmp k1 _ _ (by exact m2) (by exact m3) (by exact v2) (by exact v3)) (fun r1 r2 hr => ?_)
      rw [hr.1, hr.2.1, hr.2.2]
      exact Pm_ite Iff.rfl (fun _ _ => p21 k1 _ _) (fun _ _ => q22 k1 _ _ rfl)
    have c29 : ∀ m', Pm m' (fun k => x_operate k 29 M1 σ1) (fun k => x_operate k 29 M2 σ2) (KQ h1 h2 8204) := fun m' => by
      refine Pm_suc rfl (fun k => by rw [x_operate]) (fun k => by rw [x_operate]) (fun k1 _ => ?_)
      exact Pm_ob (k_isIn (K := 8204) hS1 hS2 ee ha1 ha2 va hb1 hb2 vb (by exact m2) (by exact m3) (by exact v2) (by exact v3) LE3_b) (fun r1 r2 hr => Pm_some hr.1)
    have c30 : ∀ m', Pm m' (fun k => x_operate k 30 M1 σ1) (fun k => x_operate k 30 M2 σ2) (KQ h1 h2 8204) := fun m' => by
      refine Pm_suc rfl (fun k => by rw [x_operate]) (fun k => by rw [x_operate]) (fun k1 _ => ?_)
      refine Pm_ob (Pm_un (s_isIn (t := f) ⟨hS1, t1, by omega, ⟨0, e1, by decide⟩⟩ hb1 ha1 (by exact m2) (by exact m3)) (fun k => f_isIn k _ _ _) (s_isIn (t := f) ⟨hS2, t2, by omega, ⟨0, e2, by decide⟩⟩ hb2 ha2 (by exact v2) (by exact v3)) (fun k => f_isIn k _ _ _) (k_isIn (K := 8204) hS1 hS2 ee ha1 ha2 va hb1 hb2 vb (by exact m2) (by exact m3) (by exact v2) (by exact v3) LE3_b)) (fun r1 r2 hr => ?_)
      obtain ⟨⟨hK, hq⟩, ⟨ga, la, ha, u1, _⟩, ⟨gb, lb, hb, u2, _⟩⟩ := hr
      obtain ⟨k1', k2', p1, p2, p3, p4, p5, p6⟩ := hK
      -- the truth of it
      have tt : ∀ (m2' : Nat) (O1 O2 : Nat → Int32), (r1.2.1 56 = 0 → O1 100 = O2 100) → Pm m2' (fun k => x_operate k 32 O1 r1.2) (fun k => x_operate k 32 O2 r2.2) (KQ h1 h2 8204) := fun m2' O1 O2 hO => by
        refine Pm_suc rfl (fun k => by rw [x_operate]) (fun k => by rw [x_operate]) (fun k2 _ => ?_)
        have eh1 : ha = p1 := (n_eq (by have := HS_b u1.1; omega) (by have := hS1.2.1; omega)).mp (u1.1.2.2.1.symm.trans p3)
        have eh2 : hb = p2 := (n_eq (by have := HS_b u2.1; omega) (by have := hS2.2.1; omega)).mp (u2.1.2.2.1.symm.trans p4)
        by_cases z : r1.2.1 56 = 0
        · refine Pm_ob (k_truth (K := 0) u1.1 u2.1 k1' (by exact hO z)) (fun s1 s2 hs => Pm_some ?_)
          obtain ⟨⟨y1, y2, y3, y4, y5, y6, y7, y8⟩, _⟩ := hs
          exact ⟨y1, y2, y3, y4, y5, y6, by omega, by omega⟩
        · refine Pm_ob (Pm_t2 (s_truth _) (fun k => f_truth k _ _ _) (s_truth _) (fun k => f_truth k _ _ _)) (fun s1 s2 hs => Pm_some ?_)
          obtain ⟨⟨y1, _⟩, ⟨y2, _⟩⟩ := hs
          refine ⟨?_, ?_, p1, p2, ?_, ?_, p5, p6⟩
          · show s1.2.1 56 = 0 ↔ s2.2.1 56 = 0
            rw [y1, y2]; exact k1'
          · intro w
            have w : s1.2.1 56 = 0 := w
            rw [y1] at w; exact absurd w z
          · show s1.2.1 55 = _
            rw [y1]; exact p3
          · show s2.2.1 55 = _
            rw [y2]; exact p4
      have t31 : ∀ (m2' : Nat) (O1 O2 : Nat → Int32), Pm m2' (fun k => x_operate k 31 O1 r1.2) (fun k => x_operate k 31 O2 r2.2) (KQ h1 h2 8204) := fun m2' O1 O2 => by
        refine Pm_suc rfl (fun k => by rw [x_operate]) (fun k => by rw [x_operate]) (fun k2 _ => ?_)
        exact tt k2 _ _ (fun _ => rfl)
      by_cases z : r1.2.1 56 = 0
      case neg =>
        have z2 : ¬ r2.2.1 56 = 0 := fun w => z (k1'.mpr w)
        -- each side alone: the error stays, the heap too
        have al : ∀ (ρ : MS) (O : Nat → Int32) (m2' : Nat), Um m2' (fun k => x_operate k 32 O ρ) (fun r => r.2 = ρ) := fun ρ O m2' => by
          refine Um_suc rfl (fun k => by rw [x_operate]) (fun k2 _ => ?_)
          exact Um_ob (Um_t (s_truth _) (fun k => f_truth k _ _ _)) (fun s hs => Um_some hs.1)
        have al1 : ∀ (ρ : MS) (O : Nat → Int32) (m2' : Nat), Um m2' (fun k => x_operate k 31 O ρ) (fun r => r.2 = ρ) := fun ρ O m2' => by
          refine Um_suc rfl (fun k => by rw [x_operate]) (fun k2 _ => ?_)
          exact al ρ _ k2
        have fi : ∀ (s1 s2 : Int32 × MS), s1.2 = r1.2 ∧ s2.2 = r2.2 → KQ h1 h2 8204 s1 s2 := fun s1 s2 hs => ⟨by rw [hs.1, hs.2]; exact k1', fun w => absurd (by rw [← hs.1]; exact w) z, p1, p2, by rw [hs.1]; exact p3, by rw [hs.2]; exact p4, p5, p6⟩
        exact Pm_ite4 (fun _ _ => Pm_mono (Pm_u2 (al _ _ k1) (al _ _ k1)) fi) (fun _ _ => Pm_mono (Pm_u2 (al _ _ k1) (al1 _ _ k1)) fi) (fun _ _ => Pm_mono (Pm_u2 (al1 _ _ k1) (al _ _ k1)) fi) (fun _ _ => Pm_mono (Pm_u2 (al1 _ _ k1) (al1 _ _ k1)) fi)
      · rw [hq z]
        exact Pm_ite Iff.rfl (fun _ _ => tt k1 _ _ (fun _ => rfl)) (fun _ _ => t31 k1 _ _)
    have c33 : ∀ m', Pm m' (fun k => x_operate k 33 M1 σ1) (fun k => x_operate k 33 M2 σ2) (KQ h1 h2 8204) := fun m' => by
      refine Pm_suc rfl (fun k => by rw [x_operate]) (fun k => by rw [x_operate]) (fun k1 _ => ?_)
      rw [m4, v4, m5, v5]
      refine Pm_ite Iff.rfl (fun q1 _ => ?_) (fun _ _ => w34 k1 _ _)
      refine Pm_ite Iff.rfl (fun q2 _ => ?_) (fun _ _ => w34 k1 _ _)
      have q1 := E6a q1
      have q2 := E6b q2
      obtain ⟨k, p, k', q, hA, hB, ek, ek'⟩ := ob2 (by omega) (by omega)
      have hk2a := hA.2.2.2.2.2.2.2.1
      have hk2b := hB.2.2.2.2.2.2.2.1
      refine Pm_ob (Pm_un (s_isSubset hS1 hA.1 (by omega) hB.1 (by omega) (by exact m2) (by exact m3)) (fun k => f_isSubset k _ _ _) (s_isSubset hS2 hA.2.1 (by omega) hB.2.1 (by omega) (by exact v2) (by exact v3)) (fun k => f_isSubset k _ _ _) (k_isSubset hS1 hS2 hA (by omega) hB (by omega) (by exact m2) (by exact m3) (by exact v2) (by exact v3) LE3_b)) (fun r1 r2 hr => ?_)
      obtain ⟨u0, ⟨u1, _⟩, ⟨u2, _⟩⟩ := hr
      rw [u0, u1, u2]
      exact Pm_ob (tru k1 _ _ rfl) (fun s1 s2 hs => z35 k1 _ _ s1 s2 rfl rfl hs)
    have c38 : ∀ m', Pm m' (fun k => x_operate k 38 M1 σ1) (fun k => x_operate k 38 M2 σ2) (KQ h1 h2 8204) := fun m' => by
      refine Pm_suc rfl (fun k => by rw [x_operate]) (fun k => by rw [x_operate]) (fun k1 _ => ?_)
      refine Pm_ob (cmp k1 _ _ (by exact m2) (by exact m3) (by exact v2) (by exact v3)) (fun r1 r2 hr => ?_)
      rw [hr.1, hr.2.1, hr.2.2, m0]
      generalize r2.1 = c
      refine Pm_ite Iff.rfl (fun _ _ => Pm_ite Iff.rfl (fun _ _ => p39 k1 _ _) (fun _ _ => q46 k1 _ _ rfl)) (fun _ _ => ?_)
      refine Pm_suc rfl (fun k => by rw [x_operate]) (fun k => by rw [x_operate]) (fun k2 _ => ?_)
      refine Pm_ite (by show M1 1 = 20 ↔ M2 1 = 20; rw [m0]) (fun _ _ => Pm_ite Iff.rfl (fun _ _ => p41 k2 _ _) (fun _ _ => q46 k2 _ _ rfl)) (fun _ _ => ?_)
      refine Pm_suc rfl (fun k => by rw [x_operate]) (fun k => by rw [x_operate]) (fun k3 _ => ?_)
      refine Pm_ite (by show M1 1 = 21 ↔ M2 1 = 21; rw [m0]) (fun _ _ => Pm_ite Iff.rfl (fun _ _ => p43 k3 _ _) (fun _ _ => q46 k3 _ _ rfl)) (fun _ _ => ?_)
      refine Pm_suc rfl (fun k => by rw [x_operate]) (fun k => by rw [x_operate]) (fun k4 _ => ?_)
      exact Pm_ite Iff.rfl (fun _ _ => p45 k4 _ _) (fun _ _ => q46 k4 _ _ rfl)
    have c36 : ∀ m', Pm m' (fun k => x_operate k 36 M1 σ1) (fun k => x_operate k 36 M2 σ2) (KQ h1 h2 8204) := fun m' => by
      have c37 : ∀ m2', Pm m2' (fun k => x_operate k 37 M1 σ1) (fun k => x_operate k 37 M2 σ2) (KQ h1 h2 8204) := fun m2' => by
        refine Pm_suc rfl (fun k => by rw [x_operate]) (fun k => by rw [x_operate]) (fun k1 _ => ?_)
        exact Pm_ob (wk k1 _ _) (fun r1 r2 hr => Pm_some hr)
      refine Pm_suc rfl (fun k => by rw [x_operate]) (fun k => by rw [x_operate]) (fun k1 _ => ?_)
      rw [m4, v4, m5, v5]
      refine Pm_ite i6 (fun _ _ => ?_) (fun _ _ => c38 k1)
      refine Pm_ite Iff.rfl (fun _ _ => ?_) (fun _ _ => c37 k1)
      exact Pm_ite Iff.rfl (fun _ _ => c38 k1) (fun _ _ => c37 k1)
    refine Pm_suc rfl (fun k => by rw [x_operate]) (fun k => by rw [x_operate]) (fun k1 _ => ?_)
    rw [hM1, hM2, x0]
    refine Pm_ite Iff.rfl (fun _ _ => c3 k1) (fun _ _ => ?_)
    refine Pm_ite Iff.rfl (fun _ _ => c4 k1) (fun _ _ => ?_)
    refine Pm_ite Iff.rfl (fun _ _ => c8 k1) (fun _ _ => ?_)
    refine Pm_ite Iff.rfl (fun _ _ => c14 k1) (fun _ _ => ?_)
    refine Pm_ite Iff.rfl (fun _ _ => c17 k1) (fun _ _ => ?_)
    refine Pm_ite Iff.rfl (fun _ _ => c20 k1) (fun _ _ => ?_)
    refine Pm_ite Iff.rfl (fun _ _ => c29 k1) (fun _ _ => ?_)
    refine Pm_ite Iff.rfl (fun _ _ => c30 k1) (fun _ _ => ?_)
    refine Pm_ite Iff.rfl (fun _ _ => c33 k1) (fun _ _ => ?_)
    refine Pm_ite Iff.rfl (fun _ _ => c23 k1) (fun _ _ => ?_)
    refine Pm_ite Iff.rfl (fun _ _ => c26 k1) (fun _ _ => ?_)
    exact c36 k1
  refine Pm_suc rfl (fun k => by rw [x_operate]) (fun k => by rw [x_operate]) (fun m1 _ => ?_)
  refine Pm_ob (Pm_t2 (s_kind hS1 ha1 (by exact d1)) (fun k => f_kind k _ _ _) (s_kind hS2 ha2 (by exact f1)) (fun k => f_kind k _ _ _)) (fun r1 r2 hr => ?_)
  rw [hr.1, hr.2]
  refine Pm_ob (Pm_t2 (s_kind hS1 hb1 (by exact d2)) (fun k => f_kind k _ _ _) (s_kind hS2 hb2 (by exact f2)) (fun k => f_kind k _ _ _)) (fun s1 s2 hs => ?_)
  rw [hs.1, hs.2, (EVb_sz va).2.2, (EVb_sz vb).2.2]
  have hL5 : LEn 4 (upd (upd L1 4 (nI (kdN (σ1.2.2 28) a1))) 5 (nI (kdN (σ1.2.2 28) b1))) (upd (upd L2 4 (nI (kdN (σ1.2.2 28) a1))) 5 (nI (kdN (σ1.2.2 28) b1))) := LEn_u (LEn_u hL rfl) rfl
  have b1' : ∀ m', Pm m' (fun k => x_operate k 1 (upd (upd L1 4 (nI (kdN (σ1.2.2 28) a1))) 5 (nI (kdN (σ1.2.2 28) b1))) σ1) (fun k => x_operate k 1 (upd (upd L2 4 (nI (kdN (σ1.2.2 28) a1))) 5 (nI (kdN (σ1.2.2 28) b1))) σ2) (KQ h1 h2 8204) := fun m' => by
    refine Pm_suc rfl (fun k => by rw [x_operate]) (fun k => by rw [x_operate]) (fun k1 _ => ?_)
    exact opr2 k1 _ _ (LEn_u hL5 rfl) d0 d1 d2 f1 f2 rfl rfl (fun z => absurd rfl z)
  refine Pm_ite Iff.rfl (fun q1 _ => ?_) (fun _ _ => b1' m1)
  refine Pm_ite Iff.rfl (fun q2 _ => ?_) (fun _ _ => b1' m1)
  have q1 := (n_eq (q := 2) (by omega) (by decide)).mp q1
  have q2 := (n_eq (q := 2) (by omega) (by decide)).mp q2
  exact opr2 m1 _ _ (LEn_u hL5 rfl) d0 d1 d2 f1 f2 rfl rfl (fun _ => ⟨q1, q2⟩)
end KOP
end JnS173
section JnS174
/-! Two runs side by side (reference): members, maps. -/
section KMA
variable {g1 g2 : Nat → Prop} {l1 l2 : List Nat} {B1 h1 B2 h2 n : Nat} {σ1 σ2 : MS}
theorem KQ_VC {K : Nat} {x y : Int32} (hS1 : HS g1 l1 B1 h1 σ1) (hS2 : HS g2 l2 B2 h2 σ2) (e : σ1.1 56 = 0 ↔ σ2.1 56 = 0) (h : VC g1 g2 (σ1.2.2 28) (σ2.2.2 28) x y) : KQ h1 h2 K (x, σ1) (y, σ2) := by
  obtain ⟨a, b, a1, _, b1, _, ev, ab, bb⟩ := h
  rw [a1, b1]
  exact KQ_same hS1 hS2 e ab bb ev
theorem k_byteString (hS1 : HS g1 l1 B1 h1 σ1) (hS2 : HS g2 l2 B2 h2 σ2) (e1 : σ1.1 56 = 0) (e2 : σ2.1 56 = 0) (hr1 : h1 + 5 ≤ B1 + 870000) (hr2 : h2 + 5 ≤ B2 + 870000) {L1 L2 : Nat → Int32} (hL : L1 1 = L2 1) : Pm n (fun k => x_byteString k 0 L1 σ1) (fun k => x_byteString k 0 L2 σ2) (KQ h1 h2 5) := by
  have b1 := HS_b hS1
  have b2 := HS_b hS2
  have x1 := hS1.2.1
  have x2 := hS2.2.1
  refine Pm_mono (Pm_u2 (u_byteString hS1 e1 hr1 L1) (u_byteString hS2 e2 hr2 L2)) (fun r1 r2 hr => ?_)
  exact NwO_ev (by omega) (by omega) (by omega) (by omega) (by omega) (by omega) (by omega) hr.1 hr.2 (fun i hi => hL)
theorem k_memberAt {v1 v2 k p i : Nat} (hS1 : HS g1 l1 B1 h1 σ1) (hS2 : HS g2 l2 B2 h2 σ2) (e1 : σ1.1 56 = 0) (e2 : σ2.1 56 = 0) (hr1 : h1 + 5 ≤ B1 + 870000) (hr2 : h2 + 5 ≤ B2 + 870000) (hO : OE g1 g2 (σ1.2.2 28) (σ2.2.2 28) v1 v2 k p) (hk : 4 ≤ k) (hi : i < p) {L1 L2 : Nat → Int32} (d1 : L1 1 = nI v1) (d2 : L1 2 = nI i) (f1 : L2 1 = nI v2) (f2 : L2 2 = nI i) : Pm n (fun k => x_memberAt k 0 L1 σ1) (fun k => x_memberAt k 0 L2 σ2) (KQ h1 h2 5) := by
  obtain ⟨o1, o2, _, _, o5, o6, o7, o8, o9, o10, o11, o12, o13, o14, _, o16, o17⟩ := hO
  refine Pm_suc rfl (fun k => by rw [x_memberAt]) (fun k => by rw [x_memberAt]) (fun m1 _ => ?_)
  rw [d1, f1, d2, f2, n_cl (p := v1) (by omega), n_cl (p := v2) (by omega), o9, o10, show nI v1 + 4 = nI (v1 + 4) from n_add (q := 4) (by omega), show nI v2 + 4 = nI (v2 + 4) from n_add (q := 4) (by omega), n_add (p := v1 + 4) (by omega), n_add (p := v2 + 4) (by omega), n_cl (p := v1 + 4 + i) (by omega), n_cl (p := v2 + 4 + i) (by omega)]
  refine Pm_chk (fun _ _ => ?_)
  refine Pm_ite Iff.rfl (fun z _ => ?_) (fun z _ => ?_)
  · have z := (n_eq (q := 4) (by omega) (by decide)).mp z
    refine Pm_chk (fun _ _ => ?_)
    refine Pm_ob (k_byteString hS1 hS2 e1 e2 hr1 hr2 (by exact (o17 (by omega) i hi).symm)) (fun r1 r2 hr => ?_)
    refine Pm_suc rfl (fun k => by rw [x_memberAt]) (fun k => by rw [x_memberAt]) (fun m2 _ => ?_)
    exact Pm_some hr
  · have z : ¬ k = 4 := fun e => z (by rw [e]; rfl)
    refine Pm_suc rfl (fun k => by rw [x_memberAt]) (fun k => by rw [x_memberAt]) (fun m2 _ => ?_)
    rw [d1, f1, d2, f2, show nI v1 + 4 = nI (v1 + 4) from n_add (q := 4) (by omega), show nI v2 + 4 = nI (v2 + 4) from n_add (q := 4) (by omega), n_add (p := v1 + 4) (by omega), n_add (p := v2 + 4) (by omega), n_cl (p := v1 + 4 + i) (by omega), n_cl (p := v2 + 4 + i) (by omega)]
    refine Pm_chk (fun _ _ => ?_)
    refine Pm_suc rfl (fun k => by rw [x_memberAt]) (fun k => by rw [x_memberAt]) (fun m3 _ => ?_)
    exact Pm_some (KQ_VC hS1 hS2 (by rw [e1, e2]) (o16 (by omega) i hi))
theorem k_many {v1 v2 : Nat} (hS1 : HS g1 l1 B1 h1 σ1) (hS2 : HS g2 l2 B2 h2 σ2) (e1 : σ1.1 56 = 0) (e2 : σ2.1 56 = 0) (hr1 : h1 + 70 ≤ B1 + 870000) (hr2 : h2 + 70 ≤ B2 + 870000) (hv1 : v1 < 3 ∨ g1 v1) (hv2 : v2 < 3 ∨ g2 v2) (hv : EVb (σ1.2.2 28) (σ2.2.2 28) v1 v2) {L1 L2 : Nat → Int32} (d1 : L1 1 = nI v1) (f1 : L2 1 = nI v2) : Pm n (fun k => x_many k 0 L1 σ1) (fun k => x_many k 0 L2 σ2) (KQ h1 h2 70) := by
  have kv := kdN_6 hS1 hv1
  refine Pm_suc rfl (fun k => by rw [x_many]) (fun k => by rw [x_many]) (fun m1 _ => ?_)
  refine Pm_ob (Pm_t2 (s_kind hS1 hv1 (by exact d1)) (fun k => f_kind k _ _ _) (s_kind hS2 hv2 (by exact f1)) (fun k => f_kind k _ _ _)) (fun r1 r2 hr => ?_)
  rw [hr.1, hr.2, (EVb_sz hv).2.2]
  refine Pm_ite Iff.rfl (fun z _ => ?_) (fun _ _ => ?_)
  · have z := (n_le (p := 4) (by decide) (by omega)).mp z
    obtain ⟨k, p, hO⟩ := OE_of hS1 hS2 (kdN_ge hS1 hv1 (by omega)) hv2 hv
    obtain ⟨_, _, _, _, _, o6, _, _, _, _, o11, o12, o13, o14, _, _, _⟩ := hO
    refine Pm_suc rfl (fun k => by rw [x_many]) (fun k => by rw [x_many]) (fun m2 _ => ?_)
    rw [d1, f1, n_add1, n_add1, n_cl (p := v1 + 1) (by omega), n_cl (p := v2 + 1) (by omega), o11, o12]
    refine Pm_chk (fun _ _ => ?_)
    exact Pm_ob (k_small hS1 hS2 e1 e2 hr1 hr2 (fun i hi => rfl)) (fun s1 s2 hs => Pm_some hs)
  · refine Pm_ob (k_fail (K := 70) (e := 1) (by decide) hS1 hS2 rfl rfl) (fun s1 s2 hs => ?_)
    rw [hs.1, hs.2.1]
    exact Pm_some hs.2.2
theorem k_negative {v1 v2 : Nat} (hS1 : HS g1 l1 B1 h1 σ1) (hS2 : HS g2 l2 B2 h2 σ2) (e1 : σ1.1 56 = 0) (e2 : σ2.1 56 = 0) (hr1 : h1 + 70 ≤ B1 + 870000) (hr2 : h2 + 70 ≤ B2 + 870000) (hv1 : v1 < 3 ∨ g1 v1) (hv2 : v2 < 3 ∨ g2 v2) (hv : EVb (σ1.2.2 28) (σ2.2.2 28) v1 v2) {L1 L2 : Nat → Int32} (d1 : L1 1 = nI v1) (f1 : L2 1 = nI v2) : Pm n (fun k => x_negative k 0 L1 σ1) (fun k => x_negative k 0 L2 σ2) (KQ h1 h2 70) := by
  have kv := kdN_6 hS1 hv1
  have b2 : ∀ (m : Nat) (N1 N2 : Nat → Int32) (r1 r2 : Int32 × MS), N1 100 = r1.1 → N2 100 = r2.1 → KQ h1 h2 70 r1 r2 → Pm m (fun k => x_negative k 2 N1 r1.2) (fun k => x_negative k 2 N2 r2.2) (KQ h1 h2 70) := fun m N1 N2 r1 r2 u1 u2 hr => by
    refine Pm_suc rfl (fun k => by rw [x_negative]) (fun k => by rw [x_negative]) (fun m1 _ => ?_)
    rw [u1, u2]
    exact Pm_some hr
  refine Pm_suc rfl (fun k => by rw [x_negative]) (fun k => by rw [x_negative]) (fun m1 _ => ?_)
  refine Pm_ob (Pm_t2 (s_kind hS1 hv1 (by exact d1)) (fun k => f_kind k _ _ _) (s_kind hS2 hv2 (by exact f1)) (fun k => f_kind k _ _ _)) (fun r1 r2 hr => ?_)
  rw [hr.1, hr.2, (EVb_sz hv).2.2]
  refine Pm_ite Iff.rfl (fun z _ => ?_) (fun _ _ => ?_)
  · have z := (n_eq (q := 2) (by omega) (by decide)).mp z
    obtain ⟨p, hW⟩ := WhE_of hS1 hS2 hv1 hv2 hv z
    refine Pm_suc rfl (fun k => by rw [x_negative]) (fun k => by rw [x_negative]) (fun m2 _ => ?_)
    exact Pm_ob (k_other hS1 hS2 e1 e2 hr1 hr2 hW (by exact d1) (by exact f1)) (fun s1 s2 hs => b2 m2 _ _ s1 s2 rfl rfl hs)
  · exact Pm_ob (k_wrongKind hS1 hS2 _ _) (fun s1 s2 hs => b2 m1 _ _ s1 s2 rfl rfl hs)
theorem k_turned {K v1 v2 : Nat} (hS1 : HS g1 l1 B1 h1 σ1) (hS2 : HS g2 l2 B2 h2 σ2) (e1 : σ1.1 56 = 0) (e2 : σ2.1 56 = 0) (b1 : v1 < 1740000) (b2 : v2 < 1740000) (hv : EVb (σ1.2.2 28) (σ2.2.2 28) v1 v2) {L1 L2 : Nat → Int32} (d1 : L1 1 = nI v1) (f1 : L2 1 = nI v2) : Pm n (fun k => x_turned k 0 L1 σ1) (fun k => x_turned k 0 L2 σ2) (KQ h1 h2 K) := by
  have iq : ∀ q : Nat, q < 3 → (nI v1 = nI q ↔ nI v2 = nI q) := fun q hq => by
    rw [n_eq (by omega) (by omega), n_eq (by omega) (by omega)]
    rcases EVb_3 hv with ⟨z1, z2⟩ | ⟨z1, z2⟩
    · rw [z2]
    · omega
  have fin : ∀ (m : Nat) (N1 N2 : Nat → Int32) (τ1 τ2 : MS), HS g1 l1 B1 h1 τ1 → HS g2 l2 B2 h2 τ2 → (τ1.1 56 = 0 ↔ τ2.1 56 = 0) → N1 1 = nI v1 → N2 1 = nI v2 → Pm m (fun k => x_turned k 1 N1 τ1) (fun k => x_turned k 1 N2 τ2) (KQ h1 h2 K) := by
    intro m N1 N2 τ1 τ2 hT1 hT2 he x1 y1
    have b3 : ∀ (m' : Nat) (M1 M2 : Nat → Int32), M1 100 = M2 100 → Pm m' (fun k => x_turned k 3 M1 τ1) (fun k => x_turned k 3 M2 τ2) (KQ h1 h2 K) := fun m' M1 M2 h => by
      refine Pm_suc rfl (fun k => by rw [x_turned]) (fun k => by rw [x_turned]) (fun m2 _ => ?_)
      exact Pm_ob (k_truth hT1 hT2 he (by exact h)) (fun s1 s2 hs => Pm_some hs.1)
    refine Pm_suc rfl (fun k => by rw [x_turned]) (fun k => by rw [x_turned]) (fun m1 _ => ?_)
    rw [x1, y1]
    refine Pm_ite (iq 1 (by decide)) (fun _ _ => b3 m1 _ _ rfl) (fun _ _ => ?_)
    refine Pm_suc rfl (fun k => by rw [x_turned]) (fun k => by rw [x_turned]) (fun m2 _ => ?_)
    exact b3 m2 _ _ rfl
  have ee : σ1.1 56 = 0 ↔ σ2.1 56 = 0 := by rw [e1, e2]
  refine Pm_suc rfl (fun k => by rw [x_turned]) (fun k => by rw [x_turned]) (fun m1 _ => ?_)
  rw [d1, f1]
  refine Pm_ite (iq 2 (by decide)) (fun _ _ => fin m1 _ _ _ _ hS1 hS2 ee d1 f1) (fun _ _ => ?_)
  refine Pm_ite (iq 1 (by decide)) (fun _ _ => fin m1 _ _ _ _ hS1 hS2 ee d1 f1) (fun _ _ => ?_)
  refine Pm_ob (Pm_t2 (s_fail _ σ1) (fun k => f_fail k _ _ _) (s_fail _ σ2) (fun k => f_fail k _ _ _)) (fun s1 s2 hs => ?_)
  rw [hs.1, hs.2]
  exact fin m1 _ _ _ _ (HS_er hS1 _) (HS_er hS2 _) ⟨fun z => absurd z (mEr_e (by decide)), fun z => absurd z (mEr_e (by decide))⟩ d1 f1
theorem k_isMap {v1 v2 : Nat} (hS1 : HS g1 l1 B1 h1 σ1) (hS2 : HS g2 l2 B2 h2 σ2) (hv1 : v1 < 3 ∨ g1 v1) (hv2 : v2 < 3 ∨ g2 v2) (hv : EVb (σ1.2.2 28) (σ2.2.2 28) v1 v2) {L1 L2 : Nat → Int32} (d1 : L1 1 = nI v1) (f1 : L2 1 = nI v2) : Pm n (fun k => x_isMap k 0 L1 σ1) (fun k => x_isMap k 0 L2 σ2) (fun r1 r2 => r1.1 = r2.1) := by
  have kv := kdN_6 hS1 hv1
  have b6 : ∀ (m : Nat) (N1 N2 : Nat → Int32), N1 2 = N2 2 → Pm m (fun k => x_isMap k 6 N1 σ1) (fun k => x_isMap k 6 N2 σ2) (fun r1 r2 => r1.1 = r2.1) := fun m N1 N2 h => by
    refine Pm_suc rfl (fun k => by rw [x_isMap]) (fun k => by rw [x_isMap]) (fun m1 _ => ?_)
    refine Pm_chk (fun _ _ => ?_)
    exact Pm_some h
  have b3 : ∀ (m i : Nat) (N1 N2 : Nat → Int32), N1 1 = nI v1 → N2 1 = nI v2 → N1 2 = N2 2 → (¬ N1 2 = 0 → kdN (σ1.2.2 28) v1 = 6) → N1 3 = nI i → N2 3 = nI i → i ≤ 4000 → Pm m (fun k => x_isMap k 3 N1 σ1) (fun k => x_isMap k 3 N2 σ2) (fun r1 r2 => r1.1 = r2.1) := by
    intro m
    induction m using Nat.strongRecOn with
    | ind m ih =>
    intro i N1 N2 x1 y1 x2 hk x3 y3 hi4
    refine Pm_suc rfl (fun k => by rw [x_isMap]) (fun k => by rw [x_isMap]) (fun k1 hk1 => ?_)
    refine Pm_ite (by rw [x2]) (fun _ _ => b6 k1 _ _ x2) (fun z _ => ?_)
    have hk6 := hk z
    obtain ⟨k, p, hO⟩ := OE_of hS1 hS2 (kdN_ge hS1 hv1 (by omega)) hv2 hv
    obtain ⟨o1, o2, _, _, o5, o6, o7, o8, o9, o10, o11, o12, o13, o14, _, o16, _⟩ := hO
    have ca := o16 (by omega)
    rw [x1, y1, x3, y3, n_add1 v1, n_add1 v2, n_cl (p := v1 + 1) (by omega), n_cl (p := v2 + 1) (by omega), o11, o12, show nI v1 + 4 = nI (v1 + 4) from n_add (q := 4) (by omega), show nI v2 + 4 = nI (v2 + 4) from n_add (q := 4) (by omega), n_add (p := v1 + 4) (by omega), n_add (p := v2 + 4) (by omega), n_cl (p := v1 + 4 + i) (by omega), n_cl (p := v2 + 4 + i) (by omega)]
    refine Pm_chk (fun _ _ => ?_)
    refine Pm_ite Iff.rfl (fun _ _ => b6 k1 _ _ x2) (fun y _ => ?_)
    have hip : i < p := by
      by_cases e : p ≤ i
      · exact absurd ((n_le (by omega) (by omega)).mpr e) y
      · omega
    refine Pm_chk (fun _ _ => ?_)
    obtain ⟨u, v, u1, u2, u3, u4, u5, u6, u7⟩ := ca i hip
    rw [u1, u3]
    have ku := kdN_6 hS1 u2
    refine Pm_ob (Pm_t2 (s_kind hS1 u2 rfl) (fun k => f_kind k _ _ _) (s_kind hS2 u4 rfl) (fun k => f_kind k _ _ _)) (fun r1 r2 hr => ?_)
    rw [hr.1, hr.2, (EVb_sz u5).2.2]
    have b5 : ∀ (m' : Nat) (M1 M2 : Nat → Int32), m' < m → M1 1 = nI v1 → M2 1 = nI v2 → M1 100 = M2 100 → M1 3 = nI i → M2 3 = nI i → Pm m' (fun k => x_isMap k 5 M1 σ1) (fun k => x_isMap k 5 M2 σ2) (fun r1 r2 => r1.1 = r2.1) := by
      intro m' M1 M2 hm' q1 q2 q3 q4 q5
      refine Pm_suc rfl (fun k => by rw [x_isMap]) (fun k => by rw [x_isMap]) (fun k2 hk2 => ?_)
      exact ih k2 (by omega) (i + 1) _ _ q1 q2 q3 (fun _ => hk6) (by show M1 3 + 1 = _; rw [q4, n_add1]) (by show M2 3 + 1 = _; rw [q5, n_add1]) (by omega)
    have b4 : ∀ (m' : Nat) (M1 M2 : Nat → Int32), m' < m → M1 1 = nI v1 → M2 1 = nI v2 → M1 3 = nI i → M2 3 = nI i → Pm m' (fun k => x_isMap k 4 M1 σ1) (fun k => x_isMap k 4 M2 σ2) (fun r1 r2 => r1.1 = r2.1) := by
      intro m' M1 M2 hm' q1 q2 q4 q5
      refine Pm_suc rfl (fun k => by rw [x_isMap]) (fun k => by rw [x_isMap]) (fun k2 hk2 => ?_)
      exact b5 k2 _ _ (by omega) q1 q2 rfl q4 q5
    refine Pm_ite Iff.rfl (fun w _ => ?_) (fun _ _ => b4 k1 _ _ (by omega) x1 y1 x3 y3)
    have w := (n_eq (q := 5) (by omega) (by decide)).mp w
    have gu := kdN_ge hS1 u2 (by omega)
    obtain ⟨k', p', hU⟩ := OE_of hS1 hS2 gu u4 u5
    obtain ⟨_, _, _, _, _, _, _, _, _, _, w11, w12, w13, w14, _⟩ := hU
    rw [n_add1 u, n_add1 v, n_cl (p := u + 1) (by omega), n_cl (p := v + 1) (by omega), w11, w12]
    refine Pm_chk (fun _ _ => ?_)
    exact Pm_ite Iff.rfl (fun _ _ => b5 k1 _ _ (by omega) x1 y1 rfl x3 y3) (fun _ _ => b4 k1 _ _ (by omega) x1 y1 x3 y3)
  have b2 : ∀ (m : Nat) (N1 N2 : Nat → Int32), N1 1 = nI v1 → N2 1 = nI v2 → N1 100 = N2 100 → (¬ N1 100 = 0 → kdN (σ1.2.2 28) v1 = 6) → Pm m (fun k => x_isMap k 2 N1 σ1) (fun k => x_isMap k 2 N2 σ2) (fun r1 r2 => r1.1 = r2.1) := by
    intro m N1 N2 x1 y1 h hk
    refine Pm_suc rfl (fun k => by rw [x_isMap]) (fun k => by rw [x_isMap]) (fun m1 _ => ?_)
    exact b3 m1 0 _ _ x1 y1 h hk rfl rfl (by omega)
  refine Pm_suc rfl (fun k => by rw [x_isMap]) (fun k => by rw [x_isMap]) (fun m1 _ => ?_)
  refine Pm_ob (Pm_t2 (s_kind hS1 hv1 (by exact d1)) (fun k => f_kind k _ _ _) (s_kind hS2 hv2 (by exact f1)) (fun k => f_kind k _ _ _)) (fun r1 r2 hr => ?_)
  rw [hr.1, hr.2, (EVb_sz hv).2.2]
  refine Pm_ite Iff.rfl (fun z _ => ?_) (fun _ _ => ?_)
  · have z := (n_eq (q := 6) (by omega) (by decide)).mp z
    exact b2 m1 _ _ d1 f1 rfl (fun _ => z)
  · refine Pm_suc rfl (fun k => by rw [x_isMap]) (fun k => by rw [x_isMap]) (fun m2 _ => ?_)
    exact b2 m2 _ _ d1 f1 rfl (fun z => absurd rfl z)
/-- the pairs of two maps that hold the same -/
def MpE (g1 g2 : Nat → Prop) (H1 H2 : Nat → Int32) (v1 v2 p : Nat) : Prop := ∀ i, i < p → ∃ u v, H1 (v1 + 4 + i) = nI u ∧ H2 (v2 + 4 + i) = nI v ∧ u + 6 ≤ 1740000 ∧ v + 6 ≤ 1740000 ∧ VC g1 g2 H1 H2 (nI u) (nI v) ∧ VC g1 g2 H1 H2 (H1 (u + 4)) (H2 (v + 4)) ∧ VC g1 g2 H1 H2 (H1 (u + 5)) (H2 (v + 5))
/-- what isMap tells of both -/
theorem k_isMapE {v1 v2 : Nat} (hS1 : HS g1 l1 B1 h1 σ1) (hS2 : HS g2 l2 B2 h2 σ2) (hv1 : v1 < 3 ∨ g1 v1) (hv2 : v2 < 3 ∨ g2 v2) (hv : EVb (σ1.2.2 28) (σ2.2.2 28) v1 v2) {L1 L2 : Nat → Int32} (d1 : L1 1 = nI v1) (f1 : L2 1 = nI v2) : Pm n (fun k => x_isMap k 0 L1 σ1) (fun k => x_isMap k 0 L2 σ2) (fun r1 r2 => r1.1 = r2.1 ∧ r1.2 = σ1 ∧ r2.2 = σ2 ∧ (¬ r1.1 = 0 → ∃ p, OE g1 g2 (σ1.2.2 28) (σ2.2.2 28) v1 v2 6 p ∧ MpE g1 g2 (σ1.2.2 28) (σ2.2.2 28) v1 v2 p)) := by
  refine Pm_mono (Pm_un (s_isMap hS1 hv1 d1) (fun k => f_isMap k _ _ _) (s_isMap hS2 hv2 f1) (fun k => f_isMap k _ _ _) (k_isMap hS1 hS2 hv1 hv2 hv d1 f1)) (fun r1 r2 hr => ?_)
  obtain ⟨q0, ⟨q1, q2⟩, ⟨q3, _⟩⟩ := hr
  refine ⟨q0, q1, q3, fun z => ?_⟩
  rcases q2 with q2 | ⟨_, gv, kv6, nn, hn1, hn2, hMp⟩
  · exact absurd q2 z
  obtain ⟨k, p, hO⟩ := OE_of hS1 hS2 gv hv2 hv
  have ek : k = 6 := hO.2.2.2.2.2.2.1.symm.trans kv6
  subst ek
  have hO0 := hO
  obtain ⟨o1, o2, _, _, o5, o6, o7, o8, o9, o10, o11, o12, o13, o14, _, o16, _⟩ := hO
  have en : nn = p := (n_eq (by omega) (by omega)).mp (hn2.symm.trans o11)
  subst en
  refine ⟨nn, hO0, fun i hi => ?_⟩
  have hc := o16 (by omega) i hi
  obtain ⟨u, v, u1, u2, u3, u4, u5, u6, u7⟩ := o16 (by omega) i hi
  obtain ⟨w, w1, w2, w3, w4⟩ := hMp i hi
  have hwb := HS_vb hS1 (Or.inr w2)
  have ew : w = u := (n_eq (by omega) (by omega)).mp (w1.symm.trans u1)
  subst ew
  obtain ⟨k', p', hU⟩ := OE_of hS1 hS2 w2 u4 u5
  obtain ⟨_, _, _, _, _, r6, r7, _, _, _, r11, r12, r13, r14, _, r16, _⟩ := hU
  have ep : p' = 2 := (n_eq (by omega) (by omega)).mp (r11.symm.trans w4)
  subst ep
  rw [u1, u3] at hc
  exact ⟨w, v, u1, u3, by omega, by omega, hc, r16 (by omega) 0 (by omega), r16 (by omega) 1 (by omega)⟩
end KMA
end JnS174
section JnS175
/-! Two runs side by side (reference): image, sides, parts, pairs. -/
section KIM
variable {g1 g2 : Nat → Prop} {l1 l2 : List Nat} {B1 h1 B2 h2 n : Nat} {σ1 σ2 : MS}
theorem k_image {f v1 v2 x1 x2 : Nat} (hS1 : HS g1 l1 B1 h1 σ1) (hS2 : HS g2 l2 B2 h2 σ2) (e1 : σ1.1 56 = 0) (e2 : σ2.1 56 = 0) (t1 : σ1.1 59 = nI f) (t2 : σ2.1 59 = nI f) (hf : f ≤ 177000) (hr1 : h1 + 4004 ≤ B1 + 870000) (hr2 : h2 + 4004 ≤ B2 + 870000) (hv1 : v1 < 3 ∨ g1 v1) (hv2 : v2 < 3 ∨ g2 v2) (hv : EVb (σ1.2.2 28) (σ2.2.2 28) v1 v2) (hx1 : x1 < 3 ∨ g1 x1) (hx2 : x2 < 3 ∨ g2 x2) (hx : EVb (σ1.2.2 28) (σ2.2.2 28) x1 x2) {L1 L2 : Nat → Int32} (d1 : L1 1 = nI v1) (d2 : L1 2 = nI x1) (f1 : L2 1 = nI v2) (f2 : L2 2 = nI x2) : Pm n (fun k => x_image k 0 L1 σ1) (fun k => x_image k 0 L2 σ2) (KQ h1 h2 4004) := by
  refine Pm_suc rfl (fun k => by rw [x_image]) (fun k => by rw [x_image]) (fun m1 _ => ?_)
  refine Pm_ob (k_isMapE hS1 hS2 hv1 hv2 hv (by exact d1) (by exact f1)) (fun r1 r2 hr => ?_)
  obtain ⟨q0, q1, q2, q3⟩ := hr
  rw [← q0, q1, q2]
  refine Pm_ite Iff.rfl (fun _ _ => Pm_ob (k_wrongKind hS1 hS2 _ _) (fun s1 s2 hs => Pm_some hs)) (fun z _ => ?_)
  obtain ⟨p, hO, hM⟩ := q3 z
  obtain ⟨_, _, _, _, _, o6, _, _, _, _, o11, o12, o13, o14, _, _, _⟩ := hO
  have lp : ∀ (m i w : Nat) (N1 N2 : Nat → Int32) (τ1 τ2 : MS), i ≤ p → w ≤ i → N1 1 = nI v1 → N2 1 = nI v2 → N1 2 = nI x1 → N2 2 = nI x2 → N1 3 = nI f → N2 3 = nI f → N1 4 = nI i → N2 4 = nI i → KPu g1 g2 f w σ1 σ2 τ1 τ2 → Pm m (fun k => x_image k 2 N1 τ1) (fun k => x_image k 2 N2 τ2) (KQ h1 h2 4004) := by
    intro m
    induction m using Nat.strongRecOn with
    | ind m ih =>
    intro i w N1 N2 τ1 τ2 hi hwi a1 c1 a2 c2 a3 c3 a4 c4 hK
    have a28 : τ1.2.2 28 = σ1.2.2 28 := hK.1.2.1 28 (by decide)
    have b28 : τ2.2.2 28 = σ2.2.2 28 := hK.2.1.2.1 28 (by decide)
    have hT1 := PuS_HS hK.1 hS1
    have hT2 := PuS_HS hK.2.1 hS2
    refine Pm_suc rfl (fun k => by rw [x_image]) (fun k => by rw [x_image]) (fun k1 hk1 => ?_)
    rw [a1, c1, a2, c2, a4, c4, n_add1 v1, n_add1 v2, n_cl (p := v1 + 1) (by omega), n_cl (p := v2 + 1) (by omega), a28, b28, o11, o12, show nI v1 + 4 = nI (v1 + 4) from n_add (q := 4) (by omega), show nI v2 + 4 = nI (v2 + 4) from n_add (q := 4) (by omega), n_add (p := v1 + 4) (by omega), n_add (p := v2 + 4) (by omega), n_cl (p := v1 + 4 + i) (by omega), n_cl (p := v2 + 4 + i) (by omega)]
    refine Pm_chk (fun _ _ => ?_)
    refine Pm_ite Iff.rfl (fun _ _ => ?_) (fun y _ => ?_)
    · refine Pm_suc rfl (fun k => by rw [x_image]) (fun k => by rw [x_image]) (fun k2 hk2 => ?_)
      exact Pm_ob (k_setP hK hS1 hS2 e1 e2 (by omega) (by omega) (by omega) (by omega) (by exact a3) (by exact c3)) (fun r1 r2 hr => Pm_some (KQ_mo hr (by omega)))
    have hip : i < p := by
      by_cases e : p ≤ i
      · exact absurd ((n_le (by omega) (by omega)).mpr e) y
      · omega
    obtain ⟨u, v, u1, u2, u3, u4, u5, u6, u7⟩ := hM i hip
    have b3 : ∀ (m' w' : Nat) (M1 M2 : Nat → Int32) (υ1 υ2 : MS), m' < m → w' ≤ i + 1 → M1 1 = nI v1 → M2 1 = nI v2 → M1 2 = nI x1 → M2 2 = nI x2 → M1 3 = nI f → M2 3 = nI f → M1 4 = nI i → M2 4 = nI i → KPu g1 g2 f w' σ1 σ2 υ1 υ2 → Pm m' (fun k => x_image k 3 M1 υ1) (fun k => x_image k 3 M2 υ2) (KQ h1 h2 4004) := by
      intro m' w' M1 M2 υ1 υ2 hm' hw' y1 y2 y3 y4 y5 y6 y7 y8 hK'
      refine Pm_suc rfl (fun k => by rw [x_image]) (fun k => by rw [x_image]) (fun k2 hk2 => ?_)
      exact ih k2 (by omega) (i + 1) w' _ _ _ _ (by omega) hw' y1 y2 y3 y4 y5 y6 (by show M1 4 + 1 = _; rw [y7, n_add1]) (by show M2 4 + 1 = _; rw [y8, n_add1]) hK'
    rw [u1, u2, show nI u + 4 = nI (u + 4) from n_add (q := 4) (by omega), show nI v + 4 = nI (v + 4) from n_add (q := 4) (by omega), show nI u + 5 = nI (u + 5) from n_add (q := 5) (by omega), show nI v + 5 = nI (v + 5) from n_add (q := 5) (by omega), n_cl (p := u + 4) (by omega), n_cl (p := v + 4) (by omega), n_cl (p := u + 5) (by omega), n_cl (p := v + 5) (by omega)]
    refine Pm_chk (fun _ _ => ?_)
    refine Pm_chk (fun _ _ => ?_)
    obtain ⟨y, y', y1, y2, y3, y4, y5, _, _⟩ := u6
    rw [y1, y3]
    have y5' : EVb (τ1.2.2 28) (τ2.2.2 28) y y' := by rw [a28, b28]; exact y5
    have hx' : EVb (τ1.2.2 28) (τ2.2.2 28) x1 x2 := by rw [a28, b28]; exact hx
    refine Pm_ob (k_compare hT1 hT2 y2 hx1 y4 hx2 y5' hx' rfl rfl rfl rfl) (fun r1 r2 hr => ?_)
    rw [hr.1, hr.2.1, hr.2.2, a28, b28]
    refine Pm_ite Iff.rfl (fun _ _ => ?_) (fun _ _ => b3 k1 w _ _ _ _ (by omega) (by omega) a1 c1 a2 c2 a3 c3 a4 c4 hK)
    refine Pm_chk (fun _ _ => ?_)
    exact Pm_ob (k_push hK (by omega) u7 rfl rfl) (fun s1 s2 hs => b3 k1 (w + 1) _ _ _ _ (by omega) (by omega) a1 c1 a2 c2 a3 c3 a4 c4 hs)
  refine Pm_suc rfl (fun k => by rw [x_image]) (fun k => by rw [x_image]) (fun m2 _ => ?_)
  rw [t1, t2]
  exact lp m2 0 0 _ _ _ _ (Nat.zero_le _) (Nat.le_refl _) d1 f1 d2 f2 rfl rfl rfl rfl (KPu_0 t1 t2)
theorem k_partAt {v1 v2 x1 x2 : Nat} (hS1 : HS g1 l1 B1 h1 σ1) (hS2 : HS g2 l2 B2 h2 σ2) (e1 : σ1.1 56 = 0) (e2 : σ2.1 56 = 0) (hr1 : h1 + 5 ≤ B1 + 870000) (hr2 : h2 + 5 ≤ B2 + 870000) (hv1 : v1 < 3 ∨ g1 v1) (hv2 : v2 < 3 ∨ g2 v2) (hv : EVb (σ1.2.2 28) (σ2.2.2 28) v1 v2) (hx1 : x1 < 3 ∨ g1 x1) (hx2 : x2 < 3 ∨ g2 x2) (hx : EVb (σ1.2.2 28) (σ2.2.2 28) x1 x2) {L1 L2 : Nat → Int32} (d1 : L1 1 = nI v1) (d2 : L1 2 = nI x1) (f1 : L2 1 = nI v2) (f2 : L2 2 = nI x2) : Pm n (fun k => x_partAt k 0 L1 σ1) (fun k => x_partAt k 0 L2 σ2) (KQ h1 h2 5) := by
  have kv := kdN_6 hS1 hv1
  have kx := kdN_6 hS1 hx1
  have ee : σ1.1 56 = 0 ↔ σ2.1 56 = 0 := by rw [e1, e2]
  have z0 : KQ h1 h2 5 (0, σ1) (0, σ2) := KQ_same hS1 hS2 ee (a := 0) (b := 0) (by decide) (by decide) (EVb_0 (by decide))
  -- a place
  have b1' : (kdN (σ1.2.2 28) v1 = 4 ∨ kdN (σ1.2.2 28) v1 = 5) → ∀ (m : Nat) (N1 N2 : Nat → Int32), N1 1 = nI v1 → N2 1 = nI v2 → N1 2 = nI x1 → N2 2 = nI x2 → Pm m (fun k => x_partAt k 1 N1 σ1) (fun k => x_partAt k 1 N2 σ2) (KQ h1 h2 5) := by
    intro hk m N1 N2 a1 c1 a2 c2
    refine Pm_suc rfl (fun k => by rw [x_partAt]) (fun k => by rw [x_partAt]) (fun m1 _ => ?_)
    refine Pm_ob (Pm_t2 (s_kind hS1 hx1 (by exact a2)) (fun k => f_kind k _ _ _) (s_kind hS2 hx2 (by exact c2)) (fun k => f_kind k _ _ _)) (fun r1 r2 hr => ?_)
    rw [hr.1, hr.2, (EVb_sz hx).2.2]
    refine Pm_ite Iff.rfl (fun z _ => ?_) (fun _ _ => Pm_ob (k_wrongKind hS1 hS2 _ _) (fun s1 s2 hs => Pm_some hs))
    have z := (n_eq (q := 2) (by omega) (by decide)).mp z
    obtain ⟨q, hB⟩ := WhE_of hS1 hS2 hx1 hx2 hx z
    obtain ⟨k, p, hO⟩ := OE_of hS1 hS2 (kdN_ge hS1 hv1 (by omega)) hv2 hv
    have hO0 := hO
    obtain ⟨_, _, _, _, o5, o6, o7, _, _, _, o11, o12, o13, o14, _, _, _⟩ := hO
    refine Pm_suc rfl (fun k => by rw [x_partAt]) (fun k => by rw [x_partAt]) (fun m2 _ => ?_)
    refine Pm_ob (Pm_un (s_intOf (b := 100000) hS1 hB.1 (by decide) (by exact a2) rfl) (fun k => f_intOf k _ _ _ _) (s_intOf (b := 100000) hS2 hB.2.1 (by decide) (by exact c2) rfl) (fun k => f_intOf k _ _ _ _) (k_intOf hS1 hS2 hB (by exact a2) (by exact c2) rfl)) (fun s1 s2 hs => ?_)
    obtain ⟨hr0, ⟨hr1', y, hy, hy1, _⟩, ⟨hr2', _⟩⟩ := hs
    rw [← hr0, hr1', hr2']
    refine Pm_ite Iff.rfl (fun w _ => ?_) (fun _ _ => ?_)
    case refine_2 =>
      refine Pm_ob (k_fail (K := 5) (e := 4) (by decide) hS1 hS2 rfl rfl) (fun t1 t2 ht => ?_)
      rw [ht.1, ht.2.1]
      exact Pm_some ht.2.2
    have hyy : s1.1 = nI y ∧ 1 ≤ y := by
      have w' := i_le.mp w
      have e1' : (1 : Int32).toInt = 1 := rfl
      have e := sg_pos (by omega) hy1 (by omega)
      rw [e] at w
      exact ⟨e, (n_le (p := 1) (by decide) (by omega)).mp w⟩
    obtain ⟨ey, hy1⟩ := hyy
    rw [ey]
    refine Pm_suc rfl (fun k => by rw [x_partAt]) (fun k => by rw [x_partAt]) (fun m3 _ => ?_)
    rw [show upd N1 4 (nI y) 1 = nI v1 from a1, show upd N2 4 (nI y) 1 = nI v2 from c1, n_add1 v1, n_add1 v2, n_cl (p := v1 + 1) (by omega), n_cl (p := v2 + 1) (by omega), o11, o12, show upd N1 4 (nI y) 4 = nI y from rfl, show upd N2 4 (nI y) 4 = nI y from rfl]
    refine Pm_chk (fun _ _ => ?_)
    refine Pm_ite Iff.rfl (fun w _ => ?_) (fun _ _ => ?_)
    · have w := (n_le (by omega) (by omega)).mp w
      refine Pm_suc rfl (fun k => by rw [x_partAt]) (fun k => by rw [x_partAt]) (fun m4 _ => ?_)
      rw [show upd N1 4 (nI y) 4 = nI y from rfl, show upd N2 4 (nI y) 4 = nI y from rfl, show nI y - 1 = nI (y - 1) from n_sub (p := y) (q := 1) (by omega) hy1]
      refine Pm_ob (k_memberAt (i := y - 1) hS1 hS2 e1 e2 hr1 hr2 hO0 (by omega) (by omega) (by exact a1) rfl (by exact c1) rfl) (fun t1 t2 ht => ?_)
      refine Pm_suc rfl (fun k => by rw [x_partAt]) (fun k => by rw [x_partAt]) (fun m5 _ => ?_)
      exact Pm_some ht
    · refine Pm_suc rfl (fun k => by rw [x_partAt]) (fun k => by rw [x_partAt]) (fun m4 _ => ?_)
      exact Pm_some z0
  -- a map
  have b6 : ∀ (m : Nat) (N1 N2 : Nat → Int32), N1 1 = nI v1 → N2 1 = nI v2 → N1 2 = nI x1 → N2 2 = nI x2 → Pm m (fun k => x_partAt k 6 N1 σ1) (fun k => x_partAt k 6 N2 σ2) (KQ h1 h2 5) := by
    intro m N1 N2 a1 c1 a2 c2
    refine Pm_suc rfl (fun k => by rw [x_partAt]) (fun k => by rw [x_partAt]) (fun m1 _ => ?_)
    refine Pm_ob (k_isMapE hS1 hS2 hv1 hv2 hv (by exact a1) (by exact c1)) (fun r1 r2 hr => ?_)
    obtain ⟨q0, q1, q2, q3⟩ := hr
    rw [← q0, q1, q2]
    refine Pm_ite Iff.rfl (fun _ _ => Pm_ob (k_wrongKind hS1 hS2 _ _) (fun s1 s2 hs => Pm_some hs)) (fun z _ => ?_)
    obtain ⟨p, hO, hM⟩ := q3 z
    obtain ⟨_, _, _, _, _, o6, _, _, _, _, o11, o12, o13, o14, _, _, _⟩ := hO
    have lp : ∀ (m i : Nat) (M1 M2 : Nat → Int32), i ≤ p → M1 1 = nI v1 → M2 1 = nI v2 → M1 2 = nI x1 → M2 2 = nI x2 → VC g1 g2 (σ1.2.2 28) (σ2.2.2 28) (M1 4) (M2 4) → M1 5 = M2 5 → M1 6 = nI i → M2 6 = nI i → Pm m (fun k => x_partAt k 8 M1 σ1) (fun k => x_partAt k 8 M2 σ2) (KQ h1 h2 5) := by
      intro m
      induction m using Nat.strongRecOn with
      | ind m ih =>
      intro i M1 M2 hi a1 c1 a2 c2 a4 a5 a6 c6
      refine Pm_suc rfl (fun k => by rw [x_partAt]) (fun k => by rw [x_partAt]) (fun k1 hk1 => ?_)
      rw [a1, c1, a2, c2, a6, c6, n_add1 v1, n_add1 v2, n_cl (p := v1 + 1) (by omega), n_cl (p := v2 + 1) (by omega), o11, o12, show nI v1 + 4 = nI (v1 + 4) from n_add (q := 4) (by omega), show nI v2 + 4 = nI (v2 + 4) from n_add (q := 4) (by omega), n_add (p := v1 + 4) (by omega), n_add (p := v2 + 4) (by omega), n_cl (p := v1 + 4 + i) (by omega), n_cl (p := v2 + 4 + i) (by omega)]
      refine Pm_chk (fun _ _ => ?_)
      refine Pm_ite Iff.rfl (fun _ _ => ?_) (fun y _ => ?_)
      · refine Pm_suc rfl (fun k => by rw [x_partAt]) (fun k => by rw [x_partAt]) (fun k2 hk2 => ?_)
        refine Pm_ite (by rw [a5]) (fun _ _ => ?_) (fun _ _ => ?_)
        · refine Pm_suc rfl (fun k => by rw [x_partAt]) (fun k => by rw [x_partAt]) (fun k3 hk3 => ?_)
          exact Pm_some (KQ_VC hS1 hS2 ee a4)
        · refine Pm_suc rfl (fun k => by rw [x_partAt]) (fun k => by rw [x_partAt]) (fun k3 hk3 => ?_)
          refine Pm_suc rfl (fun k => by rw [x_partAt]) (fun k => by rw [x_partAt]) (fun k4 hk4 => ?_)
          exact Pm_some z0
      have hip : i < p := by
        by_cases e : p ≤ i
        · exact absurd ((n_le (by omega) (by omega)).mpr e) y
        · omega
      obtain ⟨u, v, u1, u2, u3, u4, u5, u6, u7⟩ := hM i hip
      have b9 : ∀ (m' : Nat) (O1 O2 : Nat → Int32), m' < m → O1 1 = nI v1 → O2 1 = nI v2 → O1 2 = nI x1 → O2 2 = nI x2 → VC g1 g2 (σ1.2.2 28) (σ2.2.2 28) (O1 4) (O2 4) → O1 5 = O2 5 → O1 6 = nI i → O2 6 = nI i → Pm m' (fun k => x_partAt k 9 O1 σ1) (fun k => x_partAt k 9 O2 σ2) (KQ h1 h2 5) := by
        intro m' O1 O2 hm' y1 y2 y3 y4 y5 y6 y7 y8
        refine Pm_suc rfl (fun k => by rw [x_partAt]) (fun k => by rw [x_partAt]) (fun k2 hk2 => ?_)
        exact ih k2 (by omega) (i + 1) _ _ (by omega) y1 y2 y3 y4 y5 y6 (by show O1 6 + 1 = _; rw [y7, n_add1]) (by show O2 6 + 1 = _; rw [y8, n_add1])
      rw [u1, u2, show nI u + 4 = nI (u + 4) from n_add (q := 4) (by omega), show nI v + 4 = nI (v + 4) from n_add (q := 4) (by omega), show nI u + 5 = nI (u + 5) from n_add (q := 5) (by omega), show nI v + 5 = nI (v + 5) from n_add (q := 5) (by omega), n_cl (p := u + 4) (by omega), n_cl (p := v + 4) (by omega), n_cl (p := u + 5) (by omega), n_cl (p := v + 5) (by omega)]
      refine Pm_chk (fun _ _ => ?_)
      refine Pm_chk (fun _ _ => ?_)
      obtain ⟨y, y', y1, y2, y3, y4, y5, _, _⟩ := u6
      rw [y1, y3]
      refine Pm_ob (k_compare hS1 hS2 y2 hx1 y4 hx2 y5 hx rfl rfl rfl rfl) (fun r1 r2 hr => ?_)
      rw [hr.1, hr.2.1, hr.2.2]
      refine Pm_ite Iff.rfl (fun _ _ => ?_) (fun _ _ => b9 k1 _ _ (by omega) a1 c1 a2 c2 a4 a5 a6 c6)
      refine Pm_chk (fun _ _ => ?_)
      exact b9 k1 _ _ (by omega) a1 c1 a2 c2 u7 (by show M1 5 + 1 = M2 5 + 1; rw [a5]) a6 c6
    refine Pm_suc rfl (fun k => by rw [x_partAt]) (fun k => by rw [x_partAt]) (fun m2 _ => ?_)
    exact lp m2 0 _ _ (Nat.zero_le _) a1 c1 a2 c2 ⟨0, 0, rfl, Or.inl (by decide), rfl, Or.inl (by decide), EVb_0 (by decide), by decide, by decide⟩ rfl rfl rfl
  refine Pm_suc rfl (fun k => by rw [x_partAt]) (fun k => by rw [x_partAt]) (fun m1 _ => ?_)
  refine Pm_ob (Pm_t2 (s_kind hS1 hv1 (by exact d1)) (fun k => f_kind k _ _ _) (s_kind hS2 hv2 (by exact f1)) (fun k => f_kind k _ _ _)) (fun r1 r2 hr => ?_)
  rw [hr.1, hr.2, (EVb_sz hv).2.2]
  refine Pm_ite Iff.rfl (fun z _ => b1' (Or.inl ((n_eq (q := 4) (by omega) (by decide)).mp z)) m1 _ _ d1 f1 d2 f2) (fun _ _ => ?_)
  exact Pm_ite Iff.rfl (fun z _ => b1' (Or.inr ((n_eq (q := 5) (by omega) (by decide)).mp z)) m1 _ _ d1 f1 d2 f2) (fun _ _ => b6 m1 _ _ d1 f1 d2 f2)
end KIM
end JnS175
section JnS176
/-! Two runs side by side (reference): sides of maps, pairs, characters, what is left without one. -/
section KSD
variable {g1 g2 : Nat → Prop} {l1 l2 : List Nat} {B1 h1 B2 h2 n : Nat} {σ1 σ2 : MS}
theorem k_pair {f v1 v2 x1 x2 : Nat} (hS1 : HS g1 l1 B1 h1 σ1) (hS2 : HS g2 l2 B2 h2 σ2) (e1 : σ1.1 56 = 0) (e2 : σ2.1 56 = 0) (t1 : σ1.1 59 = nI f) (t2 : σ2.1 59 = nI f) (hf : f + 2 ≤ 185000) (hr1 : h1 + 6 ≤ B1 + 870000) (hr2 : h2 + 6 ≤ B2 + 870000) (hv : VC g1 g2 (σ1.2.2 28) (σ2.2.2 28) (nI v1) (nI v2)) (hx : VC g1 g2 (σ1.2.2 28) (σ2.2.2 28) (nI x1) (nI x2)) {L1 L2 : Nat → Int32} (d1 : L1 1 = nI v1) (d2 : L1 2 = nI x1) (f1 : L2 1 = nI v2) (f2 : L2 2 = nI x2) : Pm n (fun k => x_pair k 0 L1 σ1) (fun k => x_pair k 0 L2 σ2) (KQ h1 h2 6) := by
  refine Pm_suc rfl (fun k => by rw [x_pair]) (fun k => by rw [x_pair]) (fun m1 _ => ?_)
  refine Pm_ob (k_push (KPu_0 t1 t2) (by omega) hv (by exact d1) (by exact f1)) (fun r1 r2 hr => ?_)
  refine Pm_ob (k_push hr (by omega) hx (by exact d2) (by exact f2)) (fun s1 s2 hs => ?_)
  rw [t1, t2]
  exact Pm_ob (k_tupP hs hS1 hS2 e1 e2 (by omega) (by omega) (by omega) rfl rfl) (fun u1 u2 hu => Pm_some hu)
theorem k_side {f v1 v2 c : Nat} (hS1 : HS g1 l1 B1 h1 σ1) (hS2 : HS g2 l2 B2 h2 σ2) (e1 : σ1.1 56 = 0) (e2 : σ2.1 56 = 0) (t1 : σ1.1 59 = nI f) (t2 : σ2.1 59 = nI f) (hf : f ≤ 177000) (hr1 : h1 + 4004 ≤ B1 + 870000) (hr2 : h2 + 4004 ≤ B2 + 870000) (hv1 : v1 < 3 ∨ g1 v1) (hv2 : v2 < 3 ∨ g2 v2) (hv : EVb (σ1.2.2 28) (σ2.2.2 28) v1 v2) (hc : c < 2) {L1 L2 : Nat → Int32} (d1 : L1 1 = nI v1) (f1 : L2 1 = nI v2) (d2 : L1 2 = nI c) (f2 : L2 2 = nI c) (hL : LE3 L1 L2) : Pm n (fun k => x_side k 0 L1 σ1) (fun k => x_side k 0 L2 σ2) (KQ h1 h2 4004) := by
  refine Pm_suc rfl (fun k => by rw [x_side]) (fun k => by rw [x_side]) (fun m1 _ => ?_)
  refine Pm_ob (k_isMapE hS1 hS2 hv1 hv2 hv (by exact d1) (by exact f1)) (fun r1 r2 hr => ?_)
  obtain ⟨q0, q1, q2, q3⟩ := hr
  rw [← q0, q1, q2]
  refine Pm_ite Iff.rfl (fun _ _ => Pm_ob (k_wrongKind hS1 hS2 _ _) (fun s1 s2 hs => Pm_some hs)) (fun z _ => ?_)
  obtain ⟨p, hO, hM⟩ := q3 z
  obtain ⟨_, _, _, _, _, o6, _, _, _, _, o11, o12, o13, o14, _, _, _⟩ := hO
  -- om among them
  have b4 : ∀ (m j w : Nat) (N1 N2 : Nat → Int32) (τ1 τ2 : MS), j ≤ w → w ≤ 3996 → LE3 N1 N2 → N1 3 = nI f → N1 5 = nI (f + j) → KPu g1 g2 f w σ1 σ2 τ1 τ2 → Pm m (fun k => x_side k 4 N1 τ1) (fun k => x_side k 4 N2 τ2) (KQ h1 h2 4004) := by
    intro m
    induction m using Nat.strongRecOn with
    | ind m ih =>
    intro j w N1 N2 τ1 τ2 hj hw hN x3 x5 hK
    have y3 : N2 3 = nI f := (hN 3 (by omega)).symm.trans x3
    have y5 : N2 5 = nI (f + j) := (hN 5 (by omega)).symm.trans x5
    refine Pm_suc rfl (fun k => by rw [x_side]) (fun k => by rw [x_side]) (fun k1 hk1 => ?_)
    rw [hK.1.2.2.2.1, hK.2.1.2.2.2.1, x5, y5, n_cl (p := f + j) (by omega)]
    refine Pm_ite Iff.rfl (fun _ _ => ?_) (fun y _ => ?_)
    · refine Pm_suc rfl (fun k => by rw [x_side]) (fun k => by rw [x_side]) (fun k2 hk2 => ?_)
      refine Pm_ite (by rw [hN 4 (by omega)]) (fun _ _ => ?_) (fun _ _ => ?_)
      · refine Pm_suc rfl (fun k => by rw [x_side]) (fun k => by rw [x_side]) (fun k3 hk3 => ?_)
        exact Pm_ob (k_setP hK hS1 hS2 e1 e2 (by omega) (by omega) (by omega) (by omega) (by exact x3) (by exact y3)) (fun r1 r2 hr => Pm_some (KQ_mo hr (by omega)))
      · refine Pm_suc rfl (fun k => by rw [x_side]) (fun k => by rw [x_side]) (fun k3 hk3 => ?_)
        have hT1 : HS g1 l1 B1 h1 (mSc τ1 59 (N1 3)) := HS_c (PuS_HS hK.1 hS1) rfl rfl rfl
        have hT2 : HS g2 l2 B2 h2 (mSc τ2 59 (N2 3)) := HS_c (PuS_HS hK.2.1 hS2) rfl rfl rfl
        refine Pm_ob (k_fail (K := 4004) (e := 3) (by decide) hT1 hT2 rfl rfl) (fun r1 r2 hr => ?_)
        rw [hr.1, hr.2.1]
        exact Pm_some hr.2.2
    have hjw : j < w := by
      by_cases e : w ≤ j
      · exact absurd ((n_le (by omega) (by omega)).mpr (by omega)) y
      · omega
    have b7 : ∀ (m' : Nat) (M1 M2 : Nat → Int32), m' < m → LE3 M1 M2 → M1 3 = nI f → M1 5 = nI (f + j) → Pm m' (fun k => x_side k 7 M1 τ1) (fun k => x_side k 7 M2 τ2) (KQ h1 h2 4004) := by
      intro m' M1 M2 hm' hM z3 z5
      refine Pm_suc rfl (fun k => by rw [x_side]) (fun k => by rw [x_side]) (fun k2 hk2 => ?_)
      exact ih k2 (by omega) (j + 1) w _ _ _ _ (by omega) hw (LE_u (LE_u hM (hM 100 (by omega))) (by rw [hM 5 (by omega)])) z3 (by show M1 5 + 1 = _; rw [z5, n_add1, Nat.add_assoc]) hK
    have b5 : ∀ m', m' < m → Pm m' (fun k => x_side k 5 N1 τ1) (fun k => x_side k 5 N2 τ2) (KQ h1 h2 4004) := fun m' hm' => by
      refine Pm_suc rfl (fun k => by rw [x_side]) (fun k => by rw [x_side]) (fun k2 hk2 => ?_)
      exact b7 k2 _ _ (by omega) (LE_u hN rfl) x3 x5
    have b6 : ∀ m', m' < m → Pm m' (fun k => x_side k 6 N1 τ1) (fun k => x_side k 6 N2 τ2) (KQ h1 h2 4004) := fun m' hm' => by
      refine Pm_suc rfl (fun k => by rw [x_side]) (fun k => by rw [x_side]) (fun k2 hk2 => ?_)
      exact b7 k2 _ _ (by omega) (LE_u hN rfl) x3 x5
    refine Pm_ite (by rw [hN 4 (by omega)]) (fun _ _ => ?_) (fun _ _ => b5 k1 (by omega))
    refine Pm_chk (fun _ _ => ?_)
    exact Pm_ite (VC_0 (hK.2.2 j hjw)) (fun _ _ => b5 k1 (by omega)) (fun _ _ => b6 k1 (by omega))
  have lp : ∀ (m i : Nat) (N1 N2 : Nat → Int32) (τ1 τ2 : MS), i ≤ p → LE3 N1 N2 → N1 1 = nI v1 → N2 1 = nI v2 → N1 2 = nI c → N2 2 = nI c → N1 3 = nI f → N1 4 = nI i → KPu g1 g2 f i σ1 σ2 τ1 τ2 → Pm m (fun k => x_side k 2 N1 τ1) (fun k => x_side k 2 N2 τ2) (KQ h1 h2 4004) := by
    intro m
    induction m using Nat.strongRecOn with
    | ind m ih =>
    intro i N1 N2 τ1 τ2 hi hN a1 c1 a2 c2 a3 a4 hK
    have c4 : N2 4 = nI i := (hN 4 (by omega)).symm.trans a4
    have a28 : τ1.2.2 28 = σ1.2.2 28 := hK.1.2.1 28 (by decide)
    have b28 : τ2.2.2 28 = σ2.2.2 28 := hK.2.1.2.1 28 (by decide)
    refine Pm_suc rfl (fun k => by rw [x_side]) (fun k => by rw [x_side]) (fun k1 hk1 => ?_)
    rw [a1, c1, a2, c2, a4, c4, n_add1 v1, n_add1 v2, n_cl (p := v1 + 1) (by omega), n_cl (p := v2 + 1) (by omega), a28, b28, o11, o12, show nI v1 + 4 = nI (v1 + 4) from n_add (q := 4) (by omega), show nI v2 + 4 = nI (v2 + 4) from n_add (q := 4) (by omega), n_add (p := v1 + 4) (by omega), n_add (p := v2 + 4) (by omega), n_cl (p := v1 + 4 + i) (by omega), n_cl (p := v2 + 4 + i) (by omega)]
    refine Pm_chk (fun _ _ => ?_)
    refine Pm_ite Iff.rfl (fun y _ => ?_) (fun y _ => ?_)
    · refine Pm_suc rfl (fun k => by rw [x_side]) (fun k => by rw [x_side]) (fun k2 hk2 => ?_)
      exact b4 k2 0 i _ _ _ _ (Nat.zero_le _) (by omega) (LE_u (LE_u hN rfl) (hN 3 (by omega))) a3 a3 hK
    have hip : i < p := by
      by_cases e : p ≤ i
      · exact absurd ((n_le (by omega) (by omega)).mpr e) y
      · omega
    obtain ⟨u, v, u1, u2, u3, u4, u5, u6, u7⟩ := hM i hip
    rw [u1, u2, show nI u + 4 = nI (u + 4) from n_add (q := 4) (by omega), show nI v + 4 = nI (v + 4) from n_add (q := 4) (by omega), n_add (p := u + 4) (by omega), n_add (p := v + 4) (by omega), n_cl (p := u + 4 + c) (by omega), n_cl (p := v + 4 + c) (by omega)]
    refine Pm_chk (fun _ _ => ?_)
    refine Pm_chk (fun _ _ => ?_)
    have hvc : VC g1 g2 (σ1.2.2 28) (σ2.2.2 28) (σ1.2.2 28 (u + 4 + c)) (σ2.2.2 28 (v + 4 + c)) := by
      have : c = 0 ∨ c = 1 := by omega
      rcases this with rfl | rfl
      · exact u6
      · exact u7
    exact Pm_ob (k_push hK (by omega) hvc rfl rfl) (fun s1 s2 hs => ih k1 (by omega) (i + 1) _ _ _ _ (by omega) (LE_u hN rfl) a1 c1 a2 c2 a3 (by show nI i + 1 = _; rw [n_add1]) hs)
  refine Pm_suc rfl (fun k => by rw [x_side]) (fun k => by rw [x_side]) (fun m2 _ => ?_)
  rw [t1, t2]
  exact lp m2 0 _ _ _ _ (Nat.zero_le _) (LE_u (LE_u hL rfl) rfl) d1 f1 d2 f2 rfl rfl (KPu_0 t1 t2)
theorem k_character {v1 v2 : Nat} (hS1 : HS g1 l1 B1 h1 σ1) (hS2 : HS g2 l2 B2 h2 σ2) (e1 : σ1.1 56 = 0) (e2 : σ2.1 56 = 0) (hr1 : h1 + 5 ≤ B1 + 870000) (hr2 : h2 + 5 ≤ B2 + 870000) (hv1 : v1 < 3 ∨ g1 v1) (hv2 : v2 < 3 ∨ g2 v2) (hv : EVb (σ1.2.2 28) (σ2.2.2 28) v1 v2) {L1 L2 : Nat → Int32} (d1 : L1 1 = nI v1) (f1 : L2 1 = nI v2) : Pm n (fun k => x_character k 0 L1 σ1) (fun k => x_character k 0 L2 σ2) (KQ h1 h2 5) := by
  have kv := kdN_6 hS1 hv1
  have b2 : ∀ (m : Nat) (N1 N2 : Nat → Int32), Pm m (fun k => x_character k 2 N1 σ1) (fun k => x_character k 2 N2 σ2) (KQ h1 h2 5) := fun m N1 N2 => by
    refine Pm_suc rfl (fun k => by rw [x_character]) (fun k => by rw [x_character]) (fun m1 _ => ?_)
    refine Pm_ob (k_fail (K := 5) (e := 4) (by decide) hS1 hS2 rfl rfl) (fun r1 r2 hr => ?_)
    rw [hr.1, hr.2.1]
    exact Pm_some hr.2.2
  refine Pm_suc rfl (fun k => by rw [x_character]) (fun k => by rw [x_character]) (fun m1 _ => ?_)
  refine Pm_ob (Pm_t2 (s_kind hS1 hv1 (by exact d1)) (fun k => f_kind k _ _ _) (s_kind hS2 hv2 (by exact f1)) (fun k => f_kind k _ _ _)) (fun r1 r2 hr => ?_)
  rw [hr.1, hr.2, (EVb_sz hv).2.2]
  refine Pm_ite Iff.rfl (fun z _ => ?_) (fun _ _ => Pm_ob (k_wrongKind hS1 hS2 _ _) (fun s1 s2 hs => Pm_some hs))
  have z := (n_eq (q := 2) (by omega) (by decide)).mp z
  obtain ⟨q, hB⟩ := WhE_of hS1 hS2 hv1 hv2 hv z
  refine Pm_suc rfl (fun k => by rw [x_character]) (fun k => by rw [x_character]) (fun m2 _ => ?_)
  refine Pm_ob (Pm_un (s_intOf (b := 255) hS1 hB.1 (by decide) (by exact d1) rfl) (fun k => f_intOf k _ _ _ _) (s_intOf (b := 255) hS2 hB.2.1 (by decide) (by exact f1) rfl) (fun k => f_intOf k _ _ _ _) (k_intOf hS1 hS2 hB (by exact d1) (by exact f1) rfl)) (fun s1 s2 hs => ?_)
  obtain ⟨hr0, ⟨hr1', _⟩, ⟨hr2', _⟩⟩ := hs
  rw [← hr0, hr1', hr2']
  refine Pm_ite Iff.rfl (fun _ _ => b2 m2 _ _) (fun _ _ => ?_)
  refine Pm_ite Iff.rfl (fun _ _ => ?_) (fun _ _ => b2 m2 _ _)
  refine Pm_suc rfl (fun k => by rw [x_character]) (fun k => by rw [x_character]) (fun m3 _ => ?_)
  exact Pm_ob (k_byteString hS1 hS2 e1 e2 hr1 hr2 rfl) (fun u1 u2 hu => Pm_some hu)
theorem k_codeOf {v1 v2 : Nat} (hS1 : HS g1 l1 B1 h1 σ1) (hS2 : HS g2 l2 B2 h2 σ2) (e1 : σ1.1 56 = 0) (e2 : σ2.1 56 = 0) (hr1 : h1 + 70 ≤ B1 + 870000) (hr2 : h2 + 70 ≤ B2 + 870000) (hv1 : v1 < 3 ∨ g1 v1) (hv2 : v2 < 3 ∨ g2 v2) (hv : EVb (σ1.2.2 28) (σ2.2.2 28) v1 v2) {L1 L2 : Nat → Int32} (d1 : L1 1 = nI v1) (f1 : L2 1 = nI v2) : Pm n (fun k => x_codeOf k 0 L1 σ1) (fun k => x_codeOf k 0 L2 σ2) (KQ h1 h2 70) := by
  have kv := kdN_6 hS1 hv1
  refine Pm_suc rfl (fun k => by rw [x_codeOf]) (fun k => by rw [x_codeOf]) (fun m1 _ => ?_)
  refine Pm_ob (Pm_t2 (s_kind hS1 hv1 (by exact d1)) (fun k => f_kind k _ _ _) (s_kind hS2 hv2 (by exact f1)) (fun k => f_kind k _ _ _)) (fun r1 r2 hr => ?_)
  rw [hr.1, hr.2, (EVb_sz hv).2.2]
  refine Pm_ite Iff.rfl (fun z _ => ?_) (fun _ _ => Pm_ob (k_wrongKind hS1 hS2 _ _) (fun s1 s2 hs => Pm_some hs))
  have z := (n_eq (q := 4) (by omega) (by decide)).mp z
  obtain ⟨k, p, hO⟩ := OE_of hS1 hS2 (kdN_ge hS1 hv1 (by omega)) hv2 hv
  obtain ⟨_, _, _, _, _, o6, o7, _, _, _, o11, o12, o13, o14, _, _, o17⟩ := hO
  refine Pm_suc rfl (fun k => by rw [x_codeOf]) (fun k => by rw [x_codeOf]) (fun m2 _ => ?_)
  rw [d1, f1, n_add1, n_add1, n_cl (p := v1 + 1) (by omega), n_cl (p := v2 + 1) (by omega), o11, o12]
  refine Pm_chk (fun _ _ => ?_)
  refine Pm_ite Iff.rfl (fun w _ => ?_) (fun _ _ => ?_)
  · have w := (n_eq (q := 1) (by omega) (by decide)).mp w
    refine Pm_suc rfl (fun k => by rw [x_codeOf]) (fun k => by rw [x_codeOf]) (fun m3 _ => ?_)
    have hc : σ2.2.2 28 (v2 + 4) = σ1.2.2 28 (v1 + 4) := o17 (by omega) 0 (by omega)
    rw [d1, f1, show nI v1 + 4 = nI (v1 + 4) from n_add (q := 4) (by omega), show nI v2 + 4 = nI (v2 + 4) from n_add (q := 4) (by omega), n_cl (p := v1 + 4) (by omega), n_cl (p := v2 + 4) (by omega), hc]
    refine Pm_chk (fun _ _ => ?_)
    exact Pm_ob (k_small hS1 hS2 e1 e2 hr1 hr2 (fun i hi => rfl)) (fun u1 u2 hu => Pm_some hu)
  · refine Pm_ob (k_fail (K := 70) (e := 4) (by decide) hS1 hS2 rfl rfl) (fun u1 u2 hu => ?_)
    rw [hu.1, hu.2.1]
    exact Pm_some hu.2.2
end KSD
end JnS176
section JnS177
/-! Two runs side by side (reference): turned about, slices. -/
section KRV
variable {g1 g2 : Nat → Prop} {l1 l2 : List Nat} {B1 h1 B2 h2 n : Nat} {σ1 σ2 : MS}
theorem k_reversed {f v1 v2 : Nat} (hS1 : HS g1 l1 B1 h1 σ1) (hS2 : HS g2 l2 B2 h2 σ2) (e1 : σ1.1 56 = 0) (e2 : σ2.1 56 = 0) (t1 : σ1.1 59 = nI f) (t2 : σ2.1 59 = nI f) (hf : f ≤ 177000) (hr1 : h1 + 4004 ≤ B1 + 870000) (hr2 : h2 + 4004 ≤ B2 + 870000) (hv1 : v1 < 3 ∨ g1 v1) (hv2 : v2 < 3 ∨ g2 v2) (hv : EVb (σ1.2.2 28) (σ2.2.2 28) v1 v2) {L1 L2 : Nat → Int32} (d1 : L1 1 = nI v1) (f1 : L2 1 = nI v2) (hL : LE3 L1 L2) : Pm n (fun k => x_reversed k 0 L1 σ1) (fun k => x_reversed k 0 L2 σ2) (KQ h1 h2 4004) := by
  have kv := kdN_6 hS1 hv1
  have c1 : (kdN (σ1.2.2 28) v1 = 4 ∨ kdN (σ1.2.2 28) v1 = 5) → ∀ (m : Nat) (N1 N2 : Nat → Int32), LE3 N1 N2 → N1 1 = nI v1 → N2 1 = nI v2 → N1 2 = nI (kdN (σ1.2.2 28) v1) → N2 2 = nI (kdN (σ1.2.2 28) v1) → Pm m (fun k => x_reversed k 1 N1 σ1) (fun k => x_reversed k 1 N2 σ2) (KQ h1 h2 4004) := by
    intro hk m N1 N2 hN x1 y1 x2 y2
    obtain ⟨k, p, hO⟩ := OE_of hS1 hS2 (kdN_ge hS1 hv1 (by omega)) hv2 hv
    obtain ⟨_, _, _, _, _, o6, o7, _, _, _, o11, o12, o13, o14, _, o16, o17⟩ := hO
    refine Pm_suc rfl (fun k => by rw [x_reversed]) (fun k => by rw [x_reversed]) (fun m1 _ => ?_)
    rw [x1, y1, x2, y2, n_add1, n_add1, n_cl (p := v1 + 1) (by omega), n_cl (p := v2 + 1) (by omega), o11, o12]
    refine Pm_chk (fun _ _ => ?_)
    refine Pm_ite Iff.rfl (fun z _ => ?_) (fun z _ => ?_)
    · have z := (n_eq (q := 4) (by omega) (by decide)).mp z
      have ca := o17 (by omega)
      have lp : ∀ (m i : Nat) (N1 N2 : Nat → Int32) (τ1 τ2 : MS), i ≤ p → LE3 N1 N2 → N1 1 = nI v1 → N2 1 = nI v2 → N1 3 = nI p → N1 4 = nI i → (∀ j, τ1.1 j = σ1.1 j) → (∀ j, τ2.1 j = σ2.1 j) → (∀ j, j ≠ 51 → τ1.2.2 j = σ1.2.2 j) → (∀ j, j ≠ 51 → τ2.2.2 j = σ2.2.2 j) → AgN (τ1.2.2 51) (τ2.2.2 51) i → Pm m (fun k => x_reversed k 2 N1 τ1) (fun k => x_reversed k 2 N2 τ2) (KQ h1 h2 4004) := by
        intro m
        induction m using Nat.strongRecOn with
        | ind m ih =>
        intro i N1 N2 τ1 τ2 hi hN x1 y1 x3 x4 s1 s2 u1 u2 hC
        have y3 : N2 3 = nI p := (hN 3 (by omega)).symm.trans x3
        have y4 : N2 4 = nI i := (hN 4 (by omega)).symm.trans x4
        refine Pm_suc rfl (fun k => by rw [x_reversed]) (fun k => by rw [x_reversed]) (fun k1 hk1 => ?_)
        rw [x1, y1, x3, y3, x4, y4]
        refine Pm_ite Iff.rfl (fun y _ => ?_) (fun y _ => ?_)
        · have y := (n_le (by omega) (by omega)).mp y
          have e : i = p := by omega
          rw [e] at hC
          refine Pm_suc rfl (fun k => by rw [x_reversed]) (fun k => by rw [x_reversed]) (fun k2 hk2 => ?_)
          rw [x3, y3]
          exact Pm_ob (k_stringOf51 (f1 := 0) (f2 := 0) (w := p) (HS_c hS1 (s1 54) (s1 55) (u1 28 (by decide))) (HS_c hS2 (s2 54) (s2 55) (u2 28 (by decide))) ((s1 56).trans e1) ((s2 56).trans e2) hr1 hr2 (by omega) (fun _ => by omega) (fun _ => by omega) (fun i hi => by rw [Nat.zero_add]; exact hC i hi) rfl rfl rfl rfl) (fun r1 r2 hr => Pm_some hr)
        have hip : i < p := by
          by_cases e : p ≤ i
          · exact absurd ((n_le (by omega) (by omega)).mpr e) y
          · omega
        rw [show nI v1 + 4 = nI (v1 + 4) from n_add (q := 4) (by omega), show nI v2 + 4 = nI (v2 + 4) from n_add (q := 4) (by omega), n_add (p := v1 + 4) (by omega), n_add (p := v2 + 4) (by omega), show nI (v1 + 4 + p) - 1 = nI (v1 + 4 + p - 1) from n_sub (p := v1 + 4 + p) (q := 1) (by omega) (by omega), show nI (v2 + 4 + p) - 1 = nI (v2 + 4 + p - 1) from n_sub (p := v2 + 4 + p) (q := 1) (by omega) (by omega), n_sub (p := v1 + 4 + p - 1) (by omega) (by omega), n_sub (p := v2 + 4 + p - 1) (by omega) (by omega), n_cl (p := v1 + 4 + p - 1 - i) (by omega), n_cl (p := v2 + 4 + p - 1 - i) (by omega), n_cl (p := i) (by omega)]
        refine Pm_chk (fun _ _ => ?_)
        refine Pm_chk (fun _ _ => ?_)
        show Pm k1 (fun k => x_reversed k 3 N1 (mAr τ1 51 i (τ1.2.2 28 (v1 + 4 + p - 1 - i)))) (fun k => x_reversed k 3 N2 (mAr τ2 51 i (τ2.2.2 28 (v2 + 4 + p - 1 - i)))) _
        refine Pm_suc rfl (fun k => by rw [x_reversed]) (fun k => by rw [x_reversed]) (fun k2 hk2 => ?_)
        refine ih k2 (by omega) (i + 1) _ _ _ _ (by omega) (LE_u hN (by rw [x4, y4])) x1 y1 x3 (by show N1 4 + 1 = _; rw [x4, n_add1]) s1 s2 (fun j hj => (mAr_o hj).trans (u1 j hj)) (fun j hj => (mAr_o hj).trans (u2 j hj)) ?_
        rw [mAr_s, mAr_s]
        refine AgN_up hC ?_
        rw [u1 28 (by decide), u2 28 (by decide), show v1 + 4 + p - 1 - i = v1 + 4 + (p - 1 - i) by omega, show v2 + 4 + p - 1 - i = v2 + 4 + (p - 1 - i) by omega]
        exact (ca (p - 1 - i) (by omega)).symm
      exact lp m1 0 _ _ _ _ (Nat.zero_le _) (LE_u (LE_u hN rfl) rfl) x1 y1 rfl rfl (fun _ => rfl) (fun _ => rfl) (fun _ _ => rfl) (fun _ _ => rfl) (fun i hi => absurd hi (Nat.not_lt_zero i))
    · have hk5 : 5 ≤ k := by
        rcases hk with e | e
        · exact absurd (by rw [e]; rfl) z
        · omega
      have ca := o16 hk5
      have lp : ∀ (m i w : Nat) (N1 N2 : Nat → Int32) (τ1 τ2 : MS), i + w = p → LE3 N1 N2 → N1 1 = nI v1 → N2 1 = nI v2 → N1 4 = nI f → N1 5 = nI i - 1 → KPu g1 g2 f w σ1 σ2 τ1 τ2 → Pm m (fun k => x_reversed k 6 N1 τ1) (fun k => x_reversed k 6 N2 τ2) (KQ h1 h2 4004) := by
        intro m
        induction m using Nat.strongRecOn with
        | ind m ih =>
        intro i w N1 N2 τ1 τ2 hi hN x1 y1 x4 x5 hK
        have y4 : N2 4 = nI f := (hN 4 (by omega)).symm.trans x4
        have y5 : N2 5 = nI i - 1 := (hN 5 (by omega)).symm.trans x5
        refine Pm_suc rfl (fun k => by rw [x_reversed]) (fun k => by rw [x_reversed]) (fun k1 hk1 => ?_)
        rcases Nat.eq_zero_or_pos i with i0 | i0
        · rw [x5, y5, i0]
          refine Pm_ite Iff.rfl (fun _ _ => ?_) (fun w _ => absurd (by decide) w)
          refine Pm_suc rfl (fun k => by rw [x_reversed]) (fun k => by rw [x_reversed]) (fun k2 hk2 => ?_)
          exact Pm_ob (k_tupP hK hS1 hS2 e1 e2 (by omega) (by omega) (by omega) (by exact x4) (by exact y4)) (fun r1 r2 hr => Pm_some (KQ_mo hr (by omega)))
        have x5 : N1 5 = nI (i - 1) := by rw [x5]; exact n_sub (p := i) (q := 1) (by omega) (by omega)
        have y5 : N2 5 = nI (i - 1) := by rw [y5]; exact n_sub (p := i) (q := 1) (by omega) (by omega)
        have a28 : τ1.2.2 28 = σ1.2.2 28 := hK.1.2.1 28 (by decide)
        have b28 : τ2.2.2 28 = σ2.2.2 28 := hK.2.1.2.1 28 (by decide)
        rw [x1, y1, x5, y5, show nI v1 + 4 = nI (v1 + 4) from n_add (q := 4) (by omega), show nI v2 + 4 = nI (v2 + 4) from n_add (q := 4) (by omega), n_add (p := v1 + 4) (by omega), n_add (p := v2 + 4) (by omega), n_cl (p := v1 + 4 + (i - 1)) (by omega), n_cl (p := v2 + 4 + (i - 1)) (by omega), a28, b28]
        refine Pm_ite Iff.rfl (fun w _ => absurd ((n_lt (q := 0) (by omega) (by decide)).mp w) (by omega)) (fun _ _ => ?_)
        refine Pm_chk (fun _ _ => ?_)
        refine Pm_ob (k_push hK (by omega) (ca (i - 1) (by omega)) rfl rfl) (fun r1 r2 hr => ih k1 (by omega) (i - 1) (w + 1) _ _ _ _ (by omega) (LE_u hN rfl) x1 y1 x4 ?_ hr)
        show nI (i - 1) + (-1) = nI (i - 1) - 1
        rw [Int32.sub_eq_add_neg]
      refine Pm_suc rfl (fun k => by rw [x_reversed]) (fun k => by rw [x_reversed]) (fun k1 hk1 => ?_)
      rw [t1, t2]
      exact lp k1 p 0 _ _ _ _ (by omega) (LE_u (LE_u (LE_u hN rfl) rfl) rfl) x1 y1 rfl rfl (KPu_0 t1 t2)
  refine Pm_suc rfl (fun k => by rw [x_reversed]) (fun k => by rw [x_reversed]) (fun m1 _ => ?_)
  refine Pm_ob (Pm_t2 (s_kind hS1 hv1 (by exact d1)) (fun k => f_kind k _ _ _) (s_kind hS2 hv2 (by exact f1)) (fun k => f_kind k _ _ _)) (fun r1 r2 hr => ?_)
  rw [hr.1, hr.2, (EVb_sz hv).2.2]
  refine Pm_ite Iff.rfl (fun z _ => c1 (Or.inl ((n_eq (q := 4) (by omega) (by decide)).mp z)) m1 _ _ (LE_u hL rfl) d1 f1 rfl rfl) (fun _ _ => ?_)
  refine Pm_ite Iff.rfl (fun z _ => c1 (Or.inr ((n_eq (q := 5) (by omega) (by decide)).mp z)) m1 _ _ (LE_u hL rfl) d1 f1 rfl rfl) (fun _ _ => ?_)
  exact Pm_ob (k_wrongKind hS1 hS2 _ _) (fun s1 s2 hs => Pm_some hs)
/-- the bounds of a slice are read alike -/
def SlE (g1 : Nat → Prop) (σ1 σ2 : MS) (v1 : Nat) (r1 r2 : Int32 × MS) : Prop := (r1 = (0, mEr σ1 1) ∧ r2 = (0, mEr σ2 1)) ∨ (r1.1 = 1 ∧ r2.1 = 1 ∧ g1 v1 ∧ (kdN (σ1.2.2 28) v1 = 4 ∨ kdN (σ1.2.2 28) v1 = 5) ∧ ∃ x z : Int32, ∃ y w : Nat, y ≤ 100001 ∧ w ≤ 100001 ∧ (x = nI y ∨ x = - nI y) ∧ (z = nI w ∨ z = - nI w) ∧ r1.2 = mSc (mSc σ1 100 x) 101 z ∧ r2.2 = mSc (mSc σ2 100 x) 101 z)
theorem k_isSlice {v1 v2 a1 a2 b1 b2 : Nat} (hS1 : HS g1 l1 B1 h1 σ1) (hS2 : HS g2 l2 B2 h2 σ2) (hv1 : v1 < 3 ∨ g1 v1) (hv2 : v2 < 3 ∨ g2 v2) (hv : EVb (σ1.2.2 28) (σ2.2.2 28) v1 v2) (ha1 : a1 < 3 ∨ g1 a1) (ha2 : a2 < 3 ∨ g2 a2) (va : EVb (σ1.2.2 28) (σ2.2.2 28) a1 a2) (hb1 : b1 < 3 ∨ g1 b1) (hb2 : b2 < 3 ∨ g2 b2) (vb : EVb (σ1.2.2 28) (σ2.2.2 28) b1 b2) {L1 L2 : Nat → Int32} (d1 : L1 1 = nI v1) (f1 : L2 1 = nI v2) (d2 : L1 2 = nI a1) (f2 : L2 2 = nI a2) (d3 : L1 3 = nI b1) (f3 : L2 3 = nI b2) : Pm n (fun k => x_isSlice k 0 L1 σ1) (fun k => x_isSlice k 0 L2 σ2) (SlE g1 σ1 σ2 v1) := by
  have kv := kdN_6 hS1 hv1
  have ka := kdN_6 hS1 ha1
  have kb := kdN_6 hS1 hb1
  have c2 : ∀ (m : Nat) (N1 N2 : Nat → Int32), Pm m (fun k => x_isSlice k 2 N1 σ1) (fun k => x_isSlice k 2 N2 σ2) (SlE g1 σ1 σ2 v1) := fun m N1 N2 => by
    refine Pm_suc rfl (fun k => by rw [x_isSlice]) (fun k => by rw [x_isSlice]) (fun m1 _ => ?_)
    refine Pm_ob (k_fail (K := 5) (e := 1) (by decide) hS1 hS2 rfl rfl) (fun r1 r2 hr => ?_)
    rw [hr.1, hr.2.1]
    exact Pm_some (Or.inl ⟨rfl, rfl⟩)
  have c1 : (kdN (σ1.2.2 28) v1 = 4 ∨ kdN (σ1.2.2 28) v1 = 5) → ∀ (m : Nat) (N1 N2 : Nat → Int32), N1 2 = nI a1 → N2 2 = nI a2 → N1 3 = nI b1 → N2 3 = nI b2 → Pm m (fun k => x_isSlice k 1 N1 σ1) (fun k => x_isSlice k 1 N2 σ2) (SlE g1 σ1 σ2 v1) := by
    intro hk m N1 N2 x2 y2 x3 y3
    refine Pm_suc rfl (fun k => by rw [x_isSlice]) (fun k => by rw [x_isSlice]) (fun m1 _ => ?_)
    refine Pm_ob (Pm_t2 (s_kind hS1 ha1 (by exact x2)) (fun k => f_kind k _ _ _) (s_kind hS2 ha2 (by exact y2)) (fun k => f_kind k _ _ _)) (fun r1 r2 hr => ?_)
    rw [hr.1, hr.2, (EVb_sz va).2.2]
    refine Pm_ite Iff.rfl (fun w _ => ?_) (fun _ _ => c2 m1 _ _)
    have w := (n_eq (q := 2) (by omega) (by decide)).mp w
    refine Pm_ob (Pm_t2 (s_kind hS1 hb1 (by exact x3)) (fun k => f_kind k _ _ _) (s_kind hS2 hb2 (by exact y3)) (fun k => f_kind k _ _ _)) (fun r1 r2 hr => ?_)
    rw [hr.1, hr.2, (EVb_sz vb).2.2]
    refine Pm_ite Iff.rfl (fun w2 _ => ?_) (fun _ _ => c2 m1 _ _)
    have w2 := (n_eq (q := 2) (by omega) (by decide)).mp w2
    obtain ⟨p, hA⟩ := WhE_of hS1 hS2 ha1 ha2 va w
    obtain ⟨q, hB⟩ := WhE_of hS1 hS2 hb1 hb2 vb w2
    refine Pm_suc rfl (fun k => by rw [x_isSlice]) (fun k => by rw [x_isSlice]) (fun m2 _ => ?_)
    refine Pm_ob (Pm_un (s_intOf (b := 100000) hS1 hA.1 (by decide) (by exact x2) rfl) (fun k => f_intOf k _ _ _ _) (s_intOf (b := 100000) hS2 hA.2.1 (by decide) (by exact y2) rfl) (fun k => f_intOf k _ _ _ _) (k_intOf hS1 hS2 hA (by exact x2) (by exact y2) rfl)) (fun s1 s2 hs => ?_)
    obtain ⟨hr0, ⟨hr1', y, u1, u2, u3⟩, ⟨hr2', _⟩⟩ := hs
    rw [← hr0, hr1', hr2']
    show Pm m2 (fun k => x_isSlice k 4 N1 (mSc σ1 100 s1.1)) (fun k => x_isSlice k 4 N2 (mSc σ2 100 s1.1)) _
    refine Pm_suc rfl (fun k => by rw [x_isSlice]) (fun k => by rw [x_isSlice]) (fun m3 _ => ?_)
    have hT1 : HS g1 l1 B1 h1 (mSc σ1 100 s1.1) := HS_c hS1 rfl rfl rfl
    have hT2 : HS g2 l2 B2 h2 (mSc σ2 100 s1.1) := HS_c hS2 rfl rfl rfl
    have hB' : WhE (mSc σ1 100 s1.1) (mSc σ2 100 s1.1) b1 b2 q := hB
    refine Pm_ob (Pm_un (s_intOf (b := 100000) hT1 hB'.1 (by decide) (by exact x3) rfl) (fun k => f_intOf k _ _ _ _) (s_intOf (b := 100000) hT2 hB'.2.1 (by decide) (by exact y3) rfl) (fun k => f_intOf k _ _ _ _) (k_intOf hT1 hT2 hB' (by exact x3) (by exact y3) rfl)) (fun z1 z2 hz => ?_)
    obtain ⟨hz0, ⟨hz1', w', w1, w2', w3⟩, ⟨hz2', _⟩⟩ := hz
    rw [← hz0, hz1', hz2']
    show Pm m3 (fun k => x_isSlice k 5 N1 (mSc (mSc σ1 100 s1.1) 101 z1.1)) (fun k => x_isSlice k 5 N2 (mSc (mSc σ2 100 s1.1) 101 z1.1)) _
    refine Pm_suc rfl (fun k => by rw [x_isSlice]) (fun k => by rw [x_isSlice]) (fun m4 _ => ?_)
    exact Pm_some (Or.inr ⟨rfl, rfl, kdN_ge hS1 hv1 (by omega), hk, s1.1, z1.1, y, w', u1, w1, u2, w2', rfl, rfl⟩)
  refine Pm_suc rfl (fun k => by rw [x_isSlice]) (fun k => by rw [x_isSlice]) (fun m1 _ => ?_)
  refine Pm_ob (Pm_t2 (s_kind hS1 hv1 (by exact d1)) (fun k => f_kind k _ _ _) (s_kind hS2 hv2 (by exact f1)) (fun k => f_kind k _ _ _)) (fun r1 r2 hr => ?_)
  rw [hr.1, hr.2, (EVb_sz hv).2.2]
  refine Pm_ite Iff.rfl (fun z _ => c1 (Or.inl ((n_eq (q := 4) (by omega) (by decide)).mp z)) m1 _ _ d2 f2 d3 f3) (fun _ _ => ?_)
  exact Pm_ite Iff.rfl (fun z _ => c1 (Or.inr ((n_eq (q := 5) (by omega) (by decide)).mp z)) m1 _ _ d2 f2 d3 f3) (fun _ _ => c2 m1 _ _)
end KRV
end JnS177
section JnS178
/-! Two runs side by side (reference): slices, what is drawn, what is left without one. -/
section KSL
variable {g1 g2 : Nat → Prop} {l1 l2 : List Nat} {B1 h1 B2 h2 n : Nat} {σ1 σ2 : MS}
theorem k_isSliceIn {v1 v2 p : Nat} {L1 L2 : Nat → Int32} (ov1 : σ1.2.2 28 (v1 + 1) = nI p) (ov2 : σ2.2.2 28 (v2 + 1) = nI p) (ob1 : v1 + 4 + p ≤ 1740000) (ob2 : v2 + 4 + p ≤ 1740000) (h100 : σ1.1 100 = σ2.1 100) (h101 : σ1.1 101 = σ2.1 101) (d1 : L1 1 = nI v1) (f1 : L2 1 = nI v2) : Pm n (fun k => x_isSliceIn k 0 L1 σ1) (fun k => x_isSliceIn k 0 L2 σ2) (fun r1 r2 => r1.1 = r2.1) := by
  have c1 : ∀ (m : Nat) (N1 N2 : Nat → Int32), Pm m (fun k => x_isSliceIn k 1 N1 σ1) (fun k => x_isSliceIn k 1 N2 σ2) (fun r1 r2 => r1.1 = r2.1) := fun m N1 N2 => by
    refine Pm_suc rfl (fun k => by rw [x_isSliceIn]) (fun k => by rw [x_isSliceIn]) (fun m1 _ => ?_)
    refine Pm_ob (Pm_t2 (s_fail _ σ1) (fun k => f_fail k _ _ _) (s_fail _ σ2) (fun k => f_fail k _ _ _)) (fun r1 r2 hr => Pm_some rfl)
  refine Pm_suc rfl (fun k => by rw [x_isSliceIn]) (fun k => by rw [x_isSliceIn]) (fun m1 _ => ?_)
  rw [d1, f1, n_add1, n_add1, n_cl (p := v1 + 1) (by omega), n_cl (p := v2 + 1) (by omega), ov1, ov2, h100, h101]
  refine Pm_ite Iff.rfl (fun _ _ => c1 m1 _ _) (fun _ _ => ?_)
  refine Pm_ite Iff.rfl (fun _ _ => c1 m1 _ _) (fun _ _ => ?_)
  refine Pm_chk (fun _ _ => ?_)
  refine Pm_ite Iff.rfl (fun _ _ => ?_) (fun _ _ => c1 m1 _ _)
  refine Pm_suc rfl (fun k => by rw [x_isSliceIn]) (fun k => by rw [x_isSliceIn]) (fun m2 _ => ?_)
  exact Pm_some rfl
theorem k_slice {f v1 v2 a1 a2 b1 b2 : Nat} (hS1 : HS g1 l1 B1 h1 σ1) (hS2 : HS g2 l2 B2 h2 σ2) (e1 : σ1.1 56 = 0) (e2 : σ2.1 56 = 0) (t1 : σ1.1 59 = nI f) (t2 : σ2.1 59 = nI f) (hf : f ≤ 177000) (hr1 : h1 + 4004 ≤ B1 + 870000) (hr2 : h2 + 4004 ≤ B2 + 870000) (hv1 : v1 < 3 ∨ g1 v1) (hv2 : v2 < 3 ∨ g2 v2) (hv : EVb (σ1.2.2 28) (σ2.2.2 28) v1 v2) (ha1 : a1 < 3 ∨ g1 a1) (ha2 : a2 < 3 ∨ g2 a2) (va : EVb (σ1.2.2 28) (σ2.2.2 28) a1 a2) (hb1 : b1 < 3 ∨ g1 b1) (hb2 : b2 < 3 ∨ g2 b2) (vb : EVb (σ1.2.2 28) (σ2.2.2 28) b1 b2) {L1 L2 : Nat → Int32} (d1 : L1 1 = nI v1) (f1 : L2 1 = nI v2) (d2 : L1 2 = nI a1) (f2 : L2 2 = nI a2) (d3 : L1 3 = nI b1) (f3 : L2 3 = nI b2) (hL : LEn 4 L1 L2) : Pm n (fun k => x_slice k 0 L1 σ1) (fun k => x_slice k 0 L2 σ2) (KQ h1 h2 4004) := by
  have bb1 := HS_b hS1
  have bb2 := HS_b hS2
  have xx1 := hS1.2.1
  have xx2 := hS2.2.1
  have c1 : ∀ (m : Nat) (N1 N2 : Nat → Int32) (τ1 τ2 : MS), KQ h1 h2 4004 ((0 : Int32), τ1) ((0 : Int32), τ2) → Pm m (fun k => x_slice k 1 N1 τ1) (fun k => x_slice k 1 N2 τ2) (KQ h1 h2 4004) := fun m N1 N2 τ1 τ2 hr => by
    refine Pm_suc rfl (fun k => by rw [x_slice]) (fun k => by rw [x_slice]) (fun m1 _ => ?_)
    exact Pm_some hr
  refine Pm_suc rfl (fun k => by rw [x_slice]) (fun k => by rw [x_slice]) (fun m1 _ => ?_)
  refine Pm_ob (k_isSlice hS1 hS2 hv1 hv2 hv ha1 ha2 va hb1 hb2 vb (by exact d1) (by exact f1) (by exact d2) (by exact f2) (by exact d3) (by exact f3)) (fun r1 r2 hr => ?_)
  rcases hr with ⟨hr1, hr2⟩ | ⟨q1, q2, gv, hk, x, z, y, w, hy, hw, hx, hz, s1, s2⟩
  · rw [hr1, hr2]
    exact Pm_ite Iff.rfl (fun _ _ => c1 m1 _ _ _ _ (k_er (by decide) hS1 hS2)) (fun w _ => absurd rfl w)
  rw [q1, q2, s1, s2]
  refine Pm_ite Iff.rfl (fun w _ => absurd (show (1 : Int32) = 0 from w) (by decide)) (fun _ _ => ?_)
  have hT1 : HS g1 l1 B1 h1 (mSc (mSc σ1 100 x) 101 z) := HS_c hS1 rfl rfl rfl
  have hT2 : HS g2 l2 B2 h2 (mSc (mSc σ2 100 x) 101 z) := HS_c hS2 rfl rfl rfl
  have e1' : (mSc (mSc σ1 100 x) 101 z).1 56 = 0 := e1
  have e2' : (mSc (mSc σ2 100 x) 101 z).1 56 = 0 := e2
  have t1' : (mSc (mSc σ1 100 x) 101 z).1 59 = nI f := t1
  have t2' : (mSc (mSc σ2 100 x) 101 z).1 59 = nI f := t2
  have hv' : EVb ((mSc (mSc σ1 100 x) 101 z).2.2 28) ((mSc (mSc σ2 100 x) 101 z).2.2 28) v1 v2 := hv
  have hk' : kdN ((mSc (mSc σ1 100 x) 101 z).2.2 28) v1 = 4 ∨ kdN ((mSc (mSc σ1 100 x) 101 z).2.2 28) v1 = 5 := hk
  have x1 : (mSc (mSc σ1 100 x) 101 z).1 100 = nI y ∨ (mSc (mSc σ1 100 x) 101 z).1 100 = - nI y := hx
  have z1 : (mSc (mSc σ1 100 x) 101 z).1 101 = nI w ∨ (mSc (mSc σ1 100 x) 101 z).1 101 = - nI w := hz
  have x2 : (mSc (mSc σ2 100 x) 101 z).1 100 = nI y ∨ (mSc (mSc σ2 100 x) 101 z).1 100 = - nI y := hx
  have z2 : (mSc (mSc σ2 100 x) 101 z).1 101 = nI w ∨ (mSc (mSc σ2 100 x) 101 z).1 101 = - nI w := hz
  have w1 : (mSc (mSc σ1 100 x) 101 z).1 100 = (mSc (mSc σ2 100 x) 101 z).1 100 := rfl
  have w2 : (mSc (mSc σ1 100 x) 101 z).1 101 = (mSc (mSc σ2 100 x) 101 z).1 101 := rfl
  generalize mSc (mSc σ1 100 x) 101 z = ρ1 at hT1 e1' t1' hv' hk' x1 z1 w1 w2
  generalize mSc (mSc σ2 100 x) 101 z = ρ2 at hT2 e2' t2' hv' x2 z2 w1 w2
  obtain ⟨k, p, hO⟩ := OE_of hT1 hT2 gv hv2 hv'
  obtain ⟨_, _, _, _, _, o6, o7, _, o9, o10, o11, o12, o13, o14, _, o16, o17⟩ := hO
  refine Pm_ob (Pm_un (s_isSliceIn hT1 o11 o6 o13 hy hw x1 z1 (by exact d1)) (fun k => f_isSliceIn k _ _ _) (s_isSliceIn hT2 o12 o6 o14 hy hw x2 z2 (by exact f1)) (fun k => f_isSliceIn k _ _ _) (k_isSliceIn o11 o12 o13 o14 w1 w2 (by exact d1) (by exact f1))) (fun u1 u2 hu => ?_)
  obtain ⟨hu0, hu1, hu2⟩ := hu
  rcases hu1 with hu1 | ⟨hu1, q11, q12, q13, q14, q15⟩
  · rcases hu2 with hu2 | ⟨hu2, _⟩
    · rw [hu1, hu2]
      exact Pm_ite Iff.rfl (fun _ _ => c1 m1 _ _ _ _ (k_er (by decide) hT1 hT2)) (fun w _ => absurd rfl w)
    · rw [hu1, hu2] at hu0
      exact absurd hu0 (show ¬ (0 : Int32) = 1 by decide)
  rcases hu2 with hu2 | ⟨hu2, q21, q22, _, _, _⟩
  · rw [hu1, hu2] at hu0
    exact absurd hu0 (show ¬ (1 : Int32) = 0 by decide)
  rw [hu1, hu2]
  refine Pm_ite Iff.rfl (fun w _ => absurd (show (1 : Int32) = 0 from w) (by decide)) (fun _ _ => ?_)
  show Pm m1 (fun k => x_slice k 2 L1 ρ1) (fun k => x_slice k 2 L2 ρ2) _
  refine Pm_suc rfl (fun k => by rw [x_slice]) (fun k => by rw [x_slice]) (fun m2 _ => ?_)
  rw [d1, f1, q11, q12, q21, q22, n_len (by omega) q14, show nI v1 + 3 = nI (v1 + 3) from n_add (q := 3) (by omega), show nI v2 + 3 = nI (v2 + 3) from n_add (q := 3) (by omega), n_add (p := v1 + 3) (by omega), n_add (p := v2 + 3) (by omega), n_cl (p := v1) (by omega), n_cl (p := v2) (by omega), o9, o10]
  have kk : k = 4 ∨ k = 5 := by omega
  refine Pm_chk (fun _ _ => ?_)
  refine Pm_ite Iff.rfl (fun c _ => ?_) (fun c _ => ?_)
  · have c := (n_eq (q := 4) (by omega) (by decide)).mp c
    have ca := o17 (by omega)
    have m1' := ob_at hT1 gv
    obtain ⟨p1, u11, u12, u13, u14, u15, u16, u17⟩ := ob_at hT1 gv
    obtain ⟨p2, u21, u22, u23, u24, u25, u26, u27⟩ := ob_at hT2 (kdN_ge hT2 hv2 (by rw [(EVb_sz hv').2.2]; omega))
    have i1 : p1 = p := (n_eq (by omega) (by omega)).mp (u11.symm.trans o11)
    have i2 : p2 = p := (n_eq (by omega) (by omega)).mp (u21.symm.trans o12)
    refine Pm_ob (k_stringOf28 (f1 := v1 + 3 + y) (f2 := v2 + 3 + y) (w := w + 1 - y) hT1 hT2 e1' e2' hr1 hr2 (by omega) (fun _ => by omega) (fun _ => by omega) (fun i hi => ?_) rfl rfl rfl rfl) (fun r1 r2 hr => Pm_some hr)
    rw [show v1 + 3 + y + i = v1 + 4 + (y - 1 + i) by omega, show v2 + 3 + y + i = v2 + 4 + (y - 1 + i) by omega]
    exact (ca (y - 1 + i) (by omega)).symm
  have k5 : 5 ≤ k := by
    rcases kk with e | e
    · exact absurd (by rw [e]; rfl) c
    · omega
  have ca := o16 k5
  have lp : ∀ (m i : Nat) (N1 N2 : Nat → Int32) (τ1 τ2 : MS), i ≤ w + 1 - y → LEn 4 N1 N2 → N1 1 = nI v1 → N2 1 = nI v2 → N1 4 = nI (w + 1 - y) → N1 5 = nI f → N1 6 = nI i → KPu g1 g2 f i ρ1 ρ2 τ1 τ2 → Pm m (fun k => x_slice k 4 N1 τ1) (fun k => x_slice k 4 N2 τ2) (KQ h1 h2 4004) := by
    intro m
    induction m using Nat.strongRecOn with
    | ind m ih =>
    intro i N1 N2 τ1 τ2 hi hN x1 y1 x4 x5 x6 hK
    have y4 : N2 4 = nI (w + 1 - y) := (hN 4 (by omega)).symm.trans x4
    have y5 : N2 5 = nI f := (hN 5 (by omega)).symm.trans x5
    have y6 : N2 6 = nI i := (hN 6 (by omega)).symm.trans x6
    have a28 : τ1.2.2 28 = ρ1.2.2 28 := hK.1.2.1 28 (by decide)
    have b28 : τ2.2.2 28 = ρ2.2.2 28 := hK.2.1.2.1 28 (by decide)
    have a100 : τ1.1 100 = nI y := (hK.1.1 100 (by decide)).trans q11
    have b100 : τ2.1 100 = nI y := (hK.2.1.1 100 (by decide)).trans q21
    refine Pm_suc rfl (fun k => by rw [x_slice]) (fun k => by rw [x_slice]) (fun k1 hk1 => ?_)
    rw [x1, y1, x4, y4, x6, y6, a28, b28, a100, b100]
    refine Pm_ite Iff.rfl (fun y _ => ?_) (fun y' _ => ?_)
    · refine Pm_suc rfl (fun k => by rw [x_slice]) (fun k => by rw [x_slice]) (fun k2 hk2 => ?_)
      exact Pm_ob (k_tupP hK hT1 hT2 e1' e2' (by omega) (by omega) (by omega) (by exact x5) (by exact y5)) (fun r1 r2 hr => Pm_some (KQ_mo hr (by omega)))
    have hip : i < w + 1 - y := by
      by_cases e : w + 1 - y ≤ i
      · exact absurd ((n_le (by omega) (by omega)).mpr e) y'
      · omega
    rw [show nI v1 + 3 = nI (v1 + 3) from n_add (q := 3) (by omega), show nI v2 + 3 = nI (v2 + 3) from n_add (q := 3) (by omega), n_add (p := v1 + 3) (by omega), n_add (p := v2 + 3) (by omega), n_add (p := v1 + 3 + y) (by omega), n_add (p := v2 + 3 + y) (by omega), n_cl (p := v1 + 3 + y + i) (by omega), n_cl (p := v2 + 3 + y + i) (by omega)]
    refine Pm_chk (fun _ _ => ?_)
    have hc : VC g1 g2 (ρ1.2.2 28) (ρ2.2.2 28) (ρ1.2.2 28 (v1 + 3 + y + i)) (ρ2.2.2 28 (v2 + 3 + y + i)) := by
      rw [show v1 + 3 + y + i = v1 + 4 + (y - 1 + i) by omega, show v2 + 3 + y + i = v2 + 4 + (y - 1 + i) by omega]
      exact ca (y - 1 + i) (by omega)
    exact Pm_ob (k_push hK (by omega) hc rfl rfl) (fun r1 r2 hr => ih k1 (by omega) (i + 1) _ _ _ _ (by omega) (LEn_u hN rfl) x1 y1 x4 x5 (by show nI i + 1 = _; rw [n_add1]) hr)
  refine Pm_suc rfl (fun k => by rw [x_slice]) (fun k => by rw [x_slice]) (fun m3 _ => ?_)
  rw [t1', t2']
  exact lp m3 0 _ _ _ _ (Nat.zero_le _) (LEn_u (LEn_u (LEn_u hL rfl) rfl) rfl) d1 f1 rfl rfl rfl (KPu_0 t1' t2')
end KSL
end JnS178

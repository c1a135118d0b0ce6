/-! Two runs side by side (reference): all operators (made by op2.py). -/
section KOP
variable {g1 g2 : Nat → Prop} {l1 l2 : List Nat} {B1 h1 B2 h2 n : Nat} {σ1 σ2 : MS}
theorem LE3_a {x1 x2 y1 y2 z : Int32} : LE3 (upd (upd (upd (fun _ => 0) 1 x1) 2 y1) 3 z) (upd (upd (upd (fun _ => 0) 1 x2) 2 y2) 3 z) := fun i hi => by
  by_cases e : i = 3
  · rw [e]; rfl
  · rw [upd_other e, upd_other (by omega), upd_other (by omega), upd_other e, upd_other (by omega), upd_other (by omega)]
theorem LE3_b {x1 x2 y1 y2 : Int32} : LE3 (upd (upd (fun _ => 0) 1 x1) 2 y1) (upd (upd (fun _ => 0) 1 x2) 2 y2) := fun i hi => by
  rw [upd_other (by omega), upd_other (by omega), upd_other (by omega), upd_other (by omega)]
theorem k_operate {f a1 a2 b1 b2 : Nat} (hS1 : HS g1 l1 B1 h1 σ1) (hS2 : HS g2 l2 B2 h2 σ2) (e1 : σ1.1 56 = 0) (e2 : σ2.1 56 = 0) (t1 : σ1.1 59 = nI f) (t2 : σ2.1 59 = nI f) (hf : f ≤ 176900) (hr1 : h1 + 8204 ≤ B1 + 870000) (hr2 : h2 + 8204 ≤ B2 + 870000) (ha1 : a1 < 3 ∨ g1 a1) (ha2 : a2 < 3 ∨ g2 a2) (va : EVb (σ1.2.2 28) (σ2.2.2 28) a1 a2) (hb1 : b1 < 3 ∨ g1 b1) (hb2 : b2 < 3 ∨ g2 b2) (vb : EVb (σ1.2.2 28) (σ2.2.2 28) b1 b2) {L1 L2 : Nat → Int32} (d0 : L1 1 = L2 1) (d1 : L1 2 = nI a1) (d2 : L1 3 = nI b1) (f1 : L2 2 = nI a2) (f2 : L2 3 = nI b2) (hL : LEn 4 L1 L2) : Pm n (fun k => x_operate k 0 L1 σ1) (fun k => x_operate k 0 L2 σ2) (KQ h1 h2 8204) := by
  have ka := kdN_6 hS1 ha1
  have kb := kdN_6 hS1 hb1
  have ee : σ1.1 56 = 0 ↔ σ2.1 56 = 0 := by rw [e1, e2]
  have wk : ∀ (m : Nat) (M1 M2 : Nat → Int32), Pm m (fun k => x_wrongKind k 0 M1 σ1) (fun k => x_wrongKind k 0 M2 σ2) (KQ h1 h2 8204) := fun m M1 M2 => k_wrongKind hS1 hS2 M1 M2
  have cmp : ∀ (m : Nat) (M1 M2 : Nat → Int32), M1 1 = nI a1 → M1 2 = nI b1 → M2 1 = nI a2 → M2 2 = nI b2 → Pm m (fun k => x_compare k 0 M1 σ1) (fun k => x_compare k 0 M2 σ2) (fun r1 r2 => r1.1 = r2.1 ∧ r1.2 = σ1 ∧ r2.2 = σ2) := fun m M1 M2 x1 x2 y1 y2 => k_compare hS1 hS2 ha1 hb1 ha2 hb2 va vb x1 x2 y1 y2
  have tru : ∀ (m : Nat) (M1 M2 : Nat → Int32), M1 1 = M2 1 → Pm m (fun k => x_truth k 0 M1 σ1) (fun k => x_truth k 0 M2 σ2) (KQ h1 h2 8204) := fun m M1 M2 h => Pm_mono (k_truth hS1 hS2 ee h) (fun r1 r2 hr => hr.1)
  have z7 : ∀ (m : Nat) (M1 M2 : Nat → Int32) (r1 r2 : Int32 × MS), M1 100 = r1.1 → M2 100 = r2.1 → KQ h1 h2 8204 r1 r2 → Pm m (fun k => x_operate k 7 M1 r1.2) (fun k => x_operate k 7 M2 r2.2) (KQ h1 h2 8204) := fun m M1 M2 r1 r2 u1 u2 hr => by
    refine Pm_suc rfl (fun k => by rw [x_operate]) (fun k => by rw [x_operate]) (fun m3 _ => ?_)
    rw [u1, u2]
    exact Pm_some hr
  have z13 : ∀ (m : Nat) (M1 M2 : Nat → Int32) (r1 r2 : Int32 × MS), M1 100 = r1.1 → M2 100 = r2.1 → KQ h1 h2 8204 r1 r2 → Pm m (fun k => x_operate k 13 M1 r1.2) (fun k => x_operate k 13 M2 r2.2) (KQ h1 h2 8204) := fun m M1 M2 r1 r2 u1 u2 hr => by
    refine Pm_suc rfl (fun k => by rw [x_operate]) (fun k => by rw [x_operate]) (fun m3 _ => ?_)
    rw [u1, u2]
    exact Pm_some hr
  have z16 : ∀ (m : Nat) (M1 M2 : Nat → Int32) (r1 r2 : Int32 × MS), M1 100 = r1.1 → M2 100 = r2.1 → KQ h1 h2 8204 r1 r2 → Pm m (fun k => x_operate k 16 M1 r1.2) (fun k => x_operate k 16 M2 r2.2) (KQ h1 h2 8204) := fun m M1 M2 r1 r2 u1 u2 hr => by
    refine Pm_suc rfl (fun k => by rw [x_operate]) (fun k => by rw [x_operate]) (fun m3 _ => ?_)
    rw [u1, u2]
    exact Pm_some hr
  have z25 : ∀ (m : Nat) (M1 M2 : Nat → Int32) (r1 r2 : Int32 × MS), M1 100 = r1.1 → M2 100 = r2.1 → KQ h1 h2 8204 r1 r2 → Pm m (fun k => x_operate k 25 M1 r1.2) (fun k => x_operate k 25 M2 r2.2) (KQ h1 h2 8204) := fun m M1 M2 r1 r2 u1 u2 hr => by
    refine Pm_suc rfl (fun k => by rw [x_operate]) (fun k => by rw [x_operate]) (fun m3 _ => ?_)
    rw [u1, u2]
    exact Pm_some hr
  have z28 : ∀ (m : Nat) (M1 M2 : Nat → Int32) (r1 r2 : Int32 × MS), M1 100 = r1.1 → M2 100 = r2.1 → KQ h1 h2 8204 r1 r2 → Pm m (fun k => x_operate k 28 M1 r1.2) (fun k => x_operate k 28 M2 r2.2) (KQ h1 h2 8204) := fun m M1 M2 r1 r2 u1 u2 hr => by
    refine Pm_suc rfl (fun k => by rw [x_operate]) (fun k => by rw [x_operate]) (fun m3 _ => ?_)
    rw [u1, u2]
    exact Pm_some hr
  have z35 : ∀ (m : Nat) (M1 M2 : Nat → Int32) (r1 r2 : Int32 × MS), M1 100 = r1.1 → M2 100 = r2.1 → KQ h1 h2 8204 r1 r2 → Pm m (fun k => x_operate k 35 M1 r1.2) (fun k => x_operate k 35 M2 r2.2) (KQ h1 h2 8204) := fun m M1 M2 r1 r2 u1 u2 hr => by
    refine Pm_suc rfl (fun k => by rw [x_operate]) (fun k => by rw [x_operate]) (fun m3 _ => ?_)
    rw [u1, u2]
    exact Pm_some hr
  have w6 : ∀ (m : Nat) (M1 M2 : Nat → Int32), Pm m (fun k => x_operate k 6 M1 σ1) (fun k => x_operate k 6 M2 σ2) (KQ h1 h2 8204) := fun m M1 M2 => by
    refine Pm_suc rfl (fun k => by rw [x_operate]) (fun k => by rw [x_operate]) (fun m3 _ => ?_)
    exact Pm_ob (wk m3 _ _) (fun r1 r2 hr => z7 m3 _ _ r1 r2 rfl rfl hr)
  have w12 : ∀ (m : Nat) (M1 M2 : Nat → Int32), Pm m (fun k => x_operate k 12 M1 σ1) (fun k => x_operate k 12 M2 σ2) (KQ h1 h2 8204) := fun m M1 M2 => by
    refine Pm_suc rfl (fun k => by rw [x_operate]) (fun k => by rw [x_operate]) (fun m3 _ => ?_)
    exact Pm_ob (wk m3 _ _) (fun r1 r2 hr => z13 m3 _ _ r1 r2 rfl rfl hr)
  have w15 : ∀ (m : Nat) (M1 M2 : Nat → Int32), Pm m (fun k => x_operate k 15 M1 σ1) (fun k => x_operate k 15 M2 σ2) (KQ h1 h2 8204) := fun m M1 M2 => by
    refine Pm_suc rfl (fun k => by rw [x_operate]) (fun k => by rw [x_operate]) (fun m3 _ => ?_)
    exact Pm_ob (wk m3 _ _) (fun r1 r2 hr => z16 m3 _ _ r1 r2 rfl rfl hr)
  have w24 : ∀ (m : Nat) (M1 M2 : Nat → Int32), Pm m (fun k => x_operate k 24 M1 σ1) (fun k => x_operate k 24 M2 σ2) (KQ h1 h2 8204) := fun m M1 M2 => by
    refine Pm_suc rfl (fun k => by rw [x_operate]) (fun k => by rw [x_operate]) (fun m3 _ => ?_)
    exact Pm_ob (wk m3 _ _) (fun r1 r2 hr => z25 m3 _ _ r1 r2 rfl rfl hr)
  have w27 : ∀ (m : Nat) (M1 M2 : Nat → Int32), Pm m (fun k => x_operate k 27 M1 σ1) (fun k => x_operate k 27 M2 σ2) (KQ h1 h2 8204) := fun m M1 M2 => by
    refine Pm_suc rfl (fun k => by rw [x_operate]) (fun k => by rw [x_operate]) (fun m3 _ => ?_)
    exact Pm_ob (wk m3 _ _) (fun r1 r2 hr => z28 m3 _ _ r1 r2 rfl rfl hr)
  have w34 : ∀ (m : Nat) (M1 M2 : Nat → Int32), Pm m (fun k => x_operate k 34 M1 σ1) (fun k => x_operate k 34 M2 σ2) (KQ h1 h2 8204) := fun m M1 M2 => by
    refine Pm_suc rfl (fun k => by rw [x_operate]) (fun k => by rw [x_operate]) (fun m3 _ => ?_)
    exact Pm_ob (wk m3 _ _) (fun r1 r2 hr => z35 m3 _ _ r1 r2 rfl rfl hr)
  have q19 : ∀ (m : Nat) (M1 M2 : Nat → Int32), M1 100 = M2 100 → Pm m (fun k => x_operate k 19 M1 σ1) (fun k => x_operate k 19 M2 σ2) (KQ h1 h2 8204) := fun m M1 M2 h => by
    refine Pm_suc rfl (fun k => by rw [x_operate]) (fun k => by rw [x_operate]) (fun m3 _ => ?_)
    exact Pm_ob (tru m3 _ _ (by exact h)) (fun r1 r2 hr => Pm_some hr)
  have q22 : ∀ (m : Nat) (M1 M2 : Nat → Int32), M1 100 = M2 100 → Pm m (fun k => x_operate k 22 M1 σ1) (fun k => x_operate k 22 M2 σ2) (KQ h1 h2 8204) := fun m M1 M2 h => by
    refine Pm_suc rfl (fun k => by rw [x_operate]) (fun k => by rw [x_operate]) (fun m3 _ => ?_)
    exact Pm_ob (tru m3 _ _ (by exact h)) (fun r1 r2 hr => Pm_some hr)
  have q32 : ∀ (m : Nat) (M1 M2 : Nat → Int32), M1 100 = M2 100 → Pm m (fun k => x_operate k 32 M1 σ1) (fun k => x_operate k 32 M2 σ2) (KQ h1 h2 8204) := fun m M1 M2 h => by
    refine Pm_suc rfl (fun k => by rw [x_operate]) (fun k => by rw [x_operate]) (fun m3 _ => ?_)
    exact Pm_ob (tru m3 _ _ (by exact h)) (fun r1 r2 hr => Pm_some hr)
  have q46 : ∀ (m : Nat) (M1 M2 : Nat → Int32), M1 100 = M2 100 → Pm m (fun k => x_operate k 46 M1 σ1) (fun k => x_operate k 46 M2 σ2) (KQ h1 h2 8204) := fun m M1 M2 h => by
    refine Pm_suc rfl (fun k => by rw [x_operate]) (fun k => by rw [x_operate]) (fun m3 _ => ?_)
    exact Pm_ob (tru m3 _ _ (by exact h)) (fun r1 r2 hr => Pm_some hr)
  have p18 : ∀ (m : Nat) (M1 M2 : Nat → Int32), Pm m (fun k => x_operate k 18 M1 σ1) (fun k => x_operate k 18 M2 σ2) (KQ h1 h2 8204) := fun m M1 M2 => by
    refine Pm_suc rfl (fun k => by rw [x_operate]) (fun k => by rw [x_operate]) (fun m3 _ => ?_)
    exact q19 m3 _ _ rfl
  have p21 : ∀ (m : Nat) (M1 M2 : Nat → Int32), Pm m (fun k => x_operate k 21 M1 σ1) (fun k => x_operate k 21 M2 σ2) (KQ h1 h2 8204) := fun m M1 M2 => by
    refine Pm_suc rfl (fun k => by rw [x_operate]) (fun k => by rw [x_operate]) (fun m3 _ => ?_)
    exact q22 m3 _ _ rfl
  have p31 : ∀ (m : Nat) (M1 M2 : Nat → Int32), Pm m (fun k => x_operate k 31 M1 σ1) (fun k => x_operate k 31 M2 σ2) (KQ h1 h2 8204) := fun m M1 M2 => by
    refine Pm_suc rfl (fun k => by rw [x_operate]) (fun k => by rw [x_operate]) (fun m3 _ => ?_)
    exact q32 m3 _ _ rfl
  have p39 : ∀ (m : Nat) (M1 M2 : Nat → Int32), Pm m (fun k => x_operate k 39 M1 σ1) (fun k => x_operate k 39 M2 σ2) (KQ h1 h2 8204) := fun m M1 M2 => by
    refine Pm_suc rfl (fun k => by rw [x_operate]) (fun k => by rw [x_operate]) (fun m3 _ => ?_)
    exact q46 m3 _ _ rfl
  have p41 : ∀ (m : Nat) (M1 M2 : Nat → Int32), Pm m (fun k => x_operate k 41 M1 σ1) (fun k => x_operate k 41 M2 σ2) (KQ h1 h2 8204) := fun m M1 M2 => by
    refine Pm_suc rfl (fun k => by rw [x_operate]) (fun k => by rw [x_operate]) (fun m3 _ => ?_)
    exact q46 m3 _ _ rfl
  have p43 : ∀ (m : Nat) (M1 M2 : Nat → Int32), Pm m (fun k => x_operate k 43 M1 σ1) (fun k => x_operate k 43 M2 σ2) (KQ h1 h2 8204) := fun m M1 M2 => by
    refine Pm_suc rfl (fun k => by rw [x_operate]) (fun k => by rw [x_operate]) (fun m3 _ => ?_)
    exact q46 m3 _ _ rfl
  have p45 : ∀ (m : Nat) (M1 M2 : Nat → Int32), Pm m (fun k => x_operate k 45 M1 σ1) (fun k => x_operate k 45 M2 σ2) (KQ h1 h2 8204) := fun m M1 M2 => by
    refine Pm_suc rfl (fun k => by rw [x_operate]) (fun k => by rw [x_operate]) (fun m3 _ => ?_)
    exact q46 m3 _ _ rfl
  have wh : kdN (σ1.2.2 28) a1 = 2 → kdN (σ1.2.2 28) b1 = 2 → (∃ p, WhE σ1 σ2 a1 a2 p) ∧ ∃ q, WhE σ1 σ2 b1 b2 q := fun k1 k2 => ⟨WhE_of hS1 hS2 ha1 ha2 va k1, WhE_of hS1 hS2 hb1 hb2 vb k2⟩
  have ob2 : 3 ≤ kdN (σ1.2.2 28) a1 → 3 ≤ kdN (σ1.2.2 28) b1 → ∃ k p k' q, OE g1 g2 (σ1.2.2 28) (σ2.2.2 28) a1 a2 k p ∧ OE g1 g2 (σ1.2.2 28) (σ2.2.2 28) b1 b2 k' q ∧ k = kdN (σ1.2.2 28) a1 ∧ k' = kdN (σ1.2.2 28) b1 := fun h1' h2' => by
    obtain ⟨k, p, hA⟩ := OE_of hS1 hS2 (kdN_ge hS1 ha1 (by omega)) ha2 va
    obtain ⟨k', q, hB⟩ := OE_of hS1 hS2 (kdN_ge hS1 hb1 (by omega)) hb2 vb
    exact ⟨k, p, k', q, hA, hB, hA.2.2.2.2.2.2.1.symm, hB.2.2.2.2.2.2.1.symm⟩
  -- the operator
  have opr2 : ∀ (m : Nat) (N1 N2 : Nat → Int32), LEn 4 N1 N2 → N1 1 = N2 1 → N1 2 = nI a1 → N1 3 = nI b1 → N2 2 = nI a2 → N2 3 = nI b2 → N1 4 = nI (kdN (σ1.2.2 28) a1) → N1 5 = nI (kdN (σ1.2.2 28) b1) → (¬ N1 100 = 0 → kdN (σ1.2.2 28) a1 = 2 ∧ kdN (σ1.2.2 28) b1 = 2) → Pm m (fun k => x_operate k 2 N1 σ1) (fun k => x_operate k 2 N2 σ2) (KQ h1 h2 8204) := by
    intro m N1 N2 hN x0 x2 x3 y2 y3 x4 x5 hw
    generalize hM1 : upd N1 6 (N1 100) = M1
    generalize hM2 : upd N2 6 (N2 100) = M2
    have hM : LEn 4 M1 M2 := by rw [← hM1, ← hM2]; exact LEn_u hN (hN 100 (by omega))
    have m0 : M1 1 = M2 1 := by rw [← hM1, ← hM2]; exact x0
    have m2 : M1 2 = nI a1 := by rw [← hM1]; exact x2
    have m3 : M1 3 = nI b1 := by rw [← hM1]; exact x3
    have v2 : M2 2 = nI a2 := by rw [← hM2]; exact y2
    have v3 : M2 3 = nI b2 := by rw [← hM2]; exact y3
    have m4 : M1 4 = nI (kdN (σ1.2.2 28) a1) := by rw [← hM1]; exact x4
    have m5 : M1 5 = nI (kdN (σ1.2.2 28) b1) := by rw [← hM1]; exact x5
    have v4 : M2 4 = nI (kdN (σ1.2.2 28) a1) := (hM 4 (by omega)).symm.trans m4
    have v5 : M2 5 = nI (kdN (σ1.2.2 28) b1) := (hM 5 (by omega)).symm.trans m5
    have mw : ¬ M1 6 = 0 → kdN (σ1.2.2 28) a1 = 2 ∧ kdN (σ1.2.2 28) b1 = 2 := by rw [← hM1]; exact hw
    have i6 : M1 6 = 0 ↔ M2 6 = 0 := by rw [hM 6 (by omega)]
    have E6a : nI (kdN (σ1.2.2 28) a1) = 6 → kdN (σ1.2.2 28) a1 = 6 := (n_eq (q := 6) (by omega) (by decide)).mp
    have E6b : nI (kdN (σ1.2.2 28) b1) = 6 → kdN (σ1.2.2 28) b1 = 6 := (n_eq (q := 6) (by omega) (by decide)).mp
    have E4a : nI (kdN (σ1.2.2 28) a1) = 4 → kdN (σ1.2.2 28) a1 = 4 := (n_eq (q := 4) (by omega) (by decide)).mp
    have E5a : nI (kdN (σ1.2.2 28) a1) = 5 → kdN (σ1.2.2 28) a1 = 5 := (n_eq (q := 5) (by omega) (by decide)).mp
    have E2b : nI (kdN (σ1.2.2 28) b1) = 2 → kdN (σ1.2.2 28) b1 = 2 := (n_eq (q := 2) (by omega) (by decide)).mp
    have S := fun {m : Nat} {b : Nat} (h : Pm m (fun k => x_operate k b M1 σ1) (fun k => x_operate k b M2 σ2) (KQ h1 h2 8204)) => h
    -- minus, times on sets
    have sf : kdN (σ1.2.2 28) a1 = 6 → kdN (σ1.2.2 28) b1 = 6 → ∀ (m' : Nat) (z : Int32), Pm m' (fun k => x_sift k 0 (upd (upd (upd (fun _ => 0) 1 (nI a1)) 2 (nI b1)) 3 z) σ1) (fun k => x_sift k 0 (upd (upd (upd (fun _ => 0) 1 (nI a2)) 2 (nI b2)) 3 z) σ2) (KQ h1 h2 8204) := fun q1 q2 m' z => by
      obtain ⟨k, p, k', q, hA, hB, ek, ek'⟩ := ob2 (by omega) (by omega)
      exact Pm_mono (k_sift hS1 hS2 e1 e2 t1 t2 (by omega) (by omega) (by omega) hA (by omega) hB (by omega) rfl rfl rfl rfl LE3_a) (fun r1 r2 hr => KQ_mo hr (by omega))
    have c3 : ∀ m', Pm m' (fun k => x_operate k 3 M1 σ1) (fun k => x_operate k 3 M2 σ2) (KQ h1 h2 8204) := fun m' => by
      refine Pm_suc rfl (fun k => by rw [x_operate]) (fun k => by rw [x_operate]) (fun k1 _ => ?_)
      exact Pm_ob (k_plus hS1 hS2 e1 e2 t1 t2 (by omega) (by omega) (by omega) ha1 ha2 va hb1 hb2 vb (by exact m2) (by exact m3) (by exact v2) (by exact v3) LE3_b) (fun r1 r2 hr => Pm_some (KQ_mo hr (by omega)))
    have c4 : ∀ m', Pm m' (fun k => x_operate k 4 M1 σ1) (fun k => x_operate k 4 M2 σ2) (KQ h1 h2 8204) := fun m' => by
      refine Pm_suc rfl (fun k => by rw [x_operate]) (fun k => by rw [x_operate]) (fun k1 _ => ?_)
      refine Pm_ite i6 (fun _ _ => ?_) (fun z _ => ?_)
      · refine Pm_suc rfl (fun k => by rw [x_operate]) (fun k => by rw [x_operate]) (fun k2 _ => ?_)
        rw [m4, v4, m5, v5, m2, m3, v2, v3]
        refine Pm_ite Iff.rfl (fun q1 _ => ?_) (fun _ _ => w6 k2 _ _)
        refine Pm_ite Iff.rfl (fun q2 _ => ?_) (fun _ _ => w6 k2 _ _)
        exact Pm_ob (sf (E6a q1) (E6b q2) k2 0) (fun r1 r2 hr => z7 k2 _ _ r1 r2 rfl rfl hr)
      · obtain ⟨q1, q2⟩ := mw z
        obtain ⟨⟨p, hA⟩, ⟨q, hB⟩⟩ := wh q1 q2
        exact Pm_ob (k_add hS1 hS2 e1 e2 (by omega) (by omega) hA hB (by exact m2) (by exact m3) (by exact v2) (by exact v3) LE3_a) (fun r1 r2 hr => Pm_some (KQ_mo hr (by omega)))
    have c10 : ∀ m', Pm m' (fun k => x_operate k 10 M1 σ1) (fun k => x_operate k 10 M2 σ2) (KQ h1 h2 8204) := fun m' => by
      have c11 : (kdN (σ1.2.2 28) a1 = 4 ∨ kdN (σ1.2.2 28) a1 = 5) → ∀ m2', Pm m2' (fun k => x_operate k 11 M1 σ1) (fun k => x_operate k 11 M2 σ2) (KQ h1 h2 8204) := fun hk m2' => by
        refine Pm_suc rfl (fun k => by rw [x_operate]) (fun k => by rw [x_operate]) (fun k1 _ => ?_)
        rw [m5, v5]
        refine Pm_ite Iff.rfl (fun q1 _ => ?_) (fun _ _ => w12 k1 _ _)
        obtain ⟨k, p, hA⟩ := OE_of hS1 hS2 (kdN_ge hS1 ha1 (by omega)) ha2 va
        obtain ⟨q, hB⟩ := WhE_of hS1 hS2 hb1 hb2 vb (E2b q1)
        have ek := hA.2.2.2.2.2.2.1
        exact Pm_ob (k_repeat hS1 hS2 e1 e2 t1 t2 hf hr1 hr2 hA (by omega) hB (by exact m2) (by exact m3) (by exact v2) (by exact v3) LE3_b) (fun r1 r2 hr => z13 k1 _ _ r1 r2 rfl rfl hr)
      refine Pm_suc rfl (fun k => by rw [x_operate]) (fun k => by rw [x_operate]) (fun k1 _ => ?_)
      rw [m4, v4]
      refine Pm_ite Iff.rfl (fun q1 _ => c11 (Or.inl (E4a q1)) k1) (fun _ _ => ?_)
      exact Pm_ite Iff.rfl (fun q1 _ => c11 (Or.inr (E5a q1)) k1) (fun _ _ => w12 k1 _ _)
    have c8 : ∀ m', Pm m' (fun k => x_operate k 8 M1 σ1) (fun k => x_operate k 8 M2 σ2) (KQ h1 h2 8204) := fun m' => by
      refine Pm_suc rfl (fun k => by rw [x_operate]) (fun k => by rw [x_operate]) (fun k1 _ => ?_)
      refine Pm_ite i6 (fun _ _ => ?_) (fun z _ => ?_)
      · refine Pm_suc rfl (fun k => by rw [x_operate]) (fun k => by rw [x_operate]) (fun k2 _ => ?_)
        rw [m4, v4, m5, v5, m2, m3, v2, v3]
        refine Pm_ite Iff.rfl (fun q1 _ => ?_) (fun _ _ => c10 k2)
        refine Pm_ite Iff.rfl (fun q2 _ => ?_) (fun _ _ => c10 k2)
        exact Pm_ob (sf (E6a q1) (E6b q2) k2 1) (fun r1 r2 hr => Pm_some hr)
      · obtain ⟨q1, q2⟩ := mw z
        obtain ⟨⟨p, hA⟩, ⟨q, hB⟩⟩ := wh q1 q2
        exact Pm_ob (k_multiply hS1 hS2 e1 e2 (by omega) (by omega) hA hB (by exact m2) (by exact m3) (by exact v2) (by exact v3)) (fun r1 r2 hr => Pm_some (KQ_mo hr (by omega)))
    have c14 : ∀ m', Pm m' (fun k => x_operate k 14 M1 σ1) (fun k => x_operate k 14 M2 σ2) (KQ h1 h2 8204) := fun m' => by
      refine Pm_suc rfl (fun k => by rw [x_operate]) (fun k => by rw [x_operate]) (fun k1 _ => ?_)
      refine Pm_ite i6 (fun _ _ => w15 k1 _ _) (fun z _ => ?_)
      obtain ⟨q1, q2⟩ := mw z
      obtain ⟨⟨p, hA⟩, ⟨q, hB⟩⟩ := wh q1 q2
      exact Pm_ob (k_raise hS1 hS2 e1 e2 (by omega) (by omega) hA hB va (by exact m2) (by exact m3) (by exact v2) (by exact v3) LE3_b) (fun r1 r2 hr => z16 k1 _ _ r1 r2 rfl rfl (KQ_mo hr (by omega)))
    have c23 : ∀ m', Pm m' (fun k => x_operate k 23 M1 σ1) (fun k => x_operate k 23 M2 σ2) (KQ h1 h2 8204) := fun m' => by
      refine Pm_suc rfl (fun k => by rw [x_operate]) (fun k => by rw [x_operate]) (fun k1 _ => ?_)
      refine Pm_ite i6 (fun _ _ => w24 k1 _ _) (fun z _ => ?_)
      obtain ⟨q1, q2⟩ := mw z
      obtain ⟨⟨p, hA⟩, ⟨q, hB⟩⟩ := wh q1 q2
      exact Pm_ob (k_divide hS1 hS2 e1 e2 (by omega) (by omega) hA hB (by exact m2) (by exact m3) (by exact v2) (by exact v3) LE3_a) (fun r1 r2 hr => z25 k1 _ _ r1 r2 rfl rfl (KQ_mo hr (by omega)))
    have c26 : ∀ m', Pm m' (fun k => x_operate k 26 M1 σ1) (fun k => x_operate k 26 M2 σ2) (KQ h1 h2 8204) := fun m' => by
      refine Pm_suc rfl (fun k => by rw [x_operate]) (fun k => by rw [x_operate]) (fun k1 _ => ?_)
      refine Pm_ite i6 (fun _ _ => w27 k1 _ _) (fun z _ => ?_)
      obtain ⟨q1, q2⟩ := mw z
      obtain ⟨⟨p, hA⟩, ⟨q, hB⟩⟩ := wh q1 q2
      exact Pm_ob (k_divide hS1 hS2 e1 e2 (by omega) (by omega) hA hB (by exact m2) (by exact m3) (by exact v2) (by exact v3) LE3_a) (fun r1 r2 hr => z28 k1 _ _ r1 r2 rfl rfl (KQ_mo hr (by omega)))
    have c17 : ∀ m', Pm m' (fun k => x_operate k 17 M1 σ1) (fun k => x_operate k 17 M2 σ2) (KQ h1 h2 8204) := fun m' => by
      refine Pm_suc rfl (fun k => by rw [x_operate]) (fun k => by rw [x_operate]) (fun k1 _ => ?_)
      refine Pm_ob (cmp k1 _ _ (by exact m2) (by exact m3) (by exact v2) (by exact v3)) (fun r1 r2 hr => ?_)
      rw [hr.1, hr.2.1, hr.2.2]
      exact Pm_ite Iff.rfl (fun _ _ => q19 k1 _ _ rfl) (fun _ _ => p18 k1 _ _)
    have c20 : ∀ m', Pm m' (fun k => x_operate k 20 M1 σ1) (fun k => x_operate k 20 M2 σ2) (KQ h1 h2 8204) := fun m' => by
      refine Pm_suc rfl (fun k => by rw [x_operate]) (fun k => by rw [x_operate]) (fun k1 _ => ?_)
      refine Pm_ob (cmp k1 _ _ (by exact m2) (by exact m3) (by exact v2) (by exact v3)) (fun r1 r2 hr => ?_)
      rw [hr.1, hr.2.1, hr.2.2]
      exact Pm_ite Iff.rfl (fun _ _ => p21 k1 _ _) (fun _ _ => q22 k1 _ _ rfl)
    have c29 : ∀ m', Pm m' (fun k => x_operate k 29 M1 σ1) (fun k => x_operate k 29 M2 σ2) (KQ h1 h2 8204) := fun m' => by
      refine Pm_suc rfl (fun k => by rw [x_operate]) (fun k => by rw [x_operate]) (fun k1 _ => ?_)
      exact Pm_ob (k_isIn (K := 8204) hS1 hS2 ee ha1 ha2 va hb1 hb2 vb (by exact m2) (by exact m3) (by exact v2) (by exact v3) LE3_b) (fun r1 r2 hr => Pm_some hr.1)
    have c30 : ∀ m', Pm m' (fun k => x_operate k 30 M1 σ1) (fun k => x_operate k 30 M2 σ2) (KQ h1 h2 8204) := fun m' => by
      refine Pm_suc rfl (fun k => by rw [x_operate]) (fun k => by rw [x_operate]) (fun k1 _ => ?_)
      refine Pm_ob (Pm_un (s_isIn (t := f) ⟨hS1, t1, by omega, ⟨0, e1, by decide⟩⟩ hb1 ha1 (by exact m2) (by exact m3)) (fun k => f_isIn k _ _ _) (s_isIn (t := f) ⟨hS2, t2, by omega, ⟨0, e2, by decide⟩⟩ hb2 ha2 (by exact v2) (by exact v3)) (fun k => f_isIn k _ _ _) (k_isIn (K := 8204) hS1 hS2 ee ha1 ha2 va hb1 hb2 vb (by exact m2) (by exact m3) (by exact v2) (by exact v3) LE3_b)) (fun r1 r2 hr => ?_)
      obtain ⟨⟨hK, hq⟩, ⟨ga, la, ha, u1, _⟩, ⟨gb, lb, hb, u2, _⟩⟩ := hr
      obtain ⟨k1', k2', p1, p2, p3, p4, p5, p6⟩ := hK
      -- the truth of it
      have tt : ∀ (m2' : Nat) (O1 O2 : Nat → Int32), (r1.2.1 56 = 0 → O1 100 = O2 100) → Pm m2' (fun k => x_operate k 32 O1 r1.2) (fun k => x_operate k 32 O2 r2.2) (KQ h1 h2 8204) := fun m2' O1 O2 hO => by
        refine Pm_suc rfl (fun k => by rw [x_operate]) (fun k => by rw [x_operate]) (fun k2 _ => ?_)
        have eh1 : ha = p1 := (n_eq (by have := HS_b u1.1; omega) (by have := hS1.2.1; omega)).mp (u1.1.2.2.1.symm.trans p3)
        have eh2 : hb = p2 := (n_eq (by have := HS_b u2.1; omega) (by have := hS2.2.1; omega)).mp (u2.1.2.2.1.symm.trans p4)
        by_cases z : r1.2.1 56 = 0
        · refine Pm_ob (k_truth (K := 0) u1.1 u2.1 k1' (by exact hO z)) (fun s1 s2 hs => Pm_some ?_)
          obtain ⟨⟨y1, y2, y3, y4, y5, y6, y7, y8⟩, _⟩ := hs
          exact ⟨y1, y2, y3, y4, y5, y6, by omega, by omega⟩
        · refine Pm_ob (Pm_t2 (s_truth _) (fun k => f_truth k _ _ _) (s_truth _) (fun k => f_truth k _ _ _)) (fun s1 s2 hs => Pm_some ?_)
          obtain ⟨⟨y1, _⟩, ⟨y2, _⟩⟩ := hs
          refine ⟨?_, ?_, p1, p2, ?_, ?_, p5, p6⟩
          · show s1.2.1 56 = 0 ↔ s2.2.1 56 = 0
            rw [y1, y2]; exact k1'
          · intro w
            have w : s1.2.1 56 = 0 := w
            rw [y1] at w; exact absurd w z
          · show s1.2.1 55 = _
            rw [y1]; exact p3
          · show s2.2.1 55 = _
            rw [y2]; exact p4
      have t31 : ∀ (m2' : Nat) (O1 O2 : Nat → Int32), Pm m2' (fun k => x_operate k 31 O1 r1.2) (fun k => x_operate k 31 O2 r2.2) (KQ h1 h2 8204) := fun m2' O1 O2 => by
        refine Pm_suc rfl (fun k => by rw [x_operate]) (fun k => by rw [x_operate]) (fun k2 _ => ?_)
        exact tt k2 _ _ (fun _ => rfl)
      by_cases z : r1.2.1 56 = 0
      case neg =>
        have z2 : ¬ r2.2.1 56 = 0 := fun w => z (k1'.mpr w)
        -- each side alone: the error stays, the heap too
        have al : ∀ (ρ : MS) (O : Nat → Int32) (m2' : Nat), Um m2' (fun k => x_operate k 32 O ρ) (fun r => r.2 = ρ) := fun ρ O m2' => by
          refine Um_suc rfl (fun k => by rw [x_operate]) (fun k2 _ => ?_)
          exact Um_ob (Um_t (s_truth _) (fun k => f_truth k _ _ _)) (fun s hs => Um_some hs.1)
        have al1 : ∀ (ρ : MS) (O : Nat → Int32) (m2' : Nat), Um m2' (fun k => x_operate k 31 O ρ) (fun r => r.2 = ρ) := fun ρ O m2' => by
          refine Um_suc rfl (fun k => by rw [x_operate]) (fun k2 _ => ?_)
          exact al ρ _ k2
        have fi : ∀ (s1 s2 : Int32 × MS), s1.2 = r1.2 ∧ s2.2 = r2.2 → KQ h1 h2 8204 s1 s2 := fun s1 s2 hs => ⟨by rw [hs.1, hs.2]; exact k1', fun w => absurd (by rw [← hs.1]; exact w) z, p1, p2, by rw [hs.1]; exact p3, by rw [hs.2]; exact p4, p5, p6⟩
        exact Pm_ite4 (fun _ _ => Pm_mono (Pm_u2 (al _ _ k1) (al _ _ k1)) fi) (fun _ _ => Pm_mono (Pm_u2 (al _ _ k1) (al1 _ _ k1)) fi) (fun _ _ => Pm_mono (Pm_u2 (al1 _ _ k1) (al _ _ k1)) fi) (fun _ _ => Pm_mono (Pm_u2 (al1 _ _ k1) (al1 _ _ k1)) fi)
      · rw [hq z]
        exact Pm_ite Iff.rfl (fun _ _ => tt k1 _ _ (fun _ => rfl)) (fun _ _ => t31 k1 _ _)
    have c33 : ∀ m', Pm m' (fun k => x_operate k 33 M1 σ1) (fun k => x_operate k 33 M2 σ2) (KQ h1 h2 8204) := fun m' => by
      refine Pm_suc rfl (fun k => by rw [x_operate]) (fun k => by rw [x_operate]) (fun k1 _ => ?_)
      rw [m4, v4, m5, v5]
      refine Pm_ite Iff.rfl (fun q1 _ => ?_) (fun _ _ => w34 k1 _ _)
      refine Pm_ite Iff.rfl (fun q2 _ => ?_) (fun _ _ => w34 k1 _ _)
      have q1 := E6a q1
      have q2 := E6b q2
      obtain ⟨k, p, k', q, hA, hB, ek, ek'⟩ := ob2 (by omega) (by omega)
      have hk2a := hA.2.2.2.2.2.2.2.1
      have hk2b := hB.2.2.2.2.2.2.2.1
      refine Pm_ob (Pm_un (s_isSubset hS1 hA.1 (by omega) hB.1 (by omega) (by exact m2) (by exact m3)) (fun k => f_isSubset k _ _ _) (s_isSubset hS2 hA.2.1 (by omega) hB.2.1 (by omega) (by exact v2) (by exact v3)) (fun k => f_isSubset k _ _ _) (k_isSubset hS1 hS2 hA (by omega) hB (by omega) (by exact m2) (by exact m3) (by exact v2) (by exact v3) LE3_b)) (fun r1 r2 hr => ?_)
      obtain ⟨u0, ⟨u1, _⟩, ⟨u2, _⟩⟩ := hr
      rw [u0, u1, u2]
      exact Pm_ob (tru k1 _ _ rfl) (fun s1 s2 hs => z35 k1 _ _ s1 s2 rfl rfl hs)
    have c38 : ∀ m', Pm m' (fun k => x_operate k 38 M1 σ1) (fun k => x_operate k 38 M2 σ2) (KQ h1 h2 8204) := fun m' => by
      refine Pm_suc rfl (fun k => by rw [x_operate]) (fun k => by rw [x_operate]) (fun k1 _ => ?_)
      refine Pm_ob (cmp k1 _ _ (by exact m2) (by exact m3) (by exact v2) (by exact v3)) (fun r1 r2 hr => ?_)
      rw [hr.1, hr.2.1, hr.2.2, m0]
      generalize r2.1 = c
      refine Pm_ite Iff.rfl (fun _ _ => Pm_ite Iff.rfl (fun _ _ => p39 k1 _ _) (fun _ _ => q46 k1 _ _ rfl)) (fun _ _ => ?_)
      refine Pm_suc rfl (fun k => by rw [x_operate]) (fun k => by rw [x_operate]) (fun k2 _ => ?_)
      refine Pm_ite (by show M1 1 = 20 ↔ M2 1 = 20; rw [m0]) (fun _ _ => Pm_ite Iff.rfl (fun _ _ => p41 k2 _ _) (fun _ _ => q46 k2 _ _ rfl)) (fun _ _ => ?_)
      refine Pm_suc rfl (fun k => by rw [x_operate]) (fun k => by rw [x_operate]) (fun k3 _ => ?_)
      refine Pm_ite (by show M1 1 = 21 ↔ M2 1 = 21; rw [m0]) (fun _ _ => Pm_ite Iff.rfl (fun _ _ => p43 k3 _ _) (fun _ _ => q46 k3 _ _ rfl)) (fun _ _ => ?_)
      refine Pm_suc rfl (fun k => by rw [x_operate]) (fun k => by rw [x_operate]) (fun k4 _ => ?_)
      exact Pm_ite Iff.rfl (fun _ _ => p45 k4 _ _) (fun _ _ => q46 k4 _ _ rfl)
    have c36 : ∀ m', Pm m' (fun k => x_operate k 36 M1 σ1) (fun k => x_operate k 36 M2 σ2) (KQ h1 h2 8204) := fun m' => by
      have c37 : ∀ m2', Pm m2' (fun k => x_operate k 37 M1 σ1) (fun k => x_operate k 37 M2 σ2) (KQ h1 h2 8204) := fun m2' => by
        refine Pm_suc rfl (fun k => by rw [x_operate]) (fun k => by rw [x_operate]) (fun k1 _ => ?_)
        exact Pm_ob (wk k1 _ _) (fun r1 r2 hr => Pm_some hr)
      refine Pm_suc rfl (fun k => by rw [x_operate]) (fun k => by rw [x_operate]) (fun k1 _ => ?_)
      rw [m4, v4, m5, v5]
      refine Pm_ite i6 (fun _ _ => ?_) (fun _ _ => c38 k1)
      refine Pm_ite Iff.rfl (fun _ _ => ?_) (fun _ _ => c37 k1)
      exact Pm_ite Iff.rfl (fun _ _ => c38 k1) (fun _ _ => c37 k1)
    refine Pm_suc rfl (fun k => by rw [x_operate]) (fun k => by rw [x_operate]) (fun k1 _ => ?_)
    rw [hM1, hM2, x0]
    refine Pm_ite Iff.rfl (fun _ _ => c3 k1) (fun _ _ => ?_)
    refine Pm_ite Iff.rfl (fun _ _ => c4 k1) (fun _ _ => ?_)
    refine Pm_ite Iff.rfl (fun _ _ => c8 k1) (fun _ _ => ?_)
    refine Pm_ite Iff.rfl (fun _ _ => c14 k1) (fun _ _ => ?_)
    refine Pm_ite Iff.rfl (fun _ _ => c17 k1) (fun _ _ => ?_)
    refine Pm_ite Iff.rfl (fun _ _ => c20 k1) (fun _ _ => ?_)
    refine Pm_ite Iff.rfl (fun _ _ => c29 k1) (fun _ _ => ?_)
    refine Pm_ite Iff.rfl (fun _ _ => c30 k1) (fun _ _ => ?_)
    refine Pm_ite Iff.rfl (fun _ _ => c33 k1) (fun _ _ => ?_)
    refine Pm_ite Iff.rfl (fun _ _ => c23 k1) (fun _ _ => ?_)
    refine Pm_ite Iff.rfl (fun _ _ => c26 k1) (fun _ _ => ?_)
    exact c36 k1
  refine Pm_suc rfl (fun k => by rw [x_operate]) (fun k => by rw [x_operate]) (fun m1 _ => ?_)
  refine Pm_ob (Pm_t2 (s_kind hS1 ha1 (by exact d1)) (fun k => f_kind k _ _ _) (s_kind hS2 ha2 (by exact f1)) (fun k => f_kind k _ _ _)) (fun r1 r2 hr => ?_)
  rw [hr.1, hr.2]
  refine Pm_ob (Pm_t2 (s_kind hS1 hb1 (by exact d2)) (fun k => f_kind k _ _ _) (s_kind hS2 hb2 (by exact f2)) (fun k => f_kind k _ _ _)) (fun s1 s2 hs => ?_)
  rw [hs.1, hs.2, (EVb_sz va).2.2, (EVb_sz vb).2.2]
  have hL5 : LEn 4 (upd (upd L1 4 (nI (kdN (σ1.2.2 28) a1))) 5 (nI (kdN (σ1.2.2 28) b1))) (upd (upd L2 4 (nI (kdN (σ1.2.2 28) a1))) 5 (nI (kdN (σ1.2.2 28) b1))) := LEn_u (LEn_u hL rfl) rfl
  have b1' : ∀ m', Pm m' (fun k => x_operate k 1 (upd (upd L1 4 (nI (kdN (σ1.2.2 28) a1))) 5 (nI (kdN (σ1.2.2 28) b1))) σ1) (fun k => x_operate k 1 (upd (upd L2 4 (nI (kdN (σ1.2.2 28) a1))) 5 (nI (kdN (σ1.2.2 28) b1))) σ2) (KQ h1 h2 8204) := fun m' => by
    refine Pm_suc rfl (fun k => by rw [x_operate]) (fun k => by rw [x_operate]) (fun k1 _ => ?_)
    exact opr2 k1 _ _ (LEn_u hL5 rfl) d0 d1 d2 f1 f2 rfl rfl (fun z => absurd rfl z)
  refine Pm_ite Iff.rfl (fun q1 _ => ?_) (fun _ _ => b1' m1)
  refine Pm_ite Iff.rfl (fun q2 _ => ?_) (fun _ _ => b1' m1)
  have q1 := (n_eq (q := 2) (by omega) (by decide)).mp q1
  have q2 := (n_eq (q := 2) (by omega) (by decide)).mp q2
  exact opr2 m1 _ _ (LEn_u hL5 rfl) d0 d1 d2 f1 f2 rfl rfl (fun _ => ⟨q1, q2⟩)
end KOP

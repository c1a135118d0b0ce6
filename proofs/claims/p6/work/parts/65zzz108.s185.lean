/-! Two runs side by side (reference): values are printed. -/
section KPR
variable {g1 g2 : Nat → Prop} {l1 l2 : List Nat} {B1 h1 B2 h2 n : Nat} {σ1 σ2 : MS}
theorem Pm_odd {d : Nat} {Q : Int32 × MS → Int32 × MS → Prop} {f1 f2 : Nat → Nat → Option (Int32 × MS)} (t : ∀ e, d = e + 1 → Pm n (fun k => f1 k e) (fun k => f2 k e) Q) : Pm n (fun k => od d (fun e => f1 k e)) (fun k => od d (fun e => f2 k e)) Q := by
  cases d with
  | zero => intro k hk r1 r2 e1 e2; cases e1
  | succ e => exact t e rfl
theorem PQ_tr {τ1 τ2 : MS} {r1 r2 : Int32 × MS} (p1 : PrF σ1 τ1) (p2 : PrF σ2 τ2) (h : PQ τ1 τ2 r1 r2) : PQ σ1 σ2 r1 r2 := ⟨h.1, PrF_tr p1 h.2.1, PrF_tr p2 h.2.2⟩
theorem k_putP {τ1 τ2 : MS} (p1 : PrF σ1 τ1) (p2 : PrF σ2 τ2) (hO : OtE τ1 τ2) {L1 L2 : Nat → Int32} (hL : L1 1 = L2 1) : Pm n (fun k => x_put k 0 L1 τ1) (fun k => x_put k 0 L2 τ2) (PQ σ1 σ2) := Pm_mono (k_put hO hL) (fun r1 r2 hr => ⟨hr.1, PrF_tr p1 (PtF_Pr hr.2.1), PrF_tr p2 (PtF_Pr hr.2.2)⟩)
theorem k_ptr : ∀ (m b : Nat) (N1 N2 : Nat → Int32) (τ1 τ2 : MS), LEn 1 N1 N2 → OtE τ1 τ2 → PrF σ1 τ1 → PrF σ2 τ2 → Pm m (fun k => x_putTruth k b N1 τ1) (fun k => x_putTruth k b N2 τ2) (PQ σ1 σ2) := by
  intro m
  induction m using Nat.strongRecOn with
  | ind m ih =>
  intro b N1 N2 τ1 τ2 hN hO p1 p2
  have e1 := hN 1 (by omega)
  have e100 := hN 100 (by omega)
  match b with
  | 0 =>
    refine Pm_suc rfl (fun k => by rw [x_putTruth]) (fun k => by rw [x_putTruth]) (fun m1 hm1 => ?_)
    rw [e1]
    exact Pm_ite Iff.rfl (fun _ _ => ih m1 (by omega) 1 _ _ _ _ hN hO p1 p2) (fun _ _ => ih m1 (by omega) 2 _ _ _ _ (LEn_u hN rfl) hO p1 p2)
  | 1 =>
    refine Pm_suc rfl (fun k => by rw [x_putTruth]) (fun k => by rw [x_putTruth]) (fun m1 hm1 => ?_)
    exact ih m1 (by omega) 2 _ _ _ _ (LEn_u hN rfl) hO p1 p2
  | 2 =>
    refine Pm_suc rfl (fun k => by rw [x_putTruth]) (fun k => by rw [x_putTruth]) (fun m1 hm1 => ?_)
    rw [e1, e100]
    refine Pm_ob (k_putP p1 p2 hO rfl) (fun r1 r2 hr => ?_)
    exact Pm_ite Iff.rfl (fun _ _ => ih m1 (by omega) 3 _ _ _ _ hN hr.1 hr.2.1 hr.2.2) (fun _ _ => ih m1 (by omega) 4 _ _ _ _ (LEn_u hN rfl) hr.1 hr.2.1 hr.2.2)
  | 3 =>
    refine Pm_suc rfl (fun k => by rw [x_putTruth]) (fun k => by rw [x_putTruth]) (fun m1 hm1 => ?_)
    exact ih m1 (by omega) 4 _ _ _ _ (LEn_u hN rfl) hO p1 p2
  | 4 =>
    refine Pm_suc rfl (fun k => by rw [x_putTruth]) (fun k => by rw [x_putTruth]) (fun m1 hm1 => ?_)
    rw [e1, e100]
    refine Pm_ob (k_putP p1 p2 hO rfl) (fun r1 r2 hr => ?_)
    exact Pm_ite Iff.rfl (fun _ _ => ih m1 (by omega) 5 _ _ _ _ hN hr.1 hr.2.1 hr.2.2) (fun _ _ => ih m1 (by omega) 6 _ _ _ _ (LEn_u hN rfl) hr.1 hr.2.1 hr.2.2)
  | 5 =>
    refine Pm_suc rfl (fun k => by rw [x_putTruth]) (fun k => by rw [x_putTruth]) (fun m1 hm1 => ?_)
    exact ih m1 (by omega) 6 _ _ _ _ (LEn_u hN rfl) hO p1 p2
  | 6 =>
    refine Pm_suc rfl (fun k => by rw [x_putTruth]) (fun k => by rw [x_putTruth]) (fun m1 hm1 => ?_)
    rw [e1, e100]
    refine Pm_ob (k_putP p1 p2 hO rfl) (fun r1 r2 hr => ?_)
    exact Pm_ite Iff.rfl (fun _ _ => ih m1 (by omega) 7 _ _ _ _ hN hr.1 hr.2.1 hr.2.2) (fun _ _ => ih m1 (by omega) 8 _ _ _ _ (LEn_u hN rfl) hr.1 hr.2.1 hr.2.2)
  | 7 =>
    refine Pm_suc rfl (fun k => by rw [x_putTruth]) (fun k => by rw [x_putTruth]) (fun m1 hm1 => ?_)
    exact ih m1 (by omega) 8 _ _ _ _ (LEn_u hN rfl) hO p1 p2
  | 8 =>
    refine Pm_suc rfl (fun k => by rw [x_putTruth]) (fun k => by rw [x_putTruth]) (fun m1 hm1 => ?_)
    rw [e1, e100]
    refine Pm_ob (k_putP p1 p2 hO rfl) (fun r1 r2 hr => ?_)
    refine Pm_ite Iff.rfl (fun _ _ => ?_) (fun _ _ => ih m1 (by omega) 9 _ _ _ _ hN hr.1 hr.2.1 hr.2.2)
    exact Pm_ob (k_putP hr.2.1 hr.2.2 hr.1 rfl) (fun s1 s2 hs => ih m1 (by omega) 9 _ _ _ _ hN hs.1 hs.2.1 hs.2.2)
  | 9 =>
    refine Pm_suc rfl (fun k => by rw [x_putTruth]) (fun k => by rw [x_putTruth]) (fun m1 hm1 => ?_)
    exact Pm_some ⟨hO, p1, p2⟩
  | b + 10 =>
    intro k hk r1 r2 a1 a2
    cases k with
    | zero => cases a1
    | succ k => cases a1
theorem k_pnm : ∀ (m d : Nat) (N1 N2 : Nat → Int32) (τ1 τ2 : MS), LEn 1 N1 N2 → OtE τ1 τ2 → PrF σ1 τ1 → PrF σ2 τ2 → Pm m (fun k => x_GN k d 0 0 N1 τ1) (fun k => x_GN k d 0 0 N2 τ2) (PQ σ1 σ2) := by
  intro m
  induction m using Nat.strongRecOn with
  | ind m ih =>
  intro d N1 N2 τ1 τ2 hN hO p1 p2
  have e1 := hN 1 (by omega)
  have c1 : ∀ (m : Nat) (υ1 υ2 : MS), OtE υ1 υ2 → PrF σ1 υ1 → PrF σ2 υ2 → Pm m (fun k => x_GN k d 0 1 N1 υ1) (fun k => x_GN k d 0 1 N2 υ2) (PQ σ1 σ2) := fun m υ1 υ2 hO p1 p2 => by
    refine Pm_suc rfl (fun k => e_putNumber_1 k _ _ _) (fun k => e_putNumber_1 k _ _ _) (fun m1 hm1 => ?_)
    refine Pm_chk0 (fun _ _ => ?_)
    rw [e1]
    exact Pm_ob (k_putP p1 p2 hO rfl) (fun r1 r2 hr => Pm_some hr)
  refine Pm_suc rfl (fun k => e_putNumber_0 k _ _ _) (fun k => e_putNumber_0 k _ _ _) (fun m1 hm1 => ?_)
  rw [e1]
  refine Pm_ite Iff.rfl (fun _ _ => c1 m1 τ1 τ2 hO p1 p2) (fun _ _ => ?_)
  refine Pm_chk0 (fun _ _ => ?_)
  refine Pm_odd (fun e he => ?_)
  exact Pm_ob (ih m1 (by omega) e _ _ τ1 τ2 (fun i hi => rfl) hO p1 p2) (fun r1 r2 hr => c1 m1 r1.2 r2.2 hr.1 hr.2.1 hr.2.2)
def PLl (a1 a2 : Nat) (N1 N2 : Nat → Int32) : Prop := LEn 2 N1 N2 ∧ N1 1 = nI a1 ∧ N2 1 = nI a2
theorem PLl_u {a1 a2 j : Nat} {N1 N2 : Nat → Int32} {x y : Int32} (hj : 2 ≤ j) (h : PLl a1 a2 N1 N2) (e : x = y) : PLl a1 a2 (upd N1 j x) (upd N2 j y) := ⟨LEn_u h.1 e, (upd_other (by omega)).trans h.2.1, (upd_other (by omega)).trans h.2.2⟩
theorem k_p18 {m d : Nat} {N1 N2 : Nat → Int32} {τ1 τ2 : MS} (h : PQ σ1 σ2 (0, τ1) (0, τ2)) : Pm m (fun k => x_GP k d 0 18 N1 τ1) (fun k => x_GP k d 0 18 N2 τ2) (PQ σ1 σ2) := by
  refine Pm_suc rfl (fun k => e_print_18 k _ _ _) (fun k => e_print_18 k _ _ _) (fun m1 hm1 => ?_)
  exact Pm_some h
/-- a string's bytes -/
theorem k_p8 {a1 a2 p d : Nat} (b1 : a1 + 4 + p ≤ 1740000) (b2 : a2 + 4 + p ≤ 1740000) (hp : p ≤ 3996) (w1 : σ1.2.2 28 (a1 + 1) = nI p) (w2 : σ2.2.2 28 (a2 + 1) = nI p) (hw : ∀ i, i < p → σ2.2.2 28 (a2 + 4 + i) = σ1.2.2 28 (a1 + 4 + i)) : ∀ (m i : Nat) (N1 N2 : Nat → Int32) (τ1 τ2 : MS), i ≤ p → PLl a1 a2 N1 N2 → N2 4 = nI i → OtE τ1 τ2 → PrF σ1 τ1 → PrF σ2 τ2 → Pm m (fun k => x_GP k d 0 8 N1 τ1) (fun k => x_GP k d 0 8 N2 τ2) (PQ σ1 σ2) := by
  intro m
  induction m using Nat.strongRecOn with
  | ind m ih =>
  intro i N1 N2 τ1 τ2 hi hN n4 hO p1 p2
  refine Pm_suc rfl (fun k => e_print_8 k _ _ _) (fun k => e_print_8 k _ _ _) (fun m1 hm1 => ?_)
  rw [hN.2.1, hN.2.2, hN.1 4 (by omega), n4, n_add1, n_add1, n_add1, show nI a1 + 4 = nI (a1 + 4) from n_add (q := 4) (by omega), show nI a2 + 4 = nI (a2 + 4) from n_add (q := 4) (by omega), n_add (p := a1 + 4) (by omega), n_add (p := a2 + 4) (by omega)]
  refine Pm_chk (fun _ _ => ?_)
  rw [n_cl (p := a1 + 1) (by omega), n_cl (p := a2 + 1) (by omega), n_cl (p := a1 + 4 + i) (by omega), n_cl (p := a2 + 4 + i) (by omega), p1.2 28 (by decide), p2.2 28 (by decide), w1, w2]
  refine Pm_ite Iff.rfl (fun _ _ => ?_) (fun z _ => ?_)
  · refine Pm_suc rfl (fun k => e_print_9 k _ _ _) (fun k => e_print_9 k _ _ _) (fun m2 hm2 => ?_)
    rw [hN.1 2 (by omega)]
    refine Pm_ite Iff.rfl (fun _ _ => ?_) (fun _ _ => k_p18 ⟨hO, p1, p2⟩)
    exact Pm_ob (k_putP p1 p2 hO rfl) (fun r1 r2 hr => k_p18 hr)
  · have hlt : i < p := by
      by_cases c : i < p
      · exact c
      · exact absurd ((n_le (by omega) (by omega)).mpr (by omega)) z
    refine Pm_chk (fun _ _ => ?_)
    rw [hw i hlt]
    exact Pm_ob (k_putP p1 p2 hO rfl) (fun r1 r2 hr => ih m1 (by omega) (i + 1) _ _ r1.2 r2.2 (by omega) (PLl_u (by omega) hN rfl) rfl hr.1 hr.2.1 hr.2.2)
/-- a row's members -/
theorem k_p13 {a1 a2 p d M : Nat} (hrec : ∀ m, m < M → ∀ (e c1 c2 : Nat) (L1 L2 : Nat → Int32) (υ1 υ2 : MS), PrF σ1 υ1 → PrF σ2 υ2 → OtE υ1 υ2 → (c1 < 3 ∨ g1 c1) → (c2 < 3 ∨ g2 c2) → EVb (σ1.2.2 28) (σ2.2.2 28) c1 c2 → PLl c1 c2 L1 L2 → Pm m (fun k => x_GP k e 0 0 L1 υ1) (fun k => x_GP k e 0 0 L2 υ2) (PQ σ1 σ2)) (b1 : a1 + 4 + p ≤ 1740000) (b2 : a2 + 4 + p ≤ 1740000) (hp : p ≤ 3996) (w1 : σ1.2.2 28 (a1 + 1) = nI p) (w2 : σ2.2.2 28 (a2 + 1) = nI p) (hw : ∀ i, i < p → VC g1 g2 (σ1.2.2 28) (σ2.2.2 28) (σ1.2.2 28 (a1 + 4 + i)) (σ2.2.2 28 (a2 + 4 + i))) : ∀ (m i : Nat) (N1 N2 : Nat → Int32) (τ1 τ2 : MS), m ≤ M → i ≤ p → PLl a1 a2 N1 N2 → N2 4 = nI i → OtE τ1 τ2 → PrF σ1 τ1 → PrF σ2 τ2 → Pm m (fun k => x_GP k d 0 13 N1 τ1) (fun k => x_GP k d 0 13 N2 τ2) (PQ σ1 σ2) := by
  intro m
  induction m using Nat.strongRecOn with
  | ind m ih =>
  intro i N1 N2 τ1 τ2 hmM hi hN n4 hO p1 p2
  refine Pm_suc rfl (fun k => e_print_13 k _ _ _) (fun k => e_print_13 k _ _ _) (fun m1 hm1 => ?_)
  rw [hN.2.1, hN.2.2, hN.1 4 (by omega), n4, n_add1, n_add1]
  refine Pm_chk (fun _ _ => ?_)
  rw [n_cl (p := a1 + 1) (by omega), n_cl (p := a2 + 1) (by omega), p1.2 28 (by decide), p2.2 28 (by decide), w1, w2]
  refine Pm_ite Iff.rfl (fun _ _ => ?_) (fun z _ => ?_)
  · have c17 : ∀ (m : Nat) (O1 O2 : Nat → Int32), LEn 2 O1 O2 → Pm m (fun k => x_GP k d 0 17 O1 τ1) (fun k => x_GP k d 0 17 O2 τ2) (PQ σ1 σ2) := fun m O1 O2 hE => by
      refine Pm_suc rfl (fun k => e_print_17 k _ _ _) (fun k => e_print_17 k _ _ _) (fun m2 hm2 => ?_)
      rw [hE 100 (by omega)]
      exact Pm_ob (k_putP p1 p2 hO rfl) (fun r1 r2 hr => k_p18 hr)
    refine Pm_suc rfl (fun k => e_print_15 k _ _ _) (fun k => e_print_15 k _ _ _) (fun m2 hm2 => ?_)
    rw [hN.1 3 (by omega)]
    refine Pm_ite Iff.rfl (fun _ _ => c17 m2 _ _ (LEn_u hN.1 rfl)) (fun _ _ => ?_)
    refine Pm_suc rfl (fun k => e_print_16 k _ _ _) (fun k => e_print_16 k _ _ _) (fun m3 hm3 => ?_)
    exact c17 m3 _ _ (LEn_u hN.1 rfl)
  · have hlt : i < p := by
      by_cases c : i < p
      · exact c
      · exact absurd ((n_le (by omega) (by omega)).mpr (by omega)) z
    obtain ⟨c1, c2, v1, v2, v3, v4, v5, v6, v7⟩ := hw i hlt
    have c14 : ∀ (m' : Nat) (υ1 υ2 : MS), m' < m → OtE υ1 υ2 → PrF σ1 υ1 → PrF σ2 υ2 → Pm m' (fun k => x_GP k d 0 14 N1 υ1) (fun k => x_GP k d 0 14 N2 υ2) (PQ σ1 σ2) := fun m' υ1 υ2 hm' hO p1 p2 => by
      refine Pm_suc rfl (fun k => e_print_14 k _ _ _) (fun k => e_print_14 k _ _ _) (fun m2 hm2 => ?_)
      rw [hN.2.1, hN.2.2, hN.1 4 (by omega), n4, n_add1, show nI a1 + 4 = nI (a1 + 4) from n_add (q := 4) (by omega), show nI a2 + 4 = nI (a2 + 4) from n_add (q := 4) (by omega), n_add (p := a1 + 4) (by omega), n_add (p := a2 + 4) (by omega)]
      refine Pm_chk (fun _ _ => ?_)
      rw [n_cl (p := a1 + 4 + i) (by omega), n_cl (p := a2 + 4 + i) (by omega), p1.2 28 (by decide), p2.2 28 (by decide), v1, v3]
      refine Pm_odd (fun e he => ?_)
      refine Pm_ob (hrec m2 (by omega) e c1 c2 _ _ υ1 υ2 p1 p2 hO v2 v4 v5 ⟨fun j hj => ?_, rfl, rfl⟩) (fun r1 r2 hr => ?_)
      · by_cases c : j = 2
        · rw [c]; rfl
        · rw [upd_other c, upd_other c, upd_other (by omega), upd_other (by omega)]
      · exact ih m2 (by omega) (i + 1) _ _ r1.2 r2.2 (by omega) (by omega) (PLl_u (by omega) hN rfl) rfl hr.1 hr.2.1 hr.2.2
    refine Pm_ite Iff.rfl (fun _ _ => c14 m1 τ1 τ2 (by omega) hO p1 p2) (fun _ _ => ?_)
    refine Pm_ob (k_putP p1 p2 hO rfl) (fun r1 r2 hr => ?_)
    refine Pm_ob (k_putP hr.2.1 hr.2.2 hr.1 rfl) (fun s1 s2 hs => ?_)
    exact c14 m1 s1.2 s2.2 (by omega) hs.1 hs.2.1 hs.2.2
theorem k_prt (hS1 : HS g1 l1 B1 h1 σ1) (hS2 : HS g2 l2 B2 h2 σ2) : ∀ (m d a1 a2 : Nat) (L1 L2 : Nat → Int32) (τ1 τ2 : MS), PrF σ1 τ1 → PrF σ2 τ2 → OtE τ1 τ2 → (a1 < 3 ∨ g1 a1) → (a2 < 3 ∨ g2 a2) → EVb (σ1.2.2 28) (σ2.2.2 28) a1 a2 → PLl a1 a2 L1 L2 → Pm m (fun k => x_GP k d 0 0 L1 τ1) (fun k => x_GP k d 0 0 L2 τ2) (PQ σ1 σ2) := by
  intro m
  induction m using Nat.strongRecOn with
  | ind m ih =>
  intro d a1 a2 L1 L2 τ1 τ2 p1 p2 hO ha1 ha2 hv hL
  have t1 := p1.2 28 (by decide)
  have t2 := p2.2 28 (by decide)
  refine Pm_suc rfl (fun k => e_print_0 k _ _ _) (fun k => e_print_0 k _ _ _) (fun m1 hm1 => ?_)
  refine Pm_ob (Pm_t2 (s_kind (PrF_HS p1 hS1) ha1 (by exact hL.2.1)) (fun k => f_kind k _ _ _) (s_kind (PrF_HS p2 hS2) ha2 (by exact hL.2.2)) (fun k => f_kind k _ _ _)) (fun r1 r2 hr => ?_)
  rw [hr.1, hr.2, t1, t2, (EVb_sz hv).2.2]
  have hN : PLl a1 a2 (upd L1 3 (nI (kdN (σ1.2.2 28) a1))) (upd L2 3 (nI (kdN (σ1.2.2 28) a1))) := PLl_u (by omega) hL rfl
  have n3 : upd L2 3 (nI (kdN (σ1.2.2 28) a1)) 3 = nI (kdN (σ1.2.2 28) a1) := rfl
  show Pm m1 (fun k => if nI (kdN (σ1.2.2 28) a1) = 0 then ob (x_put k 0 (upd (fun _ => 0) 1 111) τ1) (fun r3 => ob (x_put k 0 (upd (fun _ => 0) 1 109) r3.2) (fun r4 => x_GP k d 0 18 (upd L1 3 (nI (kdN (σ1.2.2 28) a1))) r4.2)) else x_GP k d 0 1 (upd L1 3 (nI (kdN (σ1.2.2 28) a1))) τ1) (fun k => if nI (kdN (σ1.2.2 28) a1) = 0 then ob (x_put k 0 (upd (fun _ => 0) 1 111) τ2) (fun r3 => ob (x_put k 0 (upd (fun _ => 0) 1 109) r3.2) (fun r4 => x_GP k d 0 18 (upd L2 3 (nI (kdN (σ1.2.2 28) a1))) r4.2)) else x_GP k d 0 1 (upd L2 3 (nI (kdN (σ1.2.2 28) a1))) τ2) _
  generalize upd L1 3 (nI (kdN (σ1.2.2 28) a1)) = N1 at hN
  generalize upd L2 3 (nI (kdN (σ1.2.2 28) a1)) = N2 at hN n3
  refine Pm_ite Iff.rfl (fun _ _ => ?_) (fun z0 _ => ?_)
  · refine Pm_ob (k_putP p1 p2 hO rfl) (fun r1 r2 hr => ?_)
    exact Pm_ob (k_putP hr.2.1 hr.2.2 hr.1 rfl) (fun s1 s2 hs => k_p18 hs)
  refine Pm_suc rfl (fun k => e_print_1 k _ _ _) (fun k => e_print_1 k _ _ _) (fun m2 hm2 => ?_)
  rw [hN.1 3 (by omega), n3]
  by_cases c3 : a1 < 3
  · have e12 : a2 = a1 := by
      rcases EVb_3 hv with z | z
      · exact z.2
      · omega
    have k1 : kdN (σ1.2.2 28) a1 = 1 := by
      unfold kdN at z0 ⊢
      by_cases c0 : a1 = 0
      · rw [if_pos c0] at z0; exact absurd rfl z0
      · rw [if_neg c0, if_pos c3]
    have hall : N1 1 = N2 1 := by rw [hN.2.1, hN.2.2, e12]
    rw [k1, hall]
    refine Pm_ite Iff.rfl (fun _ _ => ?_) (fun z _ => absurd rfl z)
    have c3' : ∀ (m : Nat) (O1 O2 : Nat → Int32), LEn 2 O1 O2 → Pm m (fun k => x_GP k d 0 3 O1 τ1) (fun k => x_GP k d 0 3 O2 τ2) (PQ σ1 σ2) := fun m O1 O2 hE => by
      refine Pm_suc rfl (fun k => e_print_3 k _ _ _) (fun k => e_print_3 k _ _ _) (fun m3 hm3 => ?_)
      rw [hE 100 (by omega)]
      exact Pm_ob (k_ptr m3 0 _ _ τ1 τ2 (fun i hi => rfl) hO p1 p2) (fun r1 r2 hr => k_p18 hr)
    refine Pm_ite Iff.rfl (fun _ _ => c3' m2 _ _ (LEn_u hN.1 rfl)) (fun _ _ => ?_)
    refine Pm_suc rfl (fun k => e_print_2 k _ _ _) (fun k => e_print_2 k _ _ _) (fun m3 hm3 => ?_)
    exact c3' m3 _ _ (LEn_u hN.1 rfl)
  obtain ⟨k, p, hE⟩ := OE_of hS1 hS2 (ha1.resolve_left c3) ha2 hv
  obtain ⟨_, _, x3, x4, x5, x6, x7, x8, x9, x10, x11, x12, x13, x14, x15, x16, x17⟩ := hE
  rw [x7] at z0 n3 ⊢
  refine Pm_ite Iff.rfl (fun z _ => absurd ((n_eq (q := 1) (by omega) (by decide)).mp z) (by omega)) (fun _ _ => ?_)
  refine Pm_suc rfl (fun k => e_print_4 k _ _ _) (fun k => e_print_4 k _ _ _) (fun m3 hm3 => ?_)
  rw [hN.1 3 (by omega), n3]
  refine Pm_ite Iff.rfl (fun z _ => ?_) (fun z2 _ => ?_)
  · have z := (n_eq (q := 2) (by omega) (by decide)).mp z
    obtain ⟨w, hW⟩ := WhE_of hS1 hS2 ha1 ha2 hv (by omega)
    refine Pm_ob (k_putWhole (PrF_HS p1 hS1) (PrF_HS p2 hS2) (WhE_Pr p1 p2 hW) hO (by exact hN.2.1) (by exact hN.2.2) (fun i hi => ?_)) (fun r1 r2 hr => k_p18 (PQ_tr p1 p2 hr))
    rw [upd_other (by omega), upd_other (by omega)]
  refine Pm_suc rfl (fun k => e_print_5 k _ _ _) (fun k => e_print_5 k _ _ _) (fun m4 hm4 => ?_)
  rw [hN.1 3 (by omega), n3, hN.2.1, hN.2.2, show nI a1 + 4 = nI (a1 + 4) from n_add (q := 4) (by omega), show nI a2 + 4 = nI (a2 + 4) from n_add (q := 4) (by omega), n_cl (p := a1 + 4) (by omega), n_cl (p := a2 + 4) (by omega)]
  refine Pm_ite Iff.rfl (fun z _ => ?_) (fun z3 _ => ?_)
  · have z := (n_eq (q := 3) (by omega) (by decide)).mp z
    refine Pm_ob (k_putP p1 p2 hO rfl) (fun r1 r2 hr => ?_)
    refine Pm_chk (fun _ _ => ?_)
    obtain ⟨k', n', s', u', q1, q2, q3⟩ := HS_at hS1 (ha1.resolve_left c3)
    have hk' : k' = 3 := by
      have h1 := q1.1
      have hk := q1.2.2.2.2.1
      rw [x9] at h1
      have := (n_eq (by omega) (by omega)).mp h1
      omega
    have hn' : n' = p := by
      have h1 := q1.2.1
      have hn := q1.2.2.2.2.2.2.2.1
      rw [x11] at h1
      have := (n_eq (by omega) (by omega)).mp h1
      omega
    have hp1 : n' = 1 := (q1.2.2.2.2.2.2.2.2.2.1 hk').1
    have ev := x17 (by omega) 0 (by omega)
    rw [hr.2.1.2 28 (by decide), hr.2.2.2 28 (by decide), show σ2.2.2 28 (a2 + 4) = σ1.2.2 28 (a1 + 4) from ev]
    exact Pm_ob (k_pnm m4 12 _ _ r1.2 r2.2 (fun i hi => rfl) hr.1 hr.2.1 hr.2.2) (fun s1 s2 hs => k_p18 hs)
  refine Pm_suc rfl (fun k => e_print_6 k _ _ _) (fun k => e_print_6 k _ _ _) (fun m5 hm5 => ?_)
  rw [hN.1 3 (by omega), hN.1 2 (by omega), n3]
  refine Pm_ite Iff.rfl (fun z _ => ?_) (fun z4 _ => ?_)
  · have z := (n_eq (q := 4) (by omega) (by decide)).mp z
    have c7 : ∀ (m : Nat) (υ1 υ2 : MS), PQ σ1 σ2 (0, υ1) (0, υ2) → Pm m (fun k => x_GP k d 0 7 N1 υ1) (fun k => x_GP k d 0 7 N2 υ2) (PQ σ1 σ2) := fun m υ1 υ2 hu => by
      refine Pm_suc rfl (fun k => e_print_7 k _ _ _) (fun k => e_print_7 k _ _ _) (fun m6 hm6 => ?_)
      exact k_p8 x13 x14 x6 x11 x12 (x17 (by omega)) m6 0 _ _ υ1 υ2 (by omega) (PLl_u (by omega) hN rfl) rfl hu.1 hu.2.1 hu.2.2
    refine Pm_ite Iff.rfl (fun _ _ => ?_) (fun _ _ => c7 m5 τ1 τ2 ⟨hO, p1, p2⟩)
    exact Pm_ob (k_putP p1 p2 hO rfl) (fun r1 r2 hr => c7 m5 r1.2 r2.2 hr)
  have hk5 : 5 ≤ k := by
    have e2 : ¬ k = 2 := fun c => z2 (by rw [c]; rfl)
    have e3 : ¬ k = 3 := fun c => z3 (by rw [c]; rfl)
    have e4 : ¬ k = 4 := fun c => z4 (by rw [c]; rfl)
    omega
  have c12 : ∀ (m' : Nat) (O1 O2 : Nat → Int32), m' < m → PLl a1 a2 O1 O2 → Pm m' (fun k => x_GP k d 0 12 O1 τ1) (fun k => x_GP k d 0 12 O2 τ2) (PQ σ1 σ2) := fun m' O1 O2 hm' hE => by
    refine Pm_suc rfl (fun k => e_print_12 k _ _ _) (fun k => e_print_12 k _ _ _) (fun m6 hm6 => ?_)
    rw [hE.1 100 (by omega)]
    refine Pm_ob (k_putP p1 p2 hO rfl) (fun r1 r2 hr => ?_)
    exact k_p13 (M := m6) (fun m'' hm'' e c1 c2 K1 K2 υ1 υ2 q1 q2 q3 q4 q5 q6 q7 => ih m'' (by omega) e c1 c2 K1 K2 υ1 υ2 q1 q2 q3 q4 q5 q6 q7) x13 x14 x6 x11 x12 (x16 hk5) m6 0 _ _ r1.2 r2.2 (Nat.le_refl _) (by omega) (PLl_u (by omega) hE rfl) rfl hr.1 hr.2.1 hr.2.2
  refine Pm_suc rfl (fun k => e_print_10 k _ _ _) (fun k => e_print_10 k _ _ _) (fun m6 hm6 => ?_)
  rw [hN.1 3 (by omega)]
  refine Pm_ite Iff.rfl (fun _ _ => c12 m6 _ _ (by omega) (PLl_u (by omega) hN rfl)) (fun _ _ => ?_)
  refine Pm_suc rfl (fun k => e_print_11 k _ _ _) (fun k => e_print_11 k _ _ _) (fun m7 hm7 => ?_)
  exact c12 m7 _ _ (by omega) (PLl_u (by omega) hN rfl)
theorem k_printV (hS1 : HS g1 l1 B1 h1 σ1) (hS2 : HS g2 l2 B2 h2 σ2) {a1 a2 : Nat} (ha1 : a1 < 3 ∨ g1 a1) (ha2 : a2 < 3 ∨ g2 a2) (hv : EVb (σ1.2.2 28) (σ2.2.2 28) a1 a2) (hO : OtE σ1 σ2) {L1 L2 : Nat → Int32} (hL : PLl a1 a2 L1 L2) : Pm n (fun k => x_print k 0 L1 σ1) (fun k => x_print k 0 L2 σ2) (PQ σ1 σ2) := k_prt hS1 hS2 n 40 a1 a2 L1 L2 σ1 σ2 PrF_rf PrF_rf hO ha1 ha2 hv hL
end KPR

/-! Two runs side by side (reference): ranges, their loop. -/
section KRL
variable {g1 g2 : Nat → Prop} {l1 l2 : List Nat} {B1 h1 B2 h2 n : Nat} {σ1 σ2 : MS}
def RL (f : Nat) (N1 N2 : Nat → Int32) : Prop := N1 1 = N2 1 ∧ N1 7 = N2 7 ∧ N1 8 = N2 8 ∧ N1 9 = nI f ∧ N2 9 = nI f ∧ N1 11 = N2 11
/-- midway: p pushed -/
def RgS (g1 g2 : Nat → Prop) (B1 h1 B2 h2 f p : Nat) (σ1 σ2 : MS) (N1 N2 : Nat → Int32) (τ1 τ2 : MS) : Prop := ∃ (g1' : Nat → Prop) (l1' : List Nat) (h1' : Nat) (g2' : Nat → Prop) (l2' : List Nat) (h2' : Nat), KPx g1 g2 B1 h1 B2 h2 f p (70 * p + 70) σ1 σ2 τ1 τ2 g1' l1' h1' g2' l2' h2' ∧ RgE g1' g2' τ1 τ2 (N1 3) (N2 3) ∧ RL f N1 N2 ∧ (¬ N1 11 = 0 → RgE g1' g2' τ1 τ2 (N1 10) (N2 10)) ∧ ((N1 7 = 0 ∧ RgE g1' g2' τ1 τ2 (N1 6) (N2 6)) ∨ (¬ N1 7 = 0 ∧ RgE g1' g2' τ1 τ2 (N1 4) (N2 4) ∧ (¬ N1 11 = 0 → (N1 10 = N1 4 ↔ N2 10 = N2 4))))
theorem k_rng24E {m : Nat} {N1 N2 : Nat → Int32} {τ1 τ2 : MS} (hE : KE h1 h2 71200 τ1 τ2) : Pm m (fun k => x_range k 24 N1 τ1) (fun k => x_range k 24 N2 τ2) (KQ h1 h2 71200) := by
  refine Pm_suc rfl (fun k => by rw [x_range]) (fun k => by rw [x_range]) (fun m1 _ => ?_)
  obtain ⟨z1, z2⟩ := KE_le hE
  exact Pm_ite ⟨fun z => absurd z z1, fun z => absurd z z2⟩ (fun z _ => absurd z z1) (fun _ _ => Pm_some (KE_Q hE))
theorem k_rng24 {f p m : Nat} {N1 N2 : Nat → Int32} {τ1 τ2 : MS} (hf : f ≤ 175990) (hr1 : h1 + 71200 ≤ B1 + 870000) (hr2 : h2 + 71200 ≤ B2 + 870000) (hp : p ≤ 1000) (hK : KPh g1 g2 B1 h1 B2 h2 f p (70 * p + 70) σ1 σ2 τ1 τ2) (n1 : N1 1 = N2 1) (n9 : N1 9 = nI f) (o9 : N2 9 = nI f) : Pm m (fun k => x_range k 24 N1 τ1) (fun k => x_range k 24 N2 τ2) (KQ h1 h2 71200) := by
  obtain ⟨g1', l1', h1', g2', l2', h2', q1, q2, q3, q4, q5, q6, q7, q8, q9, q10, q11⟩ := hK
  have b27 : ∀ (m : Nat) (N1 N2 : Nat → Int32) (r1 r2 : Int32 × MS), N1 100 = r1.1 → N2 100 = r2.1 → KQ h1 h2 71200 r1 r2 → Pm m (fun k => x_range k 27 N1 r1.2) (fun k => x_range k 27 N2 r2.2) (KQ h1 h2 71200) := fun m N1 N2 r1 r2 u1 u2 hr => by
    refine Pm_suc rfl (fun k => by rw [x_range]) (fun k => by rw [x_range]) (fun m3 _ => ?_)
    rw [u1, u2]; exact Pm_some hr
  refine Pm_suc rfl (fun k => by rw [x_range]) (fun k => by rw [x_range]) (fun m1 _ => ?_)
  rw [q8, q9]
  refine Pm_ite Iff.rfl (fun _ _ => ?_) (fun z _ => absurd (by decide) z)
  refine Pm_suc rfl (fun k => by rw [x_range]) (fun k => by rw [x_range]) (fun m2 _ => ?_)
  rw [n1]
  refine Pm_ite Iff.rfl (fun _ _ => ?_) (fun _ _ => ?_)
  · refine Pm_suc rfl (fun k => by rw [x_range]) (fun k => by rw [x_range]) (fun m3 _ => ?_)
    exact Pm_ob (k_tupleOf q1.1 q2.1 q8 q9 q5 q6 (by omega) (by omega) (by omega) q7 (by exact n9) (by exact o9)) (fun r1 r2 hr => b27 m3 _ _ r1 r2 rfl rfl (KQ_tr hr (by omega) (by omega)))
  · exact Pm_ob (k_setOf q1.1 q2.1 q8 q9 q5 q6 (by omega) (by omega) (by omega) (by omega) q7 (by exact n9) (by exact o9)) (fun r1 r2 hr => b27 m2 _ _ r1 r2 rfl rfl (KQ_tr hr (by omega) (by omega)))
theorem k_rng15 {f : Nat} (hf : f ≤ 175990) (hr1 : h1 + 71200 ≤ B1 + 870000) (hr2 : h2 + 71200 ≤ B2 + 870000) : ∀ (m p : Nat) (N1 N2 : Nat → Int32) (τ1 τ2 : MS), p ≤ 1000 → RgS g1 g2 B1 h1 B2 h2 f p σ1 σ2 N1 N2 τ1 τ2 → Pm m (fun k => x_range k 15 N1 τ1) (fun k => x_range k 15 N2 τ2) (KQ h1 h2 71200) := by
  intro m
  induction m using Nat.strongRecOn with
  | ind m ih =>
  intro p N1 N2 τ1 τ2 hp hR
  obtain ⟨g1', l1', h1', g2', l2', h2', hX, r3, hL, r10, r67⟩ := hR
  have hX0 := hX
  obtain ⟨q1, q2, q3, q4, q5, q6, q7, q8, q9, q10, q11⟩ := hX
  obtain ⟨n1, n7, n8, n9, o9, n11⟩ := hL
  have c24 : ∀ m', Pm m' (fun k => x_range k 24 N1 τ1) (fun k => x_range k 24 N2 τ2) (KQ h1 h2 71200) := fun m' => k_rng24 hf hr1 hr2 hp ⟨g1', l1', h1', g2', l2', h2', hX0⟩ n1 n9 o9
  have c17 : ∀ m', m' < m → ¬ N1 11 = 0 → Pm m' (fun k => x_range k 17 N1 τ1) (fun k => x_range k 17 N2 τ2) (KQ h1 h2 71200) := by
    intro m' hm' z11
    have s10 := r10 z11
    refine Pm_suc rfl (fun k => by rw [x_range]) (fun k => by rw [x_range]) (fun k1 hk1 => ?_)
    refine Pm_ob (Pm_t2 (s_push q5 (by omega) _) (fun k => f_push k _ _ _) (s_push q6 (by omega) _) (fun k => f_push k _ _ _)) (fun u1 u2 hu => ?_)
    rw [hu.1, hu.2]
    have hW : KPx g1 g2 B1 h1 B2 h2 f (p + 1) (70 * p + 70 + 0) σ1 σ2 (mPu τ1 (f + p) (N1 10)) (mPu τ2 (f + p) (N2 10)) g1' l1' h1' g2' l2' h2' := KPx_op (r1 := (N1 10, τ1)) (r2 := (N2 10, τ2)) hX0 (HG_rf q1.1) (HG_rf q2.1) FW_rf FW_rf q8 q9 (RgE_VC q1.1 q2.1 s10) (by omega) (by omega)
    show Pm k1 (fun k => if nI (f + p + 1) - N1 9 ≤ 1000 then x_range k 18 N1 (mPu τ1 (f + p) (N1 10)) else ob (x_fail k 0 (upd (fun _ => 0) 1 5) (mPu τ1 (f + p) (N1 10))) (fun r3 => x_range k 15 N1 r3.2)) (fun k => if nI (f + p + 1) - N2 9 ≤ 1000 then x_range k 18 N2 (mPu τ2 (f + p) (N2 10)) else ob (x_fail k 0 (upd (fun _ => 0) 1 5) (mPu τ2 (f + p) (N2 10))) (fun r3 => x_range k 15 N2 r3.2)) _
    have tr : ∀ x y, RgE g1' g2' τ1 τ2 x y → RgE g1' g2' (mPu τ1 (f + p) (N1 10)) (mPu τ2 (f + p) (N2 10)) x y := fun x y hx => RgE_c hx (mPu_o (by decide)) (mPu_o (by decide))
    have s3 := tr _ _ r3
    have s10 := tr _ _ s10
    have s67 : (N1 7 = 0 ∧ RgE g1' g2' (mPu τ1 (f + p) (N1 10)) (mPu τ2 (f + p) (N2 10)) (N1 6) (N2 6)) ∨ (¬ N1 7 = 0 ∧ RgE g1' g2' (mPu τ1 (f + p) (N1 10)) (mPu τ2 (f + p) (N2 10)) (N1 4) (N2 4) ∧ (N1 10 = N1 4 ↔ N2 10 = N2 4)) := r67.imp (fun z => ⟨z.1, tr _ _ z.2⟩) (fun z => ⟨z.1, tr _ _ z.2.1, z.2.2 z11⟩)
    generalize mPu τ1 (f + p) (N1 10) = υ1 at hW s3 s10 s67
    generalize mPu τ2 (f + p) (N2 10) = υ2 at hW s3 s10 s67
    have hW0 := hW
    obtain ⟨w1, w2, w3, w4, w5, w6, w7, w8, w9, w10, w11⟩ := hW
    rw [n9, o9, n_sub (by omega) (by omega), show f + p + 1 - f = p + 1 by omega]
    refine Pm_ite Iff.rfl (fun z _ => ?_) (fun _ _ => ?_)
    case refine_2 =>
      refine Pm_ob (Pm_t2 (s_fail _ υ1) (fun k => f_fail k _ _ _) (s_fail _ υ2) (fun k => f_fail k _ _ _)) (fun r1 r2 hr => ?_)
      rw [hr.1, hr.2]
      have hE : KE h1 h2 71200 (mEr υ1 5) (mEr υ2 5) := ⟨mEr_e (by decide), mEr_e (by decide), ⟨h1', h2', (mEr_s (by decide)).trans w1.1.2.2.1, (mEr_s (by decide)).trans w2.1.2.2.1, by omega, by omega⟩, ErB_er (e := 5) ⟨0, w8, by decide⟩ (by decide), ErB_er (e := 5) ⟨0, w9, by decide⟩ (by decide)⟩
      show Pm k1 (fun k => x_range k 15 N1 (mEr υ1 5)) (fun k => x_range k 15 N2 (mEr υ2 5)) _
      refine Pm_suc rfl (fun k => by rw [x_range]) (fun k => by rw [x_range]) (fun k2 hk2 => ?_)
      exact Pm_ite ⟨fun z => absurd z hE.1, fun z => absurd z hE.2.1⟩ (fun z _ => absurd z hE.1) (fun _ _ => k_rng24E hE)
    have hp1 := (n_le (q := 1000) (by omega) (by decide)).mp z
    refine Pm_suc rfl (fun k => by rw [x_range]) (fun k => by rw [x_range]) (fun k2 hk2 => ?_)
    rw [← n7]
    refine Pm_ite Iff.rfl (fun z7 _ => ?_) (fun z7 _ => ?_)
    · -- one step on
      have s6 : RgE g1' g2' υ1 υ2 (N1 6) (N2 6) := by
        rcases s67 with z | z
        · exact z.2
        · exact absurd z7 z.1
      refine Pm_suc rfl (fun k => by rw [x_range]) (fun k => by rw [x_range]) (fun k3 hk3 => ?_)
      refine Pm_ob (RgE_add w1.1 w2.1 w8 w9 w5 w6 (by omega) (by omega) (by omega) s10 s6 rfl rfl rfl rfl (Or.inl rfl) (fun i hi => ?_)) (fun s1 s2 hs => ?_)
      · by_cases c : i = 3
        · rw [c]; rfl
        · rw [upd_other c, upd_other c, upd_other (by omega), upd_other (by omega), upd_other (by omega), upd_other (by omega)]
      obtain ⟨ee, eb1, eb2, G1, M1, H1, G2, M2, H2, a1, a2, a3, a4, a5, a6, a7, a8, a9⟩ := hs
      have tr3 : ∀ x y, RgE g1' g2' υ1 υ2 x y → RgE G1 G2 s1.2 s2.2 x y := fun x y hx => RgE_g w1.1 w2.1 a1 a2 hx
      have hY : KPx g1 g2 B1 h1 B2 h2 f (p + 1) (70 * p + 70 + 0 + 70) σ1 σ2 (mSc s1.2 56 0) (mSc s2.2 56 0) G1 M1 H1 G2 M2 H2 := KPx_st (υ1 := mSc s1.2 56 0) (υ2 := mSc s2.2 56 0) hW0 ⟨HS_c a1.1 rfl rfl rfl, a1.2.1, a1.2.2.1, a1.2.2.2⟩ ⟨HS_c a2.1 rfl rfl rfl, a2.2.1, a2.2.2.1, a2.2.2.2⟩ (FW_tr a3 (FW_sc (Or.inr (Or.inl rfl)))) (FW_tr a4 (FW_sc (Or.inr (Or.inl rfl)))) a5 a6 rfl rfl a8 a9
      have c23 : ∀ (m'' : Nat) (O1 O2 : Nat → Int32), m'' < m → O1 1 = N1 1 → O2 1 = N2 1 → O1 3 = N1 3 → O2 3 = N2 3 → O1 6 = N1 6 → O2 6 = N2 6 → O1 7 = N1 7 → O2 7 = N2 7 → O1 8 = N1 8 → O2 8 = N2 8 → O1 9 = nI f → O2 9 = nI f → O1 10 = s1.1 → O2 10 = s2.1 → O1 100 = O2 100 → (¬ O1 100 = 0 → s1.2.1 56 = 0) → Pm m'' (fun k => x_range k 23 O1 s1.2) (fun k => x_range k 23 O2 s2.2) (KQ h1 h2 71200) := by
        intro m'' O1 O2 hm'' i1 j1 i3 j3 i6 j6 i7 j7 i8 j8 i9 j9 i10 j10 i100 hz
        refine Pm_suc rfl (fun k => by rw [x_range]) (fun k => by rw [x_range]) (fun k4 hk4 => ?_)
        show Pm k4 (fun k => x_range k 15 (upd O1 11 (O1 100)) (mSc s1.2 56 0)) (fun k => x_range k 15 (upd O2 11 (O2 100)) (mSc s2.2 56 0)) _
        refine ih k4 (by omega) (p + 1) _ _ _ _ hp1 ⟨G1, M1, H1, G2, M2, H2, ?_, ?_, ⟨?_, ?_, ?_, i9, j9, i100⟩, fun y => ?_, Or.inl ⟨?_, ?_⟩⟩
        · rw [show 70 * (p + 1) + 70 = 70 * p + 70 + 0 + 70 by omega]; exact hY
        · show RgE G1 G2 (mSc s1.2 56 0) (mSc s2.2 56 0) (O1 3) (O2 3)
          rw [i3, j3]; exact RgE_c (tr3 _ _ s3) rfl rfl
        · show O1 1 = O2 1
          rw [i1, j1, n1]
        · show O1 7 = O2 7
          rw [i7, j7, n7]
        · show O1 8 = O2 8
          rw [i8, j8, n8]
        · show RgE G1 G2 (mSc s1.2 56 0) (mSc s2.2 56 0) (O1 10) (O2 10)
          rw [i10, j10]; exact RgE_c (a7 (hz y)) rfl rfl
        · show O1 7 = 0
          rw [i7]; exact z7
        · show RgE G1 G2 (mSc s1.2 56 0) (mSc s2.2 56 0) (O1 6) (O2 6)
          rw [i6, j6]; exact RgE_c (tr3 _ _ s6) rfl rfl
      refine Pm_ite ee (fun w0 _ => c23 k3 _ _ (by omega) rfl rfl rfl rfl rfl rfl rfl rfl rfl rfl n9 o9 rfl rfl rfl (fun _ => w0)) (fun _ _ => ?_)
      refine Pm_suc rfl (fun k => by rw [x_range]) (fun k => by rw [x_range]) (fun k4 hk4 => ?_)
      exact c23 k4 _ _ (by omega) rfl rfl rfl rfl rfl rfl rfl rfl rfl rfl n9 o9 rfl rfl rfl (fun y => absurd rfl y)
    · obtain ⟨s4, seq⟩ : RgE g1' g2' υ1 υ2 (N1 4) (N2 4) ∧ (N1 10 = N1 4 ↔ N2 10 = N2 4) := by
        rcases s67 with z | z
        · exact absurd z.1 z7
        · exact z.2
      have c20 : ∀ (m'' : Nat) (O1 O2 : Nat → Int32), m'' < m → O1 1 = N1 1 → O2 1 = N2 1 → O1 3 = N1 3 → O2 3 = N2 3 → O1 4 = N1 4 → O2 4 = N2 4 → O1 7 = N1 7 → O2 7 = N2 7 → O1 8 = N1 8 → O2 8 = N2 8 → O1 9 = nI f → O2 9 = nI f → O1 100 = O2 100 → Pm m'' (fun k => x_range k 20 O1 υ1) (fun k => x_range k 20 O2 υ2) (KQ h1 h2 71200) := by
        intro m'' O1 O2 hm'' i1 j1 i3 j3 i4 j4 i7 j7 i8 j8 i9 j9 i100
        refine Pm_suc rfl (fun k => by rw [x_range]) (fun k => by rw [x_range]) (fun k4 hk4 => ?_)
        refine ih k4 (by omega) (p + 1) _ _ _ _ hp1 ⟨g1', l1', h1', g2', l2', h2', ?_, ?_, ⟨?_, ?_, ?_, i9, j9, i100⟩, fun _ => ?_, Or.inr ⟨?_, ?_, fun _ => Iff.intro (fun _ => rfl) (fun _ => rfl)⟩⟩
        · obtain ⟨v1, v2, v3, v4, v5, v6, v7, v8, v9, v10, v11⟩ := hW0
          exact ⟨v1, v2, v3, v4, v5, v6, v7, v8, v9, by omega, by omega⟩
        · show RgE g1' g2' υ1 υ2 (O1 3) (O2 3)
          rw [i3, j3]; exact s3
        · show O1 1 = O2 1
          rw [i1, j1, n1]
        · show O1 7 = O2 7
          rw [i7, j7, n7]
        · show O1 8 = O2 8
          rw [i8, j8, n8]
        · show RgE g1' g2' υ1 υ2 (O1 4) (O2 4)
          rw [i4, j4]; exact s4
        · show ¬ O1 7 = 0
          rw [i7]; exact z7
        · show RgE g1' g2' υ1 υ2 (O1 4) (O2 4)
          rw [i4, j4]; exact s4
      refine Pm_ite seq (fun _ _ => ?_) (fun _ _ => c20 k2 _ _ (by omega) rfl rfl rfl rfl rfl rfl rfl rfl rfl rfl n9 o9 rfl)
      refine Pm_suc rfl (fun k => by rw [x_range]) (fun k => by rw [x_range]) (fun k3 hk3 => ?_)
      exact c20 k3 _ _ (by omega) rfl rfl rfl rfl rfl rfl rfl rfl rfl rfl n9 o9 rfl
  refine Pm_suc rfl (fun k => by rw [x_range]) (fun k => by rw [x_range]) (fun k1 hk1 => ?_)
  rw [q8, q9, n11, n8]
  refine Pm_ite Iff.rfl (fun _ _ => ?_) (fun z _ => absurd rfl z)
  refine Pm_ite Iff.rfl (fun _ _ => c24 k1) (fun z11 _ => ?_)
  have z11 : ¬ N1 11 = 0 := by rw [n11]; exact z11
  have s10 := r10 z11
  refine Pm_ite Iff.rfl (fun _ _ => ?_) (fun _ _ => ?_)
  · refine Pm_suc rfl (fun k => by rw [x_range]) (fun k => by rw [x_range]) (fun k2 hk2 => ?_)
    refine Pm_ob (RgE_cmp q1.1 q2.1 s10 r3 rfl rfl rfl rfl) (fun r1 r2 hr => ?_)
    rw [hr.1, hr.2.1, hr.2.2]
    exact Pm_ite Iff.rfl (fun _ _ => c24 k2) (fun _ _ => c17 k2 (by omega) z11)
  · refine Pm_ob (RgE_cmp q1.1 q2.1 s10 r3 rfl rfl rfl rfl) (fun r1 r2 hr => ?_)
    rw [hr.1, hr.2.1, hr.2.2]
    exact Pm_ite Iff.rfl (fun _ _ => c24 k1) (fun _ _ => c17 k1 (by omega) z11)
end KRL

/-! Evaluation on both sides (reference): an iterator's row is evaluated; what an iterator gives is bound. -/
/-- behind an iterator's opening -/
def OpQ (b e' t w XC : Nat) (σ1 σ2 : MS) (r1 r2 : Int32 × MS) : Prop := FI NoN e' σ1 r1.2 ∧ FI NoN e' σ2 r2.2 ∧ ((∃ w', w ≤ w' ∧ EI t w' XC r1.2 r2.2 ∧ r1.2.1 72 = nI (e' + 1)) ∨ (EZ t b r1.2 ∧ EZ t b r2.2 ∧ r1.2.1 72 = nI e' ∧ r2.2.1 72 = nI e'))
section EOP
variable {T : Nat → Nat → Int32} {FN : Nat → Nat → Prop} {O r K d t u w XC : Nat} {lc : Nat → Prop} {σ σ1 σ2 τ τ1 τ2 ρ : MS}
theorem E_open {n e e' f : Nat} (hE : PE T FN e) (hn : (1 ≤ n ∧ n < LNo T % 70001)) (hW : WN T FN f 0 O r K lc (T 7 n)) (hP : PC T FN O r K lc e t w XC σ1) (hI : EI t w XC σ1 σ2) (h72 : σ1.1 72 = nI e') (he' : e' < 4000) {L1 L2 : Nat → Int32} (d1 : L1 1 = nI n) (d2 : L2 1 = nI n) : T2 (fun k => x_GV k (e + 1) 9 0 L1 σ1) (fun k => x_GV k (e + 1) 9 0 L2 σ2) (OpQ (178000 + e) e' t w XC σ1 σ2) := by
  have ht := PC_t hP
  have hXC := hP.2.1
  have hS1 := hP.1
  have hS2 := EI_ST hI hS1
  have g72 : σ2.1 72 = nI e' := by
    obtain ⟨_, _, _, _, _, _, _, _, _, _, _, _, hR, _⟩ := hI
    exact (hR.2.2.1 72 (by unfold AlS; omega)).symm.trans h72
  refine T2_suc (fun k => e_openIter_0 k _ _ _) (fun k => e_openIter_0 k _ _ _) ?_
  rw [d1, d2]
  refine T2_chk (n_in (by omega) (by omega)) (n_in (by omega) (by omega)) ?_
  rw [n_cl (p := n) (by omega), hS1.1 7 _ (by omega) (by omega) (by omega), hS2.1 7 _ (by omega) (by omega) (by omega)]
  refine T2_od ?_
  refine T2_ob (hE f O r K lc (T 7 n) t w XC σ1 σ2 _ _ hW hP hI rfl rfl) (fun r1 r2 hr => ?_)
  obtain ⟨f1, f2, hr⟩ := hr
  have s72 : r1.2.1 72 = nI e' := (f1.1 72 (by unfold AlS; omega) (by decide) (by decide) (by decide)).trans h72
  have u72 : r2.2.1 72 = nI e' := (f2.1 72 (by unfold AlS; omega) (by decide) (by decide) (by decide)).trans g72
  have i1 : FI NoN e' σ1 r1.2 := FI_fe f1 h72 (by omega) (Nat.le_refl _)
  have i2 : FI NoN e' σ2 r2.2 := FI_fe f2 g72 (by omega) (Nat.le_refl _)
  rcases hr with ⟨w2, hw2, hJ⟩ | ⟨z1, z2⟩
  case inr =>
    refine T2_ite ⟨fun z => absurd z (EZ_le z1), fun z => absurd z (EZ_le z2)⟩ (fun z _ => absurd z (EZ_le z1)) (fun _ _ => ?_)
    exact T2_some ⟨i1, i2, Or.inr ⟨z1, z2, s72, u72⟩⟩
  obtain ⟨q1, q2⟩ := EI_e hJ
  obtain ⟨p1, p2⟩ := EI_59 hJ
  rw [q1, q2]
  refine T2_ite Iff.rfl (fun _ _ => ?_) (fun z _ => absurd (by decide : (0 : Int32) ≤ 0) z)
  refine T2_suc (fun k => e_openIter_1 k _ _ _) (fun k => e_openIter_1 k _ _ _) ?_
  refine T2_ob (T2_t (s_pop p1 (by omega) _) (s_pop p2 (by omega) _)) (fun u1 u2 hu => ?_)
  rw [hu.1, hu.2]
  have hD := EI_dn (show t ≤ t + 1 by omega) hJ
  obtain ⟨gA, lA, BA, hA, XA, gB, lB, BB, hB, XB, hX⟩ := hJ
  obtain ⟨va, vb, va1, va2, va3, va4, va5, va6, va7⟩ := hX.2.2.1.1 29 t (Or.inl ⟨rfl, by omega⟩) (by unfold VwR; omega)
  have k2e : kdN (r2.2.2.2 28) vb = kdN (r1.2.2.2 28) va := (EVb_sz va5).2.2
  refine T2_ob (T2_t (s_isRow (σ := mSc r1.2 59 (nI t)) (HS_c hX.1.1 rfl rfl rfl) va2 (by exact va1)) (s_isRow (σ := mSc r2.2 59 (nI t)) (HS_c hX.2.1.1 rfl rfl rfl) va4 (by exact va3))) (fun y1 y2 hy => ?_)
  obtain ⟨⟨hy1, hy2⟩, hy3, hy4⟩ := hy
  have hy2 : (y1.1 = 0 ∧ kdN (r1.2.2.2 28) va < 4) ∨ (y1.1 = 1 ∧ 4 ≤ kdN (r1.2.2.2 28) va) := hy2
  have hy4 : (y2.1 = 0 ∧ kdN (r2.2.2.2 28) vb < 4) ∨ (y2.1 = 1 ∧ 4 ≤ kdN (r2.2.2.2 28) vb) := hy4
  rw [hy1, hy3]
  have f59 : ∀ σ : MS, FI NoN e' σ (mSc σ 59 (nI t)) := fun σ => ⟨fun j _ _ h _ _ => upd_other h, fun _ _ _ _ _ => rfl, rfl, KPn_same rfl (fun _ _ => rfl)⟩
  refine T2_ite ⟨fun z => ?_, fun z => ?_⟩ (fun z z' => ?_) (fun z z' => ?_)
  · rcases hy2 with y | y
    · rcases hy4 with x | x
      · exact x.1
      · omega
    · rw [y.1] at z; exact absurd z (by decide)
  · rcases hy4 with y | y
    · rcases hy2 with x | x
      · exact x.1
      · omega
    · rw [y.1] at z; exact absurd z (by decide)
  · refine T2_ob (T2_t (s_fail _ _) (s_fail _ _)) (fun s1 s2 hs => ?_)
    rw [hs.1, hs.2]
    obtain ⟨z1, z2⟩ := E_er (a := t) (b := 178000 + e) (e := 1) hXC hD (by decide) (by decide) (Nat.le_refl _) (by omega)
    have fe : ∀ (σ : MS) (x : Int32), FI NoN e' σ (mEr σ x) := fun σ x => ⟨fun j h _ _ _ _ => mEr_s (by unfold AlS at h; omega), fun _ _ _ _ _ => rfl, rfl, KPn_same rfl (fun _ _ => rfl)⟩
    exact T2_some ⟨FI_tr i1 (FI_tr (f59 _) (fe _ _)), FI_tr i2 (FI_tr (f59 _) (fe _ _)), Or.inr ⟨z1, z2, (mEr_s (by decide)).trans s72, (mEr_s (by decide)).trans u72⟩⟩
  · have ka : 4 ≤ kdN (r1.2.2.2 28) va := by
      rcases hy2 with y | y
      · exact absurd y.1 z
      · exact y.2
    have kb : 4 ≤ kdN (r2.2.2.2 28) vb := by rw [k2e]; exact ka
    have hK := EI_it hX s72 he' va1 va3 (kdN_ge hX.1.1 va2 (by omega)) (kdN_ge hX.2.1.1 va4 (by omega)) ka kb
    have opn : ∀ (M1 M2 : Nat → Int32) (ρ1 ρ2 : MS), ρ1.1 72 = nI e' → ρ2.1 72 = nI e' → T2 (fun k => x_GV k (e + 1) 9 2 M1 ρ1) (fun k => x_GV k (e + 1) 9 2 M2 ρ2) (fun s1 s2 => s1 = (0, mIt ρ1 e' (M1 2)) ∧ s2 = (0, mIt ρ2 e' (M2 2))) := by
      intro M1 M2 ρ1 ρ2 c1 c2
      refine T2_suc (fun k => e_openIter_2 k _ _ _) (fun k => e_openIter_2 k _ _ _) ?_
      rw [c1, c2]
      refine T2_chk (n_in (by omega) (by omega)) (n_in (by omega) (by omega)) ?_
      rw [n_cl (p := e') (by omega)]
      show T2 (fun k => x_GV k (e + 1) 9 3 M1 (mAr ρ1 34 e' (M1 2))) (fun k => x_GV k (e + 1) 9 3 M2 (mAr ρ2 34 e' (M2 2))) _
      refine T2_suc (fun k => e_openIter_3 k _ _ _) (fun k => e_openIter_3 k _ _ _) ?_
      rw [show (mAr ρ1 34 e' (M1 2)).1 72 = nI e' from c1, show (mAr ρ2 34 e' (M2 2)).1 72 = nI e' from c2]
      refine T2_chk (n_in (by omega) (by omega)) (n_in (by omega) (by omega)) ?_
      rw [n_cl (p := e') (by omega)]
      show T2 (fun k => x_GV k (e + 1) 9 4 M1 (mAr (mAr ρ1 34 e' (M1 2)) 35 e' 0)) (fun k => x_GV k (e + 1) 9 4 M2 (mAr (mAr ρ2 34 e' (M2 2)) 35 e' 0)) _
      refine T2_suc (fun k => e_openIter_4 k _ _ _) (fun k => e_openIter_4 k _ _ _) ?_
      rw [show (mAr (mAr ρ1 34 e' (M1 2)) 35 e' 0).1 72 = nI e' from c1, show (mAr (mAr ρ2 34 e' (M2 2)) 35 e' 0).1 72 = nI e' from c2, n_add1]
      exact T2_some ⟨rfl, rfl⟩
    refine T2_mono (opn _ _ _ _ (by exact s72) (by exact u72)) (fun s1 s2 hs => ?_)
    rw [hs.1, hs.2]
    show OpQ (178000 + e) e' t w XC σ1 σ2 (0, mIt (mSc r1.2 59 (nI t)) e' (r1.2.2.2 29 t)) (0, mIt (mSc r2.2 59 (nI t)) e' (r2.2.2.2 29 t))
    rw [va1, va3]
    exact ⟨FI_tr i1 (FI_tr (f59 _) (FI_it (Nat.le_refl _))), FI_tr i2 (FI_tr (f59 _) (FI_it (Nat.le_refl _))), Or.inl ⟨w2, hw2, hK, rfl⟩⟩
/-- what an iterator gives: a member of its row; it and its members can be reached -/
theorem IT_val {g1 g2 : Nat → Prop} {l1 l2 : List Nat} {B1 h1 X1 B2 h2 X2 e i0 v1 v2 k p : Nat} (hX : EIx t w XC σ1 σ2 g1 l1 B1 h1 X1 g2 l2 B2 h2 X2) (h72 : σ1.1 72 = nI e) (he : e ≤ 4000) (hi : i0 < e) (a1 : σ1.2.2 34 i0 = nI v1) (a2 : σ2.2.2 34 i0 = nI v2) (b1 : v1 < 1740000) (b2 : v2 < 1740000) (k5 : 5 ≤ kdN (σ1.2.2 28) v1) (hp : σ1.2.2 28 (v1 + 1) = nI p) (hp2 : p ≤ 3996) (hk : k < p) :
    ∃ a b, σ1.2.2 28 (v1 + 4 + k) = nI a ∧ σ2.2.2 28 (v2 + 4 + k) = nI b ∧ (a < 3 ∨ g1 a) ∧ (b < 3 ∨ g2 b) ∧ EVb (σ1.2.2 28) (σ2.2.2 28) a b ∧ VC g1 g2 (σ1.2.2 28) (σ2.2.2 28) (nI a) (nI b) ∧ (a < 3 ∨ Rch (σ1.2.2 28) (RoS t σ1) a) ∧ (b < 3 ∨ Rch (σ2.2.2 28) (RoS t σ2) b) ∧ (kdN (σ1.2.2 28) a = 5 → ∃ q, σ1.2.2 28 (a + 1) = nI q ∧ σ2.2.2 28 (b + 1) = nI q ∧ q ≤ 3996 ∧ a + 4 + q ≤ 1740000 ∧ b + 4 + q ≤ 1740000 ∧ ∀ i, i < q → VC g1 g2 (σ1.2.2 28) (σ2.2.2 28) (σ1.2.2 28 (a + 4 + i)) (σ2.2.2 28 (b + 4 + i)) ∧ (∃ m, σ1.2.2 28 (a + 4 + i) = nI m ∧ (m < 3 ∨ Rch (σ1.2.2 28) (RoS t σ1) m)) ∧ ∃ m, σ2.2.2 28 (b + 4 + i) = nI m ∧ (m < 3 ∨ Rch (σ2.2.2 28) (RoS t σ2) m)) := by
  obtain ⟨m1, m2, hR, _⟩ := hX
  have e2 : (σ1.1 72).toNatClampNeg = e := by rw [h72]; exact n_cl (by omega)
  have rt1 : RtP t σ1 34 i0 := by
    unfold RtP
    rw [e2]
    exact Or.inr (Or.inr (Or.inr (Or.inr (Or.inl ⟨rfl, hi⟩))))
  have rt2 := (RA_rt m1.2.1 hR t 34 i0).mpr rt1
  obtain ⟨x1, x2, y1, y2, y3, y4, y5, y6, y7⟩ := hR.1 34 i0 rt1 (by unfold VwR; omega)
  have ex1 : x1 = v1 := (n_eq (by omega) (by omega)).mp (y1.symm.trans a1)
  have ex2 : x2 = v2 := (n_eq (by omega) (by omega)).mp (y3.symm.trans a2)
  subst ex1
  subst ex2
  obtain ⟨kk, p', hO⟩ := OE_of m1.1 m2.1 (kdN_ge m1.1 y2 (by omega)) y4 y5
  obtain ⟨gv1, gv2, o3, o4, o5, o6, o7, o8, o9, o10, o11, o12, o13, o14, o15, o16, o17⟩ := hO
  have ep : p' = p := (n_eq (by omega) (by omega)).mp (o11.symm.trans hp)
  subst ep
  obtain ⟨a, b, c1, c2, c3, c4, c5, c6, c7⟩ := o16 (by omega) k hk
  have r1 : Rch (σ1.2.2 28) (RoS t σ1) x1 := Rch_b ⟨o3, by omega, 34, i0, rt1, a1⟩
  have r2 : Rch (σ2.2.2 28) (RoS t σ2) x2 := Rch_b ⟨o4, by omega, 34, i0, rt2, a2⟩
  have ra := Rch_mem m1.1 r1 k5 gv1 o11 o6 hk c1 c2
  have rb := Rch_mem m2.1 r2 (by rw [o8]; omega) gv2 o12 o6 hk c3 c4
  refine ⟨a, b, c1, c3, c2, c4, c5, ⟨a, b, rfl, c2, rfl, c4, c5, c6, c7⟩, ra, rb, fun ka => ?_⟩
  have ga := kdN_ge m1.1 c2 (by omega)
  have gb := kdN_ge m2.1 c4 (by rw [(EVb_sz c5).2.2]; omega)
  obtain ⟨kq, q, hQ⟩ := OE_of m1.1 m2.1 ga c4 c5
  obtain ⟨_, _, q3, q4, q5, q6, q7, q8, q9, q10, q11, q12, q13, q14, q15, q16, q17⟩ := hQ
  refine ⟨q, q11, q12, q6, q13, q14, fun i hi => ?_⟩
  obtain ⟨c, d', s1, s2, s3, s4, s5, s6, s7⟩ := q16 (by omega) i hi
  refine ⟨⟨c, d', s1, s2, s3, s4, s5, s6, s7⟩, ⟨c, s1, ?_⟩, ⟨d', s3, ?_⟩⟩
  · exact Rch_mem m1.1 (ra.resolve_left (by omega)) (by omega) ga q11 q6 hi s1 s2
  · exact Rch_mem m2.1 (rb.resolve_left (by omega)) (by omega) gb q12 q6 hi s3 s4
end EOP

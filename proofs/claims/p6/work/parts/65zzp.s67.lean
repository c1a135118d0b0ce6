/-! Statements of the reference: what is written of each. -/
def mAr (σ : MS) (j i : Nat) (x : Int32) : MS := (σ.1, σ.2.1, updG σ.2.2 j (upd (σ.2.2 j) i x))
def mSt (σ : MS) (x : Int32) : MS := (upd σ.1 44 x, σ.2.1, σ.2.2)
section STM
variable {T : Nat → Int32} {n : Nat} {E : En} {o q v M P w lp : Nat} {b : BT} {s : SB} {MD : Nat → Nat → Nat} {σ τ : MS}
theorem PS_g (h : PS T n E o q v b σ) (hs : ∀ j, τ.1 j = σ.1 j) (hg : ∀ j, j ≠ 10 → j ≠ 11 → τ.2.2 j = σ.2.2 j) : PS T n E o q v b τ := by
  obtain ⟨⟨⟨a1, a2⟩, a3, a4, a5, ⟨c1, c2, c3, c4, c5, c6⟩, a6⟩, ⟨d1, d2⟩, ⟨e1, e2, e3, e4, e5⟩, ⟨f1, f2, f3, f4, f5⟩, ⟨⟨g1, g2, g3⟩, ⟨g4, g5, g6⟩, ⟨g7, g8, g9⟩⟩, ⟨i1, i2, i3⟩⟩ := h
  have gg : ∀ j, j ≠ 10 → j ≠ 11 → ∀ i, τ.2.2 j i = σ.2.2 j i := fun j hj hk i => by rw [hg j hj hk]
  refine ⟨⟨⟨(hs 4).trans a1, a2⟩, (hg 3 (by decide) (by decide)).trans a3, (hg 1 (by decide) (by decide)).trans a4, (hs 10).trans a5, ⟨c1, (hs 8).trans c2, (hs 5).trans c3, (hs 9).trans c4, (hs 6).trans c5, ?_⟩, a6⟩, ⟨(hs 13).trans d1, d2⟩, ⟨(hs 22).trans e1, e2, (hs 24).trans e3, fun j h4 h9 i hi hi2 => (gg j (by omega) (by omega) i).trans (e4 j h4 h9 i hi hi2), fun i hi => (gg 12 (by decide) (by decide) i).trans (e5 i hi)⟩, ⟨(hs 37).trans f1, f2, (gg 21 (by decide) (by decide) _).trans f3, f4, fun i hi => (gg 20 (by decide) (by decide) _).trans (f5 i hi)⟩, ⟨⟨(hs 38).trans g1, g2, ?_⟩, ⟨(hs 52).trans g4, g5, ?_⟩, ⟨(hs 25).trans g7, g8, ?_⟩⟩, ⟨?_, ?_, ?_⟩⟩
  · obtain ⟨w, hw⟩ := c6
    exact ⟨w, (hs 7).trans hw⟩
  · rw [hg 22 (by decide) (by decide), hg 23 (by decide) (by decide), hg 24 (by decide) (by decide)]; exact g3
  · rw [hg 25 (by decide) (by decide), hg 26 (by decide) (by decide), hg 27 (by decide) (by decide)]; exact g6
  · rw [hg 13 (by decide) (by decide), hg 14 (by decide) (by decide), hg 15 (by decide) (by decide), hg 16 (by decide) (by decide)]; exact g9
  · rw [hs 43]; exact i1
  · rw [hs 42]; exact i2
  · rw [hg 18 (by decide) (by decide)]; exact i3
theorem mAr_o {j i k : Nat} {x : Int32} (h : k ≠ j) : (mAr σ j i x).2.2 k = σ.2.2 k := updG_other h
theorem mAr_s {j i : Nat} {x : Int32} : (mAr σ j i x).2.2 j = upd (σ.2.2 j) i x := updG_same
theorem FrZ_ar {j i : Nat} {x : Int32} (hj : j = 10 ∨ j = 11) : FrZ M P w σ (mAr σ j i x) := by
  refine ⟨fun _ _ => rfl, rfl, fun k hk => mAr_o (by omega), fun k h4 h9 i _ _ => ?_, fun i _ => ?_, fun i _ => ?_, fun i _ => ?_⟩
  · rw [mAr_o (by omega)]
  · rw [mAr_o (by omega)]
  · rw [mAr_o (by omega)]
  · rw [mAr_o (by omega)]
theorem Bb_ar {m j i : Nat} {x : Int32} (h : Bb m σ) : Bb m (mAr σ j i x) := h
theorem FrZ_st (x : Int32) : FrZ M P w σ (mSt σ x) := ⟨fun j hj => upd_other (by omega), rfl, fun _ _ => rfl, fun _ _ _ _ _ _ => rfl, fun _ _ => rfl, fun _ _ => rfl, fun _ _ => rfl⟩
theorem PZ_pl {i : Nat} {x : Int32} (h : PZ T n MD E lp o q v b s σ) : PZ T n MD E lp o q v b (sPl s i x) (mAr σ 11 i x) := by
  obtain ⟨h1, h2, h3, h4, h5, h6⟩ := h
  refine ⟨PS_g h1 (fun _ => rfl) (fun j _ hj => mAr_o hj), ?_, h3, h4, h5, fun k => ?_⟩
  · unfold PMs; rw [mAr_o (by decide)]; exact h2
  · rw [mAr_o (by decide), mAr_s]
    refine ⟨(h6 k).1, ?_⟩
    show upd (σ.2.2 11) i x k = upd s.2.2 i x k
    by_cases c : k = i
    · subst c; rw [upd_same, upd_same]
    · rw [upd_other c, upd_other c]; exact (h6 k).2
theorem PZ_up {i : Nat} {x : Int32} (h : PZ T n MD E lp o q v b s σ) : PZ T n MD E lp o q v b (sUp s i x) (mAr σ 10 i x) := by
  obtain ⟨h1, h2, h3, h4, h5, h6⟩ := h
  refine ⟨PS_g h1 (fun _ => rfl) (fun j hj _ => mAr_o hj), ?_, h3, h4, h5, fun k => ?_⟩
  · unfold PMs; rw [mAr_o (by decide)]; exact h2
  · rw [mAr_o (j := 10) (k := 11) (by decide), mAr_s]
    refine ⟨?_, (h6 k).2⟩
    show upd (σ.2.2 10) i x k = upd s.2.1 i x k
    by_cases c : k = i
    · subst c; rw [upd_same, upd_same]
    · rw [upd_other c, upd_other c]; exact (h6 k).1
theorem PZ_st (h : PZ T n MD E lp o q v b s σ) (hs : ¬ s.1 = 400) : PZ T n MD E lp o q v b (sMo s) (mSt σ (nI (s.1 + 1))) := by
  obtain ⟨h1, h2, h3, h4, h5, h6⟩ := h
  refine ⟨PS_sc h1 (fun j hj => upd_other (by omega)), h2, ⟨?_, h3.2⟩, (upd_same : upd σ.1 44 (nI (s.1 + 1)) 44 = nI (s.1 + 1)), (by show s.1 + 1 ≤ 400; omega), h6⟩
  show upd σ.1 44 (nI (s.1 + 1)) 45 = nI lp
  rw [upd_other (by decide)]; exact h3.1
theorem st14b {d m e st K : Nat} {ρ : MS} {N : Nat → Int32} (hB : Bb m ρ) (hF : FrZ M P E.2.2.2.1 σ ρ) (hN4 : N 4 = nI e) (he : e = 0 ∨ M ≤ e) (he2 : e < 70000) (hN2 : N 2 = nI st) (hst : st < 401) (hK : m ≤ K) (hM : M ≤ m) : Tm (fun k => x_GS k d 3 14 N ρ) (PoZ T n MD E lp o M P K σ none) := by
  refine Tm_suc (fun k => by rw [xS_3]) ?_
  show Tm (fun k => if ¬ (N 4 < 0 ∨ 70000 ≤ (N 4).toNatClampNeg) then x_GS k d 3 15 N (mSet ρ 8 (N 4).toNatClampNeg (N 2)) else none) _
  rw [hN4]
  refine Tm_chk (n_in (by omega) (by omega)) ?_
  rw [n_cl (p := e) (by omega)]
  have hB1 : Bb m (mSet ρ 8 e (N 2)) := Bb_set hB
  have hF1 : FrZ M P E.2.2.2.1 σ (mSet ρ 8 e (N 2)) := FrZ_tr hF (FrZ_of (FrM_set (by decide) (by decide) he _))
  generalize mSet ρ 8 e (N 2) = ρ1 at hB1 hF1
  refine Tm_suc (fun k => by rw [xS_3]) ?_
  show Tm (fun k => if ¬ (N 2 < 0 ∨ 401 ≤ (N 2).toNatClampNeg) then x_GS k d 3 16 N (mAr ρ1 11 (N 2).toNatClampNeg (N 3)) else none) _
  rw [hN2]
  refine Tm_chk (n_in (by omega) (by omega)) ?_
  rw [n_cl (p := st) (by omega)]
  refine Tm_suc (fun k => by rw [xS_3]) ?_
  exact Tm_some ⟨⟨m, Bb_ar hB1, hK, hM⟩, ⟨e, hN4, he2, he⟩, FrZ_tr hF1 (FrZ_ar (Or.inr rfl))⟩
theorem st14 {d K q0 : Nat} {t : ST} {ρ : MS} {N : Nat → Int32} (hZ : PZ T n MD E lp o t.1 t.2.1 t.2.2.2.2.1 t.2.2.2.2.2 ρ) (hF : FrZ M P E.2.2.2.1 σ ρ) (hN4 : N 4 = nI t.2.2.2.1) (he : M ≤ t.2.2.2.1) (he2 : t.2.2.2.1 < 70000) (hN2 : N 2 = nI s.1) (hst : s.1 < 401) (hN3 : N 3 = nI q0) : Tm (fun k => x_GS k d 3 14 N ρ) (PoZ T n MD E lp o M P K σ (some (t.1, t.2.1, s.1, t.2.2.2.1, bSet t.2.2.2.2.1 8 t.2.2.2.1 (nI s.1), sPl t.2.2.2.2.2 s.1 (nI q0)))) := by
  refine Tm_suc (fun k => by rw [xS_3]) ?_
  show Tm (fun k => if ¬ (N 4 < 0 ∨ 70000 ≤ (N 4).toNatClampNeg) then x_GS k d 3 15 N (mSet ρ 8 (N 4).toNatClampNeg (N 2)) else none) _
  rw [hN4]
  refine Tm_chk (n_in (by omega) (by omega)) ?_
  rw [n_cl (p := t.2.2.2.1) (by omega), hN2]
  have hS1 := PS_set hZ.1 (j := 8) (l := t.2.2.2.1) (by decide) (by decide) (nI s.1)
  have hF0 : FrM M P E.2.2.2.1 ρ (mSet ρ 8 t.2.2.2.1 (nI s.1)) := FrM_set (by decide) (by decide) (Or.inr he) _
  have hZ1 := PZ_fr2 hZ hS1 hF0 hZ.2.2.1.2
  have hF1 := FrZ_tr hF (FrZ_of hF0)
  generalize mSet ρ 8 t.2.2.2.1 (nI s.1) = ρ1 at hZ1 hF1
  refine Tm_suc (fun k => by rw [xS_3]) ?_
  show Tm (fun k => if ¬ (N 2 < 0 ∨ 401 ≤ (N 2).toNatClampNeg) then x_GS k d 3 16 N (mAr ρ1 11 (N 2).toNatClampNeg (N 3)) else none) _
  rw [hN2]
  refine Tm_chk (n_in (by omega) (by omega)) ?_
  rw [n_cl (p := s.1) (by omega), hN3]
  refine Tm_suc (fun k => by rw [xS_3]) ?_
  exact Tm_some ⟨PZ_pl hZ1, hN4, FrZ_tr hF1 (FrZ_ar (Or.inr rfl))⟩
end STM

/-! A block of the reference. -/
def SZ1 (T : Nat → Int32) (n : Nat) (MD : Nat → Nat → Nat) (f : Nat) : Prop := ∀ (E : En) (lp o q v : Nat) (b : BT) (s : SB) (x : Option ST), GS T n MD f 1 E lp o q v 0 0 0 b s = some x → ∀ (σ : MS) (L : Nat → Int32) (d M P : Nat), PZ T n MD E lp o q v b s σ → 1 ≤ M → M ≤ b.1 → P ≤ b.2.1 → b.1 + (n + 1 - q) + 967 + d ≤ 70000 → b.2.1 + (n - q) ≤ 70000 → 3 * (20 - o) ≤ d → Tm (fun k => x_GS k d 3 0 L σ) (PoZ T n MD E lp o M P (b.1 + (n + 1 - q) + 964 + d) σ x)
def SL0 (T : Nat → Int32) (n : Nat) (MD : Nat → Nat → Nat) (f : Nat) : Prop := ∀ (E : En) (lp o q v : Nat) (pe : Int32) (i l : Nat) (b : BT) (s : SB) (x : Option ST), GS T n MD f 0 E lp o q v pe i l b s = some x → ∀ (σ : MS) (L : Nat → Int32) (d M P : Nat), PZ T n MD E lp o q v b s σ → 1 ≤ M → M ≤ b.1 → P ≤ b.2.1 → b.1 + (n + 1 - q) + 967 + d ≤ 70000 → b.2.1 + (n - q) ≤ 70000 → 3 * (20 - o) + 1 ≤ d → L 1 = pe → L 2 = hd i → (¬ i = 0 → L 3 = nI l ∧ M ≤ l ∧ l < b.1 ∧ M ≤ i ∧ i < b.1) → Tm (fun k => x_GS k d 0 1 L σ) (PoB T n MD E lp o M P (b.1 + (n + 1 - q) + 964 + d) σ x)
theorem PoB_tr {T : Nat → Int32} {n : Nat} {MD : Nat → Nat → Nat} {E : En} {lp o M P k k' : Nat} {σ τ : MS} {x : Option ST} {r : Int32 × MS} (h : FrZ M P E.2.2.2.1 σ τ) (hk : k' ≤ k) (hp : PoB T n MD E lp o M P k' τ x r) : PoB T n MD E lp o M P k σ x r := by
  cases x with
  | none =>
    obtain ⟨⟨m, h1, h2, h3⟩, h4⟩ := hp
    exact ⟨⟨m, h1, by omega, h3⟩, FrZ_tr h h4⟩
  | some t => exact ⟨hp.1, hp.2.1, FrZ_tr h hp.2.2⟩
section STM
variable {T : Nat → Int32} {n : Nat} {MD : Nat → Nat → Nat}
theorem sb_of {f : Nat} (H : SL0 T n MD f) : SB0 T n MD f := fun E lp o q v pe b s x hG σ L d M P hZ h1 hM hP hn hp hd hL => by
  refine Tm_suc (fun k => by rw [xS_0]) ?_
  show Tm (fun k => x_GS k d 0 1 (upd (upd L 2 (-1)) 3 (-1)) σ) _
  exact H E lp o q v pe 0 0 b s x hG σ _ d M P hZ h1 hM hP hn hp hd (by rw [upd_other (by decide), upd_other (by decide)]; exact hL) (by rw [upd_other (by decide), upd_same]; rfl) (fun z => absurd rfl z)
theorem e_block {f : Nat} (H1 : SZ1 T n MD f) (H0 : SL0 T n MD f) : SL0 T n MD (f + 1) := fun E lp o q v pe i l b s x hG σ L d M P hZ h1 hM hP hn hp hdd hL1 hL2 hL3 => by
  have hS := hZ.1
  have hq := PS_q hS
  have hv := PS_v hS
  simp only [GS] at hG
  refine Tm_suc (fun k => by rw [xS_0]) ?_
  refine Tm_ite (fun _ => ?_) (fun z => absurd (PS_ok hS) z)
  refine Tm_ob (p_isBE hS _) (fun r hr => ?_)
  obtain ⟨u, τ⟩ := r
  obtain ⟨h3, hr⟩ := hr
  have h3 : τ = σ := h3
  subst h3
  refine Tm_ite (fun z => ?_) (fun z => ?_)
  · rw [if_neg (fun y => hr.mpr y z)] at hG
    obtain ⟨d', rfl⟩ : ∃ d', d = d' + 1 := ⟨d - 1, by omega⟩
    rcases hb_any hG with ⟨h7, hy⟩ | ⟨t, h7, hG⟩
    · subst hy
      refine Tm_ob (H1 _ _ _ _ _ _ _ none h7 τ (fun _ => 0) d' M P hZ h1 hM hP (by omega) hp (by omega)) (fun r4 hr4 => ?_)
      obtain ⟨⟨m, hm, hmk, hMm⟩, _, hF⟩ := hr4
      refine Tm_ite (fun z => absurd z hm.1) (fun _ => ?_)
      exact Tm_some ⟨⟨m, hm, by omega, hMm⟩, hF⟩
    obtain ⟨⟨a1, a2, a3, a4, a5, a6, a7, a8, a9, a10⟩, _, e2, e3⟩ := gs_mo f _ _ _ _ _ _ _ _ _ _ _ t M (by decide) hq.1 hv hZ.2.2.2.2.1 h7 h1 hM (fun z => absurd z (by decide)) (fun z => absurd z (by decide))
    obtain ⟨⟨e21, e22⟩, e23⟩ := e2 (by decide)
    obtain ⟨e31, e32, e33⟩ := e3 rfl
    refine Tm_ob (H1 _ _ _ _ _ _ _ (some t) h7 τ (fun _ => 0) d' M P hZ h1 hM hP (by omega) hp (by omega)) (fun r4 hr4 => ?_)
    obtain ⟨hZ4, hr41, hF4⟩ := hr4
    refine Tm_ite (fun _ => ?_) (fun z => absurd (PS_ok hZ4.1) z)
    have j1 : upd L 4 r4.1 1 = pe := by rw [upd_other (by decide)]; exact hL1
    have j2 : upd L 4 r4.1 2 = hd i := by rw [upd_other (by decide)]; exact hL2
    have j3 : upd L 4 r4.1 3 = L 3 := by rw [upd_other (by decide)]
    have j4 : upd L 4 r4.1 4 = nI t.2.2.2.1 := by rw [upd_same]; exact hr41
    generalize upd L 4 r4.1 = N at j1 j2 j3 j4
    refine Tm_suc (fun k => by rw [xS_0]) ?_
    show Tm (fun k => if ¬ (N 4 < 0 ∨ 70000 ≤ (N 4).toNatClampNeg) then (if ¬ (r4.2.2.2 8 (N 4).toNatClampNeg < 0 ∨ 401 ≤ (r4.2.2.2 8 (N 4).toNatClampNeg).toNatClampNeg) then x_GS k (d' + 1) 0 3 N (mAr r4.2 10 (r4.2.2.2 8 (N 4).toNatClampNeg).toNatClampNeg (N 1)) else none) else none) _
    rw [j4]
    refine Tm_chk (n_in (by omega) (by omega)) ?_
    rw [n_cl (p := t.2.2.2.1) (by omega)]
    have h8 : r4.2.2.2 8 t.2.2.2.1 = nI s.1 := (hZ4.1.2.2.1.2.2.2.1 8 (by decide) (by decide) _ (by omega) e22).trans e33
    rw [h8]
    refine Tm_chk (n_in (by omega) (by omega)) ?_
    rw [n_cl (p := s.1) (by omega), j1]
    have hZ5 : PZ T n MD E lp o t.1 t.2.1 t.2.2.2.2.1 (sUp t.2.2.2.2.2 t.2.2.1 pe) (mAr r4.2 10 s.1 pe) := by rw [e31]; exact PZ_up hZ4
    have hF5 : FrZ M P E.2.2.2.1 τ (mAr r4.2 10 s.1 pe) := FrZ_tr hF4 (FrZ_ar (Or.inl rfl))
    generalize mAr r4.2 10 s.1 pe = σ5 at hZ5 hF5
    have hf2 := fst2_b (M := M) (m := t.2.2.2.2.1.1) (i := i) (fun z => ⟨(hL3 z).2.2.2.1, by have := (hL3 z).2.2.2.2; omega⟩) ⟨e21, e22⟩
    have f20 : ¬ fst2 i t.2.2.2.1 = 0 := by omega
    have hi70 : i < 70000 := by
      by_cases c : i = 0
      · omega
      · have := (hL3 c).2.2.2.2; omega
    have five : ∀ (ρ : MS) (N' : Nat → Int32), PZ T n MD E lp o t.1 t.2.1 (bLnk i l t.2.2.2.1 t.2.2.2.2.1) (sUp t.2.2.2.2.2 t.2.2.1 pe) ρ → FrZ M P E.2.2.2.1 τ ρ → N' 1 = pe → N' 2 = hd (fst2 i t.2.2.2.1) → N' 4 = nI t.2.2.2.1 → Tm (fun k => x_GS k (d' + 1) 0 5 N' ρ) (PoB T n MD E lp o M P (b.1 + (n + 1 - q) + 964 + (d' + 1)) τ x) := fun ρ N' hZ6 hF6 k1 k2 k4 => by
      refine Tm_suc (fun k => by rw [xS_0]) ?_
      show Tm (fun k => x_GS k (d' + 1) 0 1 (upd N' 3 (N' 4)) ρ) _
      refine Tm_mono (H0 _ _ _ _ _ _ _ _ _ _ x hG ρ _ (d' + 1) M P hZ6 h1 (by rw [bLnk_1]; omega) (by rw [bLnk_p]; omega) (by rw [bLnk_1]; omega) (by rw [bLnk_p]; omega) hdd (by rw [upd_other (by decide)]; exact k1) (by rw [upd_other (by decide)]; exact k2) (fun _ => ⟨by rw [upd_same]; exact k4, e21, by rw [bLnk_1]; exact e22, hf2.1, by rw [bLnk_1]; exact hf2.2⟩)) (fun r hr => ?_)
      exact PoB_tr hF6 (by rw [bLnk_1]; omega) hr
    refine Tm_suc (fun k => by rw [xS_0]) ?_
    refine Tm_ite (fun z => ?_) (fun z => ?_)
    · have i0 : i = 0 := (hd_no hi70).mp (by rw [← j2]; exact z)
      subst i0
      refine five σ5 _ hZ5 hF5 (by rw [upd_other (by decide)]; exact j1) ?_ (by rw [upd_other (by decide)]; exact j4)
      rw [upd_same, j4]; exact (hd_pos (i := t.2.2.2.1) (by omega)).symm
    have i0 : ¬ i = 0 := fun y => z (by show N 2 = -1; rw [j2]; exact (hd_no hi70).mpr y)
    obtain ⟨k3, l1, l2, _, _⟩ := hL3 i0
    refine Tm_suc (fun k => by rw [xS_0]) ?_
    show Tm (fun k => if ¬ (N 3 < 0 ∨ 70000 ≤ (N 3).toNatClampNeg) then x_GS k (d' + 1) 0 5 N (mSet σ5 9 (N 3).toNatClampNeg (N 4)) else none) _
    rw [j3, k3]
    refine Tm_chk (n_in (by omega) (by omega)) ?_
    rw [n_cl (p := l) (by omega), j4]
    have eb : bLnk i l t.2.2.2.1 t.2.2.2.2.1 = bSet t.2.2.2.2.1 9 l (nI t.2.2.2.1) := if_neg i0
    have ef : fst2 i t.2.2.2.1 = i := if_neg i0
    have hFs : FrM M P E.2.2.2.1 σ5 (mSet σ5 9 l (nI t.2.2.2.1)) := FrM_set (by decide) (by decide) (Or.inr l1) _
    refine five (mSet σ5 9 l (nI t.2.2.2.1)) N (by rw [eb]; exact PZ_fr2 hZ5 (PS_set hZ5.1 (by decide) (by decide) _) hFs hZ5.2.2.1.2) (FrZ_tr hF5 (FrZ_of hFs)) j1 (by rw [ef]; exact j2) j4
  · rw [if_pos (hr.mp z)] at hG
    cases hG
    refine Tm_suc (fun k => by rw [xS_0]) ?_
    exact Tm_some ⟨hZ, hL2, FrZ_rf⟩
end STM

/-! Fors of the reference. -/
def mSn (σ : MS) (x : Int32) : MS := (upd σ.1 38 x, σ.2.1, σ.2.2)
section STM
variable {T : Nat → Int32} {n : Nat} {E : En} {o q v M P w lp : Nat} {b : BT} {s : SB} {MD : Nat → Nat → Nat} {σ τ : MS}
theorem PZ_see {ns : List Nm} {o' q' v' : Nat} {b' : BT} (h : PZ T n MD E lp o q v b s σ) (hS : PS T n (seeN E ns) o' q' v' b' τ) (hF : FrM M P w σ τ) (ho : lp ≤ o') : PZ T n MD (seeN E ns) lp o' q' v' b' s τ := by
  obtain ⟨_, h2, h3, h4, h5, h6⟩ := h
  have h2' := PMs_fr h2 hF
  refine ⟨hS, h2', ?_, ?_, h5, ?_⟩
  · rw [hF.1 45 (by decide)]; exact ⟨h3.1, ho⟩
  · rw [hF.1 44 (by decide)]; exact h4
  · rw [hF.2.2.1 10 (by decide), hF.2.2.1 11 (by decide)]; exact h6
theorem PZ_uns {ns : List Nm} {o' q' v' : Nat} {b' : BT} (h : PZ T n MD (seeN E ns) lp o q v b s σ) (hS : PS T n E o' q' v' b' τ) (hF : FrM M P w σ τ) (ho : lp ≤ o') : PZ T n MD E lp o' q' v' b' s τ := by
  obtain ⟨_, h2, h3, h4, h5, h6⟩ := h
  have h2' : PMs τ E MD := PMs_fr h2 hF
  refine ⟨hS, h2', ?_, ?_, h5, ?_⟩
  · rw [hF.1 45 (by decide)]; exact ⟨h3.1, ho⟩
  · rw [hF.1 44 (by decide)]; exact h4
  · rw [hF.2.2.1 10 (by decide), hF.2.2.1 11 (by decide)]; exact h6
theorem Bb_snZ {m : Nat} (h : Bb m σ) (x : Int32) : Bb m (mSn σ x) := ⟨by show ¬ upd σ.1 38 x 10 = 0; rw [upd_other (by decide)]; exact h.1, by show upd σ.1 38 x 22 = _; rw [upd_other (by decide)]; exact h.2⟩
theorem FrM_snZ (x : Int32) : FrM M P w σ (mSn σ x) := FrM_sc (fun j hj => upd_other (by omega))
theorem fo5b {d m e K : Nat} {ρ : MS} {N : Nat → Int32} (hB : Bb m ρ) (hF : FrZ M P E.2.2.2.1 σ ρ) (hN : N 1 = nI e) (he : M ≤ e) (he2 : e < 70000) (hK : m ≤ K) (hM : M ≤ m) : Tm (fun k => x_GS k d 1 5 N ρ) (PoZ T n MD E lp o M P K σ none) := by
  refine Tm_suc (fun k => by rw [xS_1]) ?_
  show Tm (fun k => x_GS k d 1 6 N (mLp ρ (ρ.1 45 - 1))) _
  have hB1 := Bb_lp hB (ρ.1 45 - 1)
  have hF1 : FrZ M P E.2.2.2.1 σ (mLp ρ (ρ.1 45 - 1)) := FrZ_tr hF (FrZ_lp _)
  generalize mLp ρ (ρ.1 45 - 1) = ρ1 at hB1 hF1
  refine Tm_suc (fun k => by rw [xS_1]) ?_
  refine Tm_ob (b_wantWord hB1.1 _) (fun r hr => ?_)
  obtain ⟨u, τ⟩ := r
  have hr : τ = ρ1 := hr
  subst hr
  refine Tm_ob (b_want hB1.1 _) (fun r hr => ?_)
  obtain ⟨u, ρ2⟩ := r
  have hr : ρ2 = τ := hr
  subst hr
  show Tm (fun k => x_GS k d 1 7 N (mSn ρ2 (N 2))) _
  have hB2 := Bb_snZ hB1 (N 2)
  have hF2 : FrZ M P E.2.2.2.1 σ (mSn ρ2 (N 2)) := FrZ_tr hF1 (FrZ_of (FrM_snZ _))
  generalize mSn ρ2 (N 2) = ρ3 at hB2 hF2
  refine Tm_suc (fun k => by rw [xS_1]) ?_
  show Tm (fun k => x_GS k d 1 8 N (mOpn ρ3 (ρ3.1 13 - 1))) _
  refine Tm_suc (fun k => by rw [xS_1]) ?_
  exact Tm_some ⟨⟨m, Bb_opn hB2 _, hK, hM⟩, ⟨e, hN, he2, Or.inr he⟩, FrZ_tr hF2 (FrZ_of (FrM_opn _))⟩
theorem fo4b {d m e K : Nat} {ρ : MS} {N : Nat → Int32} (hB : Bb m ρ) (hF : FrZ M P E.2.2.2.1 σ ρ) (hN : N 1 = nI e) (he : M ≤ e) (he2 : e < 70000) (hK : m ≤ K) (hM : M ≤ m) : Tm (fun k => x_GS k (d + 1) 1 4 N ρ) (PoZ T n MD E lp o M P K σ none) := by
  refine Tm_suc (fun k => by rw [xS_1]) ?_
  refine Tm_ob (b_block (d := d) hB.1) (fun r hr => ?_)
  obtain ⟨u, ρ2⟩ := r
  have hr : ρ2 = ρ := hr
  subst hr
  rw [hN]
  refine Tm_chk (n_in (by omega) (by omega)) ?_
  rw [n_cl (p := e) (by omega)]
  show Tm (fun k => x_GS k (d + 1) 1 5 N (mSet ρ2 7 e u)) _
  exact fo5b (Bb_set hB) (FrZ_tr hF (FrZ_of (FrM_set (by decide) (by decide) (Or.inr he) _))) hN he he2 hK hM
theorem fo3b {d m e K : Nat} {ρ : MS} {N : Nat → Int32} (hB : Bb m ρ) (hF : FrZ M P E.2.2.2.1 σ ρ) (hN : N 1 = nI e) (he : M ≤ e) (he2 : e < 70000) (hK : m ≤ K) (hM : M ≤ m) : Tm (fun k => x_GS k (d + 1) 1 3 N ρ) (PoZ T n MD E lp o M P K σ none) := by
  refine Tm_suc (fun k => by rw [xS_1]) ?_
  refine Tm_ob (b_wantWord hB.1 _) (fun r hr => ?_)
  obtain ⟨u, τ⟩ := r
  have hr : τ = ρ := hr
  subst hr
  show Tm (fun k => x_GS k (d + 1) 1 4 N (mLp τ (τ.1 45 + 1))) _
  exact fo4b (Bb_lp hB _) (FrZ_tr hF (FrZ_lp _)) hN he he2 hK hM
theorem fo2b {d m e K : Nat} {ρ : MS} {N : Nat → Int32} (hB : Bb m ρ) (hF : FrZ M P E.2.2.2.1 σ ρ) (hN : N 1 = nI e) (he : M ≤ e) (he2 : e < 70000) (hK : m ≤ K) (hM : M ≤ m) : Tm (fun k => x_GS k (d + 1) 1 2 N ρ) (PoZ T n MD E lp o M P K σ none) := by
  refine Tm_suc (fun k => by rw [xS_1]) ?_
  refine Tm_ite (fun z => absurd z hB.1) (fun _ => ?_)
  exact fo3b hB hF hN he he2 hK hM
/-- from 'do' on -/
theorem fo3 {f d e q3 v3 K : Nat} {b3 : BT} {ns : List Nm} {x : Option ST} {ρ : MS} {N : Nat → Int32} (H0 : SB0 T n MD f) (hG : hW T n 44 q3 (fun q4 => hb (GS T n MD f 0 (seeN E ns) (lp + 1) (o + 1) q4 v3 (nI e) 0 0 b3 s) (fun t => hE T n t.1 (fun q5 => some (some (q5, t.2.1, 0, e, bSet t.2.2.2.2.1 7 e (hd t.2.2.2.1), t.2.2.2.2.2))))) = some x) (hZ : PZ T n MD (seeN E ns) lp (o + 1) q3 v3 b3 s ρ) (hlo : lp ≤ o) (hF : FrZ M P E.2.2.2.1 σ ρ) (hN : N 1 = nI e) (hN2 : N 2 = nI E.2.1.length) (he : M ≤ e) (h1 : 1 ≤ M) (hM : M ≤ b3.1) (he2 : e < b3.1) (hP : P ≤ b3.2.1) (hn : b3.1 + (n + 1 - q3) + 967 + d ≤ 70000) (hp : b3.2.1 + (n - q3) ≤ 70000) (hdd : 3 * (20 - (o + 1)) + 1 ≤ d) (hK : b3.1 + (n + 1 - q3) + 964 + d ≤ K) : Tm (fun k => x_GS k (d + 1) 1 3 N ρ) (PoZ T n MD E lp o M P K σ x) := by
  have hS := hZ.1
  have hq := PS_q hS
  have hv := PS_v hS
  have hu := tkN_b T n q3 hq.1
  refine Tm_suc (fun k => by rw [xS_1]) ?_
  refine Tm_ob (p_wantWord (M := M) (P := P) (w := E.2.2.2.1) hS (s := 12) (by decide) rfl) (fun r6 hr6 => ?_)
  show Tm (fun k => x_GS k (d + 1) 1 4 N (mLp r6.2 (r6.2.1 45 + 1))) _
  rcases hW_any hG with ⟨t6, rfl⟩ | ⟨t6, hG⟩
  · rcases hr6.2 with ⟨_, hB⟩ | ⟨z, _⟩
    · exact fo4b (Bb_lp hB _) (FrZ_tr hF (FrZ_tr (FrZ_of hr6.1) (FrZ_lp _))) hN he (by omega) (by omega) hM
    · exact absurd z t6
  rcases hr6.2 with ⟨z, _⟩ | ⟨_, hS6⟩
  · exact absurd t6 z
  have hZ6 := PZ_fr2 hZ hS6 hr6.1 hZ.2.2.1.2
  have ho2 := PS_o hS6
  have h45 : r6.2.1 45 + 1 = nI (lp + 1) := by rw [hZ6.2.2.1.1]; exact n_add (p := lp) (q := 1) (by omega)
  rw [h45]
  have hZ7 := PZ_lp hZ6 (lp' := lp + 1) (by omega)
  have hF7 : FrZ M P E.2.2.2.1 σ (mLp r6.2 (nI (lp + 1))) := FrZ_tr hF (FrZ_tr (FrZ_of hr6.1) (FrZ_lp _))
  generalize mLp r6.2 (nI (lp + 1)) = σ7 at hZ7 hF7
  refine Tm_suc (fun k => by rw [xS_1]) ?_
  rcases hb_any hG with ⟨h8, hy⟩ | ⟨y, h8, hG⟩
  · subst hy
    refine Tm_ob (H0 _ (lp + 1) (o + 1) _ _ _ _ s none h8 σ7 (upd (fun _ => 0) 1 (N 1)) d M P hZ7 h1 hM hP (by omega) (by omega) hdd (by rw [upd_same]; exact hN)) (fun r8 hr8 => ?_)
    obtain ⟨⟨m, hm, hmk, hMm⟩, hF8⟩ := hr8
    rw [hN]
    refine Tm_chk (n_in (by omega) (by omega)) ?_
    rw [n_cl (p := e) (by omega)]
    show Tm (fun k => x_GS k (d + 1) 1 5 N (mSet r8.2 7 e r8.1)) _
    exact fo5b (Bb_set hm) (FrZ_tr hF7 (FrZ_tr hF8 (FrZ_of (FrM_set (by decide) (by decide) (Or.inr he) _)))) hN he (by omega) (by omega) hMm
  obtain ⟨⟨b1, b2, b3', b4, b5, b6, b7, b8, b9, b10⟩, _⟩ := gs_mo f _ _ _ _ _ _ _ _ _ _ _ y M (by decide) hu.2.1 hv hZ.2.2.2.2.1 h8 h1 hM (fun _ z => absurd rfl z) (fun z => absurd z (by decide))
  refine Tm_ob (H0 _ (lp + 1) (o + 1) _ _ _ _ s (some y) h8 σ7 (upd (fun _ => 0) 1 (N 1)) d M P hZ7 h1 hM hP (by omega) (by omega) hdd (by rw [upd_same]; exact hN)) (fun r8 hr8 => ?_)
  obtain ⟨hZ8, hr81, hF8⟩ := hr8
  rw [hN, hr81]
  refine Tm_chk (n_in (by omega) (by omega)) ?_
  rw [n_cl (p := e) (by omega)]
  generalize hhd : hd y.2.2.2.1 = hx at hG
  show Tm (fun k => x_GS k (d + 1) 1 5 N (mSet r8.2 7 e hx)) _
  have hS9 := PS_set hZ8.1 (j := 7) (l := e) (by decide) (by decide) hx
  have hF9 : FrM M P E.2.2.2.1 r8.2 (mSet r8.2 7 e hx) := FrM_set (by decide) (by decide) (Or.inr he) _
  have hZ9 := PZ_fr2 hZ8 hS9 hF9 hZ8.2.2.1.2
  have hF9 : FrZ M P E.2.2.2.1 σ (mSet r8.2 7 e hx) := FrZ_tr hF7 (FrZ_tr hF8 (FrZ_of hF9))
  generalize mSet r8.2 7 e hx = σ9 at hS9 hZ9 hF9
  refine Tm_suc (fun k => by rw [xS_1]) ?_
  have h45 : σ9.1 45 - 1 = nI lp := by rw [hZ9.2.2.1.1]; exact n_sub (p := lp + 1) (q := 1) (by omega) (by omega)
  show Tm (fun k => x_GS k (d + 1) 1 6 N (mLp σ9 (σ9.1 45 - 1))) _
  rw [h45]
  have hZa := PZ_lp hZ9 (lp' := lp) (by omega)
  have hFa : FrZ M P E.2.2.2.1 σ (mLp σ9 (nI lp)) := FrZ_tr hF9 (FrZ_lp _)
  generalize mLp σ9 (nI lp) = σa at hZa hFa
  refine Tm_suc (fun k => by rw [xS_1]) ?_
  have fin : ∀ (ρ' : MS) (m : Nat), Bb m ρ' → M ≤ m → m ≤ K → FrZ M P E.2.2.2.1 σ ρ' → Tm (fun k => x_GS k (d + 1) 1 7 N (mSn ρ' (N 2))) (PoZ T n MD E lp o M P K σ none) := fun ρ' m hB m1 m2 hF => by
    have hB2 := Bb_snZ hB (N 2)
    have hF2 : FrZ M P E.2.2.2.1 σ (mSn ρ' (N 2)) := FrZ_tr hF (FrZ_of (FrM_snZ _))
    generalize mSn ρ' (N 2) = ρ3 at hB2 hF2
    refine Tm_suc (fun k => by rw [xS_1]) ?_
    show Tm (fun k => x_GS k (d + 1) 1 8 N (mOpn ρ3 (ρ3.1 13 - 1))) _
    refine Tm_suc (fun k => by rw [xS_1]) ?_
    exact Tm_some ⟨⟨m, Bb_opn hB2 _, m2, m1⟩, ⟨e, hN, by omega, Or.inr he⟩, FrZ_tr hF2 (FrZ_of (FrM_opn _))⟩
  refine Tm_ob (p_wantWord (M := M) (P := P) (w := E.2.2.2.1) hZa.1 (s := 6) (by decide) rfl) (fun rb hrb => ?_)
  unfold hE at hG
  rcases hW_any hG with ⟨tb, rfl⟩ | ⟨tb, hG⟩
  · rcases hrb.2 with ⟨_, hB⟩ | ⟨z, _⟩
    · rw [bSet_1] at hB
      refine Tm_ob (b_want hB.1 _) (fun r hr => ?_)
      obtain ⟨u, ρ2⟩ := r
      have hr : ρ2 = rb.2 := hr
      subst hr
      exact fin rb.2 _ hB (by omega) (by omega) (FrZ_tr hFa (FrZ_of hrb.1))
    · exact absurd z tb
  rcases hrb.2 with ⟨z, _⟩ | ⟨_, hSb⟩
  · exact absurd tb z
  refine Tm_ob (p_want (M := M) (P := P) (w := E.2.2.2.1) hSb (s := 13) (by decide) (by decide) rfl) (fun rc hrc => ?_)
  rcases hW_any hG with ⟨tc, rfl⟩ | ⟨tc, hG⟩
  · rcases hrc.2 with ⟨_, hB⟩ | ⟨z, _⟩
    · rw [bSet_1] at hB
      exact fin rc.2 _ hB (by omega) (by omega) (FrZ_tr hFa (FrZ_tr (FrZ_of hrb.1) (FrZ_of hrc.1)))
    · exact absurd z tc
  rcases hrc.2 with ⟨z, _⟩ | ⟨_, hSc⟩
  · exact absurd tc z
  show Tm (fun k => x_GS k (d + 1) 1 7 N (mSn rc.2 (N 2))) _
  rw [hN2]
  have hSd : PS T n E (o + 1) _ _ _ (mSn rc.2 (nI E.2.1.length)) := PS_sn hSc
  have hFd : FrM M P E.2.2.2.1 σa (mSn rc.2 (nI E.2.1.length)) := FrM_tr hrb.1 (FrM_tr hrc.1 (FrM_snZ _))
  generalize mSn rc.2 (nI E.2.1.length) = σd at hSd hFd
  refine Tm_suc (fun k => by rw [xS_1]) ?_
  show Tm (fun k => x_GS k (d + 1) 1 8 N (mOpn σd (σd.1 13 - 1))) _
  refine Tm_suc (fun k => by rw [xS_1]) ?_
  cases hG
  have hFe : FrM M P E.2.2.2.1 σa (mOpn σd (σd.1 13 - 1)) := FrM_tr hFd (FrM_opn _)
  exact Tm_some ⟨PZ_uns hZa (PS_clo hSd) hFe hlo, hN, FrZ_tr hFa (FrZ_of hFe)⟩
end STM

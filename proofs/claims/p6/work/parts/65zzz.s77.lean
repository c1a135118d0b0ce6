/-! Ifs of the reference, and all statements. -/
section STM
variable {T : Nat → Int32} {n : Nat} {E : En} {o M P lp : Nat} {MD : Nat → Nat → Nat} {σ : MS}
/-- end ; -/
theorem if11 {d e K q v : Nat} {b : BT} {s : SB} {x : Option ST} {ρ : MS} {N : Nat → Int32} (hG : hE T n q (fun q3 => some (some (q3, v, 0, e, b, s))) = some x) (hZ : PZ T n MD E lp (o + 1) q v b s ρ) (hlo : lp ≤ o) (hF : FrZ M P E.2.2.2.1 σ ρ) (hN : N 1 = nI e) (he : M ≤ e) (he2 : e < 70000) (hM : M ≤ b.1) (hK : b.1 ≤ K) : Tm (fun k => x_GS k d 2 11 N ρ) (PoZ T n MD E lp o M P K σ x) := by
  have fin : ∀ (ρ' : MS) (m : Nat), Bb m ρ' → M ≤ m → m ≤ K → FrZ M P E.2.2.2.1 σ ρ' → Tm (fun k => x_GS k d 2 12 N (mOpn ρ' (ρ'.1 13 - 1))) (PoZ T n MD E lp o M P K σ none) := fun ρ' m hB m1 m2 hF => by
    refine Tm_suc (fun k => by rw [xS_2]) ?_
    exact Tm_some ⟨⟨m, Bb_opn hB _, m2, m1⟩, ⟨e, hN, he2, Or.inr he⟩, FrZ_tr hF (FrZ_of (FrM_opn _))⟩
  refine Tm_suc (fun k => by rw [xS_2]) ?_
  refine Tm_ob (p_wantWord (M := M) (P := P) (w := E.2.2.2.1) hZ.1 (s := 6) (by decide) rfl) (fun rb hrb => ?_)
  unfold hE at hG
  rcases hW_any hG with ⟨tb, rfl⟩ | ⟨tb, hG⟩
  · rcases hrb.2 with ⟨_, hB⟩ | ⟨z, _⟩
    · refine Tm_ob (b_want hB.1 _) (fun r hr => ?_)
      obtain ⟨u, ρ2⟩ := r
      have hr : ρ2 = rb.2 := hr
      subst hr
      exact fin rb.2 _ hB hM hK (FrZ_tr hF (FrZ_of hrb.1))
    · exact absurd z tb
  rcases hrb.2 with ⟨z, _⟩ | ⟨_, hSb⟩
  · exact absurd tb z
  refine Tm_ob (p_want (M := M) (P := P) (w := E.2.2.2.1) hSb (s := 13) (by decide) (by decide) rfl) (fun rc hrc => ?_)
  rcases hW_any hG with ⟨tc, rfl⟩ | ⟨tc, hG⟩
  · rcases hrc.2 with ⟨_, hB⟩ | ⟨z, _⟩
    · exact fin rc.2 _ hB hM hK (FrZ_tr hF (FrZ_tr (FrZ_of hrb.1) (FrZ_of hrc.1)))
    · exact absurd z tc
  rcases hrc.2 with ⟨z, _⟩ | ⟨_, hSc⟩
  · exact absurd tc z
  show Tm (fun k => x_GS k d 2 12 N (mOpn rc.2 (rc.2.1 13 - 1))) _
  refine Tm_suc (fun k => by rw [xS_2]) ?_
  cases hG
  have hFc : FrM M P E.2.2.2.1 ρ (mOpn rc.2 (rc.2.1 13 - 1)) := FrM_tr hrb.1 (FrM_tr hrc.1 (FrM_opn _))
  exact Tm_some ⟨PZ_fr2 hZ (PS_clo hSc) hFc hlo, hN, FrZ_tr hF (FrZ_of hFc)⟩
/-- else -/
theorem if10 {f d e l K q v : Nat} {b : BT} {s : SB} {x : Option ST} {ρ : MS} {N : Nat → Int32} (H0 : SB0 T n MD f)
    (hG : hb (if tkK T n q = 42 then hT T n q (fun q2 => hb (GS T n MD f 0 E lp (o + 1) q2 v (nI e) 0 0 b s) (fun t => some (some (t.1, t.2.1, 0, 0, bSet (bNode t.2.2.2.2.1 33 (-2) (hd t.2.2.2.1) 0) 9 l (nI t.2.2.2.2.1.1), t.2.2.2.2.2)))) else some (some (q, v, 0, l, b, s)))
          (fun t => hE T n t.1 (fun q3 => some (some (q3, t.2.1, 0, e, t.2.2.2.2.1, t.2.2.2.2.2)))) = some x)
    (hZ : PZ T n MD E lp (o + 1) q v b s ρ) (hlo : lp ≤ o) (hF : FrZ M P E.2.2.2.1 σ ρ) (hN : N 1 = nI e) (hN2 : N 2 = nI l) (hl : M ≤ l) (hl2 : l < b.1) (he : M ≤ e) (he2 : e < b.1) (h1 : 1 ≤ M) (hM : M ≤ b.1) (hP : P ≤ b.2.1) (hn : b.1 + (n + 1 - q) + 967 + (d + 1) ≤ 70000) (hp : b.2.1 + (n - q) ≤ 70000) (hdd : 3 * (20 - (o + 1)) + 1 ≤ d) (hK : b.1 + (n + 1 - q) + 964 + (d + 1) ≤ K) : Tm (fun k => x_GS k (d + 1) 2 10 N ρ) (PoZ T n MD E lp o M P K σ x) := by
  have hS := hZ.1
  have hq := PS_q hS
  have hv := PS_v hS
  have hu := tkN_b T n q hq.1
  refine Tm_suc (fun k => by rw [xS_2]) ?_
  refine Tm_ite (fun _ => ?_) (fun z => absurd (PS_ok hS) z)
  refine Tm_ob (p_word hS (s := 10) (by decide) rfl) (fun r1 hr1 => ?_)
  obtain ⟨u, τ⟩ := r1
  obtain ⟨h3, hr1⟩ := hr1
  have h3 : τ = ρ := h3
  subst h3
  refine Tm_ite (fun z => ?_) (fun z => ?_)
  · rw [if_neg (fun y => hr1.mpr y z)] at hG
    exact if11 (q := q) (v := v) (b := b) (s := s) hG hZ hlo hF hN he (by omega) hM (by omega)
  have hK42 := hr1.mp z
  rw [if_pos hK42] at hG
  have hu4 := hu.2.2.2 (by rw [hK42]; decide)
  have nb : ∀ (ρ' : MS) (m : Nat) (L : Nat → Int32), Bb m ρ' → M ≤ m → m < 70000 → m + 1 ≤ K → FrZ M P E.2.2.2.1 σ ρ' → Tm (fun k => ob (x_node k 0 L ρ') (fun r6 => if ¬ (N 2 < 0 ∨ 70000 ≤ (N 2).toNatClampNeg) then x_GS k (d + 1) 2 11 N (mSet r6.2 9 (N 2).toNatClampNeg r6.1) else none)) (PoZ T n MD E lp o M P K σ none) := fun ρ' m L hB m1 m2 m3 hF' => by
    refine Tm_ob (b_node (M := M) (P := P) (w := E.2.2.2.1) hB m2 m1 _) (fun r hr => ?_)
    rw [hN2]
    refine Tm_chk (n_in (by omega) (by omega)) ?_
    rw [n_cl (p := l) (by omega)]
    exact if11b (Bb_set hr.2.1) (FrZ_tr hF' (FrZ_tr (FrZ_of hr.2.2) (FrZ_of (FrM_set (by decide) (by decide) (Or.inr hl) _)))) hN he (by omega) m3 (by omega)
  refine Tm_ob (p_take (M := M) (P := P) (w := E.2.2.2.1) hS _) (fun r4 hr4 => ?_)
  have hF4 := FrZ_tr hF (FrZ_of hr4.1)
  rcases hb_any hG with ⟨h7, hy⟩ | ⟨c, h7, hG⟩
  · subst hy
    rcases hT_any h7 with ⟨t4, _⟩ | ⟨t4, h7⟩
    · rcases hr4.2 with ⟨_, hB⟩ | ⟨w, _⟩
      · refine Tm_ob (b_block (d := d) hB.1) (fun r hr => ?_)
        obtain ⟨u, ρ2⟩ := r
        have hr : ρ2 = r4.2 := hr
        subst hr
        exact nb r4.2 _ _ hB hM (by omega) (by omega) hF4
      · exact absurd t4 w
    rcases hr4.2 with ⟨w, _⟩ | ⟨_, hS4⟩
    · exact absurd w t4
    rcases hb_any h7 with ⟨h8, _⟩ | ⟨_, _, h⟩
    · refine Tm_ob (H0 _ lp (o + 1) _ _ _ _ s none h8 r4.2 (upd (fun _ => 0) 1 (N 1)) d M P (PZ_fr2 hZ hS4 hr4.1 hZ.2.2.1.2) h1 hM hP (by omega) (by omega) hdd (by rw [upd_same]; exact hN)) (fun r8 hr8 => ?_)
      obtain ⟨⟨m, hm, hmk, hMm⟩, hF8⟩ := hr8
      exact nb r8.2 _ _ hm hMm (by omega) (by omega) (FrZ_tr hF4 hF8)
    · cases h
  obtain ⟨t4, h7⟩ := hT_s h7
  rcases hr4.2 with ⟨w, _⟩ | ⟨_, hS4⟩
  · exact absurd w t4
  obtain ⟨t, h8, h7⟩ := hb_s h7
  obtain ⟨⟨b1, b2, b3, b4, b5, b6, b7, b8, b9, b10⟩, _⟩ := gs_mo f _ _ _ _ _ _ _ _ _ _ _ t M (by decide) hu.2.1 hv hZ.2.2.2.2.1 h8 h1 hM (fun _ z => absurd rfl z) (fun z => absurd z (by decide))
  refine Tm_ob (H0 _ lp (o + 1) _ _ _ _ s (some t) h8 r4.2 (upd (fun _ => 0) 1 (N 1)) d M P (PZ_fr2 hZ hS4 hr4.1 hZ.2.2.1.2) h1 hM hP (by omega) (by omega) hdd (by rw [upd_same]; exact hN)) (fun r8 hr8 => ?_)
  obtain ⟨hZ8, hr81, hF8⟩ := hr8
  rw [hr81]
  refine Tm_ob (p_nd (M := M) (P := P) (w := E.2.2.2.1) hZ8.1 (by omega) (by omega)) (fun r9 hr9 => ?_)
  obtain ⟨hr91, hS9, hF9⟩ := hr9
  rw [hN2, hr91]
  refine Tm_chk (n_in (by omega) (by omega)) ?_
  rw [n_cl (p := l) (by omega)]
  show Tm (fun k => x_GS k (d + 1) 2 11 N (mSet r9.2 9 l (nI t.2.2.2.2.1.1))) _
  have hFs : FrM M P E.2.2.2.1 r8.2 (mSet r9.2 9 l (nI t.2.2.2.2.1.1)) := FrM_tr hF9 (FrM_set (by decide) (by decide) (Or.inr hl) _)
  cases h7
  exact if11 hG (PZ_fr2 hZ8 (PS_set hS9 (by decide) (by decide) _) hFs hZ8.2.2.1.2) hlo (FrZ_tr hF4 (FrZ_tr hF8 (FrZ_of hFs))) hN he (by omega) (by rw [bSet_1, bNode_1]; omega) (by rw [bSet_1, bNode_1]; omega)
theorem sc_2 {f : Nat} (H : ∀ f', f' ≤ f → SB0 T n MD f') : SC T n MD (f + 1) 2 2 := fun E lp o q v b s x hG hKq ho σ L d M P hZ h1 hM hP hn hp hdd => by
  have hS := hZ.1
  have hq := PS_q hS
  have hv := PS_v hS
  have ho2 := PS_o hS
  have hlp := hZ.2.2.1.2
  have hu := tkN_b T n q hq.1
  have hu4 := hu.2.2.2 hKq
  obtain ⟨d, rfl⟩ : ∃ d', d = d' + 1 := ⟨d - 1, by omega⟩
  simp only [GS] at hG
  refine Tm_suc (fun k => by rw [xS_2]) ?_
  refine Tm_ob (p_nd (M := M) (P := P) (w := E.2.2.2.1) hS (by omega) hM) (fun r1 hr1 => ?_)
  obtain ⟨hr11, hS1, hF1⟩ := hr1
  have h13 : r1.2.1 13 + 1 = nI (o + 1) := by
    rw [hS1.2.1.1]; exact n_add (p := o) (q := 1) (by omega)
  show Tm (fun k => x_GS k (d + 1) 2 1 (upd L 1 r1.1) (mOpn r1.2 (r1.2.1 13 + 1))) _
  rw [h13]
  have hS2 := PS_opn hS1 (o' := o + 1) (by omega)
  have hF2 : FrM M P E.2.2.2.1 σ (mOpn r1.2 (nI (o + 1))) := FrM_tr hF1 (FrM_opn _)
  have hN : upd L 1 r1.1 1 = nI b.1 := by rw [upd_same]; exact hr11
  generalize mOpn r1.2 (nI (o + 1)) = σ2 at hS2 hF2
  generalize upd L 1 r1.1 = N at hN
  refine Tm_suc (fun k => by rw [xS_2]) ?_
  show Tm (fun k => ob (x_take k 0 (fun _ => 0) σ2) (fun r1 => x_GS k (d + 1) 2 2 (upd (upd (upd N 2 (-1)) 3 1) 4 1) r1.2)) _
  have j1 : upd (upd (upd N 2 (-1)) 3 1) 4 1 1 = nI b.1 := by rw [upd_other (by decide), upd_other (by decide), upd_other (by decide)]; exact hN
  have j3 : upd (upd (upd N 2 (-1)) 3 1) 4 1 3 = 1 := by rw [upd_other (by decide), upd_same]
  have j4 : upd (upd (upd N 2 (-1)) 3 1) 4 1 4 = 1 := upd_same
  generalize upd (upd (upd N 2 (-1)) 3 1) 4 1 = N1 at j1 j3 j4
  refine Tm_ob (p_take (M := M) (P := P) (w := E.2.2.2.1) hS2 _) (fun r3 hr3 => ?_)
  have hF3 := FrM_tr hF2 hr3.1
  rcases hT_any hG with ⟨t3, rfl⟩ | ⟨t3, hG⟩
  · rcases hr3.2 with ⟨_, hB⟩ | ⟨z, _⟩
    · rw [bNode_1] at hB
      exact if2b hB (FrZ_of hF3) j1 hM (by omega) (by omega) (by omega)
    · exact absurd t3 z
  rcases hr3.2 with ⟨z, _⟩ | ⟨_, hS3⟩
  · exact absurd z t3
  obtain ⟨y, hy⟩ : ∃ y, GS T n MD f 3 E lp (o + 1) (tkN T n q) v 0 b.1 0 (bNode b 46 (-1) 0 0) s = some y := by
    rcases hb_any hG with ⟨h, _⟩ | ⟨u, h, _⟩
    · exact ⟨_, h⟩
    · exact ⟨_, h⟩
  refine ifs_loop (by omega) hM h1 f (fun f' h => H f' (by omega)) _ _ 0 _ s y hy r3.2 N1 (PZ_fr2 hZ hS3 hF3 (by omega)) (FrZ_of hF3) j1 j3 ⟨fun z => absurd (j4.symm.trans z) (by decide), fun z => absurd rfl z⟩ (fun z => absurd rfl z) (by rw [bNode_1]; omega) (by rw [bNode_1]; omega) (by rw [bNode_p]; omega) (by rw [bNode_1]; omega) (by rw [bNode_p]; omega) (by rw [bNode_1]; omega) (fun h => ?_) (fun t h ρ' N' i1 i2 hF' hZ' => ?_)
  · subst h
    rw [hy] at hG
    exact (Option.some.inj hG).symm
  · subst h
    rw [hy] at hG
    obtain ⟨⟨b1, b2, b3, b4, b5, b6, b7, b8, b9, b10⟩, _, e2, _⟩ := gs_mo f _ _ _ _ _ _ _ _ _ _ _ t M (by decide) hu.2.1 hv hZ.2.2.2.2.1 hy h1 (by rw [bNode_1]; omega) (fun z => absurd z (by decide)) (fun _ z => absurd rfl z)
    rw [bNode_1] at b5 b6
    rw [bNode_p] at b7 b8
    have e2 := (e2 (by decide)).1
    refine if10 (l := t.2.2.2.1) (H f (Nat.le_refl _)) ?_ hZ' hlp hF' i1 i2 e2.1 e2.2 hM (by omega) h1 (by omega) (by omega) (by omega) (by omega) (by omega) (by omega)
    have hG : hb (if tkK T n t.1 = 42 then _ else some (some t)) _ = some x := hG
    by_cases c : tkK T n t.1 = 42
    · rw [if_pos c] at hG ⊢; exact hG
    · rw [if_neg c] at hG ⊢; exact hG
/-- all statements of the reference -/
theorem all_Z : ∀ f : Nat, ∀ f', f' ≤ f → SL0 T n MD f' ∧ SZ1 T n MD f' ∧ SC T n MD f' 2 2 ∧ SC T n MD f' 4 4 ∧ SC T n MD f' 5 1
  | 0 => fun f' h => by
    obtain rfl : f' = 0 := by omega
    refine ⟨?_, ?_, ?_, ?_, ?_⟩
    · intro E lp o q v pe i l b s x hG; simp only [GS] at hG; cases hG
    · intro E lp o q v b s x hG; simp only [GS] at hG; cases hG
    · intro E lp o q v b s x hG; simp only [GS] at hG; cases hG
    · intro E lp o q v b s x hG; simp only [GS] at hG; cases hG
    · intro E lp o q v b s x hG; simp only [GS] at hG; cases hG
  | f + 1 => fun f' h => by
    have ih := all_Z f
    by_cases c : f' ≤ f
    · exact ih f' c
    obtain rfl : f' = f + 1 := by omega
    obtain ⟨H0, H1, H2, H4, H5⟩ := ih f (Nat.le_refl _)
    refine ⟨e_block H1 H0, ?_, sc_2 (fun f' h => sb_of (ih f' h).1), sc_4 (sb_of H0), sc_5 (sb_of H0)⟩
    intro E lp o q v b s x hG σ L d M P hZ h1 hM hP hn hp hd
    exact e_statement H2 H4 H5 hG hZ h1 hM hP hn hp hd
end STM

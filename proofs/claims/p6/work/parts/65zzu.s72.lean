/-! Fors of the reference: from the beginning. -/
section STM
variable {T : Nat → Int32} {n : Nat} {E : En} {o q v M P w lp : Nat} {b : BT} {s : SB} {MD : Nat → Nat → Nat} {σ τ : MS}
/-- behind the iters -/
theorem fo2 {f d e q2 v2 K : Nat} {b2 : BT} {ns : List Nm} {x : Option ST} {ρ : MS} {N : Nat → Int32} (H0 : SB0 T n MD f)
    (hG : hb (if tkK T n q2 = 15 then hT T n q2 (fun q3 => lb (G T n f 0 (seeN E ns) (o + 1) q3 v2 0 0 0 0 b2) (fun t => some (some (t.1, t.2.1, 0, 0, bSet t.2.2.2.2.1 6 e (nI t.2.2.2.1), s)))) else some (some (q2, v2, 0, 0, b2, s)))
          (fun c => hW T n 44 c.1 (fun q3 => hb (GS T n MD f 0 (seeN E ns) (lp + 1) (o + 1) q3 c.2.1 (nI e) 0 0 c.2.2.2.2.1 s) (fun t =>
            hE T n t.1 (fun q4 => some (some (q4, t.2.1, 0, e, bSet t.2.2.2.2.1 7 e (hd t.2.2.2.1), t.2.2.2.2.2)))))) = some x)
    (hZ : PZ T n MD (seeN E ns) lp (o + 1) q2 v2 b2 s ρ) (hlo : lp ≤ o) (hF : FrZ M P E.2.2.2.1 σ ρ) (hN : N 1 = nI e) (hN2 : N 2 = nI E.2.1.length) (he : M ≤ e) (h1 : 1 ≤ M) (hM : M ≤ b2.1) (he2 : e < b2.1) (hP : P ≤ b2.2.1) (hn : b2.1 + (n + 1 - q2) + 967 + d ≤ 70000) (hp : b2.2.1 + (n - q2) ≤ 70000) (hdd : 3 * (20 - (o + 1)) + 1 ≤ d) (hK : b2.1 + (n + 1 - q2) + 964 + d ≤ K) : Tm (fun k => x_GS k (d + 1) 1 2 N ρ) (PoZ T n MD E lp o M P K σ x) := by
  have hS := hZ.1
  have hq := PS_q hS
  have hv := PS_v hS
  have hu := tkN_b T n q2 hq.1
  refine Tm_suc (fun k => by rw [xS_1]) ?_
  refine Tm_ite (fun _ => ?_) (fun z => absurd (PS_ok hS) z)
  refine Tm_ob (p_sign hS (s := 15) (by decide) (by decide) rfl) (fun r1 hr1 => ?_)
  obtain ⟨u, τ⟩ := r1
  obtain ⟨h3, hr1⟩ := hr1
  have h3 : τ = ρ := h3
  subst h3
  refine Tm_ite (fun z => ?_) (fun z => ?_)
  · rw [if_neg (fun y => hr1.mpr y z)] at hG
    exact fo3 H0 hG hZ hlo hF hN hN2 he h1 hM he2 hP hn hp hdd hK
  have hK15 := hr1.mp z
  rw [if_pos hK15] at hG
  have hu4 := hu.2.2.2 (by rw [hK15]; decide)
  have bad : ∀ (ρ' : MS) (m : Nat) (y : Int32), Bb m ρ' → M ≤ m → m ≤ K → FrM M P E.2.2.2.1 τ ρ' → Tm (fun k => x_GS k (d + 1) 1 3 N (mSet ρ' 6 e y)) (PoZ T n MD E lp o M P K σ none) := fun ρ' m y hB m1 m2 hF' =>
    fo3b (Bb_set hB) (FrZ_tr hF (FrZ_of (FrM_tr hF' (FrM_set (by decide) (by decide) (Or.inr he) _)))) hN he (by omega) m2 m1
  refine Tm_ob (p_take (M := M) (P := P) (w := E.2.2.2.1) hS _) (fun r4 hr4 => ?_)
  rcases hb_any hG with ⟨h7, hy⟩ | ⟨c, h7, hG⟩
  · subst hy
    rcases hT_any h7 with ⟨t4, _⟩ | ⟨t4, h7⟩
    · rcases hr4.2 with ⟨_, hB⟩ | ⟨z, _⟩
      · refine Tm_ob (b_xexp hB.1 _) (fun r hr => ?_)
        subst hr
        rw [hN]
        refine Tm_chk (n_in (by omega) (by omega)) ?_
        rw [n_cl (p := e) (by omega)]
        exact bad r4.2 _ _ hB hM (by omega) hr4.1
      · exact absurd t4 z
    rcases hr4.2 with ⟨z, _⟩ | ⟨_, hS4⟩
    · exact absurd z t4
    rcases lb_any h7 with ⟨h8, _⟩ | ⟨_, _, h⟩
    · refine Tm_ob (p_exp (M := M) (P := P) h8 hS4 h1 hM hP (by omega) (by omega)) (fun r5 hr5 => ?_)
      obtain ⟨⟨m1, hm, hmk, hMm⟩, _, hF5⟩ := hr5
      rw [hN]
      refine Tm_chk (n_in (by omega) (by omega)) ?_
      rw [n_cl (p := e) (by omega)]
      exact bad r5.2 _ _ hm hMm (by omega) (FrM_tr hr4.1 hF5)
    · cases h
  obtain ⟨t4, h7⟩ := hT_s h7
  rcases hr4.2 with ⟨z, _⟩ | ⟨_, hS4⟩
  · exact absurd z t4
  obtain ⟨t, h8, h7⟩ := lb_s h7
  obtain ⟨⟨a1, a2, a3, a4, a5, a6, a7, a8⟩, a9⟩ := mo_of (M := M) hu.2.1 hv h8 hM h1 trivial (fun h => h) (fun h => h)
  refine Tm_ob (p_exp (M := M) (P := P) h8 hS4 h1 hM hP (by omega) (by omega)) (fun r5 hr5 => ?_)
  obtain ⟨hS5, hr51, hF5⟩ := hr5
  rw [hN, hr51]
  refine Tm_chk (n_in (by omega) (by omega)) ?_
  rw [n_cl (p := e) (by omega)]
  cases h7
  show Tm (fun k => x_GS k (d + 1) 1 3 N (mSet r5.2 6 e (nI t.2.2.2.1))) _
  have hF6 : FrM M P E.2.2.2.1 τ (mSet r5.2 6 e (nI t.2.2.2.1)) := FrM_tr hr4.1 (FrM_tr hF5 (FrM_set (by decide) (by decide) (Or.inr he) _))
  exact fo3 H0 hG (PZ_fr2 hZ (PS_set hS5 (by decide) (by decide) _) hF6 hZ.2.2.1.2) hlo (FrZ_tr hF (FrZ_of hF6)) hN hN2 he h1 (by show M ≤ t.2.2.2.2.1.1; omega) (by show e < t.2.2.2.2.1.1; omega) (by show P ≤ t.2.2.2.2.1.2.1; omega) (by show t.2.2.2.2.1.1 + (n + 1 - t.1) + 967 + d ≤ 70000; omega) (by show t.2.2.2.2.1.2.1 + (n - t.1) ≤ 70000; omega) hdd (by show t.2.2.2.2.1.1 + (n + 1 - t.1) + 964 + d ≤ K; omega)
theorem sc_5 {f : Nat} (H0 : SB0 T n MD f) : SC T n MD (f + 1) 5 1 := fun E lp o q v b s x hG hKq ho σ L d M P hZ h1 hM hP hn hp hdd => by
  have hS := hZ.1
  have hq := PS_q hS
  have hv := PS_v hS
  have ho2 := PS_o hS
  have hu := tkN_b T n q hq.1
  have hu4 := hu.2.2.2 hKq
  obtain ⟨d, rfl⟩ : ∃ d', d = d' + 1 := ⟨d - 1, by omega⟩
  simp only [GS] at hG
  refine Tm_suc (fun k => by rw [xS_1]) ?_
  refine Tm_ob (p_nd (M := M) (P := P) (w := E.2.2.2.1) hS (by omega) hM) (fun r1 hr1 => ?_)
  obtain ⟨hr11, hS1, hF1⟩ := hr1
  have h13 : r1.2.1 13 + 1 = nI (o + 1) := by
    rw [hS1.2.1.1]; exact n_add (p := o) (q := 1) (by omega)
  show Tm (fun k => x_GS k (d + 1) 1 1 (upd L 1 r1.1) (mOpn r1.2 (r1.2.1 13 + 1))) _
  rw [h13]
  have hS2 := PS_opn hS1 (o' := o + 1) (by omega)
  have hF2 : FrM M P E.2.2.2.1 σ (mOpn r1.2 (nI (o + 1))) := FrM_tr hF1 (FrM_opn _)
  have hN : upd L 1 r1.1 1 = nI b.1 := by rw [upd_same]; exact hr11
  generalize mOpn r1.2 (nI (o + 1)) = σ2 at hS2 hF2
  generalize upd L 1 r1.1 = N at hN
  refine Tm_suc (fun k => by rw [xS_1]) ?_
  refine Tm_ob (p_take (M := M) (P := P) (w := E.2.2.2.1) hS2 _) (fun r3 hr3 => ?_)
  have hF3 := FrM_tr hF2 hr3.1
  have jN : ∀ y : Int32, upd N 2 y 1 = nI b.1 := fun y => by rw [upd_other (by decide)]; exact hN
  rcases hT_any hG with ⟨t3, rfl⟩ | ⟨t3, hG⟩
  · rcases hr3.2 with ⟨_, hB⟩ | ⟨z, _⟩
    · rw [bNode_1] at hB
      refine Tm_ob (b_iters (d := 320) hB.1) (fun r hr => ?_)
      rw [hN]
      refine Tm_chk (n_in (by omega) (by omega)) ?_
      rw [n_cl (p := b.1) (by omega)]
      have hB2 : Bb (b.1 + 1) r.2 := by rw [hr.1]; exact ⟨by show ¬ upd r3.2.1 52 (r3.2.1 52) 10 = 0; rw [upd_other (by decide)]; exact hB.1, by show upd r3.2.1 52 (r3.2.1 52) 22 = nI (b.1 + 1); rw [upd_other (by decide)]; exact hB.2⟩
      have hF4 : FrM M P E.2.2.2.1 σ r.2 := by rw [hr.1]; exact FrM_tr hF3 (FrM_sc (fun j hj => upd_other (by omega)))
      show Tm (fun k => x_GS k (d + 1) 1 2 (upd N 2 (r3.2.1 38)) (mSet r.2 5 b.1 r.1)) _
      exact fo2b (Bb_set hB2) (FrZ_of (FrM_tr hF4 (FrM_set (by decide) (by decide) (Or.inr hM) _))) (jN _) hM (by omega) (by omega) (by omega)
    · exact absurd t3 z
  rcases hr3.2 with ⟨z, _⟩ | ⟨_, hS3⟩
  · exact absurd z t3
  have h38 : r3.2.1 38 = nI E.2.1.length := hS3.2.2.2.2.1.1.1
  have H17 := (all_S (T := T) (n := n) f f (Nat.le_refl _)).2.2.2.2.2.2.2.2.2.2.2.2.2.2
  rcases lb_any hG with ⟨h7, hy⟩ | ⟨t, h7, hG⟩
  · subst hy
    refine Tm_ob (m_iters (M := M) (P := P) (d := 320) H17 h7 hS3 h1 (by rw [bNode_1]; omega) (by rw [bNode_p]; omega) (by rw [bNode_1]; omega) (by rw [bNode_p]; omega) (by omega) (by decide) rfl) (fun r4 hr4 => ?_)
    obtain ⟨⟨m1, hm, hmk, hMm⟩, hF4⟩ := hr4
    rw [bNode_1] at hmk
    rw [hN]
    refine Tm_chk (n_in (by omega) (by omega)) ?_
    rw [n_cl (p := b.1) (by omega)]
    show Tm (fun k => x_GS k (d + 1) 1 2 (upd N 2 (r3.2.1 38)) (mSet r4.2 5 b.1 r4.1)) _
    exact fo2b (Bb_set hm) (FrZ_of (FrM_tr hF3 (FrM_tr hF4 (FrM_set (by decide) (by decide) (Or.inr hM) _)))) (jN _) hM (by omega) (by omega) hMm
  obtain ⟨x1, x2⟩ := g_mono T n f 17 _ _ _ _ _ _ _ _ _ t hu.2.1 hv h7 M (by rw [bNode_1]; omega) h1 (Or.inl rfl)
  have x1 : Mo n (bNode b 48 0 (-1) 0) (tkN T n q) v t := x1
  obtain ⟨a1, a2, a3, a4, a5, a6, a7, a8⟩ := x1
  rw [bNode_1] at a5 a6
  rw [bNode_p] at a7 a8
  refine Tm_ob (m_iters (M := M) (P := P) (d := 320) H17 h7 hS3 h1 (by rw [bNode_1]; omega) (by rw [bNode_p]; omega) (by rw [bNode_1]; omega) (by rw [bNode_p]; omega) (by omega) (by decide) rfl) (fun r4 hr4 => ?_)
  obtain ⟨hS4, hr41, hF4⟩ := hr4
  rw [hN, hr41]
  refine Tm_chk (n_in (by omega) (by omega)) ?_
  rw [n_cl (p := b.1) (by omega)]
  show Tm (fun k => x_GS k (d + 1) 1 2 (upd N 2 (r3.2.1 38)) (mSet r4.2 5 b.1 (nI t.2.2.2.1))) _
  have hF5 : FrM M P E.2.2.2.1 σ (mSet r4.2 5 b.1 (nI t.2.2.2.1)) := FrM_tr hF3 (FrM_tr hF4 (FrM_set (by decide) (by decide) (Or.inr hM) _))
  have hlp := hZ.2.2.1.2
  exact fo2 H0 hG (PZ_see hZ (PS_set hS4 (j := 5) (l := b.1) (by decide) (by decide) _) hF5 (by omega)) hlp (FrZ_of hF5) (jN _) (by rw [upd_same]; exact h38) hM h1 (by rw [bSet_1]; omega) (by rw [bSet_1]; omega) (by rw [bSet_p]; omega) (by rw [bSet_1]; omega) (by rw [bSet_p]; omega) (by omega) (by rw [bSet_1]; omega)
end STM

/-! Parts. -/
section EXPS
variable {T : Nat → Int32} {n f : Nat}
theorem e_12 (H0 : S0 T n f) (H12 : S12 T n f) : S12 T n (f + 1) := by
  intro E o q v i e b x hG σ L d M P hS h1 hM hP hn hp hd hre
  obtain ⟨hL2, he⟩ := hre
  obtain ⟨d, rfl⟩ : ∃ d', d = d' + 1 := ⟨d - 1, by omega⟩
  rw [G_12] at hG
  have hq := PS_q hS
  have ho := PS_o hS
  have hv := PS_v hS
  have hu := tkN_b T n q hq.1
  -- behind a fault: from want on, from the node on
  have b9 : ∀ (ρ : MS) (m l : Nat) (N : Nat → Int32), N 2 = nI l → l < 70000 → M ≤ l → Bb m ρ → M ≤ m → m ≤ b.1 + (n + 1 - q) + 3 * (d + 1 + 1) → FrM M P E.2.2.2.1 σ ρ → Tm (fun k => x_GE k (d + 1) 8 9 N ρ) (Po T n E o M P (b.1 + (n + 1 - q) + 3 * (d + 1 + 1)) σ none) := fun ρ m l N hN hl hMl hB hMm hm hF => by
    refine Tm_suc (fun k => by rw [xE_8]) ?_
    refine Tm_ob (b_want hB.1 _) (fun r1 hr1 => ?_)
    obtain ⟨u, τ⟩ := r1
    have hr1 : τ = ρ := hr1
    subst hr1
    refine Tm_mono (b_par1 (Bb_opn hB (τ.1 13 - 1)).1) (fun r hr => ?_)
    rw [hr]
    exact ⟨⟨m, Bb_opn hB _, hm, hMm⟩, ⟨l, hN, hl, Or.inr hMl⟩, FrM_tr hF (FrM_opn _)⟩
  have b7 : ∀ (ρ : MS) (m l : Nat) (N : Nat → Int32), N 2 = nI l → l < 70000 → M ≤ l → Bb m ρ → M ≤ m → m ≤ b.1 + (n + 1 - q) + 3 * (d + 1 + 1) → FrM M P E.2.2.2.1 σ ρ → Tm (fun k => x_GE k (d + 1) 8 7 N ρ) (Po T n E o M P (b.1 + (n + 1 - q) + 3 * (d + 1 + 1)) σ none) := fun ρ m l N hN hl hMl hB hMm hm hF => by
    refine Tm_suc (fun k => by rw [xE_8]) ?_
    refine Tm_ite (c := N 3 = 0) (fun _ => ?_) (fun _ => b9 ρ m l _ (by rw [upd_other (by decide)]; exact hN) hl hMl hB hMm hm hF)
    refine Tm_suc (fun k => by rw [xE_8]) ?_
    exact b9 ρ m l _ (by rw [upd_other (by decide)]; exact hN) hl hMl hB hMm hm hF
  have b6 : ∀ (ρ : MS) (m : Nat) (N : Nat → Int32), N 2 = nI e → Bb m ρ → M ≤ m → m + 1 ≤ b.1 + (n + 1 - q) + 3 * (d + 1 + 1) → FrM M P E.2.2.2.1 σ ρ → Tm (fun k => x_GE k (d + 1) 8 6 N ρ) (Po T n E o M P (b.1 + (n + 1 - q) + 3 * (d + 1 + 1)) σ none) := fun ρ m N hN hB hMm hm hF => by
    refine Tm_suc (fun k => by rw [xE_8]) ?_
    refine Tm_ob (b_over (M := M) (P := P) (w := E.2.2.2.1) hB (by omega) hMm _ (l := e) (by rw [upd_other (by decide), upd_same]; exact hN) (Or.inr he.1) (by omega)) (fun r8 hr8 => ?_)
    exact b7 r8.2 (m + 1) m _ (by rw [upd_same]; exact hr8.1) (by omega) hMm hr8.2.1 (by omega) hm (FrM_tr hF hr8.2.2)
  have b4 : ∀ (ρ : MS) (m : Nat) (N : Nat → Int32), N 2 = nI e → Bb m ρ → M ≤ m → m + 1 ≤ b.1 + (n + 1 - q) + 3 * (d + 1 + 1) → FrM M P E.2.2.2.1 σ ρ → Tm (fun k => x_GE k (d + 1) 8 4 N ρ) (Po T n E o M P (b.1 + (n + 1 - q) + 3 * (d + 1 + 1)) σ none) := fun ρ m N hN hB hMm hm hF => by
    refine Tm_suc (fun k => by rw [xE_8]) ?_
    refine Tm_ite (c := N 3 = 0) (fun _ => ?_) (fun _ => b6 ρ m _ (by rw [upd_other (by decide)]; exact hN) hB hMm hm hF)
    refine Tm_suc (fun k => by rw [xE_8]) ?_
    exact b6 ρ m _ (by rw [upd_other (by decide)]; exact hN) hB hMm hm hF
  have b3 : ∀ (ρ : MS) (N : Nat → Int32), N 2 = nI e → Bb b.1 ρ → FrM M P E.2.2.2.1 σ ρ → Tm (fun k => x_GE k (d + 1) 8 3 N ρ) (Po T n E o M P (b.1 + (n + 1 - q) + 3 * (d + 1 + 1)) σ none) := fun ρ N hN hB hF => by
    refine Tm_suc (fun k => by rw [xE_8]) ?_
    show Tm (fun k => ob (x_GE k d 3 0 (fun _ => 0) ρ) _) _
    obtain ⟨d', hd'⟩ : ∃ d', d = d' + 7 := ⟨d - 7, by omega⟩
    refine Tm_ob (by rw [hd']; exact b_exp hB.1) (fun r7 hr7 => ?_)
    subst hr7
    refine Tm_ite (c := ρ.1 10 = 0) (fun c => absurd c hB.1) (fun _ => ?_)
    exact b4 ρ b.1 _ (by rw [upd_other (by decide)]; exact hN) hB hM (by omega) hF
  -- the closing one, then the loop
  have g9 : ∀ (ρ : MS) (N : Nat → Int32) (t q2 v2 : Nat) (bb : BT) (l i2 : Nat), 1 ≤ t → t ≤ 24 → N 100 = nI t → N 2 = nI l → M ≤ l → l < bb.1 → PS T n E (o + 1) q2 v2 bb ρ → q < q2 → b.1 ≤ bb.1 → bb.1 + q ≤ b.1 + q2 → b.2.1 ≤ bb.2.1 → bb.2.1 + q ≤ b.2.1 + q2 → gW T n t q2 (fun q3 => G T n f 12 E o q3 v2 i2 l 0 0 bb) = some x → FrM M P E.2.2.2.1 σ ρ → Tm (fun k => x_GE k (d + 1) 8 9 N ρ) (Po T n E o M P (b.1 + (n + 1 - q) + 3 * (d + 1 + 1)) σ x) := fun ρ N t q2 v2 bb l i2 ht1 ht2 hN1 hN2 hMl hl hS2 hqq z1 z2 z3 z4 hG hF => by
    have hq2 := PS_q hS2
    have hu2 := tkN_b T n q2 hq2.1
    refine Tm_suc (fun k => by rw [xE_8]) ?_
    refine Tm_ob (p_want (M := M) (P := P) (w := E.2.2.2.1) hS2 ht1 ht2 (by rw [upd_same]; exact hN1)) (fun r5 hr5 => ?_)
    rcases gW_any hG with ⟨t2, rfl⟩ | ⟨t2, hG⟩
    · rcases hr5.2 with ⟨_, hB⟩ | ⟨z, _⟩
      · refine Tm_mono (b_par1 (Bb_opn hB (r5.2.1 13 - 1)).1) (fun r hr => ?_)
        rw [hr]
        exact ⟨⟨_, Bb_opn hB _, by omega, by omega⟩, ⟨l, hN2, by omega, Or.inr hMl⟩, FrM_tr hF (FrM_tr hr5.1 (FrM_opn _))⟩
      · exact absurd z t2
    rcases hr5.2 with ⟨z, _⟩ | ⟨_, hS5⟩
    · exact absurd t2 z
    refine Tm_mono (H12 _ _ _ _ _ _ _ _ hG (mOpn r5.2 (r5.2.1 13 - 1)) _ (d + 1) M P (PS_clo hS5) h1 (by omega) (by omega) (by omega) (by omega) (by omega) ⟨hN2, hMl, hl⟩) (fun r hr => Po_tr (FrM_tr hF (FrM_tr hr5.1 (FrM_opn _))) (by omega) hr)
  have g7 : ∀ (ρ : MS) (N : Nat → Int32) (t q2 v2 : Nat) (bb : BT) (l i2 : Nat), (N 3 = 0 → t = 7) → (¬ N 3 = 0 → t = 9) → N 2 = nI l → M ≤ l → l < bb.1 → PS T n E (o + 1) q2 v2 bb ρ → q < q2 → b.1 ≤ bb.1 → bb.1 + q ≤ b.1 + q2 → b.2.1 ≤ bb.2.1 → bb.2.1 + q ≤ b.2.1 + q2 → gW T n t q2 (fun q3 => G T n f 12 E o q3 v2 i2 l 0 0 bb) = some x → FrM M P E.2.2.2.1 σ ρ → Tm (fun k => x_GE k (d + 1) 8 7 N ρ) (Po T n E o M P (b.1 + (n + 1 - q) + 3 * (d + 1 + 1)) σ x) := fun ρ N t q2 v2 bb l i2 ht1 ht2 hN2 hMl hl hS2 hqq z1 z2 z3 z4 hG hF => by
    refine Tm_suc (fun k => by rw [xE_8]) ?_
    refine Tm_ite (c := N 3 = 0) (fun c => ?_) (fun c => ?_)
    · obtain rfl := ht1 c
      refine Tm_suc (fun k => by rw [xE_8]) ?_
      exact g9 ρ _ 7 q2 v2 bb l i2 (by decide) (by decide) (by rw [upd_same]; rfl) (by rw [upd_other (by decide)]; exact hN2) hMl hl hS2 hqq z1 z2 z3 z4 hG hF
    · obtain rfl := ht2 c
      exact g9 ρ _ 9 q2 v2 bb l i2 (by decide) (by decide) (by rw [upd_same]; rfl) (by rw [upd_other (by decide)]; exact hN2) hMl hl hS2 hqq z1 z2 z3 z4 hG hF
  -- one exp: the node over both
  have g6 : ∀ (ρ : MS) (N : Nat → Int32) (kd : Int32) (t : Nat) (s : RT) (i2 : Nat), N 100 = kd → (N 3 = 0 → t = 7) → (¬ N 3 = 0 → t = 9) → N 2 = nI e → N 4 = nI s.2.2.2.1 → PS T n E (o + 1) s.1 s.2.1 s.2.2.2.2.1 ρ → q < s.1 → b.1 ≤ s.2.2.2.2.1.1 → s.2.2.2.2.1.1 + q + 1 ≤ b.1 + s.1 → b.2.1 ≤ s.2.2.2.2.1.2.1 → s.2.2.2.2.1.2.1 + q ≤ b.2.1 + s.1 → gW T n t s.1 (fun q3 => G T n f 12 E o q3 s.2.1 i2 s.2.2.2.2.1.1 0 0 (bOver s.2.2.2.2.1 kd 0 e (nI s.2.2.2.1))) = some x → FrM M P E.2.2.2.1 σ ρ → Tm (fun k => x_GE k (d + 1) 8 6 N ρ) (Po T n E o M P (b.1 + (n + 1 - q) + 3 * (d + 1 + 1)) σ x) := fun ρ N kd t s i2 hN100 ht1 ht2 hN2 hN4 hS2 hqq z1 z2 z3 z4 hG hF => by
    have hq2 := PS_q hS2
    refine Tm_suc (fun k => by rw [xE_8]) ?_
    refine Tm_ob (p_over (M := M) (P := P) (w := E.2.2.2.1) hS2 (by omega) (by omega) _ (l := e) (by rw [upd_other (by decide), upd_same]; exact hN2) he.1 (by omega)) (fun r8 hr8 => ?_)
    obtain ⟨hr81, hS8, hF8⟩ := hr8
    have e4 : (upd (upd (upd (upd (fun _ => (0 : Int32)) 1 (N 100)) 2 0) 3 (N 2)) 4 (N 4)) 4 = nI s.2.2.2.1 := by rw [upd_same]; exact hN4
    have e1 : (upd (upd (upd (upd (fun _ => (0 : Int32)) 1 (N 100)) 2 0) 3 (N 2)) 4 (N 4)) 1 = kd := by rw [upd_other (by decide), upd_other (by decide), upd_other (by decide), upd_same]; exact hN100
    rw [e4, e1] at hS8
    exact g7 r8.2 _ t s.1 s.2.1 _ s.2.2.2.2.1.1 i2 (fun c => ht1 (by rw [upd_other (by decide)] at c; exact c)) (fun c => ht2 (by rw [upd_other (by decide)] at c; exact c)) (by rw [upd_same]; exact hr81) (by omega) (by rw [bOver_1]; omega) hS8 hqq (by rw [bOver_1]; omega) (by rw [bOver_1]; omega) (by rw [bOver_p]; omega) (by rw [bOver_p]; omega) hG (FrM_tr hF hF8)
  have two : (tkK T n q = 6 ∨ tkK T n q = 8) → Tm (fun k => x_GE k (d + 1) 8 2 L σ) (Po T n E o M P (b.1 + (n + 1 - q) + 3 * (d + 1 + 1)) σ x) := fun hK => by
    rw [if_pos hK] at hG
    have hu4 := hu.2.2.2 (by omega)
    refine Tm_suc (fun k => by rw [xE_8]) ?_
    refine Tm_ob (p_sign hS (s := 8) (by decide) (by decide) rfl) (fun r0 hr0 => ?_)
    obtain ⟨im, τ⟩ := r0
    obtain ⟨h3, him⟩ := hr0
    have h3 : τ = σ := h3
    subst h3
    have him : ¬ im = 0 ↔ tkK T n q = 8 := him
    have hN2 : upd L 3 im 2 = nI e := by rw [upd_other (by decide)]; exact hL2
    have hN3 : upd L 3 im 3 = im := upd_same
    refine Tm_ob (p_open (M := M) (P := P) (w := E.2.2.2.1) hS _) (fun r1 hr1 => ?_)
    rcases gO_any hG with ⟨t0, rfl⟩ | ⟨t0, hG⟩
    · rcases hr1.2 with ⟨_, hB⟩ | ⟨z, _⟩
      · exact Tm_ite (fun c => absurd c hB.1) (fun _ => b3 r1.2 _ hN2 hB hr1.1)
      · omega
    rcases hr1.2 with ⟨z, _⟩ | ⟨ho2, hS1, _⟩
    · exact absurd z t0
    refine Tm_ite (fun _ => ?_) (fun c => absurd (PS_ok hS1) c)
    refine Tm_ob (p_take (M := M) (P := P) (w := E.2.2.2.1) hS1 _) (fun r3 hr3 => ?_)
    rcases gT_any hG with ⟨t1, rfl⟩ | ⟨t1, hG⟩
    · rcases hr3.2 with ⟨_, hB⟩ | ⟨z, _⟩
      · exact b3 r3.2 _ hN2 hB (FrM_tr hr1.1 hr3.1)
      · exact absurd t1 z
    rcases hr3.2 with ⟨z, _⟩ | ⟨_, hS3⟩
    · exact absurd z t1
    generalize upd L 3 im = N at hN2 hN3
    have hF3 := FrM_tr hr1.1 hr3.1
    refine Tm_suc (fun k => by rw [xE_8]) ?_
    show Tm (fun k => ob (x_GE k d 3 0 (fun _ => 0) r3.2) _) _
    rcases gb_any hG with ⟨h7, rfl⟩ | ⟨s, h7, hG⟩
    · refine Tm_ob (H0 _ _ _ _ _ _ _ _ h7 r3.2 _ d M P hS3 h1 hM hP (by omega) (by omega) (by omega) trivial) (fun r7 hr7 => ?_)
      obtain ⟨⟨m1, hm, hmk, hMm⟩, _, hF7⟩ := hr7
      refine Tm_ite (c := r7.2.1 10 = 0) (fun c => absurd c hm.1) (fun _ => ?_)
      exact b4 r7.2 m1 _ (by rw [upd_other (by decide)]; exact hN2) hm hMm (by omega) (FrM_tr hF3 hF7)
    obtain ⟨⟨a1, a2, a3, a4, a5, a6, a7, a8⟩, a9⟩ := mo_of hu.2.1 hv h7 hM h1 trivial (fun h => h) (fun h => h)
    refine Tm_ob (H0 _ _ _ _ _ _ _ _ h7 r3.2 _ d M P hS3 h1 hM hP (by omega) (by omega) (by omega) trivial) (fun r7 hr7 => ?_)
    obtain ⟨hS7, hr71, hF7⟩ := hr7
    have hF7 := FrM_tr hF3 hF7
    have hv7 := PS_v hS7
    refine Tm_ite (c := r7.2.1 10 = 0) (fun _ => ?_) (fun c => absurd (PS_ok hS7) c)
    refine Tm_ite (c := N 3 = 0) (fun c3 => ?_) (fun c3 => ?_)
    · rw [hN3] at c3
      have hK6 : tkK T n q = 6 := by
        rcases hK with z | z
        · exact z
        · exact absurd c3 (him.mpr z)
      refine Tm_ob (p_sign hS7 (s := 16) (by decide) (by decide) rfl) (fun r4 hr4 => ?_)
      obtain ⟨u, τ⟩ := r4
      obtain ⟨h3, hr4⟩ := hr4
      have h3 : τ = r7.2 := h3
      subst h3
      refine Tm_ite (fun c4 => ?_) (fun c4 => ?_)
      · have n8 : ¬ tkK T n q = 8 := by omega
        rw [if_neg (fun z => hr4.mpr z.2 c4)] at hG
        simp only [if_neg n8] at hG
        have h43 : upd N 4 r7.1 3 = 0 := by rw [upd_other (by decide), hN3]; exact c3
        have h42 : upd N 4 r7.1 2 = nI e := by rw [upd_other (by decide)]; exact hN2
        have h44 : upd N 4 r7.1 4 = nI s.2.2.2.1 := by rw [upd_same]; exact hr71
        generalize upd N 4 r7.1 = N4 at h43 h42 h44
        refine Tm_suc (fun k => by rw [xE_8]) ?_
        refine Tm_ite (c := N4 3 = 0) (fun _ => ?_) (fun c => absurd h43 c)
        refine Tm_suc (fun k => by rw [xE_8]) ?_
        exact g6 r7.2 _ 21 7 s _ upd_same (fun _ => rfl) (fun c => absurd (by rw [upd_other (by decide)]; exact h43) c) (by rw [upd_other (by decide)]; exact h42) (by rw [upd_other (by decide)]; exact h44) hS7 (by omega) (by omega) (by omega) (by omega) (by omega) hG hF7
      · have hK2 := hr4.mp c4
        rw [if_pos ⟨hK6, hK2⟩] at hG
        have hw := tkN_b T n s.1 a2
        have hw4 := hw.2.2.2 (by omega)
        refine Tm_ob (p_take (M := M) (P := P) (w := E.2.2.2.1) hS7 _) (fun r6 hr6 => ?_)
        show Tm (fun k => ob (x_GE k d 3 0 (fun _ => 0) r6.2) _) _
        rcases gT_any hG with ⟨t6, rfl⟩ | ⟨t6, hG⟩
        · rcases hr6.2 with ⟨_, hB⟩ | ⟨z, _⟩
          · obtain ⟨d', hd'⟩ : ∃ d', d = d' + 7 := ⟨d - 7, by omega⟩
            refine Tm_ob (by rw [hd']; exact b_exp hB.1) (fun rx hrx => ?_)
            subst hrx
            refine Tm_ob (b_over (M := M) (P := P) (w := E.2.2.2.1) hB (by omega) (by omega) _ (l := e) (by rw [upd_other (by decide), upd_same]; exact hN2) (Or.inr he.1) (by omega)) (fun r8 hr8 => ?_)
            rw [hr8.1]
            refine Tm_chk (n_in (by omega) (by omega)) ?_
            exact b7 (mSet r8.2 8 (nI s.2.2.2.2.1.1).toNatClampNeg 0) (s.2.2.2.2.1.1 + 1) s.2.2.2.2.1.1 _ upd_same (by omega) (by omega) (Bb_set hr8.2.1) (by omega) (by omega) (FrM_tr hF7 (FrM_tr hr6.1 (FrM_tr hr8.2.2 (FrM_set (by decide) (by decide) (by rw [n_cl (by omega)]; omega) _))))
          · exact absurd t6 z
        rcases hr6.2 with ⟨z, _⟩ | ⟨_, hS6⟩
        · exact absurd z t6
        rcases gb_any hG with ⟨h9, rfl⟩ | ⟨s9, h9, hG⟩
        · refine Tm_ob (H0 _ _ _ _ _ _ _ _ h9 r6.2 _ d M P hS6 h1 (by omega) (by omega) (by omega) (by omega) (by omega) trivial) (fun rx hrx => ?_)
          obtain ⟨⟨m1, hm, hmk, hMm⟩, _, hFx⟩ := hrx
          refine Tm_ob (b_over (M := M) (P := P) (w := E.2.2.2.1) hm (by omega) hMm _ (l := e) (by rw [upd_other (by decide), upd_same]; exact hN2) (Or.inr he.1) (by omega)) (fun r8 hr8 => ?_)
          rw [hr8.1]
          refine Tm_chk (n_in (by omega) (by omega)) ?_
          exact b7 (mSet r8.2 8 (nI m1).toNatClampNeg rx.1) (m1 + 1) m1 _ upd_same (by omega) hMm (Bb_set hr8.2.1) (by omega) (by omega) (FrM_tr hF7 (FrM_tr hr6.1 (FrM_tr hFx (FrM_tr hr8.2.2 (FrM_set (by decide) (by decide) (by rw [n_cl (by omega)]; omega) _)))))
        obtain ⟨⟨f1, f2, f3, f4, f5, f6, f7, f8⟩, f9⟩ := mo_of (M := M) hw.2.1 hv7 h9 (by omega) h1 trivial (fun h => h) (fun h => h)
        refine Tm_ob (H0 _ _ _ _ _ _ _ _ h9 r6.2 _ d M P hS6 h1 (by omega) (by omega) (by omega) (by omega) (by omega) trivial) (fun rx hrx => ?_)
        obtain ⟨hSx, hrx1, hFx⟩ := hrx
        refine Tm_ob (p_over (M := M) (P := P) (w := E.2.2.2.1) hSx (by omega) (by omega) _ (l := e) (by rw [upd_other (by decide), upd_same]; exact hN2) he.1 (by omega)) (fun r8 hr8 => ?_)
        obtain ⟨hr81, hS8, hF8⟩ := hr8
        rw [hr81]
        refine Tm_chk (n_in (by omega) (by omega)) ?_
        have e4 : (upd (upd (upd (upd (fun _ => (0 : Int32)) 1 22) 2 0) 3 (N 2)) 4 r7.1) 4 = nI s.2.2.2.1 := by rw [upd_same]; exact hr71
        rw [e4] at hS8
        have hS9 := PS_set (l := (nI s9.2.2.2.2.1.1).toNatClampNeg) hS8 (j := 8) (by decide) (by decide) rx.1
        rw [n_cl (p := s9.2.2.2.2.1.1) (by omega), hrx1] at hS9
        rw [n_cl (p := s9.2.2.2.2.1.1) (by omega)]
        refine g7 (mSet r8.2 8 s9.2.2.2.2.1.1 rx.1) _ 7 s9.1 s9.2.1 _ s9.2.2.2.2.1.1 (if i = 0 then 0 else 2) (fun _ => rfl) (fun c => absurd ?_ c) upd_same (by omega) (by rw [bSet_1, bOver_1]; omega) (by rw [hrx1]; exact hS9) (by omega) (by rw [bSet_1, bOver_1]; omega) (by rw [bSet_1, bOver_1]; omega) (by rw [bSet_p, bOver_p]; omega) (by rw [bSet_p, bOver_p]; omega) hG (FrM_tr hF7 (FrM_tr hr6.1 (FrM_tr hFx (FrM_tr hF8 (FrM_set (by decide) (by decide) (by omega) _)))))
        rw [upd_other (by decide), upd_other (by decide), upd_other (by decide), hN3]; exact c3
    · rw [hN3] at c3
      have hK8 := him.mp c3
      rw [if_neg (fun z : tkK T n q = 6 ∧ tkK T n s.1 = 16 => by omega)] at hG
      simp only [if_pos hK8] at hG
      have h43 : ¬ upd N 4 r7.1 3 = 0 := by rw [upd_other (by decide), hN3]; exact c3
      have h42 : upd N 4 r7.1 2 = nI e := by rw [upd_other (by decide)]; exact hN2
      have h44 : upd N 4 r7.1 4 = nI s.2.2.2.1 := by rw [upd_same]; exact hr71
      generalize upd N 4 r7.1 = N4 at h43 h42 h44
      refine Tm_suc (fun k => by rw [xE_8]) ?_
      refine Tm_ite (c := N4 3 = 0) (fun c => absurd c h43) (fun _ => ?_)
      exact g6 r7.2 _ 23 9 s _ upd_same (fun c => absurd c (by rw [upd_other (by decide)]; exact h43)) (fun _ => rfl) (by rw [upd_other (by decide)]; exact h42) (by rw [upd_other (by decide)]; exact h44) hS7 (by omega) (by omega) (by omega) (by omega) (by omega) hG hF7
  refine Tm_suc (fun k => by rw [xE_8]) ?_
  refine Tm_ite (c := σ.1 10 = 0) (fun _ => ?_) (fun c => absurd (PS_ok hS) c)
  refine Tm_ob (p_sign hS (s := 6) (by decide) (by decide) rfl) (fun r2 hr2 => ?_)
  obtain ⟨u, τ⟩ := r2
  obtain ⟨h3, hr2⟩ := hr2
  have h3 : τ = σ := h3
  subst h3
  refine Tm_ite (fun c => ?_) (fun c => two (Or.inl (hr2.mp c)))
  refine Tm_ob (p_sign hS (s := 8) (by decide) (by decide) rfl) (fun r4 hr4 => ?_)
  obtain ⟨u, τ'⟩ := r4
  obtain ⟨h3, hr4⟩ := hr4
  have h3 : τ' = τ := h3
  subst h3
  refine Tm_ite (fun c2 => ?_) (fun c2 => two (Or.inr (hr4.mp c2)))
  rw [if_neg (fun z => z.elim (fun z => hr2.mpr z c) (fun z => hr4.mpr z c2))] at hG
  cases hG
  refine Tm_suc (fun k => by rw [xE_8]) ?_
  exact Tm_some ⟨hS, hL2, FrM_rf⟩
end EXPS

/-! Powers, prefixes, parts. -/
section EXPS
variable {T : Nat → Int32} {n f : Nat}
theorem par0 {d : Nat} {L : Nat → Int32} {σ : MS} {Q : Int32 × MS → Prop} (h : Tm (fun k => x_GE k d 8 1 (upd L 2 (L 1)) σ) Q) : Tm (fun k => x_GE k d 8 0 L σ) Q := Tm_suc (h := fun k => x_GE k d 8 1 (upd L 2 (L 1)) σ) (fun k => rfl) h
theorem e_10 (H11 : S11 T n f) (H10 : S10 T n f) : S10 T n (f + 1) := by
  intro E o q v i e b x hG σ L d M P hS h1 hM hP hn hp hd _
  obtain ⟨d, rfl⟩ : ∃ d', d = d' + 1 := ⟨d - 1, by omega⟩
  rw [G_10] at hG
  have hq := PS_q hS
  have ho := PS_o hS
  refine Tm_suc (fun k => by rw [xE_9]) ?_
  show Tm (fun k => ob (x_GE k d 10 0 (fun _ => 0) σ) _) _
  rcases gb_any hG with ⟨h2, rfl⟩ | ⟨s, h2, hG⟩
  · refine Tm_ob (H11 _ _ _ _ _ _ _ _ h2 σ _ d M P hS h1 hM hP (by omega) hp (by omega) trivial) (fun r hr => ?_)
    obtain ⟨⟨m1, hm, hmk, hMm⟩, ⟨e', he', he2, he3⟩, hF⟩ := hr
    refine Tm_ite (fun c => absurd c hm.1) (fun _ => ?_)
    refine Tm_suc (fun k => by rw [xE_9]) ?_
    exact Tm_some ⟨⟨m1, hm, by omega, hMm⟩, ⟨e', by show upd L 1 r.1 1 = _; rw [upd_same]; exact he', he2, he3⟩, hF⟩
  obtain ⟨⟨a1, a2, a3, a4, a5, a6, a7, a8⟩, a9⟩ := mo_of hq.1 (PS_v hS) h2 hM h1 trivial (fun h => h) (fun h => h)
  refine Tm_ob (H11 _ _ _ _ _ _ _ _ h2 σ _ d M P hS h1 hM hP (by omega) hp (by omega) trivial) (fun r hr => ?_)
  obtain ⟨hS1, hr1, hF⟩ := hr
  refine Tm_ite (fun _ => ?_) (fun c => absurd (PS_ok hS1) c)
  refine Tm_ob (p_sign hS1 (s := 5) (by decide) (by decide) rfl) (fun r3 hr3 => ?_)
  obtain ⟨u, τ⟩ := r3
  obtain ⟨h3, hr3⟩ := hr3
  have h3 : τ = r.2 := h3
  subst h3
  refine Tm_ite (fun c => ?_) (fun c => ?_)
  · rw [if_neg (fun z => hr3.mpr z c)] at hG
    cases hG
    refine Tm_suc (fun k => by rw [xE_9]) ?_
    exact Tm_some ⟨hS1, by show upd L 1 r.1 1 = _; rw [upd_same]; exact hr1, hF⟩
  have hK := hr3.mp c
  rw [if_pos hK] at hG
  have hv1 := PS_v hS1
  have hu := tkN_b T n s.1 a2
  have hu4 := hu.2.2.2 (by omega)
  have hN1 : upd L 1 r.1 1 = nI s.2.2.2.1 := by rw [upd_same]; exact hr1
  generalize upd L 1 r.1 = N at hN1
  -- the end, behind a fault: m nodes, the operand's number is of no matter
  have bad4 : ∀ (ρ : MS) (m : Nat) (N' : Nat → Int32), N' 1 = nI s.2.2.2.1 → Bb m ρ → s.2.2.2.2.1.1 ≤ m → m + 1 ≤ b.1 + (n + 1 - q) + 3 * (d + 1 + 1) → FrM M P E.2.2.2.1 σ ρ → Tm (fun k => x_GE k (d + 1) 9 4 N' ρ) (Po T n E o M P (b.1 + (n + 1 - q) + 3 * (d + 1 + 1)) σ none) := fun ρ m N' hN' hB hm1 hm2 hF => by
    refine Tm_suc (fun k => by rw [xE_9]) ?_
    refine Tm_ob (b_over (M := M) (P := P) (w := E.2.2.2.1) hB (by omega) (by omega) _ (l := s.2.2.2.1) (by rw [upd_other (by decide), upd_same]; exact hN') (Or.inr a9.1) (by omega)) (fun r8 hr8 => ?_)
    exact Tm_some ⟨⟨_, hr8.2.1, by omega, by omega⟩, ⟨_, hr8.1, by omega, Or.inr (by omega)⟩, FrM_tr hF hr8.2.2⟩
  have bad : ∀ (ρ : MS), Bb s.2.2.2.2.1.1 ρ → FrM M P E.2.2.2.1 σ ρ → Tm (fun k => x_GE k (d + 1) 9 3 N ρ) (Po T n E o M P (b.1 + (n + 1 - q) + 3 * (d + 1 + 1)) σ none) := fun ρ hB hF => by
    refine Tm_suc (fun k => by rw [xE_9]) ?_
    show Tm (fun k => ob (x_GE k d 9 0 (fun _ => 0) ρ) _) _
    obtain ⟨d', hd'⟩ : ∃ d', d = d' + 1 := ⟨d - 1, by omega⟩
    refine Tm_ob (by rw [hd']; exact b_pow hB.1) (fun r7 hr7 => ?_)
    subst hr7
    exact bad4 (mOpn ρ (ρ.1 13 - 1)) _ _ (by rw [upd_other (by decide)]; exact hN1) (Bb_opn hB _) (Nat.le_refl _) (by omega) (FrM_tr hF (FrM_opn _))
  refine Tm_suc (fun k => by rw [xE_9]) ?_
  refine Tm_ob (p_open (M := M) (P := P) (w := E.2.2.2.1) hS1 _) (fun r1 hr1' => ?_)
  rcases gO_any hG with ⟨t0, rfl⟩ | ⟨t0, hG⟩
  · rcases hr1'.2 with ⟨_, hB⟩ | ⟨z, _⟩
    · exact Tm_ite (fun c => absurd c hB.1) (fun _ => bad r1.2 hB (FrM_tr hF hr1'.1))
    · omega
  rcases hr1'.2 with ⟨z, _⟩ | ⟨ho2, hS2, _⟩
  · exact absurd z t0
  refine Tm_ite (fun _ => ?_) (fun c => absurd (PS_ok hS2) c)
  refine Tm_ob (p_take (M := M) (P := P) (w := E.2.2.2.1) hS2 _) (fun r3 hr3 => ?_)
  rcases gT_any hG with ⟨t1, rfl⟩ | ⟨t1, hG⟩
  · rcases hr3.2 with ⟨_, hB⟩ | ⟨z, _⟩
    · exact bad r3.2 hB (FrM_tr hF (FrM_tr hr1'.1 hr3.1))
    · exact absurd t1 z
  rcases hr3.2 with ⟨z, _⟩ | ⟨_, hS3⟩
  · exact absurd z t1
  refine Tm_suc (fun k => by rw [xE_9]) ?_
  show Tm (fun k => ob (x_GE k d 9 0 (fun _ => 0) r3.2) _) _
  rcases gb_any hG with ⟨h7, rfl⟩ | ⟨s7, h7, hG⟩
  · refine Tm_ob (H10 _ _ _ _ _ _ _ _ h7 r3.2 _ d M P hS3 h1 (by omega) (by omega) (by omega) (by omega) (by omega) trivial) (fun r7 hr7 => ?_)
    obtain ⟨⟨m1, hm, hmk, hMm⟩, ⟨e', he', he2, he3⟩, hF7⟩ := hr7
    by_cases hms : s.2.2.2.2.1.1 ≤ m1
    · exact bad4 (mOpn r7.2 (r7.2.1 13 - 1)) m1 _ (by rw [upd_other (by decide)]; exact hN1) (Bb_opn hm _) hms (by omega) (FrM_tr hF (FrM_tr hr1'.1 (FrM_tr hr3.1 (FrM_tr hF7 (FrM_opn _)))))
    · refine Tm_suc (fun k => by rw [xE_9]) ?_
      refine Tm_ob (b_over (M := M) (P := P) (w := E.2.2.2.1) (Bb_opn hm (r7.2.1 13 - 1)) (by omega) hMm _ (l := s.2.2.2.1) (by rw [upd_other (by decide), upd_same, upd_other (by decide)]; exact hN1) (Or.inr a9.1) (by omega)) (fun r8 hr8 => ?_)
      exact Tm_some ⟨⟨_, hr8.2.1, by omega, by omega⟩, ⟨_, hr8.1, by omega, Or.inr (by omega)⟩, FrM_tr hF (FrM_tr hr1'.1 (FrM_tr hr3.1 (FrM_tr hF7 (FrM_tr (FrM_opn _) hr8.2.2))))⟩
  obtain ⟨⟨b1, b2, b3, b4, b5, b6, b7, b8⟩, b9⟩ := mo_of (M := M) hu.2.1 hv1 h7 (by omega) h1 trivial (fun h => h) (fun h => h)
  refine Tm_ob (H10 _ _ _ _ _ _ _ _ h7 r3.2 _ d M P hS3 h1 (by omega) (by omega) (by omega) (by omega) (by omega) trivial) (fun r7 hr7 => ?_)
  obtain ⟨hS7, hr71, hF7⟩ := hr7
  refine Tm_suc (fun k => by rw [xE_9]) ?_
  refine Tm_ob (p_over (M := M) (P := P) (w := E.2.2.2.1) (PS_clo hS7) (by omega) (by omega) _ (l := s.2.2.2.1) (by rw [upd_other (by decide), upd_same, upd_other (by decide)]; exact hN1) a9.1 (by omega)) (fun r8 hr8 => ?_)
  obtain ⟨hr81, hS8, hF8⟩ := hr8
  cases hG
  refine Tm_some ⟨?_, hr81, FrM_tr hF (FrM_tr hr1'.1 (FrM_tr hr3.1 (FrM_tr hF7 (FrM_tr (FrM_opn _) hF8))))⟩
  have e4 : (upd (upd (upd (upd (fun _ => (0 : Int32)) 1 16) 2 5) 3 (upd N 2 r7.1 1)) 4 (upd N 2 r7.1 2)) 4 = nI s7.2.2.2.1 := by rw [upd_same, upd_same]; exact hr71
  rw [e4] at hS8
  exact hS8
theorem e_11 (H11 : S11 T n f) (H13 : S13 T n f) (H12 : S12 T n f) : S11 T n (f + 1) := by
  intro E o q v i e b x hG σ L d M P hS h1 hM hP hn hp hd _
  obtain ⟨d, rfl⟩ : ∃ d', d = d' + 1 := ⟨d - 1, by omega⟩
  rw [G_11] at hG
  have hq := PS_q hS
  have ho := PS_o hS
  have hu := tkN_b T n q hq.1
  -- the end of both kinds, behind a fault
  have end6 : ∀ (ρ : MS) (m : Nat) (N : Nat → Int32), Bb m ρ → M ≤ m → m + 1 ≤ b.1 + (n + 1 - q) + 3 * (d + 1 + 1) → FrM M P E.2.2.2.1 σ ρ → Tm (fun k => x_GE k (d + 1) 10 6 N ρ) (Po T n E o M P (b.1 + (n + 1 - q) + 3 * (d + 1 + 1)) σ none) := fun ρ m N hB hMm hm2 hF => by
    refine Tm_suc (fun k => by rw [xE_10]) ?_
    refine Tm_ob (b_node (M := M) (P := P) (w := E.2.2.2.1) hB (by omega) hMm _) (fun r8 hr8 => ?_)
    exact Tm_some ⟨⟨_, hr8.2.1, by omega, by omega⟩, ⟨_, hr8.1, by omega, Or.inr hMm⟩, FrM_tr hF hr8.2.2⟩
  have end10 : ∀ (ρ : MS) (m : Nat) (N : Nat → Int32), Bb m ρ → M ≤ m → m + 1 ≤ b.1 + (n + 1 - q) + 3 * (d + 1 + 1) → FrM M P E.2.2.2.1 σ ρ → Tm (fun k => x_GE k (d + 1) 10 10 N ρ) (Po T n E o M P (b.1 + (n + 1 - q) + 3 * (d + 1 + 1)) σ none) := fun ρ m N hB hMm hm2 hF => by
    refine Tm_suc (fun k => by rw [xE_10]) ?_
    refine Tm_ob (b_node (M := M) (P := P) (w := E.2.2.2.1) hB (by omega) hMm _) (fun r8 hr8 => ?_)
    exact Tm_some ⟨⟨_, hr8.2.1, by omega, by omega⟩, ⟨_, hr8.1, by omega, Or.inr hMm⟩, FrM_tr hF hr8.2.2⟩
  have bad5 : ∀ (ρ : MS) (N : Nat → Int32), Bb b.1 ρ → FrM M P E.2.2.2.1 σ ρ → Tm (fun k => x_GE k (d + 1) 10 5 N ρ) (Po T n E o M P (b.1 + (n + 1 - q) + 3 * (d + 1 + 1)) σ none) := fun ρ N hB hF => by
    refine Tm_suc (fun k => by rw [xE_10]) ?_
    show Tm (fun k => ob (x_GE k d 10 0 (fun _ => 0) ρ) _) _
    refine Tm_ob (b_pre hB.1) (fun r7 hr7 => ?_)
    subst hr7
    exact end6 (mOpn ρ (ρ.1 13 - 1)) _ _ (Bb_opn hB _) hM (by omega) (FrM_tr hF (FrM_opn _))
  have bad9 : ∀ (ρ : MS) (N : Nat → Int32), Bb b.1 ρ → FrM M P E.2.2.2.1 σ ρ → Tm (fun k => x_GE k (d + 1) 10 9 N ρ) (Po T n E o M P (b.1 + (n + 1 - q) + 3 * (d + 1 + 1)) σ none) := fun ρ N hB hF => by
    refine Tm_suc (fun k => by rw [xE_10]) ?_
    refine Tm_ob (b_want hB.1 _) (fun r1 hr1 => ?_)
    obtain ⟨u, τ⟩ := r1
    have hr1 : τ = ρ := hr1
    subst hr1
    show Tm (fun k => ob (x_GE k d 10 0 (fun _ => 0) τ) _) _
    refine Tm_ob (b_pre hB.1) (fun r7 hr7 => ?_)
    subst hr7
    exact end10 (mOpn τ (τ.1 13 - 1)) _ _ (Bb_opn hB _) hM (by omega) (FrM_tr hF (FrM_opn _))
  -- - and #
  have four : ∀ N : Nat → Int32, N 100 = (if tkK T n q = 3 then 17 else 18) → (tkK T n q = 3 ∨ tkK T n q = 23) → Tm (fun k => x_GE k (d + 1) 10 4 N σ) (Po T n E o M P (b.1 + (n + 1 - q) + 3 * (d + 1 + 1)) σ x) := fun N hN hK => by
    rw [if_pos hK] at hG
    have hu4 := hu.2.2.2 (by omega)
    refine Tm_suc (fun k => by rw [xE_10]) ?_
    refine Tm_ob (p_open (M := M) (P := P) (w := E.2.2.2.1) hS _) (fun r1 hr1 => ?_)
    rcases gO_any hG with ⟨t0, rfl⟩ | ⟨t0, hG⟩
    · rcases hr1.2 with ⟨_, hB⟩ | ⟨z, _⟩
      · exact Tm_ite (fun c => absurd c hB.1) (fun _ => bad5 r1.2 _ hB hr1.1)
      · omega
    rcases hr1.2 with ⟨z, _⟩ | ⟨ho2, hS1, _⟩
    · exact absurd z t0
    refine Tm_ite (fun _ => ?_) (fun c => absurd (PS_ok hS1) c)
    refine Tm_ob (p_take (M := M) (P := P) (w := E.2.2.2.1) hS1 _) (fun r3 hr3 => ?_)
    rcases gT_any hG with ⟨t1, rfl⟩ | ⟨t1, hG⟩
    · rcases hr3.2 with ⟨_, hB⟩ | ⟨z, _⟩
      · exact bad5 r3.2 _ hB (FrM_tr hr1.1 hr3.1)
      · exact absurd t1 z
    rcases hr3.2 with ⟨z, _⟩ | ⟨_, hS3⟩
    · exact absurd z t1
    refine Tm_suc (fun k => by rw [xE_10]) ?_
    show Tm (fun k => ob (x_GE k d 10 0 (fun _ => 0) r3.2) _) _
    rcases gb_any hG with ⟨h7, rfl⟩ | ⟨s, h7, hG⟩
    · refine Tm_ob (H11 _ _ _ _ _ _ _ _ h7 r3.2 _ d M P hS3 h1 hM hP (by omega) (by omega) (by omega) trivial) (fun r7 hr7 => ?_)
      obtain ⟨⟨m1, hm, hmk, hMm⟩, _, hF7⟩ := hr7
      exact end6 (mOpn r7.2 (r7.2.1 13 - 1)) m1 _ (Bb_opn hm _) hMm (by omega) (FrM_tr hr1.1 (FrM_tr hr3.1 (FrM_tr hF7 (FrM_opn _))))
    obtain ⟨⟨a1, a2, a3, a4, a5, a6, a7, a8⟩, a9⟩ := mo_of hu.2.1 (PS_v hS) h7 hM h1 trivial (fun h => h) (fun h => h)
    refine Tm_ob (H11 _ _ _ _ _ _ _ _ h7 r3.2 _ d M P hS3 h1 hM hP (by omega) (by omega) (by omega) trivial) (fun r7 hr7 => ?_)
    obtain ⟨hS7, hr71, hF7⟩ := hr7
    refine Tm_suc (fun k => by rw [xE_10]) ?_
    refine Tm_ob (p_node (M := M) (P := P) (w := E.2.2.2.1) (PS_clo hS7) (by omega) (by omega) _) (fun r8 hr8 => ?_)
    obtain ⟨hr81, hS8, hF8⟩ := hr8
    cases hG
    refine Tm_some ⟨?_, hr81, FrM_tr hr1.1 (FrM_tr hr3.1 (FrM_tr hF7 (FrM_tr (FrM_opn _) hF8)))⟩
    have e1 : (upd (upd (upd (upd (fun _ => (0 : Int32)) 1 (upd (upd N 1 (N 100)) 2 r7.1 1)) 2 0) 3 (upd (upd N 1 (N 100)) 2 r7.1 2)) 4 0) 1 = (if tkK T n q = 3 then 17 else 18) := by
      rw [upd_other (by decide), upd_other (by decide), upd_other (by decide), upd_same, upd_other (by decide), upd_same]; exact hN
    have e3 : (upd (upd (upd (upd (fun _ => (0 : Int32)) 1 (upd (upd N 1 (N 100)) 2 r7.1 1)) 2 0) 3 (upd (upd N 1 (N 100)) 2 r7.1 2)) 4 0) 3 = nI s.2.2.2.1 := by rw [upd_other (by decide), upd_same, upd_same]; exact hr71
    rw [e1, e3] at hS8
    exact hS8
  -- + / and its like
  have eight : ¬ (tkK T n q = 3 ∨ tkK T n q = 23) → (tkK T n q = 2 ∨ tkK T n q = 4 ∨ tkK T n q = 81 ∨ tkK T n q = 80) → ∀ N : Nat → Int32, Tm (fun k => x_GE k (d + 1) 10 8 N σ) (Po T n E o M P (b.1 + (n + 1 - q) + 3 * (d + 1 + 1)) σ x) := fun hK0 hK N => by
    rw [if_neg hK0, if_pos hK] at hG
    have hu4 := hu.2.2.2 (by omega)
    refine Tm_suc (fun k => by rw [xE_10]) ?_
    refine Tm_ob (p_operator hS (by omega) _) (fun r0 hr0 => ?_)
    subst hr0
    refine Tm_ob (p_open (M := M) (P := P) (w := E.2.2.2.1) hS _) (fun r1 hr1 => ?_)
    rcases gO_any hG with ⟨t0, rfl⟩ | ⟨t0, hG⟩
    · rcases hr1.2 with ⟨_, hB⟩ | ⟨z, _⟩
      · exact Tm_ite (fun c => absurd c hB.1) (fun _ => bad9 r1.2 _ hB hr1.1)
      · omega
    rcases hr1.2 with ⟨z, _⟩ | ⟨ho2, hS1, _⟩
    · exact absurd z t0
    refine Tm_ite (fun _ => ?_) (fun c => absurd (PS_ok hS1) c)
    refine Tm_ob (p_take (M := M) (P := P) (w := E.2.2.2.1) hS1 _) (fun r3 hr3 => ?_)
    rcases gT_any hG with ⟨t1, rfl⟩ | ⟨t1, hG⟩
    · rcases hr3.2 with ⟨_, hB⟩ | ⟨z, _⟩
      · exact bad9 r3.2 _ hB (FrM_tr hr1.1 hr3.1)
      · exact absurd t1 z
    rcases hr3.2 with ⟨z, _⟩ | ⟨_, hS3⟩
    · exact absurd z t1
    have hN1 : upd N 1 (opr (tkK T n q)) 1 = opr (tkK T n q) := upd_same
    generalize upd N 1 (opr (tkK T n q)) = N1 at hN1
    refine Tm_suc (fun k => by rw [xE_10]) ?_
    refine Tm_ob (p_want (M := M) (P := P) (w := E.2.2.2.1) hS3 (s := 24) (by decide) (by decide) rfl) (fun r5 hr5 => ?_)
    show Tm (fun k => ob (x_GE k d 10 0 (fun _ => 0) r5.2) _) _
    rcases gW_any hG with ⟨t2, rfl⟩ | ⟨t2, hG⟩
    · rcases hr5.2 with ⟨_, hB⟩ | ⟨z, _⟩
      · refine Tm_ob (b_pre hB.1) (fun r7 hr7 => ?_)
        subst hr7
        exact end10 (mOpn r5.2 (r5.2.1 13 - 1)) _ _ (Bb_opn hB _) hM (by omega) (FrM_tr hr1.1 (FrM_tr hr3.1 (FrM_tr hr5.1 (FrM_opn _))))
      · exact absurd z t2
    rcases hr5.2 with ⟨z, _⟩ | ⟨_, hS5⟩
    · exact absurd t2 z
    have hw := tkN_b T n (tkN T n q) hu.2.1
    rcases gb_any hG with ⟨h7, rfl⟩ | ⟨s, h7, hG⟩
    · refine Tm_ob (H11 _ _ _ _ _ _ _ _ h7 r5.2 _ d M P hS5 h1 hM hP (by omega) (by omega) (by omega) trivial) (fun r7 hr7 => ?_)
      obtain ⟨⟨m1, hm, hmk, hMm⟩, _, hF7⟩ := hr7
      exact end10 (mOpn r7.2 (r7.2.1 13 - 1)) m1 _ (Bb_opn hm _) hMm (by omega) (FrM_tr hr1.1 (FrM_tr hr3.1 (FrM_tr hr5.1 (FrM_tr hF7 (FrM_opn _)))))
    obtain ⟨⟨a1, a2, a3, a4, a5, a6, a7, a8⟩, a9⟩ := mo_of hw.2.1 (PS_v hS) h7 hM h1 trivial (fun h => h) (fun h => h)
    refine Tm_ob (H11 _ _ _ _ _ _ _ _ h7 r5.2 _ d M P hS5 h1 hM hP (by omega) (by omega) (by omega) trivial) (fun r7 hr7 => ?_)
    obtain ⟨hS7, hr71, hF7⟩ := hr7
    refine Tm_suc (fun k => by rw [xE_10]) ?_
    refine Tm_ob (p_node (M := M) (P := P) (w := E.2.2.2.1) (PS_clo hS7) (by omega) (by omega) _) (fun r8 hr8 => ?_)
    obtain ⟨hr81, hS8, hF8⟩ := hr8
    cases hG
    refine Tm_some ⟨?_, hr81, FrM_tr hr1.1 (FrM_tr hr3.1 (FrM_tr hr5.1 (FrM_tr hF7 (FrM_tr (FrM_opn _) hF8))))⟩
    have e2 : (upd (upd (upd (upd (fun _ => (0 : Int32)) 1 20) 2 (upd N1 2 r7.1 1)) 3 (upd N1 2 r7.1 2)) 4 0) 2 = opr (tkK T n q) := by
      rw [upd_other (by decide), upd_other (by decide), upd_same, upd_other (by decide)]; exact hN1
    have e3 : (upd (upd (upd (upd (fun _ => (0 : Int32)) 1 20) 2 (upd N1 2 r7.1 1)) 3 (upd N1 2 r7.1 2)) 4 0) 3 = nI s.2.2.2.1 := by rw [upd_other (by decide), upd_same, upd_same]; exact hr71
    rw [e2, e3] at hS8
    exact hS8
  -- a primary and its parts
  have eleven : ¬ (tkK T n q = 3 ∨ tkK T n q = 23) → ¬ (tkK T n q = 2 ∨ tkK T n q = 4 ∨ tkK T n q = 81 ∨ tkK T n q = 80) → ∀ N : Nat → Int32, Tm (fun k => x_GE k (d + 1) 10 11 N σ) (Po T n E o M P (b.1 + (n + 1 - q) + 3 * (d + 1 + 1)) σ x) := fun hK0 hK N => by
    rw [if_neg hK0, if_neg hK] at hG
    refine Tm_suc (fun k => by rw [xE_10]) ?_
    show Tm (fun k => ob (x_GE k d 11 0 (fun _ => 0) σ) (fun r1 => ob (x_GE k d 8 0 (upd (fun _ => 0) 1 r1.1) r1.2) (fun r2 => some (r2.1, r2.2)))) _
    rcases gb_any hG with ⟨h7, rfl⟩ | ⟨s, h7, hG⟩
    · refine Tm_ob (H13 _ _ _ _ _ _ _ _ h7 σ _ d M P hS h1 hM hP (by omega) (by omega) (by omega) trivial) (fun r7 hr7 => ?_)
      obtain ⟨⟨m1, hm, hmk, hMm⟩, ⟨e', he', he2, he3⟩, hF7⟩ := hr7
      refine Tm_ob (P := fun r => r = (r7.1, r7.2)) (par0 (Tm_mono (b_par1 hm.1) (fun r hr => by rw [hr, upd_same, upd_same]))) (fun r8 hr8 => ?_)
      subst hr8
      exact Tm_some ⟨⟨m1, hm, by omega, hMm⟩, ⟨e', he', he2, he3⟩, hF7⟩
    obtain ⟨⟨a1, a2, a3, a4, a5, a6, a7, a8⟩, a9⟩ := mo_of hq.1 (PS_v hS) h7 hM h1 trivial (fun h => h) (fun h => h)
    refine Tm_ob (H13 _ _ _ _ _ _ _ _ h7 σ _ d M P hS h1 hM hP (by omega) (by omega) (by omega) trivial) (fun r7 hr7 => ?_)
    obtain ⟨hS7, hr71, hF7⟩ := hr7
    refine Tm_ob (P := Po T n E o M P (s.2.2.2.2.1.1 + (n + 1 - s.1) + 3 * (d + 1)) r7.2 x) (par0 (H12 _ _ _ _ _ _ _ _ hG r7.2 _ d M P hS7 h1 (by omega) (by omega) (by omega) (by omega) (by omega) ⟨by rw [upd_same, upd_same]; exact hr71, a9.1, a9.2⟩)) (fun r8 hr8 => ?_)
    exact Tm_some (Po_tr hF7 (by omega) hr8)
  refine Tm_suc (fun k => by rw [xE_10]) ?_
  refine Tm_ite (c := σ.1 10 = 0) (fun _ => ?_) (fun c => absurd (PS_ok hS) c)
  refine Tm_suc (fun k => by rw [xE_10]) ?_
  refine Tm_ob (p_sign hS (s := 3) (by decide) (by decide) rfl) (fun r2 hr2 => ?_)
  obtain ⟨u, τ⟩ := r2
  obtain ⟨h3, hr2⟩ := hr2
  have h3 : τ = σ := h3
  subst h3
  have two : ∀ N : Nat → Int32, (tkK T n q = 3 ∨ tkK T n q = 23) → Tm (fun k => x_GE k (d + 1) 10 2 N τ) (Po T n E o M P (b.1 + (n + 1 - q) + 3 * (d + 1 + 1)) τ x) := fun N hK => by
    refine Tm_suc (fun k => by rw [xE_10]) ?_
    refine Tm_ob (p_sign hS (s := 3) (by decide) (by decide) rfl) (fun r4 hr4 => ?_)
    obtain ⟨u, τ'⟩ := r4
    obtain ⟨h3, hr4⟩ := hr4
    have h3 : τ' = τ := h3
    subst h3
    refine Tm_ite (fun c => ?_) (fun c => ?_)
    · refine Tm_suc (fun k => by rw [xE_10]) ?_
      exact four _ (by rw [upd_same, if_neg (fun z => hr4.mpr z c)]) hK
    · exact four _ (by rw [upd_same, if_pos (hr4.mp c)]) hK
  refine Tm_ite (fun c => ?_) (fun c => two _ (Or.inl (hr2.mp c)))
  have n3 : ¬ tkK T n q = 3 := fun z => hr2.mpr z c
  refine Tm_ob (p_sign hS (s := 23) (by decide) (by decide) rfl) (fun r3 hr3 => ?_)
  obtain ⟨u, τ'⟩ := r3
  obtain ⟨h3, hr3⟩ := hr3
  have h3 : τ' = τ := h3
  subst h3
  refine Tm_ite (fun c => ?_) (fun c => two _ (Or.inr (hr3.mp c)))
  have n23 : ¬ tkK T n q = 23 := fun z => hr3.mpr z c
  refine Tm_suc (fun k => by rw [xE_10]) ?_
  refine Tm_ob (p_sign hS (s := 2) (by decide) (by decide) rfl) (fun r4 hr4 => ?_)
  obtain ⟨u, τ⟩ := r4
  obtain ⟨h3, hr4⟩ := hr4
  have h3 : τ = τ' := h3
  subst h3
  refine Tm_ite (fun c => ?_) (fun c => eight (by omega) (Or.inl (hr4.mp c)) _)
  have n2 : ¬ tkK T n q = 2 := fun z => hr4.mpr z c
  refine Tm_ob (p_sign hS (s := 4) (by decide) (by decide) rfl) (fun r5 hr5 => ?_)
  obtain ⟨u, τ'⟩ := r5
  obtain ⟨h3, hr5⟩ := hr5
  have h3 : τ' = τ := h3
  subst h3
  refine Tm_ite (fun c => ?_) (fun c => eight (by omega) (Or.inr (Or.inl (hr5.mp c))) _)
  have n4 : ¬ tkK T n q = 4 := fun z => hr5.mpr z c
  refine Tm_ob (p_word hS (s := 49) (by decide) rfl) (fun r6 hr6 => ?_)
  obtain ⟨u, τ⟩ := r6
  obtain ⟨h3, hr6⟩ := hr6
  have h3 : τ = τ' := h3
  subst h3
  refine Tm_ite (fun c => ?_) (fun c => eight (by omega) (Or.inr (Or.inr (Or.inl (hr6.mp c)))) _)
  have n81 : ¬ tkK T n q = 81 := fun z => hr6.mpr z c
  refine Tm_ob (p_word hS (s := 48) (by decide) rfl) (fun r7 hr7 => ?_)
  obtain ⟨u, τ'⟩ := r7
  obtain ⟨h3, hr7⟩ := hr7
  have h3 : τ' = τ := h3
  subst h3
  refine Tm_ite (fun c => ?_) (fun c => eight (by omega) (Or.inr (Or.inr (Or.inr (hr7.mp c)))) _)
  have n80 : ¬ tkK T n q = 80 := fun z => hr7.mpr z c
  exact eleven (by omega) (by omega) _
end EXPS

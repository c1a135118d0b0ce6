/-! Comparisons, not, powers, prefixes, parts. -/
section EXPS
variable {T : Nat → Int32} {n f : Nat}
theorem PS_v {E : En} {o q v : Nat} {b : BT} {σ : MS} (h : PS T n E o q v b σ) : v ≤ 60 := h.2.2.2.1.2.2.2.1
theorem PS_o {E : En} {o q v : Nat} {b : BT} {σ : MS} (h : PS T n E o q v b σ) : o ≤ 20 := h.2.1.2
/-- one operand, as G's own facts have it -/
theorem mo_of {nt : Nat} {E : En} {o q v : Nat} {b : BT} {s : RT} {M : Nat} (hq : q ≤ n) (hv : v ≤ 60) (h : G T n f nt E o q v 0 0 0 0 b = some (some s)) (hM : M ≤ b.1) (h1 : 1 ≤ M) (hn0 : Nd0 nt M b 0 0 0) (hn1 : Nd1 nt M s → M ≤ s.2.2.2.1 ∧ s.2.2.2.1 < s.2.2.2.2.1.1) (hmo : MoN nt n b q v s → Mo n b q v s) : Mo n b q v s ∧ M ≤ s.2.2.2.1 ∧ s.2.2.2.1 < s.2.2.2.2.1.1 := by
  obtain ⟨x1, x2⟩ := g_mono T n f nt E o q v 0 0 0 0 b s hq hv h M hM h1 hn0
  exact ⟨hmo x1, hn1 x2⟩
theorem e_5 (H6 : S6 T n f) : S5 T n (f + 1) := by
  intro E o q v i e b x hG σ L d M P hS h1 hM hP hn hp hd _
  obtain ⟨d, rfl⟩ : ∃ d', d = d' + 1 := ⟨d - 1, by omega⟩
  rw [G_5] at hG
  have hq := PS_q hS
  have ho := PS_o hS
  refine Tm_suc (fun k => by rw [xE_13]) ?_
  show Tm (fun k => ob (x_GE k d 14 0 (fun _ => 0) σ) _) _
  rcases gb_any hG with ⟨h2, rfl⟩ | ⟨s, h2, hG⟩
  · refine Tm_ob (H6 _ _ _ _ _ _ _ _ h2 σ _ d M P hS h1 hM hP (by omega) hp (by omega) trivial) (fun r hr => ?_)
    obtain ⟨⟨m1, hm, hmk, hMm⟩, ⟨e', he', he2, he3⟩, hF⟩ := hr
    refine Tm_ite (fun c => absurd c hm.1) (fun _ => ?_)
    refine Tm_suc (fun k => by rw [xE_13]) ?_
    exact Tm_some ⟨⟨m1, hm, by omega, hMm⟩, ⟨e', by show upd L 1 r.1 1 = _; rw [upd_same]; exact he', he2, he3⟩, hF⟩
  obtain ⟨⟨a1, a2, a3, a4, a5, a6, a7, a8⟩, a9⟩ := mo_of hq.1 (PS_v hS) h2 hM h1 trivial (fun h => h) (fun h => h)
  refine Tm_ob (H6 _ _ _ _ _ _ _ _ h2 σ _ d M P hS h1 hM hP (by omega) hp (by omega) trivial) (fun r hr => ?_)
  obtain ⟨hS1, hr1, hF⟩ := hr
  refine Tm_ite (fun _ => ?_) (fun c => absurd (PS_ok hS1) c)
  refine Tm_ob (p_isRelation hS1 _) (fun r3 hr3 => ?_)
  obtain ⟨u, τ⟩ := r3
  obtain ⟨h3, hr3⟩ := hr3
  have h3 : τ = r.2 := h3
  subst h3
  refine Tm_ite (fun c => ?_) (fun c => ?_)
  · rw [if_neg (fun z => hr3.mpr z c)] at hG
    cases hG
    refine Tm_suc (fun k => by rw [xE_13]) ?_
    exact Tm_some ⟨hS1, by show upd L 1 r.1 1 = _; rw [upd_same]; exact hr1, hF⟩
  have hR := hr3.mp c
  rw [if_pos hR] at hG
  have hv1 := PS_v hS1
  have hu := tkN_b T n s.1 a2
  have hu4 := hu.2.2.2 (by rcases hR with z | z | z | z <;> omega)
  refine Tm_ob (p_operator hS1 (by rcases hR with z | z | z | z <;> omega) _) (fun r5 hr5 => ?_)
  subst hr5
  refine Tm_ob (p_take (M := M) (P := P) (w := E.2.2.2.1) hS1 _) (fun r6 hr6 => ?_)
  rcases gT_any hG with ⟨t0, rfl⟩ | ⟨t0, hG⟩
  · rcases hr6.2 with ⟨_, hB⟩ | ⟨z, _⟩
    · show Tm (fun k => ob (x_GE k d 14 0 (fun _ => 0) r6.2) _) _
      obtain ⟨d', hd'⟩ : ∃ d', d = d' + 3 := ⟨d - 3, by omega⟩
      refine Tm_ob (by rw [hd']; exact b_sum hB.1) (fun r7 hr7 => ?_)
      subst hr7
      refine Tm_ob (b_over (M := M) (P := P) (w := E.2.2.2.1) hB (by omega) (by omega) _ (l := s.2.2.2.1) (by rw [upd_other (by decide), upd_same]; exact hr1) (Or.inr a9.1) (by omega)) (fun r8 hr8 => ?_)
      refine Tm_suc (fun k => by rw [xE_13]) ?_
      exact Tm_some ⟨⟨_, hr8.2.1, by omega, by omega⟩, ⟨s.2.2.2.2.1.1, (show upd (upd L 1 r8.1) 2 (opr (tkK T n s.1)) 1 = nI s.2.2.2.2.1.1 from by rw [upd_other (by decide), upd_same]; exact hr8.1), by omega, Or.inr (by omega)⟩, FrM_tr hF (FrM_tr hr6.1 hr8.2.2)⟩
    · exact absurd t0 z
  rcases hr6.2 with ⟨z, _⟩ | ⟨_, hS6⟩
  · exact absurd z t0
  show Tm (fun k => ob (x_GE k d 14 0 (fun _ => 0) r6.2) _) _
  rcases gb_any hG with ⟨h7, rfl⟩ | ⟨s7, h7, hG⟩
  · refine Tm_ob (H6 _ _ _ _ _ _ _ _ h7 r6.2 _ d M P hS6 h1 (by omega) (by omega) (by omega) (by omega) (by omega) trivial) (fun r7 hr7 => ?_)
    obtain ⟨⟨m1, hm, hmk, hMm⟩, ⟨e', he', he2, he3⟩, hF7⟩ := hr7
    refine Tm_ob (b_over (M := M) (P := P) (w := E.2.2.2.1) hm (by omega) hMm _ (l := s.2.2.2.1) (by rw [upd_other (by decide), upd_same]; exact hr1) (Or.inr a9.1) (by omega)) (fun r8 hr8 => ?_)
    refine Tm_suc (fun k => by rw [xE_13]) ?_
    exact Tm_some ⟨⟨_, hr8.2.1, by omega, by omega⟩, ⟨m1, (show upd (upd L 1 r8.1) 2 (opr (tkK T n s.1)) 1 = nI m1 from by rw [upd_other (by decide), upd_same]; exact hr8.1), by omega, Or.inr hMm⟩, FrM_tr hF (FrM_tr hr6.1 (FrM_tr hF7 hr8.2.2))⟩
  obtain ⟨⟨b1, b2, b3, b4, b5, b6, b7, b8⟩, b9⟩ := mo_of (M := M) hu.2.1 hv1 h7 (by omega) h1 trivial (fun h => h) (fun h => h)
  refine Tm_ob (H6 _ _ _ _ _ _ _ _ h7 r6.2 _ d M P hS6 h1 (by omega) (by omega) (by omega) (by omega) (by omega) trivial) (fun r7 hr7 => ?_)
  obtain ⟨hS7, hr71, hF7⟩ := hr7
  refine Tm_ob (p_over (M := M) (P := P) (w := E.2.2.2.1) hS7 (by omega) (by omega) _ (l := s.2.2.2.1) (by rw [upd_other (by decide), upd_same]; exact hr1) a9.1 (by omega)) (fun r8 hr8 => ?_)
  obtain ⟨hr81, hS8, hF8⟩ := hr8
  cases hG
  refine Tm_suc (fun k => by rw [xE_13]) ?_
  refine Tm_some ⟨?_, (show upd (upd L 1 r8.1) 2 (opr (tkK T n s.1)) 1 = nI s7.2.2.2.2.1.1 from ?_), FrM_tr hF (FrM_tr hr6.1 (FrM_tr hF7 hF8))⟩
  · have e4 : (upd (upd (upd (upd (fun _ => (0 : Int32)) 1 16) 2 (opr (tkK T n s.1))) 3 r.1) 4 r7.1) 4 = nI s7.2.2.2.1 := by rw [upd_same]; exact hr71
    rw [e4] at hS8
    exact hS8
  · rw [upd_other (by decide), upd_same]; exact hr81
/-- not, - and #, ** : one more is open, the operand behind is read, a node is laid -/
theorem e_4 (H4 : S4 T n f) (H5 : S5 T n f) : S4 T n (f + 1) := by
  intro E o q v i e b x hG σ L d M P hS h1 hM hP hn hp hd _
  obtain ⟨d, rfl⟩ : ∃ d', d = d' + 1 := ⟨d - 1, by omega⟩
  rw [G_4] at hG
  have hq := PS_q hS
  have ho := PS_o hS
  refine Tm_suc (fun k => by rw [xE_7]) ?_
  refine Tm_ite (c := σ.1 10 = 0) (fun _ => ?_) (fun c => absurd (PS_ok hS) c)
  refine Tm_ob (p_word hS (s := 34) (by decide) rfl) (fun r2 hr2 => ?_)
  obtain ⟨u, τ⟩ := r2
  obtain ⟨rfl, hr2⟩ := hr2
  refine Tm_ite (fun c => ?_) (fun c => ?_)
  · rw [if_neg (fun z => hr2.mpr z c)] at hG
    refine Tm_suc (fun k => by rw [xE_7]) ?_
    show Tm (fun k => ob (x_GE k d 13 0 (fun _ => 0) τ) (fun r1 => some (r1.1, r1.2))) _
    refine Tm_ob (H5 _ _ _ _ _ _ _ _ hG τ _ d M P hS h1 hM hP (by omega) hp (by omega) trivial) (fun r hr => ?_)
    exact Tm_some (Po_tr FrM_rf (by omega) hr)
  have hK := hr2.mp c
  rw [if_pos hK] at hG
  have hu := tkN_b T n q hq.1
  have hu4 := hu.2.2.2 (by omega)
  -- behind the fault
  have bad : ∀ (ρ : MS) (m : Nat) (N : Nat → Int32), Bb m ρ → M ≤ m → m ≤ b.1 → FrM M P E.2.2.2.1 τ ρ → Tm (fun k => x_GE k (d + 1) 7 3 N ρ) (Po T n E o M P (b.1 + (n + 1 - q) + 3 * (d + 1 + 1)) τ none) := fun ρ m N hB hMm hmb hF => by
    refine Tm_suc (fun k => by rw [xE_7]) ?_
    show Tm (fun k => ob (x_GE k d 7 0 (fun _ => 0) ρ) _) _
    obtain ⟨d', hd'⟩ : ∃ d', d = d' + 5 := ⟨d - 5, by omega⟩
    refine Tm_ob (by rw [hd']; exact b_neg hB.1) (fun r7 hr7 => ?_)
    subst hr7
    refine Tm_suc (fun k => by rw [xE_7]) ?_
    refine Tm_ob (b_node (M := M) (P := P) (w := E.2.2.2.1) (Bb_opn hB (ρ.1 13 - 1)) (by omega) hMm _) (fun r8 hr8 => ?_)
    exact Tm_some ⟨⟨_, hr8.2.1, by omega, by omega⟩, ⟨_, hr8.1, by omega, Or.inr hMm⟩, FrM_tr hF (FrM_tr (FrM_opn _) hr8.2.2)⟩
  refine Tm_suc (fun k => by rw [xE_7]) ?_
  refine Tm_ob (p_open (M := M) (P := P) (w := E.2.2.2.1) hS _) (fun r1 hr1 => ?_)
  rcases gO_any hG with ⟨t0, rfl⟩ | ⟨t0, hG⟩
  · rcases hr1.2 with ⟨_, hB⟩ | ⟨z, _⟩
    · exact Tm_ite (fun c => absurd c hB.1) (fun _ => bad r1.2 _ _ hB hM (by omega) hr1.1)
    · omega
  rcases hr1.2 with ⟨z, _⟩ | ⟨ho2, hS1, _⟩
  · exact absurd z t0
  refine Tm_ite (fun _ => ?_) (fun c => absurd (PS_ok hS1) c)
  refine Tm_ob (p_take (M := M) (P := P) (w := E.2.2.2.1) hS1 _) (fun r3 hr3 => ?_)
  rcases gT_any hG with ⟨t1, rfl⟩ | ⟨t1, hG⟩
  · rcases hr3.2 with ⟨_, hB⟩ | ⟨z, _⟩
    · exact bad r3.2 _ _ hB hM (by omega) (FrM_tr hr1.1 hr3.1)
    · exact absurd t1 z
  rcases hr3.2 with ⟨z, _⟩ | ⟨_, hS3⟩
  · exact absurd z t1
  refine Tm_suc (fun k => by rw [xE_7]) ?_
  show Tm (fun k => ob (x_GE k d 7 0 (fun _ => 0) r3.2) _) _
  rcases gb_any hG with ⟨h7, rfl⟩ | ⟨s, h7, hG⟩
  · refine Tm_ob (H4 _ _ _ _ _ _ _ _ h7 r3.2 _ d M P hS3 h1 hM hP (by omega) (by omega) (by omega) trivial) (fun r7 hr7 => ?_)
    obtain ⟨⟨m1, hm, hmk, hMm⟩, ⟨e', he', he2, he3⟩, hF7⟩ := hr7
    refine Tm_suc (fun k => by rw [xE_7]) ?_
    refine Tm_ob (b_node (M := M) (P := P) (w := E.2.2.2.1) (Bb_opn hm (r7.2.1 13 - 1)) (by omega) hMm _) (fun r8 hr8 => ?_)
    exact Tm_some ⟨⟨_, hr8.2.1, by omega, by omega⟩, ⟨_, hr8.1, by omega, Or.inr hMm⟩, FrM_tr hr1.1 (FrM_tr hr3.1 (FrM_tr hF7 (FrM_tr (FrM_opn _) hr8.2.2)))⟩
  obtain ⟨⟨a1, a2, a3, a4, a5, a6, a7, a8⟩, a9⟩ := mo_of hu.2.1 (PS_v hS) h7 hM h1 trivial (fun h => h) (fun h => h)
  refine Tm_ob (H4 _ _ _ _ _ _ _ _ h7 r3.2 _ d M P hS3 h1 hM hP (by omega) (by omega) (by omega) trivial) (fun r7 hr7 => ?_)
  obtain ⟨hS7, hr71, hF7⟩ := hr7
  refine Tm_suc (fun k => by rw [xE_7]) ?_
  refine Tm_ob (p_node (M := M) (P := P) (w := E.2.2.2.1) (PS_clo hS7) (by omega) (by omega) _) (fun r8 hr8 => ?_)
  obtain ⟨hr81, hS8, hF8⟩ := hr8
  cases hG
  refine Tm_some ⟨?_, hr81, FrM_tr hr1.1 (FrM_tr hr3.1 (FrM_tr hF7 (FrM_tr (FrM_opn _) hF8)))⟩
  have e3 : (upd (upd (upd (upd (fun _ => (0 : Int32)) 1 19) 2 0) 3 (upd L 1 r7.1 1)) 4 0) 3 = nI s.2.2.2.1 := by rw [upd_other (by decide), upd_same, upd_same]; exact hr71
  rw [e3] at hS8
  exact hS8
end EXPS

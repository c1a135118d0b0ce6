/-! Brackets. -/
section BRK
variable {T : Nat → Int32} {n o M P d : Nat} {E : En}
theorem gLs_x {f q v g t : Nat} {b : BT} {x : Option RT}
    (hG : gb (G T n f 0 E o q v 0 0 0 0 b) (fun r =>
          if tkK T n r.1 = 16 then gT T n r.1 (fun q2 => gb (G T n f 0 E o q2 r.2.1 0 0 0 0 r.2.2.2.2.1) (fun s => gW T n t s.1 (fun q3 => some (some (q3, s.2.1, 0, s.2.2.2.2.1.1, bWrap s.2.2.2.2.1 12 (nI g) (nI r.2.2.2.1) (-1) (nI s.2.2.2.1), [])))))
          else gb (G T n f 15 E o r.1 r.2.1 r.2.2.2.1 r.2.2.2.1 1 g r.2.2.2.2.1) (fun s => gW T n t s.1 (fun q3 => some (some (q3, s.2.1, 0, s.2.2.2.1, s.2.2.2.2.1, []))))) = some x) :
    ∃ y, gLs T n f E o q v g b = some y ∧ (match y with | none => x = none | some s => gW T n t s.1 (fun q3 => some (some (q3, s.2.1, 0, s.2.2.2.1, s.2.2.2.2.1, []))) = some x) := by
  unfold gLs
  rcases gb_any hG with ⟨h7, hx⟩ | ⟨r, h7, hG⟩
  · rw [h7]; exact ⟨none, rfl, hx⟩
  rw [h7]
  show ∃ y, (if tkK T n r.1 = 16 then _ else _) = some y ∧ _
  by_cases c : tkK T n r.1 = 16
  · rw [if_pos c] at hG
    rw [if_pos c]
    rcases gT_any hG with ⟨t0, hx⟩ | ⟨t0, hG⟩
    · exact ⟨none, if_pos t0, hx⟩
    rcases gb_any hG with ⟨h9, hx⟩ | ⟨s, h9, hG⟩
    · refine ⟨none, ?_, hx⟩
      unfold gT; rw [if_neg t0]; dsimp only; rw [h9]; rfl
    · refine ⟨some (s.1, s.2.1, 0, s.2.2.2.2.1.1, bWrap s.2.2.2.2.1 12 (nI g) (nI r.2.2.2.1) (-1) (nI s.2.2.2.1), []), ?_, hG⟩
      unfold gT; rw [if_neg t0]; dsimp only; rw [h9]; rfl
  · rw [if_neg c] at hG
    rw [if_neg c]
    rcases gb_any hG with ⟨h9, hx⟩ | ⟨s, h9, hG⟩
    · exact ⟨none, h9, hx⟩
    · exact ⟨some s, h9, hG⟩
theorem gLs_mo {f q v g : Nat} {b : BT} {s : RT} (hq : q ≤ n) (hv : v ≤ 60) (hM : M ≤ b.1) (h1 : 1 ≤ M) (hG : gLs T n f E o q v g b = some (some s)) : Mo1 n b q v s ∧ M ≤ s.2.2.2.1 ∧ s.2.2.2.1 < s.2.2.2.2.1.1 := by
  unfold gLs at hG
  obtain ⟨r, h7, hG⟩ := gb_s hG
  obtain ⟨⟨a1, a2, a3, a4, a5, a6, a7, a8⟩, a9⟩ := mo_of (M := M) hq hv h7 hM h1 trivial (fun h => h) (fun h => h)
  by_cases c : tkK T n r.1 = 16
  · rw [if_pos c] at hG
    obtain ⟨t0, hG⟩ := gT_s hG
    obtain ⟨s', h9, hG⟩ := gb_s hG
    have hws := tkN_b T n r.1 a2
    have hws4 := hws.2.2.2 (by rw [c]; decide)
    obtain ⟨⟨f1, f2, f3, f4, f5, f6, f7, f8⟩, f9⟩ := mo_of (M := M) hws.2.1 (by omega) h9 (by omega) h1 trivial (fun h => h) (fun h => h)
    cases hG
    refine ⟨?_, ?_, ?_⟩
    · unfold Mo1; simp only [bWrap_1, bWrap_p]; omega
    · dsimp only; omega
    · simp only [bWrap_1]; omega
  · rw [if_neg c] at hG
    obtain ⟨x1, x2⟩ := g_mono T n f 15 _ _ _ _ _ _ _ _ _ s a2 (by omega) hG M (by omega) h1 (⟨a9.1, a9.2, a9.1, a9.2⟩ : M ≤ _ ∧ _ < _ ∧ M ≤ _ ∧ _ < _)
    obtain ⟨f1, f2, f3, f4, f5, f6, f7, f8⟩ := (x1 : Mo1 n _ _ _ s)
    exact ⟨by unfold Mo1; omega, x2⟩
theorem m_brackets {f q v : Nat} {b : BT} {x : Option RT} {σ : MS} {L : Nat → Int32} (H : ∀ f', f' ≤ f → S0 T n f') (H17 : S17 T n f)
    (hG : gO o (gT T n q (fun q1 =>
        if tkK T n q1 = tkK T n q + 1 then gT T n q1 (fun q2 => some (some (q2, v, 0, b.1, bNode b (if tkK T n q = 8 then 10 else 11) 0 (-1) 0, [])))
        else if tkK T n q1 = 45 then gT T n q1 (fun q2 => gb (G T n f 17 E (o + 1) q2 v 0 0 E.2.2.1.length 0 b) (fun r =>
          if tkK T n r.1 = 15 then gT T n r.1 (fun q3 => gb (G T n f 0 (seeN E r.2.2.2.2.2) (o + 1) q3 r.2.1 0 0 0 0 r.2.2.2.2.1) (fun s => gW T n 14 s.1 (fun q4 => gb (G T n f 0 (seeN E r.2.2.2.2.2) (o + 1) q4 s.2.1 0 0 0 0 s.2.2.2.2.1) (fun t => gW T n (tkK T n q + 1) t.1 (fun q5 => some (some (q5, t.2.1, 0, t.2.2.2.2.1.1, bWrap t.2.2.2.2.1 13 (if tkK T n q = 8 then 1 else 0) (hd r.2.2.2.1) (nI s.2.2.2.1) (nI t.2.2.2.1), [])))))))
          else gW T n 14 r.1 (fun q4 => gb (G T n f 0 (seeN E r.2.2.2.2.2) (o + 1) q4 r.2.1 0 0 0 0 r.2.2.2.2.1) (fun t => gW T n (tkK T n q + 1) t.1 (fun q5 => some (some (q5, t.2.1, 0, t.2.2.2.2.1.1, bWrap t.2.2.2.2.1 13 (if tkK T n q = 8 then 1 else 0) (hd r.2.2.2.1) (-1) (nI t.2.2.2.1), [])))))))
        else gb (G T n f 0 E (o + 1) q1 v 0 0 0 0 b) (fun r =>
          if tkK T n r.1 = 16 then gT T n r.1 (fun q2 => gb (G T n f 0 E (o + 1) q2 r.2.1 0 0 0 0 r.2.2.2.2.1) (fun s => gW T n (tkK T n q + 1) s.1 (fun q3 => some (some (q3, s.2.1, 0, s.2.2.2.2.1.1, bWrap s.2.2.2.2.1 12 (if tkK T n q = 8 then 1 else 0) (nI r.2.2.2.1) (-1) (nI s.2.2.2.1), [])))))
          else gb (G T n f 15 E (o + 1) r.1 r.2.1 r.2.2.2.1 r.2.2.2.1 1 (if tkK T n q = 8 then 1 else 0) r.2.2.2.2.1) (fun s => gW T n (tkK T n q + 1) s.1 (fun q3 => some (some (q3, s.2.1, 0, s.2.2.2.1, s.2.2.2.2.1, []))))))) = some x)
    (hK : tkK T n q = 8 ∨ tkK T n q = 10) (hS : PS T n E o q v b σ) (h1 : 1 ≤ M) (hM : M ≤ b.1) (hP : P ≤ b.2.1) (hn : b.1 + (n + 1 - q) + 3 * (d + 3) ≤ 70000) (hp : b.2.1 + (n - q) ≤ 70000) (hdd : 12 * (21 - o) + 2 ≤ d + 1) : Tm (fun k => x_GE k (d + 1) 0 0 L σ) (Po T n E o M P (b.1 + (n + 1 - q) + 3 * (d + 2)) σ x) := by
  have hq := PS_q hS
  have hv := PS_v hS
  have ho := PS_o hS
  have hu := tkN_b T n q hq.1
  have hu4 := hu.2.2.2 (by omega)
  have H0 := H f (Nat.le_refl _)
  -- set or tuple, the closing one
  obtain ⟨g, hg1, hgk, hgs⟩ : ∃ g : Nat, g ≤ 1 ∧ (g = 1 ↔ tkK T n q = 8) ∧ (if tkK T n q = 8 then (1 : Int32) else 0) = nI g := by
    by_cases c : tkK T n q = 8
    · exact ⟨1, by decide, ⟨fun _ => c, fun _ => rfl⟩, by rw [if_pos c]; rfl⟩
    · exact ⟨0, by decide, ⟨fun z => absurd z (by decide), fun z => absurd z c⟩, by rw [if_neg c]; rfl⟩
  have hgn : (if tkK T n q = 8 then 1 else 0) = g := by
    by_cases c : tkK T n q = 8
    · rw [if_pos c]; exact (hgk.mpr c).symm
    · rw [if_neg c]
      have : ¬ g = 1 := fun z => c (hgk.mp z)
      omega
  obtain ⟨t, ht⟩ : ∃ t, t = tkK T n q + 1 := ⟨_, rfl⟩
  have ht1 : 1 ≤ t ∧ t ≤ 24 := by omega
  rw [hgs, hgn, ← ht] at hG
  have hgs2 : (if tkK T n q = 8 then (10 : Int32) else 11) = (if g = 1 then 10 else 11) := by
    by_cases c : tkK T n q = 8
    · rw [if_pos c, if_pos (hgk.mpr c)]
    · rw [if_neg c, if_neg (fun z => c (hgk.mp z))]
  rw [hgs2] at hG
  -- the end
  have b12 : ∀ (ρ : MS) (m l : Nat) (N : Nat → Int32), N 3 = nI l → l < 70000 → (l = 0 ∨ M ≤ l) → Bb m ρ → M ≤ m → m ≤ b.1 + (n + 1 - q) + 3 * (d + 2) → FrM M P E.2.2.2.1 σ ρ → Tm (fun k => x_GE k (d + 1) 0 12 N ρ) (Po T n E o M P (b.1 + (n + 1 - q) + 3 * (d + 2)) σ none) := fun ρ m l N hN hl hMl hB hMm hm hF => by
    refine Tm_suc (fun k => by rw [xE_0]) ?_
    refine Tm_ob (b_want hB.1 _) (fun r1 hr1 => ?_)
    obtain ⟨u, τ⟩ := r1
    have hr1 : τ = ρ := hr1
    subst hr1
    refine Tm_suc (fun k => by rw [xE_0]) ?_
    exact Tm_some ⟨⟨m, Bb_opn hB _, hm, hMm⟩, ⟨l, hN, hl, hMl⟩, FrM_tr hF (FrM_opn _)⟩
  have g12 : ∀ (ρ : MS) (l q2 v2 : Nat) (bb : BT) (N : Nat → Int32), N 2 = nI t → N 3 = nI l → l < bb.1 → M ≤ l → PS T n E (o + 1) q2 v2 bb ρ → bb.1 + q ≤ b.1 + q2 + 1 → b.1 ≤ bb.1 → q < q2 → gW T n t q2 (fun q3 => some (some (q3, v2, 0, l, bb, []))) = some x → FrM M P E.2.2.2.1 σ ρ → Tm (fun k => x_GE k (d + 1) 0 12 N ρ) (Po T n E o M P (b.1 + (n + 1 - q) + 3 * (d + 2)) σ x) := fun ρ l q2 v2 bb N hN2 hN3 hl hMl hS2 z1 z2 hqq hG hF => by
    have hq2 := PS_q hS2
    refine Tm_suc (fun k => by rw [xE_0]) ?_
    refine Tm_ob (p_want (M := M) (P := P) (w := E.2.2.2.1) hS2 ht1.1 ht1.2 (by rw [upd_same]; exact hN2)) (fun r5 hr5 => ?_)
    refine Tm_suc (fun k => by rw [xE_0]) ?_
    rcases gW_any hG with ⟨t5, rfl⟩ | ⟨t5, hG⟩
    · rcases hr5.2 with ⟨_, hB⟩ | ⟨y, _⟩
      · exact Tm_some ⟨⟨_, Bb_opn hB _, by omega, by omega⟩, ⟨l, hN3, by omega, Or.inr hMl⟩, FrM_tr hF (FrM_tr hr5.1 (FrM_opn _))⟩
      · exact absurd y t5
    rcases hr5.2 with ⟨y, _⟩ | ⟨_, hS5⟩
    · exact absurd t5 y
    cases hG
    exact Tm_some ⟨PS_clo hS5, hN3, FrM_tr hF (FrM_tr hr5.1 (FrM_opn _))⟩
  -- a former from its : on, behind a fault
  have bw : ∀ (ρ : MS) (m : Nat) (N : Nat → Int32), Bb m ρ → M ≤ m → m + 1 ≤ b.1 + (n + 1 - q) + 3 * (d + 2) → FrM M P E.2.2.2.1 σ ρ → Tm (fun k => ob (x_wrapped k 0 (upd (upd (upd (upd (upd (fun _ => 0) 1 13) 2 (N 1)) 3 (N 5)) 4 (N 6)) 5 0) ρ) (fun r3 => x_GE k (d + 1) 0 12 (upd (upd N 7 0) 3 r3.1) (upd r3.2.1 38 (N 4), r3.2.2.1, r3.2.2.2))) (Po T n E o M P (b.1 + (n + 1 - q) + 3 * (d + 2)) σ none) := fun ρ m N hB hMm hm hF => by
    refine Tm_ob (b_wrapped (M := M) (P := P) (w := E.2.2.2.1) hB (by omega) hMm _) (fun r8 hr8 => ?_)
    exact b12 _ (m + 1) m _ (by rw [upd_same]; exact hr8.1) (by omega) (Or.inr hMm) (Bb_sn hr8.2.1 _) (by omega) hm (FrM_tr hF (FrM_tr hr8.2.2 (FrM_sn _)))
  have b10 : ∀ (ρ : MS) (m : Nat) (N : Nat → Int32), Bb m ρ → M ≤ m → m + 1 ≤ b.1 + (n + 1 - q) + 3 * (d + 2) → FrM M P E.2.2.2.1 σ ρ → Tm (fun k => x_GE k (d + 1) 0 10 N ρ) (Po T n E o M P (b.1 + (n + 1 - q) + 3 * (d + 2)) σ none) := fun ρ m N hB hMm hm hF => by
    refine Tm_suc (fun k => by rw [xE_0]) ?_
    refine Tm_ob (b_want hB.1 _) (fun r1 hr1 => ?_)
    obtain ⟨u, τ⟩ := r1
    have hr1 : τ = ρ := hr1
    subst hr1
    show Tm (fun k => ob (x_GE k d 3 0 (fun _ => 0) τ) _) _
    obtain ⟨d', hd'⟩ : ∃ d', d = d' + 7 := ⟨d - 7, by omega⟩
    refine Tm_ob (by rw [hd']; exact b_exp hB.1) (fun r7 hr7 => ?_)
    subst hr7
    exact bw τ m N hB hMm hm hF
  -- good: the exp behind :
  have g10 : ∀ (ρ : MS) (N : Nat → Int32) (ns : List Nm) (q2 v2 hl : Nat) (cd : Int32) (bb : BT), N 1 = nI g → N 2 = nI t → N 4 = nI E.2.1.length → N 5 = hd hl → N 6 = cd → PS T n (seeN E ns) (o + 1) q2 v2 bb ρ → q < q2 → b.1 ≤ bb.1 → bb.1 + q ≤ b.1 + q2 → b.2.1 ≤ bb.2.1 → bb.2.1 + q ≤ b.2.1 + q2 → FrM M P E.2.2.2.1 σ ρ →
      gW T n 14 q2 (fun q4 => gb (G T n f 0 (seeN E ns) (o + 1) q4 v2 0 0 0 0 bb) (fun s => gW T n t s.1 (fun q5 => some (some (q5, s.2.1, 0, s.2.2.2.2.1.1, bWrap s.2.2.2.2.1 13 (nI g) (hd hl) cd (nI s.2.2.2.1), []))))) = some x →
      Tm (fun k => x_GE k (d + 1) 0 10 N ρ) (Po T n E o M P (b.1 + (n + 1 - q) + 3 * (d + 2)) σ x) := fun ρ N ns q2 v2 hl cd bb n1 n2 n4 n5 n6 hS2 hqq z1 z2 z3 z4 hF hG => by
    have hq2 := PS_q hS2
    have hv2 := PS_v hS2
    have hu2 := tkN_b T n q2 hq2.1
    refine Tm_suc (fun k => by rw [xE_0]) ?_
    refine Tm_ob (p_want (M := M) (P := P) (w := E.2.2.2.1) hS2 (s := 14) (by decide) (by decide) rfl) (fun r5 hr5 => ?_)
    show Tm (fun k => ob (x_GE k d 3 0 (fun _ => 0) r5.2) _) _
    rcases gW_any hG with ⟨t5, rfl⟩ | ⟨t5, hG⟩
    · rcases hr5.2 with ⟨_, hB⟩ | ⟨y, _⟩
      · obtain ⟨d', hd'⟩ : ∃ d', d = d' + 7 := ⟨d - 7, by omega⟩
        refine Tm_ob (by rw [hd']; exact b_exp hB.1) (fun r7 hr7 => ?_)
        subst hr7
        exact bw r5.2 _ N hB (by omega) (by omega) (FrM_tr hF hr5.1)
      · exact absurd y t5
    rcases hr5.2 with ⟨y, _⟩ | ⟨_, hS5⟩
    · exact absurd t5 y
    have hu24 := hu2.2.2.2 (by rw [t5.1]; decide)
    rcases gb_any hG with ⟨h9, rfl⟩ | ⟨s9, h9, hG⟩
    · refine Tm_ob (H0 _ _ _ _ _ _ _ _ h9 r5.2 _ d M P hS5 h1 (by omega) (by omega) (by omega) (by omega) (by omega) trivial) (fun rx hrx => ?_)
      obtain ⟨⟨m1, hm, hmk, hMm⟩, _, hFx⟩ := hrx
      refine Tm_ob (b_wrapped (M := M) (P := P) (w := E.2.2.2.1) hm (by omega) hMm _) (fun r8 hr8 => ?_)
      exact b12 _ (m1 + 1) m1 _ (by rw [upd_same]; exact hr8.1) (by omega) (Or.inr hMm) (Bb_sn hr8.2.1 _) (by omega) (by omega) (FrM_tr hF (FrM_tr hr5.1 (FrM_tr hFx (FrM_tr hr8.2.2 (FrM_sn _)))))
    obtain ⟨⟨f1, f2, f3, f4, f5, f6, f7, f8⟩, f9⟩ := mo_of (M := M) hu2.2.1 hv2 h9 (by omega) h1 trivial (fun h => h) (fun h => h)
    refine Tm_ob (H0 _ _ _ _ _ _ _ _ h9 r5.2 _ d M P hS5 h1 (by omega) (by omega) (by omega) (by omega) (by omega) trivial) (fun rx hrx => ?_)
    obtain ⟨hSx, hrx1, hFx⟩ := hrx
    refine Tm_ob (p_wrapped (M := M) (P := P) (w := E.2.2.2.1) hSx (by omega) (by omega) _) (fun r8 hr8 => ?_)
    obtain ⟨hr81, hS8, hF8⟩ := hr8
    have w2 : (upd (upd (upd (upd (upd (fun _ => (0 : Int32)) 1 13) 2 (N 1)) 3 (N 5)) 4 (N 6)) 5 rx.1) 2 = nI g := by rw [upd_other (by decide), upd_other (by decide), upd_other (by decide), upd_same]; exact n1
    have w3 : (upd (upd (upd (upd (upd (fun _ => (0 : Int32)) 1 13) 2 (N 1)) 3 (N 5)) 4 (N 6)) 5 rx.1) 3 = hd hl := by rw [upd_other (by decide), upd_other (by decide), upd_same]; exact n5
    have w4 : (upd (upd (upd (upd (upd (fun _ => (0 : Int32)) 1 13) 2 (N 1)) 3 (N 5)) 4 (N 6)) 5 rx.1) 4 = cd := by rw [upd_other (by decide), upd_same]; exact n6
    have w5 : (upd (upd (upd (upd (upd (fun _ => (0 : Int32)) 1 13) 2 (N 1)) 3 (N 5)) 4 (N 6)) 5 rx.1) 5 = nI s9.2.2.2.1 := by rw [upd_same]; exact hrx1
    rw [w2, w3, w4, w5] at hS8
    rw [n4]
    exact g12 (upd r8.2.1 38 (nI E.2.1.length), r8.2.2.1, r8.2.2.2) s9.2.2.2.2.1.1 s9.1 s9.2.1 _ _ (by rw [upd_other (by decide), upd_other (by decide)]; exact n2) (by rw [upd_same]; exact hr81) (by rw [bWrap_1]; omega) (by omega) (PS_sn hS8) (by rw [bWrap_1]; omega) (by rw [bWrap_1]; omega) (by omega) hG (FrM_tr hF (FrM_tr hr5.1 (FrM_tr hFx (FrM_tr hF8 (FrM_sn _)))))
  -- behind the opening one
  have five : ∀ N : Nat → Int32, N 1 = nI g → N 2 = nI t → ∀ ρ : MS, ¬ o = 20 → ¬ tkK T n (tkN T n q) = 0 → PS T n E (o + 1) (tkN T n q) v b ρ → FrM M P E.2.2.2.1 σ ρ →
      (if tkK T n (tkN T n q) = t then gT T n (tkN T n q) (fun q2 => some (some (q2, v, 0, b.1, bNode b (if g = 1 then 10 else 11) 0 (-1) 0, [])))
        else if tkK T n (tkN T n q) = 45 then gT T n (tkN T n q) (fun q2 => gb (G T n f 17 E (o + 1) q2 v 0 0 E.2.2.1.length 0 b) (fun r =>
          if tkK T n r.1 = 15 then gT T n r.1 (fun q3 => gb (G T n f 0 (seeN E r.2.2.2.2.2) (o + 1) q3 r.2.1 0 0 0 0 r.2.2.2.2.1) (fun s => gW T n 14 s.1 (fun q4 => gb (G T n f 0 (seeN E r.2.2.2.2.2) (o + 1) q4 s.2.1 0 0 0 0 s.2.2.2.2.1) (fun u => gW T n t u.1 (fun q5 => some (some (q5, u.2.1, 0, u.2.2.2.2.1.1, bWrap u.2.2.2.2.1 13 (nI g) (hd r.2.2.2.1) (nI s.2.2.2.1) (nI u.2.2.2.1), [])))))))
          else gW T n 14 r.1 (fun q4 => gb (G T n f 0 (seeN E r.2.2.2.2.2) (o + 1) q4 r.2.1 0 0 0 0 r.2.2.2.2.1) (fun u => gW T n t u.1 (fun q5 => some (some (q5, u.2.1, 0, u.2.2.2.2.1.1, bWrap u.2.2.2.2.1 13 (nI g) (hd r.2.2.2.1) (-1) (nI u.2.2.2.1), [])))))))
        else gb (G T n f 0 E (o + 1) (tkN T n q) v 0 0 0 0 b) (fun r =>
          if tkK T n r.1 = 16 then gT T n r.1 (fun q2 => gb (G T n f 0 E (o + 1) q2 r.2.1 0 0 0 0 r.2.2.2.2.1) (fun s => gW T n t s.1 (fun q3 => some (some (q3, s.2.1, 0, s.2.2.2.2.1.1, bWrap s.2.2.2.2.1 12 (nI g) (nI r.2.2.2.1) (-1) (nI s.2.2.2.1), [])))))
          else gb (G T n f 15 E (o + 1) r.1 r.2.1 r.2.2.2.1 r.2.2.2.1 1 g r.2.2.2.2.1) (fun s => gW T n t s.1 (fun q3 => some (some (q3, s.2.1, 0, s.2.2.2.1, s.2.2.2.2.1, [])))))) = some x →
      Tm (fun k => x_GE k (d + 1) 0 5 N ρ) (Po T n E o M P (b.1 + (n + 1 - q) + 3 * (d + 2)) σ x) := fun N n1 n2 ρ o0 t0 hS1 hF hG => by
    have hw := tkN_b T n (tkN T n q) hu.2.1
    refine Tm_suc (fun k => by rw [xE_0]) ?_
    refine Tm_ite (c := ρ.1 10 = 0) (fun _ => ?_) (fun z => absurd (PS_ok hS1) z)
    have n1 : upd N 3 0 1 = nI g := by rw [upd_other (by decide)]; exact n1
    have n2 : upd N 3 0 2 = nI t := by rw [upd_other (by decide)]; exact n2
    generalize upd N 3 0 = N at n1 n2
    refine Tm_suc (fun k => by rw [xE_0]) ?_
    refine Tm_ob (p_sign hS1 ht1.1 ht1.2 (by rw [upd_same]; exact n2)) (fun r1 hr1 => ?_)
    obtain ⟨u, τ⟩ := r1
    obtain ⟨h3, hr1⟩ := hr1
    have h3 : τ = ρ := h3
    subst h3
    refine Tm_ite (fun z => ?_) (fun z => ?_)
    · rw [if_neg (fun y => hr1.mpr y z)] at hG
      refine Tm_suc (fun k => by rw [xE_0]) ?_
      refine Tm_ob (p_word hS1 (s := 13) (by decide) rfl) (fun r2 hr2 => ?_)
      obtain ⟨u, τ'⟩ := r2
      obtain ⟨h3, hr2⟩ := hr2
      have h3 : τ' = τ := h3
      subst h3
      refine Tm_ite (fun z => ?_) (fun z => ?_)
      · -- members
        rw [if_neg (fun y => hr2.mpr y z)] at hG
        obtain ⟨y, hGl, hy⟩ := gLs_x hG
        refine Tm_suc (fun k => by rw [xE_0]) ?_
        show Tm (fun k => ob (x_GE k d 5 0 (upd (fun _ => 0) 1 (N 1)) τ') _) _
        obtain ⟨d', rfl⟩ : ∃ d', d = d' + 1 := ⟨d - 1, by omega⟩
        cases y with
        | none =>
          have hx : x = none := hy
          subst hx
          refine Tm_ob (m_listed (M := M) (P := P) (d := d') H hGl hS1 h1 hM hP (by omega) (by omega) (by omega) hg1 (by rw [upd_same]; exact n1)) (fun r7 hr7 => ?_)
          obtain ⟨⟨m1, hm, hmk, hMm⟩, ⟨l, hl1, hl2, hl3⟩, hFx⟩ := hr7
          exact b12 r7.2 m1 l _ (by rw [upd_same]; exact hl1) hl2 hl3 hm hMm (by omega) (FrM_tr hF hFx)
        | some s =>
          obtain ⟨⟨a1, a2, a3, a4, a5, a6, a7, a8⟩, a9⟩ := gLs_mo (M := M) hu.2.1 hv hM h1 hGl
          refine Tm_ob (m_listed (M := M) (P := P) (d := d') H hGl hS1 h1 hM hP (by omega) (by omega) (by omega) hg1 (by rw [upd_same]; exact n1)) (fun r7 hr7 => ?_)
          obtain ⟨hS7, hr71, hF7⟩ := hr7
          exact g12 r7.2 s.2.2.2.1 s.1 s.2.1 _ _ (by rw [upd_other (by decide)]; exact n2) (by rw [upd_same]; exact hr71) a9.2 a9.1 hS7 (by omega) (by omega) (by omega) hy (FrM_tr hF hF7)
      · -- a former
        have hK45 := hr2.mp z
        rw [if_pos hK45] at hG
        have hw4 := hw.2.2.2 (by rw [hK45]; decide)
        refine Tm_ob (p_take (M := M) (P := P) (w := E.2.2.2.1) hS1 _) (fun r3 hr3 => ?_)
        have hF3 := FrM_tr hF hr3.1
        show Tm (fun k => ob (x_GE k d 4 0 (upd (fun _ => 0) 1 0) r3.2) _) _
        rcases gT_any hG with ⟨t3, rfl⟩ | ⟨t3, hG⟩
        · rcases hr3.2 with ⟨_, hB⟩ | ⟨y, _⟩
          · refine Tm_ob (b_iters hB.1) (fun r4 hr4 => ?_)
            obtain ⟨hr4, _⟩ := hr4
            have hB4 : Bb b.1 r4.2 := ⟨by rw [hr4]; show ¬ upd r3.2.1 52 (r3.2.1 52) 10 = 0; rw [upd_other (by decide)]; exact hB.1, by rw [hr4]; show upd r3.2.1 52 (r3.2.1 52) 22 = _; rw [upd_other (by decide)]; exact hB.2⟩
            refine Tm_ite (c := r4.2.1 10 = 0) (fun z => absurd z hB4.1) (fun _ => ?_)
            exact b10 r4.2 b.1 _ hB4 hM (by omega) (FrM_tr hF3 (by rw [hr4]; exact FrM_sc (fun j hj => upd_other (by omega))))
          · exact absurd t3 y
        rcases hr3.2 with ⟨y, _⟩ | ⟨_, hS3⟩
        · exact absurd y t3
        have h38 : r3.2.1 38 = nI E.2.1.length := hS3.2.2.2.2.1.1.1
        rw [h38]
        rcases gb_any hG with ⟨h7, rfl⟩ | ⟨s, h7, hG⟩
        · refine Tm_ob (m_iters (M := M) (P := P) H17 h7 hS3 h1 hM hP (by omega) (by omega) (by omega) (by decide) rfl) (fun r4 hr4 => ?_)
          obtain ⟨⟨m, k1, k2, k3⟩, k4⟩ := hr4
          refine Tm_ite (c := r4.2.1 10 = 0) (fun z => absurd z k1.1) (fun _ => ?_)
          exact b10 r4.2 m _ k1 k3 (by omega) (FrM_tr hF3 k4)
        obtain ⟨x1, x2⟩ := g_mono T n f 17 _ _ _ _ _ _ _ _ _ s hw.2.1 hv h7 M hM h1 (Or.inl rfl)
        obtain ⟨a1, a2, a3, a4, a5, a6, a7, a8⟩ := (x1 : Mo n _ _ _ s)
        have a9 : M ≤ s.2.2.2.1 ∧ s.2.2.2.1 < s.2.2.2.2.1.1 := x2
        refine Tm_ob (m_iters (M := M) (P := P) H17 h7 hS3 h1 hM hP (by omega) (by omega) (by omega) (by decide) rfl) (fun r4 hr4 => ?_)
        obtain ⟨hS4, hr41, hF4⟩ := hr4
        have hv4 := PS_v hS4
        have hF4 : FrM M P E.2.2.2.1 σ r4.2 := FrM_tr hF3 hF4
        have hws := tkN_b T n s.1 a2
        refine Tm_ite (c := r4.2.1 10 = 0) (fun _ => ?_) (fun z => absurd (PS_ok hS4) z)
        refine Tm_ob (p_sign hS4 (s := 15) (by decide) (by decide) rfl) (fun r6 hr6 => ?_)
        obtain ⟨u, τ4⟩ := r6
        obtain ⟨h3, hr6⟩ := hr6
        have h3 : τ4 = r4.2 := h3
        subst h3
        refine Tm_ite (fun z => ?_) (fun z => ?_)
        · rw [if_neg (fun y => hr6.mpr y z)] at hG
          refine g10 r4.2 _ s.2.2.2.2.2 s.1 s.2.1 s.2.2.2.1 (-1) s.2.2.2.2.1 ?_ ?_ ?_ ?_ ?_ hS4 (by omega) (by omega) (by omega) (by omega) (by omega) hF4 hG
          · rw [upd_other (by decide), upd_other (by decide), upd_other (by decide)]; exact n1
          · rw [upd_other (by decide), upd_other (by decide), upd_other (by decide)]; exact n2
          · rw [upd_other (by decide), upd_other (by decide), upd_same]
          · rw [upd_other (by decide), upd_same, hr41, hd_pos (by omega)]
          · rw [upd_same]
        have hK15 := hr6.mp z
        rw [if_pos hK15] at hG
        have hws4 := hws.2.2.2 (by rw [hK15]; decide)
        refine Tm_ob (p_take (M := M) (P := P) (w := E.2.2.2.1) hS4 _) (fun r8 hr8 => ?_)
        have hF8 := FrM_tr hF4 hr8.1
        show Tm (fun k => ob (x_GE k d 3 0 (fun _ => 0) r8.2) _) _
        rcases gT_any hG with ⟨t8, rfl⟩ | ⟨t8, hG⟩
        · rcases hr8.2 with ⟨_, hB⟩ | ⟨y, _⟩
          · obtain ⟨d', hd'⟩ : ∃ d', d = d' + 7 := ⟨d - 7, by omega⟩
            refine Tm_ob (by rw [hd']; exact b_exp hB.1) (fun r7 hr7 => ?_)
            subst hr7
            exact b10 r8.2 _ _ hB (by omega) (by omega) hF8
          · exact absurd t8 y
        rcases hr8.2 with ⟨y, _⟩ | ⟨_, hS8⟩
        · exact absurd y t8
        rcases gb_any hG with ⟨h9, rfl⟩ | ⟨s9, h9, hG⟩
        · refine Tm_ob (H0 _ _ _ _ _ _ _ _ h9 r8.2 _ d M P hS8 h1 (by omega) (by omega) (by omega) (by omega) (by omega) trivial) (fun rx hrx => ?_)
          obtain ⟨⟨m1, hm, hmk, hMm⟩, _, hFx⟩ := hrx
          exact b10 rx.2 m1 _ hm hMm (by omega) (FrM_tr hF8 hFx)
        obtain ⟨⟨f1, f2, f3, f4, f5, f6, f7, f8⟩, f9⟩ := mo_of (M := M) hws.2.1 hv4 h9 (by omega) h1 trivial (fun h => h) (fun h => h)
        refine Tm_ob (H0 _ _ _ _ _ _ _ _ h9 r8.2 _ d M P hS8 h1 (by omega) (by omega) (by omega) (by omega) (by omega) trivial) (fun rx hrx => ?_)
        obtain ⟨hSx, hrx1, hFx⟩ := hrx
        refine g10 rx.2 _ s.2.2.2.2.2 s9.1 s9.2.1 s.2.2.2.1 (nI s9.2.2.2.1) s9.2.2.2.2.1 ?_ ?_ ?_ ?_ ?_ hSx (by omega) (by omega) (by omega) (by omega) (by omega) (FrM_tr hF8 hFx) hG
        · rw [upd_other (by decide), upd_other (by decide), upd_other (by decide)]; exact n1
        · rw [upd_other (by decide), upd_other (by decide), upd_other (by decide)]; exact n2
        · rw [upd_other (by decide), upd_other (by decide), upd_same]
        · rw [upd_other (by decide), upd_same, hr41, hd_pos (by omega)]
        · rw [upd_same]; exact hrx1
    · -- empty
      have hKt := hr1.mp z
      rw [if_pos hKt] at hG
      have hw4 := hw.2.2.2 (by omega)
      have last : ∀ N' : Nat → Int32, N' 100 = (if g = 1 then 10 else 11) → N' 2 = nI t → Tm (fun k => x_GE k (d + 1) 0 8 N' τ) (Po T n E o M P (b.1 + (n + 1 - q) + 3 * (d + 2)) σ x) := fun N' j1 j2 => by
        refine Tm_suc (fun k => by rw [xE_0]) ?_
        refine Tm_ob (p_node (M := M) (P := P) (w := E.2.2.2.1) hS1 (by omega) hM _) (fun r8 hr8 => ?_)
        obtain ⟨hr81, hS8, hF8⟩ := hr8
        have w1 : (upd (upd (upd (upd (fun _ => (0 : Int32)) 1 (N' 100)) 2 0) 3 (-1)) 4 0) 1 = (if g = 1 then 10 else 11) := by rw [upd_other (by decide), upd_other (by decide), upd_other (by decide), upd_same]; exact j1
        rw [w1] at hS8
        refine g12 r8.2 b.1 (tkN T n q) v _ _ (by rw [upd_other (by decide)]; exact j2) (by rw [upd_same]; exact hr81) (by rw [bNode_1]; omega) hM hS8 (by rw [bNode_1]; omega) (by rw [bNode_1]; omega) hu4 ?_ (FrM_tr hF hF8)
        unfold gW
        rw [if_pos hKt]
        exact hG
      refine Tm_ite (c := N 1 = 1) (fun y => ?_) (fun y => ?_)
      · rw [n1] at y
        have y : nI g = nI 1 := y
        rw [n_eq (by omega) (by omega)] at y
        exact last _ (by rw [upd_same, if_pos y]) (by rw [upd_other (by decide)]; exact n2)
      · rw [n1] at y
        have y : ¬ nI g = nI 1 := y
        rw [n_eq (by omega) (by omega)] at y
        refine Tm_suc (fun k => by rw [xE_0]) ?_
        exact last _ (by rw [upd_same, if_neg y]) (by rw [upd_other (by decide)]; exact n2)
  have b5 : ∀ (ρ : MS) (N : Nat → Int32), Bb b.1 ρ → FrM M P E.2.2.2.1 σ ρ → Tm (fun k => x_GE k (d + 1) 0 5 N ρ) (Po T n E o M P (b.1 + (n + 1 - q) + 3 * (d + 2)) σ none) := fun ρ N hB hF => by
    refine Tm_suc (fun k => by rw [xE_0]) ?_
    exact Tm_ite (c := ρ.1 10 = 0) (fun z => absurd z hB.1) (fun _ => Tm_some ⟨⟨_, hB, by omega, hM⟩, ⟨0, rfl, by decide, Or.inl rfl⟩, hF⟩)
  have four : ∀ N : Nat → Int32, N 1 = nI g → N 100 = nI t → Tm (fun k => x_GE k (d + 1) 0 4 N σ) (Po T n E o M P (b.1 + (n + 1 - q) + 3 * (d + 2)) σ x) := fun N n1 n100 => by
    refine Tm_suc (fun k => by rw [xE_0]) ?_
    refine Tm_ob (p_open (M := M) (P := P) (w := E.2.2.2.1) hS _) (fun r1 hr1 => ?_)
    rcases gO_any hG with ⟨o0, rfl⟩ | ⟨o0, hG⟩
    · rcases hr1.2 with ⟨_, hB⟩ | ⟨y, _⟩
      · exact Tm_ite (c := r1.2.1 10 = 0) (fun c => absurd c hB.1) (fun _ => b5 r1.2 _ hB hr1.1)
      · omega
    rcases hr1.2 with ⟨y, _⟩ | ⟨ho2, hS1, h13⟩
    · exact absurd y o0
    refine Tm_ite (c := r1.2.1 10 = 0) (fun _ => ?_) (fun c => absurd (PS_ok hS1) c)
    refine Tm_ob (p_take (M := M) (P := P) (w := E.2.2.2.1) hS1 _) (fun r3 hr3 => ?_)
    rcases gT_any hG with ⟨t3, rfl⟩ | ⟨t3, hG⟩
    · rcases hr3.2 with ⟨_, hB⟩ | ⟨y, _⟩
      · exact b5 r3.2 _ hB (FrM_tr hr1.1 hr3.1)
      · exact absurd t3 y
    rcases hr3.2 with ⟨y, _⟩ | ⟨_, hS3⟩
    · exact absurd y t3
    exact five _ (by rw [upd_other (by decide)]; exact n1) (by rw [upd_same]; exact n100) r3.2 o0 t3 hS3 (FrM_tr hr1.1 hr3.1) hG
  have two : ∀ N : Nat → Int32, N 100 = nI g → Tm (fun k => x_GE k (d + 1) 0 2 N σ) (Po T n E o M P (b.1 + (n + 1 - q) + 3 * (d + 2)) σ x) := fun N n100 => by
    refine Tm_suc (fun k => by rw [xE_0]) ?_
    refine Tm_ite (c := N 100 = 1) (fun y => ?_) (fun y => ?_)
    · rw [n100] at y
      have y : nI g = nI 1 := y
      rw [n_eq (by omega) (by omega)] at y
      have := hgk.mp y
      exact four _ (by rw [upd_other (by decide), upd_same]; exact n100) (by rw [upd_same, show t = 9 by omega]; rfl)
    · rw [n100] at y
      have y : ¬ nI g = nI 1 := y
      rw [n_eq (by omega) (by omega)] at y
      have : ¬ tkK T n q = 8 := fun z => y (hgk.mpr z)
      refine Tm_suc (fun k => by rw [xE_0]) ?_
      exact four _ (by rw [upd_other (by decide), upd_same]; exact n100) (by rw [upd_same, show t = 11 by omega]; rfl)
  refine Tm_suc (fun k => by rw [xE_0]) ?_
  refine Tm_ob (p_sign hS (s := 8) (by decide) (by decide) rfl) (fun r0 hr0 => ?_)
  obtain ⟨u, τ⟩ := r0
  obtain ⟨h3, hr0⟩ := hr0
  have h3 : τ = σ := h3
  subst h3
  refine Tm_ite (fun z => ?_) (fun z => ?_)
  · refine Tm_suc (fun k => by rw [xE_0]) ?_
    exact two _ (by rw [upd_same, show g = 0 by have : ¬ g = 1 := fun y => hr0.mpr (hgk.mp y) z; omega]; rfl)
  · exact two _ (by rw [upd_same, hgk.mpr (hr0.mp z)]; rfl)
end BRK

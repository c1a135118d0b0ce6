/-! Primaries. -/
theorem str_len {T : Nat → Int32} {n q : Nat} (hq : q ≤ n) (h : tkK T n q = 28) : q + 2 ≤ tkE T n q := by
  have hk : (tokM 0 T n q).1 = 3 := by
    rcases tk_cases T n q hq with ⟨_, a, b⟩ | ⟨_, ⟨a, b⟩ | ⟨a, b⟩ | ⟨a, b⟩ | ⟨a, b1, b2, b3⟩ | ⟨a, b1, b2, b3⟩ | ⟨a, b⟩⟩
    · omega
    · omega
    · omega
    · exact a
    · omega
    · omega
    · omega
  unfold tkE
  unfold tokM at hk ⊢
  by_cases c : q = n
  · rw [if_pos c] at hk; exact absurd (show (0 : Int32) = 3 from hk) (by decide)
  rw [if_neg c] at hk ⊢
  by_cases c1 : isL (rB T n q)
  · rw [if_pos c1] at hk
    dsimp only at hk
    by_cases d1 : nameE T n (n + 1) q - q ≤ 16
    · rw [if_pos d1] at hk
      by_cases d2 : wordI (seg T q (nameE T n (n + 1) q)) = -1
      · rw [if_pos d2] at hk; exact absurd hk (by decide)
      · rw [if_neg d2] at hk; exact absurd hk (by decide)
    · rw [if_neg d1] at hk; exact absurd hk (by decide)
  rw [if_neg c1] at hk ⊢
  by_cases c2 : isD (rB T n q)
  · rw [if_pos c2] at hk
    dsimp only at hk
    by_cases d1 : digE T n (n + 1) q - q ≤ 60
    · rw [if_pos d1] at hk; exact absurd hk (by decide)
    · rw [if_neg d1] at hk; exact absurd hk (by decide)
  rw [if_neg c2] at hk ⊢
  by_cases c3 : rB T n q = 34
  · rw [if_pos c3] at hk ⊢
    dsimp only at hk ⊢
    by_cases d1 : (strE T n (n + 1) (q + 1) < n ∧ T (strE T n (n + 1) (q + 1)) = 34) ∧ strE T n (n + 1) (q + 1) - q - 1 ≤ 100
    · rw [if_pos d1.1]
      have := strE_ge T n (n + 1) (q + 1)
      omega
    · rw [if_neg d1] at hk; exact absurd hk (by decide)
  rw [if_neg c3] at hk
  dsimp only at hk
  by_cases d1 : signF (rB T n q) (rB T n (q + 1)) = 0
  · rw [if_pos d1] at hk; exact absurd hk (by decide)
  · rw [if_neg d1] at hk; exact absurd hk (by decide)
section PRIM
variable {T : Nat → Int32} {n o M P d : Nat} {E : En}
/-- a node, then the next token -/
theorem p_named {q v k0 : Nat} {b : BT} {x : Option RT} {σ : MS} {L : Nat → Int32} {kd : Int32} (hG : gT T n q (fun q1 => some (some (q1, v, 0, b.1, bNode b kd 0 0 0, []))) = some x) (hS : PS T n E o q v b σ) (hM : M ≤ b.1) (hm : b.1 + 1 < 70000) (hk : b.1 + 1 ≤ k0) (hL : L 1 = kd) : Tm (fun k => x_named k 0 L σ) (Po T n E o M P k0 σ x) := by
  refine Tm_suc (fun k => by rw [x_named]) ?_
  refine Tm_ob (p_node (M := M) (P := P) (w := E.2.2.2.1) hS (by omega) hM _) (fun r8 hr8 => ?_)
  obtain ⟨hr81, hS8, hF8⟩ := hr8
  have w1 : (upd (upd (upd (upd (fun _ => (0 : Int32)) 1 (L 1)) 2 0) 3 0) 4 0) 1 = kd := by rw [upd_other (by decide), upd_other (by decide), upd_other (by decide), upd_same]; exact hL
  rw [w1] at hS8
  refine Tm_ob (p_take (M := M) (P := P) (w := E.2.2.2.1) hS8 _) (fun r9 hr9 => ?_)
  rcases gT_any hG with ⟨t9, rfl⟩ | ⟨t9, hG⟩
  · rcases hr9.2 with ⟨_, hB⟩ | ⟨z, _⟩
    · exact Tm_some ⟨⟨_, hB, by rw [bNode_1]; omega, by rw [bNode_1]; omega⟩, ⟨b.1, hr81, by omega, Or.inr hM⟩, FrM_tr hF8 hr9.1⟩
    · exact absurd t9 z
  · rcases hr9.2 with ⟨z, _⟩ | ⟨_, hS9⟩
    · exact absurd z t9
    cases hG
    exact Tm_some ⟨hS9, hr81, FrM_tr hF8 hr9.1⟩
/-- a word and its ( exp ) -/
theorem m_fn {f q v w : Nat} {b : BT} {x : Option RT} {σ : MS} {L : Nat → Int32} (H0 : S0 T n f)
    (hG : gT T n q (fun q1 => if tkK T n q1 = 6 then gO o (gT T n q1 (fun q2 => gb (G T n f 0 E (o + 1) q2 v 0 0 0 0 b) (fun r => gW T n 7 r.1 (fun q3 => some (some (q3, r.2.1, 0, r.2.2.2.2.1.1, bNode r.2.2.2.2.1 9 (nI w) (nI r.2.2.2.1) 0, [])))))) else some none) = some x)
    (hK : ¬ tkK T n q = 25) (hS : PS T n E o q v b σ) (h1 : 1 ≤ M) (hM : M ≤ b.1) (hP : P ≤ b.2.1) (hn : b.1 + (n + 1 - q) + 3 * (d + 3) ≤ 70000) (hp : b.2.1 + (n - q) ≤ 70000) (hdd : 12 * (21 - o) + 1 ≤ d + 1) (hL : L 1 = nI w) : Tm (fun k => x_GE k (d + 1) 16 14 L σ) (Po T n E o M P (b.1 + (n + 1 - q) + 3 * (d + 2)) σ x) := by
  have hq := PS_q hS
  have hv := PS_v hS
  have ho := PS_o hS
  have hu := tkN_b T n q hq.1
  have hu4 := hu.2.2.2 hK
  have b18 : ∀ (ρ : MS) (m : Nat) (N : Nat → Int32), Bb m ρ → M ≤ m → m + 1 ≤ b.1 + (n + 1 - q) + 3 * (d + 2) → FrM M P E.2.2.2.1 σ ρ → Tm (fun k => x_GE k (d + 1) 16 18 N ρ) (Po T n E o M P (b.1 + (n + 1 - q) + 3 * (d + 2)) σ none) := fun ρ m N hB hMm hm hF => by
    refine Tm_suc (fun k => by rw [xE_16]) ?_
    refine Tm_ob (b_node (M := M) (P := P) (w := E.2.2.2.1) hB (by omega) hMm _) (fun r8 hr8 => ?_)
    exact Tm_some ⟨⟨_, hr8.2.1, hm, by omega⟩, ⟨_, hr8.1, by omega, Or.inr hMm⟩, FrM_tr hF hr8.2.2⟩
  have b17 : ∀ (ρ : MS) (m : Nat) (N : Nat → Int32), Bb m ρ → M ≤ m → m + 1 ≤ b.1 + (n + 1 - q) + 3 * (d + 2) → FrM M P E.2.2.2.1 σ ρ → Tm (fun k => x_GE k (d + 1) 16 17 N ρ) (Po T n E o M P (b.1 + (n + 1 - q) + 3 * (d + 2)) σ none) := fun ρ m N hB hMm hm hF => by
    refine Tm_suc (fun k => by rw [xE_16]) ?_
    show Tm (fun k => ob (x_GE k d 3 0 (fun _ => 0) ρ) _) _
    obtain ⟨d', hd'⟩ : ∃ d', d = d' + 7 := ⟨d - 7, by omega⟩
    refine Tm_ob (P := fun r => r = (0, ρ)) (by rw [hd']; exact b_exp hB.1) (fun r7 hr7 => ?_)
    subst hr7
    refine Tm_ob (b_want hB.1 _) (fun r1 hr1 => ?_)
    obtain ⟨u, τ⟩ := r1
    have hr1 : τ = ρ := hr1
    subst hr1
    exact b18 (mOpn τ (τ.1 13 - 1)) m _ (Bb_opn hB _) hMm hm (FrM_tr hF (FrM_opn _))
  have b16 : ∀ (ρ : MS) (m : Nat) (N : Nat → Int32), Bb m ρ → M ≤ m → m + 1 ≤ b.1 + (n + 1 - q) + 3 * (d + 2) → FrM M P E.2.2.2.1 σ ρ → Tm (fun k => x_GE k (d + 1) 16 16 N ρ) (Po T n E o M P (b.1 + (n + 1 - q) + 3 * (d + 2)) σ none) := fun ρ m N hB hMm hm hF => by
    refine Tm_suc (fun k => by rw [xE_16]) ?_
    exact Tm_ite (c := ρ.1 10 = 0) (fun z => absurd z hB.1) (fun _ => b17 ρ m N hB hMm hm hF)
  have b15 : ∀ (ρ : MS) (m : Nat) (N : Nat → Int32), Bb m ρ → M ≤ m → m + 1 ≤ b.1 + (n + 1 - q) + 3 * (d + 2) → FrM M P E.2.2.2.1 σ ρ → Tm (fun k => x_GE k (d + 1) 16 15 N ρ) (Po T n E o M P (b.1 + (n + 1 - q) + 3 * (d + 2)) σ none) := fun ρ m N hB hMm hm hF => by
    refine Tm_suc (fun k => by rw [xE_16]) ?_
    exact Tm_ite (c := ρ.1 10 = 0) (fun z => absurd z hB.1) (fun _ => b16 ρ m N hB hMm hm hF)
  refine Tm_suc (fun k => by rw [xE_16]) ?_
  refine Tm_ob (p_take (M := M) (P := P) (w := E.2.2.2.1) hS _) (fun r1 hr1 => ?_)
  rcases gT_any hG with ⟨t1, rfl⟩ | ⟨t1, hG⟩
  · rcases hr1.2 with ⟨_, hB⟩ | ⟨z, _⟩
    · exact Tm_ite (c := r1.2.1 10 = 0) (fun z => absurd z hB.1) (fun _ => b15 r1.2 _ _ hB hM (by omega) hr1.1)
    · exact absurd t1 z
  rcases hr1.2 with ⟨z, _⟩ | ⟨_, hS1⟩
  · exact absurd z t1
  have hw := tkN_b T n (tkN T n q) hu.2.1
  refine Tm_ite (c := r1.2.1 10 = 0) (fun _ => ?_) (fun c => absurd (PS_ok hS1) c)
  refine Tm_ob (p_sign hS1 (s := 6) (by decide) (by decide) rfl) (fun r3 hr3 => ?_)
  obtain ⟨u, τ⟩ := r3
  obtain ⟨h3, hr3⟩ := hr3
  have h3 : τ = r1.2 := h3
  subst h3
  refine Tm_ite (fun z => ?_) (fun z => ?_)
  · rw [if_neg (fun y => hr3.mpr y z)] at hG
    have hx : x = none := (Option.some.inj hG).symm
    subst hx
    refine Tm_ob (p_cannot (M := M) (P := P) (w := E.2.2.2.1) hS1 _) (fun r5 hr5 => ?_)
    exact b15 r5.2 _ _ hr5.1 hM (by omega) (FrM_tr hr1.1 hr5.2)
  have hK6 := hr3.mp z
  rw [if_pos hK6] at hG
  have hw4 := hw.2.2.2 (by rw [hK6]; decide)
  refine Tm_suc (fun k => by rw [xE_16]) ?_
  refine Tm_ite (c := r1.2.1 10 = 0) (fun _ => ?_) (fun c => absurd (PS_ok hS1) c)
  refine Tm_ob (p_open (M := M) (P := P) (w := E.2.2.2.1) hS1 _) (fun r4 hr4 => ?_)
  have hF4 := FrM_tr hr1.1 hr4.1
  rcases gO_any hG with ⟨o0, rfl⟩ | ⟨o0, hG⟩
  · rcases hr4.2 with ⟨_, hB⟩ | ⟨y, _⟩
    · exact b16 r4.2 _ _ hB hM (by omega) hF4
    · omega
  rcases hr4.2 with ⟨y, _⟩ | ⟨ho2, hS4, _⟩
  · exact absurd y o0
  refine Tm_suc (fun k => by rw [xE_16]) ?_
  refine Tm_ite (c := r4.2.1 10 = 0) (fun _ => ?_) (fun c => absurd (PS_ok hS4) c)
  refine Tm_ob (p_take (M := M) (P := P) (w := E.2.2.2.1) hS4 _) (fun r5 hr5 => ?_)
  have hF5 := FrM_tr hF4 hr5.1
  rcases gT_any hG with ⟨t5, rfl⟩ | ⟨t5, hG⟩
  · rcases hr5.2 with ⟨_, hB⟩ | ⟨z, _⟩
    · exact b17 r5.2 _ _ hB hM (by omega) hF5
    · exact absurd t5 z
  rcases hr5.2 with ⟨z, _⟩ | ⟨_, hS5⟩
  · exact absurd z t5
  refine Tm_suc (fun k => by rw [xE_16]) ?_
  show Tm (fun k => ob (x_GE k d 3 0 (fun _ => 0) r5.2) _) _
  rcases gb_any hG with ⟨h7, rfl⟩ | ⟨s, h7, hG⟩
  · refine Tm_ob (H0 _ _ _ _ _ _ _ _ h7 r5.2 _ d M P hS5 h1 hM hP (by omega) (by omega) (by omega) trivial) (fun r7 hr7 => ?_)
    obtain ⟨⟨m1, hm, hmk, hMm⟩, _, hF7⟩ := hr7
    refine Tm_ob (b_want hm.1 _) (fun r8 hr8 => ?_)
    obtain ⟨u, τ⟩ := r8
    have hr8 : τ = r7.2 := hr8
    subst hr8
    exact b18 (mOpn r7.2 (r7.2.1 13 - 1)) m1 _ (Bb_opn hm _) hMm (by omega) (FrM_tr hF5 (FrM_tr hF7 (FrM_opn _)))
  obtain ⟨⟨a1, a2, a3, a4, a5, a6, a7, a8⟩, a9⟩ := mo_of (M := M) hw.2.1 hv h7 hM h1 trivial (fun h => h) (fun h => h)
  refine Tm_ob (H0 _ _ _ _ _ _ _ _ h7 r5.2 _ d M P hS5 h1 hM hP (by omega) (by omega) (by omega) trivial) (fun r7 hr7 => ?_)
  obtain ⟨hS7, hr71, hF7⟩ := hr7
  refine Tm_ob (p_want (M := M) (P := P) (w := E.2.2.2.1) hS7 (s := 7) (by decide) (by decide) rfl) (fun r8 hr8 => ?_)
  have hF8 := FrM_tr hF5 (FrM_tr hF7 (FrM_tr hr8.1 (FrM_opn (r8.2.1 13 - 1))))
  rcases gW_any hG with ⟨t8, rfl⟩ | ⟨t8, hG⟩
  · rcases hr8.2 with ⟨_, hB⟩ | ⟨z, _⟩
    · exact b18 (mOpn r8.2 (r8.2.1 13 - 1)) _ _ (Bb_opn hB _) (by omega) (by omega) hF8
    · exact absurd z t8
  rcases hr8.2 with ⟨z, _⟩ | ⟨_, hS8⟩
  · exact absurd t8 z
  refine Tm_suc (fun k => by rw [xE_16]) ?_
  refine Tm_ob (p_node (M := M) (P := P) (w := E.2.2.2.1) (PS_clo hS8) (by omega) (by omega) _) (fun r9 hr9 => ?_)
  obtain ⟨hr91, hS9, hF9⟩ := hr9
  cases hG
  refine Tm_some ⟨?_, hr91, FrM_tr hF8 hF9⟩
  have w2 : (upd (upd (upd (upd (fun _ => (0 : Int32)) 1 9) 2 (upd L 3 r7.1 1)) 3 (upd L 3 r7.1 3)) 4 0) 2 = nI w := by rw [upd_other (by decide), upd_other (by decide), upd_same, upd_other (by decide)]; exact hL
  have w3 : (upd (upd (upd (upd (fun _ => (0 : Int32)) 1 9) 2 (upd L 3 r7.1 1)) 3 (upd L 3 r7.1 3)) 4 0) 3 = nI s.2.2.2.1 := by rw [upd_other (by decide), upd_same, upd_same]; exact hr71
  rw [w2, w3] at hS9
  exact hS9
end PRIM

/-! Statements: they go on, and lay no more than there are bytes. -/
theorem hb_s {x : SR} {k : ST → SR} {r : ST} (h : hb x k = some (some r)) : ∃ s, x = some (some s) ∧ k s = some (some r) := by
  rcases hb_any h with ⟨_, h2⟩ | h
  · cases h2
  · exact h
theorem lb_s {x : RG} {k : RT → SR} {r : ST} (h : lb x k = some (some r)) : ∃ s, x = some (some s) ∧ k s = some (some r) := by
  rcases lb_any h with ⟨_, h2⟩ | h
  · cases h2
  · exact h
theorem hT_s {T : Nat → Int32} {n q : Nat} {k : Nat → SR} {r : ST} (h : hT T n q k = some (some r)) : ¬ tkK T n (tkN T n q) = 0 ∧ k (tkN T n q) = some (some r) := by
  rcases hT_any h with ⟨_, h2⟩ | h
  · cases h2
  · exact h
theorem hW_s {T : Nat → Int32} {n t q : Nat} {k : Nat → SR} {r : ST} (h : hW T n t q k = some (some r)) : tkK T n q = t ∧ ¬ tkK T n (tkN T n q) = 0 ∧ k (tkN T n q) = some (some r) := by
  rcases hW_any h with ⟨_, h2⟩ | ⟨⟨a, b⟩, h⟩
  · cases h2
  · exact ⟨a, b, h⟩
/-- it goes on -/
def MoZ (n : Nat) (b : BT) (s : SB) (q v : Nat) (r : ST) : Prop := q ≤ r.1 ∧ r.1 ≤ n ∧ v ≤ r.2.1 ∧ r.2.1 ≤ 60 ∧ b.1 ≤ r.2.2.2.2.1.1 ∧ r.2.2.2.2.1.1 + q ≤ b.1 + r.1 ∧ b.2.1 ≤ r.2.2.2.2.1.2.1 ∧ r.2.2.2.2.1.2.1 + q ≤ b.2.1 + r.1 ∧ s.1 ≤ r.2.2.2.2.2.1 ∧ r.2.2.2.2.2.1 ≤ 400
def NdZ (nt M : Nat) (s : SB) (q : Nat) (r : ST) : Prop := (nt = 0 → r.2.2.2.1 = 0 ∨ (M ≤ r.2.2.2.1 ∧ r.2.2.2.1 < r.2.2.2.2.1.1)) ∧ (¬ nt = 0 → (M ≤ r.2.2.2.1 ∧ r.2.2.2.1 < r.2.2.2.2.1.1) ∧ q < r.1) ∧ (nt = 1 → r.2.2.1 = s.1 ∧ s.1 < 400 ∧ r.2.2.2.2.1.2.2.1 8 r.2.2.2.1 = nI s.1)
section SMO
variable {T : Nat → Int32} {n : Nat} {MD : Nat → Nat → Nat}
theorem hE_mo {q : Nat} (hq : q ≤ n) {k : Nat → SR} {r : ST} (h : hE T n q k = some (some r)) : ∃ q2, q + 2 ≤ q2 ∧ q2 ≤ n ∧ k q2 = some (some r) := by
  unfold hE at h
  obtain ⟨t1, _, h⟩ := hW_s h
  have hu := tkN_b T n q hq
  have hu4 := hu.2.2.2 (by rw [t1]; decide)
  obtain ⟨t2, _, h⟩ := hW_s h
  have hv := tkN_b T n _ hu.2.1
  have hv4 := hv.2.2.2 (by rw [t2]; decide)
  exact ⟨_, by omega, hv.2.1, h⟩
theorem gs_mo : ∀ (f nt : Nat) (E : En) (lp o q v : Nat) (pe : Int32) (i l : Nat) (b : BT) (s : SB) (r : ST) (M : Nat), nt ≤ 5 → q ≤ n → v ≤ 60 → s.1 ≤ 400 → GS T n MD f nt E lp o q v pe i l b s = some (some r) → 1 ≤ M → M ≤ b.1 → (nt = 0 → ¬ i = 0 → M ≤ i ∧ i < b.1) → (2 ≤ nt → ¬ nt = 3 → ¬ tkK T n q = 25) → MoZ n b s q v r ∧ NdZ nt M s q r
  | 0, nt, E, lp, o, q, v, pe, i, l, b, s, r, M, _, _, _, _, hG, _, _, _, _ => by simp only [GS] at hG; cases hG
  | f + 1, nt, E, lp, o, q, v, pe, i, l, b, s, r, M, hnt, hq, hv, hs, hG, h1, hM, hi, hK => by
    have ih := gs_mo f
    have hu := tkN_b T n q hq
    match nt, hnt with
    | 0, _ =>
      simp only [GS] at hG
      by_cases c : isBE (tkK T n q)
      · rw [if_pos c] at hG; cases hG
        refine ⟨by unfold MoZ; dsimp only; omega, ?_, fun z => absurd rfl z, fun z => absurd z (by decide)⟩
        intro _
        by_cases c0 : i = 0
        · exact Or.inl c0
        · exact Or.inr (hi rfl c0)
      rw [if_neg c] at hG
      obtain ⟨t, h7, hG⟩ := hb_s hG
      obtain ⟨⟨a1, a2, a3, a4, a5, a6, a7, a8, a9, a10⟩, d1, d2, d3⟩ := ih _ _ _ _ _ _ _ _ _ _ _ t M (by decide) hq hv hs h7 h1 hM (fun z => absurd z (by decide)) (fun z => absurd z (by decide))
      have d2 := d2 (by decide)
      have hf2 := fst2_b (M := M) (m := t.2.2.2.2.1.1) (i := i) (fun z => ⟨(hi rfl z).1, by have := (hi rfl z).2; omega⟩) d2.1
      obtain ⟨⟨b1, b2, b3, b4, b5, b6, b7, b8, b9, b10⟩, e1, _, _⟩ := ih _ _ _ _ _ _ _ _ _ _ _ r M (by decide) a2 a4 (by show t.2.2.2.2.2.1 ≤ 400; exact a10) hG h1 (by rw [bLnk_1]; omega) (fun _ _ => by rw [bLnk_1]; exact hf2) (fun z => absurd z (by decide))
      rw [bLnk_1] at b5 b6
      rw [bLnk_p] at b7 b8
      have b9 : t.2.2.2.2.2.1 ≤ r.2.2.2.2.2.1 := b9
      exact ⟨by unfold MoZ; omega, fun _ => e1 rfl, fun z => absurd rfl z, fun z => absurd z (by decide)⟩
    | 1, _ =>
      simp only [GS] at hG
      by_cases c : ¬ isSt (tkK T n q) ∨ (isOp (tkK T n q) ∧ o = 20) ∨ s.1 = 400
      · rw [if_pos c] at hG; cases hG
      rw [if_neg c] at hG
      have hs4 : ¬ s.1 = 400 := fun z => c (Or.inr (Or.inr z))
      obtain ⟨t, h7, hG⟩ := hb_s hG
      have key : MoZ n b (sMo s) q v t ∧ (M ≤ t.2.2.2.1 ∧ t.2.2.2.1 < t.2.2.2.2.1.1) ∧ q < t.1 := by
        have lft : ∀ x : RG, (∀ u, x = some (some u) → MoS n M b q v u) → lb x (lif (sMo s)) = some (some t) → MoZ n b (sMo s) q v t ∧ (M ≤ t.2.2.2.1 ∧ t.2.2.2.1 < t.2.2.2.2.1.1) ∧ q < t.1 := fun x hx h => by
          obtain ⟨u, hu, h⟩ := lb_s h
          obtain ⟨⟨a1, a2, a3, a4, a5, a6, a7, a8⟩, a9, a10⟩ := hx u hu
          unfold lif at h
          cases h
          refine ⟨?_, a9, a10⟩
          unfold MoZ sMo
          dsimp only
          omega
        have grp : ∀ nt : Nat, (nt = 2 ∨ nt = 4 ∨ nt = 5) → ¬ tkK T n q = 25 → GS T n MD f nt E lp o q v 0 0 0 b (sMo s) = some (some t) → MoZ n b (sMo s) q v t ∧ (M ≤ t.2.2.2.1 ∧ t.2.2.2.1 < t.2.2.2.2.1.1) ∧ q < t.1 := fun nt hnt hk h => by
          have := ih _ _ _ _ _ _ _ _ _ _ _ t M (by omega) hq hv (by show s.1 + 1 ≤ 400; omega) h h1 hM (fun z => absurd z (by omega)) (fun _ _ => hk)
          exact ⟨this.1, (this.2.2.1 (by omega)).1, (this.2.2.1 (by omega)).2⟩
        by_cases c1 : tkK T n q = 26
        · rw [if_pos c1] at h7; exact lft _ (fun u hu => moBg hq hv h1 hM hu) h7
        rw [if_neg c1] at h7
        by_cases c2 : tkK T n q = 10
        · rw [if_pos c2] at h7; exact lft _ (fun u hu => moPa hq hv h1 hM hu) h7
        rw [if_neg c2] at h7
        by_cases c3 : tkK T n q = 39
        · rw [if_pos c3] at h7; exact grp 2 (by decide) (by omega) h7
        rw [if_neg c3] at h7
        by_cases c4 : tkK T n q = 43
        · rw [if_pos c4] at h7; exact grp 4 (by decide) (by omega) h7
        rw [if_neg c4] at h7
        by_cases c5 : tkK T n q = 45
        · rw [if_pos c5] at h7; exact grp 5 (by decide) (by omega) h7
        rw [if_neg c5] at h7
        exact lft _ (fun u hu => moSm hq hv h1 hM hu) h7
      obtain ⟨⟨a1, a2, a3, a4, a5, a6, a7, a8, a9, a10⟩, d1, d2⟩ := key
      have a9 : s.1 + 1 ≤ t.2.2.2.2.2.1 := a9
      cases hG
      refine ⟨?_, fun z => absurd z (by decide), fun _ => ⟨d1, d2⟩, fun _ => ⟨rfl, by omega, ?_⟩⟩
      · unfold MoZ
        dsimp only
        rw [bSet_1, bSet_p]
        show _ ∧ _ ∧ _ ∧ _ ∧ _ ∧ _ ∧ _ ∧ _ ∧ s.1 ≤ t.2.2.2.2.2.1 ∧ t.2.2.2.2.2.1 ≤ 400
        omega
      · show updG t.2.2.2.2.1.2.2.1 8 (upd (t.2.2.2.2.1.2.2.1 8) t.2.2.2.1 (nI s.1)) 8 t.2.2.2.1 = nI s.1
        rw [updG_same, upd_same]
    | 2, _ =>
      simp only [GS] at hG
      have hu4 := hu.2.2.2 (hK (by decide) (by decide))
      obtain ⟨_, hG⟩ := hT_s hG
      generalize tkN T n q = q1 at hG hu hu4
      obtain ⟨t, h7, hG⟩ := hb_s hG
      obtain ⟨⟨a1, a2, a3, a4, a5, a6, a7, a8, a9, a10⟩, d1, d2, d3⟩ := ih _ _ _ _ _ _ _ _ _ _ _ t M (by decide) hu.2.1 hv hs h7 h1 (by rw [bNode_1]; omega) (fun z => absurd z (by decide)) (fun _ z => absurd rfl z)
      rw [bNode_1] at a5 a6
      rw [bNode_p] at a7 a8
      obtain ⟨x, h8, hG⟩ := hb_s hG
      have key : MoZ n t.2.2.2.2.1 t.2.2.2.2.2 t.1 t.2.1 x := by
        by_cases c : tkK T n t.1 = 42
        · rw [if_pos c] at h8
          have hut := tkN_b T n t.1 a2
          have hut4 := hut.2.2.2 (by rw [c]; decide)
          obtain ⟨_, h8⟩ := hT_s h8
          obtain ⟨y, h9, h8⟩ := hb_s h8
          obtain ⟨⟨b1, b2, b3, b4, b5, b6, b7, b8, b9, b10⟩, _⟩ := ih _ _ _ _ _ _ _ _ _ _ _ y M (by decide) hut.2.1 a4 a10 h9 h1 (by omega) (fun _ z => absurd rfl z) (fun z => absurd z (by decide))
          cases h8
          unfold MoZ
          dsimp only
          rw [bSet_1, bSet_p, bNode_1, bNode_p]
          omega
        · rw [if_neg c] at h8; cases h8
          unfold MoZ; omega
      obtain ⟨b1, b2, b3, b4, b5, b6, b7, b8, b9, b10⟩ := key
      obtain ⟨q2, e1, e2, hG⟩ := hE_mo b2 hG
      cases hG
      refine ⟨?_, fun z => absurd z (by decide), fun _ => ⟨⟨hM, ?_⟩, ?_⟩, fun z => absurd z (by decide)⟩
      · unfold MoZ; dsimp only; omega
      · show b.1 < x.2.2.2.2.1.1; omega
      · show q < q2; omega
    | 3, _ =>
      simp only [GS] at hG
      obtain ⟨c, h7, hG⟩ := hb_s hG
      have key : MoZ n b s q v c := by
        by_cases k : l = 0 ∧ tkK T n q = 63
        · rw [if_pos k] at h7
          obtain ⟨_, h7⟩ := hT_s h7
          cases h7
          unfold MoZ; dsimp only; omega
        · rw [if_neg k] at h7
          obtain ⟨u, h8, h7⟩ := lb_s h7
          obtain ⟨⟨a1, a2, a3, a4, a5, a6, a7, a8⟩, a9⟩ := mo_of (M := M) hq hv h8 hM h1 trivial (fun h => h) (fun h => h)
          cases h7
          unfold MoZ; dsimp only; omega
      obtain ⟨a1, a2, a3, a4, a5, a6, a7, a8, a9, a10⟩ := key
      obtain ⟨k40, _, hG⟩ := hW_s hG
      have huc := tkN_b T n c.1 a2
      have huc4 := huc.2.2.2 (by rw [k40]; decide)
      obtain ⟨t, h9, hG⟩ := hb_s hG
      obtain ⟨⟨b1, b2, b3, b4, b5, b6, b7, b8, b9, b10⟩, _⟩ := ih _ _ _ _ _ _ _ _ _ _ _ t M (by decide) huc.2.1 a4 hs h9 h1 (by omega) (fun _ z => absurd rfl z) (fun z => absurd z (by decide))
      have hb3 : (if l = 0 then bSet (bNode t.2.2.2.2.1 33 (if c.2.2.2.1 = 0 then -3 else nI c.2.2.2.1) (hd t.2.2.2.1) 0) 5 i (nI t.2.2.2.2.1.1) else bSet (bNode t.2.2.2.2.1 33 (if c.2.2.2.1 = 0 then -3 else nI c.2.2.2.1) (hd t.2.2.2.1) 0) 9 l (nI t.2.2.2.2.1.1)).1 = t.2.2.2.2.1.1 + 1 ∧ (if l = 0 then bSet (bNode t.2.2.2.2.1 33 (if c.2.2.2.1 = 0 then -3 else nI c.2.2.2.1) (hd t.2.2.2.1) 0) 5 i (nI t.2.2.2.2.1.1) else bSet (bNode t.2.2.2.2.1 33 (if c.2.2.2.1 = 0 then -3 else nI c.2.2.2.1) (hd t.2.2.2.1) 0) 9 l (nI t.2.2.2.2.1.1)).2.1 = t.2.2.2.2.1.2.1 := by
        by_cases l0 : l = 0
        · rw [if_pos l0]; exact ⟨rfl, rfl⟩
        · rw [if_neg l0]; exact ⟨rfl, rfl⟩
      generalize (if l = 0 then bSet (bNode t.2.2.2.2.1 33 (if c.2.2.2.1 = 0 then -3 else nI c.2.2.2.1) (hd t.2.2.2.1) 0) 5 i (nI t.2.2.2.2.1.1) else bSet (bNode t.2.2.2.2.1 33 (if c.2.2.2.1 = 0 then -3 else nI c.2.2.2.1) (hd t.2.2.2.1) 0) 9 l (nI t.2.2.2.2.1.1)) = b3x at hG hb3
      by_cases k41 : tkK T n t.1 = 41
      · rw [if_pos k41] at hG
        obtain ⟨_, hG⟩ := hT_s hG
        have hut := tkN_b T n t.1 b2
        obtain ⟨⟨e1, e2, e3, e4, e5, e6, e7, e8, e9, e10⟩, _, g2, _⟩ := ih _ _ _ _ _ _ _ _ _ _ _ r M (by decide) hut.2.1 b4 b10 hG h1 (by omega) (fun z => absurd z (by decide)) (fun _ z => absurd rfl z)
        have g2 := g2 (by decide)
        exact ⟨by unfold MoZ; omega, fun z => absurd z (by decide), fun _ => ⟨g2.1, by omega⟩, fun z => absurd z (by decide)⟩
      · rw [if_neg k41] at hG; cases hG
        refine ⟨?_, fun z => absurd z (by decide), fun _ => ⟨⟨?_, ?_⟩, ?_⟩, fun z => absurd z (by decide)⟩
        · unfold MoZ; dsimp only; omega
        · show M ≤ t.2.2.2.2.1.1; omega
        · show t.2.2.2.2.1.1 < b3x.1; omega
        · show q < t.1; omega
    | 4, _ =>
      simp only [GS] at hG
      have hu4 := hu.2.2.2 (hK (by decide) (by decide))
      obtain ⟨_, hG⟩ := hT_s hG
      generalize tkN T n q = q1 at hG hu hu4
      obtain ⟨t, h7, hG⟩ := lb_s hG
      obtain ⟨⟨a1, a2, a3, a4, a5, a6, a7, a8⟩, a9⟩ := mo_of (M := M) hu.2.1 hv h7 (by rw [bNode_1]; omega) h1 trivial (fun h => h) (fun h => h)
      rw [bNode_1] at a5 a6
      rw [bNode_p] at a7 a8
      obtain ⟨k44, _, hG⟩ := hW_s hG
      have hut := tkN_b T n t.1 a2
      obtain ⟨x, h9, hG⟩ := hb_s hG
      obtain ⟨⟨b1, b2, b3, b4, b5, b6, b7, b8, b9, b10⟩, _⟩ := ih _ _ _ _ _ _ _ _ _ _ _ x M (by decide) hut.2.1 (by omega) hs h9 h1 (by rw [bSet_1]; omega) (fun _ z => absurd rfl z) (fun z => absurd z (by decide))
      rw [bSet_1] at b5 b6
      rw [bSet_p] at b7 b8
      obtain ⟨q2, e1, e2, hG⟩ := hE_mo b2 hG
      cases hG
      refine ⟨?_, fun z => absurd z (by decide), fun _ => ⟨⟨hM, ?_⟩, ?_⟩, fun z => absurd z (by decide)⟩
      · unfold MoZ; dsimp only; rw [bSet_1, bSet_p]; omega
      · show b.1 < x.2.2.2.2.1.1; omega
      · show q < q2; omega
    | 5, _ =>
      simp only [GS] at hG
      have hu4 := hu.2.2.2 (hK (by decide) (by decide))
      obtain ⟨_, hG⟩ := hT_s hG
      generalize tkN T n q = q1 at hG hu hu4
      obtain ⟨t, h7, hG⟩ := lb_s hG
      obtain ⟨x1, a9⟩ := g_mono T n f 17 _ _ _ _ _ _ _ _ _ t hu.2.1 hv h7 M (by rw [bNode_1]; omega) h1 (Or.inl rfl)
      have x1 : Mo n (bNode b 48 0 (-1) 0) q1 v t := x1
      obtain ⟨a1, a2, a3, a4, a5, a6, a7, a8⟩ := x1
      rw [bNode_1] at a5 a6
      rw [bNode_p] at a7 a8
      obtain ⟨c, h8, hG⟩ := hb_s hG
      have key : MoZ n t.2.2.2.2.1 s t.1 t.2.1 c := by
        by_cases k : tkK T n t.1 = 15
        · rw [if_pos k] at h8
          obtain ⟨_, h8⟩ := hT_s h8
          have hut := tkN_b T n t.1 a2
          obtain ⟨y, h9, h8⟩ := lb_s h8
          obtain ⟨⟨b1, b2, b3, b4, b5, b6, b7, b8⟩, _⟩ := mo_of (M := M) hut.2.1 (by omega) h9 (by rw [bSet_1]; omega) h1 trivial (fun h => h) (fun h => h)
          rw [bSet_1] at b5 b6
          rw [bSet_p] at b7 b8
          cases h8
          unfold MoZ; dsimp only; rw [bSet_1, bSet_p]; omega
        · rw [if_neg k] at h8; cases h8
          unfold MoZ; dsimp only; rw [bSet_1, bSet_p]; omega
      obtain ⟨c1, c2, c3, c4, c5, c6, c7, c8, c9, c10⟩ := key
      obtain ⟨k44, _, hG⟩ := hW_s hG
      have huc := tkN_b T n c.1 c2
      obtain ⟨x, h9, hG⟩ := hb_s hG
      obtain ⟨⟨b1, b2, b3, b4, b5, b6, b7, b8, b9, b10⟩, _⟩ := ih _ _ _ _ _ _ _ _ _ _ _ x M (by decide) huc.2.1 c4 hs h9 h1 (by omega) (fun _ z => absurd rfl z) (fun z => absurd z (by decide))
      obtain ⟨q2, e1, e2, hG⟩ := hE_mo b2 hG
      cases hG
      refine ⟨?_, fun z => absurd z (by decide), fun _ => ⟨⟨hM, ?_⟩, ?_⟩, fun z => absurd z (by decide)⟩
      · unfold MoZ; dsimp only; rw [bSet_1, bSet_p]; omega
      · show b.1 < x.2.2.2.2.1.1; omega
      · show q < q2; omega
end SMO

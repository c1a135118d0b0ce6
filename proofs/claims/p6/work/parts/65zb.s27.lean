/-! Nodes. -/
def mNode (σ : MS) (m : Nat) (k x y z : Int32) : MS := (upd σ.1 22 (nI (m + 1)), σ.2.1, updG (updG (updG (updG (updG (updG σ.2.2 4 (upd (σ.2.2 4) m k)) 5 (upd (σ.2.2 5) m x)) 6 (upd (σ.2.2 6) m y)) 7 (upd (σ.2.2 7) m z)) 8 (upd (σ.2.2 8) m (-1))) 9 (upd (σ.2.2 9) m (-1)))
def mSet (σ : MS) (j l : Nat) (x : Int32) : MS := (σ.1, σ.2.1, updG σ.2.2 j (upd (σ.2.2 j) l x))
theorem s_node {σ : MS} {m : Nat} (h : σ.1 22 = nI m) (hm : m < 70000) (L : Nat → Int32) : Tm (fun k => x_node k 0 L σ) (fun r => r = (nI m, mNode σ m (L 1) (L 2) (L 3) (L 4))) := by
  refine Tm_suc (fun k => by rw [x_node]) ?_
  rw [h, n_add1]
  have h5 : upd L 5 (nI m) 5 = nI m := upd_same
  have h1 : upd L 5 (nI m) 1 = L 1 := upd_other (by decide)
  have h2 : upd L 5 (nI m) 2 = L 2 := upd_other (by decide)
  have h3 : upd L 5 (nI m) 3 = L 3 := upd_other (by decide)
  have h4 : upd L 5 (nI m) 4 = L 4 := upd_other (by decide)
  generalize upd L 5 (nI m) = N at h5 h1 h2 h3 h4
  have hi : ¬ (nI m < 0 ∨ 70000 ≤ (nI m).toNatClampNeg) := n_in (by omega) hm
  have hc : (nI m).toNatClampNeg = m := n_cl (by omega)
  refine Tm_suc (fun k => by rw [x_node]) ?_
  rw [h5, h1]
  refine Tm_chk hi ?_
  refine Tm_suc (fun k => by rw [x_node]) ?_
  rw [h5, h2]
  refine Tm_chk hi ?_
  refine Tm_suc (fun k => by rw [x_node]) ?_
  rw [h5, h3]
  refine Tm_chk hi ?_
  refine Tm_suc (fun k => by rw [x_node]) ?_
  rw [h5, h4]
  refine Tm_chk hi ?_
  refine Tm_suc (fun k => by rw [x_node]) ?_
  rw [h5]
  refine Tm_chk hi ?_
  refine Tm_suc (fun k => by rw [x_node]) ?_
  rw [h5]
  refine Tm_chk hi ?_
  refine Tm_suc (fun k => by rw [x_node]) ?_
  rw [h5, hc]
  exact Tm_some rfl
theorem s_over {σ : MS} {m l : Nat} (h : σ.1 22 = nI m) (hm : m < 70000) (L : Nat → Int32) (hl : L 3 = nI l) (hl2 : l < 70000) : Tm (fun k => x_over k 0 L σ) (fun r => r = (nI m, mSet (mNode σ m (L 1) (L 2) (nI l) (L 4)) 9 l (nI m))) := by
  refine Tm_suc (fun k => by rw [x_over]) ?_
  refine Tm_ob (s_node h hm _) (fun r hr => ?_)
  subst hr
  rw [hl]
  refine Tm_chk (n_in (by omega) hl2) ?_
  refine Tm_suc (fun k => by rw [x_over]) ?_
  rw [n_cl (p := l) (by omega)]
  exact Tm_some rfl
theorem s_wrapped {σ : MS} {m : Nat} (h : σ.1 22 = nI m) (hm : m < 70000) (L : Nat → Int32) : Tm (fun k => x_wrapped k 0 L σ) (fun r => r = (nI m, mSet (mNode σ m (L 1) (L 2) (L 3) (L 4)) 8 m (L 5))) := by
  refine Tm_suc (fun k => by rw [x_wrapped]) ?_
  refine Tm_ob (s_node h hm _) (fun r hr => ?_)
  subst hr
  refine Tm_chk (n_in (by omega) hm) ?_
  refine Tm_suc (fun k => by rw [x_wrapped]) ?_
  show Tm (fun k => some (upd L 6 (nI m) 6, mSet (mNode σ m (L 1) (L 2) (L 3) (L 4)) 8 (nI m).toNatClampNeg (L 5))) _
  rw [n_cl (p := m) (by omega)]
  exact Tm_some rfl
section NODES
variable {T : Nat → Int32} {n : Nat} {E : En} {o q v M P w m : Nat} {b : BT} {σ : MS}
theorem tab6 {g : Nat → Nat → Int32} {f4 f5 f6 f7 f8 f9 : Nat → Int32} : ∀ j, ¬ (4 ≤ j ∧ j ≤ 9) → updG (updG (updG (updG (updG (updG g 4 f4) 5 f5) 6 f6) 7 f7) 8 f8) 9 f9 j = g j := fun j hj => by
  rw [updG_other (by omega), updG_other (by omega), updG_other (by omega), updG_other (by omega), updG_other (by omega), updG_other (by omega)]
theorem mNode_o {k x y z : Int32} {j : Nat} (hj : ¬ (4 ≤ j ∧ j ≤ 9)) : (mNode σ m k x y z).2.2 j = σ.2.2 j := tab6 j hj
theorem mNode_s {k x y z : Int32} {j : Nat} (hj : j ≠ 22) : (mNode σ m k x y z).1 j = σ.1 j := upd_other hj
/-- the six tables, of the state and of what is laid: the same row is written -/
theorem node_tab (g g' : Nat → Nat → Int32) (m i : Nat) (k x y z : Int32) (j : Nat) (h4 : 4 ≤ j) (h9 : j ≤ 9) (h : i ≠ m → g j i = g' j i) :
    updG (updG (updG (updG (updG (updG g 4 (upd (g 4) m k)) 5 (upd (g 5) m x)) 6 (upd (g 6) m y)) 7 (upd (g 7) m z)) 8 (upd (g 8) m (-1))) 9 (upd (g 9) m (-1)) j i = updG (updG (updG (updG (updG (updG g' 4 (upd (g' 4) m k)) 5 (upd (g' 5) m x)) 6 (upd (g' 6) m y)) 7 (upd (g' 7) m z)) 8 (upd (g' 8) m (-1))) 9 (upd (g' 9) m (-1)) j i := by
  have key : ∀ (c : Int32) (j' : Nat), j = j' → upd (g j') m c i = upd (g' j') m c i := fun c j' e => by
    subst e
    by_cases hi : i = m
    · subst hi; rw [upd_same, upd_same]
    · rw [upd_other hi, upd_other hi]; exact h hi
  unfold updG
  by_cases e9 : j = 9
  · rw [if_pos e9, if_pos e9]; exact key _ _ e9
  rw [if_neg e9, if_neg e9]
  by_cases e8 : j = 8
  · rw [if_pos e8, if_pos e8]; exact key _ _ e8
  rw [if_neg e8, if_neg e8]
  by_cases e7 : j = 7
  · rw [if_pos e7, if_pos e7]; exact key _ _ e7
  rw [if_neg e7, if_neg e7]
  by_cases e6 : j = 6
  · rw [if_pos e6, if_pos e6]; exact key _ _ e6
  rw [if_neg e6, if_neg e6]
  by_cases e5 : j = 5
  · rw [if_pos e5, if_pos e5]; exact key _ _ e5
  rw [if_neg e5, if_neg e5]
  have e4 : j = 4 := by omega
  rw [if_pos e4, if_pos e4]; exact key _ _ e4
theorem node_old (g : Nat → Nat → Int32) (m i : Nat) (k x y z : Int32) (j : Nat) (h : i ≠ m) :
    updG (updG (updG (updG (updG (updG g 4 (upd (g 4) m k)) 5 (upd (g 5) m x)) 6 (upd (g 6) m y)) 7 (upd (g 7) m z)) 8 (upd (g 8) m (-1))) 9 (upd (g 9) m (-1)) j i = g j i := by
  unfold updG
  by_cases e9 : j = 9
  · rw [if_pos e9, upd_other h, e9]
  rw [if_neg e9]
  by_cases e8 : j = 8
  · rw [if_pos e8, upd_other h, e8]
  rw [if_neg e8]
  by_cases e7 : j = 7
  · rw [if_pos e7, upd_other h, e7]
  rw [if_neg e7]
  by_cases e6 : j = 6
  · rw [if_pos e6, upd_other h, e6]
  rw [if_neg e6]
  by_cases e5 : j = 5
  · rw [if_pos e5, upd_other h, e5]
  rw [if_neg e5]
  by_cases e4 : j = 4
  · rw [if_pos e4, upd_other h, e4]
  rw [if_neg e4]
/-- the parts of PS that a change of nodes leaves -/
theorem PS_tab {b' : BT} {τ : MS} (h : PS T n E o q v b σ) (hs : ∀ j, j ≠ 22 → τ.1 j = σ.1 j) (hg : ∀ j, ¬ (4 ≤ j ∧ j ≤ 9) → τ.2.2 j = σ.2.2 j) (hb : b'.2.1 = b.2.1 ∧ b'.2.2.2 = b.2.2.2) (h22 : τ.1 22 = nI b'.1) (h1 : 1 ≤ b'.1) (ht : ∀ j, 4 ≤ j → j ≤ 9 → ∀ i, 1 ≤ i → i < b'.1 → τ.2.2 j i = b'.2.2.1 j i) : PS T n E o q v b' τ := by
  obtain ⟨⟨⟨a1, a2⟩, a3, a4, a5, ⟨c1, c2, c3, c4, c5, c6⟩, a6⟩, ⟨d1, d2⟩, ⟨e1, e2, e3, e4, e5⟩, ⟨f1, f2, f3, f4, f5⟩, ⟨⟨g1, g2, g3⟩, ⟨g4, g5, g6⟩, ⟨g7, g8, g9⟩⟩, ⟨i1, i2, i3⟩⟩ := h
  obtain ⟨b1, b2, b3, b4, b5⟩ := b
  obtain ⟨b1', b2', b3', b4', b5'⟩ := b'
  obtain ⟨hb1, hb2⟩ := hb
  have hb1 : b2' = b2 := hb1
  have hb2 : (b4', b5') = (b4, b5) := hb2
  have hb3 : b4' = b4 := congrArg Prod.fst hb2
  have hb4 : b5' = b5 := congrArg Prod.snd hb2
  subst hb1 hb3 hb4
  have gg : ∀ j, ¬ (4 ≤ j ∧ j ≤ 9) → ∀ i, τ.2.2 j i = σ.2.2 j i := fun j hj i => by rw [hg j hj]
  refine ⟨⟨⟨(hs 4 (by decide)).trans a1, a2⟩, (hg 3 (by decide)).trans a3, (hg 1 (by decide)).trans a4, (hs 10 (by decide)).trans a5, ⟨c1, (hs 8 (by decide)).trans c2, (hs 5 (by decide)).trans c3, (hs 9 (by decide)).trans c4, (hs 6 (by decide)).trans c5, ?_⟩, a6⟩, ⟨(hs 13 (by decide)).trans d1, d2⟩, ⟨h22, h1, (hs 24 (by decide)).trans e3, ht, fun i hi => (gg 12 (by decide) i).trans (e5 i hi)⟩, ⟨(hs 37 (by decide)).trans f1, f2, (gg 21 (by decide) _).trans f3, f4, fun i hi => (gg 20 (by decide) _).trans (f5 i hi)⟩, ⟨⟨(hs 38 (by decide)).trans g1, g2, ?_⟩, ⟨(hs 52 (by decide)).trans g4, g5, ?_⟩, ⟨(hs 25 (by decide)).trans g7, g8, ?_⟩⟩, ⟨?_, ?_, ?_⟩⟩
  · obtain ⟨w, hw⟩ := c6
    exact ⟨w, (hs 7 (by decide)).trans hw⟩
  · rw [hg 22 (by decide), hg 23 (by decide), hg 24 (by decide)]; exact g3
  · rw [hg 25 (by decide), hg 26 (by decide), hg 27 (by decide)]; exact g6
  · rw [hg 13 (by decide), hg 14 (by decide), hg 15 (by decide), hg 16 (by decide)]; exact g9
  · rw [hs 43 (by decide)]; exact i1
  · rw [hs 42 (by decide)]; exact i2
  · rw [hg 18 (by decide)]; exact i3
theorem PS_node (h : PS T n E o q v b σ) (k x y z : Int32) : PS T n E o q v (bNode b k x y z) (mNode σ b.1 k x y z) := by
  have e4 := h.2.2.1.2.2.2.1
  refine PS_tab h (fun j hj => mNode_s hj) (fun j hj => mNode_o hj) ⟨rfl, rfl⟩ ?_ ?_ (fun j h4 h9 i hi hi2 => ?_)
  · exact (upd_same : upd σ.1 22 (nI (b.1 + 1)) 22 = nI (b.1 + 1))
  · show 1 ≤ b.1 + 1; omega
  · have hi2 : i < b.1 + 1 := hi2
    exact node_tab σ.2.2 b.2.2.1 b.1 i k x y z j h4 h9 (fun hne => e4 j h4 h9 i hi (by omega))
theorem PS_set (h : PS T n E o q v b σ) {j l : Nat} (h4 : 4 ≤ j) (h9 : j ≤ 9) (x : Int32) : PS T n E o q v (bSet b j l x) (mSet σ j l x) := by
  have e4 := h.2.2.1.2.2.2.1
  refine PS_tab h (fun j hj => rfl) (fun j' hj => ?_) ⟨rfl, rfl⟩ h.2.2.1.1 h.2.2.1.2.1 (fun j' h4' h9' i hi hi2 => ?_)
  · exact updG_other (by omega)
  · show updG σ.2.2 j (upd (σ.2.2 j) l x) j' i = updG b.2.2.1 j (upd (b.2.2.1 j) l x) j' i
    have hi2 : i < b.1 := hi2
    by_cases e : j' = j
    · subst e
      rw [updG_same, updG_same]
      by_cases hl : i = l
      · subst hl; rw [upd_same, upd_same]
      · rw [upd_other hl, upd_other hl]; exact e4 j' h4 h9 i hi hi2
    · rw [updG_other e, updG_other e]; exact e4 j' h4' h9' i hi hi2
theorem Bb_node (h : Bb m σ) (k x y z : Int32) : Bb (m + 1) (mNode σ m k x y z) := ⟨by rw [mNode_s (by decide)]; exact h.1, (upd_same : upd σ.1 22 (nI (m + 1)) 22 = nI (m + 1))⟩
theorem Bb_set {j l : Nat} {x : Int32} (h : Bb m σ) : Bb m (mSet σ j l x) := h
theorem FrM_node (hM : M ≤ m) (k x y z : Int32) : FrM M P w σ (mNode σ m k x y z) := by
  refine ⟨fun j hj => mNode_s (by omega), rfl, fun j hj => mNode_o (by omega), fun j h4 h9 i hi hi2 => ?_, fun i hi => by rw [mNode_o (by decide)], fun i hi => by rw [mNode_o (by decide)], fun i hi => by rw [mNode_o (by decide)]⟩
  exact node_old σ.2.2 m i k x y z j (by omega)
theorem FrM_set {j l : Nat} (h4 : 4 ≤ j) (h9 : j ≤ 9) (hl : l = 0 ∨ M ≤ l) (x : Int32) : FrM M P w σ (mSet σ j l x) := by
  refine ⟨fun j hj => rfl, rfl, fun j' hj => updG_other (by omega), fun j' h4' h9' i hi hi2 => ?_, fun i hi => ?_, fun i hi => ?_, fun i hi => ?_⟩
  · show updG σ.2.2 j (upd (σ.2.2 j) l x) j' i = σ.2.2 j' i
    by_cases e : j' = j
    · subst e
      rw [updG_same, upd_other (by omega)]
    · rw [updG_other e]
  · show updG σ.2.2 j (upd (σ.2.2 j) l x) 12 i = _
    rw [updG_other (by omega)]
  · show updG σ.2.2 j (upd (σ.2.2 j) l x) 21 i = _
    rw [updG_other (by omega)]
  · show updG σ.2.2 j (upd (σ.2.2 j) l x) 20 i = _
    rw [updG_other (by omega)]
theorem p_node (h : PS T n E o q v b σ) (hm : b.1 < 70000) (hM : M ≤ b.1) (L : Nat → Int32) : Tm (fun k => x_node k 0 L σ) (fun r => r.1 = nI b.1 ∧ PS T n E o q v (bNode b (L 1) (L 2) (L 3) (L 4)) r.2 ∧ FrM M P w σ r.2) :=
  Tm_mono (s_node (PS_m h) hm L) (fun r hr => by subst hr; exact ⟨rfl, PS_node h _ _ _ _, FrM_node hM _ _ _ _⟩)
theorem p_over (h : PS T n E o q v b σ) (hm : b.1 < 70000) (hM : M ≤ b.1) (L : Nat → Int32) {l : Nat} (hl : L 3 = nI l) (hl2 : M ≤ l) (hl3 : l < 70000) : Tm (fun k => x_over k 0 L σ) (fun r => r.1 = nI b.1 ∧ PS T n E o q v (bOver b (L 1) (L 2) l (L 4)) r.2 ∧ FrM M P w σ r.2) :=
  Tm_mono (s_over (PS_m h) hm L hl hl3) (fun r hr => by subst hr; exact ⟨rfl, PS_set (PS_node h _ _ _ _) (by decide) (by decide) _, FrM_tr (FrM_node hM _ _ _ _) (FrM_set (by decide) (by decide) (Or.inr hl2) _)⟩)
theorem p_wrapped (h : PS T n E o q v b σ) (hm : b.1 < 70000) (hM : M ≤ b.1) (L : Nat → Int32) : Tm (fun k => x_wrapped k 0 L σ) (fun r => r.1 = nI b.1 ∧ PS T n E o q v (bWrap b (L 1) (L 2) (L 3) (L 4) (L 5)) r.2 ∧ FrM M P w σ r.2) :=
  Tm_mono (s_wrapped (PS_m h) hm L) (fun r hr => by subst hr; exact ⟨rfl, PS_set (PS_node h _ _ _ _) (by decide) (by decide) _, FrM_tr (FrM_node hM _ _ _ _) (FrM_set (by decide) (by decide) (Or.inr hM) _)⟩)
theorem b_node (h : Bb m σ) (hm : m < 70000) (hM : M ≤ m) (L : Nat → Int32) : Tm (fun k => x_node k 0 L σ) (fun r => r.1 = nI m ∧ Bb (m + 1) r.2 ∧ FrM M P w σ r.2) :=
  Tm_mono (s_node h.2 hm L) (fun r hr => by subst hr; exact ⟨rfl, Bb_node h _ _ _ _, FrM_node hM _ _ _ _⟩)
theorem b_over (h : Bb m σ) (hm : m < 70000) (hM : M ≤ m) (L : Nat → Int32) {l : Nat} (hl : L 3 = nI l) (hl2 : l = 0 ∨ M ≤ l) (hl3 : l < 70000) : Tm (fun k => x_over k 0 L σ) (fun r => r.1 = nI m ∧ Bb (m + 1) r.2 ∧ FrM M P w σ r.2) :=
  Tm_mono (s_over h.2 hm L hl hl3) (fun r hr => by subst hr; exact ⟨rfl, Bb_set (Bb_node h _ _ _ _), FrM_tr (FrM_node hM _ _ _ _) (FrM_set (by decide) (by decide) hl2 _)⟩)
theorem b_wrapped (h : Bb m σ) (hm : m < 70000) (hM : M ≤ m) (L : Nat → Int32) : Tm (fun k => x_wrapped k 0 L σ) (fun r => r.1 = nI m ∧ Bb (m + 1) r.2 ∧ FrM M P w σ r.2) :=
  Tm_mono (s_wrapped h.2 hm L) (fun r hr => by subst hr; exact ⟨rfl, Bb_set (Bb_node h _ _ _ _), FrM_tr (FrM_node hM _ _ _ _) (FrM_set (by decide) (by decide) (Or.inr hM) _)⟩)
end NODES

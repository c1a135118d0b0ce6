/-! Names of the reference: kept, found. -/
section NAMES
variable {T : Nat → Int32} {n : Nat} {E : En} {o q v M P w : Nat} {b : BT} {σ : MS}
theorem glOK_mono {A B C D pool pool' : Nat → Int32} {p p' : Nat} {gl : List Gn} (h2 : ∀ i, i < p → pool' i = pool i) (h3 : p ≤ p') (h : glOK A B C D pool p gl) : glOK A B C D pool' p' gl := fun k x hx => by
  obtain ⟨a, b, c, d, e, f, g, g2, i⟩ := h k x hx
  exact ⟨a, b, c, d, by omega, f, g, g2, fun j hj => by rw [h2 _ (by omega)]; exact i j hj⟩
theorem PS_keep (h : PS T n E o q v b σ) {f m : Nat} (hm : b.2.1 + m < 2147483648) : PS T n E o q v (bKeep b T f m) (mPool σ f m) := by
  obtain ⟨⟨⟨a1, a2⟩, a3, a4, a5, ⟨c1, c2, c3, c4, c5, c6⟩, a6⟩, ⟨d1, d2⟩, ⟨e1, e2, e3, e4, e5⟩, ⟨f1, f2, f3, f4, f5⟩, ⟨⟨g1, g2, g3⟩, ⟨g4, g5, g6⟩, ⟨g7, g8, g9⟩⟩, ⟨i1, i2, i3⟩⟩ := h
  obtain ⟨k1, k2, hs, hg, k5, k6⟩ := mPool_is (f := f) e3 m hm
  have gg : ∀ j, j ≠ 12 → ∀ i, (mPool σ f m).2.2 j i = σ.2.2 j i := fun j hj i => by rw [hg j hj]
  have pl : ∀ i, i < b.2.1 → (bKeep b T f m).2.2.2.1 i = b.2.2.2.1 i := fun i hi => if_neg (by omega)
  refine ⟨⟨⟨(hs 4 (by decide)).trans a1, a2⟩, (hg 3 (by decide)).trans a3, (hg 1 (by decide)).trans a4, (hs 10 (by decide)).trans a5, ⟨c1, (hs 8 (by decide)).trans c2, (hs 5 (by decide)).trans c3, (hs 9 (by decide)).trans c4, (hs 6 (by decide)).trans c5, ?_⟩, a6⟩, ⟨(hs 13 (by decide)).trans d1, d2⟩, ⟨(hs 22 (by decide)).trans e1, e2, k1, fun j h4 h9 i hi hi2 => (gg j (by omega) i).trans (e4 j h4 h9 i hi hi2), fun i hi => ?_⟩, ⟨(hs 37 (by decide)).trans f1, f2, (gg 21 (by decide) _).trans f3, f4, fun i hi => (gg 20 (by decide) _).trans (f5 i hi)⟩, ⟨⟨(hs 38 (by decide)).trans g1, g2, ?_⟩, ⟨(hs 52 (by decide)).trans g4, g5, ?_⟩, ⟨(hs 25 (by decide)).trans g7, g8, ?_⟩⟩, ⟨?_, ?_, ?_⟩⟩
  · obtain ⟨w, hw⟩ := c6
    exact ⟨w, (hs 7 (by decide)).trans hw⟩
  · have hi : i < b.2.1 + m := hi
    by_cases c : i < b.2.1
    · rw [k5 i c, pl i c]; exact e5 i c
    · have := k6 (i - b.2.1) (by omega)
      rw [show b.2.1 + (i - b.2.1) = i by omega] at this
      rw [this, a3]
      exact (if_pos ⟨by omega, hi⟩ : (bKeep b T f m).2.2.2.1 i = T (f + (i - b.2.1))).symm
  · rw [hg 22 (by decide), hg 23 (by decide), hg 24 (by decide)]
    exact rowsOK_mono _ (fun i hi => ⟨rfl, rfl, rfl⟩) pl (by rw [bKeep_p]; omega) g3
  · rw [hg 25 (by decide), hg 26 (by decide), hg 27 (by decide)]
    exact rowsOK_mono _ (fun i hi => ⟨rfl, rfl, rfl⟩) pl (by rw [bKeep_p]; omega) g6
  · rw [hg 13 (by decide), hg 14 (by decide), hg 15 (by decide), hg 16 (by decide)]
    exact glOK_mono pl (by rw [bKeep_p]; omega) g9
  · rw [hs 43 (by decide)]; exact i1
  · rw [hs 42 (by decide)]; exact i2
  · rw [hg 18 (by decide)]; exact i3
theorem FrM_keep {p f m : Nat} (h : σ.1 24 = nI p) (hP : P ≤ p) (hm : p + m < 2147483648) : FrM M P w σ (mPool σ f m) := by
  obtain ⟨k1, k2, hs, hg, k5, k6⟩ := mPool_is (f := f) h m hm
  exact ⟨fun j hj => hs j (by omega), k2, fun j hj => hg j (by omega), fun j h4 h9 i hi hi2 => by rw [hg j (by omega)], fun i hi => k5 i (by omega), fun i hi => by rw [hg 21 (by decide)], fun i hi => by rw [hg 20 (by decide)]⟩
theorem p_keep (h : PS T n E o q v b σ) (hP : P ≤ b.2.1) {f e : Nat} (hfe : f ≤ e) (he : e ≤ 32768) (hp : b.2.1 + (e - f) ≤ 70000) {L : Nat → Int32} (h1 : L 1 = nI f) (h2 : L 2 = nI e) : Tm (fun k => x_keep k 0 L σ) (fun r => r = (nI b.2.1, mPool σ f (e - f)) ∧ PS T n E o q v (bKeep b T f (e - f)) r.2 ∧ FrM M P w σ r.2) :=
  Tm_mono (s_keep h.2.2.1.2.2.1 hfe he hp L h1 h2) (fun r hr => by subst hr; exact ⟨rfl, PS_keep h (by omega), FrM_keep h.2.2.1.2.2.1 hP (by omega)⟩)
/-- a row's name is the one that stands here, just when the bytes are the same -/
theorem mIs_row {j1 j2 k f e : Nat} {x : List Int32} {p : Nat} (hT : σ.2.2 3 = T) (ha : σ.2.2 j1 k = nI p) (hb : σ.2.2 j2 k = nI x.length) (hp : p + x.length ≤ 70000) (hpl : ∀ i, i < x.length → σ.2.2 12 (p + i) = x.getD i 0) : mIs σ f (e - f) j1 j2 k ↔ x = seg T f e := by
  rw [mIs_iff ⟨ha, hb, hp⟩]
  constructor
  · rintro ⟨h1, h2⟩
    refine seg_eq h1.symm (fun i hi => ?_)
    rw [← hpl i (by omega), h2 i (by omega), hT]
  · intro h
    have hl : x.length = e - f := by rw [h, seg_len]
    refine ⟨hl.symm, fun i hi => ?_⟩
    rw [hpl i hi, hT, h]
    exact seg_at (by omega)
theorem find_rows {j1 j2 j3 f e p : Nat} {pool : Nat → Int32} (hT : σ.2.2 3 = T) (hp : p ≤ 70000) (hpl : ∀ i, i < p → σ.2.2 12 i = pool i) : ∀ l : List Nm, rowsOK (σ.2.2 j1) (σ.2.2 j2) (σ.2.2 j3) pool p l → match l.find? (fun x => decide (x.1 = seg T f e)) with
    | some x => ∃ k, k < l.length ∧ mIs σ f (e - f) j1 j2 k ∧ (∀ j, k < j → j < l.length → ¬ mIs σ f (e - f) j1 j2 j) ∧ σ.2.2 j3 k = nI x.2.2 ∧ x.2.2 < 60
    | none => ∀ j, j < l.length → ¬ mIs σ f (e - f) j1 j2 j
  | [], _ => fun j hj => absurd hj (Nat.not_lt_zero j)
  | x :: l, ⟨⟨a, b, c, d, d2, g⟩, h⟩ => by
    have ih := find_rows (f := f) (e := e) hT hp hpl l h
    have hx := mIs_row (f := f) (e := e) hT a b (by omega) (fun i hi => by rw [hpl _ (by omega)]; exact g i hi)
    have hlen : (x :: l).length = l.length + 1 := rfl
    rw [List.find?_cons]
    by_cases hc : x.1 = seg T f e
    · rw [decide_eq_true hc]
      exact ⟨l.length, by omega, hx.mpr hc, fun j h1 h2 => by omega, c, d2⟩
    · rw [decide_eq_false hc]
      cases hf : l.find? (fun x => decide (x.1 = seg T f e)) with
      | none =>
        rw [hf] at ih
        intro j hj
        by_cases he : j = l.length
        · subst he; exact fun z => hc (hx.mp z)
        · exact ih j (by omega)
      | some y =>
        rw [hf] at ih
        obtain ⟨k, k1, k2, k3, k4⟩ := ih
        refine ⟨k, by omega, k2, fun j h1 h2 => ?_, k4⟩
        by_cases he : j = l.length
        · subst he; exact fun z => hc (hx.mp z)
        · exact k3 j h1 (by omega)
theorem find_gl {f e p : Nat} {pool : Nat → Int32} (hT : σ.2.2 3 = T) (hp : p ≤ 70000) (hpl : ∀ i, i < p → σ.2.2 12 i = pool i) : ∀ (l : List Gn) (off : Nat), (∀ (k : Nat) (x : Gn), l[k]? = some x → σ.2.2 13 (off + k) = nI x.2.2.1 ∧ σ.2.2 14 (off + k) = nI x.2.1 ∧ σ.2.2 15 (off + k) = nI x.1.length ∧ σ.2.2 16 (off + k) = nI x.2.2.2 ∧ x.2.1 + x.1.length ≤ p ∧ x.2.2.1 ≤ 3 ∧ 1 ≤ x.2.2.1 ∧ x.2.2.2 < 60 ∧ ∀ i, i < x.1.length → pool (x.2.1 + i) = x.1.getD i 0) → match l.find? (fun x => decide (x.1 = seg T f e)) with
    | some x => ∃ k, k < l.length ∧ mIs σ f (e - f) 14 15 (off + k) ∧ (∀ j, j < k → ¬ mIs σ f (e - f) 14 15 (off + j)) ∧ σ.2.2 13 (off + k) = nI x.2.2.1 ∧ σ.2.2 16 (off + k) = nI x.2.2.2 ∧ x ∈ l ∧ 1 ≤ x.2.2.1 ∧ x.2.2.1 ≤ 3 ∧ x.2.2.2 < 60
    | none => ∀ j, j < l.length → ¬ mIs σ f (e - f) 14 15 (off + j)
  | [], _, _ => fun j hj => absurd hj (Nat.not_lt_zero j)
  | x :: l, off, h => by
    obtain ⟨a1, a2, a3, a4, a5, a6, a7, a8, a9⟩ := h 0 x rfl
    have ih := find_gl (f := f) (e := e) hT hp hpl l (off + 1) (fun k y hy => by rw [show off + 1 + k = off + (k + 1) by omega]; exact h (k + 1) y hy)
    have hx := mIs_row (f := f) (e := e) hT a2 a3 (by omega) (fun i hi => by rw [hpl _ (by omega)]; exact a9 i hi)
    have hlen : (x :: l).length = l.length + 1 := rfl
    rw [List.find?_cons]
    by_cases hc : x.1 = seg T f e
    · rw [decide_eq_true hc]
      exact ⟨0, by omega, hx.mpr hc, fun j h1 => absurd h1 (Nat.not_lt_zero j), a1, a4, List.mem_cons_self, a7, a6, a8⟩
    · rw [decide_eq_false hc]
      cases hf : l.find? (fun x => decide (x.1 = seg T f e)) with
      | none =>
        rw [hf] at ih
        intro j hj
        cases j with
        | zero => exact fun z => hc (hx.mp z)
        | succ j => rw [show off + (j + 1) = off + 1 + j by omega]; exact ih j (by omega)
      | some y =>
        rw [hf] at ih
        obtain ⟨k, k1, k2, k3, k4, k5, k6, k7⟩ := ih
        refine ⟨k + 1, by omega, by rw [show off + (k + 1) = off + 1 + k by omega]; exact k2, fun j h1 => ?_, by rw [show off + (k + 1) = off + 1 + k by omega]; exact k4, by rw [show off + (k + 1) = off + 1 + k by omega]; exact k5, List.mem_cons_of_mem _ k6, k7⟩
        cases j with
        | zero => exact fun z => hc (hx.mp z)
        | succ j => rw [show off + (j + 1) = off + 1 + j by omega]; exact k3 j (by omega)
theorem rows_mRow {j1 j2 j3 p : Nat} {pool : Nat → Int32} (hp : p ≤ 70000) : ∀ l : List Nm, rowsOK (σ.2.2 j1) (σ.2.2 j2) (σ.2.2 j3) pool p l → ∀ j, j < l.length → ∃ p l, mRow σ j1 j2 j p l
  | [], _, j, hj => absurd hj (Nat.not_lt_zero j)
  | x :: l, ⟨⟨a, b, c, d, _⟩, h⟩, j, hj => by
    by_cases he : j = l.length
    · subst he; exact ⟨x.2.1, x.1.length, a, b, by omega⟩
    · exact rows_mRow hp l h j (by have : (x :: l).length = l.length + 1 := rfl; omega)
/-- which name it is -/
theorem p_find (h : PS T n E o q v b σ) (hp : b.2.1 ≤ 70000) (L : Nat → Int32) : Tm (fun k => x_find k 0 L σ) (fun r => PS T n E o q v b r.2 ∧ FrM M P w σ r.2 ∧ (∀ j, j ≠ 46 → j ≠ 47 → j ≠ 48 → r.2.1 j = σ.1 j) ∧ r.2.1 46 = nI (fd E (tkS T n q)).1 ∧ (fd E (tkS T n q)).1 ≤ 3 ∧ (¬ (fd E (tkS T n q)).1 = 0 → r.2.1 47 = nI (fd E (tkS T n q)).2.1 ∧ r.2.1 48 = (fd E (tkS T n q)).2.2 ∧ (fd E (tkS T n q)).2.1 < 60) ∧ (¬ (fd E (tkS T n q)).1 = 0 → ¬ (fd E (tkS T n q)).1 = 1 → (fd E (tkS T n q)).2.1 < 41 ∧ σ.2.2 18 (fd E (tkS T n q)).2.1 = nI (E.2.2.2.2.2.2 (fd E (tkS T n q)).2.1) ∧ E.2.2.2.2.2.2 (fd E (tkS T n q)).2.1 ≤ 8)) := by
  have h0 := h
  obtain ⟨⟨⟨a1, a2⟩, a3, a4, a5, ⟨c1, c2, c3, c4, c5, c6⟩, a6⟩, ⟨d1, d2⟩, ⟨e1, e2, e3, e4, e5⟩, ⟨f1, f2, f3, f4, f5⟩, ⟨⟨g1, g2, g3⟩, ⟨g4, g5, g6⟩, ⟨g7, g8, g9⟩⟩, ⟨i1, i2, i3⟩⟩ := h
  have hE := tkE_b T n q c1
  have hr1 := find_rows (f := q) (e := tkE T n q) a3 hp e5 E.2.1 g3
  have hr2 := find_gl (f := q) (e := tkE T n q) a3 hp e5 E.1 0 (fun k x hx => by rw [Nat.zero_add]; exact g9 k x hx)
  have hgl : ∀ j, j < E.1.length → ∃ p l, mRow σ 14 15 j p l := fun j hj => by
    obtain ⟨k1, k2, k3, k4, k5, _⟩ := g9 j E.1[j] (List.getElem?_eq_getElem hj)
    exact ⟨_, _, k2, k3, by omega⟩
  refine Tm_mono (s_find c2 c4 hE.1 (by omega) g1 (by omega) g7 g8 (rows_mRow hp E.2.1 g3) hgl L) (fun r hr => ?_)
  obtain ⟨z, u, y⟩ := r
  obtain ⟨hy, hu, hf⟩ := hr
  have hy : y = σ.2 := hy
  subst hy
  have hu : ∀ j, j ≠ 46 → j ≠ 47 → j ≠ 48 → u j = σ.1 j := hu
  have hf : _ := hf
  refine ⟨PS_sc h0 (fun j hj => hu j (by omega) (by omega) (by omega)), FrM_sc (fun j hj => hu j (by omega) (by omega) (by omega)), hu, ?_⟩
  show u 46 = nI (fd E (tkS T n q)).1 ∧ (fd E (tkS T n q)).1 ≤ 3 ∧ (¬ (fd E (tkS T n q)).1 = 0 → u 47 = nI (fd E (tkS T n q)).2.1 ∧ u 48 = (fd E (tkS T n q)).2.2 ∧ (fd E (tkS T n q)).2.1 < 60) ∧ _
  have e37 : (if σ.1 37 ≤ 0 then (0 : Int32) else 1) = (if E.2.2.2.1 = 0 then 0 else 1) := by
    rw [f1]
    by_cases hw : E.2.2.2.1 = 0
    · rw [if_pos hw, hw, if_pos (by decide)]
    · rw [if_neg hw, if_neg]
      intro z
      have z : nI E.2.2.2.1 ≤ nI 0 := z
      rw [n_le (by omega) (by omega)] at z; omega
  have hks : ∀ l : List Int32, (l = tkS T n q) = (l = seg T q (tkE T n q)) := fun _ => rfl
  unfold fd
  rw [show tkS T n q = seg T q (tkE T n q) from rfl]
  cases hS : E.2.1.find? (fun x => decide (x.1 = seg T q (tkE T n q))) with
  | some x =>
    rw [hS] at hr1
    obtain ⟨k, k1, k2, k3, k4, k5⟩ := hr1
    rcases hf with ⟨k', q1, q2, q3, q4, q5, q6⟩ | ⟨q1, _⟩ | ⟨q1, _⟩
    · have : k' = k := by
        by_cases h1 : k' < k
        · exact absurd k2 (q3 k h1 k1)
        · by_cases h2 : k < k'
          · exact absurd q2 (k3 k' h2 q1)
          · omega
      subst this
      exact ⟨q4, by dsimp only; omega, fun _ => ⟨q5.trans k4, q6.trans e37, k5⟩, fun _ z => absurd rfl z⟩
    · exact absurd k2 (q1 k k1)
    · exact absurd k2 (q1 k k1)
  | none =>
    rw [hS] at hr1
    cases hG : E.1.find? (fun x => decide (x.1 = seg T q (tkE T n q))) with
    | some x =>
      rw [hG] at hr2
      obtain ⟨k, k1, k2, k3, k4, k5, k6, k7, k8, k9⟩ := hr2
      rw [Nat.zero_add] at k2 k4 k5
      rcases hf with ⟨k', q1, q2, _⟩ | ⟨_, k', q1, q2, q3, q4, q5, q6⟩ | ⟨_, q1, _⟩
      · exact absurd q2 (hr1 k' q1)
      · have : k' = k := by
          by_cases h1 : k' < k
          · have := k3 k' h1
            rw [Nat.zero_add] at this
            exact absurd q2 this
          · by_cases h2 : k < k'
            · exact absurd k2 (q3 k h2)
            · omega
        subst this
        refine ⟨q4.trans k4, k8, fun _ => ⟨q5.trans k5, q6, k9⟩, fun _ z => ?_⟩
        exact i3 x k6 z
      · exact absurd k2 (q1 k k1)
    | none =>
      rw [hG] at hr2
      rcases hf with ⟨k', q1, q2, _⟩ | ⟨_, k', q1, q2, _⟩ | ⟨_, _, q1⟩
      · exact absurd q2 (hr1 k' q1)
      · have := hr2 k' q1
        rw [Nat.zero_add] at this
        exact absurd q2 this
      · exact ⟨q1, Nat.zero_le 3, fun z => absurd rfl z, fun z => absurd rfl z⟩
end NAMES

/-! Kinds and left parts of nodes stay as they were laid. -/
section BK
variable {b : BT} {k x y z u : Int32} {l j i m f h : Nat} {T : Nat → Int32}
theorem bNode_k (hi : i < b.1) : (bNode b k x y z).2.2.1 j i = b.2.2.1 j i := node_old b.2.2.1 b.1 i k x y z j (by omega)
theorem bSet_k (h : j < 8 ∨ 9 < j) (hh : m = 8 ∨ m = 9) : (bSet b m l x).2.2.1 j i = b.2.2.1 j i := by
  show updG b.2.2.1 m (upd (b.2.2.1 m) l x) j i = _
  rw [updG_other (by omega)]
theorem bOver_k (h : j < 8 ∨ 9 < j) (hi : i < b.1) : (bOver b k x l z).2.2.1 j i = b.2.2.1 j i := by
  unfold bOver
  rw [bSet_k h (Or.inr rfl), bNode_k hi]
theorem bWrap_k (h : j < 8 ∨ 9 < j) (hi : i < b.1) : (bWrap b k x y z u).2.2.1 j i = b.2.2.1 j i := by
  unfold bWrap
  rw [bSet_k h (Or.inl rfl), bNode_k hi]
theorem bKeep_k : (bKeep b T f m).2.2.1 j i = b.2.2.1 j i := rfl
theorem bSlot_k : (bSlot b m x).2.2.1 j i = b.2.2.1 j i := rfl
end BK
abbrev GK (T : Nat → Int32) (n j f : Nat) : Prop := ∀ (nt : Nat) (E : En) (o q v i e c g : Nat) (b : BT) (r : RT), q ≤ n → v ≤ 60 → 1 ≤ b.1 → G T n f nt E o q v i e c g b = some (Sum.inr r) → Nd0 nt 1 b i e c → ∀ h : Nat, h < b.1 → r.2.2.2.2.1.2.2.1 j h = b.2.2.1 j h
theorem gk_0 {T : Nat → Int32} {n j f : Nat} (hj : j < 8 ∨ 9 < j) (ih : GK T n j f) {E : En} {o q v i e c g : Nat} {b : BT} {r : RT} (hq : q ≤ n) (hv : v ≤ 60) (hb : 1 ≤ b.1) (hG : G T n (f + 1) 0 E o q v i e c g b = some (Sum.inr r)) (hN : Nd0 0 1 b i e c) : ∀ h : Nat, h < b.1 → r.2.2.2.2.1.2.2.1 j h = b.2.2.1 j h := by
  rw [G_0] at hG
  obtain ⟨s1, g1, hG⟩ := gb_s hG
  have x1 := g_mono T n f _ _ _ _ _ _ _ _ _ _ s1 (by omega) (by omega) g1 1 (by first | omega | (simp only [bNode_1, bNode_p, bSet_1, bSet_p, bOver_1, bOver_p, bWrap_1, bWrap_p, bKeep_1, bKeep_p, bSlot_1, bSlot_p]; omega)) (by decide) (trivial)
  obtain ⟨a1, b1, c1, d1, e1, f1, h1, i1⟩ := (x1.1 : Mo n _ _ _ s1)
  have j1 : 1 ≤ s1.2.2.2.1 ∧ s1.2.2.2.1 < s1.2.2.2.2.1.1 := x1.2
  have k1 := ih _ _ _ _ _ _ _ _ _ _ s1 (by omega) (by omega) (by first | omega | (simp only [bNode_1, bNode_p, bSet_1, bSet_p, bOver_1, bOver_p, bWrap_1, bWrap_p, bKeep_1, bKeep_p, bSlot_1, bSlot_p]; omega)) g1 (trivial)
  try simp only [bNode_1, bNode_p, bSet_1, bSet_p, bOver_1, bOver_p, bWrap_1, bWrap_p, bKeep_1, bKeep_p, bSlot_1, bSlot_p] at a1 b1 c1 d1 e1 f1 h1 i1
  try dsimp only at hG
  intro h hh
  rw [ih _ _ _ _ _ _ _ _ _ _ r (by omega) (by omega) (by first | omega | (simp only [bNode_1, bNode_p, bSet_1, bSet_p, bOver_1, bOver_p, bWrap_1, bWrap_p, bKeep_1, bKeep_p, bSlot_1, bSlot_p]; omega)) hG ((⟨by omega, by first | omega | (simp only [bNode_1, bNode_p, bSet_1, bSet_p, bOver_1, bOver_p, bWrap_1, bWrap_p, bKeep_1, bKeep_p, bSlot_1, bSlot_p]; omega)⟩ : 1 ≤ _ ∧ _ < _)) h (by first | omega | (simp only [bNode_1, bNode_p, bSet_1, bSet_p, bOver_1, bOver_p, bWrap_1, bWrap_p, bKeep_1, bKeep_p, bSlot_1, bSlot_p]; omega))]
  try dsimp only
  (try rw [bNode_k (by first | omega | (simp only [bNode_1, bNode_p, bSet_1, bSet_p, bOver_1, bOver_p, bWrap_1, bWrap_p, bKeep_1, bKeep_p, bSlot_1, bSlot_p]; omega))]); (try rw [bSet_k hj (by decide)]); (try rw [bOver_k hj (by first | omega | (simp only [bNode_1, bNode_p, bSet_1, bSet_p, bOver_1, bOver_p, bWrap_1, bWrap_p, bKeep_1, bKeep_p, bSlot_1, bSlot_p]; omega))]); (try rw [bWrap_k hj (by first | omega | (simp only [bNode_1, bNode_p, bSet_1, bSet_p, bOver_1, bOver_p, bWrap_1, bWrap_p, bKeep_1, bKeep_p, bSlot_1, bSlot_p]; omega))]); (try rw [bNode_k (by first | omega | (simp only [bNode_1, bNode_p, bSet_1, bSet_p, bOver_1, bOver_p, bWrap_1, bWrap_p, bKeep_1, bKeep_p, bSlot_1, bSlot_p]; omega))]); (try rw [bKeep_k]); (try rw [bSlot_k]); (try rw [k1 h (by first | omega | (simp only [bNode_1, bNode_p, bSet_1, bSet_p, bOver_1, bOver_p, bWrap_1, bWrap_p, bKeep_1, bKeep_p, bSlot_1, bSlot_p]; omega))]); (try rw [bNode_k (by first | omega | (simp only [bNode_1, bNode_p, bSet_1, bSet_p, bOver_1, bOver_p, bWrap_1, bWrap_p, bKeep_1, bKeep_p, bSlot_1, bSlot_p]; omega))]); (try rw [bSet_k hj (by decide)]); (try rw [bOver_k hj (by first | omega | (simp only [bNode_1, bNode_p, bSet_1, bSet_p, bOver_1, bOver_p, bWrap_1, bWrap_p, bKeep_1, bKeep_p, bSlot_1, bSlot_p]; omega))]); (try rw [bWrap_k hj (by first | omega | (simp only [bNode_1, bNode_p, bSet_1, bSet_p, bOver_1, bOver_p, bWrap_1, bWrap_p, bKeep_1, bKeep_p, bSlot_1, bSlot_p]; omega))]); (try rw [bNode_k (by first | omega | (simp only [bNode_1, bNode_p, bSet_1, bSet_p, bOver_1, bOver_p, bWrap_1, bWrap_p, bKeep_1, bKeep_p, bSlot_1, bSlot_p]; omega))]); (try rw [bKeep_k]); (try rw [bSlot_k]); (try rfl)
theorem gk_1 {T : Nat → Int32} {n j f : Nat} (hj : j < 8 ∨ 9 < j) (ih : GK T n j f) {E : En} {o q v i e c g : Nat} {b : BT} {r : RT} (hq : q ≤ n) (hv : v ≤ 60) (hb : 1 ≤ b.1) (hG : G T n (f + 1) 1 E o q v i e c g b = some (Sum.inr r)) (hN : Nd0 1 1 b i e c) : ∀ h : Nat, h < b.1 → r.2.2.2.2.1.2.2.1 j h = b.2.2.1 j h := by
  rw [G_1] at hG
  have hN : 1 ≤ e ∧ e < b.1 := hN
  by_cases y1 : tkK T n q = 65
  · rw [if_pos y1] at hG
    obtain ⟨t2, hG⟩ := gT_s hG
    have u2 := tkN_b T n q (by omega)
    try dsimp only at hG
    obtain ⟨s3, g3, hG⟩ := gb_s hG
    have x3 := g_mono T n f _ _ _ _ _ _ _ _ _ _ s3 (by omega) (by omega) g3 1 (by first | omega | (simp only [bNode_1, bNode_p, bSet_1, bSet_p, bOver_1, bOver_p, bWrap_1, bWrap_p, bKeep_1, bKeep_p, bSlot_1, bSlot_p]; omega)) (by decide) (trivial)
    obtain ⟨a3, b3, c3, d3, e3, f3, h3, i3⟩ := (x3.1 : Mo n _ _ _ s3)
    have j3 : 1 ≤ s3.2.2.2.1 ∧ s3.2.2.2.1 < s3.2.2.2.2.1.1 := x3.2
    have k3 := ih _ _ _ _ _ _ _ _ _ _ s3 (by omega) (by omega) (by first | omega | (simp only [bNode_1, bNode_p, bSet_1, bSet_p, bOver_1, bOver_p, bWrap_1, bWrap_p, bKeep_1, bKeep_p, bSlot_1, bSlot_p]; omega)) g3 (trivial)
    try simp only [bNode_1, bNode_p, bSet_1, bSet_p, bOver_1, bOver_p, bWrap_1, bWrap_p, bKeep_1, bKeep_p, bSlot_1, bSlot_p] at a3 b3 c3 d3 e3 f3 h3 i3
    try dsimp only at hG
    intro h hh
    rw [ih _ _ _ _ _ _ _ _ _ _ r (by omega) (by omega) (by first | omega | (simp only [bNode_1, bNode_p, bSet_1, bSet_p, bOver_1, bOver_p, bWrap_1, bWrap_p, bKeep_1, bKeep_p, bSlot_1, bSlot_p]; omega)) hG ((⟨by omega, by first | omega | (simp only [bNode_1, bNode_p, bSet_1, bSet_p, bOver_1, bOver_p, bWrap_1, bWrap_p, bKeep_1, bKeep_p, bSlot_1, bSlot_p]; omega)⟩ : 1 ≤ _ ∧ _ < _)) h (by first | omega | (simp only [bNode_1, bNode_p, bSet_1, bSet_p, bOver_1, bOver_p, bWrap_1, bWrap_p, bKeep_1, bKeep_p, bSlot_1, bSlot_p]; omega))]
    try dsimp only
    (try rw [bNode_k (by first | omega | (simp only [bNode_1, bNode_p, bSet_1, bSet_p, bOver_1, bOver_p, bWrap_1, bWrap_p, bKeep_1, bKeep_p, bSlot_1, bSlot_p]; omega))]); (try rw [bSet_k hj (by decide)]); (try rw [bOver_k hj (by first | omega | (simp only [bNode_1, bNode_p, bSet_1, bSet_p, bOver_1, bOver_p, bWrap_1, bWrap_p, bKeep_1, bKeep_p, bSlot_1, bSlot_p]; omega))]); (try rw [bWrap_k hj (by first | omega | (simp only [bNode_1, bNode_p, bSet_1, bSet_p, bOver_1, bOver_p, bWrap_1, bWrap_p, bKeep_1, bKeep_p, bSlot_1, bSlot_p]; omega))]); (try rw [bNode_k (by first | omega | (simp only [bNode_1, bNode_p, bSet_1, bSet_p, bOver_1, bOver_p, bWrap_1, bWrap_p, bKeep_1, bKeep_p, bSlot_1, bSlot_p]; omega))]); (try rw [bKeep_k]); (try rw [bSlot_k]); (try rw [k3 h (by first | omega | (simp only [bNode_1, bNode_p, bSet_1, bSet_p, bOver_1, bOver_p, bWrap_1, bWrap_p, bKeep_1, bKeep_p, bSlot_1, bSlot_p]; omega))]); (try rw [bNode_k (by first | omega | (simp only [bNode_1, bNode_p, bSet_1, bSet_p, bOver_1, bOver_p, bWrap_1, bWrap_p, bKeep_1, bKeep_p, bSlot_1, bSlot_p]; omega))]); (try rw [bSet_k hj (by decide)]); (try rw [bOver_k hj (by first | omega | (simp only [bNode_1, bNode_p, bSet_1, bSet_p, bOver_1, bOver_p, bWrap_1, bWrap_p, bKeep_1, bKeep_p, bSlot_1, bSlot_p]; omega))]); (try rw [bWrap_k hj (by first | omega | (simp only [bNode_1, bNode_p, bSet_1, bSet_p, bOver_1, bOver_p, bWrap_1, bWrap_p, bKeep_1, bKeep_p, bSlot_1, bSlot_p]; omega))]); (try rw [bNode_k (by first | omega | (simp only [bNode_1, bNode_p, bSet_1, bSet_p, bOver_1, bOver_p, bWrap_1, bWrap_p, bKeep_1, bKeep_p, bSlot_1, bSlot_p]; omega))]); (try rw [bKeep_k]); (try rw [bSlot_k]); (try rfl)
  · rw [if_neg y1] at hG
    cases hG
    intro h hh
    try dsimp only
    (try rw [bNode_k (by first | omega | (simp only [bNode_1, bNode_p, bSet_1, bSet_p, bOver_1, bOver_p, bWrap_1, bWrap_p, bKeep_1, bKeep_p, bSlot_1, bSlot_p]; omega))]); (try rw [bSet_k hj (by decide)]); (try rw [bOver_k hj (by first | omega | (simp only [bNode_1, bNode_p, bSet_1, bSet_p, bOver_1, bOver_p, bWrap_1, bWrap_p, bKeep_1, bKeep_p, bSlot_1, bSlot_p]; omega))]); (try rw [bWrap_k hj (by first | omega | (simp only [bNode_1, bNode_p, bSet_1, bSet_p, bOver_1, bOver_p, bWrap_1, bWrap_p, bKeep_1, bKeep_p, bSlot_1, bSlot_p]; omega))]); (try rw [bNode_k (by first | omega | (simp only [bNode_1, bNode_p, bSet_1, bSet_p, bOver_1, bOver_p, bWrap_1, bWrap_p, bKeep_1, bKeep_p, bSlot_1, bSlot_p]; omega))]); (try rw [bKeep_k]); (try rw [bSlot_k]); (try rfl)
theorem gk_2 {T : Nat → Int32} {n j f : Nat} (hj : j < 8 ∨ 9 < j) (ih : GK T n j f) {E : En} {o q v i e c g : Nat} {b : BT} {r : RT} (hq : q ≤ n) (hv : v ≤ 60) (hb : 1 ≤ b.1) (hG : G T n (f + 1) 2 E o q v i e c g b = some (Sum.inr r)) (hN : Nd0 2 1 b i e c) : ∀ h : Nat, h < b.1 → r.2.2.2.2.1.2.2.1 j h = b.2.2.1 j h := by
  rw [G_2] at hG
  obtain ⟨s1, g1, hG⟩ := gb_s hG
  have x1 := g_mono T n f _ _ _ _ _ _ _ _ _ _ s1 (by omega) (by omega) g1 1 (by first | omega | (simp only [bNode_1, bNode_p, bSet_1, bSet_p, bOver_1, bOver_p, bWrap_1, bWrap_p, bKeep_1, bKeep_p, bSlot_1, bSlot_p]; omega)) (by decide) (trivial)
  obtain ⟨a1, b1, c1, d1, e1, f1, h1, i1⟩ := (x1.1 : Mo n _ _ _ s1)
  have j1 : 1 ≤ s1.2.2.2.1 ∧ s1.2.2.2.1 < s1.2.2.2.2.1.1 := x1.2
  have k1 := ih _ _ _ _ _ _ _ _ _ _ s1 (by omega) (by omega) (by first | omega | (simp only [bNode_1, bNode_p, bSet_1, bSet_p, bOver_1, bOver_p, bWrap_1, bWrap_p, bKeep_1, bKeep_p, bSlot_1, bSlot_p]; omega)) g1 (trivial)
  try simp only [bNode_1, bNode_p, bSet_1, bSet_p, bOver_1, bOver_p, bWrap_1, bWrap_p, bKeep_1, bKeep_p, bSlot_1, bSlot_p] at a1 b1 c1 d1 e1 f1 h1 i1
  try dsimp only at hG
  intro h hh
  rw [ih _ _ _ _ _ _ _ _ _ _ r (by omega) (by omega) (by first | omega | (simp only [bNode_1, bNode_p, bSet_1, bSet_p, bOver_1, bOver_p, bWrap_1, bWrap_p, bKeep_1, bKeep_p, bSlot_1, bSlot_p]; omega)) hG ((⟨by omega, by first | omega | (simp only [bNode_1, bNode_p, bSet_1, bSet_p, bOver_1, bOver_p, bWrap_1, bWrap_p, bKeep_1, bKeep_p, bSlot_1, bSlot_p]; omega)⟩ : 1 ≤ _ ∧ _ < _)) h (by first | omega | (simp only [bNode_1, bNode_p, bSet_1, bSet_p, bOver_1, bOver_p, bWrap_1, bWrap_p, bKeep_1, bKeep_p, bSlot_1, bSlot_p]; omega))]
  try dsimp only
  (try rw [bNode_k (by first | omega | (simp only [bNode_1, bNode_p, bSet_1, bSet_p, bOver_1, bOver_p, bWrap_1, bWrap_p, bKeep_1, bKeep_p, bSlot_1, bSlot_p]; omega))]); (try rw [bSet_k hj (by decide)]); (try rw [bOver_k hj (by first | omega | (simp only [bNode_1, bNode_p, bSet_1, bSet_p, bOver_1, bOver_p, bWrap_1, bWrap_p, bKeep_1, bKeep_p, bSlot_1, bSlot_p]; omega))]); (try rw [bWrap_k hj (by first | omega | (simp only [bNode_1, bNode_p, bSet_1, bSet_p, bOver_1, bOver_p, bWrap_1, bWrap_p, bKeep_1, bKeep_p, bSlot_1, bSlot_p]; omega))]); (try rw [bNode_k (by first | omega | (simp only [bNode_1, bNode_p, bSet_1, bSet_p, bOver_1, bOver_p, bWrap_1, bWrap_p, bKeep_1, bKeep_p, bSlot_1, bSlot_p]; omega))]); (try rw [bKeep_k]); (try rw [bSlot_k]); (try rw [k1 h (by first | omega | (simp only [bNode_1, bNode_p, bSet_1, bSet_p, bOver_1, bOver_p, bWrap_1, bWrap_p, bKeep_1, bKeep_p, bSlot_1, bSlot_p]; omega))]); (try rw [bNode_k (by first | omega | (simp only [bNode_1, bNode_p, bSet_1, bSet_p, bOver_1, bOver_p, bWrap_1, bWrap_p, bKeep_1, bKeep_p, bSlot_1, bSlot_p]; omega))]); (try rw [bSet_k hj (by decide)]); (try rw [bOver_k hj (by first | omega | (simp only [bNode_1, bNode_p, bSet_1, bSet_p, bOver_1, bOver_p, bWrap_1, bWrap_p, bKeep_1, bKeep_p, bSlot_1, bSlot_p]; omega))]); (try rw [bWrap_k hj (by first | omega | (simp only [bNode_1, bNode_p, bSet_1, bSet_p, bOver_1, bOver_p, bWrap_1, bWrap_p, bKeep_1, bKeep_p, bSlot_1, bSlot_p]; omega))]); (try rw [bNode_k (by first | omega | (simp only [bNode_1, bNode_p, bSet_1, bSet_p, bOver_1, bOver_p, bWrap_1, bWrap_p, bKeep_1, bKeep_p, bSlot_1, bSlot_p]; omega))]); (try rw [bKeep_k]); (try rw [bSlot_k]); (try rfl)
theorem gk_3 {T : Nat → Int32} {n j f : Nat} (hj : j < 8 ∨ 9 < j) (ih : GK T n j f) {E : En} {o q v i e c g : Nat} {b : BT} {r : RT} (hq : q ≤ n) (hv : v ≤ 60) (hb : 1 ≤ b.1) (hG : G T n (f + 1) 3 E o q v i e c g b = some (Sum.inr r)) (hN : Nd0 3 1 b i e c) : ∀ h : Nat, h < b.1 → r.2.2.2.2.1.2.2.1 j h = b.2.2.1 j h := by
  rw [G_3] at hG
  have hN : 1 ≤ e ∧ e < b.1 := hN
  by_cases y1 : tkK T n q = 64
  · rw [if_pos y1] at hG
    obtain ⟨t2, hG⟩ := gT_s hG
    have u2 := tkN_b T n q (by omega)
    try dsimp only at hG
    obtain ⟨s3, g3, hG⟩ := gb_s hG
    have x3 := g_mono T n f _ _ _ _ _ _ _ _ _ _ s3 (by omega) (by omega) g3 1 (by first | omega | (simp only [bNode_1, bNode_p, bSet_1, bSet_p, bOver_1, bOver_p, bWrap_1, bWrap_p, bKeep_1, bKeep_p, bSlot_1, bSlot_p]; omega)) (by decide) (trivial)
    obtain ⟨a3, b3, c3, d3, e3, f3, h3, i3⟩ := (x3.1 : Mo n _ _ _ s3)
    have j3 : 1 ≤ s3.2.2.2.1 ∧ s3.2.2.2.1 < s3.2.2.2.2.1.1 := x3.2
    have k3 := ih _ _ _ _ _ _ _ _ _ _ s3 (by omega) (by omega) (by first | omega | (simp only [bNode_1, bNode_p, bSet_1, bSet_p, bOver_1, bOver_p, bWrap_1, bWrap_p, bKeep_1, bKeep_p, bSlot_1, bSlot_p]; omega)) g3 (trivial)
    try simp only [bNode_1, bNode_p, bSet_1, bSet_p, bOver_1, bOver_p, bWrap_1, bWrap_p, bKeep_1, bKeep_p, bSlot_1, bSlot_p] at a3 b3 c3 d3 e3 f3 h3 i3
    try dsimp only at hG
    intro h hh
    rw [ih _ _ _ _ _ _ _ _ _ _ r (by omega) (by omega) (by first | omega | (simp only [bNode_1, bNode_p, bSet_1, bSet_p, bOver_1, bOver_p, bWrap_1, bWrap_p, bKeep_1, bKeep_p, bSlot_1, bSlot_p]; omega)) hG ((⟨by omega, by first | omega | (simp only [bNode_1, bNode_p, bSet_1, bSet_p, bOver_1, bOver_p, bWrap_1, bWrap_p, bKeep_1, bKeep_p, bSlot_1, bSlot_p]; omega)⟩ : 1 ≤ _ ∧ _ < _)) h (by first | omega | (simp only [bNode_1, bNode_p, bSet_1, bSet_p, bOver_1, bOver_p, bWrap_1, bWrap_p, bKeep_1, bKeep_p, bSlot_1, bSlot_p]; omega))]
    try dsimp only
    (try rw [bNode_k (by first | omega | (simp only [bNode_1, bNode_p, bSet_1, bSet_p, bOver_1, bOver_p, bWrap_1, bWrap_p, bKeep_1, bKeep_p, bSlot_1, bSlot_p]; omega))]); (try rw [bSet_k hj (by decide)]); (try rw [bOver_k hj (by first | omega | (simp only [bNode_1, bNode_p, bSet_1, bSet_p, bOver_1, bOver_p, bWrap_1, bWrap_p, bKeep_1, bKeep_p, bSlot_1, bSlot_p]; omega))]); (try rw [bWrap_k hj (by first | omega | (simp only [bNode_1, bNode_p, bSet_1, bSet_p, bOver_1, bOver_p, bWrap_1, bWrap_p, bKeep_1, bKeep_p, bSlot_1, bSlot_p]; omega))]); (try rw [bNode_k (by first | omega | (simp only [bNode_1, bNode_p, bSet_1, bSet_p, bOver_1, bOver_p, bWrap_1, bWrap_p, bKeep_1, bKeep_p, bSlot_1, bSlot_p]; omega))]); (try rw [bKeep_k]); (try rw [bSlot_k]); (try rw [k3 h (by first | omega | (simp only [bNode_1, bNode_p, bSet_1, bSet_p, bOver_1, bOver_p, bWrap_1, bWrap_p, bKeep_1, bKeep_p, bSlot_1, bSlot_p]; omega))]); (try rw [bNode_k (by first | omega | (simp only [bNode_1, bNode_p, bSet_1, bSet_p, bOver_1, bOver_p, bWrap_1, bWrap_p, bKeep_1, bKeep_p, bSlot_1, bSlot_p]; omega))]); (try rw [bSet_k hj (by decide)]); (try rw [bOver_k hj (by first | omega | (simp only [bNode_1, bNode_p, bSet_1, bSet_p, bOver_1, bOver_p, bWrap_1, bWrap_p, bKeep_1, bKeep_p, bSlot_1, bSlot_p]; omega))]); (try rw [bWrap_k hj (by first | omega | (simp only [bNode_1, bNode_p, bSet_1, bSet_p, bOver_1, bOver_p, bWrap_1, bWrap_p, bKeep_1, bKeep_p, bSlot_1, bSlot_p]; omega))]); (try rw [bNode_k (by first | omega | (simp only [bNode_1, bNode_p, bSet_1, bSet_p, bOver_1, bOver_p, bWrap_1, bWrap_p, bKeep_1, bKeep_p, bSlot_1, bSlot_p]; omega))]); (try rw [bKeep_k]); (try rw [bSlot_k]); (try rfl)
  · rw [if_neg y1] at hG
    cases hG
    intro h hh
    try dsimp only
    (try rw [bNode_k (by first | omega | (simp only [bNode_1, bNode_p, bSet_1, bSet_p, bOver_1, bOver_p, bWrap_1, bWrap_p, bKeep_1, bKeep_p, bSlot_1, bSlot_p]; omega))]); (try rw [bSet_k hj (by decide)]); (try rw [bOver_k hj (by first | omega | (simp only [bNode_1, bNode_p, bSet_1, bSet_p, bOver_1, bOver_p, bWrap_1, bWrap_p, bKeep_1, bKeep_p, bSlot_1, bSlot_p]; omega))]); (try rw [bWrap_k hj (by first | omega | (simp only [bNode_1, bNode_p, bSet_1, bSet_p, bOver_1, bOver_p, bWrap_1, bWrap_p, bKeep_1, bKeep_p, bSlot_1, bSlot_p]; omega))]); (try rw [bNode_k (by first | omega | (simp only [bNode_1, bNode_p, bSet_1, bSet_p, bOver_1, bOver_p, bWrap_1, bWrap_p, bKeep_1, bKeep_p, bSlot_1, bSlot_p]; omega))]); (try rw [bKeep_k]); (try rw [bSlot_k]); (try rfl)
theorem gk_4 {T : Nat → Int32} {n j f : Nat} (hj : j < 8 ∨ 9 < j) (ih : GK T n j f) {E : En} {o q v i e c g : Nat} {b : BT} {r : RT} (hq : q ≤ n) (hv : v ≤ 60) (hb : 1 ≤ b.1) (hG : G T n (f + 1) 4 E o q v i e c g b = some (Sum.inr r)) (hN : Nd0 4 1 b i e c) : ∀ h : Nat, h < b.1 → r.2.2.2.2.1.2.2.1 j h = b.2.2.1 j h := by
  rw [G_4] at hG
  by_cases y1 : tkK T n q = 66
  · rw [if_pos y1] at hG
    obtain ⟨_, hG⟩ := gO_s hG
    obtain ⟨t2, hG⟩ := gT_s hG
    have u2 := tkN_b T n q (by omega)
    try dsimp only at hG
    obtain ⟨s3, g3, hG⟩ := gb_s hG
    have x3 := g_mono T n f _ _ _ _ _ _ _ _ _ _ s3 (by omega) (by omega) g3 1 (by first | omega | (simp only [bNode_1, bNode_p, bSet_1, bSet_p, bOver_1, bOver_p, bWrap_1, bWrap_p, bKeep_1, bKeep_p, bSlot_1, bSlot_p]; omega)) (by decide) (trivial)
    obtain ⟨a3, b3, c3, d3, e3, f3, h3, i3⟩ := (x3.1 : Mo n _ _ _ s3)
    have j3 : 1 ≤ s3.2.2.2.1 ∧ s3.2.2.2.1 < s3.2.2.2.2.1.1 := x3.2
    have k3 := ih _ _ _ _ _ _ _ _ _ _ s3 (by omega) (by omega) (by first | omega | (simp only [bNode_1, bNode_p, bSet_1, bSet_p, bOver_1, bOver_p, bWrap_1, bWrap_p, bKeep_1, bKeep_p, bSlot_1, bSlot_p]; omega)) g3 (trivial)
    try simp only [bNode_1, bNode_p, bSet_1, bSet_p, bOver_1, bOver_p, bWrap_1, bWrap_p, bKeep_1, bKeep_p, bSlot_1, bSlot_p] at a3 b3 c3 d3 e3 f3 h3 i3
    try dsimp only at hG
    cases hG
    intro h hh
    try dsimp only
    (try rw [bNode_k (by first | omega | (simp only [bNode_1, bNode_p, bSet_1, bSet_p, bOver_1, bOver_p, bWrap_1, bWrap_p, bKeep_1, bKeep_p, bSlot_1, bSlot_p]; omega))]); (try rw [bSet_k hj (by decide)]); (try rw [bOver_k hj (by first | omega | (simp only [bNode_1, bNode_p, bSet_1, bSet_p, bOver_1, bOver_p, bWrap_1, bWrap_p, bKeep_1, bKeep_p, bSlot_1, bSlot_p]; omega))]); (try rw [bWrap_k hj (by first | omega | (simp only [bNode_1, bNode_p, bSet_1, bSet_p, bOver_1, bOver_p, bWrap_1, bWrap_p, bKeep_1, bKeep_p, bSlot_1, bSlot_p]; omega))]); (try rw [bNode_k (by first | omega | (simp only [bNode_1, bNode_p, bSet_1, bSet_p, bOver_1, bOver_p, bWrap_1, bWrap_p, bKeep_1, bKeep_p, bSlot_1, bSlot_p]; omega))]); (try rw [bKeep_k]); (try rw [bSlot_k]); (try rw [k3 h (by first | omega | (simp only [bNode_1, bNode_p, bSet_1, bSet_p, bOver_1, bOver_p, bWrap_1, bWrap_p, bKeep_1, bKeep_p, bSlot_1, bSlot_p]; omega))]); (try rw [bNode_k (by first | omega | (simp only [bNode_1, bNode_p, bSet_1, bSet_p, bOver_1, bOver_p, bWrap_1, bWrap_p, bKeep_1, bKeep_p, bSlot_1, bSlot_p]; omega))]); (try rw [bSet_k hj (by decide)]); (try rw [bOver_k hj (by first | omega | (simp only [bNode_1, bNode_p, bSet_1, bSet_p, bOver_1, bOver_p, bWrap_1, bWrap_p, bKeep_1, bKeep_p, bSlot_1, bSlot_p]; omega))]); (try rw [bWrap_k hj (by first | omega | (simp only [bNode_1, bNode_p, bSet_1, bSet_p, bOver_1, bOver_p, bWrap_1, bWrap_p, bKeep_1, bKeep_p, bSlot_1, bSlot_p]; omega))]); (try rw [bNode_k (by first | omega | (simp only [bNode_1, bNode_p, bSet_1, bSet_p, bOver_1, bOver_p, bWrap_1, bWrap_p, bKeep_1, bKeep_p, bSlot_1, bSlot_p]; omega))]); (try rw [bKeep_k]); (try rw [bSlot_k]); (try rfl)
  · rw [if_neg y1] at hG
    intro h hh
    rw [ih _ _ _ _ _ _ _ _ _ _ r (by omega) (by omega) (by first | omega | (simp only [bNode_1, bNode_p, bSet_1, bSet_p, bOver_1, bOver_p, bWrap_1, bWrap_p, bKeep_1, bKeep_p, bSlot_1, bSlot_p]; omega)) hG (trivial) h (by first | omega | (simp only [bNode_1, bNode_p, bSet_1, bSet_p, bOver_1, bOver_p, bWrap_1, bWrap_p, bKeep_1, bKeep_p, bSlot_1, bSlot_p]; omega))]
    try dsimp only
    (try rw [bNode_k (by first | omega | (simp only [bNode_1, bNode_p, bSet_1, bSet_p, bOver_1, bOver_p, bWrap_1, bWrap_p, bKeep_1, bKeep_p, bSlot_1, bSlot_p]; omega))]); (try rw [bSet_k hj (by decide)]); (try rw [bOver_k hj (by first | omega | (simp only [bNode_1, bNode_p, bSet_1, bSet_p, bOver_1, bOver_p, bWrap_1, bWrap_p, bKeep_1, bKeep_p, bSlot_1, bSlot_p]; omega))]); (try rw [bWrap_k hj (by first | omega | (simp only [bNode_1, bNode_p, bSet_1, bSet_p, bOver_1, bOver_p, bWrap_1, bWrap_p, bKeep_1, bKeep_p, bSlot_1, bSlot_p]; omega))]); (try rw [bNode_k (by first | omega | (simp only [bNode_1, bNode_p, bSet_1, bSet_p, bOver_1, bOver_p, bWrap_1, bWrap_p, bKeep_1, bKeep_p, bSlot_1, bSlot_p]; omega))]); (try rw [bKeep_k]); (try rw [bSlot_k]); (try rfl)
theorem gk_5 {T : Nat → Int32} {n j f : Nat} (hj : j < 8 ∨ 9 < j) (ih : GK T n j f) {E : En} {o q v i e c g : Nat} {b : BT} {r : RT} (hq : q ≤ n) (hv : v ≤ 60) (hb : 1 ≤ b.1) (hG : G T n (f + 1) 5 E o q v i e c g b = some (Sum.inr r)) (hN : Nd0 5 1 b i e c) : ∀ h : Nat, h < b.1 → r.2.2.2.2.1.2.2.1 j h = b.2.2.1 j h := by
  rw [G_5] at hG
  obtain ⟨s1, g1, hG⟩ := gb_s hG
  have x1 := g_mono T n f _ _ _ _ _ _ _ _ _ _ s1 (by omega) (by omega) g1 1 (by first | omega | (simp only [bNode_1, bNode_p, bSet_1, bSet_p, bOver_1, bOver_p, bWrap_1, bWrap_p, bKeep_1, bKeep_p, bSlot_1, bSlot_p]; omega)) (by decide) (trivial)
  obtain ⟨a1, b1, c1, d1, e1, f1, h1, i1⟩ := (x1.1 : Mo n _ _ _ s1)
  have j1 : 1 ≤ s1.2.2.2.1 ∧ s1.2.2.2.1 < s1.2.2.2.2.1.1 := x1.2
  have k1 := ih _ _ _ _ _ _ _ _ _ _ s1 (by omega) (by omega) (by first | omega | (simp only [bNode_1, bNode_p, bSet_1, bSet_p, bOver_1, bOver_p, bWrap_1, bWrap_p, bKeep_1, bKeep_p, bSlot_1, bSlot_p]; omega)) g1 (trivial)
  try simp only [bNode_1, bNode_p, bSet_1, bSet_p, bOver_1, bOver_p, bWrap_1, bWrap_p, bKeep_1, bKeep_p, bSlot_1, bSlot_p] at a1 b1 c1 d1 e1 f1 h1 i1
  try dsimp only at hG
  by_cases y2 : isRl (tkK T n s1.1)
  · rw [if_pos y2] at hG
    obtain ⟨t3, hG⟩ := gT_s hG
    have u3 := tkN_b T n s1.1 (by omega)
    try dsimp only at hG
    obtain ⟨s4, g4, hG⟩ := gb_s hG
    have x4 := g_mono T n f _ _ _ _ _ _ _ _ _ _ s4 (by omega) (by omega) g4 1 (by first | omega | (simp only [bNode_1, bNode_p, bSet_1, bSet_p, bOver_1, bOver_p, bWrap_1, bWrap_p, bKeep_1, bKeep_p, bSlot_1, bSlot_p]; omega)) (by decide) (trivial)
    obtain ⟨a4, b4, c4, d4, e4, f4, h4, i4⟩ := (x4.1 : Mo n _ _ _ s4)
    have j4 : 1 ≤ s4.2.2.2.1 ∧ s4.2.2.2.1 < s4.2.2.2.2.1.1 := x4.2
    have k4 := ih _ _ _ _ _ _ _ _ _ _ s4 (by omega) (by omega) (by first | omega | (simp only [bNode_1, bNode_p, bSet_1, bSet_p, bOver_1, bOver_p, bWrap_1, bWrap_p, bKeep_1, bKeep_p, bSlot_1, bSlot_p]; omega)) g4 (trivial)
    try simp only [bNode_1, bNode_p, bSet_1, bSet_p, bOver_1, bOver_p, bWrap_1, bWrap_p, bKeep_1, bKeep_p, bSlot_1, bSlot_p] at a4 b4 c4 d4 e4 f4 h4 i4
    try dsimp only at hG
    cases hG
    intro h hh
    try dsimp only
    (try rw [bNode_k (by first | omega | (simp only [bNode_1, bNode_p, bSet_1, bSet_p, bOver_1, bOver_p, bWrap_1, bWrap_p, bKeep_1, bKeep_p, bSlot_1, bSlot_p]; omega))]); (try rw [bSet_k hj (by decide)]); (try rw [bOver_k hj (by first | omega | (simp only [bNode_1, bNode_p, bSet_1, bSet_p, bOver_1, bOver_p, bWrap_1, bWrap_p, bKeep_1, bKeep_p, bSlot_1, bSlot_p]; omega))]); (try rw [bWrap_k hj (by first | omega | (simp only [bNode_1, bNode_p, bSet_1, bSet_p, bOver_1, bOver_p, bWrap_1, bWrap_p, bKeep_1, bKeep_p, bSlot_1, bSlot_p]; omega))]); (try rw [bNode_k (by first | omega | (simp only [bNode_1, bNode_p, bSet_1, bSet_p, bOver_1, bOver_p, bWrap_1, bWrap_p, bKeep_1, bKeep_p, bSlot_1, bSlot_p]; omega))]); (try rw [bKeep_k]); (try rw [bSlot_k]); (try rw [k4 h (by first | omega | (simp only [bNode_1, bNode_p, bSet_1, bSet_p, bOver_1, bOver_p, bWrap_1, bWrap_p, bKeep_1, bKeep_p, bSlot_1, bSlot_p]; omega))]); (try rw [bNode_k (by first | omega | (simp only [bNode_1, bNode_p, bSet_1, bSet_p, bOver_1, bOver_p, bWrap_1, bWrap_p, bKeep_1, bKeep_p, bSlot_1, bSlot_p]; omega))]); (try rw [bSet_k hj (by decide)]); (try rw [bOver_k hj (by first | omega | (simp only [bNode_1, bNode_p, bSet_1, bSet_p, bOver_1, bOver_p, bWrap_1, bWrap_p, bKeep_1, bKeep_p, bSlot_1, bSlot_p]; omega))]); (try rw [bWrap_k hj (by first | omega | (simp only [bNode_1, bNode_p, bSet_1, bSet_p, bOver_1, bOver_p, bWrap_1, bWrap_p, bKeep_1, bKeep_p, bSlot_1, bSlot_p]; omega))]); (try rw [bNode_k (by first | omega | (simp only [bNode_1, bNode_p, bSet_1, bSet_p, bOver_1, bOver_p, bWrap_1, bWrap_p, bKeep_1, bKeep_p, bSlot_1, bSlot_p]; omega))]); (try rw [bKeep_k]); (try rw [bSlot_k]); (try rw [k1 h (by first | omega | (simp only [bNode_1, bNode_p, bSet_1, bSet_p, bOver_1, bOver_p, bWrap_1, bWrap_p, bKeep_1, bKeep_p, bSlot_1, bSlot_p]; omega))]); (try rw [bNode_k (by first | omega | (simp only [bNode_1, bNode_p, bSet_1, bSet_p, bOver_1, bOver_p, bWrap_1, bWrap_p, bKeep_1, bKeep_p, bSlot_1, bSlot_p]; omega))]); (try rw [bSet_k hj (by decide)]); (try rw [bOver_k hj (by first | omega | (simp only [bNode_1, bNode_p, bSet_1, bSet_p, bOver_1, bOver_p, bWrap_1, bWrap_p, bKeep_1, bKeep_p, bSlot_1, bSlot_p]; omega))]); (try rw [bWrap_k hj (by first | omega | (simp only [bNode_1, bNode_p, bSet_1, bSet_p, bOver_1, bOver_p, bWrap_1, bWrap_p, bKeep_1, bKeep_p, bSlot_1, bSlot_p]; omega))]); (try rw [bNode_k (by first | omega | (simp only [bNode_1, bNode_p, bSet_1, bSet_p, bOver_1, bOver_p, bWrap_1, bWrap_p, bKeep_1, bKeep_p, bSlot_1, bSlot_p]; omega))]); (try rw [bKeep_k]); (try rw [bSlot_k]); (try rfl)
  · rw [if_neg y2] at hG
    cases hG
    intro h hh
    try dsimp only
    (try rw [bNode_k (by first | omega | (simp only [bNode_1, bNode_p, bSet_1, bSet_p, bOver_1, bOver_p, bWrap_1, bWrap_p, bKeep_1, bKeep_p, bSlot_1, bSlot_p]; omega))]); (try rw [bSet_k hj (by decide)]); (try rw [bOver_k hj (by first | omega | (simp only [bNode_1, bNode_p, bSet_1, bSet_p, bOver_1, bOver_p, bWrap_1, bWrap_p, bKeep_1, bKeep_p, bSlot_1, bSlot_p]; omega))]); (try rw [bWrap_k hj (by first | omega | (simp only [bNode_1, bNode_p, bSet_1, bSet_p, bOver_1, bOver_p, bWrap_1, bWrap_p, bKeep_1, bKeep_p, bSlot_1, bSlot_p]; omega))]); (try rw [bNode_k (by first | omega | (simp only [bNode_1, bNode_p, bSet_1, bSet_p, bOver_1, bOver_p, bWrap_1, bWrap_p, bKeep_1, bKeep_p, bSlot_1, bSlot_p]; omega))]); (try rw [bKeep_k]); (try rw [bSlot_k]); (try rw [k1 h (by first | omega | (simp only [bNode_1, bNode_p, bSet_1, bSet_p, bOver_1, bOver_p, bWrap_1, bWrap_p, bKeep_1, bKeep_p, bSlot_1, bSlot_p]; omega))]); (try rw [bNode_k (by first | omega | (simp only [bNode_1, bNode_p, bSet_1, bSet_p, bOver_1, bOver_p, bWrap_1, bWrap_p, bKeep_1, bKeep_p, bSlot_1, bSlot_p]; omega))]); (try rw [bSet_k hj (by decide)]); (try rw [bOver_k hj (by first | omega | (simp only [bNode_1, bNode_p, bSet_1, bSet_p, bOver_1, bOver_p, bWrap_1, bWrap_p, bKeep_1, bKeep_p, bSlot_1, bSlot_p]; omega))]); (try rw [bWrap_k hj (by first | omega | (simp only [bNode_1, bNode_p, bSet_1, bSet_p, bOver_1, bOver_p, bWrap_1, bWrap_p, bKeep_1, bKeep_p, bSlot_1, bSlot_p]; omega))]); (try rw [bNode_k (by first | omega | (simp only [bNode_1, bNode_p, bSet_1, bSet_p, bOver_1, bOver_p, bWrap_1, bWrap_p, bKeep_1, bKeep_p, bSlot_1, bSlot_p]; omega))]); (try rw [bKeep_k]); (try rw [bSlot_k]); (try rfl)
theorem gk_6 {T : Nat → Int32} {n j f : Nat} (hj : j < 8 ∨ 9 < j) (ih : GK T n j f) {E : En} {o q v i e c g : Nat} {b : BT} {r : RT} (hq : q ≤ n) (hv : v ≤ 60) (hb : 1 ≤ b.1) (hG : G T n (f + 1) 6 E o q v i e c g b = some (Sum.inr r)) (hN : Nd0 6 1 b i e c) : ∀ h : Nat, h < b.1 → r.2.2.2.2.1.2.2.1 j h = b.2.2.1 j h := by
  rw [G_6] at hG
  obtain ⟨s1, g1, hG⟩ := gb_s hG
  have x1 := g_mono T n f _ _ _ _ _ _ _ _ _ _ s1 (by omega) (by omega) g1 1 (by first | omega | (simp only [bNode_1, bNode_p, bSet_1, bSet_p, bOver_1, bOver_p, bWrap_1, bWrap_p, bKeep_1, bKeep_p, bSlot_1, bSlot_p]; omega)) (by decide) (trivial)
  obtain ⟨a1, b1, c1, d1, e1, f1, h1, i1⟩ := (x1.1 : Mo n _ _ _ s1)
  have j1 : 1 ≤ s1.2.2.2.1 ∧ s1.2.2.2.1 < s1.2.2.2.2.1.1 := x1.2
  have k1 := ih _ _ _ _ _ _ _ _ _ _ s1 (by omega) (by omega) (by first | omega | (simp only [bNode_1, bNode_p, bSet_1, bSet_p, bOver_1, bOver_p, bWrap_1, bWrap_p, bKeep_1, bKeep_p, bSlot_1, bSlot_p]; omega)) g1 (trivial)
  try simp only [bNode_1, bNode_p, bSet_1, bSet_p, bOver_1, bOver_p, bWrap_1, bWrap_p, bKeep_1, bKeep_p, bSlot_1, bSlot_p] at a1 b1 c1 d1 e1 f1 h1 i1
  try dsimp only at hG
  intro h hh
  rw [ih _ _ _ _ _ _ _ _ _ _ r (by omega) (by omega) (by first | omega | (simp only [bNode_1, bNode_p, bSet_1, bSet_p, bOver_1, bOver_p, bWrap_1, bWrap_p, bKeep_1, bKeep_p, bSlot_1, bSlot_p]; omega)) hG ((⟨by omega, by first | omega | (simp only [bNode_1, bNode_p, bSet_1, bSet_p, bOver_1, bOver_p, bWrap_1, bWrap_p, bKeep_1, bKeep_p, bSlot_1, bSlot_p]; omega)⟩ : 1 ≤ _ ∧ _ < _)) h (by first | omega | (simp only [bNode_1, bNode_p, bSet_1, bSet_p, bOver_1, bOver_p, bWrap_1, bWrap_p, bKeep_1, bKeep_p, bSlot_1, bSlot_p]; omega))]
  try dsimp only
  (try rw [bNode_k (by first | omega | (simp only [bNode_1, bNode_p, bSet_1, bSet_p, bOver_1, bOver_p, bWrap_1, bWrap_p, bKeep_1, bKeep_p, bSlot_1, bSlot_p]; omega))]); (try rw [bSet_k hj (by decide)]); (try rw [bOver_k hj (by first | omega | (simp only [bNode_1, bNode_p, bSet_1, bSet_p, bOver_1, bOver_p, bWrap_1, bWrap_p, bKeep_1, bKeep_p, bSlot_1, bSlot_p]; omega))]); (try rw [bWrap_k hj (by first | omega | (simp only [bNode_1, bNode_p, bSet_1, bSet_p, bOver_1, bOver_p, bWrap_1, bWrap_p, bKeep_1, bKeep_p, bSlot_1, bSlot_p]; omega))]); (try rw [bNode_k (by first | omega | (simp only [bNode_1, bNode_p, bSet_1, bSet_p, bOver_1, bOver_p, bWrap_1, bWrap_p, bKeep_1, bKeep_p, bSlot_1, bSlot_p]; omega))]); (try rw [bKeep_k]); (try rw [bSlot_k]); (try rw [k1 h (by first | omega | (simp only [bNode_1, bNode_p, bSet_1, bSet_p, bOver_1, bOver_p, bWrap_1, bWrap_p, bKeep_1, bKeep_p, bSlot_1, bSlot_p]; omega))]); (try rw [bNode_k (by first | omega | (simp only [bNode_1, bNode_p, bSet_1, bSet_p, bOver_1, bOver_p, bWrap_1, bWrap_p, bKeep_1, bKeep_p, bSlot_1, bSlot_p]; omega))]); (try rw [bSet_k hj (by decide)]); (try rw [bOver_k hj (by first | omega | (simp only [bNode_1, bNode_p, bSet_1, bSet_p, bOver_1, bOver_p, bWrap_1, bWrap_p, bKeep_1, bKeep_p, bSlot_1, bSlot_p]; omega))]); (try rw [bWrap_k hj (by first | omega | (simp only [bNode_1, bNode_p, bSet_1, bSet_p, bOver_1, bOver_p, bWrap_1, bWrap_p, bKeep_1, bKeep_p, bSlot_1, bSlot_p]; omega))]); (try rw [bNode_k (by first | omega | (simp only [bNode_1, bNode_p, bSet_1, bSet_p, bOver_1, bOver_p, bWrap_1, bWrap_p, bKeep_1, bKeep_p, bSlot_1, bSlot_p]; omega))]); (try rw [bKeep_k]); (try rw [bSlot_k]); (try rfl)
theorem gk_7 {T : Nat → Int32} {n j f : Nat} (hj : j < 8 ∨ 9 < j) (ih : GK T n j f) {E : En} {o q v i e c g : Nat} {b : BT} {r : RT} (hq : q ≤ n) (hv : v ≤ 60) (hb : 1 ≤ b.1) (hG : G T n (f + 1) 7 E o q v i e c g b = some (Sum.inr r)) (hN : Nd0 7 1 b i e c) : ∀ h : Nat, h < b.1 → r.2.2.2.2.1.2.2.1 j h = b.2.2.1 j h := by
  rw [G_7] at hG
  have hN : 1 ≤ e ∧ e < b.1 := hN
  by_cases y1 : tkK T n q = 2 ∨ tkK T n q = 3
  · rw [if_pos y1] at hG
    obtain ⟨t2, hG⟩ := gT_s hG
    have u2 := tkN_b T n q (by omega)
    try dsimp only at hG
    obtain ⟨s3, g3, hG⟩ := gb_s hG
    have x3 := g_mono T n f _ _ _ _ _ _ _ _ _ _ s3 (by omega) (by omega) g3 1 (by first | omega | (simp only [bNode_1, bNode_p, bSet_1, bSet_p, bOver_1, bOver_p, bWrap_1, bWrap_p, bKeep_1, bKeep_p, bSlot_1, bSlot_p]; omega)) (by decide) (trivial)
    obtain ⟨a3, b3, c3, d3, e3, f3, h3, i3⟩ := (x3.1 : Mo n _ _ _ s3)
    have j3 : 1 ≤ s3.2.2.2.1 ∧ s3.2.2.2.1 < s3.2.2.2.2.1.1 := x3.2
    have k3 := ih _ _ _ _ _ _ _ _ _ _ s3 (by omega) (by omega) (by first | omega | (simp only [bNode_1, bNode_p, bSet_1, bSet_p, bOver_1, bOver_p, bWrap_1, bWrap_p, bKeep_1, bKeep_p, bSlot_1, bSlot_p]; omega)) g3 (trivial)
    try simp only [bNode_1, bNode_p, bSet_1, bSet_p, bOver_1, bOver_p, bWrap_1, bWrap_p, bKeep_1, bKeep_p, bSlot_1, bSlot_p] at a3 b3 c3 d3 e3 f3 h3 i3
    try dsimp only at hG
    intro h hh
    rw [ih _ _ _ _ _ _ _ _ _ _ r (by omega) (by omega) (by first | omega | (simp only [bNode_1, bNode_p, bSet_1, bSet_p, bOver_1, bOver_p, bWrap_1, bWrap_p, bKeep_1, bKeep_p, bSlot_1, bSlot_p]; omega)) hG ((⟨by omega, by first | omega | (simp only [bNode_1, bNode_p, bSet_1, bSet_p, bOver_1, bOver_p, bWrap_1, bWrap_p, bKeep_1, bKeep_p, bSlot_1, bSlot_p]; omega)⟩ : 1 ≤ _ ∧ _ < _)) h (by first | omega | (simp only [bNode_1, bNode_p, bSet_1, bSet_p, bOver_1, bOver_p, bWrap_1, bWrap_p, bKeep_1, bKeep_p, bSlot_1, bSlot_p]; omega))]
    try dsimp only
    (try rw [bNode_k (by first | omega | (simp only [bNode_1, bNode_p, bSet_1, bSet_p, bOver_1, bOver_p, bWrap_1, bWrap_p, bKeep_1, bKeep_p, bSlot_1, bSlot_p]; omega))]); (try rw [bSet_k hj (by decide)]); (try rw [bOver_k hj (by first | omega | (simp only [bNode_1, bNode_p, bSet_1, bSet_p, bOver_1, bOver_p, bWrap_1, bWrap_p, bKeep_1, bKeep_p, bSlot_1, bSlot_p]; omega))]); (try rw [bWrap_k hj (by first | omega | (simp only [bNode_1, bNode_p, bSet_1, bSet_p, bOver_1, bOver_p, bWrap_1, bWrap_p, bKeep_1, bKeep_p, bSlot_1, bSlot_p]; omega))]); (try rw [bNode_k (by first | omega | (simp only [bNode_1, bNode_p, bSet_1, bSet_p, bOver_1, bOver_p, bWrap_1, bWrap_p, bKeep_1, bKeep_p, bSlot_1, bSlot_p]; omega))]); (try rw [bKeep_k]); (try rw [bSlot_k]); (try rw [k3 h (by first | omega | (simp only [bNode_1, bNode_p, bSet_1, bSet_p, bOver_1, bOver_p, bWrap_1, bWrap_p, bKeep_1, bKeep_p, bSlot_1, bSlot_p]; omega))]); (try rw [bNode_k (by first | omega | (simp only [bNode_1, bNode_p, bSet_1, bSet_p, bOver_1, bOver_p, bWrap_1, bWrap_p, bKeep_1, bKeep_p, bSlot_1, bSlot_p]; omega))]); (try rw [bSet_k hj (by decide)]); (try rw [bOver_k hj (by first | omega | (simp only [bNode_1, bNode_p, bSet_1, bSet_p, bOver_1, bOver_p, bWrap_1, bWrap_p, bKeep_1, bKeep_p, bSlot_1, bSlot_p]; omega))]); (try rw [bWrap_k hj (by first | omega | (simp only [bNode_1, bNode_p, bSet_1, bSet_p, bOver_1, bOver_p, bWrap_1, bWrap_p, bKeep_1, bKeep_p, bSlot_1, bSlot_p]; omega))]); (try rw [bNode_k (by first | omega | (simp only [bNode_1, bNode_p, bSet_1, bSet_p, bOver_1, bOver_p, bWrap_1, bWrap_p, bKeep_1, bKeep_p, bSlot_1, bSlot_p]; omega))]); (try rw [bKeep_k]); (try rw [bSlot_k]); (try rfl)
  · rw [if_neg y1] at hG
    cases hG
    intro h hh
    try dsimp only
    (try rw [bNode_k (by first | omega | (simp only [bNode_1, bNode_p, bSet_1, bSet_p, bOver_1, bOver_p, bWrap_1, bWrap_p, bKeep_1, bKeep_p, bSlot_1, bSlot_p]; omega))]); (try rw [bSet_k hj (by decide)]); (try rw [bOver_k hj (by first | omega | (simp only [bNode_1, bNode_p, bSet_1, bSet_p, bOver_1, bOver_p, bWrap_1, bWrap_p, bKeep_1, bKeep_p, bSlot_1, bSlot_p]; omega))]); (try rw [bWrap_k hj (by first | omega | (simp only [bNode_1, bNode_p, bSet_1, bSet_p, bOver_1, bOver_p, bWrap_1, bWrap_p, bKeep_1, bKeep_p, bSlot_1, bSlot_p]; omega))]); (try rw [bNode_k (by first | omega | (simp only [bNode_1, bNode_p, bSet_1, bSet_p, bOver_1, bOver_p, bWrap_1, bWrap_p, bKeep_1, bKeep_p, bSlot_1, bSlot_p]; omega))]); (try rw [bKeep_k]); (try rw [bSlot_k]); (try rfl)
theorem gk_8 {T : Nat → Int32} {n j f : Nat} (hj : j < 8 ∨ 9 < j) (ih : GK T n j f) {E : En} {o q v i e c g : Nat} {b : BT} {r : RT} (hq : q ≤ n) (hv : v ≤ 60) (hb : 1 ≤ b.1) (hG : G T n (f + 1) 8 E o q v i e c g b = some (Sum.inr r)) (hN : Nd0 8 1 b i e c) : ∀ h : Nat, h < b.1 → r.2.2.2.2.1.2.2.1 j h = b.2.2.1 j h := by
  rw [G_8] at hG
  obtain ⟨s1, g1, hG⟩ := gb_s hG
  have x1 := g_mono T n f _ _ _ _ _ _ _ _ _ _ s1 (by omega) (by omega) g1 1 (by first | omega | (simp only [bNode_1, bNode_p, bSet_1, bSet_p, bOver_1, bOver_p, bWrap_1, bWrap_p, bKeep_1, bKeep_p, bSlot_1, bSlot_p]; omega)) (by decide) (trivial)
  obtain ⟨a1, b1, c1, d1, e1, f1, h1, i1⟩ := (x1.1 : Mo n _ _ _ s1)
  have j1 : 1 ≤ s1.2.2.2.1 ∧ s1.2.2.2.1 < s1.2.2.2.2.1.1 := x1.2
  have k1 := ih _ _ _ _ _ _ _ _ _ _ s1 (by omega) (by omega) (by first | omega | (simp only [bNode_1, bNode_p, bSet_1, bSet_p, bOver_1, bOver_p, bWrap_1, bWrap_p, bKeep_1, bKeep_p, bSlot_1, bSlot_p]; omega)) g1 (trivial)
  try simp only [bNode_1, bNode_p, bSet_1, bSet_p, bOver_1, bOver_p, bWrap_1, bWrap_p, bKeep_1, bKeep_p, bSlot_1, bSlot_p] at a1 b1 c1 d1 e1 f1 h1 i1
  try dsimp only at hG
  intro h hh
  rw [ih _ _ _ _ _ _ _ _ _ _ r (by omega) (by omega) (by first | omega | (simp only [bNode_1, bNode_p, bSet_1, bSet_p, bOver_1, bOver_p, bWrap_1, bWrap_p, bKeep_1, bKeep_p, bSlot_1, bSlot_p]; omega)) hG ((⟨by omega, by first | omega | (simp only [bNode_1, bNode_p, bSet_1, bSet_p, bOver_1, bOver_p, bWrap_1, bWrap_p, bKeep_1, bKeep_p, bSlot_1, bSlot_p]; omega)⟩ : 1 ≤ _ ∧ _ < _)) h (by first | omega | (simp only [bNode_1, bNode_p, bSet_1, bSet_p, bOver_1, bOver_p, bWrap_1, bWrap_p, bKeep_1, bKeep_p, bSlot_1, bSlot_p]; omega))]
  try dsimp only
  (try rw [bNode_k (by first | omega | (simp only [bNode_1, bNode_p, bSet_1, bSet_p, bOver_1, bOver_p, bWrap_1, bWrap_p, bKeep_1, bKeep_p, bSlot_1, bSlot_p]; omega))]); (try rw [bSet_k hj (by decide)]); (try rw [bOver_k hj (by first | omega | (simp only [bNode_1, bNode_p, bSet_1, bSet_p, bOver_1, bOver_p, bWrap_1, bWrap_p, bKeep_1, bKeep_p, bSlot_1, bSlot_p]; omega))]); (try rw [bWrap_k hj (by first | omega | (simp only [bNode_1, bNode_p, bSet_1, bSet_p, bOver_1, bOver_p, bWrap_1, bWrap_p, bKeep_1, bKeep_p, bSlot_1, bSlot_p]; omega))]); (try rw [bNode_k (by first | omega | (simp only [bNode_1, bNode_p, bSet_1, bSet_p, bOver_1, bOver_p, bWrap_1, bWrap_p, bKeep_1, bKeep_p, bSlot_1, bSlot_p]; omega))]); (try rw [bKeep_k]); (try rw [bSlot_k]); (try rw [k1 h (by first | omega | (simp only [bNode_1, bNode_p, bSet_1, bSet_p, bOver_1, bOver_p, bWrap_1, bWrap_p, bKeep_1, bKeep_p, bSlot_1, bSlot_p]; omega))]); (try rw [bNode_k (by first | omega | (simp only [bNode_1, bNode_p, bSet_1, bSet_p, bOver_1, bOver_p, bWrap_1, bWrap_p, bKeep_1, bKeep_p, bSlot_1, bSlot_p]; omega))]); (try rw [bSet_k hj (by decide)]); (try rw [bOver_k hj (by first | omega | (simp only [bNode_1, bNode_p, bSet_1, bSet_p, bOver_1, bOver_p, bWrap_1, bWrap_p, bKeep_1, bKeep_p, bSlot_1, bSlot_p]; omega))]); (try rw [bWrap_k hj (by first | omega | (simp only [bNode_1, bNode_p, bSet_1, bSet_p, bOver_1, bOver_p, bWrap_1, bWrap_p, bKeep_1, bKeep_p, bSlot_1, bSlot_p]; omega))]); (try rw [bNode_k (by first | omega | (simp only [bNode_1, bNode_p, bSet_1, bSet_p, bOver_1, bOver_p, bWrap_1, bWrap_p, bKeep_1, bKeep_p, bSlot_1, bSlot_p]; omega))]); (try rw [bKeep_k]); (try rw [bSlot_k]); (try rfl)
theorem gk_9 {T : Nat → Int32} {n j f : Nat} (hj : j < 8 ∨ 9 < j) (ih : GK T n j f) {E : En} {o q v i e c g : Nat} {b : BT} {r : RT} (hq : q ≤ n) (hv : v ≤ 60) (hb : 1 ≤ b.1) (hG : G T n (f + 1) 9 E o q v i e c g b = some (Sum.inr r)) (hN : Nd0 9 1 b i e c) : ∀ h : Nat, h < b.1 → r.2.2.2.2.1.2.2.1 j h = b.2.2.1 j h := by
  rw [G_9] at hG
  have hN : 1 ≤ e ∧ e < b.1 := hN
  by_cases y1 : tkK T n q = 4 ∨ tkK T n q = 67 ∨ tkK T n q = 68
  · rw [if_pos y1] at hG
    obtain ⟨t2, hG⟩ := gT_s hG
    have u2 := tkN_b T n q (by omega)
    try dsimp only at hG
    obtain ⟨s3, g3, hG⟩ := gb_s hG
    have x3 := g_mono T n f _ _ _ _ _ _ _ _ _ _ s3 (by omega) (by omega) g3 1 (by first | omega | (simp only [bNode_1, bNode_p, bSet_1, bSet_p, bOver_1, bOver_p, bWrap_1, bWrap_p, bKeep_1, bKeep_p, bSlot_1, bSlot_p]; omega)) (by decide) (trivial)
    obtain ⟨a3, b3, c3, d3, e3, f3, h3, i3⟩ := (x3.1 : Mo n _ _ _ s3)
    have j3 : 1 ≤ s3.2.2.2.1 ∧ s3.2.2.2.1 < s3.2.2.2.2.1.1 := x3.2
    have k3 := ih _ _ _ _ _ _ _ _ _ _ s3 (by omega) (by omega) (by first | omega | (simp only [bNode_1, bNode_p, bSet_1, bSet_p, bOver_1, bOver_p, bWrap_1, bWrap_p, bKeep_1, bKeep_p, bSlot_1, bSlot_p]; omega)) g3 (trivial)
    try simp only [bNode_1, bNode_p, bSet_1, bSet_p, bOver_1, bOver_p, bWrap_1, bWrap_p, bKeep_1, bKeep_p, bSlot_1, bSlot_p] at a3 b3 c3 d3 e3 f3 h3 i3
    try dsimp only at hG
    intro h hh
    rw [ih _ _ _ _ _ _ _ _ _ _ r (by omega) (by omega) (by first | omega | (simp only [bNode_1, bNode_p, bSet_1, bSet_p, bOver_1, bOver_p, bWrap_1, bWrap_p, bKeep_1, bKeep_p, bSlot_1, bSlot_p]; omega)) hG ((⟨by omega, by first | omega | (simp only [bNode_1, bNode_p, bSet_1, bSet_p, bOver_1, bOver_p, bWrap_1, bWrap_p, bKeep_1, bKeep_p, bSlot_1, bSlot_p]; omega)⟩ : 1 ≤ _ ∧ _ < _)) h (by first | omega | (simp only [bNode_1, bNode_p, bSet_1, bSet_p, bOver_1, bOver_p, bWrap_1, bWrap_p, bKeep_1, bKeep_p, bSlot_1, bSlot_p]; omega))]
    try dsimp only
    (try rw [bNode_k (by first | omega | (simp only [bNode_1, bNode_p, bSet_1, bSet_p, bOver_1, bOver_p, bWrap_1, bWrap_p, bKeep_1, bKeep_p, bSlot_1, bSlot_p]; omega))]); (try rw [bSet_k hj (by decide)]); (try rw [bOver_k hj (by first | omega | (simp only [bNode_1, bNode_p, bSet_1, bSet_p, bOver_1, bOver_p, bWrap_1, bWrap_p, bKeep_1, bKeep_p, bSlot_1, bSlot_p]; omega))]); (try rw [bWrap_k hj (by first | omega | (simp only [bNode_1, bNode_p, bSet_1, bSet_p, bOver_1, bOver_p, bWrap_1, bWrap_p, bKeep_1, bKeep_p, bSlot_1, bSlot_p]; omega))]); (try rw [bNode_k (by first | omega | (simp only [bNode_1, bNode_p, bSet_1, bSet_p, bOver_1, bOver_p, bWrap_1, bWrap_p, bKeep_1, bKeep_p, bSlot_1, bSlot_p]; omega))]); (try rw [bKeep_k]); (try rw [bSlot_k]); (try rw [k3 h (by first | omega | (simp only [bNode_1, bNode_p, bSet_1, bSet_p, bOver_1, bOver_p, bWrap_1, bWrap_p, bKeep_1, bKeep_p, bSlot_1, bSlot_p]; omega))]); (try rw [bNode_k (by first | omega | (simp only [bNode_1, bNode_p, bSet_1, bSet_p, bOver_1, bOver_p, bWrap_1, bWrap_p, bKeep_1, bKeep_p, bSlot_1, bSlot_p]; omega))]); (try rw [bSet_k hj (by decide)]); (try rw [bOver_k hj (by first | omega | (simp only [bNode_1, bNode_p, bSet_1, bSet_p, bOver_1, bOver_p, bWrap_1, bWrap_p, bKeep_1, bKeep_p, bSlot_1, bSlot_p]; omega))]); (try rw [bWrap_k hj (by first | omega | (simp only [bNode_1, bNode_p, bSet_1, bSet_p, bOver_1, bOver_p, bWrap_1, bWrap_p, bKeep_1, bKeep_p, bSlot_1, bSlot_p]; omega))]); (try rw [bNode_k (by first | omega | (simp only [bNode_1, bNode_p, bSet_1, bSet_p, bOver_1, bOver_p, bWrap_1, bWrap_p, bKeep_1, bKeep_p, bSlot_1, bSlot_p]; omega))]); (try rw [bKeep_k]); (try rw [bSlot_k]); (try rfl)
  · rw [if_neg y1] at hG
    cases hG
    intro h hh
    try dsimp only
    (try rw [bNode_k (by first | omega | (simp only [bNode_1, bNode_p, bSet_1, bSet_p, bOver_1, bOver_p, bWrap_1, bWrap_p, bKeep_1, bKeep_p, bSlot_1, bSlot_p]; omega))]); (try rw [bSet_k hj (by decide)]); (try rw [bOver_k hj (by first | omega | (simp only [bNode_1, bNode_p, bSet_1, bSet_p, bOver_1, bOver_p, bWrap_1, bWrap_p, bKeep_1, bKeep_p, bSlot_1, bSlot_p]; omega))]); (try rw [bWrap_k hj (by first | omega | (simp only [bNode_1, bNode_p, bSet_1, bSet_p, bOver_1, bOver_p, bWrap_1, bWrap_p, bKeep_1, bKeep_p, bSlot_1, bSlot_p]; omega))]); (try rw [bNode_k (by first | omega | (simp only [bNode_1, bNode_p, bSet_1, bSet_p, bOver_1, bOver_p, bWrap_1, bWrap_p, bKeep_1, bKeep_p, bSlot_1, bSlot_p]; omega))]); (try rw [bKeep_k]); (try rw [bSlot_k]); (try rfl)
theorem gk_10 {T : Nat → Int32} {n j f : Nat} (hj : j < 8 ∨ 9 < j) (ih : GK T n j f) {E : En} {o q v i e c g : Nat} {b : BT} {r : RT} (hq : q ≤ n) (hv : v ≤ 60) (hb : 1 ≤ b.1) (hG : G T n (f + 1) 10 E o q v i e c g b = some (Sum.inr r)) (hN : Nd0 10 1 b i e c) : ∀ h : Nat, h < b.1 → r.2.2.2.2.1.2.2.1 j h = b.2.2.1 j h := by
  rw [G_10] at hG
  obtain ⟨s1, g1, hG⟩ := gb_s hG
  have x1 := g_mono T n f _ _ _ _ _ _ _ _ _ _ s1 (by omega) (by omega) g1 1 (by first | omega | (simp only [bNode_1, bNode_p, bSet_1, bSet_p, bOver_1, bOver_p, bWrap_1, bWrap_p, bKeep_1, bKeep_p, bSlot_1, bSlot_p]; omega)) (by decide) (trivial)
  obtain ⟨a1, b1, c1, d1, e1, f1, h1, i1⟩ := (x1.1 : Mo n _ _ _ s1)
  have j1 : 1 ≤ s1.2.2.2.1 ∧ s1.2.2.2.1 < s1.2.2.2.2.1.1 := x1.2
  have k1 := ih _ _ _ _ _ _ _ _ _ _ s1 (by omega) (by omega) (by first | omega | (simp only [bNode_1, bNode_p, bSet_1, bSet_p, bOver_1, bOver_p, bWrap_1, bWrap_p, bKeep_1, bKeep_p, bSlot_1, bSlot_p]; omega)) g1 (trivial)
  try simp only [bNode_1, bNode_p, bSet_1, bSet_p, bOver_1, bOver_p, bWrap_1, bWrap_p, bKeep_1, bKeep_p, bSlot_1, bSlot_p] at a1 b1 c1 d1 e1 f1 h1 i1
  try dsimp only at hG
  by_cases y2 : tkK T n s1.1 = 5
  · rw [if_pos y2] at hG
    obtain ⟨_, hG⟩ := gO_s hG
    obtain ⟨t3, hG⟩ := gT_s hG
    have u3 := tkN_b T n s1.1 (by omega)
    try dsimp only at hG
    obtain ⟨s4, g4, hG⟩ := gb_s hG
    have x4 := g_mono T n f _ _ _ _ _ _ _ _ _ _ s4 (by omega) (by omega) g4 1 (by first | omega | (simp only [bNode_1, bNode_p, bSet_1, bSet_p, bOver_1, bOver_p, bWrap_1, bWrap_p, bKeep_1, bKeep_p, bSlot_1, bSlot_p]; omega)) (by decide) (trivial)
    obtain ⟨a4, b4, c4, d4, e4, f4, h4, i4⟩ := (x4.1 : Mo n _ _ _ s4)
    have j4 : 1 ≤ s4.2.2.2.1 ∧ s4.2.2.2.1 < s4.2.2.2.2.1.1 := x4.2
    have k4 := ih _ _ _ _ _ _ _ _ _ _ s4 (by omega) (by omega) (by first | omega | (simp only [bNode_1, bNode_p, bSet_1, bSet_p, bOver_1, bOver_p, bWrap_1, bWrap_p, bKeep_1, bKeep_p, bSlot_1, bSlot_p]; omega)) g4 (trivial)
    try simp only [bNode_1, bNode_p, bSet_1, bSet_p, bOver_1, bOver_p, bWrap_1, bWrap_p, bKeep_1, bKeep_p, bSlot_1, bSlot_p] at a4 b4 c4 d4 e4 f4 h4 i4
    try dsimp only at hG
    cases hG
    intro h hh
    try dsimp only
    (try rw [bNode_k (by first | omega | (simp only [bNode_1, bNode_p, bSet_1, bSet_p, bOver_1, bOver_p, bWrap_1, bWrap_p, bKeep_1, bKeep_p, bSlot_1, bSlot_p]; omega))]); (try rw [bSet_k hj (by decide)]); (try rw [bOver_k hj (by first | omega | (simp only [bNode_1, bNode_p, bSet_1, bSet_p, bOver_1, bOver_p, bWrap_1, bWrap_p, bKeep_1, bKeep_p, bSlot_1, bSlot_p]; omega))]); (try rw [bWrap_k hj (by first | omega | (simp only [bNode_1, bNode_p, bSet_1, bSet_p, bOver_1, bOver_p, bWrap_1, bWrap_p, bKeep_1, bKeep_p, bSlot_1, bSlot_p]; omega))]); (try rw [bNode_k (by first | omega | (simp only [bNode_1, bNode_p, bSet_1, bSet_p, bOver_1, bOver_p, bWrap_1, bWrap_p, bKeep_1, bKeep_p, bSlot_1, bSlot_p]; omega))]); (try rw [bKeep_k]); (try rw [bSlot_k]); (try rw [k4 h (by first | omega | (simp only [bNode_1, bNode_p, bSet_1, bSet_p, bOver_1, bOver_p, bWrap_1, bWrap_p, bKeep_1, bKeep_p, bSlot_1, bSlot_p]; omega))]); (try rw [bNode_k (by first | omega | (simp only [bNode_1, bNode_p, bSet_1, bSet_p, bOver_1, bOver_p, bWrap_1, bWrap_p, bKeep_1, bKeep_p, bSlot_1, bSlot_p]; omega))]); (try rw [bSet_k hj (by decide)]); (try rw [bOver_k hj (by first | omega | (simp only [bNode_1, bNode_p, bSet_1, bSet_p, bOver_1, bOver_p, bWrap_1, bWrap_p, bKeep_1, bKeep_p, bSlot_1, bSlot_p]; omega))]); (try rw [bWrap_k hj (by first | omega | (simp only [bNode_1, bNode_p, bSet_1, bSet_p, bOver_1, bOver_p, bWrap_1, bWrap_p, bKeep_1, bKeep_p, bSlot_1, bSlot_p]; omega))]); (try rw [bNode_k (by first | omega | (simp only [bNode_1, bNode_p, bSet_1, bSet_p, bOver_1, bOver_p, bWrap_1, bWrap_p, bKeep_1, bKeep_p, bSlot_1, bSlot_p]; omega))]); (try rw [bKeep_k]); (try rw [bSlot_k]); (try rw [k1 h (by first | omega | (simp only [bNode_1, bNode_p, bSet_1, bSet_p, bOver_1, bOver_p, bWrap_1, bWrap_p, bKeep_1, bKeep_p, bSlot_1, bSlot_p]; omega))]); (try rw [bNode_k (by first | omega | (simp only [bNode_1, bNode_p, bSet_1, bSet_p, bOver_1, bOver_p, bWrap_1, bWrap_p, bKeep_1, bKeep_p, bSlot_1, bSlot_p]; omega))]); (try rw [bSet_k hj (by decide)]); (try rw [bOver_k hj (by first | omega | (simp only [bNode_1, bNode_p, bSet_1, bSet_p, bOver_1, bOver_p, bWrap_1, bWrap_p, bKeep_1, bKeep_p, bSlot_1, bSlot_p]; omega))]); (try rw [bWrap_k hj (by first | omega | (simp only [bNode_1, bNode_p, bSet_1, bSet_p, bOver_1, bOver_p, bWrap_1, bWrap_p, bKeep_1, bKeep_p, bSlot_1, bSlot_p]; omega))]); (try rw [bNode_k (by first | omega | (simp only [bNode_1, bNode_p, bSet_1, bSet_p, bOver_1, bOver_p, bWrap_1, bWrap_p, bKeep_1, bKeep_p, bSlot_1, bSlot_p]; omega))]); (try rw [bKeep_k]); (try rw [bSlot_k]); (try rfl)
  · rw [if_neg y2] at hG
    cases hG
    intro h hh
    try dsimp only
    (try rw [bNode_k (by first | omega | (simp only [bNode_1, bNode_p, bSet_1, bSet_p, bOver_1, bOver_p, bWrap_1, bWrap_p, bKeep_1, bKeep_p, bSlot_1, bSlot_p]; omega))]); (try rw [bSet_k hj (by decide)]); (try rw [bOver_k hj (by first | omega | (simp only [bNode_1, bNode_p, bSet_1, bSet_p, bOver_1, bOver_p, bWrap_1, bWrap_p, bKeep_1, bKeep_p, bSlot_1, bSlot_p]; omega))]); (try rw [bWrap_k hj (by first | omega | (simp only [bNode_1, bNode_p, bSet_1, bSet_p, bOver_1, bOver_p, bWrap_1, bWrap_p, bKeep_1, bKeep_p, bSlot_1, bSlot_p]; omega))]); (try rw [bNode_k (by first | omega | (simp only [bNode_1, bNode_p, bSet_1, bSet_p, bOver_1, bOver_p, bWrap_1, bWrap_p, bKeep_1, bKeep_p, bSlot_1, bSlot_p]; omega))]); (try rw [bKeep_k]); (try rw [bSlot_k]); (try rw [k1 h (by first | omega | (simp only [bNode_1, bNode_p, bSet_1, bSet_p, bOver_1, bOver_p, bWrap_1, bWrap_p, bKeep_1, bKeep_p, bSlot_1, bSlot_p]; omega))]); (try rw [bNode_k (by first | omega | (simp only [bNode_1, bNode_p, bSet_1, bSet_p, bOver_1, bOver_p, bWrap_1, bWrap_p, bKeep_1, bKeep_p, bSlot_1, bSlot_p]; omega))]); (try rw [bSet_k hj (by decide)]); (try rw [bOver_k hj (by first | omega | (simp only [bNode_1, bNode_p, bSet_1, bSet_p, bOver_1, bOver_p, bWrap_1, bWrap_p, bKeep_1, bKeep_p, bSlot_1, bSlot_p]; omega))]); (try rw [bWrap_k hj (by first | omega | (simp only [bNode_1, bNode_p, bSet_1, bSet_p, bOver_1, bOver_p, bWrap_1, bWrap_p, bKeep_1, bKeep_p, bSlot_1, bSlot_p]; omega))]); (try rw [bNode_k (by first | omega | (simp only [bNode_1, bNode_p, bSet_1, bSet_p, bOver_1, bOver_p, bWrap_1, bWrap_p, bKeep_1, bKeep_p, bSlot_1, bSlot_p]; omega))]); (try rw [bKeep_k]); (try rw [bSlot_k]); (try rfl)
theorem gk_11 {T : Nat → Int32} {n j f : Nat} (hj : j < 8 ∨ 9 < j) (ih : GK T n j f) {E : En} {o q v i e c g : Nat} {b : BT} {r : RT} (hq : q ≤ n) (hv : v ≤ 60) (hb : 1 ≤ b.1) (hG : G T n (f + 1) 11 E o q v i e c g b = some (Sum.inr r)) (hN : Nd0 11 1 b i e c) : ∀ h : Nat, h < b.1 → r.2.2.2.2.1.2.2.1 j h = b.2.2.1 j h := by
  rw [G_11] at hG
  by_cases y1 : tkK T n q = 3 ∨ tkK T n q = 23
  · rw [if_pos y1] at hG
    obtain ⟨_, hG⟩ := gO_s hG
    obtain ⟨t2, hG⟩ := gT_s hG
    have u2 := tkN_b T n q (by omega)
    try dsimp only at hG
    obtain ⟨s3, g3, hG⟩ := gb_s hG
    have x3 := g_mono T n f _ _ _ _ _ _ _ _ _ _ s3 (by omega) (by omega) g3 1 (by first | omega | (simp only [bNode_1, bNode_p, bSet_1, bSet_p, bOver_1, bOver_p, bWrap_1, bWrap_p, bKeep_1, bKeep_p, bSlot_1, bSlot_p]; omega)) (by decide) (trivial)
    obtain ⟨a3, b3, c3, d3, e3, f3, h3, i3⟩ := (x3.1 : Mo n _ _ _ s3)
    have j3 : 1 ≤ s3.2.2.2.1 ∧ s3.2.2.2.1 < s3.2.2.2.2.1.1 := x3.2
    have k3 := ih _ _ _ _ _ _ _ _ _ _ s3 (by omega) (by omega) (by first | omega | (simp only [bNode_1, bNode_p, bSet_1, bSet_p, bOver_1, bOver_p, bWrap_1, bWrap_p, bKeep_1, bKeep_p, bSlot_1, bSlot_p]; omega)) g3 (trivial)
    try simp only [bNode_1, bNode_p, bSet_1, bSet_p, bOver_1, bOver_p, bWrap_1, bWrap_p, bKeep_1, bKeep_p, bSlot_1, bSlot_p] at a3 b3 c3 d3 e3 f3 h3 i3
    try dsimp only at hG
    cases hG
    intro h hh
    try dsimp only
    (try rw [bNode_k (by first | omega | (simp only [bNode_1, bNode_p, bSet_1, bSet_p, bOver_1, bOver_p, bWrap_1, bWrap_p, bKeep_1, bKeep_p, bSlot_1, bSlot_p]; omega))]); (try rw [bSet_k hj (by decide)]); (try rw [bOver_k hj (by first | omega | (simp only [bNode_1, bNode_p, bSet_1, bSet_p, bOver_1, bOver_p, bWrap_1, bWrap_p, bKeep_1, bKeep_p, bSlot_1, bSlot_p]; omega))]); (try rw [bWrap_k hj (by first | omega | (simp only [bNode_1, bNode_p, bSet_1, bSet_p, bOver_1, bOver_p, bWrap_1, bWrap_p, bKeep_1, bKeep_p, bSlot_1, bSlot_p]; omega))]); (try rw [bNode_k (by first | omega | (simp only [bNode_1, bNode_p, bSet_1, bSet_p, bOver_1, bOver_p, bWrap_1, bWrap_p, bKeep_1, bKeep_p, bSlot_1, bSlot_p]; omega))]); (try rw [bKeep_k]); (try rw [bSlot_k]); (try rw [k3 h (by first | omega | (simp only [bNode_1, bNode_p, bSet_1, bSet_p, bOver_1, bOver_p, bWrap_1, bWrap_p, bKeep_1, bKeep_p, bSlot_1, bSlot_p]; omega))]); (try rw [bNode_k (by first | omega | (simp only [bNode_1, bNode_p, bSet_1, bSet_p, bOver_1, bOver_p, bWrap_1, bWrap_p, bKeep_1, bKeep_p, bSlot_1, bSlot_p]; omega))]); (try rw [bSet_k hj (by decide)]); (try rw [bOver_k hj (by first | omega | (simp only [bNode_1, bNode_p, bSet_1, bSet_p, bOver_1, bOver_p, bWrap_1, bWrap_p, bKeep_1, bKeep_p, bSlot_1, bSlot_p]; omega))]); (try rw [bWrap_k hj (by first | omega | (simp only [bNode_1, bNode_p, bSet_1, bSet_p, bOver_1, bOver_p, bWrap_1, bWrap_p, bKeep_1, bKeep_p, bSlot_1, bSlot_p]; omega))]); (try rw [bNode_k (by first | omega | (simp only [bNode_1, bNode_p, bSet_1, bSet_p, bOver_1, bOver_p, bWrap_1, bWrap_p, bKeep_1, bKeep_p, bSlot_1, bSlot_p]; omega))]); (try rw [bKeep_k]); (try rw [bSlot_k]); (try rfl)
  · rw [if_neg y1] at hG
    by_cases y4 : tkK T n q = 2 ∨ tkK T n q = 4 ∨ tkK T n q = 81 ∨ tkK T n q = 80
    · rw [if_pos y4] at hG
      obtain ⟨_, hG⟩ := gO_s hG
      obtain ⟨t5, hG⟩ := gT_s hG
      have u5 := tkN_b T n q (by omega)
      try dsimp only at hG
      obtain ⟨w6, t6, hG⟩ := gW_s hG
      try have u6 := tkN_b T n (tkN T n q) (by omega)
      try dsimp only at hG
      obtain ⟨s7, g7, hG⟩ := gb_s hG
      have x7 := g_mono T n f _ _ _ _ _ _ _ _ _ _ s7 (by omega) (by omega) g7 1 (by first | omega | (simp only [bNode_1, bNode_p, bSet_1, bSet_p, bOver_1, bOver_p, bWrap_1, bWrap_p, bKeep_1, bKeep_p, bSlot_1, bSlot_p]; omega)) (by decide) (trivial)
      obtain ⟨a7, b7, c7, d7, e7, f7, h7, i7⟩ := (x7.1 : Mo n _ _ _ s7)
      have j7 : 1 ≤ s7.2.2.2.1 ∧ s7.2.2.2.1 < s7.2.2.2.2.1.1 := x7.2
      have k7 := ih _ _ _ _ _ _ _ _ _ _ s7 (by omega) (by omega) (by first | omega | (simp only [bNode_1, bNode_p, bSet_1, bSet_p, bOver_1, bOver_p, bWrap_1, bWrap_p, bKeep_1, bKeep_p, bSlot_1, bSlot_p]; omega)) g7 (trivial)
      try simp only [bNode_1, bNode_p, bSet_1, bSet_p, bOver_1, bOver_p, bWrap_1, bWrap_p, bKeep_1, bKeep_p, bSlot_1, bSlot_p] at a7 b7 c7 d7 e7 f7 h7 i7
      try dsimp only at hG
      cases hG
      intro h hh
      try dsimp only
      (try rw [bNode_k (by first | omega | (simp only [bNode_1, bNode_p, bSet_1, bSet_p, bOver_1, bOver_p, bWrap_1, bWrap_p, bKeep_1, bKeep_p, bSlot_1, bSlot_p]; omega))]); (try rw [bSet_k hj (by decide)]); (try rw [bOver_k hj (by first | omega | (simp only [bNode_1, bNode_p, bSet_1, bSet_p, bOver_1, bOver_p, bWrap_1, bWrap_p, bKeep_1, bKeep_p, bSlot_1, bSlot_p]; omega))]); (try rw [bWrap_k hj (by first | omega | (simp only [bNode_1, bNode_p, bSet_1, bSet_p, bOver_1, bOver_p, bWrap_1, bWrap_p, bKeep_1, bKeep_p, bSlot_1, bSlot_p]; omega))]); (try rw [bNode_k (by first | omega | (simp only [bNode_1, bNode_p, bSet_1, bSet_p, bOver_1, bOver_p, bWrap_1, bWrap_p, bKeep_1, bKeep_p, bSlot_1, bSlot_p]; omega))]); (try rw [bKeep_k]); (try rw [bSlot_k]); (try rw [k7 h (by first | omega | (simp only [bNode_1, bNode_p, bSet_1, bSet_p, bOver_1, bOver_p, bWrap_1, bWrap_p, bKeep_1, bKeep_p, bSlot_1, bSlot_p]; omega))]); (try rw [bNode_k (by first | omega | (simp only [bNode_1, bNode_p, bSet_1, bSet_p, bOver_1, bOver_p, bWrap_1, bWrap_p, bKeep_1, bKeep_p, bSlot_1, bSlot_p]; omega))]); (try rw [bSet_k hj (by decide)]); (try rw [bOver_k hj (by first | omega | (simp only [bNode_1, bNode_p, bSet_1, bSet_p, bOver_1, bOver_p, bWrap_1, bWrap_p, bKeep_1, bKeep_p, bSlot_1, bSlot_p]; omega))]); (try rw [bWrap_k hj (by first | omega | (simp only [bNode_1, bNode_p, bSet_1, bSet_p, bOver_1, bOver_p, bWrap_1, bWrap_p, bKeep_1, bKeep_p, bSlot_1, bSlot_p]; omega))]); (try rw [bNode_k (by first | omega | (simp only [bNode_1, bNode_p, bSet_1, bSet_p, bOver_1, bOver_p, bWrap_1, bWrap_p, bKeep_1, bKeep_p, bSlot_1, bSlot_p]; omega))]); (try rw [bKeep_k]); (try rw [bSlot_k]); (try rfl)
    · rw [if_neg y4] at hG
      obtain ⟨s8, g8, hG⟩ := gb_s hG
      have x8 := g_mono T n f _ _ _ _ _ _ _ _ _ _ s8 (by omega) (by omega) g8 1 (by first | omega | (simp only [bNode_1, bNode_p, bSet_1, bSet_p, bOver_1, bOver_p, bWrap_1, bWrap_p, bKeep_1, bKeep_p, bSlot_1, bSlot_p]; omega)) (by decide) (trivial)
      obtain ⟨a8, b8, c8, d8, e8, f8, h8, i8⟩ := (x8.1 : Mo n _ _ _ s8)
      have j8 : 1 ≤ s8.2.2.2.1 ∧ s8.2.2.2.1 < s8.2.2.2.2.1.1 := x8.2
      have k8 := ih _ _ _ _ _ _ _ _ _ _ s8 (by omega) (by omega) (by first | omega | (simp only [bNode_1, bNode_p, bSet_1, bSet_p, bOver_1, bOver_p, bWrap_1, bWrap_p, bKeep_1, bKeep_p, bSlot_1, bSlot_p]; omega)) g8 (trivial)
      try simp only [bNode_1, bNode_p, bSet_1, bSet_p, bOver_1, bOver_p, bWrap_1, bWrap_p, bKeep_1, bKeep_p, bSlot_1, bSlot_p] at a8 b8 c8 d8 e8 f8 h8 i8
      try dsimp only at hG
      intro h hh
      rw [ih _ _ _ _ _ _ _ _ _ _ r (by omega) (by omega) (by first | omega | (simp only [bNode_1, bNode_p, bSet_1, bSet_p, bOver_1, bOver_p, bWrap_1, bWrap_p, bKeep_1, bKeep_p, bSlot_1, bSlot_p]; omega)) hG ((⟨by omega, by first | omega | (simp only [bNode_1, bNode_p, bSet_1, bSet_p, bOver_1, bOver_p, bWrap_1, bWrap_p, bKeep_1, bKeep_p, bSlot_1, bSlot_p]; omega)⟩ : 1 ≤ _ ∧ _ < _)) h (by first | omega | (simp only [bNode_1, bNode_p, bSet_1, bSet_p, bOver_1, bOver_p, bWrap_1, bWrap_p, bKeep_1, bKeep_p, bSlot_1, bSlot_p]; omega))]
      try dsimp only
      (try rw [bNode_k (by first | omega | (simp only [bNode_1, bNode_p, bSet_1, bSet_p, bOver_1, bOver_p, bWrap_1, bWrap_p, bKeep_1, bKeep_p, bSlot_1, bSlot_p]; omega))]); (try rw [bSet_k hj (by decide)]); (try rw [bOver_k hj (by first | omega | (simp only [bNode_1, bNode_p, bSet_1, bSet_p, bOver_1, bOver_p, bWrap_1, bWrap_p, bKeep_1, bKeep_p, bSlot_1, bSlot_p]; omega))]); (try rw [bWrap_k hj (by first | omega | (simp only [bNode_1, bNode_p, bSet_1, bSet_p, bOver_1, bOver_p, bWrap_1, bWrap_p, bKeep_1, bKeep_p, bSlot_1, bSlot_p]; omega))]); (try rw [bNode_k (by first | omega | (simp only [bNode_1, bNode_p, bSet_1, bSet_p, bOver_1, bOver_p, bWrap_1, bWrap_p, bKeep_1, bKeep_p, bSlot_1, bSlot_p]; omega))]); (try rw [bKeep_k]); (try rw [bSlot_k]); (try rw [k8 h (by first | omega | (simp only [bNode_1, bNode_p, bSet_1, bSet_p, bOver_1, bOver_p, bWrap_1, bWrap_p, bKeep_1, bKeep_p, bSlot_1, bSlot_p]; omega))]); (try rw [bNode_k (by first | omega | (simp only [bNode_1, bNode_p, bSet_1, bSet_p, bOver_1, bOver_p, bWrap_1, bWrap_p, bKeep_1, bKeep_p, bSlot_1, bSlot_p]; omega))]); (try rw [bSet_k hj (by decide)]); (try rw [bOver_k hj (by first | omega | (simp only [bNode_1, bNode_p, bSet_1, bSet_p, bOver_1, bOver_p, bWrap_1, bWrap_p, bKeep_1, bKeep_p, bSlot_1, bSlot_p]; omega))]); (try rw [bWrap_k hj (by first | omega | (simp only [bNode_1, bNode_p, bSet_1, bSet_p, bOver_1, bOver_p, bWrap_1, bWrap_p, bKeep_1, bKeep_p, bSlot_1, bSlot_p]; omega))]); (try rw [bNode_k (by first | omega | (simp only [bNode_1, bNode_p, bSet_1, bSet_p, bOver_1, bOver_p, bWrap_1, bWrap_p, bKeep_1, bKeep_p, bSlot_1, bSlot_p]; omega))]); (try rw [bKeep_k]); (try rw [bSlot_k]); (try rfl)
theorem gk_12 {T : Nat → Int32} {n j f : Nat} (hj : j < 8 ∨ 9 < j) (ih : GK T n j f) {E : En} {o q v i e c g : Nat} {b : BT} {r : RT} (hq : q ≤ n) (hv : v ≤ 60) (hb : 1 ≤ b.1) (hG : G T n (f + 1) 12 E o q v i e c g b = some (Sum.inr r)) (hN : Nd0 12 1 b i e c) : ∀ h : Nat, h < b.1 → r.2.2.2.2.1.2.2.1 j h = b.2.2.1 j h := by
  rw [G_12] at hG
  have hN : 1 ≤ e ∧ e < b.1 := hN
  by_cases y1 : tkK T n q = 6 ∨ tkK T n q = 8
  · rw [if_pos y1] at hG
    obtain ⟨_, hG⟩ := gO_s hG
    obtain ⟨t2, hG⟩ := gT_s hG
    have u2 := tkN_b T n q (by omega)
    try dsimp only at hG
    obtain ⟨s3, g3, hG⟩ := gb_s hG
    have x3 := g_mono T n f _ _ _ _ _ _ _ _ _ _ s3 (by omega) (by omega) g3 1 (by first | omega | (simp only [bNode_1, bNode_p, bSet_1, bSet_p, bOver_1, bOver_p, bWrap_1, bWrap_p, bKeep_1, bKeep_p, bSlot_1, bSlot_p]; omega)) (by decide) (trivial)
    obtain ⟨a3, b3, c3, d3, e3, f3, h3, i3⟩ := (x3.1 : Mo n _ _ _ s3)
    have j3 : 1 ≤ s3.2.2.2.1 ∧ s3.2.2.2.1 < s3.2.2.2.2.1.1 := x3.2
    have k3 := ih _ _ _ _ _ _ _ _ _ _ s3 (by omega) (by omega) (by first | omega | (simp only [bNode_1, bNode_p, bSet_1, bSet_p, bOver_1, bOver_p, bWrap_1, bWrap_p, bKeep_1, bKeep_p, bSlot_1, bSlot_p]; omega)) g3 (trivial)
    try simp only [bNode_1, bNode_p, bSet_1, bSet_p, bOver_1, bOver_p, bWrap_1, bWrap_p, bKeep_1, bKeep_p, bSlot_1, bSlot_p] at a3 b3 c3 d3 e3 f3 h3 i3
    try dsimp only at hG
    by_cases y4 : tkK T n q = 6 ∧ tkK T n s3.1 = 16
    · rw [if_pos y4] at hG
      obtain ⟨t5, hG⟩ := gT_s hG
      have u5 := tkN_b T n s3.1 (by omega)
      try dsimp only at hG
      obtain ⟨s6, g6, hG⟩ := gb_s hG
      have x6 := g_mono T n f _ _ _ _ _ _ _ _ _ _ s6 (by omega) (by omega) g6 1 (by first | omega | (simp only [bNode_1, bNode_p, bSet_1, bSet_p, bOver_1, bOver_p, bWrap_1, bWrap_p, bKeep_1, bKeep_p, bSlot_1, bSlot_p]; omega)) (by decide) (trivial)
      obtain ⟨a6, b6, c6, d6, e6, f6, h6, i6⟩ := (x6.1 : Mo n _ _ _ s6)
      have j6 : 1 ≤ s6.2.2.2.1 ∧ s6.2.2.2.1 < s6.2.2.2.2.1.1 := x6.2
      have k6 := ih _ _ _ _ _ _ _ _ _ _ s6 (by omega) (by omega) (by first | omega | (simp only [bNode_1, bNode_p, bSet_1, bSet_p, bOver_1, bOver_p, bWrap_1, bWrap_p, bKeep_1, bKeep_p, bSlot_1, bSlot_p]; omega)) g6 (trivial)
      try simp only [bNode_1, bNode_p, bSet_1, bSet_p, bOver_1, bOver_p, bWrap_1, bWrap_p, bKeep_1, bKeep_p, bSlot_1, bSlot_p] at a6 b6 c6 d6 e6 f6 h6 i6
      try dsimp only at hG
      obtain ⟨w7, t7, hG⟩ := gW_s hG
      try have u7 := tkN_b T n s6.1 (by omega)
      try dsimp only at hG
      intro h hh
      rw [ih _ _ _ _ _ _ _ _ _ _ r (by omega) (by omega) (by first | omega | (simp only [bNode_1, bNode_p, bSet_1, bSet_p, bOver_1, bOver_p, bWrap_1, bWrap_p, bKeep_1, bKeep_p, bSlot_1, bSlot_p]; omega)) hG ((⟨by omega, by first | omega | (simp only [bNode_1, bNode_p, bSet_1, bSet_p, bOver_1, bOver_p, bWrap_1, bWrap_p, bKeep_1, bKeep_p, bSlot_1, bSlot_p]; omega)⟩ : 1 ≤ _ ∧ _ < _)) h (by first | omega | (simp only [bNode_1, bNode_p, bSet_1, bSet_p, bOver_1, bOver_p, bWrap_1, bWrap_p, bKeep_1, bKeep_p, bSlot_1, bSlot_p]; omega))]
      try dsimp only
      (try rw [bNode_k (by first | omega | (simp only [bNode_1, bNode_p, bSet_1, bSet_p, bOver_1, bOver_p, bWrap_1, bWrap_p, bKeep_1, bKeep_p, bSlot_1, bSlot_p]; omega))]); (try rw [bSet_k hj (by decide)]); (try rw [bOver_k hj (by first | omega | (simp only [bNode_1, bNode_p, bSet_1, bSet_p, bOver_1, bOver_p, bWrap_1, bWrap_p, bKeep_1, bKeep_p, bSlot_1, bSlot_p]; omega))]); (try rw [bWrap_k hj (by first | omega | (simp only [bNode_1, bNode_p, bSet_1, bSet_p, bOver_1, bOver_p, bWrap_1, bWrap_p, bKeep_1, bKeep_p, bSlot_1, bSlot_p]; omega))]); (try rw [bNode_k (by first | omega | (simp only [bNode_1, bNode_p, bSet_1, bSet_p, bOver_1, bOver_p, bWrap_1, bWrap_p, bKeep_1, bKeep_p, bSlot_1, bSlot_p]; omega))]); (try rw [bKeep_k]); (try rw [bSlot_k]); (try rw [k6 h (by first | omega | (simp only [bNode_1, bNode_p, bSet_1, bSet_p, bOver_1, bOver_p, bWrap_1, bWrap_p, bKeep_1, bKeep_p, bSlot_1, bSlot_p]; omega))]); (try rw [bNode_k (by first | omega | (simp only [bNode_1, bNode_p, bSet_1, bSet_p, bOver_1, bOver_p, bWrap_1, bWrap_p, bKeep_1, bKeep_p, bSlot_1, bSlot_p]; omega))]); (try rw [bSet_k hj (by decide)]); (try rw [bOver_k hj (by first | omega | (simp only [bNode_1, bNode_p, bSet_1, bSet_p, bOver_1, bOver_p, bWrap_1, bWrap_p, bKeep_1, bKeep_p, bSlot_1, bSlot_p]; omega))]); (try rw [bWrap_k hj (by first | omega | (simp only [bNode_1, bNode_p, bSet_1, bSet_p, bOver_1, bOver_p, bWrap_1, bWrap_p, bKeep_1, bKeep_p, bSlot_1, bSlot_p]; omega))]); (try rw [bNode_k (by first | omega | (simp only [bNode_1, bNode_p, bSet_1, bSet_p, bOver_1, bOver_p, bWrap_1, bWrap_p, bKeep_1, bKeep_p, bSlot_1, bSlot_p]; omega))]); (try rw [bKeep_k]); (try rw [bSlot_k]); (try rw [k3 h (by first | omega | (simp only [bNode_1, bNode_p, bSet_1, bSet_p, bOver_1, bOver_p, bWrap_1, bWrap_p, bKeep_1, bKeep_p, bSlot_1, bSlot_p]; omega))]); (try rw [bNode_k (by first | omega | (simp only [bNode_1, bNode_p, bSet_1, bSet_p, bOver_1, bOver_p, bWrap_1, bWrap_p, bKeep_1, bKeep_p, bSlot_1, bSlot_p]; omega))]); (try rw [bSet_k hj (by decide)]); (try rw [bOver_k hj (by first | omega | (simp only [bNode_1, bNode_p, bSet_1, bSet_p, bOver_1, bOver_p, bWrap_1, bWrap_p, bKeep_1, bKeep_p, bSlot_1, bSlot_p]; omega))]); (try rw [bWrap_k hj (by first | omega | (simp only [bNode_1, bNode_p, bSet_1, bSet_p, bOver_1, bOver_p, bWrap_1, bWrap_p, bKeep_1, bKeep_p, bSlot_1, bSlot_p]; omega))]); (try rw [bNode_k (by first | omega | (simp only [bNode_1, bNode_p, bSet_1, bSet_p, bOver_1, bOver_p, bWrap_1, bWrap_p, bKeep_1, bKeep_p, bSlot_1, bSlot_p]; omega))]); (try rw [bKeep_k]); (try rw [bSlot_k]); (try rfl)
    · rw [if_neg y4] at hG
      obtain ⟨w9, t9, hG⟩ := gW_s hG
      try have u9 := tkN_b T n s3.1 (by omega)
      try dsimp only at hG
      intro h hh
      rw [ih _ _ _ _ _ _ _ _ _ _ r (by omega) (by omega) (by first | omega | (simp only [bNode_1, bNode_p, bSet_1, bSet_p, bOver_1, bOver_p, bWrap_1, bWrap_p, bKeep_1, bKeep_p, bSlot_1, bSlot_p]; omega)) hG ((⟨by omega, by first | omega | (simp only [bNode_1, bNode_p, bSet_1, bSet_p, bOver_1, bOver_p, bWrap_1, bWrap_p, bKeep_1, bKeep_p, bSlot_1, bSlot_p]; omega)⟩ : 1 ≤ _ ∧ _ < _)) h (by first | omega | (simp only [bNode_1, bNode_p, bSet_1, bSet_p, bOver_1, bOver_p, bWrap_1, bWrap_p, bKeep_1, bKeep_p, bSlot_1, bSlot_p]; omega))]
      try dsimp only
      (try rw [bNode_k (by first | omega | (simp only [bNode_1, bNode_p, bSet_1, bSet_p, bOver_1, bOver_p, bWrap_1, bWrap_p, bKeep_1, bKeep_p, bSlot_1, bSlot_p]; omega))]); (try rw [bSet_k hj (by decide)]); (try rw [bOver_k hj (by first | omega | (simp only [bNode_1, bNode_p, bSet_1, bSet_p, bOver_1, bOver_p, bWrap_1, bWrap_p, bKeep_1, bKeep_p, bSlot_1, bSlot_p]; omega))]); (try rw [bWrap_k hj (by first | omega | (simp only [bNode_1, bNode_p, bSet_1, bSet_p, bOver_1, bOver_p, bWrap_1, bWrap_p, bKeep_1, bKeep_p, bSlot_1, bSlot_p]; omega))]); (try rw [bNode_k (by first | omega | (simp only [bNode_1, bNode_p, bSet_1, bSet_p, bOver_1, bOver_p, bWrap_1, bWrap_p, bKeep_1, bKeep_p, bSlot_1, bSlot_p]; omega))]); (try rw [bKeep_k]); (try rw [bSlot_k]); (try rw [k3 h (by first | omega | (simp only [bNode_1, bNode_p, bSet_1, bSet_p, bOver_1, bOver_p, bWrap_1, bWrap_p, bKeep_1, bKeep_p, bSlot_1, bSlot_p]; omega))]); (try rw [bNode_k (by first | omega | (simp only [bNode_1, bNode_p, bSet_1, bSet_p, bOver_1, bOver_p, bWrap_1, bWrap_p, bKeep_1, bKeep_p, bSlot_1, bSlot_p]; omega))]); (try rw [bSet_k hj (by decide)]); (try rw [bOver_k hj (by first | omega | (simp only [bNode_1, bNode_p, bSet_1, bSet_p, bOver_1, bOver_p, bWrap_1, bWrap_p, bKeep_1, bKeep_p, bSlot_1, bSlot_p]; omega))]); (try rw [bWrap_k hj (by first | omega | (simp only [bNode_1, bNode_p, bSet_1, bSet_p, bOver_1, bOver_p, bWrap_1, bWrap_p, bKeep_1, bKeep_p, bSlot_1, bSlot_p]; omega))]); (try rw [bNode_k (by first | omega | (simp only [bNode_1, bNode_p, bSet_1, bSet_p, bOver_1, bOver_p, bWrap_1, bWrap_p, bKeep_1, bKeep_p, bSlot_1, bSlot_p]; omega))]); (try rw [bKeep_k]); (try rw [bSlot_k]); (try rfl)
  · rw [if_neg y1] at hG
    cases hG
    intro h hh
    try dsimp only
    (try rw [bNode_k (by first | omega | (simp only [bNode_1, bNode_p, bSet_1, bSet_p, bOver_1, bOver_p, bWrap_1, bWrap_p, bKeep_1, bKeep_p, bSlot_1, bSlot_p]; omega))]); (try rw [bSet_k hj (by decide)]); (try rw [bOver_k hj (by first | omega | (simp only [bNode_1, bNode_p, bSet_1, bSet_p, bOver_1, bOver_p, bWrap_1, bWrap_p, bKeep_1, bKeep_p, bSlot_1, bSlot_p]; omega))]); (try rw [bWrap_k hj (by first | omega | (simp only [bNode_1, bNode_p, bSet_1, bSet_p, bOver_1, bOver_p, bWrap_1, bWrap_p, bKeep_1, bKeep_p, bSlot_1, bSlot_p]; omega))]); (try rw [bNode_k (by first | omega | (simp only [bNode_1, bNode_p, bSet_1, bSet_p, bOver_1, bOver_p, bWrap_1, bWrap_p, bKeep_1, bKeep_p, bSlot_1, bSlot_p]; omega))]); (try rw [bKeep_k]); (try rw [bSlot_k]); (try rfl)
theorem gk_13 {T : Nat → Int32} {n j f : Nat} (hj : j < 8 ∨ 9 < j) (ih : GK T n j f) {E : En} {o q v i e c g : Nat} {b : BT} {r : RT} (hq : q ≤ n) (hv : v ≤ 60) (hb : 1 ≤ b.1) (hG : G T n (f + 1) 13 E o q v i e c g b = some (Sum.inr r)) (hN : Nd0 13 1 b i e c) : ∀ h : Nat, h < b.1 → r.2.2.2.2.1.2.2.1 j h = b.2.2.1 j h := by
  rw [G_13] at hG
  by_cases y1 : tkK T n q = 27
  · rw [if_pos y1] at hG
    obtain ⟨t2, hG⟩ := gT_s hG
    have u2 := tkN_b T n q (by omega)
    try dsimp only at hG
    cases hG
    intro h hh
    try dsimp only
    (try rw [bNode_k (by first | omega | (simp only [bNode_1, bNode_p, bSet_1, bSet_p, bOver_1, bOver_p, bWrap_1, bWrap_p, bKeep_1, bKeep_p, bSlot_1, bSlot_p]; omega))]); (try rw [bSet_k hj (by decide)]); (try rw [bOver_k hj (by first | omega | (simp only [bNode_1, bNode_p, bSet_1, bSet_p, bOver_1, bOver_p, bWrap_1, bWrap_p, bKeep_1, bKeep_p, bSlot_1, bSlot_p]; omega))]); (try rw [bWrap_k hj (by first | omega | (simp only [bNode_1, bNode_p, bSet_1, bSet_p, bOver_1, bOver_p, bWrap_1, bWrap_p, bKeep_1, bKeep_p, bSlot_1, bSlot_p]; omega))]); (try rw [bNode_k (by first | omega | (simp only [bNode_1, bNode_p, bSet_1, bSet_p, bOver_1, bOver_p, bWrap_1, bWrap_p, bKeep_1, bKeep_p, bSlot_1, bSlot_p]; omega))]); (try rw [bKeep_k]); (try rw [bSlot_k]); (try rfl)
  · rw [if_neg y1] at hG
    by_cases y3 : tkK T n q = 28
    · rw [if_pos y3] at hG
      obtain ⟨t4, hG⟩ := gT_s hG
      have u4 := tkN_b T n q (by omega)
      try dsimp only at hG
      cases hG
      intro h hh
      try dsimp only
      (try rw [bNode_k (by first | omega | (simp only [bNode_1, bNode_p, bSet_1, bSet_p, bOver_1, bOver_p, bWrap_1, bWrap_p, bKeep_1, bKeep_p, bSlot_1, bSlot_p]; omega))]); (try rw [bSet_k hj (by decide)]); (try rw [bOver_k hj (by first | omega | (simp only [bNode_1, bNode_p, bSet_1, bSet_p, bOver_1, bOver_p, bWrap_1, bWrap_p, bKeep_1, bKeep_p, bSlot_1, bSlot_p]; omega))]); (try rw [bWrap_k hj (by first | omega | (simp only [bNode_1, bNode_p, bSet_1, bSet_p, bOver_1, bOver_p, bWrap_1, bWrap_p, bKeep_1, bKeep_p, bSlot_1, bSlot_p]; omega))]); (try rw [bNode_k (by first | omega | (simp only [bNode_1, bNode_p, bSet_1, bSet_p, bOver_1, bOver_p, bWrap_1, bWrap_p, bKeep_1, bKeep_p, bSlot_1, bSlot_p]; omega))]); (try rw [bKeep_k]); (try rw [bSlot_k]); (try rfl)
    · rw [if_neg y3] at hG
      by_cases y5 : tkK T n q = 26
      · rw [if_pos y5] at hG
        obtain ⟨t6, hG⟩ := gT_s hG
        have u6 := tkN_b T n q (by omega)
        try dsimp only at hG
        by_cases y7 : (fd E (tkS T n q)).1 = 1
        · rw [if_pos y7] at hG
          cases hG
          intro h hh
          try dsimp only
          (try rw [bNode_k (by first | omega | (simp only [bNode_1, bNode_p, bSet_1, bSet_p, bOver_1, bOver_p, bWrap_1, bWrap_p, bKeep_1, bKeep_p, bSlot_1, bSlot_p]; omega))]); (try rw [bSet_k hj (by decide)]); (try rw [bOver_k hj (by first | omega | (simp only [bNode_1, bNode_p, bSet_1, bSet_p, bOver_1, bOver_p, bWrap_1, bWrap_p, bKeep_1, bKeep_p, bSlot_1, bSlot_p]; omega))]); (try rw [bWrap_k hj (by first | omega | (simp only [bNode_1, bNode_p, bSet_1, bSet_p, bOver_1, bOver_p, bWrap_1, bWrap_p, bKeep_1, bKeep_p, bSlot_1, bSlot_p]; omega))]); (try rw [bNode_k (by first | omega | (simp only [bNode_1, bNode_p, bSet_1, bSet_p, bOver_1, bOver_p, bWrap_1, bWrap_p, bKeep_1, bKeep_p, bSlot_1, bSlot_p]; omega))]); (try rw [bKeep_k]); (try rw [bSlot_k]); (try rfl)
        · rw [if_neg y7] at hG
          by_cases y8 : (fd E (tkS T n q)).1 = 2 ∧ tkK T n (tkN T n q) = 6
          · rw [if_pos y8] at hG
            obtain ⟨_, hG⟩ := gO_s hG
            obtain ⟨t9, hG⟩ := gT_s hG
            have u9 := tkN_b T n (tkN T n q) (by omega)
            try dsimp only at hG
            obtain ⟨s10, g10, hG⟩ := gb_s hG
            have x10 := g_mono T n f _ _ _ _ _ _ _ _ _ _ s10 (by omega) (by omega) g10 1 (by first | omega | (simp only [bNode_1, bNode_p, bSet_1, bSet_p, bOver_1, bOver_p, bWrap_1, bWrap_p, bKeep_1, bKeep_p, bSlot_1, bSlot_p]; omega)) (by decide) (Or.inl rfl)
            obtain ⟨a10, b10, c10, d10, e10, f10, h10, i10⟩ := (x10.1 : Mo n _ _ _ s10)
            have k10 := ih _ _ _ _ _ _ _ _ _ _ s10 (by omega) (by omega) (by first | omega | (simp only [bNode_1, bNode_p, bSet_1, bSet_p, bOver_1, bOver_p, bWrap_1, bWrap_p, bKeep_1, bKeep_p, bSlot_1, bSlot_p]; omega)) g10 (Or.inl rfl)
            try simp only [bNode_1, bNode_p, bSet_1, bSet_p, bOver_1, bOver_p, bWrap_1, bWrap_p, bKeep_1, bKeep_p, bSlot_1, bSlot_p] at a10 b10 c10 d10 e10 f10 h10 i10
            try dsimp only at hG
            by_cases y11 : tkK T n s10.1 = 7 ∧ s10.2.2.1 = E.2.2.2.2.2.2 (fd E (tkS T n q)).2.1
            · rw [if_pos y11] at hG
              obtain ⟨t12, hG⟩ := gT_s hG
              have u12 := tkN_b T n s10.1 (by omega)
              try dsimp only at hG
              cases hG
              intro h hh
              try dsimp only
              (try rw [bNode_k (by first | omega | (simp only [bNode_1, bNode_p, bSet_1, bSet_p, bOver_1, bOver_p, bWrap_1, bWrap_p, bKeep_1, bKeep_p, bSlot_1, bSlot_p]; omega))]); (try rw [bSet_k hj (by decide)]); (try rw [bOver_k hj (by first | omega | (simp only [bNode_1, bNode_p, bSet_1, bSet_p, bOver_1, bOver_p, bWrap_1, bWrap_p, bKeep_1, bKeep_p, bSlot_1, bSlot_p]; omega))]); (try rw [bWrap_k hj (by first | omega | (simp only [bNode_1, bNode_p, bSet_1, bSet_p, bOver_1, bOver_p, bWrap_1, bWrap_p, bKeep_1, bKeep_p, bSlot_1, bSlot_p]; omega))]); (try rw [bNode_k (by first | omega | (simp only [bNode_1, bNode_p, bSet_1, bSet_p, bOver_1, bOver_p, bWrap_1, bWrap_p, bKeep_1, bKeep_p, bSlot_1, bSlot_p]; omega))]); (try rw [bKeep_k]); (try rw [bSlot_k]); (try rw [k10 h (by first | omega | (simp only [bNode_1, bNode_p, bSet_1, bSet_p, bOver_1, bOver_p, bWrap_1, bWrap_p, bKeep_1, bKeep_p, bSlot_1, bSlot_p]; omega))]); (try rw [bNode_k (by first | omega | (simp only [bNode_1, bNode_p, bSet_1, bSet_p, bOver_1, bOver_p, bWrap_1, bWrap_p, bKeep_1, bKeep_p, bSlot_1, bSlot_p]; omega))]); (try rw [bSet_k hj (by decide)]); (try rw [bOver_k hj (by first | omega | (simp only [bNode_1, bNode_p, bSet_1, bSet_p, bOver_1, bOver_p, bWrap_1, bWrap_p, bKeep_1, bKeep_p, bSlot_1, bSlot_p]; omega))]); (try rw [bWrap_k hj (by first | omega | (simp only [bNode_1, bNode_p, bSet_1, bSet_p, bOver_1, bOver_p, bWrap_1, bWrap_p, bKeep_1, bKeep_p, bSlot_1, bSlot_p]; omega))]); (try rw [bNode_k (by first | omega | (simp only [bNode_1, bNode_p, bSet_1, bSet_p, bOver_1, bOver_p, bWrap_1, bWrap_p, bKeep_1, bKeep_p, bSlot_1, bSlot_p]; omega))]); (try rw [bKeep_k]); (try rw [bSlot_k]); (try rfl)
            · rw [if_neg y11] at hG
              cases hG
          · rw [if_neg y8] at hG
            cases hG
      · rw [if_neg y5] at hG
        by_cases y13 : tkK T n q = 6
        · rw [if_pos y13] at hG
          obtain ⟨_, hG⟩ := gO_s hG
          obtain ⟨t14, hG⟩ := gT_s hG
          have u14 := tkN_b T n q (by omega)
          try dsimp only at hG
          obtain ⟨s15, g15, hG⟩ := gb_s hG
          have x15 := g_mono T n f _ _ _ _ _ _ _ _ _ _ s15 (by omega) (by omega) g15 1 (by first | omega | (simp only [bNode_1, bNode_p, bSet_1, bSet_p, bOver_1, bOver_p, bWrap_1, bWrap_p, bKeep_1, bKeep_p, bSlot_1, bSlot_p]; omega)) (by decide) (trivial)
          obtain ⟨a15, b15, c15, d15, e15, f15, h15, i15⟩ := (x15.1 : Mo n _ _ _ s15)
          have j15 : 1 ≤ s15.2.2.2.1 ∧ s15.2.2.2.1 < s15.2.2.2.2.1.1 := x15.2
          have k15 := ih _ _ _ _ _ _ _ _ _ _ s15 (by omega) (by omega) (by first | omega | (simp only [bNode_1, bNode_p, bSet_1, bSet_p, bOver_1, bOver_p, bWrap_1, bWrap_p, bKeep_1, bKeep_p, bSlot_1, bSlot_p]; omega)) g15 (trivial)
          try simp only [bNode_1, bNode_p, bSet_1, bSet_p, bOver_1, bOver_p, bWrap_1, bWrap_p, bKeep_1, bKeep_p, bSlot_1, bSlot_p] at a15 b15 c15 d15 e15 f15 h15 i15
          try dsimp only at hG
          obtain ⟨w16, t16, hG⟩ := gW_s hG
          try have u16 := tkN_b T n s15.1 (by omega)
          try dsimp only at hG
          cases hG
          intro h hh
          try dsimp only
          (try rw [bNode_k (by first | omega | (simp only [bNode_1, bNode_p, bSet_1, bSet_p, bOver_1, bOver_p, bWrap_1, bWrap_p, bKeep_1, bKeep_p, bSlot_1, bSlot_p]; omega))]); (try rw [bSet_k hj (by decide)]); (try rw [bOver_k hj (by first | omega | (simp only [bNode_1, bNode_p, bSet_1, bSet_p, bOver_1, bOver_p, bWrap_1, bWrap_p, bKeep_1, bKeep_p, bSlot_1, bSlot_p]; omega))]); (try rw [bWrap_k hj (by first | omega | (simp only [bNode_1, bNode_p, bSet_1, bSet_p, bOver_1, bOver_p, bWrap_1, bWrap_p, bKeep_1, bKeep_p, bSlot_1, bSlot_p]; omega))]); (try rw [bNode_k (by first | omega | (simp only [bNode_1, bNode_p, bSet_1, bSet_p, bOver_1, bOver_p, bWrap_1, bWrap_p, bKeep_1, bKeep_p, bSlot_1, bSlot_p]; omega))]); (try rw [bKeep_k]); (try rw [bSlot_k]); (try rw [k15 h (by first | omega | (simp only [bNode_1, bNode_p, bSet_1, bSet_p, bOver_1, bOver_p, bWrap_1, bWrap_p, bKeep_1, bKeep_p, bSlot_1, bSlot_p]; omega))]); (try rw [bNode_k (by first | omega | (simp only [bNode_1, bNode_p, bSet_1, bSet_p, bOver_1, bOver_p, bWrap_1, bWrap_p, bKeep_1, bKeep_p, bSlot_1, bSlot_p]; omega))]); (try rw [bSet_k hj (by decide)]); (try rw [bOver_k hj (by first | omega | (simp only [bNode_1, bNode_p, bSet_1, bSet_p, bOver_1, bOver_p, bWrap_1, bWrap_p, bKeep_1, bKeep_p, bSlot_1, bSlot_p]; omega))]); (try rw [bWrap_k hj (by first | omega | (simp only [bNode_1, bNode_p, bSet_1, bSet_p, bOver_1, bOver_p, bWrap_1, bWrap_p, bKeep_1, bKeep_p, bSlot_1, bSlot_p]; omega))]); (try rw [bNode_k (by first | omega | (simp only [bNode_1, bNode_p, bSet_1, bSet_p, bOver_1, bOver_p, bWrap_1, bWrap_p, bKeep_1, bKeep_p, bSlot_1, bSlot_p]; omega))]); (try rw [bKeep_k]); (try rw [bSlot_k]); (try rfl)
        · rw [if_neg y13] at hG
          by_cases y17 : tkK T n q = 8 ∨ tkK T n q = 10
          · rw [if_pos y17] at hG
            obtain ⟨_, hG⟩ := gO_s hG
            obtain ⟨t18, hG⟩ := gT_s hG
            have u18 := tkN_b T n q (by omega)
            try dsimp only at hG
            by_cases y19 : tkK T n (tkN T n q) = tkK T n q + 1
            · rw [if_pos y19] at hG
              obtain ⟨t20, hG⟩ := gT_s hG
              have u20 := tkN_b T n (tkN T n q) (by omega)
              try dsimp only at hG
              cases hG
              intro h hh
              try dsimp only
              (try rw [bNode_k (by first | omega | (simp only [bNode_1, bNode_p, bSet_1, bSet_p, bOver_1, bOver_p, bWrap_1, bWrap_p, bKeep_1, bKeep_p, bSlot_1, bSlot_p]; omega))]); (try rw [bSet_k hj (by decide)]); (try rw [bOver_k hj (by first | omega | (simp only [bNode_1, bNode_p, bSet_1, bSet_p, bOver_1, bOver_p, bWrap_1, bWrap_p, bKeep_1, bKeep_p, bSlot_1, bSlot_p]; omega))]); (try rw [bWrap_k hj (by first | omega | (simp only [bNode_1, bNode_p, bSet_1, bSet_p, bOver_1, bOver_p, bWrap_1, bWrap_p, bKeep_1, bKeep_p, bSlot_1, bSlot_p]; omega))]); (try rw [bNode_k (by first | omega | (simp only [bNode_1, bNode_p, bSet_1, bSet_p, bOver_1, bOver_p, bWrap_1, bWrap_p, bKeep_1, bKeep_p, bSlot_1, bSlot_p]; omega))]); (try rw [bKeep_k]); (try rw [bSlot_k]); (try rfl)
            · rw [if_neg y19] at hG
              by_cases y21 : tkK T n (tkN T n q) = 45
              · rw [if_pos y21] at hG
                obtain ⟨t22, hG⟩ := gT_s hG
                have u22 := tkN_b T n (tkN T n q) (by omega)
                try dsimp only at hG
                obtain ⟨s23, g23, hG⟩ := gb_s hG
                have x23 := g_mono T n f _ _ _ _ _ _ _ _ _ _ s23 (by omega) (by omega) g23 1 (by first | omega | (simp only [bNode_1, bNode_p, bSet_1, bSet_p, bOver_1, bOver_p, bWrap_1, bWrap_p, bKeep_1, bKeep_p, bSlot_1, bSlot_p]; omega)) (by decide) (Or.inl rfl)
                obtain ⟨a23, b23, c23, d23, e23, f23, h23, i23⟩ := (x23.1 : Mo n _ _ _ s23)
                have j23 : 1 ≤ s23.2.2.2.1 ∧ s23.2.2.2.1 < s23.2.2.2.2.1.1 := x23.2
                have k23 := ih _ _ _ _ _ _ _ _ _ _ s23 (by omega) (by omega) (by first | omega | (simp only [bNode_1, bNode_p, bSet_1, bSet_p, bOver_1, bOver_p, bWrap_1, bWrap_p, bKeep_1, bKeep_p, bSlot_1, bSlot_p]; omega)) g23 (Or.inl rfl)
                try simp only [bNode_1, bNode_p, bSet_1, bSet_p, bOver_1, bOver_p, bWrap_1, bWrap_p, bKeep_1, bKeep_p, bSlot_1, bSlot_p] at a23 b23 c23 d23 e23 f23 h23 i23
                try dsimp only at hG
                by_cases y24 : tkK T n s23.1 = 15
                · rw [if_pos y24] at hG
                  obtain ⟨t25, hG⟩ := gT_s hG
                  have u25 := tkN_b T n s23.1 (by omega)
                  try dsimp only at hG
                  obtain ⟨s26, g26, hG⟩ := gb_s hG
                  have x26 := g_mono T n f _ _ _ _ _ _ _ _ _ _ s26 (by omega) (by omega) g26 1 (by first | omega | (simp only [bNode_1, bNode_p, bSet_1, bSet_p, bOver_1, bOver_p, bWrap_1, bWrap_p, bKeep_1, bKeep_p, bSlot_1, bSlot_p]; omega)) (by decide) (trivial)
                  obtain ⟨a26, b26, c26, d26, e26, f26, h26, i26⟩ := (x26.1 : Mo n _ _ _ s26)
                  have j26 : 1 ≤ s26.2.2.2.1 ∧ s26.2.2.2.1 < s26.2.2.2.2.1.1 := x26.2
                  have k26 := ih _ _ _ _ _ _ _ _ _ _ s26 (by omega) (by omega) (by first | omega | (simp only [bNode_1, bNode_p, bSet_1, bSet_p, bOver_1, bOver_p, bWrap_1, bWrap_p, bKeep_1, bKeep_p, bSlot_1, bSlot_p]; omega)) g26 (trivial)
                  try simp only [bNode_1, bNode_p, bSet_1, bSet_p, bOver_1, bOver_p, bWrap_1, bWrap_p, bKeep_1, bKeep_p, bSlot_1, bSlot_p] at a26 b26 c26 d26 e26 f26 h26 i26
                  try dsimp only at hG
                  obtain ⟨w27, t27, hG⟩ := gW_s hG
                  try have u27 := tkN_b T n s26.1 (by omega)
                  try dsimp only at hG
                  obtain ⟨s28, g28, hG⟩ := gb_s hG
                  have x28 := g_mono T n f _ _ _ _ _ _ _ _ _ _ s28 (by omega) (by omega) g28 1 (by first | omega | (simp only [bNode_1, bNode_p, bSet_1, bSet_p, bOver_1, bOver_p, bWrap_1, bWrap_p, bKeep_1, bKeep_p, bSlot_1, bSlot_p]; omega)) (by decide) (trivial)
                  obtain ⟨a28, b28, c28, d28, e28, f28, h28, i28⟩ := (x28.1 : Mo n _ _ _ s28)
                  have j28 : 1 ≤ s28.2.2.2.1 ∧ s28.2.2.2.1 < s28.2.2.2.2.1.1 := x28.2
                  have k28 := ih _ _ _ _ _ _ _ _ _ _ s28 (by omega) (by omega) (by first | omega | (simp only [bNode_1, bNode_p, bSet_1, bSet_p, bOver_1, bOver_p, bWrap_1, bWrap_p, bKeep_1, bKeep_p, bSlot_1, bSlot_p]; omega)) g28 (trivial)
                  try simp only [bNode_1, bNode_p, bSet_1, bSet_p, bOver_1, bOver_p, bWrap_1, bWrap_p, bKeep_1, bKeep_p, bSlot_1, bSlot_p] at a28 b28 c28 d28 e28 f28 h28 i28
                  try dsimp only at hG
                  obtain ⟨w29, t29, hG⟩ := gW_s hG
                  try have u29 := tkN_b T n s28.1 (by omega)
                  try dsimp only at hG
                  cases hG
                  intro h hh
                  try dsimp only
                  (try rw [bNode_k (by first | omega | (simp only [bNode_1, bNode_p, bSet_1, bSet_p, bOver_1, bOver_p, bWrap_1, bWrap_p, bKeep_1, bKeep_p, bSlot_1, bSlot_p]; omega))]); (try rw [bSet_k hj (by decide)]); (try rw [bOver_k hj (by first | omega | (simp only [bNode_1, bNode_p, bSet_1, bSet_p, bOver_1, bOver_p, bWrap_1, bWrap_p, bKeep_1, bKeep_p, bSlot_1, bSlot_p]; omega))]); (try rw [bWrap_k hj (by first | omega | (simp only [bNode_1, bNode_p, bSet_1, bSet_p, bOver_1, bOver_p, bWrap_1, bWrap_p, bKeep_1, bKeep_p, bSlot_1, bSlot_p]; omega))]); (try rw [bNode_k (by first | omega | (simp only [bNode_1, bNode_p, bSet_1, bSet_p, bOver_1, bOver_p, bWrap_1, bWrap_p, bKeep_1, bKeep_p, bSlot_1, bSlot_p]; omega))]); (try rw [bKeep_k]); (try rw [bSlot_k]); (try rw [k28 h (by first | omega | (simp only [bNode_1, bNode_p, bSet_1, bSet_p, bOver_1, bOver_p, bWrap_1, bWrap_p, bKeep_1, bKeep_p, bSlot_1, bSlot_p]; omega))]); (try rw [bNode_k (by first | omega | (simp only [bNode_1, bNode_p, bSet_1, bSet_p, bOver_1, bOver_p, bWrap_1, bWrap_p, bKeep_1, bKeep_p, bSlot_1, bSlot_p]; omega))]); (try rw [bSet_k hj (by decide)]); (try rw [bOver_k hj (by first | omega | (simp only [bNode_1, bNode_p, bSet_1, bSet_p, bOver_1, bOver_p, bWrap_1, bWrap_p, bKeep_1, bKeep_p, bSlot_1, bSlot_p]; omega))]); (try rw [bWrap_k hj (by first | omega | (simp only [bNode_1, bNode_p, bSet_1, bSet_p, bOver_1, bOver_p, bWrap_1, bWrap_p, bKeep_1, bKeep_p, bSlot_1, bSlot_p]; omega))]); (try rw [bNode_k (by first | omega | (simp only [bNode_1, bNode_p, bSet_1, bSet_p, bOver_1, bOver_p, bWrap_1, bWrap_p, bKeep_1, bKeep_p, bSlot_1, bSlot_p]; omega))]); (try rw [bKeep_k]); (try rw [bSlot_k]); (try rw [k26 h (by first | omega | (simp only [bNode_1, bNode_p, bSet_1, bSet_p, bOver_1, bOver_p, bWrap_1, bWrap_p, bKeep_1, bKeep_p, bSlot_1, bSlot_p]; omega))]); (try rw [bNode_k (by first | omega | (simp only [bNode_1, bNode_p, bSet_1, bSet_p, bOver_1, bOver_p, bWrap_1, bWrap_p, bKeep_1, bKeep_p, bSlot_1, bSlot_p]; omega))]); (try rw [bSet_k hj (by decide)]); (try rw [bOver_k hj (by first | omega | (simp only [bNode_1, bNode_p, bSet_1, bSet_p, bOver_1, bOver_p, bWrap_1, bWrap_p, bKeep_1, bKeep_p, bSlot_1, bSlot_p]; omega))]); (try rw [bWrap_k hj (by first | omega | (simp only [bNode_1, bNode_p, bSet_1, bSet_p, bOver_1, bOver_p, bWrap_1, bWrap_p, bKeep_1, bKeep_p, bSlot_1, bSlot_p]; omega))]); (try rw [bNode_k (by first | omega | (simp only [bNode_1, bNode_p, bSet_1, bSet_p, bOver_1, bOver_p, bWrap_1, bWrap_p, bKeep_1, bKeep_p, bSlot_1, bSlot_p]; omega))]); (try rw [bKeep_k]); (try rw [bSlot_k]); (try rw [k23 h (by first | omega | (simp only [bNode_1, bNode_p, bSet_1, bSet_p, bOver_1, bOver_p, bWrap_1, bWrap_p, bKeep_1, bKeep_p, bSlot_1, bSlot_p]; omega))]); (try rw [bNode_k (by first | omega | (simp only [bNode_1, bNode_p, bSet_1, bSet_p, bOver_1, bOver_p, bWrap_1, bWrap_p, bKeep_1, bKeep_p, bSlot_1, bSlot_p]; omega))]); (try rw [bSet_k hj (by decide)]); (try rw [bOver_k hj (by first | omega | (simp only [bNode_1, bNode_p, bSet_1, bSet_p, bOver_1, bOver_p, bWrap_1, bWrap_p, bKeep_1, bKeep_p, bSlot_1, bSlot_p]; omega))]); (try rw [bWrap_k hj (by first | omega | (simp only [bNode_1, bNode_p, bSet_1, bSet_p, bOver_1, bOver_p, bWrap_1, bWrap_p, bKeep_1, bKeep_p, bSlot_1, bSlot_p]; omega))]); (try rw [bNode_k (by first | omega | (simp only [bNode_1, bNode_p, bSet_1, bSet_p, bOver_1, bOver_p, bWrap_1, bWrap_p, bKeep_1, bKeep_p, bSlot_1, bSlot_p]; omega))]); (try rw [bKeep_k]); (try rw [bSlot_k]); (try rfl)
                · rw [if_neg y24] at hG
                  obtain ⟨w30, t30, hG⟩ := gW_s hG
                  try have u30 := tkN_b T n s23.1 (by omega)
                  try dsimp only at hG
                  obtain ⟨s31, g31, hG⟩ := gb_s hG
                  have x31 := g_mono T n f _ _ _ _ _ _ _ _ _ _ s31 (by omega) (by omega) g31 1 (by first | omega | (simp only [bNode_1, bNode_p, bSet_1, bSet_p, bOver_1, bOver_p, bWrap_1, bWrap_p, bKeep_1, bKeep_p, bSlot_1, bSlot_p]; omega)) (by decide) (trivial)
                  obtain ⟨a31, b31, c31, d31, e31, f31, h31, i31⟩ := (x31.1 : Mo n _ _ _ s31)
                  have j31 : 1 ≤ s31.2.2.2.1 ∧ s31.2.2.2.1 < s31.2.2.2.2.1.1 := x31.2
                  have k31 := ih _ _ _ _ _ _ _ _ _ _ s31 (by omega) (by omega) (by first | omega | (simp only [bNode_1, bNode_p, bSet_1, bSet_p, bOver_1, bOver_p, bWrap_1, bWrap_p, bKeep_1, bKeep_p, bSlot_1, bSlot_p]; omega)) g31 (trivial)
                  try simp only [bNode_1, bNode_p, bSet_1, bSet_p, bOver_1, bOver_p, bWrap_1, bWrap_p, bKeep_1, bKeep_p, bSlot_1, bSlot_p] at a31 b31 c31 d31 e31 f31 h31 i31
                  try dsimp only at hG
                  obtain ⟨w32, t32, hG⟩ := gW_s hG
                  try have u32 := tkN_b T n s31.1 (by omega)
                  try dsimp only at hG
                  cases hG
                  intro h hh
                  try dsimp only
                  (try rw [bNode_k (by first | omega | (simp only [bNode_1, bNode_p, bSet_1, bSet_p, bOver_1, bOver_p, bWrap_1, bWrap_p, bKeep_1, bKeep_p, bSlot_1, bSlot_p]; omega))]); (try rw [bSet_k hj (by decide)]); (try rw [bOver_k hj (by first | omega | (simp only [bNode_1, bNode_p, bSet_1, bSet_p, bOver_1, bOver_p, bWrap_1, bWrap_p, bKeep_1, bKeep_p, bSlot_1, bSlot_p]; omega))]); (try rw [bWrap_k hj (by first | omega | (simp only [bNode_1, bNode_p, bSet_1, bSet_p, bOver_1, bOver_p, bWrap_1, bWrap_p, bKeep_1, bKeep_p, bSlot_1, bSlot_p]; omega))]); (try rw [bNode_k (by first | omega | (simp only [bNode_1, bNode_p, bSet_1, bSet_p, bOver_1, bOver_p, bWrap_1, bWrap_p, bKeep_1, bKeep_p, bSlot_1, bSlot_p]; omega))]); (try rw [bKeep_k]); (try rw [bSlot_k]); (try rw [k31 h (by first | omega | (simp only [bNode_1, bNode_p, bSet_1, bSet_p, bOver_1, bOver_p, bWrap_1, bWrap_p, bKeep_1, bKeep_p, bSlot_1, bSlot_p]; omega))]); (try rw [bNode_k (by first | omega | (simp only [bNode_1, bNode_p, bSet_1, bSet_p, bOver_1, bOver_p, bWrap_1, bWrap_p, bKeep_1, bKeep_p, bSlot_1, bSlot_p]; omega))]); (try rw [bSet_k hj (by decide)]); (try rw [bOver_k hj (by first | omega | (simp only [bNode_1, bNode_p, bSet_1, bSet_p, bOver_1, bOver_p, bWrap_1, bWrap_p, bKeep_1, bKeep_p, bSlot_1, bSlot_p]; omega))]); (try rw [bWrap_k hj (by first | omega | (simp only [bNode_1, bNode_p, bSet_1, bSet_p, bOver_1, bOver_p, bWrap_1, bWrap_p, bKeep_1, bKeep_p, bSlot_1, bSlot_p]; omega))]); (try rw [bNode_k (by first | omega | (simp only [bNode_1, bNode_p, bSet_1, bSet_p, bOver_1, bOver_p, bWrap_1, bWrap_p, bKeep_1, bKeep_p, bSlot_1, bSlot_p]; omega))]); (try rw [bKeep_k]); (try rw [bSlot_k]); (try rw [k23 h (by first | omega | (simp only [bNode_1, bNode_p, bSet_1, bSet_p, bOver_1, bOver_p, bWrap_1, bWrap_p, bKeep_1, bKeep_p, bSlot_1, bSlot_p]; omega))]); (try rw [bNode_k (by first | omega | (simp only [bNode_1, bNode_p, bSet_1, bSet_p, bOver_1, bOver_p, bWrap_1, bWrap_p, bKeep_1, bKeep_p, bSlot_1, bSlot_p]; omega))]); (try rw [bSet_k hj (by decide)]); (try rw [bOver_k hj (by first | omega | (simp only [bNode_1, bNode_p, bSet_1, bSet_p, bOver_1, bOver_p, bWrap_1, bWrap_p, bKeep_1, bKeep_p, bSlot_1, bSlot_p]; omega))]); (try rw [bWrap_k hj (by first | omega | (simp only [bNode_1, bNode_p, bSet_1, bSet_p, bOver_1, bOver_p, bWrap_1, bWrap_p, bKeep_1, bKeep_p, bSlot_1, bSlot_p]; omega))]); (try rw [bNode_k (by first | omega | (simp only [bNode_1, bNode_p, bSet_1, bSet_p, bOver_1, bOver_p, bWrap_1, bWrap_p, bKeep_1, bKeep_p, bSlot_1, bSlot_p]; omega))]); (try rw [bKeep_k]); (try rw [bSlot_k]); (try rfl)
              · rw [if_neg y21] at hG
                obtain ⟨s33, g33, hG⟩ := gb_s hG
                have x33 := g_mono T n f _ _ _ _ _ _ _ _ _ _ s33 (by omega) (by omega) g33 1 (by first | omega | (simp only [bNode_1, bNode_p, bSet_1, bSet_p, bOver_1, bOver_p, bWrap_1, bWrap_p, bKeep_1, bKeep_p, bSlot_1, bSlot_p]; omega)) (by decide) (trivial)
                obtain ⟨a33, b33, c33, d33, e33, f33, h33, i33⟩ := (x33.1 : Mo n _ _ _ s33)
                have j33 : 1 ≤ s33.2.2.2.1 ∧ s33.2.2.2.1 < s33.2.2.2.2.1.1 := x33.2
                have k33 := ih _ _ _ _ _ _ _ _ _ _ s33 (by omega) (by omega) (by first | omega | (simp only [bNode_1, bNode_p, bSet_1, bSet_p, bOver_1, bOver_p, bWrap_1, bWrap_p, bKeep_1, bKeep_p, bSlot_1, bSlot_p]; omega)) g33 (trivial)
                try simp only [bNode_1, bNode_p, bSet_1, bSet_p, bOver_1, bOver_p, bWrap_1, bWrap_p, bKeep_1, bKeep_p, bSlot_1, bSlot_p] at a33 b33 c33 d33 e33 f33 h33 i33
                try dsimp only at hG
                by_cases y34 : tkK T n s33.1 = 16
                · rw [if_pos y34] at hG
                  obtain ⟨t35, hG⟩ := gT_s hG
                  have u35 := tkN_b T n s33.1 (by omega)
                  try dsimp only at hG
                  obtain ⟨s36, g36, hG⟩ := gb_s hG
                  have x36 := g_mono T n f _ _ _ _ _ _ _ _ _ _ s36 (by omega) (by omega) g36 1 (by first | omega | (simp only [bNode_1, bNode_p, bSet_1, bSet_p, bOver_1, bOver_p, bWrap_1, bWrap_p, bKeep_1, bKeep_p, bSlot_1, bSlot_p]; omega)) (by decide) (trivial)
                  obtain ⟨a36, b36, c36, d36, e36, f36, h36, i36⟩ := (x36.1 : Mo n _ _ _ s36)
                  have j36 : 1 ≤ s36.2.2.2.1 ∧ s36.2.2.2.1 < s36.2.2.2.2.1.1 := x36.2
                  have k36 := ih _ _ _ _ _ _ _ _ _ _ s36 (by omega) (by omega) (by first | omega | (simp only [bNode_1, bNode_p, bSet_1, bSet_p, bOver_1, bOver_p, bWrap_1, bWrap_p, bKeep_1, bKeep_p, bSlot_1, bSlot_p]; omega)) g36 (trivial)
                  try simp only [bNode_1, bNode_p, bSet_1, bSet_p, bOver_1, bOver_p, bWrap_1, bWrap_p, bKeep_1, bKeep_p, bSlot_1, bSlot_p] at a36 b36 c36 d36 e36 f36 h36 i36
                  try dsimp only at hG
                  obtain ⟨w37, t37, hG⟩ := gW_s hG
                  try have u37 := tkN_b T n s36.1 (by omega)
                  try dsimp only at hG
                  cases hG
                  intro h hh
                  try dsimp only
                  (try rw [bNode_k (by first | omega | (simp only [bNode_1, bNode_p, bSet_1, bSet_p, bOver_1, bOver_p, bWrap_1, bWrap_p, bKeep_1, bKeep_p, bSlot_1, bSlot_p]; omega))]); (try rw [bSet_k hj (by decide)]); (try rw [bOver_k hj (by first | omega | (simp only [bNode_1, bNode_p, bSet_1, bSet_p, bOver_1, bOver_p, bWrap_1, bWrap_p, bKeep_1, bKeep_p, bSlot_1, bSlot_p]; omega))]); (try rw [bWrap_k hj (by first | omega | (simp only [bNode_1, bNode_p, bSet_1, bSet_p, bOver_1, bOver_p, bWrap_1, bWrap_p, bKeep_1, bKeep_p, bSlot_1, bSlot_p]; omega))]); (try rw [bNode_k (by first | omega | (simp only [bNode_1, bNode_p, bSet_1, bSet_p, bOver_1, bOver_p, bWrap_1, bWrap_p, bKeep_1, bKeep_p, bSlot_1, bSlot_p]; omega))]); (try rw [bKeep_k]); (try rw [bSlot_k]); (try rw [k36 h (by first | omega | (simp only [bNode_1, bNode_p, bSet_1, bSet_p, bOver_1, bOver_p, bWrap_1, bWrap_p, bKeep_1, bKeep_p, bSlot_1, bSlot_p]; omega))]); (try rw [bNode_k (by first | omega | (simp only [bNode_1, bNode_p, bSet_1, bSet_p, bOver_1, bOver_p, bWrap_1, bWrap_p, bKeep_1, bKeep_p, bSlot_1, bSlot_p]; omega))]); (try rw [bSet_k hj (by decide)]); (try rw [bOver_k hj (by first | omega | (simp only [bNode_1, bNode_p, bSet_1, bSet_p, bOver_1, bOver_p, bWrap_1, bWrap_p, bKeep_1, bKeep_p, bSlot_1, bSlot_p]; omega))]); (try rw [bWrap_k hj (by first | omega | (simp only [bNode_1, bNode_p, bSet_1, bSet_p, bOver_1, bOver_p, bWrap_1, bWrap_p, bKeep_1, bKeep_p, bSlot_1, bSlot_p]; omega))]); (try rw [bNode_k (by first | omega | (simp only [bNode_1, bNode_p, bSet_1, bSet_p, bOver_1, bOver_p, bWrap_1, bWrap_p, bKeep_1, bKeep_p, bSlot_1, bSlot_p]; omega))]); (try rw [bKeep_k]); (try rw [bSlot_k]); (try rw [k33 h (by first | omega | (simp only [bNode_1, bNode_p, bSet_1, bSet_p, bOver_1, bOver_p, bWrap_1, bWrap_p, bKeep_1, bKeep_p, bSlot_1, bSlot_p]; omega))]); (try rw [bNode_k (by first | omega | (simp only [bNode_1, bNode_p, bSet_1, bSet_p, bOver_1, bOver_p, bWrap_1, bWrap_p, bKeep_1, bKeep_p, bSlot_1, bSlot_p]; omega))]); (try rw [bSet_k hj (by decide)]); (try rw [bOver_k hj (by first | omega | (simp only [bNode_1, bNode_p, bSet_1, bSet_p, bOver_1, bOver_p, bWrap_1, bWrap_p, bKeep_1, bKeep_p, bSlot_1, bSlot_p]; omega))]); (try rw [bWrap_k hj (by first | omega | (simp only [bNode_1, bNode_p, bSet_1, bSet_p, bOver_1, bOver_p, bWrap_1, bWrap_p, bKeep_1, bKeep_p, bSlot_1, bSlot_p]; omega))]); (try rw [bNode_k (by first | omega | (simp only [bNode_1, bNode_p, bSet_1, bSet_p, bOver_1, bOver_p, bWrap_1, bWrap_p, bKeep_1, bKeep_p, bSlot_1, bSlot_p]; omega))]); (try rw [bKeep_k]); (try rw [bSlot_k]); (try rfl)
                · rw [if_neg y34] at hG
                  obtain ⟨s38, g38, hG⟩ := gb_s hG
                  have x38 := g_mono T n f _ _ _ _ _ _ _ _ _ _ s38 (by omega) (by omega) g38 1 (by first | omega | (simp only [bNode_1, bNode_p, bSet_1, bSet_p, bOver_1, bOver_p, bWrap_1, bWrap_p, bKeep_1, bKeep_p, bSlot_1, bSlot_p]; omega)) (by decide) ((⟨by omega, by omega, by omega, by omega⟩ : 1 ≤ _ ∧ _ < _ ∧ 1 ≤ _ ∧ _ < _))
                  obtain ⟨a38, b38, c38, d38, e38, f38, h38, i38⟩ := (x38.1 : Mo1 n _ _ _ s38)
                  have j38 : 1 ≤ s38.2.2.2.1 ∧ s38.2.2.2.1 < s38.2.2.2.2.1.1 := x38.2
                  have k38 := ih _ _ _ _ _ _ _ _ _ _ s38 (by omega) (by omega) (by first | omega | (simp only [bNode_1, bNode_p, bSet_1, bSet_p, bOver_1, bOver_p, bWrap_1, bWrap_p, bKeep_1, bKeep_p, bSlot_1, bSlot_p]; omega)) g38 ((⟨by omega, by omega, by omega, by omega⟩ : 1 ≤ _ ∧ _ < _ ∧ 1 ≤ _ ∧ _ < _))
                  try simp only [bNode_1, bNode_p, bSet_1, bSet_p, bOver_1, bOver_p, bWrap_1, bWrap_p, bKeep_1, bKeep_p, bSlot_1, bSlot_p] at a38 b38 c38 d38 e38 f38 h38 i38
                  try dsimp only at hG
                  obtain ⟨w39, t39, hG⟩ := gW_s hG
                  try have u39 := tkN_b T n s38.1 (by omega)
                  try dsimp only at hG
                  cases hG
                  intro h hh
                  try dsimp only
                  (try rw [bNode_k (by first | omega | (simp only [bNode_1, bNode_p, bSet_1, bSet_p, bOver_1, bOver_p, bWrap_1, bWrap_p, bKeep_1, bKeep_p, bSlot_1, bSlot_p]; omega))]); (try rw [bSet_k hj (by decide)]); (try rw [bOver_k hj (by first | omega | (simp only [bNode_1, bNode_p, bSet_1, bSet_p, bOver_1, bOver_p, bWrap_1, bWrap_p, bKeep_1, bKeep_p, bSlot_1, bSlot_p]; omega))]); (try rw [bWrap_k hj (by first | omega | (simp only [bNode_1, bNode_p, bSet_1, bSet_p, bOver_1, bOver_p, bWrap_1, bWrap_p, bKeep_1, bKeep_p, bSlot_1, bSlot_p]; omega))]); (try rw [bNode_k (by first | omega | (simp only [bNode_1, bNode_p, bSet_1, bSet_p, bOver_1, bOver_p, bWrap_1, bWrap_p, bKeep_1, bKeep_p, bSlot_1, bSlot_p]; omega))]); (try rw [bKeep_k]); (try rw [bSlot_k]); (try rw [k38 h (by first | omega | (simp only [bNode_1, bNode_p, bSet_1, bSet_p, bOver_1, bOver_p, bWrap_1, bWrap_p, bKeep_1, bKeep_p, bSlot_1, bSlot_p]; omega))]); (try rw [bNode_k (by first | omega | (simp only [bNode_1, bNode_p, bSet_1, bSet_p, bOver_1, bOver_p, bWrap_1, bWrap_p, bKeep_1, bKeep_p, bSlot_1, bSlot_p]; omega))]); (try rw [bSet_k hj (by decide)]); (try rw [bOver_k hj (by first | omega | (simp only [bNode_1, bNode_p, bSet_1, bSet_p, bOver_1, bOver_p, bWrap_1, bWrap_p, bKeep_1, bKeep_p, bSlot_1, bSlot_p]; omega))]); (try rw [bWrap_k hj (by first | omega | (simp only [bNode_1, bNode_p, bSet_1, bSet_p, bOver_1, bOver_p, bWrap_1, bWrap_p, bKeep_1, bKeep_p, bSlot_1, bSlot_p]; omega))]); (try rw [bNode_k (by first | omega | (simp only [bNode_1, bNode_p, bSet_1, bSet_p, bOver_1, bOver_p, bWrap_1, bWrap_p, bKeep_1, bKeep_p, bSlot_1, bSlot_p]; omega))]); (try rw [bKeep_k]); (try rw [bSlot_k]); (try rw [k33 h (by first | omega | (simp only [bNode_1, bNode_p, bSet_1, bSet_p, bOver_1, bOver_p, bWrap_1, bWrap_p, bKeep_1, bKeep_p, bSlot_1, bSlot_p]; omega))]); (try rw [bNode_k (by first | omega | (simp only [bNode_1, bNode_p, bSet_1, bSet_p, bOver_1, bOver_p, bWrap_1, bWrap_p, bKeep_1, bKeep_p, bSlot_1, bSlot_p]; omega))]); (try rw [bSet_k hj (by decide)]); (try rw [bOver_k hj (by first | omega | (simp only [bNode_1, bNode_p, bSet_1, bSet_p, bOver_1, bOver_p, bWrap_1, bWrap_p, bKeep_1, bKeep_p, bSlot_1, bSlot_p]; omega))]); (try rw [bWrap_k hj (by first | omega | (simp only [bNode_1, bNode_p, bSet_1, bSet_p, bOver_1, bOver_p, bWrap_1, bWrap_p, bKeep_1, bKeep_p, bSlot_1, bSlot_p]; omega))]); (try rw [bNode_k (by first | omega | (simp only [bNode_1, bNode_p, bSet_1, bSet_p, bOver_1, bOver_p, bWrap_1, bWrap_p, bKeep_1, bKeep_p, bSlot_1, bSlot_p]; omega))]); (try rw [bKeep_k]); (try rw [bSlot_k]); (try rfl)
          · rw [if_neg y17] at hG
            by_cases y40 : tkK T n q = 60 ∨ tkK T n q = 61 ∨ tkK T n q = 62
            · rw [if_pos y40] at hG
              obtain ⟨t41, hG⟩ := gT_s hG
              have u41 := tkN_b T n q (by omega)
              try dsimp only at hG
              cases hG
              intro h hh
              try dsimp only
              (try rw [bNode_k (by first | omega | (simp only [bNode_1, bNode_p, bSet_1, bSet_p, bOver_1, bOver_p, bWrap_1, bWrap_p, bKeep_1, bKeep_p, bSlot_1, bSlot_p]; omega))]); (try rw [bSet_k hj (by decide)]); (try rw [bOver_k hj (by first | omega | (simp only [bNode_1, bNode_p, bSet_1, bSet_p, bOver_1, bOver_p, bWrap_1, bWrap_p, bKeep_1, bKeep_p, bSlot_1, bSlot_p]; omega))]); (try rw [bWrap_k hj (by first | omega | (simp only [bNode_1, bNode_p, bSet_1, bSet_p, bOver_1, bOver_p, bWrap_1, bWrap_p, bKeep_1, bKeep_p, bSlot_1, bSlot_p]; omega))]); (try rw [bNode_k (by first | omega | (simp only [bNode_1, bNode_p, bSet_1, bSet_p, bOver_1, bOver_p, bWrap_1, bWrap_p, bKeep_1, bKeep_p, bSlot_1, bSlot_p]; omega))]); (try rw [bKeep_k]); (try rw [bSlot_k]); (try rfl)
            · rw [if_neg y40] at hG
              by_cases y42 : tkK T n q = 69 ∨ tkK T n q = 70
              · rw [if_pos y42] at hG
                obtain ⟨_, hG⟩ := gO_s hG
                obtain ⟨t43, hG⟩ := gT_s hG
                have u43 := tkN_b T n q (by omega)
                try dsimp only at hG
                obtain ⟨s44, g44, hG⟩ := gb_s hG
                have x44 := g_mono T n f _ _ _ _ _ _ _ _ _ _ s44 (by omega) (by omega) g44 1 (by first | omega | (simp only [bNode_1, bNode_p, bSet_1, bSet_p, bOver_1, bOver_p, bWrap_1, bWrap_p, bKeep_1, bKeep_p, bSlot_1, bSlot_p]; omega)) (by decide) (Or.inl rfl)
                obtain ⟨a44, b44, c44, d44, e44, f44, h44, i44⟩ := (x44.1 : Mo n _ _ _ s44)
                have j44 : 1 ≤ s44.2.2.2.1 ∧ s44.2.2.2.1 < s44.2.2.2.2.1.1 := x44.2
                have k44 := ih _ _ _ _ _ _ _ _ _ _ s44 (by omega) (by omega) (by first | omega | (simp only [bNode_1, bNode_p, bSet_1, bSet_p, bOver_1, bOver_p, bWrap_1, bWrap_p, bKeep_1, bKeep_p, bSlot_1, bSlot_p]; omega)) g44 (Or.inl rfl)
                try simp only [bNode_1, bNode_p, bSet_1, bSet_p, bOver_1, bOver_p, bWrap_1, bWrap_p, bKeep_1, bKeep_p, bSlot_1, bSlot_p] at a44 b44 c44 d44 e44 f44 h44 i44
                try dsimp only at hG
                obtain ⟨w45, t45, hG⟩ := gW_s hG
                try have u45 := tkN_b T n s44.1 (by omega)
                try dsimp only at hG
                obtain ⟨s46, g46, hG⟩ := gb_s hG
                have x46 := g_mono T n f _ _ _ _ _ _ _ _ _ _ s46 (by omega) (by omega) g46 1 (by first | omega | (simp only [bNode_1, bNode_p, bSet_1, bSet_p, bOver_1, bOver_p, bWrap_1, bWrap_p, bKeep_1, bKeep_p, bSlot_1, bSlot_p]; omega)) (by decide) (trivial)
                obtain ⟨a46, b46, c46, d46, e46, f46, h46, i46⟩ := (x46.1 : Mo n _ _ _ s46)
                have j46 : 1 ≤ s46.2.2.2.1 ∧ s46.2.2.2.1 < s46.2.2.2.2.1.1 := x46.2
                have k46 := ih _ _ _ _ _ _ _ _ _ _ s46 (by omega) (by omega) (by first | omega | (simp only [bNode_1, bNode_p, bSet_1, bSet_p, bOver_1, bOver_p, bWrap_1, bWrap_p, bKeep_1, bKeep_p, bSlot_1, bSlot_p]; omega)) g46 (trivial)
                try simp only [bNode_1, bNode_p, bSet_1, bSet_p, bOver_1, bOver_p, bWrap_1, bWrap_p, bKeep_1, bKeep_p, bSlot_1, bSlot_p] at a46 b46 c46 d46 e46 f46 h46 i46
                try dsimp only at hG
                cases hG
                intro h hh
                try dsimp only
                (try rw [bNode_k (by first | omega | (simp only [bNode_1, bNode_p, bSet_1, bSet_p, bOver_1, bOver_p, bWrap_1, bWrap_p, bKeep_1, bKeep_p, bSlot_1, bSlot_p]; omega))]); (try rw [bSet_k hj (by decide)]); (try rw [bOver_k hj (by first | omega | (simp only [bNode_1, bNode_p, bSet_1, bSet_p, bOver_1, bOver_p, bWrap_1, bWrap_p, bKeep_1, bKeep_p, bSlot_1, bSlot_p]; omega))]); (try rw [bWrap_k hj (by first | omega | (simp only [bNode_1, bNode_p, bSet_1, bSet_p, bOver_1, bOver_p, bWrap_1, bWrap_p, bKeep_1, bKeep_p, bSlot_1, bSlot_p]; omega))]); (try rw [bNode_k (by first | omega | (simp only [bNode_1, bNode_p, bSet_1, bSet_p, bOver_1, bOver_p, bWrap_1, bWrap_p, bKeep_1, bKeep_p, bSlot_1, bSlot_p]; omega))]); (try rw [bKeep_k]); (try rw [bSlot_k]); (try rw [k46 h (by first | omega | (simp only [bNode_1, bNode_p, bSet_1, bSet_p, bOver_1, bOver_p, bWrap_1, bWrap_p, bKeep_1, bKeep_p, bSlot_1, bSlot_p]; omega))]); (try rw [bNode_k (by first | omega | (simp only [bNode_1, bNode_p, bSet_1, bSet_p, bOver_1, bOver_p, bWrap_1, bWrap_p, bKeep_1, bKeep_p, bSlot_1, bSlot_p]; omega))]); (try rw [bSet_k hj (by decide)]); (try rw [bOver_k hj (by first | omega | (simp only [bNode_1, bNode_p, bSet_1, bSet_p, bOver_1, bOver_p, bWrap_1, bWrap_p, bKeep_1, bKeep_p, bSlot_1, bSlot_p]; omega))]); (try rw [bWrap_k hj (by first | omega | (simp only [bNode_1, bNode_p, bSet_1, bSet_p, bOver_1, bOver_p, bWrap_1, bWrap_p, bKeep_1, bKeep_p, bSlot_1, bSlot_p]; omega))]); (try rw [bNode_k (by first | omega | (simp only [bNode_1, bNode_p, bSet_1, bSet_p, bOver_1, bOver_p, bWrap_1, bWrap_p, bKeep_1, bKeep_p, bSlot_1, bSlot_p]; omega))]); (try rw [bKeep_k]); (try rw [bSlot_k]); (try rw [k44 h (by first | omega | (simp only [bNode_1, bNode_p, bSet_1, bSet_p, bOver_1, bOver_p, bWrap_1, bWrap_p, bKeep_1, bKeep_p, bSlot_1, bSlot_p]; omega))]); (try rw [bNode_k (by first | omega | (simp only [bNode_1, bNode_p, bSet_1, bSet_p, bOver_1, bOver_p, bWrap_1, bWrap_p, bKeep_1, bKeep_p, bSlot_1, bSlot_p]; omega))]); (try rw [bSet_k hj (by decide)]); (try rw [bOver_k hj (by first | omega | (simp only [bNode_1, bNode_p, bSet_1, bSet_p, bOver_1, bOver_p, bWrap_1, bWrap_p, bKeep_1, bKeep_p, bSlot_1, bSlot_p]; omega))]); (try rw [bWrap_k hj (by first | omega | (simp only [bNode_1, bNode_p, bSet_1, bSet_p, bOver_1, bOver_p, bWrap_1, bWrap_p, bKeep_1, bKeep_p, bSlot_1, bSlot_p]; omega))]); (try rw [bNode_k (by first | omega | (simp only [bNode_1, bNode_p, bSet_1, bSet_p, bOver_1, bOver_p, bWrap_1, bWrap_p, bKeep_1, bKeep_p, bSlot_1, bSlot_p]; omega))]); (try rw [bKeep_k]); (try rw [bSlot_k]); (try rfl)
              · rw [if_neg y42] at hG
                by_cases y47 : tkK T n q = 39
                · rw [if_pos y47] at hG
                  obtain ⟨_, hG⟩ := gO_s hG
                  obtain ⟨t48, hG⟩ := gT_s hG
                  have u48 := tkN_b T n q (by omega)
                  try dsimp only at hG
                  obtain ⟨s49, g49, hG⟩ := gb_s hG
                  have x49 := g_mono T n f _ _ _ _ _ _ _ _ _ _ s49 (by omega) (by omega) g49 1 (by first | omega | (simp only [bNode_1, bNode_p, bSet_1, bSet_p, bOver_1, bOver_p, bWrap_1, bWrap_p, bKeep_1, bKeep_p, bSlot_1, bSlot_p]; omega)) (by decide) (trivial)
                  obtain ⟨a49, b49, c49, d49, e49, f49, h49, i49⟩ := (x49.1 : Mo n _ _ _ s49)
                  have j49 : 1 ≤ s49.2.2.2.1 ∧ s49.2.2.2.1 < s49.2.2.2.2.1.1 := x49.2
                  have k49 := ih _ _ _ _ _ _ _ _ _ _ s49 (by omega) (by omega) (by first | omega | (simp only [bNode_1, bNode_p, bSet_1, bSet_p, bOver_1, bOver_p, bWrap_1, bWrap_p, bKeep_1, bKeep_p, bSlot_1, bSlot_p]; omega)) g49 (trivial)
                  try simp only [bNode_1, bNode_p, bSet_1, bSet_p, bOver_1, bOver_p, bWrap_1, bWrap_p, bKeep_1, bKeep_p, bSlot_1, bSlot_p] at a49 b49 c49 d49 e49 f49 h49 i49
                  try dsimp only at hG
                  obtain ⟨w50, t50, hG⟩ := gW_s hG
                  try have u50 := tkN_b T n s49.1 (by omega)
                  try dsimp only at hG
                  obtain ⟨s51, g51, hG⟩ := gb_s hG
                  have x51 := g_mono T n f _ _ _ _ _ _ _ _ _ _ s51 (by omega) (by omega) g51 1 (by first | omega | (simp only [bNode_1, bNode_p, bSet_1, bSet_p, bOver_1, bOver_p, bWrap_1, bWrap_p, bKeep_1, bKeep_p, bSlot_1, bSlot_p]; omega)) (by decide) (trivial)
                  obtain ⟨a51, b51, c51, d51, e51, f51, h51, i51⟩ := (x51.1 : Mo n _ _ _ s51)
                  have j51 : 1 ≤ s51.2.2.2.1 ∧ s51.2.2.2.1 < s51.2.2.2.2.1.1 := x51.2
                  have k51 := ih _ _ _ _ _ _ _ _ _ _ s51 (by omega) (by omega) (by first | omega | (simp only [bNode_1, bNode_p, bSet_1, bSet_p, bOver_1, bOver_p, bWrap_1, bWrap_p, bKeep_1, bKeep_p, bSlot_1, bSlot_p]; omega)) g51 (trivial)
                  try simp only [bNode_1, bNode_p, bSet_1, bSet_p, bOver_1, bOver_p, bWrap_1, bWrap_p, bKeep_1, bKeep_p, bSlot_1, bSlot_p] at a51 b51 c51 d51 e51 f51 h51 i51
                  try dsimp only at hG
                  obtain ⟨s52, g52, hG⟩ := gb_s hG
                  have x52 := g_mono T n f _ _ _ _ _ _ _ _ _ _ s52 (by omega) (by omega) g52 1 (by first | omega | (simp only [bNode_1, bNode_p, bSet_1, bSet_p, bOver_1, bOver_p, bWrap_1, bWrap_p, bKeep_1, bKeep_p, bSlot_1, bSlot_p]; omega)) (by decide) ((⟨by omega, by first | omega | (simp only [bNode_1, bNode_p, bSet_1, bSet_p, bOver_1, bOver_p, bWrap_1, bWrap_p, bKeep_1, bKeep_p, bSlot_1, bSlot_p]; omega)⟩ : 1 ≤ _ ∧ _ < _))
                  obtain ⟨a52, b52, c52, d52, e52, f52, h52, i52⟩ := (x52.1 : Mo n _ _ _ s52)
                  have j52 : 1 ≤ s52.2.2.2.1 ∧ s52.2.2.2.1 < s52.2.2.2.2.1.1 := x52.2
                  have k52 := ih _ _ _ _ _ _ _ _ _ _ s52 (by omega) (by omega) (by first | omega | (simp only [bNode_1, bNode_p, bSet_1, bSet_p, bOver_1, bOver_p, bWrap_1, bWrap_p, bKeep_1, bKeep_p, bSlot_1, bSlot_p]; omega)) g52 ((⟨by omega, by first | omega | (simp only [bNode_1, bNode_p, bSet_1, bSet_p, bOver_1, bOver_p, bWrap_1, bWrap_p, bKeep_1, bKeep_p, bSlot_1, bSlot_p]; omega)⟩ : 1 ≤ _ ∧ _ < _))
                  try simp only [bNode_1, bNode_p, bSet_1, bSet_p, bOver_1, bOver_p, bWrap_1, bWrap_p, bKeep_1, bKeep_p, bSlot_1, bSlot_p] at a52 b52 c52 d52 e52 f52 h52 i52
                  try dsimp only at hG
                  obtain ⟨w53, t53, hG⟩ := gW_s hG
                  try have u53 := tkN_b T n s52.1 (by omega)
                  try dsimp only at hG
                  obtain ⟨s54, g54, hG⟩ := gb_s hG
                  have x54 := g_mono T n f _ _ _ _ _ _ _ _ _ _ s54 (by omega) (by omega) g54 1 (by first | omega | (simp only [bNode_1, bNode_p, bSet_1, bSet_p, bOver_1, bOver_p, bWrap_1, bWrap_p, bKeep_1, bKeep_p, bSlot_1, bSlot_p]; omega)) (by decide) (trivial)
                  obtain ⟨a54, b54, c54, d54, e54, f54, h54, i54⟩ := (x54.1 : Mo n _ _ _ s54)
                  have j54 : 1 ≤ s54.2.2.2.1 ∧ s54.2.2.2.1 < s54.2.2.2.2.1.1 := x54.2
                  have k54 := ih _ _ _ _ _ _ _ _ _ _ s54 (by omega) (by omega) (by first | omega | (simp only [bNode_1, bNode_p, bSet_1, bSet_p, bOver_1, bOver_p, bWrap_1, bWrap_p, bKeep_1, bKeep_p, bSlot_1, bSlot_p]; omega)) g54 (trivial)
                  try simp only [bNode_1, bNode_p, bSet_1, bSet_p, bOver_1, bOver_p, bWrap_1, bWrap_p, bKeep_1, bKeep_p, bSlot_1, bSlot_p] at a54 b54 c54 d54 e54 f54 h54 i54
                  try dsimp only at hG
                  obtain ⟨w55, t55, hG⟩ := gW_s hG
                  try have u55 := tkN_b T n s54.1 (by omega)
                  try dsimp only at hG
                  cases hG
                  intro h hh
                  try dsimp only
                  (try rw [bNode_k (by first | omega | (simp only [bNode_1, bNode_p, bSet_1, bSet_p, bOver_1, bOver_p, bWrap_1, bWrap_p, bKeep_1, bKeep_p, bSlot_1, bSlot_p]; omega))]); (try rw [bSet_k hj (by decide)]); (try rw [bOver_k hj (by first | omega | (simp only [bNode_1, bNode_p, bSet_1, bSet_p, bOver_1, bOver_p, bWrap_1, bWrap_p, bKeep_1, bKeep_p, bSlot_1, bSlot_p]; omega))]); (try rw [bWrap_k hj (by first | omega | (simp only [bNode_1, bNode_p, bSet_1, bSet_p, bOver_1, bOver_p, bWrap_1, bWrap_p, bKeep_1, bKeep_p, bSlot_1, bSlot_p]; omega))]); (try rw [bNode_k (by first | omega | (simp only [bNode_1, bNode_p, bSet_1, bSet_p, bOver_1, bOver_p, bWrap_1, bWrap_p, bKeep_1, bKeep_p, bSlot_1, bSlot_p]; omega))]); (try rw [bKeep_k]); (try rw [bSlot_k]); (try rw [k54 h (by first | omega | (simp only [bNode_1, bNode_p, bSet_1, bSet_p, bOver_1, bOver_p, bWrap_1, bWrap_p, bKeep_1, bKeep_p, bSlot_1, bSlot_p]; omega))]); (try rw [bNode_k (by first | omega | (simp only [bNode_1, bNode_p, bSet_1, bSet_p, bOver_1, bOver_p, bWrap_1, bWrap_p, bKeep_1, bKeep_p, bSlot_1, bSlot_p]; omega))]); (try rw [bSet_k hj (by decide)]); (try rw [bOver_k hj (by first | omega | (simp only [bNode_1, bNode_p, bSet_1, bSet_p, bOver_1, bOver_p, bWrap_1, bWrap_p, bKeep_1, bKeep_p, bSlot_1, bSlot_p]; omega))]); (try rw [bWrap_k hj (by first | omega | (simp only [bNode_1, bNode_p, bSet_1, bSet_p, bOver_1, bOver_p, bWrap_1, bWrap_p, bKeep_1, bKeep_p, bSlot_1, bSlot_p]; omega))]); (try rw [bNode_k (by first | omega | (simp only [bNode_1, bNode_p, bSet_1, bSet_p, bOver_1, bOver_p, bWrap_1, bWrap_p, bKeep_1, bKeep_p, bSlot_1, bSlot_p]; omega))]); (try rw [bKeep_k]); (try rw [bSlot_k]); (try rw [k52 h (by first | omega | (simp only [bNode_1, bNode_p, bSet_1, bSet_p, bOver_1, bOver_p, bWrap_1, bWrap_p, bKeep_1, bKeep_p, bSlot_1, bSlot_p]; omega))]); (try rw [bNode_k (by first | omega | (simp only [bNode_1, bNode_p, bSet_1, bSet_p, bOver_1, bOver_p, bWrap_1, bWrap_p, bKeep_1, bKeep_p, bSlot_1, bSlot_p]; omega))]); (try rw [bSet_k hj (by decide)]); (try rw [bOver_k hj (by first | omega | (simp only [bNode_1, bNode_p, bSet_1, bSet_p, bOver_1, bOver_p, bWrap_1, bWrap_p, bKeep_1, bKeep_p, bSlot_1, bSlot_p]; omega))]); (try rw [bWrap_k hj (by first | omega | (simp only [bNode_1, bNode_p, bSet_1, bSet_p, bOver_1, bOver_p, bWrap_1, bWrap_p, bKeep_1, bKeep_p, bSlot_1, bSlot_p]; omega))]); (try rw [bNode_k (by first | omega | (simp only [bNode_1, bNode_p, bSet_1, bSet_p, bOver_1, bOver_p, bWrap_1, bWrap_p, bKeep_1, bKeep_p, bSlot_1, bSlot_p]; omega))]); (try rw [bKeep_k]); (try rw [bSlot_k]); (try rw [k51 h (by first | omega | (simp only [bNode_1, bNode_p, bSet_1, bSet_p, bOver_1, bOver_p, bWrap_1, bWrap_p, bKeep_1, bKeep_p, bSlot_1, bSlot_p]; omega))]); (try rw [bNode_k (by first | omega | (simp only [bNode_1, bNode_p, bSet_1, bSet_p, bOver_1, bOver_p, bWrap_1, bWrap_p, bKeep_1, bKeep_p, bSlot_1, bSlot_p]; omega))]); (try rw [bSet_k hj (by decide)]); (try rw [bOver_k hj (by first | omega | (simp only [bNode_1, bNode_p, bSet_1, bSet_p, bOver_1, bOver_p, bWrap_1, bWrap_p, bKeep_1, bKeep_p, bSlot_1, bSlot_p]; omega))]); (try rw [bWrap_k hj (by first | omega | (simp only [bNode_1, bNode_p, bSet_1, bSet_p, bOver_1, bOver_p, bWrap_1, bWrap_p, bKeep_1, bKeep_p, bSlot_1, bSlot_p]; omega))]); (try rw [bNode_k (by first | omega | (simp only [bNode_1, bNode_p, bSet_1, bSet_p, bOver_1, bOver_p, bWrap_1, bWrap_p, bKeep_1, bKeep_p, bSlot_1, bSlot_p]; omega))]); (try rw [bKeep_k]); (try rw [bSlot_k]); (try rw [k49 h (by first | omega | (simp only [bNode_1, bNode_p, bSet_1, bSet_p, bOver_1, bOver_p, bWrap_1, bWrap_p, bKeep_1, bKeep_p, bSlot_1, bSlot_p]; omega))]); (try rw [bNode_k (by first | omega | (simp only [bNode_1, bNode_p, bSet_1, bSet_p, bOver_1, bOver_p, bWrap_1, bWrap_p, bKeep_1, bKeep_p, bSlot_1, bSlot_p]; omega))]); (try rw [bSet_k hj (by decide)]); (try rw [bOver_k hj (by first | omega | (simp only [bNode_1, bNode_p, bSet_1, bSet_p, bOver_1, bOver_p, bWrap_1, bWrap_p, bKeep_1, bKeep_p, bSlot_1, bSlot_p]; omega))]); (try rw [bWrap_k hj (by first | omega | (simp only [bNode_1, bNode_p, bSet_1, bSet_p, bOver_1, bOver_p, bWrap_1, bWrap_p, bKeep_1, bKeep_p, bSlot_1, bSlot_p]; omega))]); (try rw [bNode_k (by first | omega | (simp only [bNode_1, bNode_p, bSet_1, bSet_p, bOver_1, bOver_p, bWrap_1, bWrap_p, bKeep_1, bKeep_p, bSlot_1, bSlot_p]; omega))]); (try rw [bKeep_k]); (try rw [bSlot_k]); (try rfl)
                · rw [if_neg y47] at hG
                  by_cases y56 : tkK T n q = 83 ∧ E.2.2.2.2.1 = true
                  · rw [if_pos y56] at hG
                    obtain ⟨t57, hG⟩ := gT_s hG
                    have u57 := tkN_b T n q (by omega)
                    try dsimp only at hG
                    cases hG
                    intro h hh
                    try dsimp only
                    (try rw [bNode_k (by first | omega | (simp only [bNode_1, bNode_p, bSet_1, bSet_p, bOver_1, bOver_p, bWrap_1, bWrap_p, bKeep_1, bKeep_p, bSlot_1, bSlot_p]; omega))]); (try rw [bSet_k hj (by decide)]); (try rw [bOver_k hj (by first | omega | (simp only [bNode_1, bNode_p, bSet_1, bSet_p, bOver_1, bOver_p, bWrap_1, bWrap_p, bKeep_1, bKeep_p, bSlot_1, bSlot_p]; omega))]); (try rw [bWrap_k hj (by first | omega | (simp only [bNode_1, bNode_p, bSet_1, bSet_p, bOver_1, bOver_p, bWrap_1, bWrap_p, bKeep_1, bKeep_p, bSlot_1, bSlot_p]; omega))]); (try rw [bNode_k (by first | omega | (simp only [bNode_1, bNode_p, bSet_1, bSet_p, bOver_1, bOver_p, bWrap_1, bWrap_p, bKeep_1, bKeep_p, bSlot_1, bSlot_p]; omega))]); (try rw [bKeep_k]); (try rw [bSlot_k]); (try rfl)
                  · rw [if_neg y56] at hG
                    by_cases y58 : isFn (tkK T n q) E.2.2.2.2.2.1
                    · rw [if_pos y58] at hG
                      obtain ⟨t59, hG⟩ := gT_s hG
                      have u59 := tkN_b T n q (by omega)
                      try dsimp only at hG
                      by_cases y60 : tkK T n (tkN T n q) = 6
                      · rw [if_pos y60] at hG
                        obtain ⟨_, hG⟩ := gO_s hG
                        obtain ⟨t61, hG⟩ := gT_s hG
                        have u61 := tkN_b T n (tkN T n q) (by omega)
                        try dsimp only at hG
                        obtain ⟨s62, g62, hG⟩ := gb_s hG
                        have x62 := g_mono T n f _ _ _ _ _ _ _ _ _ _ s62 (by omega) (by omega) g62 1 (by first | omega | (simp only [bNode_1, bNode_p, bSet_1, bSet_p, bOver_1, bOver_p, bWrap_1, bWrap_p, bKeep_1, bKeep_p, bSlot_1, bSlot_p]; omega)) (by decide) (trivial)
                        obtain ⟨a62, b62, c62, d62, e62, f62, h62, i62⟩ := (x62.1 : Mo n _ _ _ s62)
                        have j62 : 1 ≤ s62.2.2.2.1 ∧ s62.2.2.2.1 < s62.2.2.2.2.1.1 := x62.2
                        have k62 := ih _ _ _ _ _ _ _ _ _ _ s62 (by omega) (by omega) (by first | omega | (simp only [bNode_1, bNode_p, bSet_1, bSet_p, bOver_1, bOver_p, bWrap_1, bWrap_p, bKeep_1, bKeep_p, bSlot_1, bSlot_p]; omega)) g62 (trivial)
                        try simp only [bNode_1, bNode_p, bSet_1, bSet_p, bOver_1, bOver_p, bWrap_1, bWrap_p, bKeep_1, bKeep_p, bSlot_1, bSlot_p] at a62 b62 c62 d62 e62 f62 h62 i62
                        try dsimp only at hG
                        obtain ⟨w63, t63, hG⟩ := gW_s hG
                        try have u63 := tkN_b T n s62.1 (by omega)
                        try dsimp only at hG
                        cases hG
                        intro h hh
                        try dsimp only
                        (try rw [bNode_k (by first | omega | (simp only [bNode_1, bNode_p, bSet_1, bSet_p, bOver_1, bOver_p, bWrap_1, bWrap_p, bKeep_1, bKeep_p, bSlot_1, bSlot_p]; omega))]); (try rw [bSet_k hj (by decide)]); (try rw [bOver_k hj (by first | omega | (simp only [bNode_1, bNode_p, bSet_1, bSet_p, bOver_1, bOver_p, bWrap_1, bWrap_p, bKeep_1, bKeep_p, bSlot_1, bSlot_p]; omega))]); (try rw [bWrap_k hj (by first | omega | (simp only [bNode_1, bNode_p, bSet_1, bSet_p, bOver_1, bOver_p, bWrap_1, bWrap_p, bKeep_1, bKeep_p, bSlot_1, bSlot_p]; omega))]); (try rw [bNode_k (by first | omega | (simp only [bNode_1, bNode_p, bSet_1, bSet_p, bOver_1, bOver_p, bWrap_1, bWrap_p, bKeep_1, bKeep_p, bSlot_1, bSlot_p]; omega))]); (try rw [bKeep_k]); (try rw [bSlot_k]); (try rw [k62 h (by first | omega | (simp only [bNode_1, bNode_p, bSet_1, bSet_p, bOver_1, bOver_p, bWrap_1, bWrap_p, bKeep_1, bKeep_p, bSlot_1, bSlot_p]; omega))]); (try rw [bNode_k (by first | omega | (simp only [bNode_1, bNode_p, bSet_1, bSet_p, bOver_1, bOver_p, bWrap_1, bWrap_p, bKeep_1, bKeep_p, bSlot_1, bSlot_p]; omega))]); (try rw [bSet_k hj (by decide)]); (try rw [bOver_k hj (by first | omega | (simp only [bNode_1, bNode_p, bSet_1, bSet_p, bOver_1, bOver_p, bWrap_1, bWrap_p, bKeep_1, bKeep_p, bSlot_1, bSlot_p]; omega))]); (try rw [bWrap_k hj (by first | omega | (simp only [bNode_1, bNode_p, bSet_1, bSet_p, bOver_1, bOver_p, bWrap_1, bWrap_p, bKeep_1, bKeep_p, bSlot_1, bSlot_p]; omega))]); (try rw [bNode_k (by first | omega | (simp only [bNode_1, bNode_p, bSet_1, bSet_p, bOver_1, bOver_p, bWrap_1, bWrap_p, bKeep_1, bKeep_p, bSlot_1, bSlot_p]; omega))]); (try rw [bKeep_k]); (try rw [bSlot_k]); (try rfl)
                      · rw [if_neg y60] at hG
                        cases hG
                    · rw [if_neg y58] at hG
                      cases hG
theorem gk_14 {T : Nat → Int32} {n j f : Nat} (hj : j < 8 ∨ 9 < j) (ih : GK T n j f) {E : En} {o q v i e c g : Nat} {b : BT} {r : RT} (hq : q ≤ n) (hv : v ≤ 60) (hb : 1 ≤ b.1) (hG : G T n (f + 1) 14 E o q v i e c g b = some (Sum.inr r)) (hN : Nd0 14 1 b i e c) : ∀ h : Nat, h < b.1 → r.2.2.2.2.1.2.2.1 j h = b.2.2.1 j h := by
  rw [G_14] at hG
  have hN : c = 0 ∨ (1 ≤ i ∧ i < b.1 ∧ 1 ≤ e ∧ e < b.1) := hN
  by_cases y1 : c = 0
  · rw [if_pos y1] at hG
    by_cases y2 : tkK T n q = 7
    · rw [if_pos y2] at hG
      cases hG
      intro h hh
      try dsimp only
      (try rw [bNode_k (by first | omega | (simp only [bNode_1, bNode_p, bSet_1, bSet_p, bOver_1, bOver_p, bWrap_1, bWrap_p, bKeep_1, bKeep_p, bSlot_1, bSlot_p]; omega))]); (try rw [bSet_k hj (by decide)]); (try rw [bOver_k hj (by first | omega | (simp only [bNode_1, bNode_p, bSet_1, bSet_p, bOver_1, bOver_p, bWrap_1, bWrap_p, bKeep_1, bKeep_p, bSlot_1, bSlot_p]; omega))]); (try rw [bWrap_k hj (by first | omega | (simp only [bNode_1, bNode_p, bSet_1, bSet_p, bOver_1, bOver_p, bWrap_1, bWrap_p, bKeep_1, bKeep_p, bSlot_1, bSlot_p]; omega))]); (try rw [bNode_k (by first | omega | (simp only [bNode_1, bNode_p, bSet_1, bSet_p, bOver_1, bOver_p, bWrap_1, bWrap_p, bKeep_1, bKeep_p, bSlot_1, bSlot_p]; omega))]); (try rw [bKeep_k]); (try rw [bSlot_k]); (try rfl)
    · rw [if_neg y2] at hG
      obtain ⟨s3, g3, hG⟩ := gb_s hG
      have x3 := g_mono T n f _ _ _ _ _ _ _ _ _ _ s3 (by omega) (by omega) g3 1 (by first | omega | (simp only [bNode_1, bNode_p, bSet_1, bSet_p, bOver_1, bOver_p, bWrap_1, bWrap_p, bKeep_1, bKeep_p, bSlot_1, bSlot_p]; omega)) (by decide) (trivial)
      obtain ⟨a3, b3, c3, d3, e3, f3, h3, i3⟩ := (x3.1 : Mo n _ _ _ s3)
      have j3 : 1 ≤ s3.2.2.2.1 ∧ s3.2.2.2.1 < s3.2.2.2.2.1.1 := x3.2
      have k3 := ih _ _ _ _ _ _ _ _ _ _ s3 (by omega) (by omega) (by first | omega | (simp only [bNode_1, bNode_p, bSet_1, bSet_p, bOver_1, bOver_p, bWrap_1, bWrap_p, bKeep_1, bKeep_p, bSlot_1, bSlot_p]; omega)) g3 (trivial)
      try simp only [bNode_1, bNode_p, bSet_1, bSet_p, bOver_1, bOver_p, bWrap_1, bWrap_p, bKeep_1, bKeep_p, bSlot_1, bSlot_p] at a3 b3 c3 d3 e3 f3 h3 i3
      try dsimp only at hG
      intro h hh
      rw [ih _ _ _ _ _ _ _ _ _ _ r (by omega) (by omega) (by first | omega | (simp only [bNode_1, bNode_p, bSet_1, bSet_p, bOver_1, bOver_p, bWrap_1, bWrap_p, bKeep_1, bKeep_p, bSlot_1, bSlot_p]; omega)) hG (Or.inr ⟨by omega, by omega, by omega, by omega⟩) h (by first | omega | (simp only [bNode_1, bNode_p, bSet_1, bSet_p, bOver_1, bOver_p, bWrap_1, bWrap_p, bKeep_1, bKeep_p, bSlot_1, bSlot_p]; omega))]
      try dsimp only
      (try rw [bNode_k (by first | omega | (simp only [bNode_1, bNode_p, bSet_1, bSet_p, bOver_1, bOver_p, bWrap_1, bWrap_p, bKeep_1, bKeep_p, bSlot_1, bSlot_p]; omega))]); (try rw [bSet_k hj (by decide)]); (try rw [bOver_k hj (by first | omega | (simp only [bNode_1, bNode_p, bSet_1, bSet_p, bOver_1, bOver_p, bWrap_1, bWrap_p, bKeep_1, bKeep_p, bSlot_1, bSlot_p]; omega))]); (try rw [bWrap_k hj (by first | omega | (simp only [bNode_1, bNode_p, bSet_1, bSet_p, bOver_1, bOver_p, bWrap_1, bWrap_p, bKeep_1, bKeep_p, bSlot_1, bSlot_p]; omega))]); (try rw [bNode_k (by first | omega | (simp only [bNode_1, bNode_p, bSet_1, bSet_p, bOver_1, bOver_p, bWrap_1, bWrap_p, bKeep_1, bKeep_p, bSlot_1, bSlot_p]; omega))]); (try rw [bKeep_k]); (try rw [bSlot_k]); (try rw [k3 h (by first | omega | (simp only [bNode_1, bNode_p, bSet_1, bSet_p, bOver_1, bOver_p, bWrap_1, bWrap_p, bKeep_1, bKeep_p, bSlot_1, bSlot_p]; omega))]); (try rw [bNode_k (by first | omega | (simp only [bNode_1, bNode_p, bSet_1, bSet_p, bOver_1, bOver_p, bWrap_1, bWrap_p, bKeep_1, bKeep_p, bSlot_1, bSlot_p]; omega))]); (try rw [bSet_k hj (by decide)]); (try rw [bOver_k hj (by first | omega | (simp only [bNode_1, bNode_p, bSet_1, bSet_p, bOver_1, bOver_p, bWrap_1, bWrap_p, bKeep_1, bKeep_p, bSlot_1, bSlot_p]; omega))]); (try rw [bWrap_k hj (by first | omega | (simp only [bNode_1, bNode_p, bSet_1, bSet_p, bOver_1, bOver_p, bWrap_1, bWrap_p, bKeep_1, bKeep_p, bSlot_1, bSlot_p]; omega))]); (try rw [bNode_k (by first | omega | (simp only [bNode_1, bNode_p, bSet_1, bSet_p, bOver_1, bOver_p, bWrap_1, bWrap_p, bKeep_1, bKeep_p, bSlot_1, bSlot_p]; omega))]); (try rw [bKeep_k]); (try rw [bSlot_k]); (try rfl)
  · rw [if_neg y1] at hG
    by_cases y5 : tkK T n q = 12
    · rw [if_pos y5] at hG
      obtain ⟨t6, hG⟩ := gT_s hG
      have u6 := tkN_b T n q (by omega)
      try dsimp only at hG
      obtain ⟨s7, g7, hG⟩ := gb_s hG
      have x7 := g_mono T n f _ _ _ _ _ _ _ _ _ _ s7 (by omega) (by omega) g7 1 (by first | omega | (simp only [bNode_1, bNode_p, bSet_1, bSet_p, bOver_1, bOver_p, bWrap_1, bWrap_p, bKeep_1, bKeep_p, bSlot_1, bSlot_p]; omega)) (by decide) (trivial)
      obtain ⟨a7, b7, c7, d7, e7, f7, h7, i7⟩ := (x7.1 : Mo n _ _ _ s7)
      have j7 : 1 ≤ s7.2.2.2.1 ∧ s7.2.2.2.1 < s7.2.2.2.2.1.1 := x7.2
      have k7 := ih _ _ _ _ _ _ _ _ _ _ s7 (by omega) (by omega) (by first | omega | (simp only [bNode_1, bNode_p, bSet_1, bSet_p, bOver_1, bOver_p, bWrap_1, bWrap_p, bKeep_1, bKeep_p, bSlot_1, bSlot_p]; omega)) g7 (trivial)
      try simp only [bNode_1, bNode_p, bSet_1, bSet_p, bOver_1, bOver_p, bWrap_1, bWrap_p, bKeep_1, bKeep_p, bSlot_1, bSlot_p] at a7 b7 c7 d7 e7 f7 h7 i7
      try dsimp only at hG
      intro h hh
      rw [ih _ _ _ _ _ _ _ _ _ _ r (by omega) (by omega) (by first | omega | (simp only [bNode_1, bNode_p, bSet_1, bSet_p, bOver_1, bOver_p, bWrap_1, bWrap_p, bKeep_1, bKeep_p, bSlot_1, bSlot_p]; omega)) hG (Or.inr ⟨by omega, by first | omega | (simp only [bNode_1, bNode_p, bSet_1, bSet_p, bOver_1, bOver_p, bWrap_1, bWrap_p, bKeep_1, bKeep_p, bSlot_1, bSlot_p]; omega), by omega, by first | omega | (simp only [bNode_1, bNode_p, bSet_1, bSet_p, bOver_1, bOver_p, bWrap_1, bWrap_p, bKeep_1, bKeep_p, bSlot_1, bSlot_p]; omega)⟩) h (by first | omega | (simp only [bNode_1, bNode_p, bSet_1, bSet_p, bOver_1, bOver_p, bWrap_1, bWrap_p, bKeep_1, bKeep_p, bSlot_1, bSlot_p]; omega))]
      try dsimp only
      (try rw [bNode_k (by first | omega | (simp only [bNode_1, bNode_p, bSet_1, bSet_p, bOver_1, bOver_p, bWrap_1, bWrap_p, bKeep_1, bKeep_p, bSlot_1, bSlot_p]; omega))]); (try rw [bSet_k hj (by decide)]); (try rw [bOver_k hj (by first | omega | (simp only [bNode_1, bNode_p, bSet_1, bSet_p, bOver_1, bOver_p, bWrap_1, bWrap_p, bKeep_1, bKeep_p, bSlot_1, bSlot_p]; omega))]); (try rw [bWrap_k hj (by first | omega | (simp only [bNode_1, bNode_p, bSet_1, bSet_p, bOver_1, bOver_p, bWrap_1, bWrap_p, bKeep_1, bKeep_p, bSlot_1, bSlot_p]; omega))]); (try rw [bNode_k (by first | omega | (simp only [bNode_1, bNode_p, bSet_1, bSet_p, bOver_1, bOver_p, bWrap_1, bWrap_p, bKeep_1, bKeep_p, bSlot_1, bSlot_p]; omega))]); (try rw [bKeep_k]); (try rw [bSlot_k]); (try rw [k7 h (by first | omega | (simp only [bNode_1, bNode_p, bSet_1, bSet_p, bOver_1, bOver_p, bWrap_1, bWrap_p, bKeep_1, bKeep_p, bSlot_1, bSlot_p]; omega))]); (try rw [bNode_k (by first | omega | (simp only [bNode_1, bNode_p, bSet_1, bSet_p, bOver_1, bOver_p, bWrap_1, bWrap_p, bKeep_1, bKeep_p, bSlot_1, bSlot_p]; omega))]); (try rw [bSet_k hj (by decide)]); (try rw [bOver_k hj (by first | omega | (simp only [bNode_1, bNode_p, bSet_1, bSet_p, bOver_1, bOver_p, bWrap_1, bWrap_p, bKeep_1, bKeep_p, bSlot_1, bSlot_p]; omega))]); (try rw [bWrap_k hj (by first | omega | (simp only [bNode_1, bNode_p, bSet_1, bSet_p, bOver_1, bOver_p, bWrap_1, bWrap_p, bKeep_1, bKeep_p, bSlot_1, bSlot_p]; omega))]); (try rw [bNode_k (by first | omega | (simp only [bNode_1, bNode_p, bSet_1, bSet_p, bOver_1, bOver_p, bWrap_1, bWrap_p, bKeep_1, bKeep_p, bSlot_1, bSlot_p]; omega))]); (try rw [bKeep_k]); (try rw [bSlot_k]); (try rfl)
    · rw [if_neg y5] at hG
      cases hG
      intro h hh
      try dsimp only
      (try rw [bNode_k (by first | omega | (simp only [bNode_1, bNode_p, bSet_1, bSet_p, bOver_1, bOver_p, bWrap_1, bWrap_p, bKeep_1, bKeep_p, bSlot_1, bSlot_p]; omega))]); (try rw [bSet_k hj (by decide)]); (try rw [bOver_k hj (by first | omega | (simp only [bNode_1, bNode_p, bSet_1, bSet_p, bOver_1, bOver_p, bWrap_1, bWrap_p, bKeep_1, bKeep_p, bSlot_1, bSlot_p]; omega))]); (try rw [bWrap_k hj (by first | omega | (simp only [bNode_1, bNode_p, bSet_1, bSet_p, bOver_1, bOver_p, bWrap_1, bWrap_p, bKeep_1, bKeep_p, bSlot_1, bSlot_p]; omega))]); (try rw [bNode_k (by first | omega | (simp only [bNode_1, bNode_p, bSet_1, bSet_p, bOver_1, bOver_p, bWrap_1, bWrap_p, bKeep_1, bKeep_p, bSlot_1, bSlot_p]; omega))]); (try rw [bKeep_k]); (try rw [bSlot_k]); (try rfl)
theorem gk_15 {T : Nat → Int32} {n j f : Nat} (hj : j < 8 ∨ 9 < j) (ih : GK T n j f) {E : En} {o q v i e c g : Nat} {b : BT} {r : RT} (hq : q ≤ n) (hv : v ≤ 60) (hb : 1 ≤ b.1) (hG : G T n (f + 1) 15 E o q v i e c g b = some (Sum.inr r)) (hN : Nd0 15 1 b i e c) : ∀ h : Nat, h < b.1 → r.2.2.2.2.1.2.2.1 j h = b.2.2.1 j h := by
  rw [G_15] at hG
  have hN : 1 ≤ i ∧ i < b.1 ∧ 1 ≤ e ∧ e < b.1 := hN
  by_cases y1 : tkK T n q = 12
  · rw [if_pos y1] at hG
    obtain ⟨t2, hG⟩ := gT_s hG
    have u2 := tkN_b T n q (by omega)
    try dsimp only at hG
    obtain ⟨s3, g3, hG⟩ := gb_s hG
    have x3 := g_mono T n f _ _ _ _ _ _ _ _ _ _ s3 (by omega) (by omega) g3 1 (by first | omega | (simp only [bNode_1, bNode_p, bSet_1, bSet_p, bOver_1, bOver_p, bWrap_1, bWrap_p, bKeep_1, bKeep_p, bSlot_1, bSlot_p]; omega)) (by decide) (trivial)
    obtain ⟨a3, b3, c3, d3, e3, f3, h3, i3⟩ := (x3.1 : Mo n _ _ _ s3)
    have j3 : 1 ≤ s3.2.2.2.1 ∧ s3.2.2.2.1 < s3.2.2.2.2.1.1 := x3.2
    have k3 := ih _ _ _ _ _ _ _ _ _ _ s3 (by omega) (by omega) (by first | omega | (simp only [bNode_1, bNode_p, bSet_1, bSet_p, bOver_1, bOver_p, bWrap_1, bWrap_p, bKeep_1, bKeep_p, bSlot_1, bSlot_p]; omega)) g3 (trivial)
    try simp only [bNode_1, bNode_p, bSet_1, bSet_p, bOver_1, bOver_p, bWrap_1, bWrap_p, bKeep_1, bKeep_p, bSlot_1, bSlot_p] at a3 b3 c3 d3 e3 f3 h3 i3
    try dsimp only at hG
    by_cases y4 : c = 1 ∧ tkK T n s3.1 = 16
    · rw [if_pos y4] at hG
      obtain ⟨t5, hG⟩ := gT_s hG
      have u5 := tkN_b T n s3.1 (by omega)
      try dsimp only at hG
      obtain ⟨s6, g6, hG⟩ := gb_s hG
      have x6 := g_mono T n f _ _ _ _ _ _ _ _ _ _ s6 (by omega) (by omega) g6 1 (by first | omega | (simp only [bNode_1, bNode_p, bSet_1, bSet_p, bOver_1, bOver_p, bWrap_1, bWrap_p, bKeep_1, bKeep_p, bSlot_1, bSlot_p]; omega)) (by decide) (trivial)
      obtain ⟨a6, b6, c6, d6, e6, f6, h6, i6⟩ := (x6.1 : Mo n _ _ _ s6)
      have j6 : 1 ≤ s6.2.2.2.1 ∧ s6.2.2.2.1 < s6.2.2.2.2.1.1 := x6.2
      have k6 := ih _ _ _ _ _ _ _ _ _ _ s6 (by omega) (by omega) (by first | omega | (simp only [bNode_1, bNode_p, bSet_1, bSet_p, bOver_1, bOver_p, bWrap_1, bWrap_p, bKeep_1, bKeep_p, bSlot_1, bSlot_p]; omega)) g6 (trivial)
      try simp only [bNode_1, bNode_p, bSet_1, bSet_p, bOver_1, bOver_p, bWrap_1, bWrap_p, bKeep_1, bKeep_p, bSlot_1, bSlot_p] at a6 b6 c6 d6 e6 f6 h6 i6
      try dsimp only at hG
      cases hG
      intro h hh
      try dsimp only
      (try rw [bNode_k (by first | omega | (simp only [bNode_1, bNode_p, bSet_1, bSet_p, bOver_1, bOver_p, bWrap_1, bWrap_p, bKeep_1, bKeep_p, bSlot_1, bSlot_p]; omega))]); (try rw [bSet_k hj (by decide)]); (try rw [bOver_k hj (by first | omega | (simp only [bNode_1, bNode_p, bSet_1, bSet_p, bOver_1, bOver_p, bWrap_1, bWrap_p, bKeep_1, bKeep_p, bSlot_1, bSlot_p]; omega))]); (try rw [bWrap_k hj (by first | omega | (simp only [bNode_1, bNode_p, bSet_1, bSet_p, bOver_1, bOver_p, bWrap_1, bWrap_p, bKeep_1, bKeep_p, bSlot_1, bSlot_p]; omega))]); (try rw [bNode_k (by first | omega | (simp only [bNode_1, bNode_p, bSet_1, bSet_p, bOver_1, bOver_p, bWrap_1, bWrap_p, bKeep_1, bKeep_p, bSlot_1, bSlot_p]; omega))]); (try rw [bKeep_k]); (try rw [bSlot_k]); (try rw [k6 h (by first | omega | (simp only [bNode_1, bNode_p, bSet_1, bSet_p, bOver_1, bOver_p, bWrap_1, bWrap_p, bKeep_1, bKeep_p, bSlot_1, bSlot_p]; omega))]); (try rw [bNode_k (by first | omega | (simp only [bNode_1, bNode_p, bSet_1, bSet_p, bOver_1, bOver_p, bWrap_1, bWrap_p, bKeep_1, bKeep_p, bSlot_1, bSlot_p]; omega))]); (try rw [bSet_k hj (by decide)]); (try rw [bOver_k hj (by first | omega | (simp only [bNode_1, bNode_p, bSet_1, bSet_p, bOver_1, bOver_p, bWrap_1, bWrap_p, bKeep_1, bKeep_p, bSlot_1, bSlot_p]; omega))]); (try rw [bWrap_k hj (by first | omega | (simp only [bNode_1, bNode_p, bSet_1, bSet_p, bOver_1, bOver_p, bWrap_1, bWrap_p, bKeep_1, bKeep_p, bSlot_1, bSlot_p]; omega))]); (try rw [bNode_k (by first | omega | (simp only [bNode_1, bNode_p, bSet_1, bSet_p, bOver_1, bOver_p, bWrap_1, bWrap_p, bKeep_1, bKeep_p, bSlot_1, bSlot_p]; omega))]); (try rw [bKeep_k]); (try rw [bSlot_k]); (try rw [k3 h (by first | omega | (simp only [bNode_1, bNode_p, bSet_1, bSet_p, bOver_1, bOver_p, bWrap_1, bWrap_p, bKeep_1, bKeep_p, bSlot_1, bSlot_p]; omega))]); (try rw [bNode_k (by first | omega | (simp only [bNode_1, bNode_p, bSet_1, bSet_p, bOver_1, bOver_p, bWrap_1, bWrap_p, bKeep_1, bKeep_p, bSlot_1, bSlot_p]; omega))]); (try rw [bSet_k hj (by decide)]); (try rw [bOver_k hj (by first | omega | (simp only [bNode_1, bNode_p, bSet_1, bSet_p, bOver_1, bOver_p, bWrap_1, bWrap_p, bKeep_1, bKeep_p, bSlot_1, bSlot_p]; omega))]); (try rw [bWrap_k hj (by first | omega | (simp only [bNode_1, bNode_p, bSet_1, bSet_p, bOver_1, bOver_p, bWrap_1, bWrap_p, bKeep_1, bKeep_p, bSlot_1, bSlot_p]; omega))]); (try rw [bNode_k (by first | omega | (simp only [bNode_1, bNode_p, bSet_1, bSet_p, bOver_1, bOver_p, bWrap_1, bWrap_p, bKeep_1, bKeep_p, bSlot_1, bSlot_p]; omega))]); (try rw [bKeep_k]); (try rw [bSlot_k]); (try rfl)
    · rw [if_neg y4] at hG
      intro h hh
      rw [ih _ _ _ _ _ _ _ _ _ _ r (by omega) (by omega) (by first | omega | (simp only [bNode_1, bNode_p, bSet_1, bSet_p, bOver_1, bOver_p, bWrap_1, bWrap_p, bKeep_1, bKeep_p, bSlot_1, bSlot_p]; omega)) hG ((⟨by omega, by first | omega | (simp only [bNode_1, bNode_p, bSet_1, bSet_p, bOver_1, bOver_p, bWrap_1, bWrap_p, bKeep_1, bKeep_p, bSlot_1, bSlot_p]; omega), by omega, by first | omega | (simp only [bNode_1, bNode_p, bSet_1, bSet_p, bOver_1, bOver_p, bWrap_1, bWrap_p, bKeep_1, bKeep_p, bSlot_1, bSlot_p]; omega)⟩ : 1 ≤ _ ∧ _ < _ ∧ 1 ≤ _ ∧ _ < _)) h (by first | omega | (simp only [bNode_1, bNode_p, bSet_1, bSet_p, bOver_1, bOver_p, bWrap_1, bWrap_p, bKeep_1, bKeep_p, bSlot_1, bSlot_p]; omega))]
      try dsimp only
      (try rw [bNode_k (by first | omega | (simp only [bNode_1, bNode_p, bSet_1, bSet_p, bOver_1, bOver_p, bWrap_1, bWrap_p, bKeep_1, bKeep_p, bSlot_1, bSlot_p]; omega))]); (try rw [bSet_k hj (by decide)]); (try rw [bOver_k hj (by first | omega | (simp only [bNode_1, bNode_p, bSet_1, bSet_p, bOver_1, bOver_p, bWrap_1, bWrap_p, bKeep_1, bKeep_p, bSlot_1, bSlot_p]; omega))]); (try rw [bWrap_k hj (by first | omega | (simp only [bNode_1, bNode_p, bSet_1, bSet_p, bOver_1, bOver_p, bWrap_1, bWrap_p, bKeep_1, bKeep_p, bSlot_1, bSlot_p]; omega))]); (try rw [bNode_k (by first | omega | (simp only [bNode_1, bNode_p, bSet_1, bSet_p, bOver_1, bOver_p, bWrap_1, bWrap_p, bKeep_1, bKeep_p, bSlot_1, bSlot_p]; omega))]); (try rw [bKeep_k]); (try rw [bSlot_k]); (try rw [k3 h (by first | omega | (simp only [bNode_1, bNode_p, bSet_1, bSet_p, bOver_1, bOver_p, bWrap_1, bWrap_p, bKeep_1, bKeep_p, bSlot_1, bSlot_p]; omega))]); (try rw [bNode_k (by first | omega | (simp only [bNode_1, bNode_p, bSet_1, bSet_p, bOver_1, bOver_p, bWrap_1, bWrap_p, bKeep_1, bKeep_p, bSlot_1, bSlot_p]; omega))]); (try rw [bSet_k hj (by decide)]); (try rw [bOver_k hj (by first | omega | (simp only [bNode_1, bNode_p, bSet_1, bSet_p, bOver_1, bOver_p, bWrap_1, bWrap_p, bKeep_1, bKeep_p, bSlot_1, bSlot_p]; omega))]); (try rw [bWrap_k hj (by first | omega | (simp only [bNode_1, bNode_p, bSet_1, bSet_p, bOver_1, bOver_p, bWrap_1, bWrap_p, bKeep_1, bKeep_p, bSlot_1, bSlot_p]; omega))]); (try rw [bNode_k (by first | omega | (simp only [bNode_1, bNode_p, bSet_1, bSet_p, bOver_1, bOver_p, bWrap_1, bWrap_p, bKeep_1, bKeep_p, bSlot_1, bSlot_p]; omega))]); (try rw [bKeep_k]); (try rw [bSlot_k]); (try rfl)
  · rw [if_neg y1] at hG
    cases hG
    intro h hh
    try dsimp only
    (try rw [bNode_k (by first | omega | (simp only [bNode_1, bNode_p, bSet_1, bSet_p, bOver_1, bOver_p, bWrap_1, bWrap_p, bKeep_1, bKeep_p, bSlot_1, bSlot_p]; omega))]); (try rw [bSet_k hj (by decide)]); (try rw [bOver_k hj (by first | omega | (simp only [bNode_1, bNode_p, bSet_1, bSet_p, bOver_1, bOver_p, bWrap_1, bWrap_p, bKeep_1, bKeep_p, bSlot_1, bSlot_p]; omega))]); (try rw [bWrap_k hj (by first | omega | (simp only [bNode_1, bNode_p, bSet_1, bSet_p, bOver_1, bOver_p, bWrap_1, bWrap_p, bKeep_1, bKeep_p, bSlot_1, bSlot_p]; omega))]); (try rw [bNode_k (by first | omega | (simp only [bNode_1, bNode_p, bSet_1, bSet_p, bOver_1, bOver_p, bWrap_1, bWrap_p, bKeep_1, bKeep_p, bSlot_1, bSlot_p]; omega))]); (try rw [bKeep_k]); (try rw [bSlot_k]); (try rfl)
theorem gk_16 {T : Nat → Int32} {n j f : Nat} (hj : j < 8 ∨ 9 < j) (ih : GK T n j f) {E : En} {o q v i e c g : Nat} {b : BT} {r : RT} (hq : q ≤ n) (hv : v ≤ 60) (hb : 1 ≤ b.1) (hG : G T n (f + 1) 16 E o q v i e c g b = some (Sum.inr r)) (hN : Nd0 16 1 b i e c) : ∀ h : Nat, h < b.1 → r.2.2.2.2.1.2.2.1 j h = b.2.2.1 j h := by
  rw [G_16] at hG
  have hN : 1 ≤ e ∧ e < b.1 := hN
  by_cases y1 : tkK T n q = 41
  · rw [if_pos y1] at hG
    obtain ⟨t2, hG⟩ := gT_s hG
    have u2 := tkN_b T n q (by omega)
    try dsimp only at hG
    obtain ⟨s3, g3, hG⟩ := gb_s hG
    have x3 := g_mono T n f _ _ _ _ _ _ _ _ _ _ s3 (by omega) (by omega) g3 1 (by first | omega | (simp only [bNode_1, bNode_p, bSet_1, bSet_p, bOver_1, bOver_p, bWrap_1, bWrap_p, bKeep_1, bKeep_p, bSlot_1, bSlot_p]; omega)) (by decide) (trivial)
    obtain ⟨a3, b3, c3, d3, e3, f3, h3, i3⟩ := (x3.1 : Mo n _ _ _ s3)
    have j3 : 1 ≤ s3.2.2.2.1 ∧ s3.2.2.2.1 < s3.2.2.2.2.1.1 := x3.2
    have k3 := ih _ _ _ _ _ _ _ _ _ _ s3 (by omega) (by omega) (by first | omega | (simp only [bNode_1, bNode_p, bSet_1, bSet_p, bOver_1, bOver_p, bWrap_1, bWrap_p, bKeep_1, bKeep_p, bSlot_1, bSlot_p]; omega)) g3 (trivial)
    try simp only [bNode_1, bNode_p, bSet_1, bSet_p, bOver_1, bOver_p, bWrap_1, bWrap_p, bKeep_1, bKeep_p, bSlot_1, bSlot_p] at a3 b3 c3 d3 e3 f3 h3 i3
    try dsimp only at hG
    obtain ⟨w4, t4, hG⟩ := gW_s hG
    try have u4 := tkN_b T n s3.1 (by omega)
    try dsimp only at hG
    obtain ⟨s5, g5, hG⟩ := gb_s hG
    have x5 := g_mono T n f _ _ _ _ _ _ _ _ _ _ s5 (by omega) (by omega) g5 1 (by first | omega | (simp only [bNode_1, bNode_p, bSet_1, bSet_p, bOver_1, bOver_p, bWrap_1, bWrap_p, bKeep_1, bKeep_p, bSlot_1, bSlot_p]; omega)) (by decide) (trivial)
    obtain ⟨a5, b5, c5, d5, e5, f5, h5, i5⟩ := (x5.1 : Mo n _ _ _ s5)
    have j5 : 1 ≤ s5.2.2.2.1 ∧ s5.2.2.2.1 < s5.2.2.2.2.1.1 := x5.2
    have k5 := ih _ _ _ _ _ _ _ _ _ _ s5 (by omega) (by omega) (by first | omega | (simp only [bNode_1, bNode_p, bSet_1, bSet_p, bOver_1, bOver_p, bWrap_1, bWrap_p, bKeep_1, bKeep_p, bSlot_1, bSlot_p]; omega)) g5 (trivial)
    try simp only [bNode_1, bNode_p, bSet_1, bSet_p, bOver_1, bOver_p, bWrap_1, bWrap_p, bKeep_1, bKeep_p, bSlot_1, bSlot_p] at a5 b5 c5 d5 e5 f5 h5 i5
    try dsimp only at hG
    intro h hh
    rw [ih _ _ _ _ _ _ _ _ _ _ r (by omega) (by omega) (by first | omega | (simp only [bNode_1, bNode_p, bSet_1, bSet_p, bOver_1, bOver_p, bWrap_1, bWrap_p, bKeep_1, bKeep_p, bSlot_1, bSlot_p]; omega)) hG ((⟨by omega, by first | omega | (simp only [bNode_1, bNode_p, bSet_1, bSet_p, bOver_1, bOver_p, bWrap_1, bWrap_p, bKeep_1, bKeep_p, bSlot_1, bSlot_p]; omega)⟩ : 1 ≤ _ ∧ _ < _)) h (by first | omega | (simp only [bNode_1, bNode_p, bSet_1, bSet_p, bOver_1, bOver_p, bWrap_1, bWrap_p, bKeep_1, bKeep_p, bSlot_1, bSlot_p]; omega))]
    try dsimp only
    (try rw [bNode_k (by first | omega | (simp only [bNode_1, bNode_p, bSet_1, bSet_p, bOver_1, bOver_p, bWrap_1, bWrap_p, bKeep_1, bKeep_p, bSlot_1, bSlot_p]; omega))]); (try rw [bSet_k hj (by decide)]); (try rw [bOver_k hj (by first | omega | (simp only [bNode_1, bNode_p, bSet_1, bSet_p, bOver_1, bOver_p, bWrap_1, bWrap_p, bKeep_1, bKeep_p, bSlot_1, bSlot_p]; omega))]); (try rw [bWrap_k hj (by first | omega | (simp only [bNode_1, bNode_p, bSet_1, bSet_p, bOver_1, bOver_p, bWrap_1, bWrap_p, bKeep_1, bKeep_p, bSlot_1, bSlot_p]; omega))]); (try rw [bNode_k (by first | omega | (simp only [bNode_1, bNode_p, bSet_1, bSet_p, bOver_1, bOver_p, bWrap_1, bWrap_p, bKeep_1, bKeep_p, bSlot_1, bSlot_p]; omega))]); (try rw [bKeep_k]); (try rw [bSlot_k]); (try rw [k5 h (by first | omega | (simp only [bNode_1, bNode_p, bSet_1, bSet_p, bOver_1, bOver_p, bWrap_1, bWrap_p, bKeep_1, bKeep_p, bSlot_1, bSlot_p]; omega))]); (try rw [bNode_k (by first | omega | (simp only [bNode_1, bNode_p, bSet_1, bSet_p, bOver_1, bOver_p, bWrap_1, bWrap_p, bKeep_1, bKeep_p, bSlot_1, bSlot_p]; omega))]); (try rw [bSet_k hj (by decide)]); (try rw [bOver_k hj (by first | omega | (simp only [bNode_1, bNode_p, bSet_1, bSet_p, bOver_1, bOver_p, bWrap_1, bWrap_p, bKeep_1, bKeep_p, bSlot_1, bSlot_p]; omega))]); (try rw [bWrap_k hj (by first | omega | (simp only [bNode_1, bNode_p, bSet_1, bSet_p, bOver_1, bOver_p, bWrap_1, bWrap_p, bKeep_1, bKeep_p, bSlot_1, bSlot_p]; omega))]); (try rw [bNode_k (by first | omega | (simp only [bNode_1, bNode_p, bSet_1, bSet_p, bOver_1, bOver_p, bWrap_1, bWrap_p, bKeep_1, bKeep_p, bSlot_1, bSlot_p]; omega))]); (try rw [bKeep_k]); (try rw [bSlot_k]); (try rw [k3 h (by first | omega | (simp only [bNode_1, bNode_p, bSet_1, bSet_p, bOver_1, bOver_p, bWrap_1, bWrap_p, bKeep_1, bKeep_p, bSlot_1, bSlot_p]; omega))]); (try rw [bNode_k (by first | omega | (simp only [bNode_1, bNode_p, bSet_1, bSet_p, bOver_1, bOver_p, bWrap_1, bWrap_p, bKeep_1, bKeep_p, bSlot_1, bSlot_p]; omega))]); (try rw [bSet_k hj (by decide)]); (try rw [bOver_k hj (by first | omega | (simp only [bNode_1, bNode_p, bSet_1, bSet_p, bOver_1, bOver_p, bWrap_1, bWrap_p, bKeep_1, bKeep_p, bSlot_1, bSlot_p]; omega))]); (try rw [bWrap_k hj (by first | omega | (simp only [bNode_1, bNode_p, bSet_1, bSet_p, bOver_1, bOver_p, bWrap_1, bWrap_p, bKeep_1, bKeep_p, bSlot_1, bSlot_p]; omega))]); (try rw [bNode_k (by first | omega | (simp only [bNode_1, bNode_p, bSet_1, bSet_p, bOver_1, bOver_p, bWrap_1, bWrap_p, bKeep_1, bKeep_p, bSlot_1, bSlot_p]; omega))]); (try rw [bKeep_k]); (try rw [bSlot_k]); (try rfl)
  · rw [if_neg y1] at hG
    cases hG
    intro h hh
    try dsimp only
    (try rw [bNode_k (by first | omega | (simp only [bNode_1, bNode_p, bSet_1, bSet_p, bOver_1, bOver_p, bWrap_1, bWrap_p, bKeep_1, bKeep_p, bSlot_1, bSlot_p]; omega))]); (try rw [bSet_k hj (by decide)]); (try rw [bOver_k hj (by first | omega | (simp only [bNode_1, bNode_p, bSet_1, bSet_p, bOver_1, bOver_p, bWrap_1, bWrap_p, bKeep_1, bKeep_p, bSlot_1, bSlot_p]; omega))]); (try rw [bWrap_k hj (by first | omega | (simp only [bNode_1, bNode_p, bSet_1, bSet_p, bOver_1, bOver_p, bWrap_1, bWrap_p, bKeep_1, bKeep_p, bSlot_1, bSlot_p]; omega))]); (try rw [bNode_k (by first | omega | (simp only [bNode_1, bNode_p, bSet_1, bSet_p, bOver_1, bOver_p, bWrap_1, bWrap_p, bKeep_1, bKeep_p, bSlot_1, bSlot_p]; omega))]); (try rw [bKeep_k]); (try rw [bSlot_k]); (try rfl)
theorem gk_17 {T : Nat → Int32} {n j f : Nat} (hj : j < 8 ∨ 9 < j) (ih : GK T n j f) {E : En} {o q v i e c g : Nat} {b : BT} {r : RT} (hq : q ≤ n) (hv : v ≤ 60) (hb : 1 ≤ b.1) (hG : G T n (f + 1) 17 E o q v i e c g b = some (Sum.inr r)) (hN : Nd0 17 1 b i e c) : ∀ h : Nat, h < b.1 → r.2.2.2.2.1.2.2.1 j h = b.2.2.1 j h := by
  rw [G_17] at hG
  have hN : i = 0 ∨ (1 ≤ i ∧ i < b.1 ∧ 1 ≤ e ∧ e < b.1) := hN
  by_cases y1 : tkK T n q = 10
  · rw [if_pos y1] at hG
    obtain ⟨_, hG⟩ := gO_s hG
    obtain ⟨t2, hG⟩ := gT_s hG
    have u2 := tkN_b T n q (by omega)
    try dsimp only at hG
    obtain ⟨w3, v3, hG⟩ := gN_s hG
    have u3 := tkN_b T n (tkN T n q) (by omega)
    try dsimp only at hG
    obtain ⟨s4, g4, hG⟩ := gb_s hG
    have x4 := g_mono T n f _ _ _ _ _ _ _ _ _ _ s4 (by omega) (by omega) g4 1 (by first | omega | (simp only [bNode_1, bNode_p, bSet_1, bSet_p, bOver_1, bOver_p, bWrap_1, bWrap_p, bKeep_1, bKeep_p, bSlot_1, bSlot_p]; omega)) (by decide) (trivial)
    obtain ⟨a4, b4, c4, d4, e4, f4, h4, i4⟩ := (x4.1 : Mo n _ _ _ s4)
    have k4 := ih _ _ _ _ _ _ _ _ _ _ s4 (by omega) (by omega) (by first | omega | (simp only [bNode_1, bNode_p, bSet_1, bSet_p, bOver_1, bOver_p, bWrap_1, bWrap_p, bKeep_1, bKeep_p, bSlot_1, bSlot_p]; omega)) g4 (trivial)
    try simp only [bNode_1, bNode_p, bSet_1, bSet_p, bOver_1, bOver_p, bWrap_1, bWrap_p, bKeep_1, bKeep_p, bSlot_1, bSlot_p] at a4 b4 c4 d4 e4 f4 h4 i4
    try dsimp only at hG
    obtain ⟨w5, t5, hG⟩ := gW_s hG
    try have u5 := tkN_b T n s4.1 (by omega)
    try dsimp only at hG
    obtain ⟨w6, t6, hG⟩ := gW_s hG
    try have u6 := tkN_b T n (tkN T n s4.1) (by omega)
    try dsimp only at hG
    obtain ⟨s7, g7, hG⟩ := gb_s hG
    have x7 := g_mono T n f _ _ _ _ _ _ _ _ _ _ s7 (by omega) (by omega) g7 1 (by first | omega | (simp only [bNode_1, bNode_p, bSet_1, bSet_p, bOver_1, bOver_p, bWrap_1, bWrap_p, bKeep_1, bKeep_p, bSlot_1, bSlot_p]; omega)) (by decide) (trivial)
    obtain ⟨a7, b7, c7, d7, e7, f7, h7, i7⟩ := (x7.1 : Mo n _ _ _ s7)
    have j7 : 1 ≤ s7.2.2.2.1 ∧ s7.2.2.2.1 < s7.2.2.2.2.1.1 := x7.2
    have k7 := ih _ _ _ _ _ _ _ _ _ _ s7 (by omega) (by omega) (by first | omega | (simp only [bNode_1, bNode_p, bSet_1, bSet_p, bOver_1, bOver_p, bWrap_1, bWrap_p, bKeep_1, bKeep_p, bSlot_1, bSlot_p]; omega)) g7 (trivial)
    try simp only [bNode_1, bNode_p, bSet_1, bSet_p, bOver_1, bOver_p, bWrap_1, bWrap_p, bKeep_1, bKeep_p, bSlot_1, bSlot_p] at a7 b7 c7 d7 e7 f7 h7 i7
    try dsimp only at hG
    by_cases hi : i = 0
    · simp only [if_pos hi] at hG
      by_cases y8 : tkK T n s7.1 = 12
      · rw [if_pos y8] at hG
        obtain ⟨t9, hG⟩ := gT_s hG
        have u9 := tkN_b T n s7.1 (by omega)
        try dsimp only at hG
        obtain ⟨s10, g10, hG⟩ := gb_s hG
        have x10 := g_mono T n f _ _ _ _ _ _ _ _ _ _ s10 (by omega) (by omega) g10 1 (by first | omega | (simp only [bNode_1, bNode_p, bSet_1, bSet_p, bOver_1, bOver_p, bWrap_1, bWrap_p, bKeep_1, bKeep_p, bSlot_1, bSlot_p]; omega)) (by decide) (Or.inr ⟨by first | omega | (simp only [bNode_1, bNode_p, bSet_1, bSet_p, bOver_1, bOver_p, bWrap_1, bWrap_p, bKeep_1, bKeep_p, bSlot_1, bSlot_p]; omega), by first | omega | (simp only [bNode_1, bNode_p, bSet_1, bSet_p, bOver_1, bOver_p, bWrap_1, bWrap_p, bKeep_1, bKeep_p, bSlot_1, bSlot_p]; omega), by first | omega | (simp only [bNode_1, bNode_p, bSet_1, bSet_p, bOver_1, bOver_p, bWrap_1, bWrap_p, bKeep_1, bKeep_p, bSlot_1, bSlot_p]; omega), by first | omega | (simp only [bNode_1, bNode_p, bSet_1, bSet_p, bOver_1, bOver_p, bWrap_1, bWrap_p, bKeep_1, bKeep_p, bSlot_1, bSlot_p]; omega)⟩)
        obtain ⟨a10, b10, c10, d10, e10, f10, h10, i10⟩ := (x10.1 : Mo n _ _ _ s10)
        have j10 : 1 ≤ s10.2.2.2.1 ∧ s10.2.2.2.1 < s10.2.2.2.2.1.1 := x10.2
        have k10 := ih _ _ _ _ _ _ _ _ _ _ s10 (by omega) (by omega) (by first | omega | (simp only [bNode_1, bNode_p, bSet_1, bSet_p, bOver_1, bOver_p, bWrap_1, bWrap_p, bKeep_1, bKeep_p, bSlot_1, bSlot_p]; omega)) g10 (Or.inr ⟨by first | omega | (simp only [bNode_1, bNode_p, bSet_1, bSet_p, bOver_1, bOver_p, bWrap_1, bWrap_p, bKeep_1, bKeep_p, bSlot_1, bSlot_p]; omega), by first | omega | (simp only [bNode_1, bNode_p, bSet_1, bSet_p, bOver_1, bOver_p, bWrap_1, bWrap_p, bKeep_1, bKeep_p, bSlot_1, bSlot_p]; omega), by first | omega | (simp only [bNode_1, bNode_p, bSet_1, bSet_p, bOver_1, bOver_p, bWrap_1, bWrap_p, bKeep_1, bKeep_p, bSlot_1, bSlot_p]; omega), by first | omega | (simp only [bNode_1, bNode_p, bSet_1, bSet_p, bOver_1, bOver_p, bWrap_1, bWrap_p, bKeep_1, bKeep_p, bSlot_1, bSlot_p]; omega)⟩)
        try simp only [bNode_1, bNode_p, bSet_1, bSet_p, bOver_1, bOver_p, bWrap_1, bWrap_p, bKeep_1, bKeep_p, bSlot_1, bSlot_p] at a10 b10 c10 d10 e10 f10 h10 i10
        try dsimp only at hG
        cases hG
        intro h hh
        try dsimp only
        (try rw [bNode_k (by first | omega | (simp only [bNode_1, bNode_p, bSet_1, bSet_p, bOver_1, bOver_p, bWrap_1, bWrap_p, bKeep_1, bKeep_p, bSlot_1, bSlot_p]; omega))]); (try rw [bSet_k hj (by decide)]); (try rw [bOver_k hj (by first | omega | (simp only [bNode_1, bNode_p, bSet_1, bSet_p, bOver_1, bOver_p, bWrap_1, bWrap_p, bKeep_1, bKeep_p, bSlot_1, bSlot_p]; omega))]); (try rw [bWrap_k hj (by first | omega | (simp only [bNode_1, bNode_p, bSet_1, bSet_p, bOver_1, bOver_p, bWrap_1, bWrap_p, bKeep_1, bKeep_p, bSlot_1, bSlot_p]; omega))]); (try rw [bNode_k (by first | omega | (simp only [bNode_1, bNode_p, bSet_1, bSet_p, bOver_1, bOver_p, bWrap_1, bWrap_p, bKeep_1, bKeep_p, bSlot_1, bSlot_p]; omega))]); (try rw [bKeep_k]); (try rw [bSlot_k]); (try rw [k10 h (by first | omega | (simp only [bNode_1, bNode_p, bSet_1, bSet_p, bOver_1, bOver_p, bWrap_1, bWrap_p, bKeep_1, bKeep_p, bSlot_1, bSlot_p]; omega))]); (try rw [bNode_k (by first | omega | (simp only [bNode_1, bNode_p, bSet_1, bSet_p, bOver_1, bOver_p, bWrap_1, bWrap_p, bKeep_1, bKeep_p, bSlot_1, bSlot_p]; omega))]); (try rw [bSet_k hj (by decide)]); (try rw [bOver_k hj (by first | omega | (simp only [bNode_1, bNode_p, bSet_1, bSet_p, bOver_1, bOver_p, bWrap_1, bWrap_p, bKeep_1, bKeep_p, bSlot_1, bSlot_p]; omega))]); (try rw [bWrap_k hj (by first | omega | (simp only [bNode_1, bNode_p, bSet_1, bSet_p, bOver_1, bOver_p, bWrap_1, bWrap_p, bKeep_1, bKeep_p, bSlot_1, bSlot_p]; omega))]); (try rw [bNode_k (by first | omega | (simp only [bNode_1, bNode_p, bSet_1, bSet_p, bOver_1, bOver_p, bWrap_1, bWrap_p, bKeep_1, bKeep_p, bSlot_1, bSlot_p]; omega))]); (try rw [bKeep_k]); (try rw [bSlot_k]); (try rw [k7 h (by first | omega | (simp only [bNode_1, bNode_p, bSet_1, bSet_p, bOver_1, bOver_p, bWrap_1, bWrap_p, bKeep_1, bKeep_p, bSlot_1, bSlot_p]; omega))]); (try rw [bNode_k (by first | omega | (simp only [bNode_1, bNode_p, bSet_1, bSet_p, bOver_1, bOver_p, bWrap_1, bWrap_p, bKeep_1, bKeep_p, bSlot_1, bSlot_p]; omega))]); (try rw [bSet_k hj (by decide)]); (try rw [bOver_k hj (by first | omega | (simp only [bNode_1, bNode_p, bSet_1, bSet_p, bOver_1, bOver_p, bWrap_1, bWrap_p, bKeep_1, bKeep_p, bSlot_1, bSlot_p]; omega))]); (try rw [bWrap_k hj (by first | omega | (simp only [bNode_1, bNode_p, bSet_1, bSet_p, bOver_1, bOver_p, bWrap_1, bWrap_p, bKeep_1, bKeep_p, bSlot_1, bSlot_p]; omega))]); (try rw [bNode_k (by first | omega | (simp only [bNode_1, bNode_p, bSet_1, bSet_p, bOver_1, bOver_p, bWrap_1, bWrap_p, bKeep_1, bKeep_p, bSlot_1, bSlot_p]; omega))]); (try rw [bKeep_k]); (try rw [bSlot_k]); (try rw [k4 h (by first | omega | (simp only [bNode_1, bNode_p, bSet_1, bSet_p, bOver_1, bOver_p, bWrap_1, bWrap_p, bKeep_1, bKeep_p, bSlot_1, bSlot_p]; omega))]); (try rw [bNode_k (by first | omega | (simp only [bNode_1, bNode_p, bSet_1, bSet_p, bOver_1, bOver_p, bWrap_1, bWrap_p, bKeep_1, bKeep_p, bSlot_1, bSlot_p]; omega))]); (try rw [bSet_k hj (by decide)]); (try rw [bOver_k hj (by first | omega | (simp only [bNode_1, bNode_p, bSet_1, bSet_p, bOver_1, bOver_p, bWrap_1, bWrap_p, bKeep_1, bKeep_p, bSlot_1, bSlot_p]; omega))]); (try rw [bWrap_k hj (by first | omega | (simp only [bNode_1, bNode_p, bSet_1, bSet_p, bOver_1, bOver_p, bWrap_1, bWrap_p, bKeep_1, bKeep_p, bSlot_1, bSlot_p]; omega))]); (try rw [bNode_k (by first | omega | (simp only [bNode_1, bNode_p, bSet_1, bSet_p, bOver_1, bOver_p, bWrap_1, bWrap_p, bKeep_1, bKeep_p, bSlot_1, bSlot_p]; omega))]); (try rw [bKeep_k]); (try rw [bSlot_k]); (try rfl)
      · rw [if_neg y8] at hG
        cases hG
        intro h hh
        try dsimp only
        (try rw [bNode_k (by first | omega | (simp only [bNode_1, bNode_p, bSet_1, bSet_p, bOver_1, bOver_p, bWrap_1, bWrap_p, bKeep_1, bKeep_p, bSlot_1, bSlot_p]; omega))]); (try rw [bSet_k hj (by decide)]); (try rw [bOver_k hj (by first | omega | (simp only [bNode_1, bNode_p, bSet_1, bSet_p, bOver_1, bOver_p, bWrap_1, bWrap_p, bKeep_1, bKeep_p, bSlot_1, bSlot_p]; omega))]); (try rw [bWrap_k hj (by first | omega | (simp only [bNode_1, bNode_p, bSet_1, bSet_p, bOver_1, bOver_p, bWrap_1, bWrap_p, bKeep_1, bKeep_p, bSlot_1, bSlot_p]; omega))]); (try rw [bNode_k (by first | omega | (simp only [bNode_1, bNode_p, bSet_1, bSet_p, bOver_1, bOver_p, bWrap_1, bWrap_p, bKeep_1, bKeep_p, bSlot_1, bSlot_p]; omega))]); (try rw [bKeep_k]); (try rw [bSlot_k]); (try rw [k7 h (by first | omega | (simp only [bNode_1, bNode_p, bSet_1, bSet_p, bOver_1, bOver_p, bWrap_1, bWrap_p, bKeep_1, bKeep_p, bSlot_1, bSlot_p]; omega))]); (try rw [bNode_k (by first | omega | (simp only [bNode_1, bNode_p, bSet_1, bSet_p, bOver_1, bOver_p, bWrap_1, bWrap_p, bKeep_1, bKeep_p, bSlot_1, bSlot_p]; omega))]); (try rw [bSet_k hj (by decide)]); (try rw [bOver_k hj (by first | omega | (simp only [bNode_1, bNode_p, bSet_1, bSet_p, bOver_1, bOver_p, bWrap_1, bWrap_p, bKeep_1, bKeep_p, bSlot_1, bSlot_p]; omega))]); (try rw [bWrap_k hj (by first | omega | (simp only [bNode_1, bNode_p, bSet_1, bSet_p, bOver_1, bOver_p, bWrap_1, bWrap_p, bKeep_1, bKeep_p, bSlot_1, bSlot_p]; omega))]); (try rw [bNode_k (by first | omega | (simp only [bNode_1, bNode_p, bSet_1, bSet_p, bOver_1, bOver_p, bWrap_1, bWrap_p, bKeep_1, bKeep_p, bSlot_1, bSlot_p]; omega))]); (try rw [bKeep_k]); (try rw [bSlot_k]); (try rw [k4 h (by first | omega | (simp only [bNode_1, bNode_p, bSet_1, bSet_p, bOver_1, bOver_p, bWrap_1, bWrap_p, bKeep_1, bKeep_p, bSlot_1, bSlot_p]; omega))]); (try rw [bNode_k (by first | omega | (simp only [bNode_1, bNode_p, bSet_1, bSet_p, bOver_1, bOver_p, bWrap_1, bWrap_p, bKeep_1, bKeep_p, bSlot_1, bSlot_p]; omega))]); (try rw [bSet_k hj (by decide)]); (try rw [bOver_k hj (by first | omega | (simp only [bNode_1, bNode_p, bSet_1, bSet_p, bOver_1, bOver_p, bWrap_1, bWrap_p, bKeep_1, bKeep_p, bSlot_1, bSlot_p]; omega))]); (try rw [bWrap_k hj (by first | omega | (simp only [bNode_1, bNode_p, bSet_1, bSet_p, bOver_1, bOver_p, bWrap_1, bWrap_p, bKeep_1, bKeep_p, bSlot_1, bSlot_p]; omega))]); (try rw [bNode_k (by first | omega | (simp only [bNode_1, bNode_p, bSet_1, bSet_p, bOver_1, bOver_p, bWrap_1, bWrap_p, bKeep_1, bKeep_p, bSlot_1, bSlot_p]; omega))]); (try rw [bKeep_k]); (try rw [bSlot_k]); (try rfl)
    · simp only [if_neg hi] at hG
      by_cases y11 : tkK T n s7.1 = 12
      · rw [if_pos y11] at hG
        obtain ⟨t12, hG⟩ := gT_s hG
        have u12 := tkN_b T n s7.1 (by omega)
        try dsimp only at hG
        obtain ⟨s13, g13, hG⟩ := gb_s hG
        have x13 := g_mono T n f _ _ _ _ _ _ _ _ _ _ s13 (by omega) (by omega) g13 1 (by first | omega | (simp only [bNode_1, bNode_p, bSet_1, bSet_p, bOver_1, bOver_p, bWrap_1, bWrap_p, bKeep_1, bKeep_p, bSlot_1, bSlot_p]; omega)) (by decide) (Or.inr ⟨by omega, by first | omega | (simp only [bNode_1, bNode_p, bSet_1, bSet_p, bOver_1, bOver_p, bWrap_1, bWrap_p, bKeep_1, bKeep_p, bSlot_1, bSlot_p]; omega), by first | omega | (simp only [bNode_1, bNode_p, bSet_1, bSet_p, bOver_1, bOver_p, bWrap_1, bWrap_p, bKeep_1, bKeep_p, bSlot_1, bSlot_p]; omega), by first | omega | (simp only [bNode_1, bNode_p, bSet_1, bSet_p, bOver_1, bOver_p, bWrap_1, bWrap_p, bKeep_1, bKeep_p, bSlot_1, bSlot_p]; omega)⟩)
        obtain ⟨a13, b13, c13, d13, e13, f13, h13, i13⟩ := (x13.1 : Mo n _ _ _ s13)
        have j13 : 1 ≤ s13.2.2.2.1 ∧ s13.2.2.2.1 < s13.2.2.2.2.1.1 := x13.2
        have k13 := ih _ _ _ _ _ _ _ _ _ _ s13 (by omega) (by omega) (by first | omega | (simp only [bNode_1, bNode_p, bSet_1, bSet_p, bOver_1, bOver_p, bWrap_1, bWrap_p, bKeep_1, bKeep_p, bSlot_1, bSlot_p]; omega)) g13 (Or.inr ⟨by omega, by first | omega | (simp only [bNode_1, bNode_p, bSet_1, bSet_p, bOver_1, bOver_p, bWrap_1, bWrap_p, bKeep_1, bKeep_p, bSlot_1, bSlot_p]; omega), by first | omega | (simp only [bNode_1, bNode_p, bSet_1, bSet_p, bOver_1, bOver_p, bWrap_1, bWrap_p, bKeep_1, bKeep_p, bSlot_1, bSlot_p]; omega), by first | omega | (simp only [bNode_1, bNode_p, bSet_1, bSet_p, bOver_1, bOver_p, bWrap_1, bWrap_p, bKeep_1, bKeep_p, bSlot_1, bSlot_p]; omega)⟩)
        try simp only [bNode_1, bNode_p, bSet_1, bSet_p, bOver_1, bOver_p, bWrap_1, bWrap_p, bKeep_1, bKeep_p, bSlot_1, bSlot_p] at a13 b13 c13 d13 e13 f13 h13 i13
        try dsimp only at hG
        cases hG
        intro h hh
        try dsimp only
        (try rw [bNode_k (by first | omega | (simp only [bNode_1, bNode_p, bSet_1, bSet_p, bOver_1, bOver_p, bWrap_1, bWrap_p, bKeep_1, bKeep_p, bSlot_1, bSlot_p]; omega))]); (try rw [bSet_k hj (by decide)]); (try rw [bOver_k hj (by first | omega | (simp only [bNode_1, bNode_p, bSet_1, bSet_p, bOver_1, bOver_p, bWrap_1, bWrap_p, bKeep_1, bKeep_p, bSlot_1, bSlot_p]; omega))]); (try rw [bWrap_k hj (by first | omega | (simp only [bNode_1, bNode_p, bSet_1, bSet_p, bOver_1, bOver_p, bWrap_1, bWrap_p, bKeep_1, bKeep_p, bSlot_1, bSlot_p]; omega))]); (try rw [bNode_k (by first | omega | (simp only [bNode_1, bNode_p, bSet_1, bSet_p, bOver_1, bOver_p, bWrap_1, bWrap_p, bKeep_1, bKeep_p, bSlot_1, bSlot_p]; omega))]); (try rw [bKeep_k]); (try rw [bSlot_k]); (try rw [k13 h (by first | omega | (simp only [bNode_1, bNode_p, bSet_1, bSet_p, bOver_1, bOver_p, bWrap_1, bWrap_p, bKeep_1, bKeep_p, bSlot_1, bSlot_p]; omega))]); (try rw [bNode_k (by first | omega | (simp only [bNode_1, bNode_p, bSet_1, bSet_p, bOver_1, bOver_p, bWrap_1, bWrap_p, bKeep_1, bKeep_p, bSlot_1, bSlot_p]; omega))]); (try rw [bSet_k hj (by decide)]); (try rw [bOver_k hj (by first | omega | (simp only [bNode_1, bNode_p, bSet_1, bSet_p, bOver_1, bOver_p, bWrap_1, bWrap_p, bKeep_1, bKeep_p, bSlot_1, bSlot_p]; omega))]); (try rw [bWrap_k hj (by first | omega | (simp only [bNode_1, bNode_p, bSet_1, bSet_p, bOver_1, bOver_p, bWrap_1, bWrap_p, bKeep_1, bKeep_p, bSlot_1, bSlot_p]; omega))]); (try rw [bNode_k (by first | omega | (simp only [bNode_1, bNode_p, bSet_1, bSet_p, bOver_1, bOver_p, bWrap_1, bWrap_p, bKeep_1, bKeep_p, bSlot_1, bSlot_p]; omega))]); (try rw [bKeep_k]); (try rw [bSlot_k]); (try rw [k7 h (by first | omega | (simp only [bNode_1, bNode_p, bSet_1, bSet_p, bOver_1, bOver_p, bWrap_1, bWrap_p, bKeep_1, bKeep_p, bSlot_1, bSlot_p]; omega))]); (try rw [bNode_k (by first | omega | (simp only [bNode_1, bNode_p, bSet_1, bSet_p, bOver_1, bOver_p, bWrap_1, bWrap_p, bKeep_1, bKeep_p, bSlot_1, bSlot_p]; omega))]); (try rw [bSet_k hj (by decide)]); (try rw [bOver_k hj (by first | omega | (simp only [bNode_1, bNode_p, bSet_1, bSet_p, bOver_1, bOver_p, bWrap_1, bWrap_p, bKeep_1, bKeep_p, bSlot_1, bSlot_p]; omega))]); (try rw [bWrap_k hj (by first | omega | (simp only [bNode_1, bNode_p, bSet_1, bSet_p, bOver_1, bOver_p, bWrap_1, bWrap_p, bKeep_1, bKeep_p, bSlot_1, bSlot_p]; omega))]); (try rw [bNode_k (by first | omega | (simp only [bNode_1, bNode_p, bSet_1, bSet_p, bOver_1, bOver_p, bWrap_1, bWrap_p, bKeep_1, bKeep_p, bSlot_1, bSlot_p]; omega))]); (try rw [bKeep_k]); (try rw [bSlot_k]); (try rw [k4 h (by first | omega | (simp only [bNode_1, bNode_p, bSet_1, bSet_p, bOver_1, bOver_p, bWrap_1, bWrap_p, bKeep_1, bKeep_p, bSlot_1, bSlot_p]; omega))]); (try rw [bNode_k (by first | omega | (simp only [bNode_1, bNode_p, bSet_1, bSet_p, bOver_1, bOver_p, bWrap_1, bWrap_p, bKeep_1, bKeep_p, bSlot_1, bSlot_p]; omega))]); (try rw [bSet_k hj (by decide)]); (try rw [bOver_k hj (by first | omega | (simp only [bNode_1, bNode_p, bSet_1, bSet_p, bOver_1, bOver_p, bWrap_1, bWrap_p, bKeep_1, bKeep_p, bSlot_1, bSlot_p]; omega))]); (try rw [bWrap_k hj (by first | omega | (simp only [bNode_1, bNode_p, bSet_1, bSet_p, bOver_1, bOver_p, bWrap_1, bWrap_p, bKeep_1, bKeep_p, bSlot_1, bSlot_p]; omega))]); (try rw [bNode_k (by first | omega | (simp only [bNode_1, bNode_p, bSet_1, bSet_p, bOver_1, bOver_p, bWrap_1, bWrap_p, bKeep_1, bKeep_p, bSlot_1, bSlot_p]; omega))]); (try rw [bKeep_k]); (try rw [bSlot_k]); (try rfl)
      · rw [if_neg y11] at hG
        cases hG
        intro h hh
        try dsimp only
        (try rw [bNode_k (by first | omega | (simp only [bNode_1, bNode_p, bSet_1, bSet_p, bOver_1, bOver_p, bWrap_1, bWrap_p, bKeep_1, bKeep_p, bSlot_1, bSlot_p]; omega))]); (try rw [bSet_k hj (by decide)]); (try rw [bOver_k hj (by first | omega | (simp only [bNode_1, bNode_p, bSet_1, bSet_p, bOver_1, bOver_p, bWrap_1, bWrap_p, bKeep_1, bKeep_p, bSlot_1, bSlot_p]; omega))]); (try rw [bWrap_k hj (by first | omega | (simp only [bNode_1, bNode_p, bSet_1, bSet_p, bOver_1, bOver_p, bWrap_1, bWrap_p, bKeep_1, bKeep_p, bSlot_1, bSlot_p]; omega))]); (try rw [bNode_k (by first | omega | (simp only [bNode_1, bNode_p, bSet_1, bSet_p, bOver_1, bOver_p, bWrap_1, bWrap_p, bKeep_1, bKeep_p, bSlot_1, bSlot_p]; omega))]); (try rw [bKeep_k]); (try rw [bSlot_k]); (try rw [k7 h (by first | omega | (simp only [bNode_1, bNode_p, bSet_1, bSet_p, bOver_1, bOver_p, bWrap_1, bWrap_p, bKeep_1, bKeep_p, bSlot_1, bSlot_p]; omega))]); (try rw [bNode_k (by first | omega | (simp only [bNode_1, bNode_p, bSet_1, bSet_p, bOver_1, bOver_p, bWrap_1, bWrap_p, bKeep_1, bKeep_p, bSlot_1, bSlot_p]; omega))]); (try rw [bSet_k hj (by decide)]); (try rw [bOver_k hj (by first | omega | (simp only [bNode_1, bNode_p, bSet_1, bSet_p, bOver_1, bOver_p, bWrap_1, bWrap_p, bKeep_1, bKeep_p, bSlot_1, bSlot_p]; omega))]); (try rw [bWrap_k hj (by first | omega | (simp only [bNode_1, bNode_p, bSet_1, bSet_p, bOver_1, bOver_p, bWrap_1, bWrap_p, bKeep_1, bKeep_p, bSlot_1, bSlot_p]; omega))]); (try rw [bNode_k (by first | omega | (simp only [bNode_1, bNode_p, bSet_1, bSet_p, bOver_1, bOver_p, bWrap_1, bWrap_p, bKeep_1, bKeep_p, bSlot_1, bSlot_p]; omega))]); (try rw [bKeep_k]); (try rw [bSlot_k]); (try rw [k4 h (by first | omega | (simp only [bNode_1, bNode_p, bSet_1, bSet_p, bOver_1, bOver_p, bWrap_1, bWrap_p, bKeep_1, bKeep_p, bSlot_1, bSlot_p]; omega))]); (try rw [bNode_k (by first | omega | (simp only [bNode_1, bNode_p, bSet_1, bSet_p, bOver_1, bOver_p, bWrap_1, bWrap_p, bKeep_1, bKeep_p, bSlot_1, bSlot_p]; omega))]); (try rw [bSet_k hj (by decide)]); (try rw [bOver_k hj (by first | omega | (simp only [bNode_1, bNode_p, bSet_1, bSet_p, bOver_1, bOver_p, bWrap_1, bWrap_p, bKeep_1, bKeep_p, bSlot_1, bSlot_p]; omega))]); (try rw [bWrap_k hj (by first | omega | (simp only [bNode_1, bNode_p, bSet_1, bSet_p, bOver_1, bOver_p, bWrap_1, bWrap_p, bKeep_1, bKeep_p, bSlot_1, bSlot_p]; omega))]); (try rw [bNode_k (by first | omega | (simp only [bNode_1, bNode_p, bSet_1, bSet_p, bOver_1, bOver_p, bWrap_1, bWrap_p, bKeep_1, bKeep_p, bSlot_1, bSlot_p]; omega))]); (try rw [bKeep_k]); (try rw [bSlot_k]); (try rfl)
  · rw [if_neg y1] at hG
    obtain ⟨w14, v14, hG⟩ := gN_s hG
    have u14 := tkN_b T n q (by omega)
    try dsimp only at hG
    obtain ⟨w15, t15, hG⟩ := gW_s hG
    try have u15 := tkN_b T n (tkN T n q) (by omega)
    try dsimp only at hG
    obtain ⟨s16, g16, hG⟩ := gb_s hG
    have x16 := g_mono T n f _ _ _ _ _ _ _ _ _ _ s16 (by omega) (by omega) g16 1 (by first | omega | (simp only [bNode_1, bNode_p, bSet_1, bSet_p, bOver_1, bOver_p, bWrap_1, bWrap_p, bKeep_1, bKeep_p, bSlot_1, bSlot_p]; omega)) (by decide) (trivial)
    obtain ⟨a16, b16, c16, d16, e16, f16, h16, i16⟩ := (x16.1 : Mo n _ _ _ s16)
    have j16 : 1 ≤ s16.2.2.2.1 ∧ s16.2.2.2.1 < s16.2.2.2.2.1.1 := x16.2
    have k16 := ih _ _ _ _ _ _ _ _ _ _ s16 (by omega) (by omega) (by first | omega | (simp only [bNode_1, bNode_p, bSet_1, bSet_p, bOver_1, bOver_p, bWrap_1, bWrap_p, bKeep_1, bKeep_p, bSlot_1, bSlot_p]; omega)) g16 (trivial)
    try simp only [bNode_1, bNode_p, bSet_1, bSet_p, bOver_1, bOver_p, bWrap_1, bWrap_p, bKeep_1, bKeep_p, bSlot_1, bSlot_p] at a16 b16 c16 d16 e16 f16 h16 i16
    try dsimp only at hG
    by_cases hi : i = 0
    · simp only [if_pos hi] at hG
      by_cases y17 : tkK T n s16.1 = 12
      · rw [if_pos y17] at hG
        obtain ⟨t18, hG⟩ := gT_s hG
        have u18 := tkN_b T n s16.1 (by omega)
        try dsimp only at hG
        obtain ⟨s19, g19, hG⟩ := gb_s hG
        have x19 := g_mono T n f _ _ _ _ _ _ _ _ _ _ s19 (by omega) (by omega) g19 1 (by first | omega | (simp only [bNode_1, bNode_p, bSet_1, bSet_p, bOver_1, bOver_p, bWrap_1, bWrap_p, bKeep_1, bKeep_p, bSlot_1, bSlot_p]; omega)) (by decide) (Or.inr ⟨by first | omega | (simp only [bNode_1, bNode_p, bSet_1, bSet_p, bOver_1, bOver_p, bWrap_1, bWrap_p, bKeep_1, bKeep_p, bSlot_1, bSlot_p]; omega), by first | omega | (simp only [bNode_1, bNode_p, bSet_1, bSet_p, bOver_1, bOver_p, bWrap_1, bWrap_p, bKeep_1, bKeep_p, bSlot_1, bSlot_p]; omega), by first | omega | (simp only [bNode_1, bNode_p, bSet_1, bSet_p, bOver_1, bOver_p, bWrap_1, bWrap_p, bKeep_1, bKeep_p, bSlot_1, bSlot_p]; omega), by first | omega | (simp only [bNode_1, bNode_p, bSet_1, bSet_p, bOver_1, bOver_p, bWrap_1, bWrap_p, bKeep_1, bKeep_p, bSlot_1, bSlot_p]; omega)⟩)
        obtain ⟨a19, b19, c19, d19, e19, f19, h19, i19⟩ := (x19.1 : Mo n _ _ _ s19)
        have j19 : 1 ≤ s19.2.2.2.1 ∧ s19.2.2.2.1 < s19.2.2.2.2.1.1 := x19.2
        have k19 := ih _ _ _ _ _ _ _ _ _ _ s19 (by omega) (by omega) (by first | omega | (simp only [bNode_1, bNode_p, bSet_1, bSet_p, bOver_1, bOver_p, bWrap_1, bWrap_p, bKeep_1, bKeep_p, bSlot_1, bSlot_p]; omega)) g19 (Or.inr ⟨by first | omega | (simp only [bNode_1, bNode_p, bSet_1, bSet_p, bOver_1, bOver_p, bWrap_1, bWrap_p, bKeep_1, bKeep_p, bSlot_1, bSlot_p]; omega), by first | omega | (simp only [bNode_1, bNode_p, bSet_1, bSet_p, bOver_1, bOver_p, bWrap_1, bWrap_p, bKeep_1, bKeep_p, bSlot_1, bSlot_p]; omega), by first | omega | (simp only [bNode_1, bNode_p, bSet_1, bSet_p, bOver_1, bOver_p, bWrap_1, bWrap_p, bKeep_1, bKeep_p, bSlot_1, bSlot_p]; omega), by first | omega | (simp only [bNode_1, bNode_p, bSet_1, bSet_p, bOver_1, bOver_p, bWrap_1, bWrap_p, bKeep_1, bKeep_p, bSlot_1, bSlot_p]; omega)⟩)
        try simp only [bNode_1, bNode_p, bSet_1, bSet_p, bOver_1, bOver_p, bWrap_1, bWrap_p, bKeep_1, bKeep_p, bSlot_1, bSlot_p] at a19 b19 c19 d19 e19 f19 h19 i19
        try dsimp only at hG
        cases hG
        intro h hh
        try dsimp only
        (try rw [bNode_k (by first | omega | (simp only [bNode_1, bNode_p, bSet_1, bSet_p, bOver_1, bOver_p, bWrap_1, bWrap_p, bKeep_1, bKeep_p, bSlot_1, bSlot_p]; omega))]); (try rw [bSet_k hj (by decide)]); (try rw [bOver_k hj (by first | omega | (simp only [bNode_1, bNode_p, bSet_1, bSet_p, bOver_1, bOver_p, bWrap_1, bWrap_p, bKeep_1, bKeep_p, bSlot_1, bSlot_p]; omega))]); (try rw [bWrap_k hj (by first | omega | (simp only [bNode_1, bNode_p, bSet_1, bSet_p, bOver_1, bOver_p, bWrap_1, bWrap_p, bKeep_1, bKeep_p, bSlot_1, bSlot_p]; omega))]); (try rw [bNode_k (by first | omega | (simp only [bNode_1, bNode_p, bSet_1, bSet_p, bOver_1, bOver_p, bWrap_1, bWrap_p, bKeep_1, bKeep_p, bSlot_1, bSlot_p]; omega))]); (try rw [bKeep_k]); (try rw [bSlot_k]); (try rw [k19 h (by first | omega | (simp only [bNode_1, bNode_p, bSet_1, bSet_p, bOver_1, bOver_p, bWrap_1, bWrap_p, bKeep_1, bKeep_p, bSlot_1, bSlot_p]; omega))]); (try rw [bNode_k (by first | omega | (simp only [bNode_1, bNode_p, bSet_1, bSet_p, bOver_1, bOver_p, bWrap_1, bWrap_p, bKeep_1, bKeep_p, bSlot_1, bSlot_p]; omega))]); (try rw [bSet_k hj (by decide)]); (try rw [bOver_k hj (by first | omega | (simp only [bNode_1, bNode_p, bSet_1, bSet_p, bOver_1, bOver_p, bWrap_1, bWrap_p, bKeep_1, bKeep_p, bSlot_1, bSlot_p]; omega))]); (try rw [bWrap_k hj (by first | omega | (simp only [bNode_1, bNode_p, bSet_1, bSet_p, bOver_1, bOver_p, bWrap_1, bWrap_p, bKeep_1, bKeep_p, bSlot_1, bSlot_p]; omega))]); (try rw [bNode_k (by first | omega | (simp only [bNode_1, bNode_p, bSet_1, bSet_p, bOver_1, bOver_p, bWrap_1, bWrap_p, bKeep_1, bKeep_p, bSlot_1, bSlot_p]; omega))]); (try rw [bKeep_k]); (try rw [bSlot_k]); (try rw [k16 h (by first | omega | (simp only [bNode_1, bNode_p, bSet_1, bSet_p, bOver_1, bOver_p, bWrap_1, bWrap_p, bKeep_1, bKeep_p, bSlot_1, bSlot_p]; omega))]); (try rw [bNode_k (by first | omega | (simp only [bNode_1, bNode_p, bSet_1, bSet_p, bOver_1, bOver_p, bWrap_1, bWrap_p, bKeep_1, bKeep_p, bSlot_1, bSlot_p]; omega))]); (try rw [bSet_k hj (by decide)]); (try rw [bOver_k hj (by first | omega | (simp only [bNode_1, bNode_p, bSet_1, bSet_p, bOver_1, bOver_p, bWrap_1, bWrap_p, bKeep_1, bKeep_p, bSlot_1, bSlot_p]; omega))]); (try rw [bWrap_k hj (by first | omega | (simp only [bNode_1, bNode_p, bSet_1, bSet_p, bOver_1, bOver_p, bWrap_1, bWrap_p, bKeep_1, bKeep_p, bSlot_1, bSlot_p]; omega))]); (try rw [bNode_k (by first | omega | (simp only [bNode_1, bNode_p, bSet_1, bSet_p, bOver_1, bOver_p, bWrap_1, bWrap_p, bKeep_1, bKeep_p, bSlot_1, bSlot_p]; omega))]); (try rw [bKeep_k]); (try rw [bSlot_k]); (try rfl)
      · rw [if_neg y17] at hG
        cases hG
        intro h hh
        try dsimp only
        (try rw [bNode_k (by first | omega | (simp only [bNode_1, bNode_p, bSet_1, bSet_p, bOver_1, bOver_p, bWrap_1, bWrap_p, bKeep_1, bKeep_p, bSlot_1, bSlot_p]; omega))]); (try rw [bSet_k hj (by decide)]); (try rw [bOver_k hj (by first | omega | (simp only [bNode_1, bNode_p, bSet_1, bSet_p, bOver_1, bOver_p, bWrap_1, bWrap_p, bKeep_1, bKeep_p, bSlot_1, bSlot_p]; omega))]); (try rw [bWrap_k hj (by first | omega | (simp only [bNode_1, bNode_p, bSet_1, bSet_p, bOver_1, bOver_p, bWrap_1, bWrap_p, bKeep_1, bKeep_p, bSlot_1, bSlot_p]; omega))]); (try rw [bNode_k (by first | omega | (simp only [bNode_1, bNode_p, bSet_1, bSet_p, bOver_1, bOver_p, bWrap_1, bWrap_p, bKeep_1, bKeep_p, bSlot_1, bSlot_p]; omega))]); (try rw [bKeep_k]); (try rw [bSlot_k]); (try rw [k16 h (by first | omega | (simp only [bNode_1, bNode_p, bSet_1, bSet_p, bOver_1, bOver_p, bWrap_1, bWrap_p, bKeep_1, bKeep_p, bSlot_1, bSlot_p]; omega))]); (try rw [bNode_k (by first | omega | (simp only [bNode_1, bNode_p, bSet_1, bSet_p, bOver_1, bOver_p, bWrap_1, bWrap_p, bKeep_1, bKeep_p, bSlot_1, bSlot_p]; omega))]); (try rw [bSet_k hj (by decide)]); (try rw [bOver_k hj (by first | omega | (simp only [bNode_1, bNode_p, bSet_1, bSet_p, bOver_1, bOver_p, bWrap_1, bWrap_p, bKeep_1, bKeep_p, bSlot_1, bSlot_p]; omega))]); (try rw [bWrap_k hj (by first | omega | (simp only [bNode_1, bNode_p, bSet_1, bSet_p, bOver_1, bOver_p, bWrap_1, bWrap_p, bKeep_1, bKeep_p, bSlot_1, bSlot_p]; omega))]); (try rw [bNode_k (by first | omega | (simp only [bNode_1, bNode_p, bSet_1, bSet_p, bOver_1, bOver_p, bWrap_1, bWrap_p, bKeep_1, bKeep_p, bSlot_1, bSlot_p]; omega))]); (try rw [bKeep_k]); (try rw [bSlot_k]); (try rfl)
    · simp only [if_neg hi] at hG
      by_cases y20 : tkK T n s16.1 = 12
      · rw [if_pos y20] at hG
        obtain ⟨t21, hG⟩ := gT_s hG
        have u21 := tkN_b T n s16.1 (by omega)
        try dsimp only at hG
        obtain ⟨s22, g22, hG⟩ := gb_s hG
        have x22 := g_mono T n f _ _ _ _ _ _ _ _ _ _ s22 (by omega) (by omega) g22 1 (by first | omega | (simp only [bNode_1, bNode_p, bSet_1, bSet_p, bOver_1, bOver_p, bWrap_1, bWrap_p, bKeep_1, bKeep_p, bSlot_1, bSlot_p]; omega)) (by decide) (Or.inr ⟨by omega, by first | omega | (simp only [bNode_1, bNode_p, bSet_1, bSet_p, bOver_1, bOver_p, bWrap_1, bWrap_p, bKeep_1, bKeep_p, bSlot_1, bSlot_p]; omega), by first | omega | (simp only [bNode_1, bNode_p, bSet_1, bSet_p, bOver_1, bOver_p, bWrap_1, bWrap_p, bKeep_1, bKeep_p, bSlot_1, bSlot_p]; omega), by first | omega | (simp only [bNode_1, bNode_p, bSet_1, bSet_p, bOver_1, bOver_p, bWrap_1, bWrap_p, bKeep_1, bKeep_p, bSlot_1, bSlot_p]; omega)⟩)
        obtain ⟨a22, b22, c22, d22, e22, f22, h22, i22⟩ := (x22.1 : Mo n _ _ _ s22)
        have j22 : 1 ≤ s22.2.2.2.1 ∧ s22.2.2.2.1 < s22.2.2.2.2.1.1 := x22.2
        have k22 := ih _ _ _ _ _ _ _ _ _ _ s22 (by omega) (by omega) (by first | omega | (simp only [bNode_1, bNode_p, bSet_1, bSet_p, bOver_1, bOver_p, bWrap_1, bWrap_p, bKeep_1, bKeep_p, bSlot_1, bSlot_p]; omega)) g22 (Or.inr ⟨by omega, by first | omega | (simp only [bNode_1, bNode_p, bSet_1, bSet_p, bOver_1, bOver_p, bWrap_1, bWrap_p, bKeep_1, bKeep_p, bSlot_1, bSlot_p]; omega), by first | omega | (simp only [bNode_1, bNode_p, bSet_1, bSet_p, bOver_1, bOver_p, bWrap_1, bWrap_p, bKeep_1, bKeep_p, bSlot_1, bSlot_p]; omega), by first | omega | (simp only [bNode_1, bNode_p, bSet_1, bSet_p, bOver_1, bOver_p, bWrap_1, bWrap_p, bKeep_1, bKeep_p, bSlot_1, bSlot_p]; omega)⟩)
        try simp only [bNode_1, bNode_p, bSet_1, bSet_p, bOver_1, bOver_p, bWrap_1, bWrap_p, bKeep_1, bKeep_p, bSlot_1, bSlot_p] at a22 b22 c22 d22 e22 f22 h22 i22
        try dsimp only at hG
        cases hG
        intro h hh
        try dsimp only
        (try rw [bNode_k (by first | omega | (simp only [bNode_1, bNode_p, bSet_1, bSet_p, bOver_1, bOver_p, bWrap_1, bWrap_p, bKeep_1, bKeep_p, bSlot_1, bSlot_p]; omega))]); (try rw [bSet_k hj (by decide)]); (try rw [bOver_k hj (by first | omega | (simp only [bNode_1, bNode_p, bSet_1, bSet_p, bOver_1, bOver_p, bWrap_1, bWrap_p, bKeep_1, bKeep_p, bSlot_1, bSlot_p]; omega))]); (try rw [bWrap_k hj (by first | omega | (simp only [bNode_1, bNode_p, bSet_1, bSet_p, bOver_1, bOver_p, bWrap_1, bWrap_p, bKeep_1, bKeep_p, bSlot_1, bSlot_p]; omega))]); (try rw [bNode_k (by first | omega | (simp only [bNode_1, bNode_p, bSet_1, bSet_p, bOver_1, bOver_p, bWrap_1, bWrap_p, bKeep_1, bKeep_p, bSlot_1, bSlot_p]; omega))]); (try rw [bKeep_k]); (try rw [bSlot_k]); (try rw [k22 h (by first | omega | (simp only [bNode_1, bNode_p, bSet_1, bSet_p, bOver_1, bOver_p, bWrap_1, bWrap_p, bKeep_1, bKeep_p, bSlot_1, bSlot_p]; omega))]); (try rw [bNode_k (by first | omega | (simp only [bNode_1, bNode_p, bSet_1, bSet_p, bOver_1, bOver_p, bWrap_1, bWrap_p, bKeep_1, bKeep_p, bSlot_1, bSlot_p]; omega))]); (try rw [bSet_k hj (by decide)]); (try rw [bOver_k hj (by first | omega | (simp only [bNode_1, bNode_p, bSet_1, bSet_p, bOver_1, bOver_p, bWrap_1, bWrap_p, bKeep_1, bKeep_p, bSlot_1, bSlot_p]; omega))]); (try rw [bWrap_k hj (by first | omega | (simp only [bNode_1, bNode_p, bSet_1, bSet_p, bOver_1, bOver_p, bWrap_1, bWrap_p, bKeep_1, bKeep_p, bSlot_1, bSlot_p]; omega))]); (try rw [bNode_k (by first | omega | (simp only [bNode_1, bNode_p, bSet_1, bSet_p, bOver_1, bOver_p, bWrap_1, bWrap_p, bKeep_1, bKeep_p, bSlot_1, bSlot_p]; omega))]); (try rw [bKeep_k]); (try rw [bSlot_k]); (try rw [k16 h (by first | omega | (simp only [bNode_1, bNode_p, bSet_1, bSet_p, bOver_1, bOver_p, bWrap_1, bWrap_p, bKeep_1, bKeep_p, bSlot_1, bSlot_p]; omega))]); (try rw [bNode_k (by first | omega | (simp only [bNode_1, bNode_p, bSet_1, bSet_p, bOver_1, bOver_p, bWrap_1, bWrap_p, bKeep_1, bKeep_p, bSlot_1, bSlot_p]; omega))]); (try rw [bSet_k hj (by decide)]); (try rw [bOver_k hj (by first | omega | (simp only [bNode_1, bNode_p, bSet_1, bSet_p, bOver_1, bOver_p, bWrap_1, bWrap_p, bKeep_1, bKeep_p, bSlot_1, bSlot_p]; omega))]); (try rw [bWrap_k hj (by first | omega | (simp only [bNode_1, bNode_p, bSet_1, bSet_p, bOver_1, bOver_p, bWrap_1, bWrap_p, bKeep_1, bKeep_p, bSlot_1, bSlot_p]; omega))]); (try rw [bNode_k (by first | omega | (simp only [bNode_1, bNode_p, bSet_1, bSet_p, bOver_1, bOver_p, bWrap_1, bWrap_p, bKeep_1, bKeep_p, bSlot_1, bSlot_p]; omega))]); (try rw [bKeep_k]); (try rw [bSlot_k]); (try rfl)
      · rw [if_neg y20] at hG
        cases hG
        intro h hh
        try dsimp only
        (try rw [bNode_k (by first | omega | (simp only [bNode_1, bNode_p, bSet_1, bSet_p, bOver_1, bOver_p, bWrap_1, bWrap_p, bKeep_1, bKeep_p, bSlot_1, bSlot_p]; omega))]); (try rw [bSet_k hj (by decide)]); (try rw [bOver_k hj (by first | omega | (simp only [bNode_1, bNode_p, bSet_1, bSet_p, bOver_1, bOver_p, bWrap_1, bWrap_p, bKeep_1, bKeep_p, bSlot_1, bSlot_p]; omega))]); (try rw [bWrap_k hj (by first | omega | (simp only [bNode_1, bNode_p, bSet_1, bSet_p, bOver_1, bOver_p, bWrap_1, bWrap_p, bKeep_1, bKeep_p, bSlot_1, bSlot_p]; omega))]); (try rw [bNode_k (by first | omega | (simp only [bNode_1, bNode_p, bSet_1, bSet_p, bOver_1, bOver_p, bWrap_1, bWrap_p, bKeep_1, bKeep_p, bSlot_1, bSlot_p]; omega))]); (try rw [bKeep_k]); (try rw [bSlot_k]); (try rw [k16 h (by first | omega | (simp only [bNode_1, bNode_p, bSet_1, bSet_p, bOver_1, bOver_p, bWrap_1, bWrap_p, bKeep_1, bKeep_p, bSlot_1, bSlot_p]; omega))]); (try rw [bNode_k (by first | omega | (simp only [bNode_1, bNode_p, bSet_1, bSet_p, bOver_1, bOver_p, bWrap_1, bWrap_p, bKeep_1, bKeep_p, bSlot_1, bSlot_p]; omega))]); (try rw [bSet_k hj (by decide)]); (try rw [bOver_k hj (by first | omega | (simp only [bNode_1, bNode_p, bSet_1, bSet_p, bOver_1, bOver_p, bWrap_1, bWrap_p, bKeep_1, bKeep_p, bSlot_1, bSlot_p]; omega))]); (try rw [bWrap_k hj (by first | omega | (simp only [bNode_1, bNode_p, bSet_1, bSet_p, bOver_1, bOver_p, bWrap_1, bWrap_p, bKeep_1, bKeep_p, bSlot_1, bSlot_p]; omega))]); (try rw [bNode_k (by first | omega | (simp only [bNode_1, bNode_p, bSet_1, bSet_p, bOver_1, bOver_p, bWrap_1, bWrap_p, bKeep_1, bKeep_p, bSlot_1, bSlot_p]; omega))]); (try rw [bKeep_k]); (try rw [bSlot_k]); (try rfl)
theorem gk_18 {T : Nat → Int32} {n j f : Nat} (hj : j < 8 ∨ 9 < j) (ih : GK T n j f) {E : En} {o q v i e c g : Nat} {b : BT} {r : RT} (hq : q ≤ n) (hv : v ≤ 60) (hb : 1 ≤ b.1) (hG : G T n (f + 1) 18 E o q v i e c g b = some (Sum.inr r)) (hN : Nd0 18 1 b i e c) : ∀ h : Nat, h < b.1 → r.2.2.2.2.1.2.2.1 j h = b.2.2.1 j h := by
  rw [G_18] at hG
  by_cases y1 : tkK T n q = 12
  · rw [if_pos y1] at hG
    obtain ⟨t2, hG⟩ := gT_s hG
    have u2 := tkN_b T n q (by omega)
    try dsimp only at hG
    obtain ⟨w3, v3, hG⟩ := gN_s hG
    have u3 := tkN_b T n (tkN T n q) (by omega)
    try dsimp only at hG
    obtain ⟨s4, g4, hG⟩ := gb_s hG
    have x4 := g_mono T n f _ _ _ _ _ _ _ _ _ _ s4 (by omega) (by omega) g4 1 (by first | omega | (simp only [bNode_1, bNode_p, bSet_1, bSet_p, bOver_1, bOver_p, bWrap_1, bWrap_p, bKeep_1, bKeep_p, bSlot_1, bSlot_p]; omega)) (by decide) (trivial)
    obtain ⟨a4, b4, c4, d4, e4, f4, h4, i4⟩ := (x4.1 : Mo n _ _ _ s4)
    have k4 := ih _ _ _ _ _ _ _ _ _ _ s4 (by omega) (by omega) (by first | omega | (simp only [bNode_1, bNode_p, bSet_1, bSet_p, bOver_1, bOver_p, bWrap_1, bWrap_p, bKeep_1, bKeep_p, bSlot_1, bSlot_p]; omega)) g4 (trivial)
    try simp only [bNode_1, bNode_p, bSet_1, bSet_p, bOver_1, bOver_p, bWrap_1, bWrap_p, bKeep_1, bKeep_p, bSlot_1, bSlot_p] at a4 b4 c4 d4 e4 f4 h4 i4
    try dsimp only at hG
    cases hG
    intro h hh
    try dsimp only
    (try rw [bNode_k (by first | omega | (simp only [bNode_1, bNode_p, bSet_1, bSet_p, bOver_1, bOver_p, bWrap_1, bWrap_p, bKeep_1, bKeep_p, bSlot_1, bSlot_p]; omega))]); (try rw [bSet_k hj (by decide)]); (try rw [bOver_k hj (by first | omega | (simp only [bNode_1, bNode_p, bSet_1, bSet_p, bOver_1, bOver_p, bWrap_1, bWrap_p, bKeep_1, bKeep_p, bSlot_1, bSlot_p]; omega))]); (try rw [bWrap_k hj (by first | omega | (simp only [bNode_1, bNode_p, bSet_1, bSet_p, bOver_1, bOver_p, bWrap_1, bWrap_p, bKeep_1, bKeep_p, bSlot_1, bSlot_p]; omega))]); (try rw [bNode_k (by first | omega | (simp only [bNode_1, bNode_p, bSet_1, bSet_p, bOver_1, bOver_p, bWrap_1, bWrap_p, bKeep_1, bKeep_p, bSlot_1, bSlot_p]; omega))]); (try rw [bKeep_k]); (try rw [bSlot_k]); (try rw [k4 h (by first | omega | (simp only [bNode_1, bNode_p, bSet_1, bSet_p, bOver_1, bOver_p, bWrap_1, bWrap_p, bKeep_1, bKeep_p, bSlot_1, bSlot_p]; omega))]); (try rw [bNode_k (by first | omega | (simp only [bNode_1, bNode_p, bSet_1, bSet_p, bOver_1, bOver_p, bWrap_1, bWrap_p, bKeep_1, bKeep_p, bSlot_1, bSlot_p]; omega))]); (try rw [bSet_k hj (by decide)]); (try rw [bOver_k hj (by first | omega | (simp only [bNode_1, bNode_p, bSet_1, bSet_p, bOver_1, bOver_p, bWrap_1, bWrap_p, bKeep_1, bKeep_p, bSlot_1, bSlot_p]; omega))]); (try rw [bWrap_k hj (by first | omega | (simp only [bNode_1, bNode_p, bSet_1, bSet_p, bOver_1, bOver_p, bWrap_1, bWrap_p, bKeep_1, bKeep_p, bSlot_1, bSlot_p]; omega))]); (try rw [bNode_k (by first | omega | (simp only [bNode_1, bNode_p, bSet_1, bSet_p, bOver_1, bOver_p, bWrap_1, bWrap_p, bKeep_1, bKeep_p, bSlot_1, bSlot_p]; omega))]); (try rw [bKeep_k]); (try rw [bSlot_k]); (try rfl)
  · rw [if_neg y1] at hG
    cases hG
    intro h hh
    try dsimp only
    (try rw [bNode_k (by first | omega | (simp only [bNode_1, bNode_p, bSet_1, bSet_p, bOver_1, bOver_p, bWrap_1, bWrap_p, bKeep_1, bKeep_p, bSlot_1, bSlot_p]; omega))]); (try rw [bSet_k hj (by decide)]); (try rw [bOver_k hj (by first | omega | (simp only [bNode_1, bNode_p, bSet_1, bSet_p, bOver_1, bOver_p, bWrap_1, bWrap_p, bKeep_1, bKeep_p, bSlot_1, bSlot_p]; omega))]); (try rw [bWrap_k hj (by first | omega | (simp only [bNode_1, bNode_p, bSet_1, bSet_p, bOver_1, bOver_p, bWrap_1, bWrap_p, bKeep_1, bKeep_p, bSlot_1, bSlot_p]; omega))]); (try rw [bNode_k (by first | omega | (simp only [bNode_1, bNode_p, bSet_1, bSet_p, bOver_1, bOver_p, bWrap_1, bWrap_p, bKeep_1, bKeep_p, bSlot_1, bSlot_p]; omega))]); (try rw [bKeep_k]); (try rw [bSlot_k]); (try rfl)
theorem g_keep (T : Nat → Int32) (n : Nat) {j : Nat} (hj : j < 8 ∨ 9 < j) : ∀ f : Nat, GK T n j f
  | 0 => fun nt E o q v i e c g b r _ _ _ hG => by simp only [G] at hG; cases hG
  | f + 1 => fun nt E o q v i e c g b r hq hv hb hG hN => by
    have ih := g_keep T n hj f
    match nt, hG, hN with
    | 0, hG, hN => exact gk_0 hj ih hq hv hb hG hN
    | 1, hG, hN => exact gk_1 hj ih hq hv hb hG hN
    | 2, hG, hN => exact gk_2 hj ih hq hv hb hG hN
    | 3, hG, hN => exact gk_3 hj ih hq hv hb hG hN
    | 4, hG, hN => exact gk_4 hj ih hq hv hb hG hN
    | 5, hG, hN => exact gk_5 hj ih hq hv hb hG hN
    | 6, hG, hN => exact gk_6 hj ih hq hv hb hG hN
    | 7, hG, hN => exact gk_7 hj ih hq hv hb hG hN
    | 8, hG, hN => exact gk_8 hj ih hq hv hb hG hN
    | 9, hG, hN => exact gk_9 hj ih hq hv hb hG hN
    | 10, hG, hN => exact gk_10 hj ih hq hv hb hG hN
    | 11, hG, hN => exact gk_11 hj ih hq hv hb hG hN
    | 12, hG, hN => exact gk_12 hj ih hq hv hb hG hN
    | 13, hG, hN => exact gk_13 hj ih hq hv hb hG hN
    | 14, hG, hN => exact gk_14 hj ih hq hv hb hG hN
    | 15, hG, hN => exact gk_15 hj ih hq hv hb hG hN
    | 16, hG, hN => exact gk_16 hj ih hq hv hb hG hN
    | 17, hG, hN => exact gk_17 hj ih hq hv hb hG hN
    | 18, hG, hN => exact gk_18 hj ih hq hv hb hG hN
    | nt + 19, hG, hN => simp only [G] at hG; cases hG

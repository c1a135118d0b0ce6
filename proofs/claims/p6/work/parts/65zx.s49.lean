/-! The grammar always has an answer: fuel by the bytes that are left. -/
theorem gb_t {x : RG} {k : RT → RG} (h : ∃ y, x = some y) (hk : ∀ r, x = some (some r) → ∃ y, k r = some y) : ∃ y, gb x k = some y := by
  obtain ⟨y, h⟩ := h
  cases y with
  | none => exact ⟨none, by rw [h]; rfl⟩
  | some r => obtain ⟨z, hz⟩ := hk r h; exact ⟨z, by rw [h]; exact hz⟩
theorem gT_t {T : Nat → Int32} {n q : Nat} {k : Nat → RG} (hk : ∃ y, k (tkN T n q) = some y) : ∃ y, gT T n q k = some y := by
  unfold gT
  by_cases c : tkK T n (tkN T n q) = 0
  · exact ⟨none, if_pos c⟩
  · rw [if_neg c]; exact hk
theorem gW_t {T : Nat → Int32} {n t q : Nat} {k : Nat → RG} (hk : tkK T n q = t → ∃ y, k (tkN T n q) = some y) : ∃ y, gW T n t q k = some y := by
  unfold gW
  by_cases c : tkK T n q = t
  · rw [if_pos c]; exact gT_t (hk c)
  · exact ⟨none, if_neg c⟩
theorem gO_t {o : Nat} {k : RG} (hk : ∃ y, k = some y) : ∃ y, gO o k = some y := by
  unfold gO
  by_cases c : o = 20
  · exact ⟨none, if_pos c⟩
  · rw [if_neg c]; exact hk
theorem gN_t {T : Nat → Int32} {n : Nat} {E : En} {c g q v : Nat} {b : BT} {k : Nat → Nat → Nat → BT → Nm → RG} (hk : tkK T n q = 26 → ¬ v = 60 → ∃ y, k (tkN T n q) (v + 1) b.1 (bNode (bKeep (bSlot b (60 * E.2.2.2.1 + v) (nI g)) T q (tkE T n q - q)) 31 (if E.2.2.2.1 = 0 then 0 else 1) (nI v) 0) (tkS T n q, b.2.1, v) = some y) : ∃ y, gN T n E c g q v b k = some y := by
  unfold gN
  by_cases c1 : tkK T n q = 26
  · rw [if_pos c1]
    by_cases c2 : ((E.2.2.1.take (E.2.2.1.length - c)).find? (fun x => decide (x.1 = tkS T n q))).isSome = true
    · exact ⟨none, if_pos c2⟩
    · rw [if_neg c2]
      by_cases c3 : v = 60
      · exact ⟨none, if_pos c3⟩
      · rw [if_neg c3]; exact gT_t (hk c1 c3)
  · exact ⟨none, if_neg c1⟩
def lvG : Nat → Nat
  | 0 => 20
  | 2 => 18
  | 4 => 16
  | 5 => 14
  | 6 => 12
  | 8 => 10
  | 10 => 8
  | 11 => 6
  | 13 => 4
  | 14 => 22
  | _ => 1
abbrev GT (T : Nat → Int32) (n f : Nat) : Prop := ∀ (nt : Nat) (E : En) (o q v i e c g : Nat) (b : BT), nt ≤ 18 → q ≤ n → v ≤ 60 → 1 ≤ b.1 → Nd0 nt 1 b i e c → 30 * (n - q) + lvG nt + 1 ≤ f → ∃ y, G T n f nt E o q v i e c g b = some y
theorem gt_0 {T : Nat → Int32} {n f : Nat} (ih : GT T n f) {E : En} {o q v i e c g : Nat} {b : BT} (hq : q ≤ n) (hv : v ≤ 60) (hb : 1 ≤ b.1) (hN : Nd0 0 1 b i e c) (hf : 30 * (n - q) + lvG 0 + 1 ≤ f + 1) : ∃ y, G T n (f + 1) 0 E o q v i e c g b = some y := by
  rw [G_0]
  refine gb_t (ih _ _ _ _ _ _ _ _ _ _ (by decide) (by omega) (by omega) (by first | omega | (simp only [bNode_1, bNode_p, bSet_1, bSet_p, bOver_1, bOver_p, bWrap_1, bWrap_p, bKeep_1, bKeep_p, bSlot_1, bSlot_p]; omega)) (trivial) (by simp only [lvG] at hf ⊢; omega)) (fun s1 g1 => ?_)
  have x1 := g_mono T n f _ _ _ _ _ _ _ _ _ _ s1 (by omega) (by omega) g1 _ (Nat.le_refl _) (by first | omega | (simp only [bNode_1, bNode_p, bSet_1, bSet_p, bOver_1, bOver_p, bWrap_1, bWrap_p, bKeep_1, bKeep_p, bSlot_1, bSlot_p]; omega)) trivial
  obtain ⟨a1, b1, c1, d1, e1, f1, h1, i1⟩ := (x1.1 : Mo n _ _ _ s1)
  have j1 : _ ≤ s1.2.2.2.1 ∧ s1.2.2.2.1 < s1.2.2.2.2.1.1 := x1.2
  try simp only [bNode_1, bNode_p, bSet_1, bSet_p, bOver_1, bOver_p, bWrap_1, bWrap_p, bKeep_1, bKeep_p, bSlot_1, bSlot_p] at a1 b1 c1 d1 e1 f1 h1 i1 j1
  try dsimp only
  exact ih _ _ _ _ _ _ _ _ _ _ (by decide) (by omega) (by omega) (by first | omega | (simp only [bNode_1, bNode_p, bSet_1, bSet_p, bOver_1, bOver_p, bWrap_1, bWrap_p, bKeep_1, bKeep_p, bSlot_1, bSlot_p]; omega)) ((⟨by omega, by first | omega | (simp only [bNode_1, bNode_p, bSet_1, bSet_p, bOver_1, bOver_p, bWrap_1, bWrap_p, bKeep_1, bKeep_p, bSlot_1, bSlot_p]; omega)⟩ : 1 ≤ _ ∧ _ < _)) (by simp only [lvG] at hf ⊢; omega)
theorem gt_1 {T : Nat → Int32} {n f : Nat} (ih : GT T n f) {E : En} {o q v i e c g : Nat} {b : BT} (hq : q ≤ n) (hv : v ≤ 60) (hb : 1 ≤ b.1) (hN : Nd0 1 1 b i e c) (hf : 30 * (n - q) + lvG 1 + 1 ≤ f + 1) : ∃ y, G T n (f + 1) 1 E o q v i e c g b = some y := by
  rw [G_1]
  have hN : 1 ≤ e ∧ e < b.1 := hN
  by_cases y1 : tkK T n q = 65
  · rw [if_pos y1]
    have u2 := tkN_b T n q (by omega)
    have v2 := u2.2.2.2 (by first | omega | (rcases y1 with z | z | z | z <;> omega) | (rcases y2 with z | z | z | z <;> omega))
    refine gT_t ?_
    try dsimp only
    refine gb_t (ih _ _ _ _ _ _ _ _ _ _ (by decide) (by omega) (by omega) (by first | omega | (simp only [bNode_1, bNode_p, bSet_1, bSet_p, bOver_1, bOver_p, bWrap_1, bWrap_p, bKeep_1, bKeep_p, bSlot_1, bSlot_p]; omega)) (trivial) (by simp only [lvG] at hf ⊢; omega)) (fun s3 g3 => ?_)
    have x3 := g_mono T n f _ _ _ _ _ _ _ _ _ _ s3 (by omega) (by omega) g3 _ (Nat.le_refl _) (by first | omega | (simp only [bNode_1, bNode_p, bSet_1, bSet_p, bOver_1, bOver_p, bWrap_1, bWrap_p, bKeep_1, bKeep_p, bSlot_1, bSlot_p]; omega)) trivial
    obtain ⟨a3, b3, c3, d3, e3, f3, h3, i3⟩ := (x3.1 : Mo n _ _ _ s3)
    have j3 : _ ≤ s3.2.2.2.1 ∧ s3.2.2.2.1 < s3.2.2.2.2.1.1 := x3.2
    try simp only [bNode_1, bNode_p, bSet_1, bSet_p, bOver_1, bOver_p, bWrap_1, bWrap_p, bKeep_1, bKeep_p, bSlot_1, bSlot_p] at a3 b3 c3 d3 e3 f3 h3 i3 j3
    try dsimp only
    exact ih _ _ _ _ _ _ _ _ _ _ (by decide) (by omega) (by omega) (by first | omega | (simp only [bNode_1, bNode_p, bSet_1, bSet_p, bOver_1, bOver_p, bWrap_1, bWrap_p, bKeep_1, bKeep_p, bSlot_1, bSlot_p]; omega)) ((⟨by omega, by first | omega | (simp only [bNode_1, bNode_p, bSet_1, bSet_p, bOver_1, bOver_p, bWrap_1, bWrap_p, bKeep_1, bKeep_p, bSlot_1, bSlot_p]; omega)⟩ : 1 ≤ _ ∧ _ < _)) (by simp only [lvG] at hf ⊢; omega)
  · rw [if_neg y1]
    exact ⟨_, rfl⟩
theorem gt_2 {T : Nat → Int32} {n f : Nat} (ih : GT T n f) {E : En} {o q v i e c g : Nat} {b : BT} (hq : q ≤ n) (hv : v ≤ 60) (hb : 1 ≤ b.1) (hN : Nd0 2 1 b i e c) (hf : 30 * (n - q) + lvG 2 + 1 ≤ f + 1) : ∃ y, G T n (f + 1) 2 E o q v i e c g b = some y := by
  rw [G_2]
  refine gb_t (ih _ _ _ _ _ _ _ _ _ _ (by decide) (by omega) (by omega) (by first | omega | (simp only [bNode_1, bNode_p, bSet_1, bSet_p, bOver_1, bOver_p, bWrap_1, bWrap_p, bKeep_1, bKeep_p, bSlot_1, bSlot_p]; omega)) (trivial) (by simp only [lvG] at hf ⊢; omega)) (fun s1 g1 => ?_)
  have x1 := g_mono T n f _ _ _ _ _ _ _ _ _ _ s1 (by omega) (by omega) g1 _ (Nat.le_refl _) (by first | omega | (simp only [bNode_1, bNode_p, bSet_1, bSet_p, bOver_1, bOver_p, bWrap_1, bWrap_p, bKeep_1, bKeep_p, bSlot_1, bSlot_p]; omega)) trivial
  obtain ⟨a1, b1, c1, d1, e1, f1, h1, i1⟩ := (x1.1 : Mo n _ _ _ s1)
  have j1 : _ ≤ s1.2.2.2.1 ∧ s1.2.2.2.1 < s1.2.2.2.2.1.1 := x1.2
  try simp only [bNode_1, bNode_p, bSet_1, bSet_p, bOver_1, bOver_p, bWrap_1, bWrap_p, bKeep_1, bKeep_p, bSlot_1, bSlot_p] at a1 b1 c1 d1 e1 f1 h1 i1 j1
  try dsimp only
  exact ih _ _ _ _ _ _ _ _ _ _ (by decide) (by omega) (by omega) (by first | omega | (simp only [bNode_1, bNode_p, bSet_1, bSet_p, bOver_1, bOver_p, bWrap_1, bWrap_p, bKeep_1, bKeep_p, bSlot_1, bSlot_p]; omega)) ((⟨by omega, by first | omega | (simp only [bNode_1, bNode_p, bSet_1, bSet_p, bOver_1, bOver_p, bWrap_1, bWrap_p, bKeep_1, bKeep_p, bSlot_1, bSlot_p]; omega)⟩ : 1 ≤ _ ∧ _ < _)) (by simp only [lvG] at hf ⊢; omega)
theorem gt_3 {T : Nat → Int32} {n f : Nat} (ih : GT T n f) {E : En} {o q v i e c g : Nat} {b : BT} (hq : q ≤ n) (hv : v ≤ 60) (hb : 1 ≤ b.1) (hN : Nd0 3 1 b i e c) (hf : 30 * (n - q) + lvG 3 + 1 ≤ f + 1) : ∃ y, G T n (f + 1) 3 E o q v i e c g b = some y := by
  rw [G_3]
  have hN : 1 ≤ e ∧ e < b.1 := hN
  by_cases y1 : tkK T n q = 64
  · rw [if_pos y1]
    have u2 := tkN_b T n q (by omega)
    have v2 := u2.2.2.2 (by first | omega | (rcases y1 with z | z | z | z <;> omega) | (rcases y2 with z | z | z | z <;> omega))
    refine gT_t ?_
    try dsimp only
    refine gb_t (ih _ _ _ _ _ _ _ _ _ _ (by decide) (by omega) (by omega) (by first | omega | (simp only [bNode_1, bNode_p, bSet_1, bSet_p, bOver_1, bOver_p, bWrap_1, bWrap_p, bKeep_1, bKeep_p, bSlot_1, bSlot_p]; omega)) (trivial) (by simp only [lvG] at hf ⊢; omega)) (fun s3 g3 => ?_)
    have x3 := g_mono T n f _ _ _ _ _ _ _ _ _ _ s3 (by omega) (by omega) g3 _ (Nat.le_refl _) (by first | omega | (simp only [bNode_1, bNode_p, bSet_1, bSet_p, bOver_1, bOver_p, bWrap_1, bWrap_p, bKeep_1, bKeep_p, bSlot_1, bSlot_p]; omega)) trivial
    obtain ⟨a3, b3, c3, d3, e3, f3, h3, i3⟩ := (x3.1 : Mo n _ _ _ s3)
    have j3 : _ ≤ s3.2.2.2.1 ∧ s3.2.2.2.1 < s3.2.2.2.2.1.1 := x3.2
    try simp only [bNode_1, bNode_p, bSet_1, bSet_p, bOver_1, bOver_p, bWrap_1, bWrap_p, bKeep_1, bKeep_p, bSlot_1, bSlot_p] at a3 b3 c3 d3 e3 f3 h3 i3 j3
    try dsimp only
    exact ih _ _ _ _ _ _ _ _ _ _ (by decide) (by omega) (by omega) (by first | omega | (simp only [bNode_1, bNode_p, bSet_1, bSet_p, bOver_1, bOver_p, bWrap_1, bWrap_p, bKeep_1, bKeep_p, bSlot_1, bSlot_p]; omega)) ((⟨by omega, by first | omega | (simp only [bNode_1, bNode_p, bSet_1, bSet_p, bOver_1, bOver_p, bWrap_1, bWrap_p, bKeep_1, bKeep_p, bSlot_1, bSlot_p]; omega)⟩ : 1 ≤ _ ∧ _ < _)) (by simp only [lvG] at hf ⊢; omega)
  · rw [if_neg y1]
    exact ⟨_, rfl⟩
theorem gt_4 {T : Nat → Int32} {n f : Nat} (ih : GT T n f) {E : En} {o q v i e c g : Nat} {b : BT} (hq : q ≤ n) (hv : v ≤ 60) (hb : 1 ≤ b.1) (hN : Nd0 4 1 b i e c) (hf : 30 * (n - q) + lvG 4 + 1 ≤ f + 1) : ∃ y, G T n (f + 1) 4 E o q v i e c g b = some y := by
  rw [G_4]
  by_cases y1 : tkK T n q = 66
  · rw [if_pos y1]
    refine gO_t ?_
    have u2 := tkN_b T n q (by omega)
    have v2 := u2.2.2.2 (by first | omega | (rcases y1 with z | z | z | z <;> omega) | (rcases y2 with z | z | z | z <;> omega))
    refine gT_t ?_
    try dsimp only
    refine gb_t (ih _ _ _ _ _ _ _ _ _ _ (by decide) (by omega) (by omega) (by first | omega | (simp only [bNode_1, bNode_p, bSet_1, bSet_p, bOver_1, bOver_p, bWrap_1, bWrap_p, bKeep_1, bKeep_p, bSlot_1, bSlot_p]; omega)) (trivial) (by simp only [lvG] at hf ⊢; omega)) (fun s3 g3 => ?_)
    have x3 := g_mono T n f _ _ _ _ _ _ _ _ _ _ s3 (by omega) (by omega) g3 _ (Nat.le_refl _) (by first | omega | (simp only [bNode_1, bNode_p, bSet_1, bSet_p, bOver_1, bOver_p, bWrap_1, bWrap_p, bKeep_1, bKeep_p, bSlot_1, bSlot_p]; omega)) trivial
    obtain ⟨a3, b3, c3, d3, e3, f3, h3, i3⟩ := (x3.1 : Mo n _ _ _ s3)
    have j3 : _ ≤ s3.2.2.2.1 ∧ s3.2.2.2.1 < s3.2.2.2.2.1.1 := x3.2
    try simp only [bNode_1, bNode_p, bSet_1, bSet_p, bOver_1, bOver_p, bWrap_1, bWrap_p, bKeep_1, bKeep_p, bSlot_1, bSlot_p] at a3 b3 c3 d3 e3 f3 h3 i3 j3
    try dsimp only
    exact ⟨_, rfl⟩
  · rw [if_neg y1]
    exact ih _ _ _ _ _ _ _ _ _ _ (by decide) (by omega) (by omega) (by first | omega | (simp only [bNode_1, bNode_p, bSet_1, bSet_p, bOver_1, bOver_p, bWrap_1, bWrap_p, bKeep_1, bKeep_p, bSlot_1, bSlot_p]; omega)) (trivial) (by simp only [lvG] at hf ⊢; omega)
theorem gt_5 {T : Nat → Int32} {n f : Nat} (ih : GT T n f) {E : En} {o q v i e c g : Nat} {b : BT} (hq : q ≤ n) (hv : v ≤ 60) (hb : 1 ≤ b.1) (hN : Nd0 5 1 b i e c) (hf : 30 * (n - q) + lvG 5 + 1 ≤ f + 1) : ∃ y, G T n (f + 1) 5 E o q v i e c g b = some y := by
  rw [G_5]
  refine gb_t (ih _ _ _ _ _ _ _ _ _ _ (by decide) (by omega) (by omega) (by first | omega | (simp only [bNode_1, bNode_p, bSet_1, bSet_p, bOver_1, bOver_p, bWrap_1, bWrap_p, bKeep_1, bKeep_p, bSlot_1, bSlot_p]; omega)) (trivial) (by simp only [lvG] at hf ⊢; omega)) (fun s1 g1 => ?_)
  have x1 := g_mono T n f _ _ _ _ _ _ _ _ _ _ s1 (by omega) (by omega) g1 _ (Nat.le_refl _) (by first | omega | (simp only [bNode_1, bNode_p, bSet_1, bSet_p, bOver_1, bOver_p, bWrap_1, bWrap_p, bKeep_1, bKeep_p, bSlot_1, bSlot_p]; omega)) trivial
  obtain ⟨a1, b1, c1, d1, e1, f1, h1, i1⟩ := (x1.1 : Mo n _ _ _ s1)
  have j1 : _ ≤ s1.2.2.2.1 ∧ s1.2.2.2.1 < s1.2.2.2.2.1.1 := x1.2
  try simp only [bNode_1, bNode_p, bSet_1, bSet_p, bOver_1, bOver_p, bWrap_1, bWrap_p, bKeep_1, bKeep_p, bSlot_1, bSlot_p] at a1 b1 c1 d1 e1 f1 h1 i1 j1
  try dsimp only
  by_cases y2 : isRl (tkK T n s1.1)
  · rw [if_pos y2]
    have u3 := tkN_b T n s1.1 (by omega)
    have v3 := u3.2.2.2 (by first | omega | (rcases y1 with z | z | z | z <;> omega) | (rcases y2 with z | z | z | z <;> omega))
    refine gT_t ?_
    try dsimp only
    refine gb_t (ih _ _ _ _ _ _ _ _ _ _ (by decide) (by omega) (by omega) (by first | omega | (simp only [bNode_1, bNode_p, bSet_1, bSet_p, bOver_1, bOver_p, bWrap_1, bWrap_p, bKeep_1, bKeep_p, bSlot_1, bSlot_p]; omega)) (trivial) (by simp only [lvG] at hf ⊢; omega)) (fun s4 g4 => ?_)
    have x4 := g_mono T n f _ _ _ _ _ _ _ _ _ _ s4 (by omega) (by omega) g4 _ (Nat.le_refl _) (by first | omega | (simp only [bNode_1, bNode_p, bSet_1, bSet_p, bOver_1, bOver_p, bWrap_1, bWrap_p, bKeep_1, bKeep_p, bSlot_1, bSlot_p]; omega)) trivial
    obtain ⟨a4, b4, c4, d4, e4, f4, h4, i4⟩ := (x4.1 : Mo n _ _ _ s4)
    have j4 : _ ≤ s4.2.2.2.1 ∧ s4.2.2.2.1 < s4.2.2.2.2.1.1 := x4.2
    try simp only [bNode_1, bNode_p, bSet_1, bSet_p, bOver_1, bOver_p, bWrap_1, bWrap_p, bKeep_1, bKeep_p, bSlot_1, bSlot_p] at a4 b4 c4 d4 e4 f4 h4 i4 j4
    try dsimp only
    exact ⟨_, rfl⟩
  · rw [if_neg y2]
    exact ⟨_, rfl⟩
theorem gt_6 {T : Nat → Int32} {n f : Nat} (ih : GT T n f) {E : En} {o q v i e c g : Nat} {b : BT} (hq : q ≤ n) (hv : v ≤ 60) (hb : 1 ≤ b.1) (hN : Nd0 6 1 b i e c) (hf : 30 * (n - q) + lvG 6 + 1 ≤ f + 1) : ∃ y, G T n (f + 1) 6 E o q v i e c g b = some y := by
  rw [G_6]
  refine gb_t (ih _ _ _ _ _ _ _ _ _ _ (by decide) (by omega) (by omega) (by first | omega | (simp only [bNode_1, bNode_p, bSet_1, bSet_p, bOver_1, bOver_p, bWrap_1, bWrap_p, bKeep_1, bKeep_p, bSlot_1, bSlot_p]; omega)) (trivial) (by simp only [lvG] at hf ⊢; omega)) (fun s1 g1 => ?_)
  have x1 := g_mono T n f _ _ _ _ _ _ _ _ _ _ s1 (by omega) (by omega) g1 _ (Nat.le_refl _) (by first | omega | (simp only [bNode_1, bNode_p, bSet_1, bSet_p, bOver_1, bOver_p, bWrap_1, bWrap_p, bKeep_1, bKeep_p, bSlot_1, bSlot_p]; omega)) trivial
  obtain ⟨a1, b1, c1, d1, e1, f1, h1, i1⟩ := (x1.1 : Mo n _ _ _ s1)
  have j1 : _ ≤ s1.2.2.2.1 ∧ s1.2.2.2.1 < s1.2.2.2.2.1.1 := x1.2
  try simp only [bNode_1, bNode_p, bSet_1, bSet_p, bOver_1, bOver_p, bWrap_1, bWrap_p, bKeep_1, bKeep_p, bSlot_1, bSlot_p] at a1 b1 c1 d1 e1 f1 h1 i1 j1
  try dsimp only
  exact ih _ _ _ _ _ _ _ _ _ _ (by decide) (by omega) (by omega) (by first | omega | (simp only [bNode_1, bNode_p, bSet_1, bSet_p, bOver_1, bOver_p, bWrap_1, bWrap_p, bKeep_1, bKeep_p, bSlot_1, bSlot_p]; omega)) ((⟨by omega, by first | omega | (simp only [bNode_1, bNode_p, bSet_1, bSet_p, bOver_1, bOver_p, bWrap_1, bWrap_p, bKeep_1, bKeep_p, bSlot_1, bSlot_p]; omega)⟩ : 1 ≤ _ ∧ _ < _)) (by simp only [lvG] at hf ⊢; omega)
theorem gt_7 {T : Nat → Int32} {n f : Nat} (ih : GT T n f) {E : En} {o q v i e c g : Nat} {b : BT} (hq : q ≤ n) (hv : v ≤ 60) (hb : 1 ≤ b.1) (hN : Nd0 7 1 b i e c) (hf : 30 * (n - q) + lvG 7 + 1 ≤ f + 1) : ∃ y, G T n (f + 1) 7 E o q v i e c g b = some y := by
  rw [G_7]
  have hN : 1 ≤ e ∧ e < b.1 := hN
  by_cases y1 : tkK T n q = 2 ∨ tkK T n q = 3
  · rw [if_pos y1]
    have u2 := tkN_b T n q (by omega)
    have v2 := u2.2.2.2 (by first | omega | (rcases y1 with z | z | z | z <;> omega) | (rcases y2 with z | z | z | z <;> omega))
    refine gT_t ?_
    try dsimp only
    refine gb_t (ih _ _ _ _ _ _ _ _ _ _ (by decide) (by omega) (by omega) (by first | omega | (simp only [bNode_1, bNode_p, bSet_1, bSet_p, bOver_1, bOver_p, bWrap_1, bWrap_p, bKeep_1, bKeep_p, bSlot_1, bSlot_p]; omega)) (trivial) (by simp only [lvG] at hf ⊢; omega)) (fun s3 g3 => ?_)
    have x3 := g_mono T n f _ _ _ _ _ _ _ _ _ _ s3 (by omega) (by omega) g3 _ (Nat.le_refl _) (by first | omega | (simp only [bNode_1, bNode_p, bSet_1, bSet_p, bOver_1, bOver_p, bWrap_1, bWrap_p, bKeep_1, bKeep_p, bSlot_1, bSlot_p]; omega)) trivial
    obtain ⟨a3, b3, c3, d3, e3, f3, h3, i3⟩ := (x3.1 : Mo n _ _ _ s3)
    have j3 : _ ≤ s3.2.2.2.1 ∧ s3.2.2.2.1 < s3.2.2.2.2.1.1 := x3.2
    try simp only [bNode_1, bNode_p, bSet_1, bSet_p, bOver_1, bOver_p, bWrap_1, bWrap_p, bKeep_1, bKeep_p, bSlot_1, bSlot_p] at a3 b3 c3 d3 e3 f3 h3 i3 j3
    try dsimp only
    exact ih _ _ _ _ _ _ _ _ _ _ (by decide) (by omega) (by omega) (by first | omega | (simp only [bNode_1, bNode_p, bSet_1, bSet_p, bOver_1, bOver_p, bWrap_1, bWrap_p, bKeep_1, bKeep_p, bSlot_1, bSlot_p]; omega)) ((⟨by omega, by first | omega | (simp only [bNode_1, bNode_p, bSet_1, bSet_p, bOver_1, bOver_p, bWrap_1, bWrap_p, bKeep_1, bKeep_p, bSlot_1, bSlot_p]; omega)⟩ : 1 ≤ _ ∧ _ < _)) (by simp only [lvG] at hf ⊢; omega)
  · rw [if_neg y1]
    exact ⟨_, rfl⟩
theorem gt_8 {T : Nat → Int32} {n f : Nat} (ih : GT T n f) {E : En} {o q v i e c g : Nat} {b : BT} (hq : q ≤ n) (hv : v ≤ 60) (hb : 1 ≤ b.1) (hN : Nd0 8 1 b i e c) (hf : 30 * (n - q) + lvG 8 + 1 ≤ f + 1) : ∃ y, G T n (f + 1) 8 E o q v i e c g b = some y := by
  rw [G_8]
  refine gb_t (ih _ _ _ _ _ _ _ _ _ _ (by decide) (by omega) (by omega) (by first | omega | (simp only [bNode_1, bNode_p, bSet_1, bSet_p, bOver_1, bOver_p, bWrap_1, bWrap_p, bKeep_1, bKeep_p, bSlot_1, bSlot_p]; omega)) (trivial) (by simp only [lvG] at hf ⊢; omega)) (fun s1 g1 => ?_)
  have x1 := g_mono T n f _ _ _ _ _ _ _ _ _ _ s1 (by omega) (by omega) g1 _ (Nat.le_refl _) (by first | omega | (simp only [bNode_1, bNode_p, bSet_1, bSet_p, bOver_1, bOver_p, bWrap_1, bWrap_p, bKeep_1, bKeep_p, bSlot_1, bSlot_p]; omega)) trivial
  obtain ⟨a1, b1, c1, d1, e1, f1, h1, i1⟩ := (x1.1 : Mo n _ _ _ s1)
  have j1 : _ ≤ s1.2.2.2.1 ∧ s1.2.2.2.1 < s1.2.2.2.2.1.1 := x1.2
  try simp only [bNode_1, bNode_p, bSet_1, bSet_p, bOver_1, bOver_p, bWrap_1, bWrap_p, bKeep_1, bKeep_p, bSlot_1, bSlot_p] at a1 b1 c1 d1 e1 f1 h1 i1 j1
  try dsimp only
  exact ih _ _ _ _ _ _ _ _ _ _ (by decide) (by omega) (by omega) (by first | omega | (simp only [bNode_1, bNode_p, bSet_1, bSet_p, bOver_1, bOver_p, bWrap_1, bWrap_p, bKeep_1, bKeep_p, bSlot_1, bSlot_p]; omega)) ((⟨by omega, by first | omega | (simp only [bNode_1, bNode_p, bSet_1, bSet_p, bOver_1, bOver_p, bWrap_1, bWrap_p, bKeep_1, bKeep_p, bSlot_1, bSlot_p]; omega)⟩ : 1 ≤ _ ∧ _ < _)) (by simp only [lvG] at hf ⊢; omega)
theorem gt_9 {T : Nat → Int32} {n f : Nat} (ih : GT T n f) {E : En} {o q v i e c g : Nat} {b : BT} (hq : q ≤ n) (hv : v ≤ 60) (hb : 1 ≤ b.1) (hN : Nd0 9 1 b i e c) (hf : 30 * (n - q) + lvG 9 + 1 ≤ f + 1) : ∃ y, G T n (f + 1) 9 E o q v i e c g b = some y := by
  rw [G_9]
  have hN : 1 ≤ e ∧ e < b.1 := hN
  by_cases y1 : tkK T n q = 4 ∨ tkK T n q = 67 ∨ tkK T n q = 68
  · rw [if_pos y1]
    have u2 := tkN_b T n q (by omega)
    have v2 := u2.2.2.2 (by first | omega | (rcases y1 with z | z | z | z <;> omega) | (rcases y2 with z | z | z | z <;> omega))
    refine gT_t ?_
    try dsimp only
    refine gb_t (ih _ _ _ _ _ _ _ _ _ _ (by decide) (by omega) (by omega) (by first | omega | (simp only [bNode_1, bNode_p, bSet_1, bSet_p, bOver_1, bOver_p, bWrap_1, bWrap_p, bKeep_1, bKeep_p, bSlot_1, bSlot_p]; omega)) (trivial) (by simp only [lvG] at hf ⊢; omega)) (fun s3 g3 => ?_)
    have x3 := g_mono T n f _ _ _ _ _ _ _ _ _ _ s3 (by omega) (by omega) g3 _ (Nat.le_refl _) (by first | omega | (simp only [bNode_1, bNode_p, bSet_1, bSet_p, bOver_1, bOver_p, bWrap_1, bWrap_p, bKeep_1, bKeep_p, bSlot_1, bSlot_p]; omega)) trivial
    obtain ⟨a3, b3, c3, d3, e3, f3, h3, i3⟩ := (x3.1 : Mo n _ _ _ s3)
    have j3 : _ ≤ s3.2.2.2.1 ∧ s3.2.2.2.1 < s3.2.2.2.2.1.1 := x3.2
    try simp only [bNode_1, bNode_p, bSet_1, bSet_p, bOver_1, bOver_p, bWrap_1, bWrap_p, bKeep_1, bKeep_p, bSlot_1, bSlot_p] at a3 b3 c3 d3 e3 f3 h3 i3 j3
    try dsimp only
    exact ih _ _ _ _ _ _ _ _ _ _ (by decide) (by omega) (by omega) (by first | omega | (simp only [bNode_1, bNode_p, bSet_1, bSet_p, bOver_1, bOver_p, bWrap_1, bWrap_p, bKeep_1, bKeep_p, bSlot_1, bSlot_p]; omega)) ((⟨by omega, by first | omega | (simp only [bNode_1, bNode_p, bSet_1, bSet_p, bOver_1, bOver_p, bWrap_1, bWrap_p, bKeep_1, bKeep_p, bSlot_1, bSlot_p]; omega)⟩ : 1 ≤ _ ∧ _ < _)) (by simp only [lvG] at hf ⊢; omega)
  · rw [if_neg y1]
    exact ⟨_, rfl⟩
theorem gt_10 {T : Nat → Int32} {n f : Nat} (ih : GT T n f) {E : En} {o q v i e c g : Nat} {b : BT} (hq : q ≤ n) (hv : v ≤ 60) (hb : 1 ≤ b.1) (hN : Nd0 10 1 b i e c) (hf : 30 * (n - q) + lvG 10 + 1 ≤ f + 1) : ∃ y, G T n (f + 1) 10 E o q v i e c g b = some y := by
  rw [G_10]
  refine gb_t (ih _ _ _ _ _ _ _ _ _ _ (by decide) (by omega) (by omega) (by first | omega | (simp only [bNode_1, bNode_p, bSet_1, bSet_p, bOver_1, bOver_p, bWrap_1, bWrap_p, bKeep_1, bKeep_p, bSlot_1, bSlot_p]; omega)) (trivial) (by simp only [lvG] at hf ⊢; omega)) (fun s1 g1 => ?_)
  have x1 := g_mono T n f _ _ _ _ _ _ _ _ _ _ s1 (by omega) (by omega) g1 _ (Nat.le_refl _) (by first | omega | (simp only [bNode_1, bNode_p, bSet_1, bSet_p, bOver_1, bOver_p, bWrap_1, bWrap_p, bKeep_1, bKeep_p, bSlot_1, bSlot_p]; omega)) trivial
  obtain ⟨a1, b1, c1, d1, e1, f1, h1, i1⟩ := (x1.1 : Mo n _ _ _ s1)
  have j1 : _ ≤ s1.2.2.2.1 ∧ s1.2.2.2.1 < s1.2.2.2.2.1.1 := x1.2
  try simp only [bNode_1, bNode_p, bSet_1, bSet_p, bOver_1, bOver_p, bWrap_1, bWrap_p, bKeep_1, bKeep_p, bSlot_1, bSlot_p] at a1 b1 c1 d1 e1 f1 h1 i1 j1
  try dsimp only
  by_cases y2 : tkK T n s1.1 = 5
  · rw [if_pos y2]
    refine gO_t ?_
    have u3 := tkN_b T n s1.1 (by omega)
    have v3 := u3.2.2.2 (by first | omega | (rcases y1 with z | z | z | z <;> omega) | (rcases y2 with z | z | z | z <;> omega))
    refine gT_t ?_
    try dsimp only
    refine gb_t (ih _ _ _ _ _ _ _ _ _ _ (by decide) (by omega) (by omega) (by first | omega | (simp only [bNode_1, bNode_p, bSet_1, bSet_p, bOver_1, bOver_p, bWrap_1, bWrap_p, bKeep_1, bKeep_p, bSlot_1, bSlot_p]; omega)) (trivial) (by simp only [lvG] at hf ⊢; omega)) (fun s4 g4 => ?_)
    have x4 := g_mono T n f _ _ _ _ _ _ _ _ _ _ s4 (by omega) (by omega) g4 _ (Nat.le_refl _) (by first | omega | (simp only [bNode_1, bNode_p, bSet_1, bSet_p, bOver_1, bOver_p, bWrap_1, bWrap_p, bKeep_1, bKeep_p, bSlot_1, bSlot_p]; omega)) trivial
    obtain ⟨a4, b4, c4, d4, e4, f4, h4, i4⟩ := (x4.1 : Mo n _ _ _ s4)
    have j4 : _ ≤ s4.2.2.2.1 ∧ s4.2.2.2.1 < s4.2.2.2.2.1.1 := x4.2
    try simp only [bNode_1, bNode_p, bSet_1, bSet_p, bOver_1, bOver_p, bWrap_1, bWrap_p, bKeep_1, bKeep_p, bSlot_1, bSlot_p] at a4 b4 c4 d4 e4 f4 h4 i4 j4
    try dsimp only
    exact ⟨_, rfl⟩
  · rw [if_neg y2]
    exact ⟨_, rfl⟩
theorem gt_11 {T : Nat → Int32} {n f : Nat} (ih : GT T n f) {E : En} {o q v i e c g : Nat} {b : BT} (hq : q ≤ n) (hv : v ≤ 60) (hb : 1 ≤ b.1) (hN : Nd0 11 1 b i e c) (hf : 30 * (n - q) + lvG 11 + 1 ≤ f + 1) : ∃ y, G T n (f + 1) 11 E o q v i e c g b = some y := by
  rw [G_11]
  by_cases y1 : tkK T n q = 3 ∨ tkK T n q = 23
  · rw [if_pos y1]
    refine gO_t ?_
    have u2 := tkN_b T n q (by omega)
    have v2 := u2.2.2.2 (by first | omega | (rcases y1 with z | z | z | z <;> omega) | (rcases y2 with z | z | z | z <;> omega))
    refine gT_t ?_
    try dsimp only
    refine gb_t (ih _ _ _ _ _ _ _ _ _ _ (by decide) (by omega) (by omega) (by first | omega | (simp only [bNode_1, bNode_p, bSet_1, bSet_p, bOver_1, bOver_p, bWrap_1, bWrap_p, bKeep_1, bKeep_p, bSlot_1, bSlot_p]; omega)) (trivial) (by simp only [lvG] at hf ⊢; omega)) (fun s3 g3 => ?_)
    have x3 := g_mono T n f _ _ _ _ _ _ _ _ _ _ s3 (by omega) (by omega) g3 _ (Nat.le_refl _) (by first | omega | (simp only [bNode_1, bNode_p, bSet_1, bSet_p, bOver_1, bOver_p, bWrap_1, bWrap_p, bKeep_1, bKeep_p, bSlot_1, bSlot_p]; omega)) trivial
    obtain ⟨a3, b3, c3, d3, e3, f3, h3, i3⟩ := (x3.1 : Mo n _ _ _ s3)
    have j3 : _ ≤ s3.2.2.2.1 ∧ s3.2.2.2.1 < s3.2.2.2.2.1.1 := x3.2
    try simp only [bNode_1, bNode_p, bSet_1, bSet_p, bOver_1, bOver_p, bWrap_1, bWrap_p, bKeep_1, bKeep_p, bSlot_1, bSlot_p] at a3 b3 c3 d3 e3 f3 h3 i3 j3
    try dsimp only
    exact ⟨_, rfl⟩
  · rw [if_neg y1]
    by_cases y4 : tkK T n q = 2 ∨ tkK T n q = 4 ∨ tkK T n q = 81 ∨ tkK T n q = 80
    · rw [if_pos y4]
      refine gO_t ?_
      have u5 := tkN_b T n q (by omega)
      have v5 := u5.2.2.2 (by first | omega | (rcases y1 with z | z | z | z <;> omega) | (rcases y2 with z | z | z | z <;> omega))
      refine gT_t ?_
      try dsimp only
      refine gW_t (fun w6 => ?_)
      try have u6 := tkN_b T n (tkN T n q) (by omega)
      try have v6 := u6.2.2.2 (by first | omega | (split at w6 <;> omega))
      try dsimp only
      refine gb_t (ih _ _ _ _ _ _ _ _ _ _ (by decide) (by omega) (by omega) (by first | omega | (simp only [bNode_1, bNode_p, bSet_1, bSet_p, bOver_1, bOver_p, bWrap_1, bWrap_p, bKeep_1, bKeep_p, bSlot_1, bSlot_p]; omega)) (trivial) (by simp only [lvG] at hf ⊢; omega)) (fun s7 g7 => ?_)
      have x7 := g_mono T n f _ _ _ _ _ _ _ _ _ _ s7 (by omega) (by omega) g7 _ (Nat.le_refl _) (by first | omega | (simp only [bNode_1, bNode_p, bSet_1, bSet_p, bOver_1, bOver_p, bWrap_1, bWrap_p, bKeep_1, bKeep_p, bSlot_1, bSlot_p]; omega)) trivial
      obtain ⟨a7, b7, c7, d7, e7, f7, h7, i7⟩ := (x7.1 : Mo n _ _ _ s7)
      have j7 : _ ≤ s7.2.2.2.1 ∧ s7.2.2.2.1 < s7.2.2.2.2.1.1 := x7.2
      try simp only [bNode_1, bNode_p, bSet_1, bSet_p, bOver_1, bOver_p, bWrap_1, bWrap_p, bKeep_1, bKeep_p, bSlot_1, bSlot_p] at a7 b7 c7 d7 e7 f7 h7 i7 j7
      try dsimp only
      exact ⟨_, rfl⟩
    · rw [if_neg y4]
      refine gb_t (ih _ _ _ _ _ _ _ _ _ _ (by decide) (by omega) (by omega) (by first | omega | (simp only [bNode_1, bNode_p, bSet_1, bSet_p, bOver_1, bOver_p, bWrap_1, bWrap_p, bKeep_1, bKeep_p, bSlot_1, bSlot_p]; omega)) (trivial) (by simp only [lvG] at hf ⊢; omega)) (fun s8 g8 => ?_)
      have x8 := g_mono T n f _ _ _ _ _ _ _ _ _ _ s8 (by omega) (by omega) g8 _ (Nat.le_refl _) (by first | omega | (simp only [bNode_1, bNode_p, bSet_1, bSet_p, bOver_1, bOver_p, bWrap_1, bWrap_p, bKeep_1, bKeep_p, bSlot_1, bSlot_p]; omega)) trivial
      obtain ⟨a8, b8, c8, d8, e8, f8, h8, i8⟩ := (x8.1 : Mo n _ _ _ s8)
      have j8 : _ ≤ s8.2.2.2.1 ∧ s8.2.2.2.1 < s8.2.2.2.2.1.1 := x8.2
      try simp only [bNode_1, bNode_p, bSet_1, bSet_p, bOver_1, bOver_p, bWrap_1, bWrap_p, bKeep_1, bKeep_p, bSlot_1, bSlot_p] at a8 b8 c8 d8 e8 f8 h8 i8 j8
      try dsimp only
      exact ih _ _ _ _ _ _ _ _ _ _ (by decide) (by omega) (by omega) (by first | omega | (simp only [bNode_1, bNode_p, bSet_1, bSet_p, bOver_1, bOver_p, bWrap_1, bWrap_p, bKeep_1, bKeep_p, bSlot_1, bSlot_p]; omega)) ((⟨by omega, by first | omega | (simp only [bNode_1, bNode_p, bSet_1, bSet_p, bOver_1, bOver_p, bWrap_1, bWrap_p, bKeep_1, bKeep_p, bSlot_1, bSlot_p]; omega)⟩ : 1 ≤ _ ∧ _ < _)) (by simp only [lvG] at hf ⊢; omega)
theorem gt_12 {T : Nat → Int32} {n f : Nat} (ih : GT T n f) {E : En} {o q v i e c g : Nat} {b : BT} (hq : q ≤ n) (hv : v ≤ 60) (hb : 1 ≤ b.1) (hN : Nd0 12 1 b i e c) (hf : 30 * (n - q) + lvG 12 + 1 ≤ f + 1) : ∃ y, G T n (f + 1) 12 E o q v i e c g b = some y := by
  rw [G_12]
  have hN : 1 ≤ e ∧ e < b.1 := hN
  by_cases y1 : tkK T n q = 6 ∨ tkK T n q = 8
  · rw [if_pos y1]
    refine gO_t ?_
    have u2 := tkN_b T n q (by omega)
    have v2 := u2.2.2.2 (by first | omega | (rcases y1 with z | z | z | z <;> omega) | (rcases y2 with z | z | z | z <;> omega))
    refine gT_t ?_
    try dsimp only
    refine gb_t (ih _ _ _ _ _ _ _ _ _ _ (by decide) (by omega) (by omega) (by first | omega | (simp only [bNode_1, bNode_p, bSet_1, bSet_p, bOver_1, bOver_p, bWrap_1, bWrap_p, bKeep_1, bKeep_p, bSlot_1, bSlot_p]; omega)) (trivial) (by simp only [lvG] at hf ⊢; omega)) (fun s3 g3 => ?_)
    have x3 := g_mono T n f _ _ _ _ _ _ _ _ _ _ s3 (by omega) (by omega) g3 _ (Nat.le_refl _) (by first | omega | (simp only [bNode_1, bNode_p, bSet_1, bSet_p, bOver_1, bOver_p, bWrap_1, bWrap_p, bKeep_1, bKeep_p, bSlot_1, bSlot_p]; omega)) trivial
    obtain ⟨a3, b3, c3, d3, e3, f3, h3, i3⟩ := (x3.1 : Mo n _ _ _ s3)
    have j3 : _ ≤ s3.2.2.2.1 ∧ s3.2.2.2.1 < s3.2.2.2.2.1.1 := x3.2
    try simp only [bNode_1, bNode_p, bSet_1, bSet_p, bOver_1, bOver_p, bWrap_1, bWrap_p, bKeep_1, bKeep_p, bSlot_1, bSlot_p] at a3 b3 c3 d3 e3 f3 h3 i3 j3
    try dsimp only
    by_cases y4 : tkK T n q = 6 ∧ tkK T n s3.1 = 16
    · rw [if_pos y4]
      have u5 := tkN_b T n s3.1 (by omega)
      have v5 := u5.2.2.2 (by first | omega | (rcases y1 with z | z | z | z <;> omega) | (rcases y2 with z | z | z | z <;> omega))
      refine gT_t ?_
      try dsimp only
      refine gb_t (ih _ _ _ _ _ _ _ _ _ _ (by decide) (by omega) (by omega) (by first | omega | (simp only [bNode_1, bNode_p, bSet_1, bSet_p, bOver_1, bOver_p, bWrap_1, bWrap_p, bKeep_1, bKeep_p, bSlot_1, bSlot_p]; omega)) (trivial) (by simp only [lvG] at hf ⊢; omega)) (fun s6 g6 => ?_)
      have x6 := g_mono T n f _ _ _ _ _ _ _ _ _ _ s6 (by omega) (by omega) g6 _ (Nat.le_refl _) (by first | omega | (simp only [bNode_1, bNode_p, bSet_1, bSet_p, bOver_1, bOver_p, bWrap_1, bWrap_p, bKeep_1, bKeep_p, bSlot_1, bSlot_p]; omega)) trivial
      obtain ⟨a6, b6, c6, d6, e6, f6, h6, i6⟩ := (x6.1 : Mo n _ _ _ s6)
      have j6 : _ ≤ s6.2.2.2.1 ∧ s6.2.2.2.1 < s6.2.2.2.2.1.1 := x6.2
      try simp only [bNode_1, bNode_p, bSet_1, bSet_p, bOver_1, bOver_p, bWrap_1, bWrap_p, bKeep_1, bKeep_p, bSlot_1, bSlot_p] at a6 b6 c6 d6 e6 f6 h6 i6 j6
      try dsimp only
      refine gW_t (fun w7 => ?_)
      try have u7 := tkN_b T n s6.1 (by omega)
      try have v7 := u7.2.2.2 (by first | omega | (split at w7 <;> omega))
      try dsimp only
      exact ih _ _ _ _ _ _ _ _ _ _ (by decide) (by omega) (by omega) (by first | omega | (simp only [bNode_1, bNode_p, bSet_1, bSet_p, bOver_1, bOver_p, bWrap_1, bWrap_p, bKeep_1, bKeep_p, bSlot_1, bSlot_p]; omega)) ((⟨by omega, by first | omega | (simp only [bNode_1, bNode_p, bSet_1, bSet_p, bOver_1, bOver_p, bWrap_1, bWrap_p, bKeep_1, bKeep_p, bSlot_1, bSlot_p]; omega)⟩ : 1 ≤ _ ∧ _ < _)) (by simp only [lvG] at hf ⊢; omega)
    · rw [if_neg y4]
      refine gW_t (fun w8 => ?_)
      try have u8 := tkN_b T n s3.1 (by omega)
      try have v8 := u8.2.2.2 (by first | omega | (split at w8 <;> omega))
      try dsimp only
      exact ih _ _ _ _ _ _ _ _ _ _ (by decide) (by omega) (by omega) (by first | omega | (simp only [bNode_1, bNode_p, bSet_1, bSet_p, bOver_1, bOver_p, bWrap_1, bWrap_p, bKeep_1, bKeep_p, bSlot_1, bSlot_p]; omega)) ((⟨by omega, by first | omega | (simp only [bNode_1, bNode_p, bSet_1, bSet_p, bOver_1, bOver_p, bWrap_1, bWrap_p, bKeep_1, bKeep_p, bSlot_1, bSlot_p]; omega)⟩ : 1 ≤ _ ∧ _ < _)) (by simp only [lvG] at hf ⊢; omega)
  · rw [if_neg y1]
    exact ⟨_, rfl⟩
theorem gt_13 {T : Nat → Int32} {n f : Nat} (ih : GT T n f) {E : En} {o q v i e c g : Nat} {b : BT} (hq : q ≤ n) (hv : v ≤ 60) (hb : 1 ≤ b.1) (hN : Nd0 13 1 b i e c) (hf : 30 * (n - q) + lvG 13 + 1 ≤ f + 1) : ∃ y, G T n (f + 1) 13 E o q v i e c g b = some y := by
  rw [G_13]
  by_cases y1 : tkK T n q = 27
  · rw [if_pos y1]
    have u2 := tkN_b T n q (by omega)
    have v2 := u2.2.2.2 (by first | omega | (rcases y1 with z | z | z | z <;> omega) | (rcases y2 with z | z | z | z <;> omega))
    refine gT_t ?_
    try dsimp only
    exact ⟨_, rfl⟩
  · rw [if_neg y1]
    by_cases y3 : tkK T n q = 28
    · rw [if_pos y3]
      have u4 := tkN_b T n q (by omega)
      have v4 := u4.2.2.2 (by first | omega | (rcases y1 with z | z | z | z <;> omega) | (rcases y2 with z | z | z | z <;> omega))
      refine gT_t ?_
      try dsimp only
      exact ⟨_, rfl⟩
    · rw [if_neg y3]
      by_cases y5 : tkK T n q = 26
      · rw [if_pos y5]
        have u6 := tkN_b T n q (by omega)
        have v6 := u6.2.2.2 (by first | omega | (rcases y1 with z | z | z | z <;> omega) | (rcases y2 with z | z | z | z <;> omega))
        refine gT_t ?_
        try dsimp only
        by_cases y7 : (fd E (tkS T n q)).1 = 1
        · rw [if_pos y7]
          exact ⟨_, rfl⟩
        · rw [if_neg y7]
          by_cases y8 : (fd E (tkS T n q)).1 = 2 ∧ tkK T n (tkN T n q) = 6
          · rw [if_pos y8]
            refine gO_t ?_
            have u9 := tkN_b T n (tkN T n q) (by omega)
            have v9 := u9.2.2.2 (by first | omega | (rcases y1 with z | z | z | z <;> omega) | (rcases y2 with z | z | z | z <;> omega))
            refine gT_t ?_
            try dsimp only
            refine gb_t (ih _ _ _ _ _ _ _ _ _ _ (by decide) (by omega) (by omega) (by first | omega | (simp only [bNode_1, bNode_p, bSet_1, bSet_p, bOver_1, bOver_p, bWrap_1, bWrap_p, bKeep_1, bKeep_p, bSlot_1, bSlot_p]; omega)) (Or.inl rfl) (by simp only [lvG] at hf ⊢; omega)) (fun s10 g10 => ?_)
            have x10 := g_mono T n f _ _ _ _ _ _ _ _ _ _ s10 (by omega) (by omega) g10 1 (by first | omega | (simp only [bNode_1, bNode_p, bSet_1, bSet_p, bOver_1, bOver_p, bWrap_1, bWrap_p, bKeep_1, bKeep_p, bSlot_1, bSlot_p]; omega)) (by decide) (Or.inl rfl)
            obtain ⟨a10, b10, c10, d10, e10, f10, h10, i10⟩ := (x10.1 : Mo n _ _ _ s10)
            try simp only [bNode_1, bNode_p, bSet_1, bSet_p, bOver_1, bOver_p, bWrap_1, bWrap_p, bKeep_1, bKeep_p, bSlot_1, bSlot_p] at a10 b10 c10 d10 e10 f10 h10 i10
            try dsimp only
            by_cases y11 : tkK T n s10.1 = 7 ∧ s10.2.2.1 = E.2.2.2.2.2.2 (fd E (tkS T n q)).2.1
            · rw [if_pos y11]
              have u12 := tkN_b T n s10.1 (by omega)
              have v12 := u12.2.2.2 (by first | omega | (rcases y1 with z | z | z | z <;> omega) | (rcases y2 with z | z | z | z <;> omega))
              refine gT_t ?_
              try dsimp only
              exact ⟨_, rfl⟩
            · rw [if_neg y11]
              exact ⟨none, rfl⟩
          · rw [if_neg y8]
            exact ⟨none, rfl⟩
      · rw [if_neg y5]
        by_cases y13 : tkK T n q = 6
        · rw [if_pos y13]
          refine gO_t ?_
          have u14 := tkN_b T n q (by omega)
          have v14 := u14.2.2.2 (by first | omega | (rcases y1 with z | z | z | z <;> omega) | (rcases y2 with z | z | z | z <;> omega))
          refine gT_t ?_
          try dsimp only
          refine gb_t (ih _ _ _ _ _ _ _ _ _ _ (by decide) (by omega) (by omega) (by first | omega | (simp only [bNode_1, bNode_p, bSet_1, bSet_p, bOver_1, bOver_p, bWrap_1, bWrap_p, bKeep_1, bKeep_p, bSlot_1, bSlot_p]; omega)) (trivial) (by simp only [lvG] at hf ⊢; omega)) (fun s15 g15 => ?_)
          have x15 := g_mono T n f _ _ _ _ _ _ _ _ _ _ s15 (by omega) (by omega) g15 _ (Nat.le_refl _) (by first | omega | (simp only [bNode_1, bNode_p, bSet_1, bSet_p, bOver_1, bOver_p, bWrap_1, bWrap_p, bKeep_1, bKeep_p, bSlot_1, bSlot_p]; omega)) trivial
          obtain ⟨a15, b15, c15, d15, e15, f15, h15, i15⟩ := (x15.1 : Mo n _ _ _ s15)
          have j15 : _ ≤ s15.2.2.2.1 ∧ s15.2.2.2.1 < s15.2.2.2.2.1.1 := x15.2
          try simp only [bNode_1, bNode_p, bSet_1, bSet_p, bOver_1, bOver_p, bWrap_1, bWrap_p, bKeep_1, bKeep_p, bSlot_1, bSlot_p] at a15 b15 c15 d15 e15 f15 h15 i15 j15
          try dsimp only
          refine gW_t (fun w16 => ?_)
          try have u16 := tkN_b T n s15.1 (by omega)
          try have v16 := u16.2.2.2 (by first | omega | (split at w16 <;> omega))
          try dsimp only
          exact ⟨_, rfl⟩
        · rw [if_neg y13]
          by_cases y17 : tkK T n q = 8 ∨ tkK T n q = 10
          · rw [if_pos y17]
            refine gO_t ?_
            have u18 := tkN_b T n q (by omega)
            have v18 := u18.2.2.2 (by first | omega | (rcases y1 with z | z | z | z <;> omega) | (rcases y2 with z | z | z | z <;> omega))
            refine gT_t ?_
            try dsimp only
            by_cases y19 : tkK T n (tkN T n q) = tkK T n q + 1
            · rw [if_pos y19]
              have u20 := tkN_b T n (tkN T n q) (by omega)
              have v20 := u20.2.2.2 (by first | omega | (rcases y1 with z | z | z | z <;> omega) | (rcases y2 with z | z | z | z <;> omega))
              refine gT_t ?_
              try dsimp only
              exact ⟨_, rfl⟩
            · rw [if_neg y19]
              by_cases y21 : tkK T n (tkN T n q) = 45
              · rw [if_pos y21]
                have u22 := tkN_b T n (tkN T n q) (by omega)
                have v22 := u22.2.2.2 (by first | omega | (rcases y1 with z | z | z | z <;> omega) | (rcases y2 with z | z | z | z <;> omega))
                refine gT_t ?_
                try dsimp only
                refine gb_t (ih _ _ _ _ _ _ _ _ _ _ (by decide) (by omega) (by omega) (by first | omega | (simp only [bNode_1, bNode_p, bSet_1, bSet_p, bOver_1, bOver_p, bWrap_1, bWrap_p, bKeep_1, bKeep_p, bSlot_1, bSlot_p]; omega)) (Or.inl rfl) (by simp only [lvG] at hf ⊢; omega)) (fun s23 g23 => ?_)
                have x23 := g_mono T n f _ _ _ _ _ _ _ _ _ _ s23 (by omega) (by omega) g23 1 (by first | omega | (simp only [bNode_1, bNode_p, bSet_1, bSet_p, bOver_1, bOver_p, bWrap_1, bWrap_p, bKeep_1, bKeep_p, bSlot_1, bSlot_p]; omega)) (by decide) (Or.inl rfl)
                obtain ⟨a23, b23, c23, d23, e23, f23, h23, i23⟩ := (x23.1 : Mo n _ _ _ s23)
                have j23 : _ ≤ s23.2.2.2.1 ∧ s23.2.2.2.1 < s23.2.2.2.2.1.1 := x23.2
                try simp only [bNode_1, bNode_p, bSet_1, bSet_p, bOver_1, bOver_p, bWrap_1, bWrap_p, bKeep_1, bKeep_p, bSlot_1, bSlot_p] at a23 b23 c23 d23 e23 f23 h23 i23 j23
                try dsimp only
                by_cases y24 : tkK T n s23.1 = 15
                · rw [if_pos y24]
                  have u25 := tkN_b T n s23.1 (by omega)
                  have v25 := u25.2.2.2 (by first | omega | (rcases y1 with z | z | z | z <;> omega) | (rcases y2 with z | z | z | z <;> omega))
                  refine gT_t ?_
                  try dsimp only
                  refine gb_t (ih _ _ _ _ _ _ _ _ _ _ (by decide) (by omega) (by omega) (by first | omega | (simp only [bNode_1, bNode_p, bSet_1, bSet_p, bOver_1, bOver_p, bWrap_1, bWrap_p, bKeep_1, bKeep_p, bSlot_1, bSlot_p]; omega)) (trivial) (by simp only [lvG] at hf ⊢; omega)) (fun s26 g26 => ?_)
                  have x26 := g_mono T n f _ _ _ _ _ _ _ _ _ _ s26 (by omega) (by omega) g26 _ (Nat.le_refl _) (by first | omega | (simp only [bNode_1, bNode_p, bSet_1, bSet_p, bOver_1, bOver_p, bWrap_1, bWrap_p, bKeep_1, bKeep_p, bSlot_1, bSlot_p]; omega)) trivial
                  obtain ⟨a26, b26, c26, d26, e26, f26, h26, i26⟩ := (x26.1 : Mo n _ _ _ s26)
                  have j26 : _ ≤ s26.2.2.2.1 ∧ s26.2.2.2.1 < s26.2.2.2.2.1.1 := x26.2
                  try simp only [bNode_1, bNode_p, bSet_1, bSet_p, bOver_1, bOver_p, bWrap_1, bWrap_p, bKeep_1, bKeep_p, bSlot_1, bSlot_p] at a26 b26 c26 d26 e26 f26 h26 i26 j26
                  try dsimp only
                  refine gW_t (fun w27 => ?_)
                  try have u27 := tkN_b T n s26.1 (by omega)
                  try have v27 := u27.2.2.2 (by first | omega | (split at w27 <;> omega))
                  try dsimp only
                  refine gb_t (ih _ _ _ _ _ _ _ _ _ _ (by decide) (by omega) (by omega) (by first | omega | (simp only [bNode_1, bNode_p, bSet_1, bSet_p, bOver_1, bOver_p, bWrap_1, bWrap_p, bKeep_1, bKeep_p, bSlot_1, bSlot_p]; omega)) (trivial) (by simp only [lvG] at hf ⊢; omega)) (fun s28 g28 => ?_)
                  have x28 := g_mono T n f _ _ _ _ _ _ _ _ _ _ s28 (by omega) (by omega) g28 _ (Nat.le_refl _) (by first | omega | (simp only [bNode_1, bNode_p, bSet_1, bSet_p, bOver_1, bOver_p, bWrap_1, bWrap_p, bKeep_1, bKeep_p, bSlot_1, bSlot_p]; omega)) trivial
                  obtain ⟨a28, b28, c28, d28, e28, f28, h28, i28⟩ := (x28.1 : Mo n _ _ _ s28)
                  have j28 : _ ≤ s28.2.2.2.1 ∧ s28.2.2.2.1 < s28.2.2.2.2.1.1 := x28.2
                  try simp only [bNode_1, bNode_p, bSet_1, bSet_p, bOver_1, bOver_p, bWrap_1, bWrap_p, bKeep_1, bKeep_p, bSlot_1, bSlot_p] at a28 b28 c28 d28 e28 f28 h28 i28 j28
                  try dsimp only
                  refine gW_t (fun w29 => ?_)
                  try have u29 := tkN_b T n s28.1 (by omega)
                  try have v29 := u29.2.2.2 (by first | omega | (split at w29 <;> omega))
                  try dsimp only
                  exact ⟨_, rfl⟩
                · rw [if_neg y24]
                  refine gW_t (fun w30 => ?_)
                  try have u30 := tkN_b T n s23.1 (by omega)
                  try have v30 := u30.2.2.2 (by first | omega | (split at w30 <;> omega))
                  try dsimp only
                  refine gb_t (ih _ _ _ _ _ _ _ _ _ _ (by decide) (by omega) (by omega) (by first | omega | (simp only [bNode_1, bNode_p, bSet_1, bSet_p, bOver_1, bOver_p, bWrap_1, bWrap_p, bKeep_1, bKeep_p, bSlot_1, bSlot_p]; omega)) (trivial) (by simp only [lvG] at hf ⊢; omega)) (fun s31 g31 => ?_)
                  have x31 := g_mono T n f _ _ _ _ _ _ _ _ _ _ s31 (by omega) (by omega) g31 _ (Nat.le_refl _) (by first | omega | (simp only [bNode_1, bNode_p, bSet_1, bSet_p, bOver_1, bOver_p, bWrap_1, bWrap_p, bKeep_1, bKeep_p, bSlot_1, bSlot_p]; omega)) trivial
                  obtain ⟨a31, b31, c31, d31, e31, f31, h31, i31⟩ := (x31.1 : Mo n _ _ _ s31)
                  have j31 : _ ≤ s31.2.2.2.1 ∧ s31.2.2.2.1 < s31.2.2.2.2.1.1 := x31.2
                  try simp only [bNode_1, bNode_p, bSet_1, bSet_p, bOver_1, bOver_p, bWrap_1, bWrap_p, bKeep_1, bKeep_p, bSlot_1, bSlot_p] at a31 b31 c31 d31 e31 f31 h31 i31 j31
                  try dsimp only
                  refine gW_t (fun w32 => ?_)
                  try have u32 := tkN_b T n s31.1 (by omega)
                  try have v32 := u32.2.2.2 (by first | omega | (split at w32 <;> omega))
                  try dsimp only
                  exact ⟨_, rfl⟩
              · rw [if_neg y21]
                refine gb_t (ih _ _ _ _ _ _ _ _ _ _ (by decide) (by omega) (by omega) (by first | omega | (simp only [bNode_1, bNode_p, bSet_1, bSet_p, bOver_1, bOver_p, bWrap_1, bWrap_p, bKeep_1, bKeep_p, bSlot_1, bSlot_p]; omega)) (trivial) (by simp only [lvG] at hf ⊢; omega)) (fun s33 g33 => ?_)
                have x33 := g_mono T n f _ _ _ _ _ _ _ _ _ _ s33 (by omega) (by omega) g33 _ (Nat.le_refl _) (by first | omega | (simp only [bNode_1, bNode_p, bSet_1, bSet_p, bOver_1, bOver_p, bWrap_1, bWrap_p, bKeep_1, bKeep_p, bSlot_1, bSlot_p]; omega)) trivial
                obtain ⟨a33, b33, c33, d33, e33, f33, h33, i33⟩ := (x33.1 : Mo n _ _ _ s33)
                have j33 : _ ≤ s33.2.2.2.1 ∧ s33.2.2.2.1 < s33.2.2.2.2.1.1 := x33.2
                try simp only [bNode_1, bNode_p, bSet_1, bSet_p, bOver_1, bOver_p, bWrap_1, bWrap_p, bKeep_1, bKeep_p, bSlot_1, bSlot_p] at a33 b33 c33 d33 e33 f33 h33 i33 j33
                try dsimp only
                by_cases y34 : tkK T n s33.1 = 16
                · rw [if_pos y34]
                  have u35 := tkN_b T n s33.1 (by omega)
                  have v35 := u35.2.2.2 (by first | omega | (rcases y1 with z | z | z | z <;> omega) | (rcases y2 with z | z | z | z <;> omega))
                  refine gT_t ?_
                  try dsimp only
                  refine gb_t (ih _ _ _ _ _ _ _ _ _ _ (by decide) (by omega) (by omega) (by first | omega | (simp only [bNode_1, bNode_p, bSet_1, bSet_p, bOver_1, bOver_p, bWrap_1, bWrap_p, bKeep_1, bKeep_p, bSlot_1, bSlot_p]; omega)) (trivial) (by simp only [lvG] at hf ⊢; omega)) (fun s36 g36 => ?_)
                  have x36 := g_mono T n f _ _ _ _ _ _ _ _ _ _ s36 (by omega) (by omega) g36 _ (Nat.le_refl _) (by first | omega | (simp only [bNode_1, bNode_p, bSet_1, bSet_p, bOver_1, bOver_p, bWrap_1, bWrap_p, bKeep_1, bKeep_p, bSlot_1, bSlot_p]; omega)) trivial
                  obtain ⟨a36, b36, c36, d36, e36, f36, h36, i36⟩ := (x36.1 : Mo n _ _ _ s36)
                  have j36 : _ ≤ s36.2.2.2.1 ∧ s36.2.2.2.1 < s36.2.2.2.2.1.1 := x36.2
                  try simp only [bNode_1, bNode_p, bSet_1, bSet_p, bOver_1, bOver_p, bWrap_1, bWrap_p, bKeep_1, bKeep_p, bSlot_1, bSlot_p] at a36 b36 c36 d36 e36 f36 h36 i36 j36
                  try dsimp only
                  refine gW_t (fun w37 => ?_)
                  try have u37 := tkN_b T n s36.1 (by omega)
                  try have v37 := u37.2.2.2 (by first | omega | (split at w37 <;> omega))
                  try dsimp only
                  exact ⟨_, rfl⟩
                · rw [if_neg y34]
                  refine gb_t (ih _ _ _ _ _ _ _ _ _ _ (by decide) (by omega) (by omega) (by first | omega | (simp only [bNode_1, bNode_p, bSet_1, bSet_p, bOver_1, bOver_p, bWrap_1, bWrap_p, bKeep_1, bKeep_p, bSlot_1, bSlot_p]; omega)) ((⟨by omega, by omega, by omega, by omega⟩ : 1 ≤ _ ∧ _ < _ ∧ 1 ≤ _ ∧ _ < _)) (by simp only [lvG] at hf ⊢; omega)) (fun s38 g38 => ?_)
                  try dsimp only
                  refine gW_t (fun w39 => ?_)
                  try have u39 := tkN_b T n s38.1 (by omega)
                  try have v39 := u39.2.2.2 (by first | omega | (split at w39 <;> omega))
                  try dsimp only
                  exact ⟨_, rfl⟩
          · rw [if_neg y17]
            by_cases y40 : tkK T n q = 60 ∨ tkK T n q = 61 ∨ tkK T n q = 62
            · rw [if_pos y40]
              have u41 := tkN_b T n q (by omega)
              have v41 := u41.2.2.2 (by first | omega | (rcases y1 with z | z | z | z <;> omega) | (rcases y2 with z | z | z | z <;> omega))
              refine gT_t ?_
              try dsimp only
              exact ⟨_, rfl⟩
            · rw [if_neg y40]
              by_cases y42 : tkK T n q = 69 ∨ tkK T n q = 70
              · rw [if_pos y42]
                refine gO_t ?_
                have u43 := tkN_b T n q (by omega)
                have v43 := u43.2.2.2 (by first | omega | (rcases y1 with z | z | z | z <;> omega) | (rcases y2 with z | z | z | z <;> omega))
                refine gT_t ?_
                try dsimp only
                refine gb_t (ih _ _ _ _ _ _ _ _ _ _ (by decide) (by omega) (by omega) (by first | omega | (simp only [bNode_1, bNode_p, bSet_1, bSet_p, bOver_1, bOver_p, bWrap_1, bWrap_p, bKeep_1, bKeep_p, bSlot_1, bSlot_p]; omega)) (Or.inl rfl) (by simp only [lvG] at hf ⊢; omega)) (fun s44 g44 => ?_)
                have x44 := g_mono T n f _ _ _ _ _ _ _ _ _ _ s44 (by omega) (by omega) g44 1 (by first | omega | (simp only [bNode_1, bNode_p, bSet_1, bSet_p, bOver_1, bOver_p, bWrap_1, bWrap_p, bKeep_1, bKeep_p, bSlot_1, bSlot_p]; omega)) (by decide) (Or.inl rfl)
                obtain ⟨a44, b44, c44, d44, e44, f44, h44, i44⟩ := (x44.1 : Mo n _ _ _ s44)
                have j44 : _ ≤ s44.2.2.2.1 ∧ s44.2.2.2.1 < s44.2.2.2.2.1.1 := x44.2
                try simp only [bNode_1, bNode_p, bSet_1, bSet_p, bOver_1, bOver_p, bWrap_1, bWrap_p, bKeep_1, bKeep_p, bSlot_1, bSlot_p] at a44 b44 c44 d44 e44 f44 h44 i44 j44
                try dsimp only
                refine gW_t (fun w45 => ?_)
                try have u45 := tkN_b T n s44.1 (by omega)
                try have v45 := u45.2.2.2 (by first | omega | (split at w45 <;> omega))
                try dsimp only
                refine gb_t (ih _ _ _ _ _ _ _ _ _ _ (by decide) (by omega) (by omega) (by first | omega | (simp only [bNode_1, bNode_p, bSet_1, bSet_p, bOver_1, bOver_p, bWrap_1, bWrap_p, bKeep_1, bKeep_p, bSlot_1, bSlot_p]; omega)) (trivial) (by simp only [lvG] at hf ⊢; omega)) (fun s46 g46 => ?_)
                have x46 := g_mono T n f _ _ _ _ _ _ _ _ _ _ s46 (by omega) (by omega) g46 _ (Nat.le_refl _) (by first | omega | (simp only [bNode_1, bNode_p, bSet_1, bSet_p, bOver_1, bOver_p, bWrap_1, bWrap_p, bKeep_1, bKeep_p, bSlot_1, bSlot_p]; omega)) trivial
                obtain ⟨a46, b46, c46, d46, e46, f46, h46, i46⟩ := (x46.1 : Mo n _ _ _ s46)
                have j46 : _ ≤ s46.2.2.2.1 ∧ s46.2.2.2.1 < s46.2.2.2.2.1.1 := x46.2
                try simp only [bNode_1, bNode_p, bSet_1, bSet_p, bOver_1, bOver_p, bWrap_1, bWrap_p, bKeep_1, bKeep_p, bSlot_1, bSlot_p] at a46 b46 c46 d46 e46 f46 h46 i46 j46
                try dsimp only
                exact ⟨_, rfl⟩
              · rw [if_neg y42]
                by_cases y47 : tkK T n q = 39
                · rw [if_pos y47]
                  refine gO_t ?_
                  have u48 := tkN_b T n q (by omega)
                  have v48 := u48.2.2.2 (by first | omega | (rcases y1 with z | z | z | z <;> omega) | (rcases y2 with z | z | z | z <;> omega))
                  refine gT_t ?_
                  try dsimp only
                  refine gb_t (ih _ _ _ _ _ _ _ _ _ _ (by decide) (by omega) (by omega) (by first | omega | (simp only [bNode_1, bNode_p, bSet_1, bSet_p, bOver_1, bOver_p, bWrap_1, bWrap_p, bKeep_1, bKeep_p, bSlot_1, bSlot_p]; omega)) (trivial) (by simp only [lvG] at hf ⊢; omega)) (fun s49 g49 => ?_)
                  have x49 := g_mono T n f _ _ _ _ _ _ _ _ _ _ s49 (by omega) (by omega) g49 _ (Nat.le_refl _) (by first | omega | (simp only [bNode_1, bNode_p, bSet_1, bSet_p, bOver_1, bOver_p, bWrap_1, bWrap_p, bKeep_1, bKeep_p, bSlot_1, bSlot_p]; omega)) trivial
                  obtain ⟨a49, b49, c49, d49, e49, f49, h49, i49⟩ := (x49.1 : Mo n _ _ _ s49)
                  have j49 : _ ≤ s49.2.2.2.1 ∧ s49.2.2.2.1 < s49.2.2.2.2.1.1 := x49.2
                  try simp only [bNode_1, bNode_p, bSet_1, bSet_p, bOver_1, bOver_p, bWrap_1, bWrap_p, bKeep_1, bKeep_p, bSlot_1, bSlot_p] at a49 b49 c49 d49 e49 f49 h49 i49 j49
                  try dsimp only
                  refine gW_t (fun w50 => ?_)
                  try have u50 := tkN_b T n s49.1 (by omega)
                  try have v50 := u50.2.2.2 (by first | omega | (split at w50 <;> omega))
                  try dsimp only
                  refine gb_t (ih _ _ _ _ _ _ _ _ _ _ (by decide) (by omega) (by omega) (by first | omega | (simp only [bNode_1, bNode_p, bSet_1, bSet_p, bOver_1, bOver_p, bWrap_1, bWrap_p, bKeep_1, bKeep_p, bSlot_1, bSlot_p]; omega)) (trivial) (by simp only [lvG] at hf ⊢; omega)) (fun s51 g51 => ?_)
                  have x51 := g_mono T n f _ _ _ _ _ _ _ _ _ _ s51 (by omega) (by omega) g51 _ (Nat.le_refl _) (by first | omega | (simp only [bNode_1, bNode_p, bSet_1, bSet_p, bOver_1, bOver_p, bWrap_1, bWrap_p, bKeep_1, bKeep_p, bSlot_1, bSlot_p]; omega)) trivial
                  obtain ⟨a51, b51, c51, d51, e51, f51, h51, i51⟩ := (x51.1 : Mo n _ _ _ s51)
                  have j51 : _ ≤ s51.2.2.2.1 ∧ s51.2.2.2.1 < s51.2.2.2.2.1.1 := x51.2
                  try simp only [bNode_1, bNode_p, bSet_1, bSet_p, bOver_1, bOver_p, bWrap_1, bWrap_p, bKeep_1, bKeep_p, bSlot_1, bSlot_p] at a51 b51 c51 d51 e51 f51 h51 i51 j51
                  try dsimp only
                  refine gb_t (ih _ _ _ _ _ _ _ _ _ _ (by decide) (by omega) (by omega) (by first | omega | (simp only [bNode_1, bNode_p, bSet_1, bSet_p, bOver_1, bOver_p, bWrap_1, bWrap_p, bKeep_1, bKeep_p, bSlot_1, bSlot_p]; omega)) ((⟨by omega, by first | omega | (simp only [bNode_1, bNode_p, bSet_1, bSet_p, bOver_1, bOver_p, bWrap_1, bWrap_p, bKeep_1, bKeep_p, bSlot_1, bSlot_p]; omega)⟩ : 1 ≤ _ ∧ _ < _)) (by simp only [lvG] at hf ⊢; omega)) (fun s52 g52 => ?_)
                  have x52 := g_mono T n f _ _ _ _ _ _ _ _ _ _ s52 (by omega) (by omega) g52 1 (by first | omega | (simp only [bNode_1, bNode_p, bSet_1, bSet_p, bOver_1, bOver_p, bWrap_1, bWrap_p, bKeep_1, bKeep_p, bSlot_1, bSlot_p]; omega)) (by decide) ((⟨by omega, by first | omega | (simp only [bNode_1, bNode_p, bSet_1, bSet_p, bOver_1, bOver_p, bWrap_1, bWrap_p, bKeep_1, bKeep_p, bSlot_1, bSlot_p]; omega)⟩ : 1 ≤ _ ∧ _ < _))
                  obtain ⟨a52, b52, c52, d52, e52, f52, h52, i52⟩ := (x52.1 : Mo n _ _ _ s52)
                  have j52 : _ ≤ s52.2.2.2.1 ∧ s52.2.2.2.1 < s52.2.2.2.2.1.1 := x52.2
                  try simp only [bNode_1, bNode_p, bSet_1, bSet_p, bOver_1, bOver_p, bWrap_1, bWrap_p, bKeep_1, bKeep_p, bSlot_1, bSlot_p] at a52 b52 c52 d52 e52 f52 h52 i52 j52
                  try dsimp only
                  refine gW_t (fun w53 => ?_)
                  try have u53 := tkN_b T n s52.1 (by omega)
                  try have v53 := u53.2.2.2 (by first | omega | (split at w53 <;> omega))
                  try dsimp only
                  refine gb_t (ih _ _ _ _ _ _ _ _ _ _ (by decide) (by omega) (by omega) (by first | omega | (simp only [bNode_1, bNode_p, bSet_1, bSet_p, bOver_1, bOver_p, bWrap_1, bWrap_p, bKeep_1, bKeep_p, bSlot_1, bSlot_p]; omega)) (trivial) (by simp only [lvG] at hf ⊢; omega)) (fun s54 g54 => ?_)
                  have x54 := g_mono T n f _ _ _ _ _ _ _ _ _ _ s54 (by omega) (by omega) g54 _ (Nat.le_refl _) (by first | omega | (simp only [bNode_1, bNode_p, bSet_1, bSet_p, bOver_1, bOver_p, bWrap_1, bWrap_p, bKeep_1, bKeep_p, bSlot_1, bSlot_p]; omega)) trivial
                  obtain ⟨a54, b54, c54, d54, e54, f54, h54, i54⟩ := (x54.1 : Mo n _ _ _ s54)
                  have j54 : _ ≤ s54.2.2.2.1 ∧ s54.2.2.2.1 < s54.2.2.2.2.1.1 := x54.2
                  try simp only [bNode_1, bNode_p, bSet_1, bSet_p, bOver_1, bOver_p, bWrap_1, bWrap_p, bKeep_1, bKeep_p, bSlot_1, bSlot_p] at a54 b54 c54 d54 e54 f54 h54 i54 j54
                  try dsimp only
                  refine gW_t (fun w55 => ?_)
                  try have u55 := tkN_b T n s54.1 (by omega)
                  try have v55 := u55.2.2.2 (by first | omega | (split at w55 <;> omega))
                  try dsimp only
                  exact ⟨_, rfl⟩
                · rw [if_neg y47]
                  by_cases y56 : tkK T n q = 83 ∧ E.2.2.2.2.1 = true
                  · rw [if_pos y56]
                    have u57 := tkN_b T n q (by omega)
                    have v57 := u57.2.2.2 (by first | omega | (rcases y1 with z | z | z | z <;> omega) | (rcases y2 with z | z | z | z <;> omega))
                    refine gT_t ?_
                    try dsimp only
                    exact ⟨_, rfl⟩
                  · rw [if_neg y56]
                    by_cases y58 : isFn (tkK T n q) E.2.2.2.2.2.1
                    · rw [if_pos y58]
                      have u59 := tkN_b T n q (by omega)
                      have v59 := u59.2.2.2 (by first | omega | (rcases y1 with z | z | z | z <;> omega) | (rcases y2 with z | z | z | z <;> omega))
                      refine gT_t ?_
                      try dsimp only
                      by_cases y60 : tkK T n (tkN T n q) = 6
                      · rw [if_pos y60]
                        refine gO_t ?_
                        have u61 := tkN_b T n (tkN T n q) (by omega)
                        have v61 := u61.2.2.2 (by first | omega | (rcases y1 with z | z | z | z <;> omega) | (rcases y2 with z | z | z | z <;> omega))
                        refine gT_t ?_
                        try dsimp only
                        refine gb_t (ih _ _ _ _ _ _ _ _ _ _ (by decide) (by omega) (by omega) (by first | omega | (simp only [bNode_1, bNode_p, bSet_1, bSet_p, bOver_1, bOver_p, bWrap_1, bWrap_p, bKeep_1, bKeep_p, bSlot_1, bSlot_p]; omega)) (trivial) (by simp only [lvG] at hf ⊢; omega)) (fun s62 g62 => ?_)
                        have x62 := g_mono T n f _ _ _ _ _ _ _ _ _ _ s62 (by omega) (by omega) g62 _ (Nat.le_refl _) (by first | omega | (simp only [bNode_1, bNode_p, bSet_1, bSet_p, bOver_1, bOver_p, bWrap_1, bWrap_p, bKeep_1, bKeep_p, bSlot_1, bSlot_p]; omega)) trivial
                        obtain ⟨a62, b62, c62, d62, e62, f62, h62, i62⟩ := (x62.1 : Mo n _ _ _ s62)
                        have j62 : _ ≤ s62.2.2.2.1 ∧ s62.2.2.2.1 < s62.2.2.2.2.1.1 := x62.2
                        try simp only [bNode_1, bNode_p, bSet_1, bSet_p, bOver_1, bOver_p, bWrap_1, bWrap_p, bKeep_1, bKeep_p, bSlot_1, bSlot_p] at a62 b62 c62 d62 e62 f62 h62 i62 j62
                        try dsimp only
                        refine gW_t (fun w63 => ?_)
                        try have u63 := tkN_b T n s62.1 (by omega)
                        try have v63 := u63.2.2.2 (by first | omega | (split at w63 <;> omega))
                        try dsimp only
                        exact ⟨_, rfl⟩
                      · rw [if_neg y60]
                        exact ⟨none, rfl⟩
                    · rw [if_neg y58]
                      exact ⟨none, rfl⟩
theorem gt_14 {T : Nat → Int32} {n f : Nat} (ih : GT T n f) {E : En} {o q v i e c g : Nat} {b : BT} (hq : q ≤ n) (hv : v ≤ 60) (hb : 1 ≤ b.1) (hN : Nd0 14 1 b i e c) (hf : 30 * (n - q) + lvG 14 + 1 ≤ f + 1) : ∃ y, G T n (f + 1) 14 E o q v i e c g b = some y := by
  rw [G_14]
  have hN : c = 0 ∨ (1 ≤ i ∧ i < b.1 ∧ 1 ≤ e ∧ e < b.1) := hN
  by_cases y1 : c = 0
  · rw [if_pos y1]
    by_cases y2 : tkK T n q = 7
    · rw [if_pos y2]
      exact ⟨_, rfl⟩
    · rw [if_neg y2]
      refine gb_t (ih _ _ _ _ _ _ _ _ _ _ (by decide) (by omega) (by omega) (by first | omega | (simp only [bNode_1, bNode_p, bSet_1, bSet_p, bOver_1, bOver_p, bWrap_1, bWrap_p, bKeep_1, bKeep_p, bSlot_1, bSlot_p]; omega)) (trivial) (by simp only [lvG] at hf ⊢; omega)) (fun s3 g3 => ?_)
      have x3 := g_mono T n f _ _ _ _ _ _ _ _ _ _ s3 (by omega) (by omega) g3 _ (Nat.le_refl _) (by first | omega | (simp only [bNode_1, bNode_p, bSet_1, bSet_p, bOver_1, bOver_p, bWrap_1, bWrap_p, bKeep_1, bKeep_p, bSlot_1, bSlot_p]; omega)) trivial
      obtain ⟨a3, b3, c3, d3, e3, f3, h3, i3⟩ := (x3.1 : Mo n _ _ _ s3)
      have j3 : _ ≤ s3.2.2.2.1 ∧ s3.2.2.2.1 < s3.2.2.2.2.1.1 := x3.2
      try simp only [bNode_1, bNode_p, bSet_1, bSet_p, bOver_1, bOver_p, bWrap_1, bWrap_p, bKeep_1, bKeep_p, bSlot_1, bSlot_p] at a3 b3 c3 d3 e3 f3 h3 i3 j3
      try dsimp only
      exact ih _ _ _ _ _ _ _ _ _ _ (by decide) (by omega) (by omega) (by first | omega | (simp only [bNode_1, bNode_p, bSet_1, bSet_p, bOver_1, bOver_p, bWrap_1, bWrap_p, bKeep_1, bKeep_p, bSlot_1, bSlot_p]; omega)) (Or.inr ⟨by omega, by omega, by omega, by omega⟩) (by simp only [lvG] at hf ⊢; omega)
  · rw [if_neg y1]
    by_cases y4 : tkK T n q = 12
    · rw [if_pos y4]
      have u5 := tkN_b T n q (by omega)
      have v5 := u5.2.2.2 (by first | omega | (rcases y1 with z | z | z | z <;> omega) | (rcases y2 with z | z | z | z <;> omega))
      refine gT_t ?_
      try dsimp only
      refine gb_t (ih _ _ _ _ _ _ _ _ _ _ (by decide) (by omega) (by omega) (by first | omega | (simp only [bNode_1, bNode_p, bSet_1, bSet_p, bOver_1, bOver_p, bWrap_1, bWrap_p, bKeep_1, bKeep_p, bSlot_1, bSlot_p]; omega)) (trivial) (by simp only [lvG] at hf ⊢; omega)) (fun s6 g6 => ?_)
      have x6 := g_mono T n f _ _ _ _ _ _ _ _ _ _ s6 (by omega) (by omega) g6 _ (Nat.le_refl _) (by first | omega | (simp only [bNode_1, bNode_p, bSet_1, bSet_p, bOver_1, bOver_p, bWrap_1, bWrap_p, bKeep_1, bKeep_p, bSlot_1, bSlot_p]; omega)) trivial
      obtain ⟨a6, b6, c6, d6, e6, f6, h6, i6⟩ := (x6.1 : Mo n _ _ _ s6)
      have j6 : _ ≤ s6.2.2.2.1 ∧ s6.2.2.2.1 < s6.2.2.2.2.1.1 := x6.2
      try simp only [bNode_1, bNode_p, bSet_1, bSet_p, bOver_1, bOver_p, bWrap_1, bWrap_p, bKeep_1, bKeep_p, bSlot_1, bSlot_p] at a6 b6 c6 d6 e6 f6 h6 i6 j6
      try dsimp only
      exact ih _ _ _ _ _ _ _ _ _ _ (by decide) (by omega) (by omega) (by first | omega | (simp only [bNode_1, bNode_p, bSet_1, bSet_p, bOver_1, bOver_p, bWrap_1, bWrap_p, bKeep_1, bKeep_p, bSlot_1, bSlot_p]; omega)) (Or.inr ⟨by omega, by first | omega | (simp only [bNode_1, bNode_p, bSet_1, bSet_p, bOver_1, bOver_p, bWrap_1, bWrap_p, bKeep_1, bKeep_p, bSlot_1, bSlot_p]; omega), by omega, by first | omega | (simp only [bNode_1, bNode_p, bSet_1, bSet_p, bOver_1, bOver_p, bWrap_1, bWrap_p, bKeep_1, bKeep_p, bSlot_1, bSlot_p]; omega)⟩) (by simp only [lvG] at hf ⊢; omega)
    · rw [if_neg y4]
      exact ⟨_, rfl⟩
theorem gt_15 {T : Nat → Int32} {n f : Nat} (ih : GT T n f) {E : En} {o q v i e c g : Nat} {b : BT} (hq : q ≤ n) (hv : v ≤ 60) (hb : 1 ≤ b.1) (hN : Nd0 15 1 b i e c) (hf : 30 * (n - q) + lvG 15 + 1 ≤ f + 1) : ∃ y, G T n (f + 1) 15 E o q v i e c g b = some y := by
  rw [G_15]
  have hN : 1 ≤ i ∧ i < b.1 ∧ 1 ≤ e ∧ e < b.1 := hN
  by_cases y1 : tkK T n q = 12
  · rw [if_pos y1]
    have u2 := tkN_b T n q (by omega)
    have v2 := u2.2.2.2 (by first | omega | (rcases y1 with z | z | z | z <;> omega) | (rcases y2 with z | z | z | z <;> omega))
    refine gT_t ?_
    try dsimp only
    refine gb_t (ih _ _ _ _ _ _ _ _ _ _ (by decide) (by omega) (by omega) (by first | omega | (simp only [bNode_1, bNode_p, bSet_1, bSet_p, bOver_1, bOver_p, bWrap_1, bWrap_p, bKeep_1, bKeep_p, bSlot_1, bSlot_p]; omega)) (trivial) (by simp only [lvG] at hf ⊢; omega)) (fun s3 g3 => ?_)
    have x3 := g_mono T n f _ _ _ _ _ _ _ _ _ _ s3 (by omega) (by omega) g3 _ (Nat.le_refl _) (by first | omega | (simp only [bNode_1, bNode_p, bSet_1, bSet_p, bOver_1, bOver_p, bWrap_1, bWrap_p, bKeep_1, bKeep_p, bSlot_1, bSlot_p]; omega)) trivial
    obtain ⟨a3, b3, c3, d3, e3, f3, h3, i3⟩ := (x3.1 : Mo n _ _ _ s3)
    have j3 : _ ≤ s3.2.2.2.1 ∧ s3.2.2.2.1 < s3.2.2.2.2.1.1 := x3.2
    try simp only [bNode_1, bNode_p, bSet_1, bSet_p, bOver_1, bOver_p, bWrap_1, bWrap_p, bKeep_1, bKeep_p, bSlot_1, bSlot_p] at a3 b3 c3 d3 e3 f3 h3 i3 j3
    try dsimp only
    by_cases y4 : c = 1 ∧ tkK T n s3.1 = 16
    · rw [if_pos y4]
      have u5 := tkN_b T n s3.1 (by omega)
      have v5 := u5.2.2.2 (by first | omega | (rcases y1 with z | z | z | z <;> omega) | (rcases y2 with z | z | z | z <;> omega))
      refine gT_t ?_
      try dsimp only
      refine gb_t (ih _ _ _ _ _ _ _ _ _ _ (by decide) (by omega) (by omega) (by first | omega | (simp only [bNode_1, bNode_p, bSet_1, bSet_p, bOver_1, bOver_p, bWrap_1, bWrap_p, bKeep_1, bKeep_p, bSlot_1, bSlot_p]; omega)) (trivial) (by simp only [lvG] at hf ⊢; omega)) (fun s6 g6 => ?_)
      have x6 := g_mono T n f _ _ _ _ _ _ _ _ _ _ s6 (by omega) (by omega) g6 _ (Nat.le_refl _) (by first | omega | (simp only [bNode_1, bNode_p, bSet_1, bSet_p, bOver_1, bOver_p, bWrap_1, bWrap_p, bKeep_1, bKeep_p, bSlot_1, bSlot_p]; omega)) trivial
      obtain ⟨a6, b6, c6, d6, e6, f6, h6, i6⟩ := (x6.1 : Mo n _ _ _ s6)
      have j6 : _ ≤ s6.2.2.2.1 ∧ s6.2.2.2.1 < s6.2.2.2.2.1.1 := x6.2
      try simp only [bNode_1, bNode_p, bSet_1, bSet_p, bOver_1, bOver_p, bWrap_1, bWrap_p, bKeep_1, bKeep_p, bSlot_1, bSlot_p] at a6 b6 c6 d6 e6 f6 h6 i6 j6
      try dsimp only
      exact ⟨_, rfl⟩
    · rw [if_neg y4]
      exact ih _ _ _ _ _ _ _ _ _ _ (by decide) (by omega) (by omega) (by first | omega | (simp only [bNode_1, bNode_p, bSet_1, bSet_p, bOver_1, bOver_p, bWrap_1, bWrap_p, bKeep_1, bKeep_p, bSlot_1, bSlot_p]; omega)) ((⟨by omega, by first | omega | (simp only [bNode_1, bNode_p, bSet_1, bSet_p, bOver_1, bOver_p, bWrap_1, bWrap_p, bKeep_1, bKeep_p, bSlot_1, bSlot_p]; omega), by omega, by first | omega | (simp only [bNode_1, bNode_p, bSet_1, bSet_p, bOver_1, bOver_p, bWrap_1, bWrap_p, bKeep_1, bKeep_p, bSlot_1, bSlot_p]; omega)⟩ : 1 ≤ _ ∧ _ < _ ∧ 1 ≤ _ ∧ _ < _)) (by simp only [lvG] at hf ⊢; omega)
  · rw [if_neg y1]
    exact ⟨_, rfl⟩
theorem gt_16 {T : Nat → Int32} {n f : Nat} (ih : GT T n f) {E : En} {o q v i e c g : Nat} {b : BT} (hq : q ≤ n) (hv : v ≤ 60) (hb : 1 ≤ b.1) (hN : Nd0 16 1 b i e c) (hf : 30 * (n - q) + lvG 16 + 1 ≤ f + 1) : ∃ y, G T n (f + 1) 16 E o q v i e c g b = some y := by
  rw [G_16]
  have hN : 1 ≤ e ∧ e < b.1 := hN
  by_cases y1 : tkK T n q = 41
  · rw [if_pos y1]
    have u2 := tkN_b T n q (by omega)
    have v2 := u2.2.2.2 (by first | omega | (rcases y1 with z | z | z | z <;> omega) | (rcases y2 with z | z | z | z <;> omega))
    refine gT_t ?_
    try dsimp only
    refine gb_t (ih _ _ _ _ _ _ _ _ _ _ (by decide) (by omega) (by omega) (by first | omega | (simp only [bNode_1, bNode_p, bSet_1, bSet_p, bOver_1, bOver_p, bWrap_1, bWrap_p, bKeep_1, bKeep_p, bSlot_1, bSlot_p]; omega)) (trivial) (by simp only [lvG] at hf ⊢; omega)) (fun s3 g3 => ?_)
    have x3 := g_mono T n f _ _ _ _ _ _ _ _ _ _ s3 (by omega) (by omega) g3 _ (Nat.le_refl _) (by first | omega | (simp only [bNode_1, bNode_p, bSet_1, bSet_p, bOver_1, bOver_p, bWrap_1, bWrap_p, bKeep_1, bKeep_p, bSlot_1, bSlot_p]; omega)) trivial
    obtain ⟨a3, b3, c3, d3, e3, f3, h3, i3⟩ := (x3.1 : Mo n _ _ _ s3)
    have j3 : _ ≤ s3.2.2.2.1 ∧ s3.2.2.2.1 < s3.2.2.2.2.1.1 := x3.2
    try simp only [bNode_1, bNode_p, bSet_1, bSet_p, bOver_1, bOver_p, bWrap_1, bWrap_p, bKeep_1, bKeep_p, bSlot_1, bSlot_p] at a3 b3 c3 d3 e3 f3 h3 i3 j3
    try dsimp only
    refine gW_t (fun w4 => ?_)
    try have u4 := tkN_b T n s3.1 (by omega)
    try have v4 := u4.2.2.2 (by first | omega | (split at w4 <;> omega))
    try dsimp only
    refine gb_t (ih _ _ _ _ _ _ _ _ _ _ (by decide) (by omega) (by omega) (by first | omega | (simp only [bNode_1, bNode_p, bSet_1, bSet_p, bOver_1, bOver_p, bWrap_1, bWrap_p, bKeep_1, bKeep_p, bSlot_1, bSlot_p]; omega)) (trivial) (by simp only [lvG] at hf ⊢; omega)) (fun s5 g5 => ?_)
    have x5 := g_mono T n f _ _ _ _ _ _ _ _ _ _ s5 (by omega) (by omega) g5 _ (Nat.le_refl _) (by first | omega | (simp only [bNode_1, bNode_p, bSet_1, bSet_p, bOver_1, bOver_p, bWrap_1, bWrap_p, bKeep_1, bKeep_p, bSlot_1, bSlot_p]; omega)) trivial
    obtain ⟨a5, b5, c5, d5, e5, f5, h5, i5⟩ := (x5.1 : Mo n _ _ _ s5)
    have j5 : _ ≤ s5.2.2.2.1 ∧ s5.2.2.2.1 < s5.2.2.2.2.1.1 := x5.2
    try simp only [bNode_1, bNode_p, bSet_1, bSet_p, bOver_1, bOver_p, bWrap_1, bWrap_p, bKeep_1, bKeep_p, bSlot_1, bSlot_p] at a5 b5 c5 d5 e5 f5 h5 i5 j5
    try dsimp only
    exact ih _ _ _ _ _ _ _ _ _ _ (by decide) (by omega) (by omega) (by first | omega | (simp only [bNode_1, bNode_p, bSet_1, bSet_p, bOver_1, bOver_p, bWrap_1, bWrap_p, bKeep_1, bKeep_p, bSlot_1, bSlot_p]; omega)) ((⟨by omega, by first | omega | (simp only [bNode_1, bNode_p, bSet_1, bSet_p, bOver_1, bOver_p, bWrap_1, bWrap_p, bKeep_1, bKeep_p, bSlot_1, bSlot_p]; omega)⟩ : 1 ≤ _ ∧ _ < _)) (by simp only [lvG] at hf ⊢; omega)
  · rw [if_neg y1]
    exact ⟨_, rfl⟩
theorem gt_17 {T : Nat → Int32} {n f : Nat} (ih : GT T n f) {E : En} {o q v i e c g : Nat} {b : BT} (hq : q ≤ n) (hv : v ≤ 60) (hb : 1 ≤ b.1) (hN : Nd0 17 1 b i e c) (hf : 30 * (n - q) + lvG 17 + 1 ≤ f + 1) : ∃ y, G T n (f + 1) 17 E o q v i e c g b = some y := by
  rw [G_17]
  have hN : i = 0 ∨ (1 ≤ i ∧ i < b.1 ∧ 1 ≤ e ∧ e < b.1) := hN
  by_cases y1 : tkK T n q = 10
  · rw [if_pos y1]
    refine gO_t ?_
    have u2 := tkN_b T n q (by omega)
    have v2 := u2.2.2.2 (by first | omega | (rcases y1 with z | z | z | z <;> omega) | (rcases y2 with z | z | z | z <;> omega))
    refine gT_t ?_
    try dsimp only
    refine gN_t (fun w3 v3 => ?_)
    have u3 := tkN_b T n (tkN T n q) (by omega)
    have r3 := u3.2.2.2 (by omega)
    try dsimp only
    refine gb_t (ih _ _ _ _ _ _ _ _ _ _ (by decide) (by omega) (by omega) (by first | omega | (simp only [bNode_1, bNode_p, bSet_1, bSet_p, bOver_1, bOver_p, bWrap_1, bWrap_p, bKeep_1, bKeep_p, bSlot_1, bSlot_p]; omega)) (trivial) (by simp only [lvG] at hf ⊢; omega)) (fun s4 g4 => ?_)
    have x4 := g_mono T n f _ _ _ _ _ _ _ _ _ _ s4 (by omega) (by omega) g4 1 (by first | omega | (simp only [bNode_1, bNode_p, bSet_1, bSet_p, bOver_1, bOver_p, bWrap_1, bWrap_p, bKeep_1, bKeep_p, bSlot_1, bSlot_p]; omega)) (by decide) (trivial)
    obtain ⟨a4, b4, c4, d4, e4, f4, h4, i4⟩ := (x4.1 : Mo n _ _ _ s4)
    try simp only [bNode_1, bNode_p, bSet_1, bSet_p, bOver_1, bOver_p, bWrap_1, bWrap_p, bKeep_1, bKeep_p, bSlot_1, bSlot_p] at a4 b4 c4 d4 e4 f4 h4 i4
    try dsimp only
    refine gW_t (fun w5 => ?_)
    try have u5 := tkN_b T n s4.1 (by omega)
    try have v5 := u5.2.2.2 (by first | omega | (split at w5 <;> omega))
    try dsimp only
    refine gW_t (fun w6 => ?_)
    try have u6 := tkN_b T n (tkN T n s4.1) (by omega)
    try have v6 := u6.2.2.2 (by first | omega | (split at w6 <;> omega))
    try dsimp only
    refine gb_t (ih _ _ _ _ _ _ _ _ _ _ (by decide) (by omega) (by omega) (by first | omega | (simp only [bNode_1, bNode_p, bSet_1, bSet_p, bOver_1, bOver_p, bWrap_1, bWrap_p, bKeep_1, bKeep_p, bSlot_1, bSlot_p]; omega)) (trivial) (by simp only [lvG] at hf ⊢; omega)) (fun s7 g7 => ?_)
    have x7 := g_mono T n f _ _ _ _ _ _ _ _ _ _ s7 (by omega) (by omega) g7 _ (Nat.le_refl _) (by first | omega | (simp only [bNode_1, bNode_p, bSet_1, bSet_p, bOver_1, bOver_p, bWrap_1, bWrap_p, bKeep_1, bKeep_p, bSlot_1, bSlot_p]; omega)) trivial
    obtain ⟨a7, b7, c7, d7, e7, f7, h7, i7⟩ := (x7.1 : Mo n _ _ _ s7)
    have j7 : _ ≤ s7.2.2.2.1 ∧ s7.2.2.2.1 < s7.2.2.2.2.1.1 := x7.2
    try simp only [bNode_1, bNode_p, bSet_1, bSet_p, bOver_1, bOver_p, bWrap_1, bWrap_p, bKeep_1, bKeep_p, bSlot_1, bSlot_p] at a7 b7 c7 d7 e7 f7 h7 i7 j7
    try dsimp only
    by_cases hi : i = 0
    · simp only [if_pos hi]
      by_cases y8 : tkK T n s7.1 = 12
      · rw [if_pos y8]
        have u9 := tkN_b T n s7.1 (by omega)
        have v9 := u9.2.2.2 (by first | omega | (rcases y1 with z | z | z | z <;> omega) | (rcases y2 with z | z | z | z <;> omega))
        refine gT_t ?_
        try dsimp only
        refine gb_t (ih _ _ _ _ _ _ _ _ _ _ (by decide) (by omega) (by omega) (by first | omega | (simp only [bNode_1, bNode_p, bSet_1, bSet_p, bOver_1, bOver_p, bWrap_1, bWrap_p, bKeep_1, bKeep_p, bSlot_1, bSlot_p]; omega)) (Or.inr ⟨by first | omega | (simp only [bNode_1, bNode_p, bSet_1, bSet_p, bOver_1, bOver_p, bWrap_1, bWrap_p, bKeep_1, bKeep_p, bSlot_1, bSlot_p]; omega), by first | omega | (simp only [bNode_1, bNode_p, bSet_1, bSet_p, bOver_1, bOver_p, bWrap_1, bWrap_p, bKeep_1, bKeep_p, bSlot_1, bSlot_p]; omega), by first | omega | (simp only [bNode_1, bNode_p, bSet_1, bSet_p, bOver_1, bOver_p, bWrap_1, bWrap_p, bKeep_1, bKeep_p, bSlot_1, bSlot_p]; omega), by first | omega | (simp only [bNode_1, bNode_p, bSet_1, bSet_p, bOver_1, bOver_p, bWrap_1, bWrap_p, bKeep_1, bKeep_p, bSlot_1, bSlot_p]; omega)⟩) (by simp only [lvG] at hf ⊢; omega)) (fun s10 g10 => ?_)
        have x10 := g_mono T n f _ _ _ _ _ _ _ _ _ _ s10 (by omega) (by omega) g10 1 (by first | omega | (simp only [bNode_1, bNode_p, bSet_1, bSet_p, bOver_1, bOver_p, bWrap_1, bWrap_p, bKeep_1, bKeep_p, bSlot_1, bSlot_p]; omega)) (by decide) (Or.inr ⟨by first | omega | (simp only [bNode_1, bNode_p, bSet_1, bSet_p, bOver_1, bOver_p, bWrap_1, bWrap_p, bKeep_1, bKeep_p, bSlot_1, bSlot_p]; omega), by first | omega | (simp only [bNode_1, bNode_p, bSet_1, bSet_p, bOver_1, bOver_p, bWrap_1, bWrap_p, bKeep_1, bKeep_p, bSlot_1, bSlot_p]; omega), by first | omega | (simp only [bNode_1, bNode_p, bSet_1, bSet_p, bOver_1, bOver_p, bWrap_1, bWrap_p, bKeep_1, bKeep_p, bSlot_1, bSlot_p]; omega), by first | omega | (simp only [bNode_1, bNode_p, bSet_1, bSet_p, bOver_1, bOver_p, bWrap_1, bWrap_p, bKeep_1, bKeep_p, bSlot_1, bSlot_p]; omega)⟩)
        obtain ⟨a10, b10, c10, d10, e10, f10, h10, i10⟩ := (x10.1 : Mo n _ _ _ s10)
        have j10 : _ ≤ s10.2.2.2.1 ∧ s10.2.2.2.1 < s10.2.2.2.2.1.1 := x10.2
        try simp only [bNode_1, bNode_p, bSet_1, bSet_p, bOver_1, bOver_p, bWrap_1, bWrap_p, bKeep_1, bKeep_p, bSlot_1, bSlot_p] at a10 b10 c10 d10 e10 f10 h10 i10 j10
        try dsimp only
        exact ⟨_, rfl⟩
      · rw [if_neg y8]
        exact ⟨_, rfl⟩
    · simp only [if_neg hi]
      by_cases y11 : tkK T n s7.1 = 12
      · rw [if_pos y11]
        have u12 := tkN_b T n s7.1 (by omega)
        have v12 := u12.2.2.2 (by first | omega | (rcases y1 with z | z | z | z <;> omega) | (rcases y2 with z | z | z | z <;> omega))
        refine gT_t ?_
        try dsimp only
        refine gb_t (ih _ _ _ _ _ _ _ _ _ _ (by decide) (by omega) (by omega) (by first | omega | (simp only [bNode_1, bNode_p, bSet_1, bSet_p, bOver_1, bOver_p, bWrap_1, bWrap_p, bKeep_1, bKeep_p, bSlot_1, bSlot_p]; omega)) (Or.inr ⟨by omega, by first | omega | (simp only [bNode_1, bNode_p, bSet_1, bSet_p, bOver_1, bOver_p, bWrap_1, bWrap_p, bKeep_1, bKeep_p, bSlot_1, bSlot_p]; omega), by first | omega | (simp only [bNode_1, bNode_p, bSet_1, bSet_p, bOver_1, bOver_p, bWrap_1, bWrap_p, bKeep_1, bKeep_p, bSlot_1, bSlot_p]; omega), by first | omega | (simp only [bNode_1, bNode_p, bSet_1, bSet_p, bOver_1, bOver_p, bWrap_1, bWrap_p, bKeep_1, bKeep_p, bSlot_1, bSlot_p]; omega)⟩) (by simp only [lvG] at hf ⊢; omega)) (fun s13 g13 => ?_)
        have x13 := g_mono T n f _ _ _ _ _ _ _ _ _ _ s13 (by omega) (by omega) g13 1 (by first | omega | (simp only [bNode_1, bNode_p, bSet_1, bSet_p, bOver_1, bOver_p, bWrap_1, bWrap_p, bKeep_1, bKeep_p, bSlot_1, bSlot_p]; omega)) (by decide) (Or.inr ⟨by omega, by first | omega | (simp only [bNode_1, bNode_p, bSet_1, bSet_p, bOver_1, bOver_p, bWrap_1, bWrap_p, bKeep_1, bKeep_p, bSlot_1, bSlot_p]; omega), by first | omega | (simp only [bNode_1, bNode_p, bSet_1, bSet_p, bOver_1, bOver_p, bWrap_1, bWrap_p, bKeep_1, bKeep_p, bSlot_1, bSlot_p]; omega), by first | omega | (simp only [bNode_1, bNode_p, bSet_1, bSet_p, bOver_1, bOver_p, bWrap_1, bWrap_p, bKeep_1, bKeep_p, bSlot_1, bSlot_p]; omega)⟩)
        obtain ⟨a13, b13, c13, d13, e13, f13, h13, i13⟩ := (x13.1 : Mo n _ _ _ s13)
        have j13 : _ ≤ s13.2.2.2.1 ∧ s13.2.2.2.1 < s13.2.2.2.2.1.1 := x13.2
        try simp only [bNode_1, bNode_p, bSet_1, bSet_p, bOver_1, bOver_p, bWrap_1, bWrap_p, bKeep_1, bKeep_p, bSlot_1, bSlot_p] at a13 b13 c13 d13 e13 f13 h13 i13 j13
        try dsimp only
        exact ⟨_, rfl⟩
      · rw [if_neg y11]
        exact ⟨_, rfl⟩
  · rw [if_neg y1]
    refine gN_t (fun w14 v14 => ?_)
    have u14 := tkN_b T n q (by omega)
    have r14 := u14.2.2.2 (by omega)
    try dsimp only
    refine gW_t (fun w15 => ?_)
    try have u15 := tkN_b T n (tkN T n q) (by omega)
    try have v15 := u15.2.2.2 (by first | omega | (split at w15 <;> omega))
    try dsimp only
    refine gb_t (ih _ _ _ _ _ _ _ _ _ _ (by decide) (by omega) (by omega) (by first | omega | (simp only [bNode_1, bNode_p, bSet_1, bSet_p, bOver_1, bOver_p, bWrap_1, bWrap_p, bKeep_1, bKeep_p, bSlot_1, bSlot_p]; omega)) (trivial) (by simp only [lvG] at hf ⊢; omega)) (fun s16 g16 => ?_)
    have x16 := g_mono T n f _ _ _ _ _ _ _ _ _ _ s16 (by omega) (by omega) g16 _ (Nat.le_refl _) (by first | omega | (simp only [bNode_1, bNode_p, bSet_1, bSet_p, bOver_1, bOver_p, bWrap_1, bWrap_p, bKeep_1, bKeep_p, bSlot_1, bSlot_p]; omega)) trivial
    obtain ⟨a16, b16, c16, d16, e16, f16, h16, i16⟩ := (x16.1 : Mo n _ _ _ s16)
    have j16 : _ ≤ s16.2.2.2.1 ∧ s16.2.2.2.1 < s16.2.2.2.2.1.1 := x16.2
    try simp only [bNode_1, bNode_p, bSet_1, bSet_p, bOver_1, bOver_p, bWrap_1, bWrap_p, bKeep_1, bKeep_p, bSlot_1, bSlot_p] at a16 b16 c16 d16 e16 f16 h16 i16 j16
    try dsimp only
    by_cases hi : i = 0
    · simp only [if_pos hi]
      by_cases y17 : tkK T n s16.1 = 12
      · rw [if_pos y17]
        have u18 := tkN_b T n s16.1 (by omega)
        have v18 := u18.2.2.2 (by first | omega | (rcases y1 with z | z | z | z <;> omega) | (rcases y2 with z | z | z | z <;> omega))
        refine gT_t ?_
        try dsimp only
        refine gb_t (ih _ _ _ _ _ _ _ _ _ _ (by decide) (by omega) (by omega) (by first | omega | (simp only [bNode_1, bNode_p, bSet_1, bSet_p, bOver_1, bOver_p, bWrap_1, bWrap_p, bKeep_1, bKeep_p, bSlot_1, bSlot_p]; omega)) (Or.inr ⟨by first | omega | (simp only [bNode_1, bNode_p, bSet_1, bSet_p, bOver_1, bOver_p, bWrap_1, bWrap_p, bKeep_1, bKeep_p, bSlot_1, bSlot_p]; omega), by first | omega | (simp only [bNode_1, bNode_p, bSet_1, bSet_p, bOver_1, bOver_p, bWrap_1, bWrap_p, bKeep_1, bKeep_p, bSlot_1, bSlot_p]; omega), by first | omega | (simp only [bNode_1, bNode_p, bSet_1, bSet_p, bOver_1, bOver_p, bWrap_1, bWrap_p, bKeep_1, bKeep_p, bSlot_1, bSlot_p]; omega), by first | omega | (simp only [bNode_1, bNode_p, bSet_1, bSet_p, bOver_1, bOver_p, bWrap_1, bWrap_p, bKeep_1, bKeep_p, bSlot_1, bSlot_p]; omega)⟩) (by simp only [lvG] at hf ⊢; omega)) (fun s19 g19 => ?_)
        have x19 := g_mono T n f _ _ _ _ _ _ _ _ _ _ s19 (by omega) (by omega) g19 1 (by first | omega | (simp only [bNode_1, bNode_p, bSet_1, bSet_p, bOver_1, bOver_p, bWrap_1, bWrap_p, bKeep_1, bKeep_p, bSlot_1, bSlot_p]; omega)) (by decide) (Or.inr ⟨by first | omega | (simp only [bNode_1, bNode_p, bSet_1, bSet_p, bOver_1, bOver_p, bWrap_1, bWrap_p, bKeep_1, bKeep_p, bSlot_1, bSlot_p]; omega), by first | omega | (simp only [bNode_1, bNode_p, bSet_1, bSet_p, bOver_1, bOver_p, bWrap_1, bWrap_p, bKeep_1, bKeep_p, bSlot_1, bSlot_p]; omega), by first | omega | (simp only [bNode_1, bNode_p, bSet_1, bSet_p, bOver_1, bOver_p, bWrap_1, bWrap_p, bKeep_1, bKeep_p, bSlot_1, bSlot_p]; omega), by first | omega | (simp only [bNode_1, bNode_p, bSet_1, bSet_p, bOver_1, bOver_p, bWrap_1, bWrap_p, bKeep_1, bKeep_p, bSlot_1, bSlot_p]; omega)⟩)
        obtain ⟨a19, b19, c19, d19, e19, f19, h19, i19⟩ := (x19.1 : Mo n _ _ _ s19)
        have j19 : _ ≤ s19.2.2.2.1 ∧ s19.2.2.2.1 < s19.2.2.2.2.1.1 := x19.2
        try simp only [bNode_1, bNode_p, bSet_1, bSet_p, bOver_1, bOver_p, bWrap_1, bWrap_p, bKeep_1, bKeep_p, bSlot_1, bSlot_p] at a19 b19 c19 d19 e19 f19 h19 i19 j19
        try dsimp only
        exact ⟨_, rfl⟩
      · rw [if_neg y17]
        exact ⟨_, rfl⟩
    · simp only [if_neg hi]
      by_cases y20 : tkK T n s16.1 = 12
      · rw [if_pos y20]
        have u21 := tkN_b T n s16.1 (by omega)
        have v21 := u21.2.2.2 (by first | omega | (rcases y1 with z | z | z | z <;> omega) | (rcases y2 with z | z | z | z <;> omega))
        refine gT_t ?_
        try dsimp only
        refine gb_t (ih _ _ _ _ _ _ _ _ _ _ (by decide) (by omega) (by omega) (by first | omega | (simp only [bNode_1, bNode_p, bSet_1, bSet_p, bOver_1, bOver_p, bWrap_1, bWrap_p, bKeep_1, bKeep_p, bSlot_1, bSlot_p]; omega)) (Or.inr ⟨by omega, by first | omega | (simp only [bNode_1, bNode_p, bSet_1, bSet_p, bOver_1, bOver_p, bWrap_1, bWrap_p, bKeep_1, bKeep_p, bSlot_1, bSlot_p]; omega), by first | omega | (simp only [bNode_1, bNode_p, bSet_1, bSet_p, bOver_1, bOver_p, bWrap_1, bWrap_p, bKeep_1, bKeep_p, bSlot_1, bSlot_p]; omega), by first | omega | (simp only [bNode_1, bNode_p, bSet_1, bSet_p, bOver_1, bOver_p, bWrap_1, bWrap_p, bKeep_1, bKeep_p, bSlot_1, bSlot_p]; omega)⟩) (by simp only [lvG] at hf ⊢; omega)) (fun s22 g22 => ?_)
        have x22 := g_mono T n f _ _ _ _ _ _ _ _ _ _ s22 (by omega) (by omega) g22 1 (by first | omega | (simp only [bNode_1, bNode_p, bSet_1, bSet_p, bOver_1, bOver_p, bWrap_1, bWrap_p, bKeep_1, bKeep_p, bSlot_1, bSlot_p]; omega)) (by decide) (Or.inr ⟨by omega, by first | omega | (simp only [bNode_1, bNode_p, bSet_1, bSet_p, bOver_1, bOver_p, bWrap_1, bWrap_p, bKeep_1, bKeep_p, bSlot_1, bSlot_p]; omega), by first | omega | (simp only [bNode_1, bNode_p, bSet_1, bSet_p, bOver_1, bOver_p, bWrap_1, bWrap_p, bKeep_1, bKeep_p, bSlot_1, bSlot_p]; omega), by first | omega | (simp only [bNode_1, bNode_p, bSet_1, bSet_p, bOver_1, bOver_p, bWrap_1, bWrap_p, bKeep_1, bKeep_p, bSlot_1, bSlot_p]; omega)⟩)
        obtain ⟨a22, b22, c22, d22, e22, f22, h22, i22⟩ := (x22.1 : Mo n _ _ _ s22)
        have j22 : _ ≤ s22.2.2.2.1 ∧ s22.2.2.2.1 < s22.2.2.2.2.1.1 := x22.2
        try simp only [bNode_1, bNode_p, bSet_1, bSet_p, bOver_1, bOver_p, bWrap_1, bWrap_p, bKeep_1, bKeep_p, bSlot_1, bSlot_p] at a22 b22 c22 d22 e22 f22 h22 i22 j22
        try dsimp only
        exact ⟨_, rfl⟩
      · rw [if_neg y20]
        exact ⟨_, rfl⟩
theorem gt_18 {T : Nat → Int32} {n f : Nat} (ih : GT T n f) {E : En} {o q v i e c g : Nat} {b : BT} (hq : q ≤ n) (hv : v ≤ 60) (hb : 1 ≤ b.1) (hN : Nd0 18 1 b i e c) (hf : 30 * (n - q) + lvG 18 + 1 ≤ f + 1) : ∃ y, G T n (f + 1) 18 E o q v i e c g b = some y := by
  rw [G_18]
  by_cases y1 : tkK T n q = 12
  · rw [if_pos y1]
    have u2 := tkN_b T n q (by omega)
    have v2 := u2.2.2.2 (by first | omega | (rcases y1 with z | z | z | z <;> omega) | (rcases y2 with z | z | z | z <;> omega))
    refine gT_t ?_
    try dsimp only
    refine gN_t (fun w3 v3 => ?_)
    have u3 := tkN_b T n (tkN T n q) (by omega)
    have r3 := u3.2.2.2 (by omega)
    try dsimp only
    refine gb_t (ih _ _ _ _ _ _ _ _ _ _ (by decide) (by omega) (by omega) (by first | omega | (simp only [bNode_1, bNode_p, bSet_1, bSet_p, bOver_1, bOver_p, bWrap_1, bWrap_p, bKeep_1, bKeep_p, bSlot_1, bSlot_p]; omega)) (trivial) (by simp only [lvG] at hf ⊢; omega)) (fun s4 g4 => ?_)
    have x4 := g_mono T n f _ _ _ _ _ _ _ _ _ _ s4 (by omega) (by omega) g4 1 (by first | omega | (simp only [bNode_1, bNode_p, bSet_1, bSet_p, bOver_1, bOver_p, bWrap_1, bWrap_p, bKeep_1, bKeep_p, bSlot_1, bSlot_p]; omega)) (by decide) (trivial)
    obtain ⟨a4, b4, c4, d4, e4, f4, h4, i4⟩ := (x4.1 : Mo n _ _ _ s4)
    try simp only [bNode_1, bNode_p, bSet_1, bSet_p, bOver_1, bOver_p, bWrap_1, bWrap_p, bKeep_1, bKeep_p, bSlot_1, bSlot_p] at a4 b4 c4 d4 e4 f4 h4 i4
    try dsimp only
    exact ⟨_, rfl⟩
  · rw [if_neg y1]
    exact ⟨_, rfl⟩
theorem g_tot (T : Nat → Int32) (n : Nat) : ∀ f : Nat, GT T n f
  | 0 => fun nt E o q v i e c g b _ _ _ _ _ hf => absurd hf (by omega)
  | f + 1 => fun nt E o q v i e c g b hnt hq hv hb hN hf => by
    have ih := g_tot T n f
    match nt, hnt, hN, hf with
    | 0, _, hN, hf => exact gt_0 ih hq hv hb hN hf
    | 1, _, hN, hf => exact gt_1 ih hq hv hb hN hf
    | 2, _, hN, hf => exact gt_2 ih hq hv hb hN hf
    | 3, _, hN, hf => exact gt_3 ih hq hv hb hN hf
    | 4, _, hN, hf => exact gt_4 ih hq hv hb hN hf
    | 5, _, hN, hf => exact gt_5 ih hq hv hb hN hf
    | 6, _, hN, hf => exact gt_6 ih hq hv hb hN hf
    | 7, _, hN, hf => exact gt_7 ih hq hv hb hN hf
    | 8, _, hN, hf => exact gt_8 ih hq hv hb hN hf
    | 9, _, hN, hf => exact gt_9 ih hq hv hb hN hf
    | 10, _, hN, hf => exact gt_10 ih hq hv hb hN hf
    | 11, _, hN, hf => exact gt_11 ih hq hv hb hN hf
    | 12, _, hN, hf => exact gt_12 ih hq hv hb hN hf
    | 13, _, hN, hf => exact gt_13 ih hq hv hb hN hf
    | 14, _, hN, hf => exact gt_14 ih hq hv hb hN hf
    | 15, _, hN, hf => exact gt_15 ih hq hv hb hN hf
    | 16, _, hN, hf => exact gt_16 ih hq hv hb hN hf
    | 17, _, hN, hf => exact gt_17 ih hq hv hb hN hf
    | 18, _, hN, hf => exact gt_18 ih hq hv hb hN hf
    | nt + 19, hnt, _, _ => exact absurd hnt (by omega)

/-! What the grammar lays is a tree (made by tree.py). -/
def rk : Nat → Nat
  | 0 => 14
  | 2 => 12
  | 4 => 10
  | 5 => 10
  | 6 => 8
  | 8 => 6
  | _ => 4
def TPre (FN : Nat → Nat → Prop) (fl : Nat → Prop) (un nt o v i e c g j lo K : Nat) (b : BT) : Prop := match nt with
  | 1 => LPt FN fl un v (20 - o) 14 K lo b e ∧ 60 - v ≤ K
  | 3 => LPt FN fl un v (20 - o) 12 K lo b e ∧ 60 - v ≤ K
  | 7 => LPt FN fl un v (20 - o) 8 K lo b e ∧ 60 - v ≤ K
  | 9 => LPt FN fl un v (20 - o) 6 K lo b e ∧ 60 - v ≤ K
  | 12 => LPt FN fl un v (20 - o) 4 K lo b e ∧ 60 - v ≤ K
  | 14 => (c = 0 ∧ lo = b.1 ∧ K = 60 - v) ∨ (LL (PX FN fl un (20 - o) K) un v lo b i e (c - 1) ∧ 1 ≤ c ∧ 60 - v ≤ K ∧ 1 ≤ i ∧ i < b.1)
  | 15 => LL (PX FN fl un (20 - o) K) un v lo b i e (c - 1) ∧ (1 ≤ c ∧ c ≤ b.1) ∧ 60 - v ≤ K ∧ 1 ≤ i ∧ i < b.1 ∧ 1 ≤ o
  | 16 => (∃ c', LL (PB2 FN fl un (20 - o) K) un v lo b i e c') ∧ 60 - v ≤ K
  | 17 => (i = 0 ∧ lo = b.1 ∧ K = 60 - v) ∨ ((1 ≤ i ∧ i < b.1) ∧ ∃ c', LL (PJ FN fl un g (20 - o) K) un v lo b i e c' ∧ c' + 1 + (60 - v) ≤ K)
  | 18 => ∃ c', LL (PNm un g) un v lo b j e c' ∧ c' + 1 ≤ v
  | _ => lo = b.1 ∧ K = 60 - v
def TPost (FN : Nat → Nat → Prop) (fl : Nat → Prop) (un nt o v i e c g j lo K : Nat) (b : BT) (r : RT) : Prop := match nt with
  | 1 => Frm un v b e r.2.2.2.2.1 ∧ LPt FN fl un r.2.1 (20 - o) 14 K lo r.2.2.2.2.1 r.2.2.2.1
  | 3 => Frm un v b e r.2.2.2.2.1 ∧ LPt FN fl un r.2.1 (20 - o) 12 K lo r.2.2.2.2.1 r.2.2.2.1
  | 7 => Frm un v b e r.2.2.2.2.1 ∧ LPt FN fl un r.2.1 (20 - o) 8 K lo r.2.2.2.2.1 r.2.2.2.1
  | 9 => Frm un v b e r.2.2.2.2.1 ∧ LPt FN fl un r.2.1 (20 - o) 6 K lo r.2.2.2.2.1 r.2.2.2.1
  | 12 => Frm un v b e r.2.2.2.2.1 ∧ LPt FN fl un r.2.1 (20 - o) 4 K lo r.2.2.2.2.1 r.2.2.2.1
  | 14 => Frm un v b e r.2.2.2.2.1 ∧ ∀ T', Agr T' un r.2.1 r.2.2.2.2.1 lo 0 → ∃ F, WN T' FN F 3 (20 - o) r.2.2.1 K (lcW fl un T') (hd r.2.2.2.1)
  | 15 => Frm un v b e r.2.2.2.2.1 ∧ LPt FN fl un r.2.1 (20 - o + 1) 4 K lo r.2.2.2.2.1 r.2.2.2.1
  | 16 => Frm un v b e r.2.2.2.2.1 ∧ ∃ c', LL (PB2 FN fl un (20 - o) K) un r.2.1 lo r.2.2.2.2.1 i r.2.2.2.1 c'
  | 17 => Frm un v b e r.2.2.2.2.1 ∧ (∀ x ∈ r.2.2.2.2.2, x.2.2 < 60) ∧ 1 ≤ r.2.2.2.1 ∧ ∃ m, m + 1 + (60 - r.2.1) ≤ K ∧ ∀ T', Agr T' un r.2.1 r.2.2.2.2.1 lo 0 → ∃ el, LSe (PJ FN fl un g (20 - o) K T') T' m r.2.2.2.1 el ∧ T' 9 el = -1
  | 18 => Frm un v b e r.2.2.2.2.1 ∧ (∀ x ∈ r.2.2.2.2.2, x.2.2 < 60) ∧ ∀ T', Agr T' un r.2.1 r.2.2.2.2.1 lo 0 → PNl un g T' j
  | _ => Frm un v b 0 r.2.2.2.2.1 ∧ LPt FN fl un r.2.1 (20 - o) (rk nt) K lo r.2.2.2.2.1 r.2.2.2.1
/-- what may be made here -/
def eFl (E : En) (j : Nat) : Prop := (j = 200 ∧ E.2.2.2.2.1 = true) ∨ (j = 201 ∧ E.2.2.2.2.2.1 = true)
abbrev GTr (T : Nat → Int32) (n f : Nat) (FN : Nat → Nat → Prop) : Prop := ∀ (nt : Nat) (E : En) (o q v i e c g : Nat) (b : BT) (r : RT) (j lo K : Nat), q ≤ n → v ≤ 60 → o ≤ 20 → b.1 + n < 70000 + q → b.2.1 + n ≤ 70000 + q → 1 ≤ b.1 → EnOK FN E → G T n f nt E o q v i e c g b = some (Sum.inr r) → TPre FN (eFl E) E.2.2.2.1 nt o v i e c g j lo K b → TPost FN (eFl E) E.2.2.2.1 nt o v i e c g j lo K b r
section FTA
variable {FN : Nat → Nat → Prop} {fl : Nat → Prop} {un vv vw : Nat} {O r K lo lo' e e' top top' : Nat} {b b' b'' : BT} {T' : Nat → Nat → Int32}
theorem Frm_ta (h1 : Frm un vv b e b') (h2 : Frm un vw b' e' b'') (he : e' = e ∨ b.1 ≤ e' ∨ e' = 0) (hv : vv ≤ vw := by omega) : Frm un vv b e b'' := Frm_tr h1 h2 hv he
theorem LP_aa (h : LPt FN fl un vv O r K lo b e) (hF : Frm un vv b e b') (hA : Agr T' un vw b' lo' top) (h1 : 1 ≤ lo') (hl : lo' ≤ lo) (ht : b.1 ≤ top ∨ top = 0) (hv : vv ≤ vw := by omega) : WX T' FN O r K (lcW fl un T') (nI e) := LP_at h hF hA hv h1 hl ht
theorem Agr_ga (hA : Agr T' un vw b' lo top) (hF : Frm un vv b e b') (h1 : 1 ≤ lo) (hl : lo ≤ lo') (he : e < lo' ∨ e = top') (ht : top = top' ∨ b.1 ≤ top ∨ top = 0) (hv : vv ≤ vw := by omega) : Agr T' un vv b lo' top' := Agr_g hA hF hv h1 hl he ht
end FTA
theorem hd_1 {e : Nat} (h : 1 ≤ e) : hd e = nI e := by unfold hd; rw [if_neg (by omega)]
theorem tk_28 {T : Nat → Int32} {n q : Nat} (h : tkK T n q = 28) : tkE T n q - 2 - q ≤ 60000 := by
  unfold tkK tkE at *
  unfold tokM at *
  by_cases c0 : q = n
  · rw [if_pos c0] at h ⊢; dsimp only; omega
  rw [if_neg c0] at h ⊢
  by_cases c1 : isL (rB T n q)
  · rw [if_pos c1] at h
    by_cases d : nameE T n (n + 1) q - q ≤ 16
    · by_cases e : wordI (seg T q (nameE T n (n + 1) q)) = -1
      · simp only [if_pos d, if_pos e] at h; unfold tkc at h; simp at h
      · simp only [if_pos d, if_neg e] at h; unfold tkc at h; simp at h; omega
    · simp only [if_neg d] at h; unfold tkc at h; simp at h
  rw [if_neg c1] at h ⊢
  by_cases c2 : isD (rB T n q)
  · rw [if_pos c2] at h
    by_cases d : digE T n (n + 1) q - q ≤ 60
    · simp only [if_pos d] at h; unfold tkc at h; simp at h
    · simp only [if_neg d] at h; unfold tkc at h; simp at h
  rw [if_neg c2] at h ⊢
  by_cases c3 : rB T n q = 34
  · rw [if_pos c3] at h ⊢
    by_cases d : (strE T n (n + 1) (q + 1) < n ∧ T (strE T n (n + 1) (q + 1)) = 34) ∧ strE T n (n + 1) (q + 1) - q - 1 ≤ 100
    · dsimp only
      rw [if_pos d.1]
      omega
    · simp only [if_neg d] at h; unfold tkc at h; simp at h
  rw [if_neg c3] at h ⊢
  dsimp only at *
  by_cases d : signF (rB T n q) (rB T n (q + 1)) = 1 ∨ signF (rB T n q) (rB T n (q + 1)) = 5 ∨ signF (rB T n q) (rB T n (q + 1)) = 16 ∨ signF (rB T n q) (rB T n (q + 1)) = 18 ∨ signF (rB T n q) (rB T n (q + 1)) = 20 ∨ signF (rB T n q) (rB T n (q + 1)) = 22
  · rw [if_pos d]; omega
  · rw [if_neg d]; omega
theorem ite_2 {p : Prop} {d : Decidable p} {x y : Int32} {P : Int32 → Prop} (hx : P x) (hy : P y) : P (if p then x else y) := by
  by_cases h : p
  · rw [if_pos h]; exact hx
  · rw [if_neg h]; exact hy

theorem gtr_0 {T : Nat → Int32} {n f : Nat} {FN : Nat → Nat → Prop} (hT : ∀ i, i < n → ∃ d, d ≤ 300 ∧ T i = nI d) (ih : GTr T n f FN) {E : En} {o q v i e c g j lo K : Nat} {b : BT} {r : RT} (hq : q ≤ n) (hv : v ≤ 60) (ho : o ≤ 20) (hbn : b.1 + n < 70000 + q) (hbp : b.2.1 + n ≤ 70000 + q) (hb1 : 1 ≤ b.1) (hE : EnOK FN E) (hG : G T n (f + 1) 0 E o q v i e c g b = some (Sum.inr r)) (hN : TPre FN (eFl E) E.2.2.2.1 0 o v i e c g j lo K b) : TPost FN (eFl E) E.2.2.2.1 0 o v i e c g j lo K b r := by
  have mo := g_mono T n f
  rw [G_0] at hG
  obtain ⟨rfl, rfl⟩ := hN
  obtain ⟨s1, g1, hG⟩ := gb_s hG
  have x1 := mo _ _ _ _ _ _ _ _ _ _ s1 (by omega) (by omega) g1 1 (by first | omega | (simp only [bNode_1, bNode_p, bSet_1, bSet_p, bOver_1, bOver_p, bWrap_1, bWrap_p, bKeep_1, bKeep_p, bSlot_1, bSlot_p]; omega)) (Nat.le_refl 1) (trivial)
  obtain ⟨a1, b1, c1, d1, e1, f1, h1, i1⟩ := (x1.1 : Mo n _ _ _ s1)
  have j1 := x1.2
  have j1 : 1 ≤ s1.2.2.2.1 ∧ s1.2.2.2.1 < s1.2.2.2.2.1.1 := j1
  try simp only [bNode_1, bNode_p, bSet_1, bSet_p, bOver_1, bOver_p, bWrap_1, bWrap_p, bKeep_1, bKeep_p, bSlot_1, bSlot_p] at a1 b1 c1 d1 e1 f1 h1 i1
  have y1' := ih 2 _ _ _ _ _ _ _ _ _ s1 (0) (_) (_) (by omega) (by omega) (by omega) (by first | omega | (simp only [bNode_1, bNode_p, bSet_1, bSet_p, bOver_1, bOver_p, bWrap_1, bWrap_p, bKeep_1, bKeep_p, bSlot_1, bSlot_p]; omega)) (by first | omega | (simp only [bNode_1, bNode_p, bSet_1, bSet_p, bOver_1, bOver_p, bWrap_1, bWrap_p, bKeep_1, bKeep_p, bSlot_1, bSlot_p]; omega)) (by first | omega | (simp only [bNode_1, bNode_p, bSet_1, bSet_p, bOver_1, bOver_p, bWrap_1, bWrap_p, bKeep_1, bKeep_p, bSlot_1, bSlot_p]; omega)) (hE) g1 (⟨rfl, rfl⟩)
  have y1 : Frm E.2.2.2.1 v b 0 s1.2.2.2.2.1 ∧ LPt FN (eFl E) E.2.2.2.1 s1.2.1 (20 - o) 12 (60 - v) b.1 s1.2.2.2.2.1 s1.2.2.2.1 := y1'
  try dsimp only at hG
  have x2 := mo _ _ _ _ _ _ _ _ _ _ r (by omega) (by omega) hG 1 (by first | omega | (simp only [bNode_1, bNode_p, bSet_1, bSet_p, bOver_1, bOver_p, bWrap_1, bWrap_p, bKeep_1, bKeep_p, bSlot_1, bSlot_p]; omega)) (Nat.le_refl 1) ((⟨by omega, by first | omega | (simp only [bNode_1, bNode_p, bSet_1, bSet_p, bOver_1, bOver_p, bWrap_1, bWrap_p, bKeep_1, bKeep_p, bSlot_1, bSlot_p]; omega)⟩ : 1 ≤ _ ∧ _ < _))
  obtain ⟨a2, b2, c2, d2, e2, f2, h2, i2⟩ := (x2.1 : Mo n _ _ _ r)
  have j2 := x2.2
  have j2 : 1 ≤ r.2.2.2.1 ∧ r.2.2.2.1 < r.2.2.2.2.1.1 := j2
  try simp only [bNode_1, bNode_p, bSet_1, bSet_p, bOver_1, bOver_p, bWrap_1, bWrap_p, bKeep_1, bKeep_p, bSlot_1, bSlot_p] at a2 b2 c2 d2 e2 f2 h2 i2
  have y2' := ih 1 _ _ _ _ _ _ _ _ _ r (0) (b.1) ((60 - v)) (by omega) (by omega) (by omega) (by first | omega | (simp only [bNode_1, bNode_p, bSet_1, bSet_p, bOver_1, bOver_p, bWrap_1, bWrap_p, bKeep_1, bKeep_p, bSlot_1, bSlot_p]; omega)) (by first | omega | (simp only [bNode_1, bNode_p, bSet_1, bSet_p, bOver_1, bOver_p, bWrap_1, bWrap_p, bKeep_1, bKeep_p, bSlot_1, bSlot_p]; omega)) (by first | omega | (simp only [bNode_1, bNode_p, bSet_1, bSet_p, bOver_1, bOver_p, bWrap_1, bWrap_p, bKeep_1, bKeep_p, bSlot_1, bSlot_p]; omega)) (hE) hG (⟨LP_mo y1.2 (Nat.le_refl _) (Or.inl ⟨rfl, by decide⟩), by omega⟩)
  have y2 : Frm E.2.2.2.1 s1.2.1 s1.2.2.2.2.1 s1.2.2.2.1 r.2.2.2.2.1 ∧ LPt FN (eFl E) E.2.2.2.1 r.2.1 (20 - o) 14 (60 - v) b.1 r.2.2.2.2.1 r.2.2.2.1 := y2'
  exact ⟨Frm_ta y1.1 y2.1 (Or.inr (Or.inl y1.2.2.1)), y2.2⟩
theorem gtr_1 {T : Nat → Int32} {n f : Nat} {FN : Nat → Nat → Prop} (hT : ∀ i, i < n → ∃ d, d ≤ 300 ∧ T i = nI d) (ih : GTr T n f FN) {E : En} {o q v i e c g j lo K : Nat} {b : BT} {r : RT} (hq : q ≤ n) (hv : v ≤ 60) (ho : o ≤ 20) (hbn : b.1 + n < 70000 + q) (hbp : b.2.1 + n ≤ 70000 + q) (hb1 : 1 ≤ b.1) (hE : EnOK FN E) (hG : G T n (f + 1) 1 E o q v i e c g b = some (Sum.inr r)) (hN : TPre FN (eFl E) E.2.2.2.1 1 o v i e c g j lo K b) : TPost FN (eFl E) E.2.2.2.1 1 o v i e c g j lo K b r := by
  have mo := g_mono T n f
  rw [G_1] at hG
  have hN : LPt FN (eFl E) E.2.2.2.1 v (20 - o) 14 K lo b e ∧ 60 - v ≤ K := hN
  have n1 := hN.1.1
  have n2 := hN.1.2.1
  have n3 := hN.1.2.2.1
  by_cases y1 : tkK T n q = 65
  · rw [if_pos y1] at hG
    obtain ⟨t2, hG⟩ := gT_s hG
    have u2 := tkN_b T n q (by omega)
    try dsimp only at hG
    obtain ⟨s3, g3, hG⟩ := gb_s hG
    have x3 := mo _ _ _ _ _ _ _ _ _ _ s3 (by omega) (by omega) g3 1 (by first | omega | (simp only [bNode_1, bNode_p, bSet_1, bSet_p, bOver_1, bOver_p, bWrap_1, bWrap_p, bKeep_1, bKeep_p, bSlot_1, bSlot_p]; omega)) (Nat.le_refl 1) (trivial)
    obtain ⟨a3, b3, c3, d3, e3, f3, h3, i3⟩ := (x3.1 : Mo n _ _ _ s3)
    have j3 := x3.2
    have j3 : 1 ≤ s3.2.2.2.1 ∧ s3.2.2.2.1 < s3.2.2.2.2.1.1 := j3
    try simp only [bNode_1, bNode_p, bSet_1, bSet_p, bOver_1, bOver_p, bWrap_1, bWrap_p, bKeep_1, bKeep_p, bSlot_1, bSlot_p] at a3 b3 c3 d3 e3 f3 h3 i3
    have y3' := ih 2 _ _ _ _ _ _ _ _ _ s3 (0) (_) (_) (by omega) (by omega) (by omega) (by first | omega | (simp only [bNode_1, bNode_p, bSet_1, bSet_p, bOver_1, bOver_p, bWrap_1, bWrap_p, bKeep_1, bKeep_p, bSlot_1, bSlot_p]; omega)) (by first | omega | (simp only [bNode_1, bNode_p, bSet_1, bSet_p, bOver_1, bOver_p, bWrap_1, bWrap_p, bKeep_1, bKeep_p, bSlot_1, bSlot_p]; omega)) (by first | omega | (simp only [bNode_1, bNode_p, bSet_1, bSet_p, bOver_1, bOver_p, bWrap_1, bWrap_p, bKeep_1, bKeep_p, bSlot_1, bSlot_p]; omega)) (hE) g3 (⟨rfl, rfl⟩)
    have y3 : Frm E.2.2.2.1 v b 0 s3.2.2.2.2.1 ∧ LPt FN (eFl E) E.2.2.2.1 s3.2.1 (20 - o) 12 (60 - v) b.1 s3.2.2.2.2.1 s3.2.2.2.1 := y3'
    try dsimp only at hG
    have x4 := mo _ _ _ _ _ _ _ _ _ _ r (by omega) (by omega) hG 1 (by first | omega | (simp only [bNode_1, bNode_p, bSet_1, bSet_p, bOver_1, bOver_p, bWrap_1, bWrap_p, bKeep_1, bKeep_p, bSlot_1, bSlot_p]; omega)) (Nat.le_refl 1) ((⟨by omega, by first | omega | (simp only [bNode_1, bNode_p, bSet_1, bSet_p, bOver_1, bOver_p, bWrap_1, bWrap_p, bKeep_1, bKeep_p, bSlot_1, bSlot_p]; omega)⟩ : 1 ≤ _ ∧ _ < _))
    obtain ⟨a4, b4, c4, d4, e4, f4, h4, i4⟩ := (x4.1 : Mo n _ _ _ r)
    have j4 := x4.2
    have j4 : 1 ≤ r.2.2.2.1 ∧ r.2.2.2.1 < r.2.2.2.2.1.1 := j4
    try simp only [bNode_1, bNode_p, bSet_1, bSet_p, bOver_1, bOver_p, bWrap_1, bWrap_p, bKeep_1, bKeep_p, bSlot_1, bSlot_p] at a4 b4 c4 d4 e4 f4 h4 i4
    have y4' := ih 1 _ _ _ _ _ _ _ _ _ r (0) (lo) (K) (by omega) (by omega) (by omega) (by first | omega | (simp only [bNode_1, bNode_p, bSet_1, bSet_p, bOver_1, bOver_p, bWrap_1, bWrap_p, bKeep_1, bKeep_p, bSlot_1, bSlot_p]; omega)) (by first | omega | (simp only [bNode_1, bNode_p, bSet_1, bSet_p, bOver_1, bOver_p, bWrap_1, bWrap_p, bKeep_1, bKeep_p, bSlot_1, bSlot_p]; omega)) (by first | omega | (simp only [bNode_1, bNode_p, bSet_1, bSet_p, bOver_1, bOver_p, bWrap_1, bWrap_p, bKeep_1, bKeep_p, bSlot_1, bSlot_p]; omega)) (hE) hG (⟨LP_ov hN.1 (Frm_wk y3.1) y3.2 (by omega) (by omega) (Or.inl ⟨rfl, by decide⟩) (by decide) (by omega), by omega⟩)
    have y4 : Frm E.2.2.2.1 s3.2.1 (bOver s3.2.2.2.2.1 25 0 e (nI s3.2.2.2.1)) s3.2.2.2.2.1.1 r.2.2.2.2.1 ∧ LPt FN (eFl E) E.2.2.2.1 r.2.1 (20 - o) 14 K lo r.2.2.2.2.1 r.2.2.2.1 := y4'
    exact ⟨Frm_ta (Frm_ta (Frm_wk y3.1) (Frm_over (vv := v)) (Or.inl rfl)) y4.1 (Or.inr (Or.inl (by omega))), y4.2⟩
  · rw [if_neg y1] at hG
    cases hG
    exact ⟨Frm_rf, hN.1⟩
theorem gtr_2 {T : Nat → Int32} {n f : Nat} {FN : Nat → Nat → Prop} (hT : ∀ i, i < n → ∃ d, d ≤ 300 ∧ T i = nI d) (ih : GTr T n f FN) {E : En} {o q v i e c g j lo K : Nat} {b : BT} {r : RT} (hq : q ≤ n) (hv : v ≤ 60) (ho : o ≤ 20) (hbn : b.1 + n < 70000 + q) (hbp : b.2.1 + n ≤ 70000 + q) (hb1 : 1 ≤ b.1) (hE : EnOK FN E) (hG : G T n (f + 1) 2 E o q v i e c g b = some (Sum.inr r)) (hN : TPre FN (eFl E) E.2.2.2.1 2 o v i e c g j lo K b) : TPost FN (eFl E) E.2.2.2.1 2 o v i e c g j lo K b r := by
  have mo := g_mono T n f
  rw [G_2] at hG
  obtain ⟨rfl, rfl⟩ := hN
  obtain ⟨s1, g1, hG⟩ := gb_s hG
  have x1 := mo _ _ _ _ _ _ _ _ _ _ s1 (by omega) (by omega) g1 1 (by first | omega | (simp only [bNode_1, bNode_p, bSet_1, bSet_p, bOver_1, bOver_p, bWrap_1, bWrap_p, bKeep_1, bKeep_p, bSlot_1, bSlot_p]; omega)) (Nat.le_refl 1) (trivial)
  obtain ⟨a1, b1, c1, d1, e1, f1, h1, i1⟩ := (x1.1 : Mo n _ _ _ s1)
  have j1 := x1.2
  have j1 : 1 ≤ s1.2.2.2.1 ∧ s1.2.2.2.1 < s1.2.2.2.2.1.1 := j1
  try simp only [bNode_1, bNode_p, bSet_1, bSet_p, bOver_1, bOver_p, bWrap_1, bWrap_p, bKeep_1, bKeep_p, bSlot_1, bSlot_p] at a1 b1 c1 d1 e1 f1 h1 i1
  have y1' := ih 4 _ _ _ _ _ _ _ _ _ s1 (0) (_) (_) (by omega) (by omega) (by omega) (by first | omega | (simp only [bNode_1, bNode_p, bSet_1, bSet_p, bOver_1, bOver_p, bWrap_1, bWrap_p, bKeep_1, bKeep_p, bSlot_1, bSlot_p]; omega)) (by first | omega | (simp only [bNode_1, bNode_p, bSet_1, bSet_p, bOver_1, bOver_p, bWrap_1, bWrap_p, bKeep_1, bKeep_p, bSlot_1, bSlot_p]; omega)) (by first | omega | (simp only [bNode_1, bNode_p, bSet_1, bSet_p, bOver_1, bOver_p, bWrap_1, bWrap_p, bKeep_1, bKeep_p, bSlot_1, bSlot_p]; omega)) (hE) g1 (⟨rfl, rfl⟩)
  have y1 : Frm E.2.2.2.1 v b 0 s1.2.2.2.2.1 ∧ LPt FN (eFl E) E.2.2.2.1 s1.2.1 (20 - o) 10 (60 - v) b.1 s1.2.2.2.2.1 s1.2.2.2.1 := y1'
  try dsimp only at hG
  have x2 := mo _ _ _ _ _ _ _ _ _ _ r (by omega) (by omega) hG 1 (by first | omega | (simp only [bNode_1, bNode_p, bSet_1, bSet_p, bOver_1, bOver_p, bWrap_1, bWrap_p, bKeep_1, bKeep_p, bSlot_1, bSlot_p]; omega)) (Nat.le_refl 1) ((⟨by omega, by first | omega | (simp only [bNode_1, bNode_p, bSet_1, bSet_p, bOver_1, bOver_p, bWrap_1, bWrap_p, bKeep_1, bKeep_p, bSlot_1, bSlot_p]; omega)⟩ : 1 ≤ _ ∧ _ < _))
  obtain ⟨a2, b2, c2, d2, e2, f2, h2, i2⟩ := (x2.1 : Mo n _ _ _ r)
  have j2 := x2.2
  have j2 : 1 ≤ r.2.2.2.1 ∧ r.2.2.2.1 < r.2.2.2.2.1.1 := j2
  try simp only [bNode_1, bNode_p, bSet_1, bSet_p, bOver_1, bOver_p, bWrap_1, bWrap_p, bKeep_1, bKeep_p, bSlot_1, bSlot_p] at a2 b2 c2 d2 e2 f2 h2 i2
  have y2' := ih 3 _ _ _ _ _ _ _ _ _ r (0) (b.1) ((60 - v)) (by omega) (by omega) (by omega) (by first | omega | (simp only [bNode_1, bNode_p, bSet_1, bSet_p, bOver_1, bOver_p, bWrap_1, bWrap_p, bKeep_1, bKeep_p, bSlot_1, bSlot_p]; omega)) (by first | omega | (simp only [bNode_1, bNode_p, bSet_1, bSet_p, bOver_1, bOver_p, bWrap_1, bWrap_p, bKeep_1, bKeep_p, bSlot_1, bSlot_p]; omega)) (by first | omega | (simp only [bNode_1, bNode_p, bSet_1, bSet_p, bOver_1, bOver_p, bWrap_1, bWrap_p, bKeep_1, bKeep_p, bSlot_1, bSlot_p]; omega)) (hE) hG (⟨LP_mo y1.2 (Nat.le_refl _) (Or.inl ⟨rfl, by decide⟩), by omega⟩)
  have y2 : Frm E.2.2.2.1 s1.2.1 s1.2.2.2.2.1 s1.2.2.2.1 r.2.2.2.2.1 ∧ LPt FN (eFl E) E.2.2.2.1 r.2.1 (20 - o) 12 (60 - v) b.1 r.2.2.2.2.1 r.2.2.2.1 := y2'
  exact ⟨Frm_ta y1.1 y2.1 (Or.inr (Or.inl y1.2.2.1)), y2.2⟩
theorem gtr_3 {T : Nat → Int32} {n f : Nat} {FN : Nat → Nat → Prop} (hT : ∀ i, i < n → ∃ d, d ≤ 300 ∧ T i = nI d) (ih : GTr T n f FN) {E : En} {o q v i e c g j lo K : Nat} {b : BT} {r : RT} (hq : q ≤ n) (hv : v ≤ 60) (ho : o ≤ 20) (hbn : b.1 + n < 70000 + q) (hbp : b.2.1 + n ≤ 70000 + q) (hb1 : 1 ≤ b.1) (hE : EnOK FN E) (hG : G T n (f + 1) 3 E o q v i e c g b = some (Sum.inr r)) (hN : TPre FN (eFl E) E.2.2.2.1 3 o v i e c g j lo K b) : TPost FN (eFl E) E.2.2.2.1 3 o v i e c g j lo K b r := by
  have mo := g_mono T n f
  rw [G_3] at hG
  have hN : LPt FN (eFl E) E.2.2.2.1 v (20 - o) 12 K lo b e ∧ 60 - v ≤ K := hN
  have n1 := hN.1.1
  have n2 := hN.1.2.1
  have n3 := hN.1.2.2.1
  by_cases y1 : tkK T n q = 64
  · rw [if_pos y1] at hG
    obtain ⟨t2, hG⟩ := gT_s hG
    have u2 := tkN_b T n q (by omega)
    try dsimp only at hG
    obtain ⟨s3, g3, hG⟩ := gb_s hG
    have x3 := mo _ _ _ _ _ _ _ _ _ _ s3 (by omega) (by omega) g3 1 (by first | omega | (simp only [bNode_1, bNode_p, bSet_1, bSet_p, bOver_1, bOver_p, bWrap_1, bWrap_p, bKeep_1, bKeep_p, bSlot_1, bSlot_p]; omega)) (Nat.le_refl 1) (trivial)
    obtain ⟨a3, b3, c3, d3, e3, f3, h3, i3⟩ := (x3.1 : Mo n _ _ _ s3)
    have j3 := x3.2
    have j3 : 1 ≤ s3.2.2.2.1 ∧ s3.2.2.2.1 < s3.2.2.2.2.1.1 := j3
    try simp only [bNode_1, bNode_p, bSet_1, bSet_p, bOver_1, bOver_p, bWrap_1, bWrap_p, bKeep_1, bKeep_p, bSlot_1, bSlot_p] at a3 b3 c3 d3 e3 f3 h3 i3
    have y3' := ih 4 _ _ _ _ _ _ _ _ _ s3 (0) (_) (_) (by omega) (by omega) (by omega) (by first | omega | (simp only [bNode_1, bNode_p, bSet_1, bSet_p, bOver_1, bOver_p, bWrap_1, bWrap_p, bKeep_1, bKeep_p, bSlot_1, bSlot_p]; omega)) (by first | omega | (simp only [bNode_1, bNode_p, bSet_1, bSet_p, bOver_1, bOver_p, bWrap_1, bWrap_p, bKeep_1, bKeep_p, bSlot_1, bSlot_p]; omega)) (by first | omega | (simp only [bNode_1, bNode_p, bSet_1, bSet_p, bOver_1, bOver_p, bWrap_1, bWrap_p, bKeep_1, bKeep_p, bSlot_1, bSlot_p]; omega)) (hE) g3 (⟨rfl, rfl⟩)
    have y3 : Frm E.2.2.2.1 v b 0 s3.2.2.2.2.1 ∧ LPt FN (eFl E) E.2.2.2.1 s3.2.1 (20 - o) 10 (60 - v) b.1 s3.2.2.2.2.1 s3.2.2.2.1 := y3'
    try dsimp only at hG
    have x4 := mo _ _ _ _ _ _ _ _ _ _ r (by omega) (by omega) hG 1 (by first | omega | (simp only [bNode_1, bNode_p, bSet_1, bSet_p, bOver_1, bOver_p, bWrap_1, bWrap_p, bKeep_1, bKeep_p, bSlot_1, bSlot_p]; omega)) (Nat.le_refl 1) ((⟨by omega, by first | omega | (simp only [bNode_1, bNode_p, bSet_1, bSet_p, bOver_1, bOver_p, bWrap_1, bWrap_p, bKeep_1, bKeep_p, bSlot_1, bSlot_p]; omega)⟩ : 1 ≤ _ ∧ _ < _))
    obtain ⟨a4, b4, c4, d4, e4, f4, h4, i4⟩ := (x4.1 : Mo n _ _ _ r)
    have j4 := x4.2
    have j4 : 1 ≤ r.2.2.2.1 ∧ r.2.2.2.1 < r.2.2.2.2.1.1 := j4
    try simp only [bNode_1, bNode_p, bSet_1, bSet_p, bOver_1, bOver_p, bWrap_1, bWrap_p, bKeep_1, bKeep_p, bSlot_1, bSlot_p] at a4 b4 c4 d4 e4 f4 h4 i4
    have y4' := ih 3 _ _ _ _ _ _ _ _ _ r (0) (lo) (K) (by omega) (by omega) (by omega) (by first | omega | (simp only [bNode_1, bNode_p, bSet_1, bSet_p, bOver_1, bOver_p, bWrap_1, bWrap_p, bKeep_1, bKeep_p, bSlot_1, bSlot_p]; omega)) (by first | omega | (simp only [bNode_1, bNode_p, bSet_1, bSet_p, bOver_1, bOver_p, bWrap_1, bWrap_p, bKeep_1, bKeep_p, bSlot_1, bSlot_p]; omega)) (by first | omega | (simp only [bNode_1, bNode_p, bSet_1, bSet_p, bOver_1, bOver_p, bWrap_1, bWrap_p, bKeep_1, bKeep_p, bSlot_1, bSlot_p]; omega)) (hE) hG (⟨LP_ov hN.1 (Frm_wk y3.1) y3.2 (by omega) (by omega) (Or.inl ⟨rfl, by decide⟩) (by decide) (by omega), by omega⟩)
    have y4 : Frm E.2.2.2.1 s3.2.1 (bOver s3.2.2.2.2.1 24 0 e (nI s3.2.2.2.1)) s3.2.2.2.2.1.1 r.2.2.2.2.1 ∧ LPt FN (eFl E) E.2.2.2.1 r.2.1 (20 - o) 12 K lo r.2.2.2.2.1 r.2.2.2.1 := y4'
    exact ⟨Frm_ta (Frm_ta (Frm_wk y3.1) (Frm_over (vv := v)) (Or.inl rfl)) y4.1 (Or.inr (Or.inl (by omega))), y4.2⟩
  · rw [if_neg y1] at hG
    cases hG
    exact ⟨Frm_rf, hN.1⟩
theorem gtr_4 {T : Nat → Int32} {n f : Nat} {FN : Nat → Nat → Prop} (hT : ∀ i, i < n → ∃ d, d ≤ 300 ∧ T i = nI d) (ih : GTr T n f FN) {E : En} {o q v i e c g j lo K : Nat} {b : BT} {r : RT} (hq : q ≤ n) (hv : v ≤ 60) (ho : o ≤ 20) (hbn : b.1 + n < 70000 + q) (hbp : b.2.1 + n ≤ 70000 + q) (hb1 : 1 ≤ b.1) (hE : EnOK FN E) (hG : G T n (f + 1) 4 E o q v i e c g b = some (Sum.inr r)) (hN : TPre FN (eFl E) E.2.2.2.1 4 o v i e c g j lo K b) : TPost FN (eFl E) E.2.2.2.1 4 o v i e c g j lo K b r := by
  have mo := g_mono T n f
  rw [G_4] at hG
  obtain ⟨rfl, rfl⟩ := hN
  by_cases y1 : tkK T n q = 66
  · rw [if_pos y1] at hG
    obtain ⟨o2, hG⟩ := gO_s hG
    obtain ⟨t3, hG⟩ := gT_s hG
    have u3 := tkN_b T n q (by omega)
    try dsimp only at hG
    obtain ⟨s4, g4, hG⟩ := gb_s hG
    have x4 := mo _ _ _ _ _ _ _ _ _ _ s4 (by omega) (by omega) g4 1 (by first | omega | (simp only [bNode_1, bNode_p, bSet_1, bSet_p, bOver_1, bOver_p, bWrap_1, bWrap_p, bKeep_1, bKeep_p, bSlot_1, bSlot_p]; omega)) (Nat.le_refl 1) (trivial)
    obtain ⟨a4, b4, c4, d4, e4, f4, h4, i4⟩ := (x4.1 : Mo n _ _ _ s4)
    have j4 := x4.2
    have j4 : 1 ≤ s4.2.2.2.1 ∧ s4.2.2.2.1 < s4.2.2.2.2.1.1 := j4
    try simp only [bNode_1, bNode_p, bSet_1, bSet_p, bOver_1, bOver_p, bWrap_1, bWrap_p, bKeep_1, bKeep_p, bSlot_1, bSlot_p] at a4 b4 c4 d4 e4 f4 h4 i4
    have y4' := ih 4 _ _ _ _ _ _ _ _ _ s4 (0) (_) (_) (by omega) (by omega) (by omega) (by first | omega | (simp only [bNode_1, bNode_p, bSet_1, bSet_p, bOver_1, bOver_p, bWrap_1, bWrap_p, bKeep_1, bKeep_p, bSlot_1, bSlot_p]; omega)) (by first | omega | (simp only [bNode_1, bNode_p, bSet_1, bSet_p, bOver_1, bOver_p, bWrap_1, bWrap_p, bKeep_1, bKeep_p, bSlot_1, bSlot_p]; omega)) (by first | omega | (simp only [bNode_1, bNode_p, bSet_1, bSet_p, bOver_1, bOver_p, bWrap_1, bWrap_p, bKeep_1, bKeep_p, bSlot_1, bSlot_p]; omega)) (hE) g4 (⟨rfl, rfl⟩)
    have y4 : Frm E.2.2.2.1 v b 0 s4.2.2.2.2.1 ∧ LPt FN (eFl E) E.2.2.2.1 s4.2.1 (20 - (o + 1)) 10 (60 - v) b.1 s4.2.2.2.2.1 s4.2.2.2.1 := y4'
    try dsimp only at hG
    cases hG
    exact ⟨Frm_ta y4.1 (Frm_node (vv := v)) (Or.inl rfl), LP_un y4.2 (Nat.le_refl _) (by decide) (by omega) (by decide) (by decide) (by omega) (Nat.le_refl _) hb1 (fun z => absurd z (by decide))⟩
  · rw [if_neg y1] at hG
    have x5 := mo _ _ _ _ _ _ _ _ _ _ r (by omega) (by omega) hG 1 (by first | omega | (simp only [bNode_1, bNode_p, bSet_1, bSet_p, bOver_1, bOver_p, bWrap_1, bWrap_p, bKeep_1, bKeep_p, bSlot_1, bSlot_p]; omega)) (Nat.le_refl 1) (trivial)
    obtain ⟨a5, b5, c5, d5, e5, f5, h5, i5⟩ := (x5.1 : Mo n _ _ _ r)
    have j5 := x5.2
    have j5 : 1 ≤ r.2.2.2.1 ∧ r.2.2.2.1 < r.2.2.2.2.1.1 := j5
    try simp only [bNode_1, bNode_p, bSet_1, bSet_p, bOver_1, bOver_p, bWrap_1, bWrap_p, bKeep_1, bKeep_p, bSlot_1, bSlot_p] at a5 b5 c5 d5 e5 f5 h5 i5
    have y5' := ih 5 _ _ _ _ _ _ _ _ _ r (0) (_) (_) (by omega) (by omega) (by omega) (by first | omega | (simp only [bNode_1, bNode_p, bSet_1, bSet_p, bOver_1, bOver_p, bWrap_1, bWrap_p, bKeep_1, bKeep_p, bSlot_1, bSlot_p]; omega)) (by first | omega | (simp only [bNode_1, bNode_p, bSet_1, bSet_p, bOver_1, bOver_p, bWrap_1, bWrap_p, bKeep_1, bKeep_p, bSlot_1, bSlot_p]; omega)) (by first | omega | (simp only [bNode_1, bNode_p, bSet_1, bSet_p, bOver_1, bOver_p, bWrap_1, bWrap_p, bKeep_1, bKeep_p, bSlot_1, bSlot_p]; omega)) (hE) hG (⟨rfl, rfl⟩)
    have y5 : Frm E.2.2.2.1 v b 0 r.2.2.2.2.1 ∧ LPt FN (eFl E) E.2.2.2.1 r.2.1 (20 - o) 10 (60 - v) b.1 r.2.2.2.2.1 r.2.2.2.1 := y5'
    exact y5
theorem gtr_5 {T : Nat → Int32} {n f : Nat} {FN : Nat → Nat → Prop} (hT : ∀ i, i < n → ∃ d, d ≤ 300 ∧ T i = nI d) (ih : GTr T n f FN) {E : En} {o q v i e c g j lo K : Nat} {b : BT} {r : RT} (hq : q ≤ n) (hv : v ≤ 60) (ho : o ≤ 20) (hbn : b.1 + n < 70000 + q) (hbp : b.2.1 + n ≤ 70000 + q) (hb1 : 1 ≤ b.1) (hE : EnOK FN E) (hG : G T n (f + 1) 5 E o q v i e c g b = some (Sum.inr r)) (hN : TPre FN (eFl E) E.2.2.2.1 5 o v i e c g j lo K b) : TPost FN (eFl E) E.2.2.2.1 5 o v i e c g j lo K b r := by
  have mo := g_mono T n f
  rw [G_5] at hG
  obtain ⟨rfl, rfl⟩ := hN
  obtain ⟨s1, g1, hG⟩ := gb_s hG
  have x1 := mo _ _ _ _ _ _ _ _ _ _ s1 (by omega) (by omega) g1 1 (by first | omega | (simp only [bNode_1, bNode_p, bSet_1, bSet_p, bOver_1, bOver_p, bWrap_1, bWrap_p, bKeep_1, bKeep_p, bSlot_1, bSlot_p]; omega)) (Nat.le_refl 1) (trivial)
  obtain ⟨a1, b1, c1, d1, e1, f1, h1, i1⟩ := (x1.1 : Mo n _ _ _ s1)
  have j1 := x1.2
  have j1 : 1 ≤ s1.2.2.2.1 ∧ s1.2.2.2.1 < s1.2.2.2.2.1.1 := j1
  try simp only [bNode_1, bNode_p, bSet_1, bSet_p, bOver_1, bOver_p, bWrap_1, bWrap_p, bKeep_1, bKeep_p, bSlot_1, bSlot_p] at a1 b1 c1 d1 e1 f1 h1 i1
  have y1' := ih 6 _ _ _ _ _ _ _ _ _ s1 (0) (_) (_) (by omega) (by omega) (by omega) (by first | omega | (simp only [bNode_1, bNode_p, bSet_1, bSet_p, bOver_1, bOver_p, bWrap_1, bWrap_p, bKeep_1, bKeep_p, bSlot_1, bSlot_p]; omega)) (by first | omega | (simp only [bNode_1, bNode_p, bSet_1, bSet_p, bOver_1, bOver_p, bWrap_1, bWrap_p, bKeep_1, bKeep_p, bSlot_1, bSlot_p]; omega)) (by first | omega | (simp only [bNode_1, bNode_p, bSet_1, bSet_p, bOver_1, bOver_p, bWrap_1, bWrap_p, bKeep_1, bKeep_p, bSlot_1, bSlot_p]; omega)) (hE) g1 (⟨rfl, rfl⟩)
  have y1 : Frm E.2.2.2.1 v b 0 s1.2.2.2.2.1 ∧ LPt FN (eFl E) E.2.2.2.1 s1.2.1 (20 - o) 8 (60 - v) b.1 s1.2.2.2.2.1 s1.2.2.2.1 := y1'
  try dsimp only at hG
  by_cases y2 : isRl (tkK T n s1.1)
  · rw [if_pos y2] at hG
    obtain ⟨t3, hG⟩ := gT_s hG
    have u3 := tkN_b T n s1.1 (by omega)
    try dsimp only at hG
    obtain ⟨s4, g4, hG⟩ := gb_s hG
    have x4 := mo _ _ _ _ _ _ _ _ _ _ s4 (by omega) (by omega) g4 1 (by first | omega | (simp only [bNode_1, bNode_p, bSet_1, bSet_p, bOver_1, bOver_p, bWrap_1, bWrap_p, bKeep_1, bKeep_p, bSlot_1, bSlot_p]; omega)) (Nat.le_refl 1) (trivial)
    obtain ⟨a4, b4, c4, d4, e4, f4, h4, i4⟩ := (x4.1 : Mo n _ _ _ s4)
    have j4 := x4.2
    have j4 : 1 ≤ s4.2.2.2.1 ∧ s4.2.2.2.1 < s4.2.2.2.2.1.1 := j4
    try simp only [bNode_1, bNode_p, bSet_1, bSet_p, bOver_1, bOver_p, bWrap_1, bWrap_p, bKeep_1, bKeep_p, bSlot_1, bSlot_p] at a4 b4 c4 d4 e4 f4 h4 i4
    have y4' := ih 6 _ _ _ _ _ _ _ _ _ s4 (0) (_) (_) (by omega) (by omega) (by omega) (by first | omega | (simp only [bNode_1, bNode_p, bSet_1, bSet_p, bOver_1, bOver_p, bWrap_1, bWrap_p, bKeep_1, bKeep_p, bSlot_1, bSlot_p]; omega)) (by first | omega | (simp only [bNode_1, bNode_p, bSet_1, bSet_p, bOver_1, bOver_p, bWrap_1, bWrap_p, bKeep_1, bKeep_p, bSlot_1, bSlot_p]; omega)) (by first | omega | (simp only [bNode_1, bNode_p, bSet_1, bSet_p, bOver_1, bOver_p, bWrap_1, bWrap_p, bKeep_1, bKeep_p, bSlot_1, bSlot_p]; omega)) (hE) g4 (⟨rfl, rfl⟩)
    have y4 : Frm E.2.2.2.1 s1.2.1 s1.2.2.2.2.1 0 s4.2.2.2.2.1 ∧ LPt FN (eFl E) E.2.2.2.1 s4.2.1 (20 - o) 8 (60 - s1.2.1) s1.2.2.2.2.1.1 s4.2.2.2.2.1 s4.2.2.2.1 := y4'
    try dsimp only at hG
    cases hG
    exact ⟨Frm_ta (Frm_ta y1.1 y4.1 (Or.inl rfl)) (Frm_over (vv := v) (e := s1.2.2.2.1)) (Or.inr (Or.inl y1.2.2.1)), LP_ov (LP_mo y1.2 (Nat.le_refl _) (Or.inl ⟨rfl, by decide⟩)) (Frm_wk y4.1) y4.2 (by omega) (by omega) (Or.inl ⟨rfl, by decide⟩) (by decide) (by omega)⟩
  · rw [if_neg y2] at hG
    cases hG
    exact ⟨y1.1, LP_mo y1.2 (Nat.le_refl _) (Or.inl ⟨rfl, by decide⟩)⟩
theorem gtr_6 {T : Nat → Int32} {n f : Nat} {FN : Nat → Nat → Prop} (hT : ∀ i, i < n → ∃ d, d ≤ 300 ∧ T i = nI d) (ih : GTr T n f FN) {E : En} {o q v i e c g j lo K : Nat} {b : BT} {r : RT} (hq : q ≤ n) (hv : v ≤ 60) (ho : o ≤ 20) (hbn : b.1 + n < 70000 + q) (hbp : b.2.1 + n ≤ 70000 + q) (hb1 : 1 ≤ b.1) (hE : EnOK FN E) (hG : G T n (f + 1) 6 E o q v i e c g b = some (Sum.inr r)) (hN : TPre FN (eFl E) E.2.2.2.1 6 o v i e c g j lo K b) : TPost FN (eFl E) E.2.2.2.1 6 o v i e c g j lo K b r := by
  have mo := g_mono T n f
  rw [G_6] at hG
  obtain ⟨rfl, rfl⟩ := hN
  obtain ⟨s1, g1, hG⟩ := gb_s hG
  have x1 := mo _ _ _ _ _ _ _ _ _ _ s1 (by omega) (by omega) g1 1 (by first | omega | (simp only [bNode_1, bNode_p, bSet_1, bSet_p, bOver_1, bOver_p, bWrap_1, bWrap_p, bKeep_1, bKeep_p, bSlot_1, bSlot_p]; omega)) (Nat.le_refl 1) (trivial)
  obtain ⟨a1, b1, c1, d1, e1, f1, h1, i1⟩ := (x1.1 : Mo n _ _ _ s1)
  have j1 := x1.2
  have j1 : 1 ≤ s1.2.2.2.1 ∧ s1.2.2.2.1 < s1.2.2.2.2.1.1 := j1
  try simp only [bNode_1, bNode_p, bSet_1, bSet_p, bOver_1, bOver_p, bWrap_1, bWrap_p, bKeep_1, bKeep_p, bSlot_1, bSlot_p] at a1 b1 c1 d1 e1 f1 h1 i1
  have y1' := ih 8 _ _ _ _ _ _ _ _ _ s1 (0) (_) (_) (by omega) (by omega) (by omega) (by first | omega | (simp only [bNode_1, bNode_p, bSet_1, bSet_p, bOver_1, bOver_p, bWrap_1, bWrap_p, bKeep_1, bKeep_p, bSlot_1, bSlot_p]; omega)) (by first | omega | (simp only [bNode_1, bNode_p, bSet_1, bSet_p, bOver_1, bOver_p, bWrap_1, bWrap_p, bKeep_1, bKeep_p, bSlot_1, bSlot_p]; omega)) (by first | omega | (simp only [bNode_1, bNode_p, bSet_1, bSet_p, bOver_1, bOver_p, bWrap_1, bWrap_p, bKeep_1, bKeep_p, bSlot_1, bSlot_p]; omega)) (hE) g1 (⟨rfl, rfl⟩)
  have y1 : Frm E.2.2.2.1 v b 0 s1.2.2.2.2.1 ∧ LPt FN (eFl E) E.2.2.2.1 s1.2.1 (20 - o) 6 (60 - v) b.1 s1.2.2.2.2.1 s1.2.2.2.1 := y1'
  try dsimp only at hG
  have x2 := mo _ _ _ _ _ _ _ _ _ _ r (by omega) (by omega) hG 1 (by first | omega | (simp only [bNode_1, bNode_p, bSet_1, bSet_p, bOver_1, bOver_p, bWrap_1, bWrap_p, bKeep_1, bKeep_p, bSlot_1, bSlot_p]; omega)) (Nat.le_refl 1) ((⟨by omega, by first | omega | (simp only [bNode_1, bNode_p, bSet_1, bSet_p, bOver_1, bOver_p, bWrap_1, bWrap_p, bKeep_1, bKeep_p, bSlot_1, bSlot_p]; omega)⟩ : 1 ≤ _ ∧ _ < _))
  obtain ⟨a2, b2, c2, d2, e2, f2, h2, i2⟩ := (x2.1 : Mo n _ _ _ r)
  have j2 := x2.2
  have j2 : 1 ≤ r.2.2.2.1 ∧ r.2.2.2.1 < r.2.2.2.2.1.1 := j2
  try simp only [bNode_1, bNode_p, bSet_1, bSet_p, bOver_1, bOver_p, bWrap_1, bWrap_p, bKeep_1, bKeep_p, bSlot_1, bSlot_p] at a2 b2 c2 d2 e2 f2 h2 i2
  have y2' := ih 7 _ _ _ _ _ _ _ _ _ r (0) (b.1) ((60 - v)) (by omega) (by omega) (by omega) (by first | omega | (simp only [bNode_1, bNode_p, bSet_1, bSet_p, bOver_1, bOver_p, bWrap_1, bWrap_p, bKeep_1, bKeep_p, bSlot_1, bSlot_p]; omega)) (by first | omega | (simp only [bNode_1, bNode_p, bSet_1, bSet_p, bOver_1, bOver_p, bWrap_1, bWrap_p, bKeep_1, bKeep_p, bSlot_1, bSlot_p]; omega)) (by first | omega | (simp only [bNode_1, bNode_p, bSet_1, bSet_p, bOver_1, bOver_p, bWrap_1, bWrap_p, bKeep_1, bKeep_p, bSlot_1, bSlot_p]; omega)) (hE) hG (⟨LP_mo y1.2 (Nat.le_refl _) (Or.inl ⟨rfl, by decide⟩), by omega⟩)
  have y2 : Frm E.2.2.2.1 s1.2.1 s1.2.2.2.2.1 s1.2.2.2.1 r.2.2.2.2.1 ∧ LPt FN (eFl E) E.2.2.2.1 r.2.1 (20 - o) 8 (60 - v) b.1 r.2.2.2.2.1 r.2.2.2.1 := y2'
  exact ⟨Frm_ta y1.1 y2.1 (Or.inr (Or.inl y1.2.2.1)), y2.2⟩
theorem gtr_7 {T : Nat → Int32} {n f : Nat} {FN : Nat → Nat → Prop} (hT : ∀ i, i < n → ∃ d, d ≤ 300 ∧ T i = nI d) (ih : GTr T n f FN) {E : En} {o q v i e c g j lo K : Nat} {b : BT} {r : RT} (hq : q ≤ n) (hv : v ≤ 60) (ho : o ≤ 20) (hbn : b.1 + n < 70000 + q) (hbp : b.2.1 + n ≤ 70000 + q) (hb1 : 1 ≤ b.1) (hE : EnOK FN E) (hG : G T n (f + 1) 7 E o q v i e c g b = some (Sum.inr r)) (hN : TPre FN (eFl E) E.2.2.2.1 7 o v i e c g j lo K b) : TPost FN (eFl E) E.2.2.2.1 7 o v i e c g j lo K b r := by
  have mo := g_mono T n f
  rw [G_7] at hG
  have hN : LPt FN (eFl E) E.2.2.2.1 v (20 - o) 8 K lo b e ∧ 60 - v ≤ K := hN
  have n1 := hN.1.1
  have n2 := hN.1.2.1
  have n3 := hN.1.2.2.1
  by_cases y1 : tkK T n q = 2 ∨ tkK T n q = 3
  · rw [if_pos y1] at hG
    obtain ⟨t2, hG⟩ := gT_s hG
    have u2 := tkN_b T n q (by omega)
    try dsimp only at hG
    obtain ⟨s3, g3, hG⟩ := gb_s hG
    have x3 := mo _ _ _ _ _ _ _ _ _ _ s3 (by omega) (by omega) g3 1 (by first | omega | (simp only [bNode_1, bNode_p, bSet_1, bSet_p, bOver_1, bOver_p, bWrap_1, bWrap_p, bKeep_1, bKeep_p, bSlot_1, bSlot_p]; omega)) (Nat.le_refl 1) (trivial)
    obtain ⟨a3, b3, c3, d3, e3, f3, h3, i3⟩ := (x3.1 : Mo n _ _ _ s3)
    have j3 := x3.2
    have j3 : 1 ≤ s3.2.2.2.1 ∧ s3.2.2.2.1 < s3.2.2.2.2.1.1 := j3
    try simp only [bNode_1, bNode_p, bSet_1, bSet_p, bOver_1, bOver_p, bWrap_1, bWrap_p, bKeep_1, bKeep_p, bSlot_1, bSlot_p] at a3 b3 c3 d3 e3 f3 h3 i3
    have y3' := ih 8 _ _ _ _ _ _ _ _ _ s3 (0) (_) (_) (by omega) (by omega) (by omega) (by first | omega | (simp only [bNode_1, bNode_p, bSet_1, bSet_p, bOver_1, bOver_p, bWrap_1, bWrap_p, bKeep_1, bKeep_p, bSlot_1, bSlot_p]; omega)) (by first | omega | (simp only [bNode_1, bNode_p, bSet_1, bSet_p, bOver_1, bOver_p, bWrap_1, bWrap_p, bKeep_1, bKeep_p, bSlot_1, bSlot_p]; omega)) (by first | omega | (simp only [bNode_1, bNode_p, bSet_1, bSet_p, bOver_1, bOver_p, bWrap_1, bWrap_p, bKeep_1, bKeep_p, bSlot_1, bSlot_p]; omega)) (hE) g3 (⟨rfl, rfl⟩)
    have y3 : Frm E.2.2.2.1 v b 0 s3.2.2.2.2.1 ∧ LPt FN (eFl E) E.2.2.2.1 s3.2.1 (20 - o) 6 (60 - v) b.1 s3.2.2.2.2.1 s3.2.2.2.1 := y3'
    try dsimp only at hG
    have x4 := mo _ _ _ _ _ _ _ _ _ _ r (by omega) (by omega) hG 1 (by first | omega | (simp only [bNode_1, bNode_p, bSet_1, bSet_p, bOver_1, bOver_p, bWrap_1, bWrap_p, bKeep_1, bKeep_p, bSlot_1, bSlot_p]; omega)) (Nat.le_refl 1) ((⟨by omega, by first | omega | (simp only [bNode_1, bNode_p, bSet_1, bSet_p, bOver_1, bOver_p, bWrap_1, bWrap_p, bKeep_1, bKeep_p, bSlot_1, bSlot_p]; omega)⟩ : 1 ≤ _ ∧ _ < _))
    obtain ⟨a4, b4, c4, d4, e4, f4, h4, i4⟩ := (x4.1 : Mo n _ _ _ r)
    have j4 := x4.2
    have j4 : 1 ≤ r.2.2.2.1 ∧ r.2.2.2.1 < r.2.2.2.2.1.1 := j4
    try simp only [bNode_1, bNode_p, bSet_1, bSet_p, bOver_1, bOver_p, bWrap_1, bWrap_p, bKeep_1, bKeep_p, bSlot_1, bSlot_p] at a4 b4 c4 d4 e4 f4 h4 i4
    have y4' := ih 7 _ _ _ _ _ _ _ _ _ r (0) (lo) (K) (by omega) (by omega) (by omega) (by first | omega | (simp only [bNode_1, bNode_p, bSet_1, bSet_p, bOver_1, bOver_p, bWrap_1, bWrap_p, bKeep_1, bKeep_p, bSlot_1, bSlot_p]; omega)) (by first | omega | (simp only [bNode_1, bNode_p, bSet_1, bSet_p, bOver_1, bOver_p, bWrap_1, bWrap_p, bKeep_1, bKeep_p, bSlot_1, bSlot_p]; omega)) (by first | omega | (simp only [bNode_1, bNode_p, bSet_1, bSet_p, bOver_1, bOver_p, bWrap_1, bWrap_p, bKeep_1, bKeep_p, bSlot_1, bSlot_p]; omega)) (hE) hG (⟨LP_ov hN.1 (Frm_wk y3.1) y3.2 (by omega) (by omega) (Or.inl ⟨rfl, by decide⟩) (by decide) (by omega), by omega⟩)
    have y4 : Frm E.2.2.2.1 s3.2.1 (bOver s3.2.2.2.2.1 16 (opr (tkK T n q)) e (nI s3.2.2.2.1)) s3.2.2.2.2.1.1 r.2.2.2.2.1 ∧ LPt FN (eFl E) E.2.2.2.1 r.2.1 (20 - o) 8 K lo r.2.2.2.2.1 r.2.2.2.1 := y4'
    exact ⟨Frm_ta (Frm_ta (Frm_wk y3.1) (Frm_over (vv := v)) (Or.inl rfl)) y4.1 (Or.inr (Or.inl (by omega))), y4.2⟩
  · rw [if_neg y1] at hG
    cases hG
    exact ⟨Frm_rf, hN.1⟩
theorem gtr_8 {T : Nat → Int32} {n f : Nat} {FN : Nat → Nat → Prop} (hT : ∀ i, i < n → ∃ d, d ≤ 300 ∧ T i = nI d) (ih : GTr T n f FN) {E : En} {o q v i e c g j lo K : Nat} {b : BT} {r : RT} (hq : q ≤ n) (hv : v ≤ 60) (ho : o ≤ 20) (hbn : b.1 + n < 70000 + q) (hbp : b.2.1 + n ≤ 70000 + q) (hb1 : 1 ≤ b.1) (hE : EnOK FN E) (hG : G T n (f + 1) 8 E o q v i e c g b = some (Sum.inr r)) (hN : TPre FN (eFl E) E.2.2.2.1 8 o v i e c g j lo K b) : TPost FN (eFl E) E.2.2.2.1 8 o v i e c g j lo K b r := by
  have mo := g_mono T n f
  rw [G_8] at hG
  obtain ⟨rfl, rfl⟩ := hN
  obtain ⟨s1, g1, hG⟩ := gb_s hG
  have x1 := mo _ _ _ _ _ _ _ _ _ _ s1 (by omega) (by omega) g1 1 (by first | omega | (simp only [bNode_1, bNode_p, bSet_1, bSet_p, bOver_1, bOver_p, bWrap_1, bWrap_p, bKeep_1, bKeep_p, bSlot_1, bSlot_p]; omega)) (Nat.le_refl 1) (trivial)
  obtain ⟨a1, b1, c1, d1, e1, f1, h1, i1⟩ := (x1.1 : Mo n _ _ _ s1)
  have j1 := x1.2
  have j1 : 1 ≤ s1.2.2.2.1 ∧ s1.2.2.2.1 < s1.2.2.2.2.1.1 := j1
  try simp only [bNode_1, bNode_p, bSet_1, bSet_p, bOver_1, bOver_p, bWrap_1, bWrap_p, bKeep_1, bKeep_p, bSlot_1, bSlot_p] at a1 b1 c1 d1 e1 f1 h1 i1
  have y1' := ih 10 _ _ _ _ _ _ _ _ _ s1 (0) (_) (_) (by omega) (by omega) (by omega) (by first | omega | (simp only [bNode_1, bNode_p, bSet_1, bSet_p, bOver_1, bOver_p, bWrap_1, bWrap_p, bKeep_1, bKeep_p, bSlot_1, bSlot_p]; omega)) (by first | omega | (simp only [bNode_1, bNode_p, bSet_1, bSet_p, bOver_1, bOver_p, bWrap_1, bWrap_p, bKeep_1, bKeep_p, bSlot_1, bSlot_p]; omega)) (by first | omega | (simp only [bNode_1, bNode_p, bSet_1, bSet_p, bOver_1, bOver_p, bWrap_1, bWrap_p, bKeep_1, bKeep_p, bSlot_1, bSlot_p]; omega)) (hE) g1 (⟨rfl, rfl⟩)
  have y1 : Frm E.2.2.2.1 v b 0 s1.2.2.2.2.1 ∧ LPt FN (eFl E) E.2.2.2.1 s1.2.1 (20 - o) 4 (60 - v) b.1 s1.2.2.2.2.1 s1.2.2.2.1 := y1'
  try dsimp only at hG
  have x2 := mo _ _ _ _ _ _ _ _ _ _ r (by omega) (by omega) hG 1 (by first | omega | (simp only [bNode_1, bNode_p, bSet_1, bSet_p, bOver_1, bOver_p, bWrap_1, bWrap_p, bKeep_1, bKeep_p, bSlot_1, bSlot_p]; omega)) (Nat.le_refl 1) ((⟨by omega, by first | omega | (simp only [bNode_1, bNode_p, bSet_1, bSet_p, bOver_1, bOver_p, bWrap_1, bWrap_p, bKeep_1, bKeep_p, bSlot_1, bSlot_p]; omega)⟩ : 1 ≤ _ ∧ _ < _))
  obtain ⟨a2, b2, c2, d2, e2, f2, h2, i2⟩ := (x2.1 : Mo n _ _ _ r)
  have j2 := x2.2
  have j2 : 1 ≤ r.2.2.2.1 ∧ r.2.2.2.1 < r.2.2.2.2.1.1 := j2
  try simp only [bNode_1, bNode_p, bSet_1, bSet_p, bOver_1, bOver_p, bWrap_1, bWrap_p, bKeep_1, bKeep_p, bSlot_1, bSlot_p] at a2 b2 c2 d2 e2 f2 h2 i2
  have y2' := ih 9 _ _ _ _ _ _ _ _ _ r (0) (b.1) ((60 - v)) (by omega) (by omega) (by omega) (by first | omega | (simp only [bNode_1, bNode_p, bSet_1, bSet_p, bOver_1, bOver_p, bWrap_1, bWrap_p, bKeep_1, bKeep_p, bSlot_1, bSlot_p]; omega)) (by first | omega | (simp only [bNode_1, bNode_p, bSet_1, bSet_p, bOver_1, bOver_p, bWrap_1, bWrap_p, bKeep_1, bKeep_p, bSlot_1, bSlot_p]; omega)) (by first | omega | (simp only [bNode_1, bNode_p, bSet_1, bSet_p, bOver_1, bOver_p, bWrap_1, bWrap_p, bKeep_1, bKeep_p, bSlot_1, bSlot_p]; omega)) (hE) hG (⟨LP_mo y1.2 (Nat.le_refl _) (Or.inl ⟨rfl, by decide⟩), by omega⟩)
  have y2 : Frm E.2.2.2.1 s1.2.1 s1.2.2.2.2.1 s1.2.2.2.1 r.2.2.2.2.1 ∧ LPt FN (eFl E) E.2.2.2.1 r.2.1 (20 - o) 6 (60 - v) b.1 r.2.2.2.2.1 r.2.2.2.1 := y2'
  exact ⟨Frm_ta y1.1 y2.1 (Or.inr (Or.inl y1.2.2.1)), y2.2⟩
theorem gtr_9 {T : Nat → Int32} {n f : Nat} {FN : Nat → Nat → Prop} (hT : ∀ i, i < n → ∃ d, d ≤ 300 ∧ T i = nI d) (ih : GTr T n f FN) {E : En} {o q v i e c g j lo K : Nat} {b : BT} {r : RT} (hq : q ≤ n) (hv : v ≤ 60) (ho : o ≤ 20) (hbn : b.1 + n < 70000 + q) (hbp : b.2.1 + n ≤ 70000 + q) (hb1 : 1 ≤ b.1) (hE : EnOK FN E) (hG : G T n (f + 1) 9 E o q v i e c g b = some (Sum.inr r)) (hN : TPre FN (eFl E) E.2.2.2.1 9 o v i e c g j lo K b) : TPost FN (eFl E) E.2.2.2.1 9 o v i e c g j lo K b r := by
  have mo := g_mono T n f
  rw [G_9] at hG
  have hN : LPt FN (eFl E) E.2.2.2.1 v (20 - o) 6 K lo b e ∧ 60 - v ≤ K := hN
  have n1 := hN.1.1
  have n2 := hN.1.2.1
  have n3 := hN.1.2.2.1
  by_cases y1 : tkK T n q = 4 ∨ tkK T n q = 67 ∨ tkK T n q = 68
  · rw [if_pos y1] at hG
    obtain ⟨t2, hG⟩ := gT_s hG
    have u2 := tkN_b T n q (by omega)
    try dsimp only at hG
    obtain ⟨s3, g3, hG⟩ := gb_s hG
    have x3 := mo _ _ _ _ _ _ _ _ _ _ s3 (by omega) (by omega) g3 1 (by first | omega | (simp only [bNode_1, bNode_p, bSet_1, bSet_p, bOver_1, bOver_p, bWrap_1, bWrap_p, bKeep_1, bKeep_p, bSlot_1, bSlot_p]; omega)) (Nat.le_refl 1) (trivial)
    obtain ⟨a3, b3, c3, d3, e3, f3, h3, i3⟩ := (x3.1 : Mo n _ _ _ s3)
    have j3 := x3.2
    have j3 : 1 ≤ s3.2.2.2.1 ∧ s3.2.2.2.1 < s3.2.2.2.2.1.1 := j3
    try simp only [bNode_1, bNode_p, bSet_1, bSet_p, bOver_1, bOver_p, bWrap_1, bWrap_p, bKeep_1, bKeep_p, bSlot_1, bSlot_p] at a3 b3 c3 d3 e3 f3 h3 i3
    have y3' := ih 10 _ _ _ _ _ _ _ _ _ s3 (0) (_) (_) (by omega) (by omega) (by omega) (by first | omega | (simp only [bNode_1, bNode_p, bSet_1, bSet_p, bOver_1, bOver_p, bWrap_1, bWrap_p, bKeep_1, bKeep_p, bSlot_1, bSlot_p]; omega)) (by first | omega | (simp only [bNode_1, bNode_p, bSet_1, bSet_p, bOver_1, bOver_p, bWrap_1, bWrap_p, bKeep_1, bKeep_p, bSlot_1, bSlot_p]; omega)) (by first | omega | (simp only [bNode_1, bNode_p, bSet_1, bSet_p, bOver_1, bOver_p, bWrap_1, bWrap_p, bKeep_1, bKeep_p, bSlot_1, bSlot_p]; omega)) (hE) g3 (⟨rfl, rfl⟩)
    have y3 : Frm E.2.2.2.1 v b 0 s3.2.2.2.2.1 ∧ LPt FN (eFl E) E.2.2.2.1 s3.2.1 (20 - o) 4 (60 - v) b.1 s3.2.2.2.2.1 s3.2.2.2.1 := y3'
    try dsimp only at hG
    have x4 := mo _ _ _ _ _ _ _ _ _ _ r (by omega) (by omega) hG 1 (by first | omega | (simp only [bNode_1, bNode_p, bSet_1, bSet_p, bOver_1, bOver_p, bWrap_1, bWrap_p, bKeep_1, bKeep_p, bSlot_1, bSlot_p]; omega)) (Nat.le_refl 1) ((⟨by omega, by first | omega | (simp only [bNode_1, bNode_p, bSet_1, bSet_p, bOver_1, bOver_p, bWrap_1, bWrap_p, bKeep_1, bKeep_p, bSlot_1, bSlot_p]; omega)⟩ : 1 ≤ _ ∧ _ < _))
    obtain ⟨a4, b4, c4, d4, e4, f4, h4, i4⟩ := (x4.1 : Mo n _ _ _ r)
    have j4 := x4.2
    have j4 : 1 ≤ r.2.2.2.1 ∧ r.2.2.2.1 < r.2.2.2.2.1.1 := j4
    try simp only [bNode_1, bNode_p, bSet_1, bSet_p, bOver_1, bOver_p, bWrap_1, bWrap_p, bKeep_1, bKeep_p, bSlot_1, bSlot_p] at a4 b4 c4 d4 e4 f4 h4 i4
    have y4' := ih 9 _ _ _ _ _ _ _ _ _ r (0) (lo) (K) (by omega) (by omega) (by omega) (by first | omega | (simp only [bNode_1, bNode_p, bSet_1, bSet_p, bOver_1, bOver_p, bWrap_1, bWrap_p, bKeep_1, bKeep_p, bSlot_1, bSlot_p]; omega)) (by first | omega | (simp only [bNode_1, bNode_p, bSet_1, bSet_p, bOver_1, bOver_p, bWrap_1, bWrap_p, bKeep_1, bKeep_p, bSlot_1, bSlot_p]; omega)) (by first | omega | (simp only [bNode_1, bNode_p, bSet_1, bSet_p, bOver_1, bOver_p, bWrap_1, bWrap_p, bKeep_1, bKeep_p, bSlot_1, bSlot_p]; omega)) (hE) hG (⟨LP_ov hN.1 (Frm_wk y3.1) y3.2 (by omega) (by omega) (Or.inl ⟨rfl, by decide⟩) (by decide) (by omega), by omega⟩)
    have y4 : Frm E.2.2.2.1 s3.2.1 (bOver s3.2.2.2.2.1 16 (opr (tkK T n q)) e (nI s3.2.2.2.1)) s3.2.2.2.2.1.1 r.2.2.2.2.1 ∧ LPt FN (eFl E) E.2.2.2.1 r.2.1 (20 - o) 6 K lo r.2.2.2.2.1 r.2.2.2.1 := y4'
    exact ⟨Frm_ta (Frm_ta (Frm_wk y3.1) (Frm_over (vv := v)) (Or.inl rfl)) y4.1 (Or.inr (Or.inl (by omega))), y4.2⟩
  · rw [if_neg y1] at hG
    cases hG
    exact ⟨Frm_rf, hN.1⟩
theorem gtr_10 {T : Nat → Int32} {n f : Nat} {FN : Nat → Nat → Prop} (hT : ∀ i, i < n → ∃ d, d ≤ 300 ∧ T i = nI d) (ih : GTr T n f FN) {E : En} {o q v i e c g j lo K : Nat} {b : BT} {r : RT} (hq : q ≤ n) (hv : v ≤ 60) (ho : o ≤ 20) (hbn : b.1 + n < 70000 + q) (hbp : b.2.1 + n ≤ 70000 + q) (hb1 : 1 ≤ b.1) (hE : EnOK FN E) (hG : G T n (f + 1) 10 E o q v i e c g b = some (Sum.inr r)) (hN : TPre FN (eFl E) E.2.2.2.1 10 o v i e c g j lo K b) : TPost FN (eFl E) E.2.2.2.1 10 o v i e c g j lo K b r := by
  have mo := g_mono T n f
  rw [G_10] at hG
  obtain ⟨rfl, rfl⟩ := hN
  obtain ⟨s1, g1, hG⟩ := gb_s hG
  have x1 := mo _ _ _ _ _ _ _ _ _ _ s1 (by omega) (by omega) g1 1 (by first | omega | (simp only [bNode_1, bNode_p, bSet_1, bSet_p, bOver_1, bOver_p, bWrap_1, bWrap_p, bKeep_1, bKeep_p, bSlot_1, bSlot_p]; omega)) (Nat.le_refl 1) (trivial)
  obtain ⟨a1, b1, c1, d1, e1, f1, h1, i1⟩ := (x1.1 : Mo n _ _ _ s1)
  have j1 := x1.2
  have j1 : 1 ≤ s1.2.2.2.1 ∧ s1.2.2.2.1 < s1.2.2.2.2.1.1 := j1
  try simp only [bNode_1, bNode_p, bSet_1, bSet_p, bOver_1, bOver_p, bWrap_1, bWrap_p, bKeep_1, bKeep_p, bSlot_1, bSlot_p] at a1 b1 c1 d1 e1 f1 h1 i1
  have y1' := ih 11 _ _ _ _ _ _ _ _ _ s1 (0) (_) (_) (by omega) (by omega) (by omega) (by first | omega | (simp only [bNode_1, bNode_p, bSet_1, bSet_p, bOver_1, bOver_p, bWrap_1, bWrap_p, bKeep_1, bKeep_p, bSlot_1, bSlot_p]; omega)) (by first | omega | (simp only [bNode_1, bNode_p, bSet_1, bSet_p, bOver_1, bOver_p, bWrap_1, bWrap_p, bKeep_1, bKeep_p, bSlot_1, bSlot_p]; omega)) (by first | omega | (simp only [bNode_1, bNode_p, bSet_1, bSet_p, bOver_1, bOver_p, bWrap_1, bWrap_p, bKeep_1, bKeep_p, bSlot_1, bSlot_p]; omega)) (hE) g1 (⟨rfl, rfl⟩)
  have y1 : Frm E.2.2.2.1 v b 0 s1.2.2.2.2.1 ∧ LPt FN (eFl E) E.2.2.2.1 s1.2.1 (20 - o) 4 (60 - v) b.1 s1.2.2.2.2.1 s1.2.2.2.1 := y1'
  try dsimp only at hG
  by_cases y2 : tkK T n s1.1 = 5
  · rw [if_pos y2] at hG
    obtain ⟨o3, hG⟩ := gO_s hG
    obtain ⟨t4, hG⟩ := gT_s hG
    have u4 := tkN_b T n s1.1 (by omega)
    try dsimp only at hG
    obtain ⟨s5, g5, hG⟩ := gb_s hG
    have x5 := mo _ _ _ _ _ _ _ _ _ _ s5 (by omega) (by omega) g5 1 (by first | omega | (simp only [bNode_1, bNode_p, bSet_1, bSet_p, bOver_1, bOver_p, bWrap_1, bWrap_p, bKeep_1, bKeep_p, bSlot_1, bSlot_p]; omega)) (Nat.le_refl 1) (trivial)
    obtain ⟨a5, b5, c5, d5, e5, f5, h5, i5⟩ := (x5.1 : Mo n _ _ _ s5)
    have j5 := x5.2
    have j5 : 1 ≤ s5.2.2.2.1 ∧ s5.2.2.2.1 < s5.2.2.2.2.1.1 := j5
    try simp only [bNode_1, bNode_p, bSet_1, bSet_p, bOver_1, bOver_p, bWrap_1, bWrap_p, bKeep_1, bKeep_p, bSlot_1, bSlot_p] at a5 b5 c5 d5 e5 f5 h5 i5
    have y5' := ih 10 _ _ _ _ _ _ _ _ _ s5 (0) (_) (_) (by omega) (by omega) (by omega) (by first | omega | (simp only [bNode_1, bNode_p, bSet_1, bSet_p, bOver_1, bOver_p, bWrap_1, bWrap_p, bKeep_1, bKeep_p, bSlot_1, bSlot_p]; omega)) (by first | omega | (simp only [bNode_1, bNode_p, bSet_1, bSet_p, bOver_1, bOver_p, bWrap_1, bWrap_p, bKeep_1, bKeep_p, bSlot_1, bSlot_p]; omega)) (by first | omega | (simp only [bNode_1, bNode_p, bSet_1, bSet_p, bOver_1, bOver_p, bWrap_1, bWrap_p, bKeep_1, bKeep_p, bSlot_1, bSlot_p]; omega)) (hE) g5 (⟨rfl, rfl⟩)
    have y5 : Frm E.2.2.2.1 s1.2.1 s1.2.2.2.2.1 0 s5.2.2.2.2.1 ∧ LPt FN (eFl E) E.2.2.2.1 s5.2.1 (20 - (o + 1)) 4 (60 - s1.2.1) s1.2.2.2.2.1.1 s5.2.2.2.2.1 s5.2.2.2.1 := y5'
    try dsimp only at hG
    cases hG
    exact ⟨Frm_ta (Frm_ta y1.1 y5.1 (Or.inl rfl)) (Frm_over (vv := v) (e := s1.2.2.2.1)) (Or.inr (Or.inl y1.2.2.1)), LP_ov y1.2 (Frm_wk y5.1) y5.2 (by omega) (by omega) (Or.inr ⟨by omega, by decide⟩) (by decide) (by omega)⟩
  · rw [if_neg y2] at hG
    cases hG
    exact y1
theorem gtr_11 {T : Nat → Int32} {n f : Nat} {FN : Nat → Nat → Prop} (hT : ∀ i, i < n → ∃ d, d ≤ 300 ∧ T i = nI d) (ih : GTr T n f FN) {E : En} {o q v i e c g j lo K : Nat} {b : BT} {r : RT} (hq : q ≤ n) (hv : v ≤ 60) (ho : o ≤ 20) (hbn : b.1 + n < 70000 + q) (hbp : b.2.1 + n ≤ 70000 + q) (hb1 : 1 ≤ b.1) (hE : EnOK FN E) (hG : G T n (f + 1) 11 E o q v i e c g b = some (Sum.inr r)) (hN : TPre FN (eFl E) E.2.2.2.1 11 o v i e c g j lo K b) : TPost FN (eFl E) E.2.2.2.1 11 o v i e c g j lo K b r := by
  have mo := g_mono T n f
  rw [G_11] at hG
  obtain ⟨rfl, rfl⟩ := hN
  by_cases y1 : tkK T n q = 3 ∨ tkK T n q = 23
  · rw [if_pos y1] at hG
    obtain ⟨o2, hG⟩ := gO_s hG
    obtain ⟨t3, hG⟩ := gT_s hG
    have u3 := tkN_b T n q (by omega)
    try dsimp only at hG
    obtain ⟨s4, g4, hG⟩ := gb_s hG
    have x4 := mo _ _ _ _ _ _ _ _ _ _ s4 (by omega) (by omega) g4 1 (by first | omega | (simp only [bNode_1, bNode_p, bSet_1, bSet_p, bOver_1, bOver_p, bWrap_1, bWrap_p, bKeep_1, bKeep_p, bSlot_1, bSlot_p]; omega)) (Nat.le_refl 1) (trivial)
    obtain ⟨a4, b4, c4, d4, e4, f4, h4, i4⟩ := (x4.1 : Mo n _ _ _ s4)
    have j4 := x4.2
    have j4 : 1 ≤ s4.2.2.2.1 ∧ s4.2.2.2.1 < s4.2.2.2.2.1.1 := j4
    try simp only [bNode_1, bNode_p, bSet_1, bSet_p, bOver_1, bOver_p, bWrap_1, bWrap_p, bKeep_1, bKeep_p, bSlot_1, bSlot_p] at a4 b4 c4 d4 e4 f4 h4 i4
    have y4' := ih 11 _ _ _ _ _ _ _ _ _ s4 (0) (_) (_) (by omega) (by omega) (by omega) (by first | omega | (simp only [bNode_1, bNode_p, bSet_1, bSet_p, bOver_1, bOver_p, bWrap_1, bWrap_p, bKeep_1, bKeep_p, bSlot_1, bSlot_p]; omega)) (by first | omega | (simp only [bNode_1, bNode_p, bSet_1, bSet_p, bOver_1, bOver_p, bWrap_1, bWrap_p, bKeep_1, bKeep_p, bSlot_1, bSlot_p]; omega)) (by first | omega | (simp only [bNode_1, bNode_p, bSet_1, bSet_p, bOver_1, bOver_p, bWrap_1, bWrap_p, bKeep_1, bKeep_p, bSlot_1, bSlot_p]; omega)) (hE) g4 (⟨rfl, rfl⟩)
    have y4 : Frm E.2.2.2.1 v b 0 s4.2.2.2.2.1 ∧ LPt FN (eFl E) E.2.2.2.1 s4.2.1 (20 - (o + 1)) 4 (60 - v) b.1 s4.2.2.2.2.1 s4.2.2.2.1 := y4'
    try dsimp only at hG
    cases hG
    exact ⟨Frm_ta y4.1 (Frm_node (vv := v)) (Or.inl rfl), LP_un y4.2 (Nat.le_refl _) (ite_2 (P := fun k => k = 9 ∨ k = 17 ∨ k = 18 ∨ k = 19 ∨ k = 20) (by decide) (by decide)) (by omega) (by decide) (by decide) (by omega) (Nat.le_refl _) hb1 (fun z => absurd z (ite_2 (P := fun k => ¬ k = 9) (by decide) (by decide)))⟩
  · rw [if_neg y1] at hG
    by_cases y5 : tkK T n q = 2 ∨ tkK T n q = 4 ∨ tkK T n q = 81 ∨ tkK T n q = 80
    · rw [if_pos y5] at hG
      obtain ⟨o6, hG⟩ := gO_s hG
      obtain ⟨t7, hG⟩ := gT_s hG
      have u7 := tkN_b T n q (by omega)
      try dsimp only at hG
      obtain ⟨w8, t8, hG⟩ := gW_s hG
      have u8 := tkN_b T n (tkN T n q) (by omega)
      try dsimp only at hG
      obtain ⟨s9, g9, hG⟩ := gb_s hG
      have x9 := mo _ _ _ _ _ _ _ _ _ _ s9 (by omega) (by omega) g9 1 (by first | omega | (simp only [bNode_1, bNode_p, bSet_1, bSet_p, bOver_1, bOver_p, bWrap_1, bWrap_p, bKeep_1, bKeep_p, bSlot_1, bSlot_p]; omega)) (Nat.le_refl 1) (trivial)
      obtain ⟨a9, b9, c9, d9, e9, f9, h9, i9⟩ := (x9.1 : Mo n _ _ _ s9)
      have j9 := x9.2
      have j9 : 1 ≤ s9.2.2.2.1 ∧ s9.2.2.2.1 < s9.2.2.2.2.1.1 := j9
      try simp only [bNode_1, bNode_p, bSet_1, bSet_p, bOver_1, bOver_p, bWrap_1, bWrap_p, bKeep_1, bKeep_p, bSlot_1, bSlot_p] at a9 b9 c9 d9 e9 f9 h9 i9
      have y9' := ih 11 _ _ _ _ _ _ _ _ _ s9 (0) (_) (_) (by omega) (by omega) (by omega) (by first | omega | (simp only [bNode_1, bNode_p, bSet_1, bSet_p, bOver_1, bOver_p, bWrap_1, bWrap_p, bKeep_1, bKeep_p, bSlot_1, bSlot_p]; omega)) (by first | omega | (simp only [bNode_1, bNode_p, bSet_1, bSet_p, bOver_1, bOver_p, bWrap_1, bWrap_p, bKeep_1, bKeep_p, bSlot_1, bSlot_p]; omega)) (by first | omega | (simp only [bNode_1, bNode_p, bSet_1, bSet_p, bOver_1, bOver_p, bWrap_1, bWrap_p, bKeep_1, bKeep_p, bSlot_1, bSlot_p]; omega)) (hE) g9 (⟨rfl, rfl⟩)
      have y9 : Frm E.2.2.2.1 v b 0 s9.2.2.2.2.1 ∧ LPt FN (eFl E) E.2.2.2.1 s9.2.1 (20 - (o + 1)) 4 (60 - v) b.1 s9.2.2.2.2.1 s9.2.2.2.1 := y9'
      try dsimp only at hG
      cases hG
      exact ⟨Frm_ta y9.1 (Frm_node (vv := v)) (Or.inl rfl), LP_un y9.2 (Nat.le_refl _) (by decide) (by omega) (by decide) (by decide) (by omega) (Nat.le_refl _) hb1 (fun z => absurd z (by decide))⟩
    · rw [if_neg y5] at hG
      obtain ⟨s10, g10, hG⟩ := gb_s hG
      have x10 := mo _ _ _ _ _ _ _ _ _ _ s10 (by omega) (by omega) g10 1 (by first | omega | (simp only [bNode_1, bNode_p, bSet_1, bSet_p, bOver_1, bOver_p, bWrap_1, bWrap_p, bKeep_1, bKeep_p, bSlot_1, bSlot_p]; omega)) (Nat.le_refl 1) (trivial)
      obtain ⟨a10, b10, c10, d10, e10, f10, h10, i10⟩ := (x10.1 : Mo n _ _ _ s10)
      have j10 := x10.2
      have j10 : 1 ≤ s10.2.2.2.1 ∧ s10.2.2.2.1 < s10.2.2.2.2.1.1 := j10
      try simp only [bNode_1, bNode_p, bSet_1, bSet_p, bOver_1, bOver_p, bWrap_1, bWrap_p, bKeep_1, bKeep_p, bSlot_1, bSlot_p] at a10 b10 c10 d10 e10 f10 h10 i10
      have y10' := ih 13 _ _ _ _ _ _ _ _ _ s10 (0) (_) (_) (by omega) (by omega) (by omega) (by first | omega | (simp only [bNode_1, bNode_p, bSet_1, bSet_p, bOver_1, bOver_p, bWrap_1, bWrap_p, bKeep_1, bKeep_p, bSlot_1, bSlot_p]; omega)) (by first | omega | (simp only [bNode_1, bNode_p, bSet_1, bSet_p, bOver_1, bOver_p, bWrap_1, bWrap_p, bKeep_1, bKeep_p, bSlot_1, bSlot_p]; omega)) (by first | omega | (simp only [bNode_1, bNode_p, bSet_1, bSet_p, bOver_1, bOver_p, bWrap_1, bWrap_p, bKeep_1, bKeep_p, bSlot_1, bSlot_p]; omega)) (hE) g10 (⟨rfl, rfl⟩)
      have y10 : Frm E.2.2.2.1 v b 0 s10.2.2.2.2.1 ∧ LPt FN (eFl E) E.2.2.2.1 s10.2.1 (20 - o) 4 (60 - v) b.1 s10.2.2.2.2.1 s10.2.2.2.1 := y10'
      try dsimp only at hG
      have x11 := mo _ _ _ _ _ _ _ _ _ _ r (by omega) (by omega) hG 1 (by first | omega | (simp only [bNode_1, bNode_p, bSet_1, bSet_p, bOver_1, bOver_p, bWrap_1, bWrap_p, bKeep_1, bKeep_p, bSlot_1, bSlot_p]; omega)) (Nat.le_refl 1) ((⟨by omega, by first | omega | (simp only [bNode_1, bNode_p, bSet_1, bSet_p, bOver_1, bOver_p, bWrap_1, bWrap_p, bKeep_1, bKeep_p, bSlot_1, bSlot_p]; omega)⟩ : 1 ≤ _ ∧ _ < _))
      obtain ⟨a11, b11, c11, d11, e11, f11, h11, i11⟩ := (x11.1 : Mo n _ _ _ r)
      have j11 := x11.2
      have j11 : 1 ≤ r.2.2.2.1 ∧ r.2.2.2.1 < r.2.2.2.2.1.1 := j11
      try simp only [bNode_1, bNode_p, bSet_1, bSet_p, bOver_1, bOver_p, bWrap_1, bWrap_p, bKeep_1, bKeep_p, bSlot_1, bSlot_p] at a11 b11 c11 d11 e11 f11 h11 i11
      have y11' := ih 12 _ _ _ _ _ _ _ _ _ r (0) (b.1) ((60 - v)) (by omega) (by omega) (by omega) (by first | omega | (simp only [bNode_1, bNode_p, bSet_1, bSet_p, bOver_1, bOver_p, bWrap_1, bWrap_p, bKeep_1, bKeep_p, bSlot_1, bSlot_p]; omega)) (by first | omega | (simp only [bNode_1, bNode_p, bSet_1, bSet_p, bOver_1, bOver_p, bWrap_1, bWrap_p, bKeep_1, bKeep_p, bSlot_1, bSlot_p]; omega)) (by first | omega | (simp only [bNode_1, bNode_p, bSet_1, bSet_p, bOver_1, bOver_p, bWrap_1, bWrap_p, bKeep_1, bKeep_p, bSlot_1, bSlot_p]; omega)) (hE) hG (⟨y10.2, by omega⟩)
      have y11 : Frm E.2.2.2.1 s10.2.1 s10.2.2.2.2.1 s10.2.2.2.1 r.2.2.2.2.1 ∧ LPt FN (eFl E) E.2.2.2.1 r.2.1 (20 - o) 4 (60 - v) b.1 r.2.2.2.2.1 r.2.2.2.1 := y11'
      exact ⟨Frm_ta y10.1 y11.1 (Or.inr (Or.inl y10.2.2.1)), y11.2⟩
theorem gtr_12 {T : Nat → Int32} {n f : Nat} {FN : Nat → Nat → Prop} (hT : ∀ i, i < n → ∃ d, d ≤ 300 ∧ T i = nI d) (ih : GTr T n f FN) {E : En} {o q v i e c g j lo K : Nat} {b : BT} {r : RT} (hq : q ≤ n) (hv : v ≤ 60) (ho : o ≤ 20) (hbn : b.1 + n < 70000 + q) (hbp : b.2.1 + n ≤ 70000 + q) (hb1 : 1 ≤ b.1) (hE : EnOK FN E) (hG : G T n (f + 1) 12 E o q v i e c g b = some (Sum.inr r)) (hN : TPre FN (eFl E) E.2.2.2.1 12 o v i e c g j lo K b) : TPost FN (eFl E) E.2.2.2.1 12 o v i e c g j lo K b r := by
  have mo := g_mono T n f
  rw [G_12] at hG
  have hN : LPt FN (eFl E) E.2.2.2.1 v (20 - o) 4 K lo b e ∧ 60 - v ≤ K := hN
  have n1 := hN.1.1
  have n2 := hN.1.2.1
  have n3 := hN.1.2.2.1
  by_cases y1 : tkK T n q = 6 ∨ tkK T n q = 8
  · rw [if_pos y1] at hG
    obtain ⟨o2, hG⟩ := gO_s hG
    obtain ⟨t3, hG⟩ := gT_s hG
    have u3 := tkN_b T n q (by omega)
    try dsimp only at hG
    obtain ⟨s4, g4, hG⟩ := gb_s hG
    have x4 := mo _ _ _ _ _ _ _ _ _ _ s4 (by omega) (by omega) g4 1 (by first | omega | (simp only [bNode_1, bNode_p, bSet_1, bSet_p, bOver_1, bOver_p, bWrap_1, bWrap_p, bKeep_1, bKeep_p, bSlot_1, bSlot_p]; omega)) (Nat.le_refl 1) (trivial)
    obtain ⟨a4, b4, c4, d4, e4, f4, h4, i4⟩ := (x4.1 : Mo n _ _ _ s4)
    have j4 := x4.2
    have j4 : 1 ≤ s4.2.2.2.1 ∧ s4.2.2.2.1 < s4.2.2.2.2.1.1 := j4
    try simp only [bNode_1, bNode_p, bSet_1, bSet_p, bOver_1, bOver_p, bWrap_1, bWrap_p, bKeep_1, bKeep_p, bSlot_1, bSlot_p] at a4 b4 c4 d4 e4 f4 h4 i4
    have y4' := ih 0 _ _ _ _ _ _ _ _ _ s4 (0) (_) (_) (by omega) (by omega) (by omega) (by first | omega | (simp only [bNode_1, bNode_p, bSet_1, bSet_p, bOver_1, bOver_p, bWrap_1, bWrap_p, bKeep_1, bKeep_p, bSlot_1, bSlot_p]; omega)) (by first | omega | (simp only [bNode_1, bNode_p, bSet_1, bSet_p, bOver_1, bOver_p, bWrap_1, bWrap_p, bKeep_1, bKeep_p, bSlot_1, bSlot_p]; omega)) (by first | omega | (simp only [bNode_1, bNode_p, bSet_1, bSet_p, bOver_1, bOver_p, bWrap_1, bWrap_p, bKeep_1, bKeep_p, bSlot_1, bSlot_p]; omega)) (hE) g4 (⟨rfl, rfl⟩)
    have y4 : Frm E.2.2.2.1 v b 0 s4.2.2.2.2.1 ∧ LPt FN (eFl E) E.2.2.2.1 s4.2.1 (20 - (o + 1)) 14 (60 - v) b.1 s4.2.2.2.2.1 s4.2.2.2.1 := y4'
    try dsimp only at hG
    by_cases y5 : tkK T n q = 6 ∧ tkK T n s4.1 = 16
    · rw [if_pos y5] at hG
      obtain ⟨t6, hG⟩ := gT_s hG
      have u6 := tkN_b T n s4.1 (by omega)
      try dsimp only at hG
      obtain ⟨s7, g7, hG⟩ := gb_s hG
      have x7 := mo _ _ _ _ _ _ _ _ _ _ s7 (by omega) (by omega) g7 1 (by first | omega | (simp only [bNode_1, bNode_p, bSet_1, bSet_p, bOver_1, bOver_p, bWrap_1, bWrap_p, bKeep_1, bKeep_p, bSlot_1, bSlot_p]; omega)) (Nat.le_refl 1) (trivial)
      obtain ⟨a7, b7, c7, d7, e7, f7, h7, i7⟩ := (x7.1 : Mo n _ _ _ s7)
      have j7 := x7.2
      have j7 : 1 ≤ s7.2.2.2.1 ∧ s7.2.2.2.1 < s7.2.2.2.2.1.1 := j7
      try simp only [bNode_1, bNode_p, bSet_1, bSet_p, bOver_1, bOver_p, bWrap_1, bWrap_p, bKeep_1, bKeep_p, bSlot_1, bSlot_p] at a7 b7 c7 d7 e7 f7 h7 i7
      have y7' := ih 0 _ _ _ _ _ _ _ _ _ s7 (0) (_) (_) (by omega) (by omega) (by omega) (by first | omega | (simp only [bNode_1, bNode_p, bSet_1, bSet_p, bOver_1, bOver_p, bWrap_1, bWrap_p, bKeep_1, bKeep_p, bSlot_1, bSlot_p]; omega)) (by first | omega | (simp only [bNode_1, bNode_p, bSet_1, bSet_p, bOver_1, bOver_p, bWrap_1, bWrap_p, bKeep_1, bKeep_p, bSlot_1, bSlot_p]; omega)) (by first | omega | (simp only [bNode_1, bNode_p, bSet_1, bSet_p, bOver_1, bOver_p, bWrap_1, bWrap_p, bKeep_1, bKeep_p, bSlot_1, bSlot_p]; omega)) (hE) g7 (⟨rfl, rfl⟩)
      have y7 : Frm E.2.2.2.1 s4.2.1 s4.2.2.2.2.1 0 s7.2.2.2.2.1 ∧ LPt FN (eFl E) E.2.2.2.1 s7.2.1 (20 - (o + 1)) 14 (60 - s4.2.1) s4.2.2.2.2.1.1 s7.2.2.2.2.1 s7.2.2.2.1 := y7'
      try dsimp only at hG
      obtain ⟨w8, t8, hG⟩ := gW_s hG
      have u8 := tkN_b T n s7.1 (by omega)
      try dsimp only at hG
      have x9 := mo _ _ _ _ _ _ _ _ _ _ r (by omega) (by omega) hG 1 (by first | omega | (simp only [bNode_1, bNode_p, bSet_1, bSet_p, bOver_1, bOver_p, bWrap_1, bWrap_p, bKeep_1, bKeep_p, bSlot_1, bSlot_p]; omega)) (Nat.le_refl 1) ((⟨by omega, by first | omega | (simp only [bNode_1, bNode_p, bSet_1, bSet_p, bOver_1, bOver_p, bWrap_1, bWrap_p, bKeep_1, bKeep_p, bSlot_1, bSlot_p]; omega)⟩ : 1 ≤ _ ∧ _ < _))
      obtain ⟨a9, b9, c9, d9, e9, f9, h9, i9⟩ := (x9.1 : Mo n _ _ _ r)
      have j9 := x9.2
      have j9 : 1 ≤ r.2.2.2.1 ∧ r.2.2.2.1 < r.2.2.2.2.1.1 := j9
      try simp only [bNode_1, bNode_p, bSet_1, bSet_p, bOver_1, bOver_p, bWrap_1, bWrap_p, bKeep_1, bKeep_p, bSlot_1, bSlot_p] at a9 b9 c9 d9 e9 f9 h9 i9
      have y9' := ih 12 _ _ _ _ _ _ _ _ _ r (0) (lo) (K) (by omega) (by omega) (by omega) (by first | omega | (simp only [bNode_1, bNode_p, bSet_1, bSet_p, bOver_1, bOver_p, bWrap_1, bWrap_p, bKeep_1, bKeep_p, bSlot_1, bSlot_p]; omega)) (by first | omega | (simp only [bNode_1, bNode_p, bSet_1, bSet_p, bOver_1, bOver_p, bWrap_1, bWrap_p, bKeep_1, bKeep_p, bSlot_1, bSlot_p]; omega)) (by first | omega | (simp only [bNode_1, bNode_p, bSet_1, bSet_p, bOver_1, bOver_p, bWrap_1, bWrap_p, bKeep_1, bKeep_p, bSlot_1, bSlot_p]; omega)) (hE) hG (⟨LP_sli hN.1 (Frm_wk y4.1) y4.2 y7.1 (LP_mo y7.2 (by omega) Lx_rf) (by omega) (by omega) (by omega) (Or.inr ⟨by omega, by decide⟩) (by omega), by omega⟩)
      have y9 : Frm E.2.2.2.1 s7.2.1 (bSet (bOver s7.2.2.2.2.1 22 0 e (nI s4.2.2.2.1)) 8 s7.2.2.2.2.1.1 (nI s7.2.2.2.1)) s7.2.2.2.2.1.1 r.2.2.2.2.1 ∧ LPt FN (eFl E) E.2.2.2.1 r.2.1 (20 - o) 4 K lo r.2.2.2.2.1 r.2.2.2.1 := y9'
      exact ⟨Frm_ta (Frm_ta (Frm_ta (Frm_wk y4.1) (Frm_wk y7.1) (Or.inl rfl)) (Frm_set8 (vv := v) (b := s7.2.2.2.2.1) (Nat.le_refl _) (Frm_over (vv := v))) (Or.inl rfl)) y9.1 (Or.inr (Or.inl (by omega))), y9.2⟩
    · rw [if_neg y5] at hG
      obtain ⟨w10, t10, hG⟩ := gW_s hG
      have u10 := tkN_b T n s4.1 (by omega)
      try dsimp only at hG
      have x11 := mo _ _ _ _ _ _ _ _ _ _ r (by omega) (by omega) hG 1 (by first | omega | (simp only [bNode_1, bNode_p, bSet_1, bSet_p, bOver_1, bOver_p, bWrap_1, bWrap_p, bKeep_1, bKeep_p, bSlot_1, bSlot_p]; omega)) (Nat.le_refl 1) ((⟨by omega, by first | omega | (simp only [bNode_1, bNode_p, bSet_1, bSet_p, bOver_1, bOver_p, bWrap_1, bWrap_p, bKeep_1, bKeep_p, bSlot_1, bSlot_p]; omega)⟩ : 1 ≤ _ ∧ _ < _))
      obtain ⟨a11, b11, c11, d11, e11, f11, h11, i11⟩ := (x11.1 : Mo n _ _ _ r)
      have j11 := x11.2
      have j11 : 1 ≤ r.2.2.2.1 ∧ r.2.2.2.1 < r.2.2.2.2.1.1 := j11
      try simp only [bNode_1, bNode_p, bSet_1, bSet_p, bOver_1, bOver_p, bWrap_1, bWrap_p, bKeep_1, bKeep_p, bSlot_1, bSlot_p] at a11 b11 c11 d11 e11 f11 h11 i11
      have y11' := ih 12 _ _ _ _ _ _ _ _ _ r (0) (lo) (K) (by omega) (by omega) (by omega) (by first | omega | (simp only [bNode_1, bNode_p, bSet_1, bSet_p, bOver_1, bOver_p, bWrap_1, bWrap_p, bKeep_1, bKeep_p, bSlot_1, bSlot_p]; omega)) (by first | omega | (simp only [bNode_1, bNode_p, bSet_1, bSet_p, bOver_1, bOver_p, bWrap_1, bWrap_p, bKeep_1, bKeep_p, bSlot_1, bSlot_p]; omega)) (by first | omega | (simp only [bNode_1, bNode_p, bSet_1, bSet_p, bOver_1, bOver_p, bWrap_1, bWrap_p, bKeep_1, bKeep_p, bSlot_1, bSlot_p]; omega)) (hE) hG (⟨LP_ov hN.1 (Frm_wk y4.1) y4.2 (by omega) (by omega) (Or.inr ⟨by omega, by decide⟩) (ite_2 (P := fun k => k = 16 ∨ k = 21 ∨ k = 23 ∨ k = 24 ∨ k = 25) (by decide) (by decide)) (by omega), by omega⟩)
      have y11 : Frm E.2.2.2.1 s4.2.1 (bOver s4.2.2.2.2.1 (if tkK T n q = 8 then 23 else 21) 0 e (nI s4.2.2.2.1)) s4.2.2.2.2.1.1 r.2.2.2.2.1 ∧ LPt FN (eFl E) E.2.2.2.1 r.2.1 (20 - o) 4 K lo r.2.2.2.2.1 r.2.2.2.1 := y11'
      exact ⟨Frm_ta (Frm_ta (Frm_wk y4.1) (Frm_over (vv := v)) (Or.inl rfl)) y11.1 (Or.inr (Or.inl (by omega))), y11.2⟩
  · rw [if_neg y1] at hG
    cases hG
    exact ⟨Frm_rf, hN.1⟩
theorem gtr_13 {T : Nat → Int32} {n f : Nat} {FN : Nat → Nat → Prop} (hT : ∀ i, i < n → ∃ d, d ≤ 300 ∧ T i = nI d) (ih : GTr T n f FN) {E : En} {o q v i e c g j lo K : Nat} {b : BT} {r : RT} (hq : q ≤ n) (hv : v ≤ 60) (ho : o ≤ 20) (hbn : b.1 + n < 70000 + q) (hbp : b.2.1 + n ≤ 70000 + q) (hb1 : 1 ≤ b.1) (hE : EnOK FN E) (hG : G T n (f + 1) 13 E o q v i e c g b = some (Sum.inr r)) (hN : TPre FN (eFl E) E.2.2.2.1 13 o v i e c g j lo K b) : TPost FN (eFl E) E.2.2.2.1 13 o v i e c g j lo K b r := by
  have mo := g_mono T n f
  rw [G_13] at hG
  obtain ⟨rfl, rfl⟩ := hN
  by_cases y1 : tkK T n q = 27
  · rw [if_pos y1] at hG
    obtain ⟨t2, hG⟩ := gT_s hG
    have u2 := tkN_b T n q (by omega)
    try dsimp only at hG
    have z := tkE_b T n q (by omega)
    cases hG
    exact ⟨Frm_ta (Frm_keep (vv := v)) (Frm_node (vv := v)) (Or.inl rfl), LP_num hb1 (Nat.le_refl _) (by omega) (by decide) (tk_27 y1) (by omega) (fun i hi => hT _ (by omega))⟩
  · rw [if_neg y1] at hG
    by_cases y3 : tkK T n q = 28
    · rw [if_pos y3] at hG
      obtain ⟨t4, hG⟩ := gT_s hG
      have u4 := tkN_b T n q (by omega)
      try dsimp only at hG
      have z := tkE_b T n q (by omega)
      cases hG
      exact ⟨Frm_ta (Frm_keep (vv := v)) (Frm_node (vv := v)) (Or.inl rfl), LP_str hb1 (Nat.le_refl _) (by omega) (by decide) (tk_28 y3) (by omega)⟩
    · rw [if_neg y3] at hG
      by_cases y5 : tkK T n q = 26
      · rw [if_pos y5] at hG
        obtain ⟨t6, hG⟩ := gT_s hG
        have u6 := tkN_b T n q (by omega)
        try dsimp only at hG
        by_cases y7 : (fd E (tkS T n q)).1 = 1
        · rw [if_pos y7] at hG
          cases hG
          exact ⟨(Frm_node (vv := v)), LP_var hb1 (Nat.le_refl _) (by omega) (by decide) (fd_1 hE y7).1 (fd_1 hE y7).2⟩
        · rw [if_neg y7] at hG
          by_cases y8 : (fd E (tkS T n q)).1 = 2 ∧ tkK T n (tkN T n q) = 6
          · rw [if_pos y8] at hG
            obtain ⟨o9, hG⟩ := gO_s hG
            obtain ⟨t10, hG⟩ := gT_s hG
            have u10 := tkN_b T n (tkN T n q) (by omega)
            try dsimp only at hG
            obtain ⟨s11, g11, hG⟩ := gb_s hG
            have x11 := mo _ _ _ _ _ _ _ _ _ _ s11 (by omega) (by omega) g11 1 (by first | omega | (simp only [bNode_1, bNode_p, bSet_1, bSet_p, bOver_1, bOver_p, bWrap_1, bWrap_p, bKeep_1, bKeep_p, bSlot_1, bSlot_p]; omega)) (Nat.le_refl 1) (Or.inl rfl)
            obtain ⟨a11, b11, c11, d11, e11, f11, h11, i11⟩ := (x11.1 : Mo n _ _ _ s11)
            have j11 := x11.2
            try simp only [bNode_1, bNode_p, bSet_1, bSet_p, bOver_1, bOver_p, bWrap_1, bWrap_p, bKeep_1, bKeep_p, bSlot_1, bSlot_p] at a11 b11 c11 d11 e11 f11 h11 i11
            have y11' := ih 14 _ _ _ _ _ _ _ _ _ s11 (0) (b.1) ((60 - v)) (by omega) (by omega) (by omega) (by first | omega | (simp only [bNode_1, bNode_p, bSet_1, bSet_p, bOver_1, bOver_p, bWrap_1, bWrap_p, bKeep_1, bKeep_p, bSlot_1, bSlot_p]; omega)) (by first | omega | (simp only [bNode_1, bNode_p, bSet_1, bSet_p, bOver_1, bOver_p, bWrap_1, bWrap_p, bKeep_1, bKeep_p, bSlot_1, bSlot_p]; omega)) (by first | omega | (simp only [bNode_1, bNode_p, bSet_1, bSet_p, bOver_1, bOver_p, bWrap_1, bWrap_p, bKeep_1, bKeep_p, bSlot_1, bSlot_p]; omega)) (hE) g11 (Or.inl ⟨rfl, rfl, rfl⟩)
            have y11 : Frm E.2.2.2.1 v b 0 s11.2.2.2.2.1 ∧ ∀ T', Agr T' E.2.2.2.1 s11.2.1 s11.2.2.2.2.1 b.1 0 → ∃ F, WN T' FN F 3 (20 - (o + 1)) s11.2.2.1 (60 - v) (lcW (eFl E) E.2.2.2.1 T') (hd s11.2.2.2.1) := y11'
            try dsimp only at hG
            by_cases y12 : tkK T n s11.1 = 7 ∧ s11.2.2.1 = E.2.2.2.2.2.2 (fd E (tkS T n q)).2.1
            · rw [if_pos y12] at hG
              obtain ⟨t13, hG⟩ := gT_s hG
              have u13 := tkN_b T n s11.1 (by omega)
              try dsimp only at hG
              cases hG
              have hf := fd_2 hE y8.1
              refine ⟨Frm_ta y11.1 (Frm_wrap (vv := v)) (Or.inl rfl), LP_call hb1 (by omega) (by omega) (by decide) (by omega) (y12.2 ▸ hf.1) (by omega) (by omega) (by omega) (fun T' hA => ?_)⟩
              rw [show 20 - o - 1 = 20 - (o + 1) by omega]
              exact y11.2 T' hA
            · rw [if_neg y12] at hG
              cases hG
          · rw [if_neg y8] at hG
            cases hG
      · rw [if_neg y5] at hG
        by_cases y14 : tkK T n q = 6
        · rw [if_pos y14] at hG
          obtain ⟨o15, hG⟩ := gO_s hG
          obtain ⟨t16, hG⟩ := gT_s hG
          have u16 := tkN_b T n q (by omega)
          try dsimp only at hG
          obtain ⟨s17, g17, hG⟩ := gb_s hG
          have x17 := mo _ _ _ _ _ _ _ _ _ _ s17 (by omega) (by omega) g17 1 (by first | omega | (simp only [bNode_1, bNode_p, bSet_1, bSet_p, bOver_1, bOver_p, bWrap_1, bWrap_p, bKeep_1, bKeep_p, bSlot_1, bSlot_p]; omega)) (Nat.le_refl 1) (trivial)
          obtain ⟨a17, b17, c17, d17, e17, f17, h17, i17⟩ := (x17.1 : Mo n _ _ _ s17)
          have j17 := x17.2
          have j17 : 1 ≤ s17.2.2.2.1 ∧ s17.2.2.2.1 < s17.2.2.2.2.1.1 := j17
          try simp only [bNode_1, bNode_p, bSet_1, bSet_p, bOver_1, bOver_p, bWrap_1, bWrap_p, bKeep_1, bKeep_p, bSlot_1, bSlot_p] at a17 b17 c17 d17 e17 f17 h17 i17
          have y17' := ih 0 _ _ _ _ _ _ _ _ _ s17 (0) (_) (_) (by omega) (by omega) (by omega) (by first | omega | (simp only [bNode_1, bNode_p, bSet_1, bSet_p, bOver_1, bOver_p, bWrap_1, bWrap_p, bKeep_1, bKeep_p, bSlot_1, bSlot_p]; omega)) (by first | omega | (simp only [bNode_1, bNode_p, bSet_1, bSet_p, bOver_1, bOver_p, bWrap_1, bWrap_p, bKeep_1, bKeep_p, bSlot_1, bSlot_p]; omega)) (by first | omega | (simp only [bNode_1, bNode_p, bSet_1, bSet_p, bOver_1, bOver_p, bWrap_1, bWrap_p, bKeep_1, bKeep_p, bSlot_1, bSlot_p]; omega)) (hE) g17 (⟨rfl, rfl⟩)
          have y17 : Frm E.2.2.2.1 v b 0 s17.2.2.2.2.1 ∧ LPt FN (eFl E) E.2.2.2.1 s17.2.1 (20 - (o + 1)) 14 (60 - v) b.1 s17.2.2.2.2.1 s17.2.2.2.1 := y17'
          try dsimp only at hG
          obtain ⟨w18, t18, hG⟩ := gW_s hG
          have u18 := tkN_b T n s17.1 (by omega)
          try dsimp only at hG
          cases hG
          exact ⟨Frm_ta y17.1 (Frm_over (vv := v) (e := s17.2.2.2.1)) (Or.inr (Or.inl y17.2.2.1)), LP_par y17.2 (Nat.le_refl _) (Or.inr ⟨by omega, by decide, by decide⟩) (by omega)⟩
        · rw [if_neg y14] at hG
          by_cases y19 : tkK T n q = 8 ∨ tkK T n q = 10
          · rw [if_pos y19] at hG
            obtain ⟨o20, hG⟩ := gO_s hG
            obtain ⟨t21, hG⟩ := gT_s hG
            have u21 := tkN_b T n q (by omega)
            try dsimp only at hG
            by_cases y22 : tkK T n (tkN T n q) = tkK T n q + 1
            · rw [if_pos y22] at hG
              obtain ⟨t23, hG⟩ := gT_s hG
              have u23 := tkN_b T n (tkN T n q) (by omega)
              try dsimp only at hG
              cases hG
              exact ⟨(Frm_node (vv := v)), LP_brk (m := 0) hb1 (Nat.le_refl _) (by omega) (by decide) (ite_2 (P := fun k => k = 10 ∨ k = 11) (by decide) (by decide)) (by omega) (by omega) (fun T' hA => ⟨1, WN_end (Or.inl rfl)⟩)⟩
            · rw [if_neg y22] at hG
              by_cases y24 : tkK T n (tkN T n q) = 45
              · rw [if_pos y24] at hG
                obtain ⟨t25, hG⟩ := gT_s hG
                have u25 := tkN_b T n (tkN T n q) (by omega)
                try dsimp only at hG
                obtain ⟨s26, g26, hG⟩ := gb_s hG
                have x26 := mo _ _ _ _ _ _ _ _ _ _ s26 (by omega) (by omega) g26 1 (by first | omega | (simp only [bNode_1, bNode_p, bSet_1, bSet_p, bOver_1, bOver_p, bWrap_1, bWrap_p, bKeep_1, bKeep_p, bSlot_1, bSlot_p]; omega)) (Nat.le_refl 1) (Or.inl rfl)
                obtain ⟨a26, b26, c26, d26, e26, f26, h26, i26⟩ := (x26.1 : Mo n _ _ _ s26)
                have j26 := x26.2
                have j26 : 1 ≤ s26.2.2.2.1 ∧ s26.2.2.2.1 < s26.2.2.2.2.1.1 := j26
                try simp only [bNode_1, bNode_p, bSet_1, bSet_p, bOver_1, bOver_p, bWrap_1, bWrap_p, bKeep_1, bKeep_p, bSlot_1, bSlot_p] at a26 b26 c26 d26 e26 f26 h26 i26
                have y26' := ih 17 _ _ _ _ _ _ _ _ _ s26 (0) (b.1) ((60 - v)) (by omega) (by omega) (by omega) (by first | omega | (simp only [bNode_1, bNode_p, bSet_1, bSet_p, bOver_1, bOver_p, bWrap_1, bWrap_p, bKeep_1, bKeep_p, bSlot_1, bSlot_p]; omega)) (by first | omega | (simp only [bNode_1, bNode_p, bSet_1, bSet_p, bOver_1, bOver_p, bWrap_1, bWrap_p, bKeep_1, bKeep_p, bSlot_1, bSlot_p]; omega)) (by first | omega | (simp only [bNode_1, bNode_p, bSet_1, bSet_p, bOver_1, bOver_p, bWrap_1, bWrap_p, bKeep_1, bKeep_p, bSlot_1, bSlot_p]; omega)) (hE) g26 (Or.inl ⟨rfl, rfl, rfl⟩)
                have y26 : Frm E.2.2.2.1 v b 0 s26.2.2.2.2.1 ∧ (∀ x ∈ s26.2.2.2.2.2, x.2.2 < 60) ∧ 1 ≤ s26.2.2.2.1 ∧ ∃ m, m + 1 + (60 - s26.2.1) ≤ (60 - v) ∧ ∀ T', Agr T' E.2.2.2.1 s26.2.1 s26.2.2.2.2.1 b.1 0 → ∃ el, LSe (PJ FN (eFl E) E.2.2.2.1 0 (20 - (o + 1)) (60 - v) T') T' m s26.2.2.2.1 el ∧ T' 9 el = -1 := y26'
                try dsimp only at hG
                obtain ⟨m, m2, m3⟩ := y26.2.2.2
                by_cases y27 : tkK T n s26.1 = 15
                · rw [if_pos y27] at hG
                  obtain ⟨t28, hG⟩ := gT_s hG
                  have u28 := tkN_b T n s26.1 (by omega)
                  try dsimp only at hG
                  obtain ⟨s29, g29, hG⟩ := gb_s hG
                  have x29 := mo _ _ _ _ _ _ _ _ _ _ s29 (by omega) (by omega) g29 1 (by first | omega | (simp only [bNode_1, bNode_p, bSet_1, bSet_p, bOver_1, bOver_p, bWrap_1, bWrap_p, bKeep_1, bKeep_p, bSlot_1, bSlot_p]; omega)) (Nat.le_refl 1) (trivial)
                  obtain ⟨a29, b29, c29, d29, e29, f29, h29, i29⟩ := (x29.1 : Mo n _ _ _ s29)
                  have j29 := x29.2
                  have j29 : 1 ≤ s29.2.2.2.1 ∧ s29.2.2.2.1 < s29.2.2.2.2.1.1 := j29
                  try simp only [bNode_1, bNode_p, bSet_1, bSet_p, bOver_1, bOver_p, bWrap_1, bWrap_p, bKeep_1, bKeep_p, bSlot_1, bSlot_p] at a29 b29 c29 d29 e29 f29 h29 i29
                  have y29' := ih 0 _ _ _ _ _ _ _ _ _ s29 (0) (_) (_) (by omega) (by omega) (by omega) (by first | omega | (simp only [bNode_1, bNode_p, bSet_1, bSet_p, bOver_1, bOver_p, bWrap_1, bWrap_p, bKeep_1, bKeep_p, bSlot_1, bSlot_p]; omega)) (by first | omega | (simp only [bNode_1, bNode_p, bSet_1, bSet_p, bOver_1, bOver_p, bWrap_1, bWrap_p, bKeep_1, bKeep_p, bSlot_1, bSlot_p]; omega)) (by first | omega | (simp only [bNode_1, bNode_p, bSet_1, bSet_p, bOver_1, bOver_p, bWrap_1, bWrap_p, bKeep_1, bKeep_p, bSlot_1, bSlot_p]; omega)) (EnOK_see hE y26.2.1) g29 (⟨rfl, rfl⟩)
                  have y29 : Frm E.2.2.2.1 s26.2.1 s26.2.2.2.2.1 0 s29.2.2.2.2.1 ∧ LPt FN (eFl E) E.2.2.2.1 s29.2.1 (20 - (o + 1)) 14 (60 - s26.2.1) s26.2.2.2.2.1.1 s29.2.2.2.2.1 s29.2.2.2.1 := y29'
                  try dsimp only at hG
                  obtain ⟨w30, t30, hG⟩ := gW_s hG
                  have u30 := tkN_b T n s29.1 (by omega)
                  try dsimp only at hG
                  obtain ⟨s31, g31, hG⟩ := gb_s hG
                  have x31 := mo _ _ _ _ _ _ _ _ _ _ s31 (by omega) (by omega) g31 1 (by first | omega | (simp only [bNode_1, bNode_p, bSet_1, bSet_p, bOver_1, bOver_p, bWrap_1, bWrap_p, bKeep_1, bKeep_p, bSlot_1, bSlot_p]; omega)) (Nat.le_refl 1) (trivial)
                  obtain ⟨a31, b31, c31, d31, e31, f31, h31, i31⟩ := (x31.1 : Mo n _ _ _ s31)
                  have j31 := x31.2
                  have j31 : 1 ≤ s31.2.2.2.1 ∧ s31.2.2.2.1 < s31.2.2.2.2.1.1 := j31
                  try simp only [bNode_1, bNode_p, bSet_1, bSet_p, bOver_1, bOver_p, bWrap_1, bWrap_p, bKeep_1, bKeep_p, bSlot_1, bSlot_p] at a31 b31 c31 d31 e31 f31 h31 i31
                  have y31' := ih 0 _ _ _ _ _ _ _ _ _ s31 (0) (_) (_) (by omega) (by omega) (by omega) (by first | omega | (simp only [bNode_1, bNode_p, bSet_1, bSet_p, bOver_1, bOver_p, bWrap_1, bWrap_p, bKeep_1, bKeep_p, bSlot_1, bSlot_p]; omega)) (by first | omega | (simp only [bNode_1, bNode_p, bSet_1, bSet_p, bOver_1, bOver_p, bWrap_1, bWrap_p, bKeep_1, bKeep_p, bSlot_1, bSlot_p]; omega)) (by first | omega | (simp only [bNode_1, bNode_p, bSet_1, bSet_p, bOver_1, bOver_p, bWrap_1, bWrap_p, bKeep_1, bKeep_p, bSlot_1, bSlot_p]; omega)) (EnOK_see hE y26.2.1) g31 (⟨rfl, rfl⟩)
                  have y31 : Frm E.2.2.2.1 s29.2.1 s29.2.2.2.2.1 0 s31.2.2.2.2.1 ∧ LPt FN (eFl E) E.2.2.2.1 s31.2.1 (20 - (o + 1)) 14 (60 - s29.2.1) s29.2.2.2.2.1.1 s31.2.2.2.2.1 s31.2.2.2.1 := y31'
                  try dsimp only at hG
                  obtain ⟨w32, t32, hG⟩ := gW_s hG
                  have u32 := tkN_b T n s31.1 (by omega)
                  try dsimp only at hG
                  cases hG
                  refine ⟨Frm_ta (Frm_ta (Frm_ta y26.1 y29.1 (Or.inl rfl)) y31.1 (Or.inl rfl)) (Frm_wrap (vv := v)) (Or.inl rfl), LP_for (vv := s31.2.1) hb1 (by omega) (by omega) (by decide) (by omega) (fun T' hA => ⟨m + 1, by omega, by omega, ?_, Or.inr ?_, ?_⟩)⟩
                  · rw [show 20 - o - 1 = 20 - (o + 1) by omega]
                    rw [hd_1 y26.2.2.1]
                    exact (m3 T' (Agr_ga hA (Frm_ta y29.1 y31.1 (Or.inl rfl)) hb1 (Nat.le_refl _) (Or.inl (by omega)) (Or.inl rfl))).elim (fun el z => PJs_4 z.1 z.2)
                  · rw [show 20 - o - 1 = 20 - (o + 1) by omega]
                    exact WX_mo (LP_aa y29.2 (Frm_wk y31.1) hA hb1 (by omega) (Or.inr rfl)) (by omega) Lx_rf
                  · rw [show 20 - o - 1 = 20 - (o + 1) by omega]
                    exact WX_mo (LP_aa y31.2 Frm_rf hA hb1 (by omega) (Or.inr rfl)) (by omega) Lx_rf
                · rw [if_neg y27] at hG
                  obtain ⟨w33, t33, hG⟩ := gW_s hG
                  have u33 := tkN_b T n s26.1 (by omega)
                  try dsimp only at hG
                  obtain ⟨s34, g34, hG⟩ := gb_s hG
                  have x34 := mo _ _ _ _ _ _ _ _ _ _ s34 (by omega) (by omega) g34 1 (by first | omega | (simp only [bNode_1, bNode_p, bSet_1, bSet_p, bOver_1, bOver_p, bWrap_1, bWrap_p, bKeep_1, bKeep_p, bSlot_1, bSlot_p]; omega)) (Nat.le_refl 1) (trivial)
                  obtain ⟨a34, b34, c34, d34, e34, f34, h34, i34⟩ := (x34.1 : Mo n _ _ _ s34)
                  have j34 := x34.2
                  have j34 : 1 ≤ s34.2.2.2.1 ∧ s34.2.2.2.1 < s34.2.2.2.2.1.1 := j34
                  try simp only [bNode_1, bNode_p, bSet_1, bSet_p, bOver_1, bOver_p, bWrap_1, bWrap_p, bKeep_1, bKeep_p, bSlot_1, bSlot_p] at a34 b34 c34 d34 e34 f34 h34 i34
                  have y34' := ih 0 _ _ _ _ _ _ _ _ _ s34 (0) (_) (_) (by omega) (by omega) (by omega) (by first | omega | (simp only [bNode_1, bNode_p, bSet_1, bSet_p, bOver_1, bOver_p, bWrap_1, bWrap_p, bKeep_1, bKeep_p, bSlot_1, bSlot_p]; omega)) (by first | omega | (simp only [bNode_1, bNode_p, bSet_1, bSet_p, bOver_1, bOver_p, bWrap_1, bWrap_p, bKeep_1, bKeep_p, bSlot_1, bSlot_p]; omega)) (by first | omega | (simp only [bNode_1, bNode_p, bSet_1, bSet_p, bOver_1, bOver_p, bWrap_1, bWrap_p, bKeep_1, bKeep_p, bSlot_1, bSlot_p]; omega)) (EnOK_see hE y26.2.1) g34 (⟨rfl, rfl⟩)
                  have y34 : Frm E.2.2.2.1 s26.2.1 s26.2.2.2.2.1 0 s34.2.2.2.2.1 ∧ LPt FN (eFl E) E.2.2.2.1 s34.2.1 (20 - (o + 1)) 14 (60 - s26.2.1) s26.2.2.2.2.1.1 s34.2.2.2.2.1 s34.2.2.2.1 := y34'
                  try dsimp only at hG
                  obtain ⟨w35, t35, hG⟩ := gW_s hG
                  have u35 := tkN_b T n s34.1 (by omega)
                  try dsimp only at hG
                  cases hG
                  refine ⟨Frm_ta (Frm_ta y26.1 y34.1 (Or.inl rfl)) (Frm_wrap (vv := v)) (Or.inl rfl), LP_for (vv := s34.2.1) hb1 (by omega) (by omega) (by decide) (by omega) (fun T' hA => ⟨m + 1, by omega, by omega, ?_, Or.inl rfl, ?_⟩)⟩
                  · rw [show 20 - o - 1 = 20 - (o + 1) by omega]
                    rw [hd_1 y26.2.2.1]
                    exact (m3 T' (Agr_ga hA y34.1 hb1 (Nat.le_refl _) (Or.inl (by omega)) (Or.inl rfl))).elim (fun el z => PJs_4 z.1 z.2)
                  · rw [show 20 - o - 1 = 20 - (o + 1) by omega]
                    exact WX_mo (LP_aa y34.2 Frm_rf hA hb1 (by omega) (Or.inr rfl)) (by omega) Lx_rf
              · rw [if_neg y24] at hG
                obtain ⟨s36, g36, hG⟩ := gb_s hG
                have x36 := mo _ _ _ _ _ _ _ _ _ _ s36 (by omega) (by omega) g36 1 (by first | omega | (simp only [bNode_1, bNode_p, bSet_1, bSet_p, bOver_1, bOver_p, bWrap_1, bWrap_p, bKeep_1, bKeep_p, bSlot_1, bSlot_p]; omega)) (Nat.le_refl 1) (trivial)
                obtain ⟨a36, b36, c36, d36, e36, f36, h36, i36⟩ := (x36.1 : Mo n _ _ _ s36)
                have j36 := x36.2
                have j36 : 1 ≤ s36.2.2.2.1 ∧ s36.2.2.2.1 < s36.2.2.2.2.1.1 := j36
                try simp only [bNode_1, bNode_p, bSet_1, bSet_p, bOver_1, bOver_p, bWrap_1, bWrap_p, bKeep_1, bKeep_p, bSlot_1, bSlot_p] at a36 b36 c36 d36 e36 f36 h36 i36
                have y36' := ih 0 _ _ _ _ _ _ _ _ _ s36 (0) (_) (_) (by omega) (by omega) (by omega) (by first | omega | (simp only [bNode_1, bNode_p, bSet_1, bSet_p, bOver_1, bOver_p, bWrap_1, bWrap_p, bKeep_1, bKeep_p, bSlot_1, bSlot_p]; omega)) (by first | omega | (simp only [bNode_1, bNode_p, bSet_1, bSet_p, bOver_1, bOver_p, bWrap_1, bWrap_p, bKeep_1, bKeep_p, bSlot_1, bSlot_p]; omega)) (by first | omega | (simp only [bNode_1, bNode_p, bSet_1, bSet_p, bOver_1, bOver_p, bWrap_1, bWrap_p, bKeep_1, bKeep_p, bSlot_1, bSlot_p]; omega)) (hE) g36 (⟨rfl, rfl⟩)
                have y36 : Frm E.2.2.2.1 v b 0 s36.2.2.2.2.1 ∧ LPt FN (eFl E) E.2.2.2.1 s36.2.1 (20 - (o + 1)) 14 (60 - v) b.1 s36.2.2.2.2.1 s36.2.2.2.1 := y36'
                try dsimp only at hG
                by_cases y37 : tkK T n s36.1 = 16
                · rw [if_pos y37] at hG
                  obtain ⟨t38, hG⟩ := gT_s hG
                  have u38 := tkN_b T n s36.1 (by omega)
                  try dsimp only at hG
                  obtain ⟨s39, g39, hG⟩ := gb_s hG
                  have x39 := mo _ _ _ _ _ _ _ _ _ _ s39 (by omega) (by omega) g39 1 (by first | omega | (simp only [bNode_1, bNode_p, bSet_1, bSet_p, bOver_1, bOver_p, bWrap_1, bWrap_p, bKeep_1, bKeep_p, bSlot_1, bSlot_p]; omega)) (Nat.le_refl 1) (trivial)
                  obtain ⟨a39, b39, c39, d39, e39, f39, h39, i39⟩ := (x39.1 : Mo n _ _ _ s39)
                  have j39 := x39.2
                  have j39 : 1 ≤ s39.2.2.2.1 ∧ s39.2.2.2.1 < s39.2.2.2.2.1.1 := j39
                  try simp only [bNode_1, bNode_p, bSet_1, bSet_p, bOver_1, bOver_p, bWrap_1, bWrap_p, bKeep_1, bKeep_p, bSlot_1, bSlot_p] at a39 b39 c39 d39 e39 f39 h39 i39
                  have y39' := ih 0 _ _ _ _ _ _ _ _ _ s39 (0) (_) (_) (by omega) (by omega) (by omega) (by first | omega | (simp only [bNode_1, bNode_p, bSet_1, bSet_p, bOver_1, bOver_p, bWrap_1, bWrap_p, bKeep_1, bKeep_p, bSlot_1, bSlot_p]; omega)) (by first | omega | (simp only [bNode_1, bNode_p, bSet_1, bSet_p, bOver_1, bOver_p, bWrap_1, bWrap_p, bKeep_1, bKeep_p, bSlot_1, bSlot_p]; omega)) (by first | omega | (simp only [bNode_1, bNode_p, bSet_1, bSet_p, bOver_1, bOver_p, bWrap_1, bWrap_p, bKeep_1, bKeep_p, bSlot_1, bSlot_p]; omega)) (hE) g39 (⟨rfl, rfl⟩)
                  have y39 : Frm E.2.2.2.1 s36.2.1 s36.2.2.2.2.1 0 s39.2.2.2.2.1 ∧ LPt FN (eFl E) E.2.2.2.1 s39.2.1 (20 - (o + 1)) 14 (60 - s36.2.1) s36.2.2.2.2.1.1 s39.2.2.2.2.1 s39.2.2.2.1 := y39'
                  try dsimp only at hG
                  obtain ⟨w40, t40, hG⟩ := gW_s hG
                  have u40 := tkN_b T n s39.1 (by omega)
                  try dsimp only at hG
                  cases hG
                  refine ⟨Frm_ta (Frm_ta y36.1 y39.1 (Or.inl rfl)) (Frm_wrap (vv := v)) (Or.inl rfl), LP_rng (vv := s39.2.1) hb1 (by omega) (by omega) (by decide) (by omega) (fun T' hA => ⟨?_, Or.inl rfl, ?_⟩)⟩
                  · rw [show 20 - o - 1 = 20 - (o + 1) by omega]
                    exact LP_aa y36.2 (Frm_wk y39.1) hA hb1 (Nat.le_refl _) (Or.inr rfl)
                  · rw [show 20 - o - 1 = 20 - (o + 1) by omega]
                    exact WX_mo (LP_aa y39.2 Frm_rf hA hb1 (by omega) (Or.inr rfl)) (by omega) Lx_rf
                · rw [if_neg y37] at hG
                  obtain ⟨s41, g41, hG⟩ := gb_s hG
                  have x41 := mo _ _ _ _ _ _ _ _ _ _ s41 (by omega) (by omega) g41 1 (by first | omega | (simp only [bNode_1, bNode_p, bSet_1, bSet_p, bOver_1, bOver_p, bWrap_1, bWrap_p, bKeep_1, bKeep_p, bSlot_1, bSlot_p]; omega)) (Nat.le_refl 1) ((⟨by omega, by omega, by omega, by omega⟩ : 1 ≤ _ ∧ _ < _ ∧ 1 ≤ _ ∧ _ < _))
                  obtain ⟨a41, b41, c41, d41, e41, f41, h41, i41⟩ := (x41.1 : Mo1 n _ _ _ s41)
                  have j41 := x41.2
                  have j41 : 1 ≤ s41.2.2.2.1 ∧ s41.2.2.2.1 < s41.2.2.2.2.1.1 := j41
                  try simp only [bNode_1, bNode_p, bSet_1, bSet_p, bOver_1, bOver_p, bWrap_1, bWrap_p, bKeep_1, bKeep_p, bSlot_1, bSlot_p] at a41 b41 c41 d41 e41 f41 h41 i41
                  have y41' := ih 15 _ _ _ _ _ _ _ _ _ s41 (0) (b.1) ((60 - v)) (by omega) (by omega) (by omega) (by first | omega | (simp only [bNode_1, bNode_p, bSet_1, bSet_p, bOver_1, bOver_p, bWrap_1, bWrap_p, bKeep_1, bKeep_p, bSlot_1, bSlot_p]; omega)) (by first | omega | (simp only [bNode_1, bNode_p, bSet_1, bSet_p, bOver_1, bOver_p, bWrap_1, bWrap_p, bKeep_1, bKeep_p, bSlot_1, bSlot_p]; omega)) (by first | omega | (simp only [bNode_1, bNode_p, bSet_1, bSet_p, bOver_1, bOver_p, bWrap_1, bWrap_p, bKeep_1, bKeep_p, bSlot_1, bSlot_p]; omega)) (hE) g41 (⟨LL_1 y36.2 (Nat.le_refl _) (by decide) (by omega), ⟨by decide, by omega⟩, by omega, by omega, by omega, by omega⟩)
                  have y41 : Frm E.2.2.2.1 s36.2.1 s36.2.2.2.2.1 s36.2.2.2.1 s41.2.2.2.2.1 ∧ LPt FN (eFl E) E.2.2.2.1 s41.2.1 (20 - (o + 1) + 1) 4 (60 - v) b.1 s41.2.2.2.2.1 s41.2.2.2.1 := y41'
                  try dsimp only at hG
                  obtain ⟨w42, t42, hG⟩ := gW_s hG
                  have u42 := tkN_b T n s41.1 (by omega)
                  try dsimp only at hG
                  cases hG
                  refine ⟨Frm_ta y36.1 y41.1 (Or.inr (Or.inl y36.2.2.1)), ?_⟩
                  have hl := y41.2
                  rw [show 20 - (o + 1) + 1 = 20 - o by omega] at hl
                  exact hl
          · rw [if_neg y19] at hG
            by_cases y43 : tkK T n q = 60 ∨ tkK T n q = 61 ∨ tkK T n q = 62
            · rw [if_pos y43] at hG
              obtain ⟨t44, hG⟩ := gT_s hG
              have u44 := tkN_b T n q (by omega)
              try dsimp only at hG
              cases hG
              exact ⟨(Frm_node (vv := v)), LP_cst hb1 (Nat.le_refl _) (by omega) (by decide) (ite_2 (P := fun k => k = 3 ∨ k = 4 ∨ k = 5) (by decide) (ite_2 (P := fun k => k = 3 ∨ k = 4 ∨ k = 5) (by decide) (by decide)))⟩
            · rw [if_neg y43] at hG
              by_cases y45 : tkK T n q = 69 ∨ tkK T n q = 70
              · rw [if_pos y45] at hG
                obtain ⟨o46, hG⟩ := gO_s hG
                obtain ⟨t47, hG⟩ := gT_s hG
                have u47 := tkN_b T n q (by omega)
                try dsimp only at hG
                obtain ⟨s48, g48, hG⟩ := gb_s hG
                have x48 := mo _ _ _ _ _ _ _ _ _ _ s48 (by omega) (by omega) g48 1 (by first | omega | (simp only [bNode_1, bNode_p, bSet_1, bSet_p, bOver_1, bOver_p, bWrap_1, bWrap_p, bKeep_1, bKeep_p, bSlot_1, bSlot_p]; omega)) (Nat.le_refl 1) (Or.inl rfl)
                obtain ⟨a48, b48, c48, d48, e48, f48, h48, i48⟩ := (x48.1 : Mo n _ _ _ s48)
                have j48 := x48.2
                have j48 : 1 ≤ s48.2.2.2.1 ∧ s48.2.2.2.1 < s48.2.2.2.2.1.1 := j48
                try simp only [bNode_1, bNode_p, bSet_1, bSet_p, bOver_1, bOver_p, bWrap_1, bWrap_p, bKeep_1, bKeep_p, bSlot_1, bSlot_p] at a48 b48 c48 d48 e48 f48 h48 i48
                have y48' := ih 17 _ _ _ _ _ _ _ _ _ s48 (0) (b.1) ((60 - v)) (by omega) (by omega) (by omega) (by first | omega | (simp only [bNode_1, bNode_p, bSet_1, bSet_p, bOver_1, bOver_p, bWrap_1, bWrap_p, bKeep_1, bKeep_p, bSlot_1, bSlot_p]; omega)) (by first | omega | (simp only [bNode_1, bNode_p, bSet_1, bSet_p, bOver_1, bOver_p, bWrap_1, bWrap_p, bKeep_1, bKeep_p, bSlot_1, bSlot_p]; omega)) (by first | omega | (simp only [bNode_1, bNode_p, bSet_1, bSet_p, bOver_1, bOver_p, bWrap_1, bWrap_p, bKeep_1, bKeep_p, bSlot_1, bSlot_p]; omega)) (hE) g48 (Or.inl ⟨rfl, rfl, rfl⟩)
                have y48 : Frm E.2.2.2.1 v b 0 s48.2.2.2.2.1 ∧ (∀ x ∈ s48.2.2.2.2.2, x.2.2 < 60) ∧ 1 ≤ s48.2.2.2.1 ∧ ∃ m, m + 1 + (60 - s48.2.1) ≤ (60 - v) ∧ ∀ T', Agr T' E.2.2.2.1 s48.2.1 s48.2.2.2.2.1 b.1 0 → ∃ el, LSe (PJ FN (eFl E) E.2.2.2.1 0 (20 - (o + 1)) (60 - v) T') T' m s48.2.2.2.1 el ∧ T' 9 el = -1 := y48'
                try dsimp only at hG
                obtain ⟨w49, t49, hG⟩ := gW_s hG
                have u49 := tkN_b T n s48.1 (by omega)
                try dsimp only at hG
                obtain ⟨m, m2, m3⟩ := y48.2.2.2
                obtain ⟨s50, g50, hG⟩ := gb_s hG
                have x50 := mo _ _ _ _ _ _ _ _ _ _ s50 (by omega) (by omega) g50 1 (by first | omega | (simp only [bNode_1, bNode_p, bSet_1, bSet_p, bOver_1, bOver_p, bWrap_1, bWrap_p, bKeep_1, bKeep_p, bSlot_1, bSlot_p]; omega)) (Nat.le_refl 1) (trivial)
                obtain ⟨a50, b50, c50, d50, e50, f50, h50, i50⟩ := (x50.1 : Mo n _ _ _ s50)
                have j50 := x50.2
                have j50 : 1 ≤ s50.2.2.2.1 ∧ s50.2.2.2.1 < s50.2.2.2.2.1.1 := j50
                try simp only [bNode_1, bNode_p, bSet_1, bSet_p, bOver_1, bOver_p, bWrap_1, bWrap_p, bKeep_1, bKeep_p, bSlot_1, bSlot_p] at a50 b50 c50 d50 e50 f50 h50 i50
                have y50' := ih 0 _ _ _ _ _ _ _ _ _ s50 (0) (_) (_) (by omega) (by omega) (by omega) (by first | omega | (simp only [bNode_1, bNode_p, bSet_1, bSet_p, bOver_1, bOver_p, bWrap_1, bWrap_p, bKeep_1, bKeep_p, bSlot_1, bSlot_p]; omega)) (by first | omega | (simp only [bNode_1, bNode_p, bSet_1, bSet_p, bOver_1, bOver_p, bWrap_1, bWrap_p, bKeep_1, bKeep_p, bSlot_1, bSlot_p]; omega)) (by first | omega | (simp only [bNode_1, bNode_p, bSet_1, bSet_p, bOver_1, bOver_p, bWrap_1, bWrap_p, bKeep_1, bKeep_p, bSlot_1, bSlot_p]; omega)) (EnOK_see hE y48.2.1) g50 (⟨rfl, rfl⟩)
                have y50 : Frm E.2.2.2.1 s48.2.1 s48.2.2.2.2.1 0 s50.2.2.2.2.1 ∧ LPt FN (eFl E) E.2.2.2.1 s50.2.1 (20 - (o + 1)) 14 (60 - s48.2.1) s48.2.2.2.2.1.1 s50.2.2.2.2.1 s50.2.2.2.1 := y50'
                try dsimp only at hG
                cases hG
                refine ⟨Frm_ta (Frm_ta y48.1 y50.1 (Or.inl rfl)) (Frm_node (vv := v)) (Or.inl rfl), LP_qua (vv := s50.2.1) hb1 (by omega) (by omega) (by decide) (by omega) (fun T' hA => ⟨m + 1, by omega, by omega, ?_, ?_⟩)⟩
                · rw [show 20 - o - 1 = 20 - (o + 1) by omega]
                  rw [hd_1 y48.2.2.1]
                  exact (m3 T' (Agr_ga hA y50.1 hb1 (Nat.le_refl _) (Or.inl (by omega)) (Or.inl rfl))).elim (fun el z => PJs_4 z.1 z.2)
                · rw [show 20 - o - 1 = 20 - (o + 1) by omega]
                  exact WX_mo (LP_aa y50.2 Frm_rf hA hb1 (by omega) (Or.inr rfl)) (by omega) Lx_rf
              · rw [if_neg y45] at hG
                by_cases y51 : tkK T n q = 39
                · rw [if_pos y51] at hG
                  obtain ⟨o52, hG⟩ := gO_s hG
                  obtain ⟨t53, hG⟩ := gT_s hG
                  have u53 := tkN_b T n q (by omega)
                  try dsimp only at hG
                  obtain ⟨s54, g54, hG⟩ := gb_s hG
                  have x54 := mo _ _ _ _ _ _ _ _ _ _ s54 (by omega) (by omega) g54 1 (by first | omega | (simp only [bNode_1, bNode_p, bSet_1, bSet_p, bOver_1, bOver_p, bWrap_1, bWrap_p, bKeep_1, bKeep_p, bSlot_1, bSlot_p]; omega)) (Nat.le_refl 1) (trivial)
                  obtain ⟨a54, b54, c54, d54, e54, f54, h54, i54⟩ := (x54.1 : Mo n _ _ _ s54)
                  have j54 := x54.2
                  have j54 : 1 ≤ s54.2.2.2.1 ∧ s54.2.2.2.1 < s54.2.2.2.2.1.1 := j54
                  try simp only [bNode_1, bNode_p, bSet_1, bSet_p, bOver_1, bOver_p, bWrap_1, bWrap_p, bKeep_1, bKeep_p, bSlot_1, bSlot_p] at a54 b54 c54 d54 e54 f54 h54 i54
                  have y54' := ih 0 _ _ _ _ _ _ _ _ _ s54 (0) (_) (_) (by omega) (by omega) (by omega) (by first | omega | (simp only [bNode_1, bNode_p, bSet_1, bSet_p, bOver_1, bOver_p, bWrap_1, bWrap_p, bKeep_1, bKeep_p, bSlot_1, bSlot_p]; omega)) (by first | omega | (simp only [bNode_1, bNode_p, bSet_1, bSet_p, bOver_1, bOver_p, bWrap_1, bWrap_p, bKeep_1, bKeep_p, bSlot_1, bSlot_p]; omega)) (by first | omega | (simp only [bNode_1, bNode_p, bSet_1, bSet_p, bOver_1, bOver_p, bWrap_1, bWrap_p, bKeep_1, bKeep_p, bSlot_1, bSlot_p]; omega)) (hE) g54 (⟨rfl, rfl⟩)
                  have y54 : Frm E.2.2.2.1 v b 0 s54.2.2.2.2.1 ∧ LPt FN (eFl E) E.2.2.2.1 s54.2.1 (20 - (o + 1)) 14 (60 - v) b.1 s54.2.2.2.2.1 s54.2.2.2.1 := y54'
                  try dsimp only at hG
                  obtain ⟨w55, t55, hG⟩ := gW_s hG
                  have u55 := tkN_b T n s54.1 (by omega)
                  try dsimp only at hG
                  obtain ⟨s56, g56, hG⟩ := gb_s hG
                  have x56 := mo _ _ _ _ _ _ _ _ _ _ s56 (by omega) (by omega) g56 1 (by first | omega | (simp only [bNode_1, bNode_p, bSet_1, bSet_p, bOver_1, bOver_p, bWrap_1, bWrap_p, bKeep_1, bKeep_p, bSlot_1, bSlot_p]; omega)) (Nat.le_refl 1) (trivial)
                  obtain ⟨a56, b56, c56, d56, e56, f56, h56, i56⟩ := (x56.1 : Mo n _ _ _ s56)
                  have j56 := x56.2
                  have j56 : 1 ≤ s56.2.2.2.1 ∧ s56.2.2.2.1 < s56.2.2.2.2.1.1 := j56
                  try simp only [bNode_1, bNode_p, bSet_1, bSet_p, bOver_1, bOver_p, bWrap_1, bWrap_p, bKeep_1, bKeep_p, bSlot_1, bSlot_p] at a56 b56 c56 d56 e56 f56 h56 i56
                  have y56' := ih 0 _ _ _ _ _ _ _ _ _ s56 (0) (_) (_) (by omega) (by omega) (by omega) (by first | omega | (simp only [bNode_1, bNode_p, bSet_1, bSet_p, bOver_1, bOver_p, bWrap_1, bWrap_p, bKeep_1, bKeep_p, bSlot_1, bSlot_p]; omega)) (by first | omega | (simp only [bNode_1, bNode_p, bSet_1, bSet_p, bOver_1, bOver_p, bWrap_1, bWrap_p, bKeep_1, bKeep_p, bSlot_1, bSlot_p]; omega)) (by first | omega | (simp only [bNode_1, bNode_p, bSet_1, bSet_p, bOver_1, bOver_p, bWrap_1, bWrap_p, bKeep_1, bKeep_p, bSlot_1, bSlot_p]; omega)) (hE) g56 (⟨rfl, rfl⟩)
                  have y56 : Frm E.2.2.2.1 s54.2.1 s54.2.2.2.2.1 0 s56.2.2.2.2.1 ∧ LPt FN (eFl E) E.2.2.2.1 s56.2.1 (20 - (o + 1)) 14 (60 - s54.2.1) s54.2.2.2.2.1.1 s56.2.2.2.2.1 s56.2.2.2.1 := y56'
                  try dsimp only at hG
                  obtain ⟨s57, g57, hG⟩ := gb_s hG
                  have x57 := mo _ _ _ _ _ _ _ _ _ _ s57 (by omega) (by omega) g57 1 (by first | omega | (simp only [bNode_1, bNode_p, bSet_1, bSet_p, bOver_1, bOver_p, bWrap_1, bWrap_p, bKeep_1, bKeep_p, bSlot_1, bSlot_p]; omega)) (Nat.le_refl 1) ((⟨by omega, by first | omega | (simp only [bNode_1, bNode_p, bSet_1, bSet_p, bOver_1, bOver_p, bWrap_1, bWrap_p, bKeep_1, bKeep_p, bSlot_1, bSlot_p]; omega)⟩ : 1 ≤ _ ∧ _ < _))
                  obtain ⟨a57, b57, c57, d57, e57, f57, h57, i57⟩ := (x57.1 : Mo n _ _ _ s57)
                  have j57 := x57.2
                  have j57 : 1 ≤ s57.2.2.2.1 ∧ s57.2.2.2.1 < s57.2.2.2.2.1.1 := j57
                  try simp only [bNode_1, bNode_p, bSet_1, bSet_p, bOver_1, bOver_p, bWrap_1, bWrap_p, bKeep_1, bKeep_p, bSlot_1, bSlot_p] at a57 b57 c57 d57 e57 f57 h57 i57
                  have y57' := ih 16 _ _ _ _ _ _ _ _ _ s57 (0) (b.1) ((60 - v)) (by omega) (by omega) (by omega) (by first | omega | (simp only [bNode_1, bNode_p, bSet_1, bSet_p, bOver_1, bOver_p, bWrap_1, bWrap_p, bKeep_1, bKeep_p, bSlot_1, bSlot_p]; omega)) (by first | omega | (simp only [bNode_1, bNode_p, bSet_1, bSet_p, bOver_1, bOver_p, bWrap_1, bWrap_p, bKeep_1, bKeep_p, bSlot_1, bSlot_p]; omega)) (by first | omega | (simp only [bNode_1, bNode_p, bSet_1, bSet_p, bOver_1, bOver_p, bWrap_1, bWrap_p, bKeep_1, bKeep_p, bSlot_1, bSlot_p]; omega)) (hE) g57 (⟨⟨0, LB_1 y54.2 y56.1 (LP_mo y56.2 (by omega) Lx_rf) (by omega) (Nat.le_refl _) (by decide) (by decide) (by omega)⟩, by omega⟩)
                  have y57 : Frm E.2.2.2.1 s56.2.1 (bNode s56.2.2.2.2.1 33 (nI s54.2.2.2.1) (nI s56.2.2.2.1) 0) s56.2.2.2.2.1.1 s57.2.2.2.2.1 ∧ ∃ c', LL (PB2 FN (eFl E) E.2.2.2.1 (20 - (o + 1)) (60 - v)) E.2.2.2.1 s57.2.1 b.1 s57.2.2.2.2.1 _ s57.2.2.2.1 c' := y57'
                  try dsimp only at hG
                  obtain ⟨cb, hcb⟩ := y57.2
                  obtain ⟨w58, t58, hG⟩ := gW_s hG
                  have u58 := tkN_b T n s57.1 (by omega)
                  try dsimp only at hG
                  obtain ⟨s59, g59, hG⟩ := gb_s hG
                  have x59 := mo _ _ _ _ _ _ _ _ _ _ s59 (by omega) (by omega) g59 1 (by first | omega | (simp only [bNode_1, bNode_p, bSet_1, bSet_p, bOver_1, bOver_p, bWrap_1, bWrap_p, bKeep_1, bKeep_p, bSlot_1, bSlot_p]; omega)) (Nat.le_refl 1) (trivial)
                  obtain ⟨a59, b59, c59, d59, e59, f59, h59, i59⟩ := (x59.1 : Mo n _ _ _ s59)
                  have j59 := x59.2
                  have j59 : 1 ≤ s59.2.2.2.1 ∧ s59.2.2.2.1 < s59.2.2.2.2.1.1 := j59
                  try simp only [bNode_1, bNode_p, bSet_1, bSet_p, bOver_1, bOver_p, bWrap_1, bWrap_p, bKeep_1, bKeep_p, bSlot_1, bSlot_p] at a59 b59 c59 d59 e59 f59 h59 i59
                  have y59' := ih 0 _ _ _ _ _ _ _ _ _ s59 (0) (_) (_) (by omega) (by omega) (by omega) (by first | omega | (simp only [bNode_1, bNode_p, bSet_1, bSet_p, bOver_1, bOver_p, bWrap_1, bWrap_p, bKeep_1, bKeep_p, bSlot_1, bSlot_p]; omega)) (by first | omega | (simp only [bNode_1, bNode_p, bSet_1, bSet_p, bOver_1, bOver_p, bWrap_1, bWrap_p, bKeep_1, bKeep_p, bSlot_1, bSlot_p]; omega)) (by first | omega | (simp only [bNode_1, bNode_p, bSet_1, bSet_p, bOver_1, bOver_p, bWrap_1, bWrap_p, bKeep_1, bKeep_p, bSlot_1, bSlot_p]; omega)) (hE) g59 (⟨rfl, rfl⟩)
                  have y59 : Frm E.2.2.2.1 s57.2.1 s57.2.2.2.2.1 0 s59.2.2.2.2.1 ∧ LPt FN (eFl E) E.2.2.2.1 s59.2.1 (20 - (o + 1)) 14 (60 - s57.2.1) s57.2.2.2.2.1.1 s59.2.2.2.2.1 s59.2.2.2.1 := y59'
                  try dsimp only at hG
                  obtain ⟨w60, t60, hG⟩ := gW_s hG
                  have u60 := tkN_b T n s59.1 (by omega)
                  try dsimp only at hG
                  cases hG
                  refine ⟨Frm_ta (Frm_ta (Frm_ta (Frm_ta (Frm_ta y54.1 y56.1 (Or.inl rfl)) (Frm_node (vv := v)) (Or.inl rfl)) y57.1 (Or.inr (Or.inl (by omega)))) y59.1 (Or.inl rfl)) (Frm_ta (Frm_ta (Frm_node (vv := v)) (Frm_set9 (vv := v) (e := s57.2.2.2.1)) (Or.inl rfl)) (Frm_node (vv := v)) (Or.inl rfl)) (Or.inr (Or.inl hcb.2.1)), LP_if (b := bSet (bNode s59.2.2.2.2.1 33 (-1) (nI s59.2.2.2.1) 0) 9 s57.2.2.2.1 (nI s59.2.2.2.2.1.1)) hb1 (by show b.1 ≤ s59.2.2.2.2.1.1 + 1; omega) (by show s59.2.2.2.2.1.1 + 1 < 70000; omega) (by decide) (by omega) (fun T' hA => ?_)⟩
                  rw [show 20 - o - 1 = 20 - (o + 1) by omega]
                  exact LB_5 hcb y59.1 y59.2 (by omega) (by omega) (by decide) (by omega) hA
                · rw [if_neg y51] at hG
                  by_cases y61 : tkK T n q = 83 ∧ E.2.2.2.2.1 = true
                  · rw [if_pos y61] at hG
                    obtain ⟨t62, hG⟩ := gT_s hG
                    have u62 := tkN_b T n q (by omega)
                    try dsimp only at hG
                    cases hG
                    exact ⟨(Frm_node (vv := v)), LP_new hb1 (Nat.le_refl _) (by omega) (by decide) (Or.inl ⟨rfl, y61.2⟩)⟩
                  · rw [if_neg y61] at hG
                    by_cases y63 : isFn (tkK T n q) E.2.2.2.2.2.1
                    · rw [if_pos y63] at hG
                      obtain ⟨t64, hG⟩ := gT_s hG
                      have u64 := tkN_b T n q (by omega)
                      try dsimp only at hG
                      by_cases y65 : tkK T n (tkN T n q) = 6
                      · rw [if_pos y65] at hG
                        obtain ⟨o66, hG⟩ := gO_s hG
                        obtain ⟨t67, hG⟩ := gT_s hG
                        have u67 := tkN_b T n (tkN T n q) (by omega)
                        try dsimp only at hG
                        obtain ⟨s68, g68, hG⟩ := gb_s hG
                        have x68 := mo _ _ _ _ _ _ _ _ _ _ s68 (by omega) (by omega) g68 1 (by first | omega | (simp only [bNode_1, bNode_p, bSet_1, bSet_p, bOver_1, bOver_p, bWrap_1, bWrap_p, bKeep_1, bKeep_p, bSlot_1, bSlot_p]; omega)) (Nat.le_refl 1) (trivial)
                        obtain ⟨a68, b68, c68, d68, e68, f68, h68, i68⟩ := (x68.1 : Mo n _ _ _ s68)
                        have j68 := x68.2
                        have j68 : 1 ≤ s68.2.2.2.1 ∧ s68.2.2.2.1 < s68.2.2.2.2.1.1 := j68
                        try simp only [bNode_1, bNode_p, bSet_1, bSet_p, bOver_1, bOver_p, bWrap_1, bWrap_p, bKeep_1, bKeep_p, bSlot_1, bSlot_p] at a68 b68 c68 d68 e68 f68 h68 i68
                        have y68' := ih 0 _ _ _ _ _ _ _ _ _ s68 (0) (_) (_) (by omega) (by omega) (by omega) (by first | omega | (simp only [bNode_1, bNode_p, bSet_1, bSet_p, bOver_1, bOver_p, bWrap_1, bWrap_p, bKeep_1, bKeep_p, bSlot_1, bSlot_p]; omega)) (by first | omega | (simp only [bNode_1, bNode_p, bSet_1, bSet_p, bOver_1, bOver_p, bWrap_1, bWrap_p, bKeep_1, bKeep_p, bSlot_1, bSlot_p]; omega)) (by first | omega | (simp only [bNode_1, bNode_p, bSet_1, bSet_p, bOver_1, bOver_p, bWrap_1, bWrap_p, bKeep_1, bKeep_p, bSlot_1, bSlot_p]; omega)) (hE) g68 (⟨rfl, rfl⟩)
                        have y68 : Frm E.2.2.2.1 v b 0 s68.2.2.2.2.1 ∧ LPt FN (eFl E) E.2.2.2.1 s68.2.1 (20 - (o + 1)) 14 (60 - v) b.1 s68.2.2.2.2.1 s68.2.2.2.1 := y68'
                        try dsimp only at hG
                        obtain ⟨w69, t69, hG⟩ := gW_s hG
                        have u69 := tkN_b T n s68.1 (by omega)
                        try dsimp only at hG
                        cases hG
                        exact ⟨Frm_ta y68.1 (Frm_node (vv := v)) (Or.inl rfl), LP_un y68.2 (Nat.le_refl _) (by decide) (by omega) (by decide) (by decide) (by omega) (Nat.le_refl _) hb1 (fun _ => y63.elim (fun h => Or.inr ⟨_, rfl, by omega⟩) (fun h => h.elim (fun h => Or.inr ⟨_, rfl, by omega⟩) (fun h => Or.inl (Or.inr ⟨rfl, h.2⟩))))⟩
                      · rw [if_neg y65] at hG
                        cases hG
                    · rw [if_neg y63] at hG
                      cases hG
theorem gtr_14 {T : Nat → Int32} {n f : Nat} {FN : Nat → Nat → Prop} (hT : ∀ i, i < n → ∃ d, d ≤ 300 ∧ T i = nI d) (ih : GTr T n f FN) {E : En} {o q v i e c g j lo K : Nat} {b : BT} {r : RT} (hq : q ≤ n) (hv : v ≤ 60) (ho : o ≤ 20) (hbn : b.1 + n < 70000 + q) (hbp : b.2.1 + n ≤ 70000 + q) (hb1 : 1 ≤ b.1) (hE : EnOK FN E) (hG : G T n (f + 1) 14 E o q v i e c g b = some (Sum.inr r)) (hN : TPre FN (eFl E) E.2.2.2.1 14 o v i e c g j lo K b) : TPost FN (eFl E) E.2.2.2.1 14 o v i e c g j lo K b r := by
  have mo := g_mono T n f
  rw [G_14] at hG
  have hN : (c = 0 ∧ lo = b.1 ∧ K = 60 - v) ∨ (LL (PX FN (eFl E) E.2.2.2.1 (20 - o) K) E.2.2.2.1 v lo b i e (c - 1) ∧ 1 ≤ c ∧ 60 - v ≤ K ∧ 1 ≤ i ∧ i < b.1) := hN
  by_cases y1 : c = 0
  · rw [if_pos y1] at hG
    obtain ⟨_, rfl, rfl⟩ := hN.resolve_right (fun z => by omega)
    by_cases y2 : tkK T n q = 7
    · rw [if_pos y2] at hG
      cases hG
      exact ⟨Frm_rf, fun T' hA => ⟨1, WN_end (Or.inl rfl)⟩⟩
    · rw [if_neg y2] at hG
      obtain ⟨s3, g3, hG⟩ := gb_s hG
      have x3 := mo _ _ _ _ _ _ _ _ _ _ s3 (by omega) (by omega) g3 1 (by first | omega | (simp only [bNode_1, bNode_p, bSet_1, bSet_p, bOver_1, bOver_p, bWrap_1, bWrap_p, bKeep_1, bKeep_p, bSlot_1, bSlot_p]; omega)) (Nat.le_refl 1) (trivial)
      obtain ⟨a3, b3, c3, d3, e3, f3, h3, i3⟩ := (x3.1 : Mo n _ _ _ s3)
      have j3 := x3.2
      have j3 : 1 ≤ s3.2.2.2.1 ∧ s3.2.2.2.1 < s3.2.2.2.2.1.1 := j3
      try simp only [bNode_1, bNode_p, bSet_1, bSet_p, bOver_1, bOver_p, bWrap_1, bWrap_p, bKeep_1, bKeep_p, bSlot_1, bSlot_p] at a3 b3 c3 d3 e3 f3 h3 i3
      have y3' := ih 0 _ _ _ _ _ _ _ _ _ s3 (0) (_) (_) (by omega) (by omega) (by omega) (by first | omega | (simp only [bNode_1, bNode_p, bSet_1, bSet_p, bOver_1, bOver_p, bWrap_1, bWrap_p, bKeep_1, bKeep_p, bSlot_1, bSlot_p]; omega)) (by first | omega | (simp only [bNode_1, bNode_p, bSet_1, bSet_p, bOver_1, bOver_p, bWrap_1, bWrap_p, bKeep_1, bKeep_p, bSlot_1, bSlot_p]; omega)) (by first | omega | (simp only [bNode_1, bNode_p, bSet_1, bSet_p, bOver_1, bOver_p, bWrap_1, bWrap_p, bKeep_1, bKeep_p, bSlot_1, bSlot_p]; omega)) (hE) g3 (⟨rfl, rfl⟩)
      have y3 : Frm E.2.2.2.1 v b 0 s3.2.2.2.2.1 ∧ LPt FN (eFl E) E.2.2.2.1 s3.2.1 (20 - o) 14 (60 - v) b.1 s3.2.2.2.2.1 s3.2.2.2.1 := y3'
      try dsimp only at hG
      have x4 := mo _ _ _ _ _ _ _ _ _ _ r (by omega) (by omega) hG 1 (by first | omega | (simp only [bNode_1, bNode_p, bSet_1, bSet_p, bOver_1, bOver_p, bWrap_1, bWrap_p, bKeep_1, bKeep_p, bSlot_1, bSlot_p]; omega)) (Nat.le_refl 1) (Or.inr ⟨by omega, by first | omega | (simp only [bNode_1, bNode_p, bSet_1, bSet_p, bOver_1, bOver_p, bWrap_1, bWrap_p, bKeep_1, bKeep_p, bSlot_1, bSlot_p]; omega), by first | omega | (simp only [bNode_1, bNode_p, bSet_1, bSet_p, bOver_1, bOver_p, bWrap_1, bWrap_p, bKeep_1, bKeep_p, bSlot_1, bSlot_p]; omega), by first | omega | (simp only [bNode_1, bNode_p, bSet_1, bSet_p, bOver_1, bOver_p, bWrap_1, bWrap_p, bKeep_1, bKeep_p, bSlot_1, bSlot_p]; omega)⟩)
      obtain ⟨a4, b4, c4, d4, e4, f4, h4, i4⟩ := (x4.1 : Mo n _ _ _ r)
      have j4 := x4.2
      try simp only [bNode_1, bNode_p, bSet_1, bSet_p, bOver_1, bOver_p, bWrap_1, bWrap_p, bKeep_1, bKeep_p, bSlot_1, bSlot_p] at a4 b4 c4 d4 e4 f4 h4 i4
      have y4' := ih 14 _ _ _ _ _ _ _ _ _ r (0) (b.1) ((60 - v)) (by omega) (by omega) (by omega) (by first | omega | (simp only [bNode_1, bNode_p, bSet_1, bSet_p, bOver_1, bOver_p, bWrap_1, bWrap_p, bKeep_1, bKeep_p, bSlot_1, bSlot_p]; omega)) (by first | omega | (simp only [bNode_1, bNode_p, bSet_1, bSet_p, bOver_1, bOver_p, bWrap_1, bWrap_p, bKeep_1, bKeep_p, bSlot_1, bSlot_p]; omega)) (by first | omega | (simp only [bNode_1, bNode_p, bSet_1, bSet_p, bOver_1, bOver_p, bWrap_1, bWrap_p, bKeep_1, bKeep_p, bSlot_1, bSlot_p]; omega)) (hE) hG (Or.inr ⟨LL_1 y3.2 (Nat.le_refl _) (by decide) (by omega), by decide, by omega, by omega, by omega⟩)
      have y4 : Frm E.2.2.2.1 s3.2.1 s3.2.2.2.2.1 s3.2.2.2.1 r.2.2.2.2.1 ∧ ∀ T', Agr T' E.2.2.2.1 r.2.1 r.2.2.2.2.1 b.1 0 → ∃ F, WN T' FN F 3 (20 - o) r.2.2.1 (60 - v) (lcW (eFl E) E.2.2.2.1 T') (hd r.2.2.2.1) := y4'
      exact ⟨Frm_ta (Frm_wk y3.1) y4.1 (Or.inr (Or.inl y3.2.2.1)), y4.2⟩
  · rw [if_neg y1] at hG
    obtain ⟨hL, l1, l2, l3, l4⟩ := hN.resolve_left (fun z => y1 z.1)
    have n1 := hL.1
    have n2 := hL.2.1
    have n3 := hL.2.2.1
    by_cases y5 : tkK T n q = 12
    · rw [if_pos y5] at hG
      obtain ⟨t6, hG⟩ := gT_s hG
      have u6 := tkN_b T n q (by omega)
      try dsimp only at hG
      obtain ⟨s7, g7, hG⟩ := gb_s hG
      have x7 := mo _ _ _ _ _ _ _ _ _ _ s7 (by omega) (by omega) g7 1 (by first | omega | (simp only [bNode_1, bNode_p, bSet_1, bSet_p, bOver_1, bOver_p, bWrap_1, bWrap_p, bKeep_1, bKeep_p, bSlot_1, bSlot_p]; omega)) (Nat.le_refl 1) (trivial)
      obtain ⟨a7, b7, c7, d7, e7, f7, h7, i7⟩ := (x7.1 : Mo n _ _ _ s7)
      have j7 := x7.2
      have j7 : 1 ≤ s7.2.2.2.1 ∧ s7.2.2.2.1 < s7.2.2.2.2.1.1 := j7
      try simp only [bNode_1, bNode_p, bSet_1, bSet_p, bOver_1, bOver_p, bWrap_1, bWrap_p, bKeep_1, bKeep_p, bSlot_1, bSlot_p] at a7 b7 c7 d7 e7 f7 h7 i7
      have y7' := ih 0 _ _ _ _ _ _ _ _ _ s7 (0) (_) (_) (by omega) (by omega) (by omega) (by first | omega | (simp only [bNode_1, bNode_p, bSet_1, bSet_p, bOver_1, bOver_p, bWrap_1, bWrap_p, bKeep_1, bKeep_p, bSlot_1, bSlot_p]; omega)) (by first | omega | (simp only [bNode_1, bNode_p, bSet_1, bSet_p, bOver_1, bOver_p, bWrap_1, bWrap_p, bKeep_1, bKeep_p, bSlot_1, bSlot_p]; omega)) (by first | omega | (simp only [bNode_1, bNode_p, bSet_1, bSet_p, bOver_1, bOver_p, bWrap_1, bWrap_p, bKeep_1, bKeep_p, bSlot_1, bSlot_p]; omega)) (hE) g7 (⟨rfl, rfl⟩)
      have y7 : Frm E.2.2.2.1 v b 0 s7.2.2.2.2.1 ∧ LPt FN (eFl E) E.2.2.2.1 s7.2.1 (20 - o) 14 (60 - v) b.1 s7.2.2.2.2.1 s7.2.2.2.1 := y7'
      try dsimp only at hG
      have hL2 := LL_x hL y7.1 y7.2 (by omega) l2 (by decide) (by omega)
      rw [show c - 1 + 1 = c + 1 - 1 by omega] at hL2
      have x8 := mo _ _ _ _ _ _ _ _ _ _ r (by omega) (by omega) hG 1 (by first | omega | (simp only [bNode_1, bNode_p, bSet_1, bSet_p, bOver_1, bOver_p, bWrap_1, bWrap_p, bKeep_1, bKeep_p, bSlot_1, bSlot_p]; omega)) (Nat.le_refl 1) (Or.inr ⟨by omega, by first | omega | (simp only [bNode_1, bNode_p, bSet_1, bSet_p, bOver_1, bOver_p, bWrap_1, bWrap_p, bKeep_1, bKeep_p, bSlot_1, bSlot_p]; omega), by first | omega | (simp only [bNode_1, bNode_p, bSet_1, bSet_p, bOver_1, bOver_p, bWrap_1, bWrap_p, bKeep_1, bKeep_p, bSlot_1, bSlot_p]; omega), by first | omega | (simp only [bNode_1, bNode_p, bSet_1, bSet_p, bOver_1, bOver_p, bWrap_1, bWrap_p, bKeep_1, bKeep_p, bSlot_1, bSlot_p]; omega)⟩)
      obtain ⟨a8, b8, c8, d8, e8, f8, h8, i8⟩ := (x8.1 : Mo n _ _ _ r)
      have j8 := x8.2
      try simp only [bNode_1, bNode_p, bSet_1, bSet_p, bOver_1, bOver_p, bWrap_1, bWrap_p, bKeep_1, bKeep_p, bSlot_1, bSlot_p] at a8 b8 c8 d8 e8 f8 h8 i8
      have y8' := ih 14 _ _ _ _ _ _ _ _ _ r (0) (lo) (K) (by omega) (by omega) (by omega) (by first | omega | (simp only [bNode_1, bNode_p, bSet_1, bSet_p, bOver_1, bOver_p, bWrap_1, bWrap_p, bKeep_1, bKeep_p, bSlot_1, bSlot_p]; omega)) (by first | omega | (simp only [bNode_1, bNode_p, bSet_1, bSet_p, bOver_1, bOver_p, bWrap_1, bWrap_p, bKeep_1, bKeep_p, bSlot_1, bSlot_p]; omega)) (by first | omega | (simp only [bNode_1, bNode_p, bSet_1, bSet_p, bOver_1, bOver_p, bWrap_1, bWrap_p, bKeep_1, bKeep_p, bSlot_1, bSlot_p]; omega)) (hE) hG (Or.inr ⟨hL2, by omega, by omega, l3, (by first | omega | (simp only [bNode_1, bNode_p, bSet_1, bSet_p, bOver_1, bOver_p, bWrap_1, bWrap_p, bKeep_1, bKeep_p, bSlot_1, bSlot_p]; omega))⟩)
      have y8 : Frm E.2.2.2.1 s7.2.1 (bSet s7.2.2.2.2.1 9 e (nI s7.2.2.2.1)) s7.2.2.2.1 r.2.2.2.2.1 ∧ ∀ T', Agr T' E.2.2.2.1 r.2.1 r.2.2.2.2.1 lo 0 → ∃ F, WN T' FN F 3 (20 - o) r.2.2.1 K (lcW (eFl E) E.2.2.2.1 T') (hd r.2.2.2.1) := y8'
      exact ⟨Frm_ta (Frm_ta (Frm_wk y7.1) (Frm_set9 (vv := v)) (Or.inl rfl)) y8.1 (Or.inr (Or.inl y7.2.2.1)), y8.2⟩
    · rw [if_neg y5] at hG
      cases hG
      refine ⟨Frm_rf, fun T' hA => ?_⟩
      have hw := LL_3 hL hA
      rw [show c - 1 + 1 = c by omega] at hw
      show ∃ F, WN T' FN F 3 (20 - o) c K (lcW (eFl E) E.2.2.2.1 T') (hd i)
      rw [hd_1 l3]
      exact hw
theorem gtr_15 {T : Nat → Int32} {n f : Nat} {FN : Nat → Nat → Prop} (hT : ∀ i, i < n → ∃ d, d ≤ 300 ∧ T i = nI d) (ih : GTr T n f FN) {E : En} {o q v i e c g j lo K : Nat} {b : BT} {r : RT} (hq : q ≤ n) (hv : v ≤ 60) (ho : o ≤ 20) (hbn : b.1 + n < 70000 + q) (hbp : b.2.1 + n ≤ 70000 + q) (hb1 : 1 ≤ b.1) (hE : EnOK FN E) (hG : G T n (f + 1) 15 E o q v i e c g b = some (Sum.inr r)) (hN : TPre FN (eFl E) E.2.2.2.1 15 o v i e c g j lo K b) : TPost FN (eFl E) E.2.2.2.1 15 o v i e c g j lo K b r := by
  have mo := g_mono T n f
  rw [G_15] at hG
  obtain ⟨hL, l1, l2, l3, l4, l5⟩ := (hN : LL (PX FN (eFl E) E.2.2.2.1 (20 - o) K) E.2.2.2.1 v lo b i e (c - 1) ∧ (1 ≤ c ∧ c ≤ b.1) ∧ 60 - v ≤ K ∧ 1 ≤ i ∧ i < b.1 ∧ 1 ≤ o)
  have n1 := hL.1
  have n2 := hL.2.1
  have n3 := hL.2.2.1
  by_cases y1 : tkK T n q = 12
  · rw [if_pos y1] at hG
    obtain ⟨t2, hG⟩ := gT_s hG
    have u2 := tkN_b T n q (by omega)
    try dsimp only at hG
    obtain ⟨s3, g3, hG⟩ := gb_s hG
    have x3 := mo _ _ _ _ _ _ _ _ _ _ s3 (by omega) (by omega) g3 1 (by first | omega | (simp only [bNode_1, bNode_p, bSet_1, bSet_p, bOver_1, bOver_p, bWrap_1, bWrap_p, bKeep_1, bKeep_p, bSlot_1, bSlot_p]; omega)) (Nat.le_refl 1) (trivial)
    obtain ⟨a3, b3, c3, d3, e3, f3, h3, i3⟩ := (x3.1 : Mo n _ _ _ s3)
    have j3 := x3.2
    have j3 : 1 ≤ s3.2.2.2.1 ∧ s3.2.2.2.1 < s3.2.2.2.2.1.1 := j3
    try simp only [bNode_1, bNode_p, bSet_1, bSet_p, bOver_1, bOver_p, bWrap_1, bWrap_p, bKeep_1, bKeep_p, bSlot_1, bSlot_p] at a3 b3 c3 d3 e3 f3 h3 i3
    have y3' := ih 0 _ _ _ _ _ _ _ _ _ s3 (0) (_) (_) (by omega) (by omega) (by omega) (by first | omega | (simp only [bNode_1, bNode_p, bSet_1, bSet_p, bOver_1, bOver_p, bWrap_1, bWrap_p, bKeep_1, bKeep_p, bSlot_1, bSlot_p]; omega)) (by first | omega | (simp only [bNode_1, bNode_p, bSet_1, bSet_p, bOver_1, bOver_p, bWrap_1, bWrap_p, bKeep_1, bKeep_p, bSlot_1, bSlot_p]; omega)) (by first | omega | (simp only [bNode_1, bNode_p, bSet_1, bSet_p, bOver_1, bOver_p, bWrap_1, bWrap_p, bKeep_1, bKeep_p, bSlot_1, bSlot_p]; omega)) (hE) g3 (⟨rfl, rfl⟩)
    have y3 : Frm E.2.2.2.1 v b 0 s3.2.2.2.2.1 ∧ LPt FN (eFl E) E.2.2.2.1 s3.2.1 (20 - o) 14 (60 - v) b.1 s3.2.2.2.2.1 s3.2.2.2.1 := y3'
    try dsimp only at hG
    by_cases y4 : c = 1 ∧ tkK T n s3.1 = 16
    · rw [if_pos y4] at hG
      obtain ⟨t5, hG⟩ := gT_s hG
      have u5 := tkN_b T n s3.1 (by omega)
      try dsimp only at hG
      obtain ⟨s6, g6, hG⟩ := gb_s hG
      have x6 := mo _ _ _ _ _ _ _ _ _ _ s6 (by omega) (by omega) g6 1 (by first | omega | (simp only [bNode_1, bNode_p, bSet_1, bSet_p, bOver_1, bOver_p, bWrap_1, bWrap_p, bKeep_1, bKeep_p, bSlot_1, bSlot_p]; omega)) (Nat.le_refl 1) (trivial)
      obtain ⟨a6, b6, c6, d6, e6, f6, h6, i6⟩ := (x6.1 : Mo n _ _ _ s6)
      have j6 := x6.2
      have j6 : 1 ≤ s6.2.2.2.1 ∧ s6.2.2.2.1 < s6.2.2.2.2.1.1 := j6
      try simp only [bNode_1, bNode_p, bSet_1, bSet_p, bOver_1, bOver_p, bWrap_1, bWrap_p, bKeep_1, bKeep_p, bSlot_1, bSlot_p] at a6 b6 c6 d6 e6 f6 h6 i6
      have y6' := ih 0 _ _ _ _ _ _ _ _ _ s6 (0) (_) (_) (by omega) (by omega) (by omega) (by first | omega | (simp only [bNode_1, bNode_p, bSet_1, bSet_p, bOver_1, bOver_p, bWrap_1, bWrap_p, bKeep_1, bKeep_p, bSlot_1, bSlot_p]; omega)) (by first | omega | (simp only [bNode_1, bNode_p, bSet_1, bSet_p, bOver_1, bOver_p, bWrap_1, bWrap_p, bKeep_1, bKeep_p, bSlot_1, bSlot_p]; omega)) (by first | omega | (simp only [bNode_1, bNode_p, bSet_1, bSet_p, bOver_1, bOver_p, bWrap_1, bWrap_p, bKeep_1, bKeep_p, bSlot_1, bSlot_p]; omega)) (hE) g6 (⟨rfl, rfl⟩)
      have y6 : Frm E.2.2.2.1 s3.2.1 s3.2.2.2.2.1 0 s6.2.2.2.2.1 ∧ LPt FN (eFl E) E.2.2.2.1 s6.2.1 (20 - o) 14 (60 - s3.2.1) s3.2.2.2.2.1.1 s6.2.2.2.2.1 s6.2.2.2.1 := y6'
      try dsimp only at hG
      cases hG
      obtain ⟨rfl, hP0⟩ : i = e ∧ ∀ T', Agr T' E.2.2.2.1 v b lo e → WX T' FN (20 - o) 14 K (lcW (eFl E) E.2.2.2.1 T') (nI e) := by
        have hc : c - 1 = 0 := by omega
        rw [hc] at hL
        have h0 : Agr (fun a i => if a = 98 then (if i = 1 then nI b.1 else nI b.2.1) else if a = 12 then b.2.2.2.1 i else if a = 20 then b.2.2.2.2 i else b.2.2.1 a i) E.2.2.2.1 v b lo e := by
          refine ⟨fun a i h4 h9 _ _ _ => (if_neg (by omega)).trans ((if_neg (by omega)).trans (if_neg (by omega))), fun i _ => rfl, fun s _ => rfl, ?_, ?_⟩
          · show b.1 ≤ (nI b.1).toNatClampNeg % 70001
            rw [n_cl (p := b.1) (by omega)]; omega
          · show b.2.1 ≤ (nI b.2.1).toNatClampNeg % 70001
            rw [n_cl (p := b.2.1) (by omega)]; omega
        exact ⟨(hL.2.2.2.2 _ h0).1, fun T' hA => (hL.2.2.2.2 T' hA).2.2⟩
      refine ⟨Frm_ta (Frm_ta (Frm_wk y3.1) (Frm_wk y6.1) (Or.inl rfl)) (Frm_wrap (vv := v)) (Or.inl rfl), LP_rng (vv := s6.2.1) n1 (by omega) (by omega) (by decide) (by omega) (fun T' hA => ⟨?_, Or.inr ?_, ?_⟩)⟩
      · rw [show 20 - o + 1 - 1 = 20 - o by omega]
        exact hP0 T' (Agr_ga hA (Frm_ta (Frm_wk y3.1) (Frm_wk y6.1) (Or.inl rfl)) n1 (Nat.le_refl _) (Or.inr rfl) (Or.inr (Or.inr rfl)))
      · rw [show 20 - o + 1 - 1 = 20 - o by omega]
        exact WX_mo (LP_aa y3.2 (Frm_wk y6.1) hA n1 (by omega) (Or.inr rfl)) l2 Lx_rf
      · rw [show 20 - o + 1 - 1 = 20 - o by omega]
        exact WX_mo (LP_aa y6.2 Frm_rf hA n1 (by omega) (Or.inr rfl)) (by omega) Lx_rf
    · rw [if_neg y4] at hG
      have nb := y3.2.2.1
      have hL2 := LL_x hL y3.1 y3.2 (by omega) l2 (by decide) (by omega)
      rw [show c - 1 + 1 = c + 1 - 1 by omega] at hL2
      have x7 := mo _ _ _ _ _ _ _ _ _ _ r (by omega) (by omega) hG 1 (by first | omega | (simp only [bNode_1, bNode_p, bSet_1, bSet_p, bOver_1, bOver_p, bWrap_1, bWrap_p, bKeep_1, bKeep_p, bSlot_1, bSlot_p]; omega)) (Nat.le_refl 1) ((⟨by omega, by first | omega | (simp only [bNode_1, bNode_p, bSet_1, bSet_p, bOver_1, bOver_p, bWrap_1, bWrap_p, bKeep_1, bKeep_p, bSlot_1, bSlot_p]; omega), by omega, by first | omega | (simp only [bNode_1, bNode_p, bSet_1, bSet_p, bOver_1, bOver_p, bWrap_1, bWrap_p, bKeep_1, bKeep_p, bSlot_1, bSlot_p]; omega)⟩ : 1 ≤ _ ∧ _ < _ ∧ 1 ≤ _ ∧ _ < _))
      obtain ⟨a7, b7, c7, d7, e7, f7, h7, i7⟩ := (x7.1 : Mo1 n _ _ _ r)
      have j7 := x7.2
      have j7 : 1 ≤ r.2.2.2.1 ∧ r.2.2.2.1 < r.2.2.2.2.1.1 := j7
      try simp only [bNode_1, bNode_p, bSet_1, bSet_p, bOver_1, bOver_p, bWrap_1, bWrap_p, bKeep_1, bKeep_p, bSlot_1, bSlot_p] at a7 b7 c7 d7 e7 f7 h7 i7
      have y7' := ih 15 _ _ _ _ _ _ _ _ _ r (0) (lo) (K) (by omega) (by omega) (by omega) (by first | omega | (simp only [bNode_1, bNode_p, bSet_1, bSet_p, bOver_1, bOver_p, bWrap_1, bWrap_p, bKeep_1, bKeep_p, bSlot_1, bSlot_p]; omega)) (by first | omega | (simp only [bNode_1, bNode_p, bSet_1, bSet_p, bOver_1, bOver_p, bWrap_1, bWrap_p, bKeep_1, bKeep_p, bSlot_1, bSlot_p]; omega)) (by first | omega | (simp only [bNode_1, bNode_p, bSet_1, bSet_p, bOver_1, bOver_p, bWrap_1, bWrap_p, bKeep_1, bKeep_p, bSlot_1, bSlot_p]; omega)) (hE) hG (⟨hL2, ⟨by omega, by show c + 1 ≤ s3.2.2.2.2.1.1; omega⟩, by omega, l3, (by first | omega | (simp only [bNode_1, bNode_p, bSet_1, bSet_p, bOver_1, bOver_p, bWrap_1, bWrap_p, bKeep_1, bKeep_p, bSlot_1, bSlot_p]; omega)), l5⟩)
      have y7 : Frm E.2.2.2.1 s3.2.1 (bSet s3.2.2.2.2.1 9 e (nI s3.2.2.2.1)) s3.2.2.2.1 r.2.2.2.2.1 ∧ LPt FN (eFl E) E.2.2.2.1 r.2.1 (20 - o + 1) 4 K lo r.2.2.2.2.1 r.2.2.2.1 := y7'
      exact ⟨Frm_ta (Frm_ta (Frm_wk y3.1) (Frm_set9 (vv := v)) (Or.inl rfl)) y7.1 (Or.inr (Or.inl y3.2.2.1)), y7.2⟩
  · rw [if_neg y1] at hG
    cases hG
    refine ⟨(Frm_node (vv := v)), LP_brk (m := c - 1 + 1) n1 (by omega) (by omega) (by decide) (ite_2 (P := fun k => k = 10 ∨ k = 11) (by decide) (by decide)) (by omega) (by omega) (fun T' hA => ?_)⟩
    rw [show 20 - o + 1 - 1 = 20 - o by omega]
    exact LL_3 hL hA
theorem gtr_16 {T : Nat → Int32} {n f : Nat} {FN : Nat → Nat → Prop} (hT : ∀ i, i < n → ∃ d, d ≤ 300 ∧ T i = nI d) (ih : GTr T n f FN) {E : En} {o q v i e c g j lo K : Nat} {b : BT} {r : RT} (hq : q ≤ n) (hv : v ≤ 60) (ho : o ≤ 20) (hbn : b.1 + n < 70000 + q) (hbp : b.2.1 + n ≤ 70000 + q) (hb1 : 1 ≤ b.1) (hE : EnOK FN E) (hG : G T n (f + 1) 16 E o q v i e c g b = some (Sum.inr r)) (hN : TPre FN (eFl E) E.2.2.2.1 16 o v i e c g j lo K b) : TPost FN (eFl E) E.2.2.2.1 16 o v i e c g j lo K b r := by
  have mo := g_mono T n f
  rw [G_16] at hG
  obtain ⟨⟨c', hL⟩, l2⟩ := (hN : (∃ c', LL (PB2 FN (eFl E) E.2.2.2.1 (20 - o) K) E.2.2.2.1 v lo b i e c') ∧ 60 - v ≤ K)
  have n1 := hL.1
  have n2 := hL.2.1
  have n3 := hL.2.2.1
  by_cases y1 : tkK T n q = 41
  · rw [if_pos y1] at hG
    obtain ⟨t2, hG⟩ := gT_s hG
    have u2 := tkN_b T n q (by omega)
    try dsimp only at hG
    obtain ⟨s3, g3, hG⟩ := gb_s hG
    have x3 := mo _ _ _ _ _ _ _ _ _ _ s3 (by omega) (by omega) g3 1 (by first | omega | (simp only [bNode_1, bNode_p, bSet_1, bSet_p, bOver_1, bOver_p, bWrap_1, bWrap_p, bKeep_1, bKeep_p, bSlot_1, bSlot_p]; omega)) (Nat.le_refl 1) (trivial)
    obtain ⟨a3, b3, c3, d3, e3, f3, h3, i3⟩ := (x3.1 : Mo n _ _ _ s3)
    have j3 := x3.2
    have j3 : 1 ≤ s3.2.2.2.1 ∧ s3.2.2.2.1 < s3.2.2.2.2.1.1 := j3
    try simp only [bNode_1, bNode_p, bSet_1, bSet_p, bOver_1, bOver_p, bWrap_1, bWrap_p, bKeep_1, bKeep_p, bSlot_1, bSlot_p] at a3 b3 c3 d3 e3 f3 h3 i3
    have y3' := ih 0 _ _ _ _ _ _ _ _ _ s3 (0) (_) (_) (by omega) (by omega) (by omega) (by first | omega | (simp only [bNode_1, bNode_p, bSet_1, bSet_p, bOver_1, bOver_p, bWrap_1, bWrap_p, bKeep_1, bKeep_p, bSlot_1, bSlot_p]; omega)) (by first | omega | (simp only [bNode_1, bNode_p, bSet_1, bSet_p, bOver_1, bOver_p, bWrap_1, bWrap_p, bKeep_1, bKeep_p, bSlot_1, bSlot_p]; omega)) (by first | omega | (simp only [bNode_1, bNode_p, bSet_1, bSet_p, bOver_1, bOver_p, bWrap_1, bWrap_p, bKeep_1, bKeep_p, bSlot_1, bSlot_p]; omega)) (hE) g3 (⟨rfl, rfl⟩)
    have y3 : Frm E.2.2.2.1 v b 0 s3.2.2.2.2.1 ∧ LPt FN (eFl E) E.2.2.2.1 s3.2.1 (20 - o) 14 (60 - v) b.1 s3.2.2.2.2.1 s3.2.2.2.1 := y3'
    try dsimp only at hG
    obtain ⟨w4, t4, hG⟩ := gW_s hG
    have u4 := tkN_b T n s3.1 (by omega)
    try dsimp only at hG
    obtain ⟨s5, g5, hG⟩ := gb_s hG
    have x5 := mo _ _ _ _ _ _ _ _ _ _ s5 (by omega) (by omega) g5 1 (by first | omega | (simp only [bNode_1, bNode_p, bSet_1, bSet_p, bOver_1, bOver_p, bWrap_1, bWrap_p, bKeep_1, bKeep_p, bSlot_1, bSlot_p]; omega)) (Nat.le_refl 1) (trivial)
    obtain ⟨a5, b5, c5, d5, e5, f5, h5, i5⟩ := (x5.1 : Mo n _ _ _ s5)
    have j5 := x5.2
    have j5 : 1 ≤ s5.2.2.2.1 ∧ s5.2.2.2.1 < s5.2.2.2.2.1.1 := j5
    try simp only [bNode_1, bNode_p, bSet_1, bSet_p, bOver_1, bOver_p, bWrap_1, bWrap_p, bKeep_1, bKeep_p, bSlot_1, bSlot_p] at a5 b5 c5 d5 e5 f5 h5 i5
    have y5' := ih 0 _ _ _ _ _ _ _ _ _ s5 (0) (_) (_) (by omega) (by omega) (by omega) (by first | omega | (simp only [bNode_1, bNode_p, bSet_1, bSet_p, bOver_1, bOver_p, bWrap_1, bWrap_p, bKeep_1, bKeep_p, bSlot_1, bSlot_p]; omega)) (by first | omega | (simp only [bNode_1, bNode_p, bSet_1, bSet_p, bOver_1, bOver_p, bWrap_1, bWrap_p, bKeep_1, bKeep_p, bSlot_1, bSlot_p]; omega)) (by first | omega | (simp only [bNode_1, bNode_p, bSet_1, bSet_p, bOver_1, bOver_p, bWrap_1, bWrap_p, bKeep_1, bKeep_p, bSlot_1, bSlot_p]; omega)) (hE) g5 (⟨rfl, rfl⟩)
    have y5 : Frm E.2.2.2.1 s3.2.1 s3.2.2.2.2.1 0 s5.2.2.2.2.1 ∧ LPt FN (eFl E) E.2.2.2.1 s5.2.1 (20 - o) 14 (60 - s3.2.1) s3.2.2.2.2.1.1 s5.2.2.2.2.1 s5.2.2.2.1 := y5'
    try dsimp only at hG
    have x6 := mo _ _ _ _ _ _ _ _ _ _ r (by omega) (by omega) hG 1 (by first | omega | (simp only [bNode_1, bNode_p, bSet_1, bSet_p, bOver_1, bOver_p, bWrap_1, bWrap_p, bKeep_1, bKeep_p, bSlot_1, bSlot_p]; omega)) (Nat.le_refl 1) ((⟨by omega, by first | omega | (simp only [bNode_1, bNode_p, bSet_1, bSet_p, bOver_1, bOver_p, bWrap_1, bWrap_p, bKeep_1, bKeep_p, bSlot_1, bSlot_p]; omega)⟩ : 1 ≤ _ ∧ _ < _))
    obtain ⟨a6, b6, c6, d6, e6, f6, h6, i6⟩ := (x6.1 : Mo n _ _ _ r)
    have j6 := x6.2
    have j6 : 1 ≤ r.2.2.2.1 ∧ r.2.2.2.1 < r.2.2.2.2.1.1 := j6
    try simp only [bNode_1, bNode_p, bSet_1, bSet_p, bOver_1, bOver_p, bWrap_1, bWrap_p, bKeep_1, bKeep_p, bSlot_1, bSlot_p] at a6 b6 c6 d6 e6 f6 h6 i6
    have y6' := ih 16 _ _ _ _ _ _ _ _ _ r (0) (lo) (K) (by omega) (by omega) (by omega) (by first | omega | (simp only [bNode_1, bNode_p, bSet_1, bSet_p, bOver_1, bOver_p, bWrap_1, bWrap_p, bKeep_1, bKeep_p, bSlot_1, bSlot_p]; omega)) (by first | omega | (simp only [bNode_1, bNode_p, bSet_1, bSet_p, bOver_1, bOver_p, bWrap_1, bWrap_p, bKeep_1, bKeep_p, bSlot_1, bSlot_p]; omega)) (by first | omega | (simp only [bNode_1, bNode_p, bSet_1, bSet_p, bOver_1, bOver_p, bWrap_1, bWrap_p, bKeep_1, bKeep_p, bSlot_1, bSlot_p]; omega)) (hE) hG (⟨⟨c' + 1, LB_x hL y3.1 y3.2 y5.1 (LP_mo y5.2 (by omega) Lx_rf) (by omega) (by omega) l2 (by decide) (by decide) (by omega)⟩, by omega⟩)
    have y6 : Frm E.2.2.2.1 s5.2.1 (bSet (bNode s5.2.2.2.2.1 33 (nI s3.2.2.2.1) (nI s5.2.2.2.1) 0) 9 e (nI s5.2.2.2.2.1.1)) s5.2.2.2.2.1.1 r.2.2.2.2.1 ∧ ∃ c', LL (PB2 FN (eFl E) E.2.2.2.1 (20 - o) K) E.2.2.2.1 r.2.1 lo r.2.2.2.2.1 _ r.2.2.2.1 c' := y6'
    exact ⟨Frm_ta (Frm_ta (Frm_ta (Frm_wk y3.1) (Frm_wk y5.1) (Or.inl rfl)) (Frm_ta (Frm_node (vv := v)) (Frm_set9 (vv := v)) (Or.inl rfl)) (Or.inl rfl)) y6.1 (Or.inr (Or.inl (by omega))), y6.2⟩
  · rw [if_neg y1] at hG
    cases hG
    exact ⟨Frm_rf, c', hL⟩
theorem gtr_17 {T : Nat → Int32} {n f : Nat} {FN : Nat → Nat → Prop} (hT : ∀ i, i < n → ∃ d, d ≤ 300 ∧ T i = nI d) (ih : GTr T n f FN) {E : En} {o q v i e c g j lo K : Nat} {b : BT} {r : RT} (hq : q ≤ n) (hv : v ≤ 60) (ho : o ≤ 20) (hbn : b.1 + n < 70000 + q) (hbp : b.2.1 + n ≤ 70000 + q) (hb1 : 1 ≤ b.1) (hE : EnOK FN E) (hG : G T n (f + 1) 17 E o q v i e c g b = some (Sum.inr r)) (hN : TPre FN (eFl E) E.2.2.2.1 17 o v i e c g j lo K b) : TPost FN (eFl E) E.2.2.2.1 17 o v i e c g j lo K b r := by
  have mo := g_mono T n f
  rw [G_17] at hG
  have hN : (i = 0 ∧ lo = b.1 ∧ K = 60 - v) ∨ ((1 ≤ i ∧ i < b.1) ∧ ∃ c', LL (PJ FN (eFl E) E.2.2.2.1 g (20 - o) K) E.2.2.2.1 v lo b i e c' ∧ c' + 1 + (60 - v) ≤ K) := hN
  by_cases y1 : tkK T n q = 10
  · rw [if_pos y1] at hG
    obtain ⟨o2, hG⟩ := gO_s hG
    obtain ⟨t3, hG⟩ := gT_s hG
    have u3 := tkN_b T n q (by omega)
    try dsimp only at hG
    obtain ⟨w4, v4, hG⟩ := gN_s hG
    have u4 := tkN_b T n (tkN T n q) (by omega)
    have z4 := tkE_b T n (tkN T n q) (by omega)
    try dsimp only at hG
    have fN : Frm E.2.2.2.1 v b 0 (bNm b E.2.2.2.1 v g T (tkN T n q) (tkE T n (tkN T n q) - (tkN T n q))) := Frm_nm
    obtain ⟨s5, g5, hG⟩ := gb_s hG
    have x5 := mo _ _ _ _ _ _ _ _ _ _ s5 (by omega) (by omega) g5 1 (by first | omega | (simp only [bNode_1, bNode_p, bSet_1, bSet_p, bOver_1, bOver_p, bWrap_1, bWrap_p, bKeep_1, bKeep_p, bSlot_1, bSlot_p]; omega)) (Nat.le_refl 1) (trivial)
    obtain ⟨a5, b5, c5, d5, e5, f5, h5, i5⟩ := (x5.1 : Mo n _ _ _ s5)
    have j5 := x5.2
    try simp only [bNode_1, bNode_p, bSet_1, bSet_p, bOver_1, bOver_p, bWrap_1, bWrap_p, bKeep_1, bKeep_p, bSlot_1, bSlot_p] at a5 b5 c5 d5 e5 f5 h5 i5
    have y5' := ih 18 _ _ _ _ _ _ _ _ _ s5 (b.1) (b.1) (0) (by omega) (by omega) (by omega) (by first | omega | (simp only [bNode_1, bNode_p, bSet_1, bSet_p, bOver_1, bOver_p, bWrap_1, bWrap_p, bKeep_1, bKeep_p, bSlot_1, bSlot_p]; omega)) (by first | omega | (simp only [bNode_1, bNode_p, bSet_1, bSet_p, bOver_1, bOver_p, bWrap_1, bWrap_p, bKeep_1, bKeep_p, bSlot_1, bSlot_p]; omega)) (by first | omega | (simp only [bNode_1, bNode_p, bSet_1, bSet_p, bOver_1, bOver_p, bWrap_1, bWrap_p, bKeep_1, bKeep_p, bSlot_1, bSlot_p]; omega)) (EnOK_row hE) g5 (⟨0, LN_1 hb1 (by omega) (by omega), by omega⟩)
    have y5 : Frm E.2.2.2.1 (v + 1) (bNm b E.2.2.2.1 v g T (tkN T n q) (tkE T n (tkN T n q) - (tkN T n q))) b.1 s5.2.2.2.2.1 ∧ (∀ x ∈ s5.2.2.2.2.2, x.2.2 < 60) ∧ ∀ T', Agr T' E.2.2.2.1 s5.2.1 s5.2.2.2.2.1 b.1 0 → PNl E.2.2.2.1 g T' b.1 := y5'
    try dsimp only at hG
    obtain ⟨w6, t6, hG⟩ := gW_s hG
    have u6 := tkN_b T n s5.1 (by omega)
    try dsimp only at hG
    obtain ⟨w7, t7, hG⟩ := gW_s hG
    have u7 := tkN_b T n (tkN T n s5.1) (by omega)
    try dsimp only at hG
    have hwn := y5.2.2
    have fR : Frm E.2.2.2.1 v b 0 s5.2.2.2.2.1 := Frm_ta fN y5.1 (Or.inr (Or.inl (Nat.le_refl _)))
    obtain ⟨s8, g8, hG⟩ := gb_s hG
    have x8 := mo _ _ _ _ _ _ _ _ _ _ s8 (by omega) (by omega) g8 1 (by first | omega | (simp only [bNode_1, bNode_p, bSet_1, bSet_p, bOver_1, bOver_p, bWrap_1, bWrap_p, bKeep_1, bKeep_p, bSlot_1, bSlot_p]; omega)) (Nat.le_refl 1) (trivial)
    obtain ⟨a8, b8, c8, d8, e8, f8, h8, i8⟩ := (x8.1 : Mo n _ _ _ s8)
    have j8 := x8.2
    have j8 : 1 ≤ s8.2.2.2.1 ∧ s8.2.2.2.1 < s8.2.2.2.2.1.1 := j8
    try simp only [bNode_1, bNode_p, bSet_1, bSet_p, bOver_1, bOver_p, bWrap_1, bWrap_p, bKeep_1, bKeep_p, bSlot_1, bSlot_p] at a8 b8 c8 d8 e8 f8 h8 i8
    have y8' := ih 6 _ _ _ _ _ _ _ _ _ s8 (0) (_) (_) (by omega) (by omega) (by omega) (by first | omega | (simp only [bNode_1, bNode_p, bSet_1, bSet_p, bOver_1, bOver_p, bWrap_1, bWrap_p, bKeep_1, bKeep_p, bSlot_1, bSlot_p]; omega)) (by first | omega | (simp only [bNode_1, bNode_p, bSet_1, bSet_p, bOver_1, bOver_p, bWrap_1, bWrap_p, bKeep_1, bKeep_p, bSlot_1, bSlot_p]; omega)) (by first | omega | (simp only [bNode_1, bNode_p, bSet_1, bSet_p, bOver_1, bOver_p, bWrap_1, bWrap_p, bKeep_1, bKeep_p, bSlot_1, bSlot_p]; omega)) (EnOK_row hE) g8 (⟨rfl, rfl⟩)
    have y8 : Frm E.2.2.2.1 s5.2.1 s5.2.2.2.2.1 0 s8.2.2.2.2.1 ∧ LPt FN (eFl E) E.2.2.2.1 s8.2.1 (20 - o) 8 (60 - s5.2.1) s5.2.2.2.2.1.1 s8.2.2.2.2.1 s8.2.2.2.1 := y8'
    try dsimp only at hG
    have nsl : ∀ x ∈ s5.2.2.2.2.2 ++ [(tkS T n (tkN T n q), b.2.1, v)], x.2.2 < 60 := by
      intro x hx
      rcases List.mem_append.mp hx with z | z
      · exact y5.2.1 x z
      · rw [List.mem_singleton.mp z]; show v < 60; omega
    by_cases hi : i = 0
    · simp only [if_pos hi] at hG
      obtain ⟨_, rfl, rfl⟩ := hN.resolve_right (fun z => by omega)
      have hL := LI_1 (K := 60 - v) (x := 1) (by omega) (fun T' hA => hwn T' hA) y8.1 y8.2 (by omega) (by omega) (by decide) (by omega) hb1 (by first | omega | (simp only [bNode_1, bNode_p, bSet_1, bSet_p, bOver_1, bOver_p, bWrap_1, bWrap_p, bKeep_1, bKeep_p, bSlot_1, bSlot_p]; omega))
      by_cases y9 : tkK T n s8.1 = 12
      · rw [if_pos y9] at hG
        obtain ⟨t10, hG⟩ := gT_s hG
        have u10 := tkN_b T n s8.1 (by omega)
        try dsimp only at hG
        obtain ⟨s11, g11, hG⟩ := gb_s hG
        have x11 := mo _ _ _ _ _ _ _ _ _ _ s11 (by omega) (by omega) g11 1 (by first | omega | (simp only [bNode_1, bNode_p, bSet_1, bSet_p, bOver_1, bOver_p, bWrap_1, bWrap_p, bKeep_1, bKeep_p, bSlot_1, bSlot_p]; omega)) (Nat.le_refl 1) (Or.inr ⟨by first | omega | (simp only [bNode_1, bNode_p, bSet_1, bSet_p, bOver_1, bOver_p, bWrap_1, bWrap_p, bKeep_1, bKeep_p, bSlot_1, bSlot_p]; omega), by first | omega | (simp only [bNode_1, bNode_p, bSet_1, bSet_p, bOver_1, bOver_p, bWrap_1, bWrap_p, bKeep_1, bKeep_p, bSlot_1, bSlot_p]; omega), by first | omega | (simp only [bNode_1, bNode_p, bSet_1, bSet_p, bOver_1, bOver_p, bWrap_1, bWrap_p, bKeep_1, bKeep_p, bSlot_1, bSlot_p]; omega), by first | omega | (simp only [bNode_1, bNode_p, bSet_1, bSet_p, bOver_1, bOver_p, bWrap_1, bWrap_p, bKeep_1, bKeep_p, bSlot_1, bSlot_p]; omega)⟩)
        obtain ⟨a11, b11, c11, d11, e11, f11, h11, i11⟩ := (x11.1 : Mo n _ _ _ s11)
        have j11 := x11.2
        have j11 : 1 ≤ s11.2.2.2.1 ∧ s11.2.2.2.1 < s11.2.2.2.2.1.1 := j11
        try simp only [bNode_1, bNode_p, bSet_1, bSet_p, bOver_1, bOver_p, bWrap_1, bWrap_p, bKeep_1, bKeep_p, bSlot_1, bSlot_p] at a11 b11 c11 d11 e11 f11 h11 i11
        have y11' := ih 17 _ _ _ _ _ _ _ _ _ s11 (0) (b.1) ((60 - v)) (by omega) (by omega) (by omega) (by first | omega | (simp only [bNode_1, bNode_p, bSet_1, bSet_p, bOver_1, bOver_p, bWrap_1, bWrap_p, bKeep_1, bKeep_p, bSlot_1, bSlot_p]; omega)) (by first | omega | (simp only [bNode_1, bNode_p, bSet_1, bSet_p, bOver_1, bOver_p, bWrap_1, bWrap_p, bKeep_1, bKeep_p, bSlot_1, bSlot_p]; omega)) (by first | omega | (simp only [bNode_1, bNode_p, bSet_1, bSet_p, bOver_1, bOver_p, bWrap_1, bWrap_p, bKeep_1, bKeep_p, bSlot_1, bSlot_p]; omega)) (EnOK_row (EnOK_see hE nsl)) g11 (Or.inr ⟨⟨by omega, (by first | omega | (simp only [bNode_1, bNode_p, bSet_1, bSet_p, bOver_1, bOver_p, bWrap_1, bWrap_p, bKeep_1, bKeep_p, bSlot_1, bSlot_p]; omega))⟩, 0, hL, by omega⟩)
        have y11 : Frm E.2.2.2.1 s8.2.1 (bNode s8.2.2.2.2.1 30 1 (nI b.1) (nI s8.2.2.2.1)) s8.2.2.2.2.1.1 s11.2.2.2.2.1 ∧ (∀ x ∈ s11.2.2.2.2.2, x.2.2 < 60) ∧ 1 ≤ s11.2.2.2.1 ∧ ∃ m, m + 1 + (60 - s11.2.1) ≤ (60 - v) ∧ ∀ T', Agr T' E.2.2.2.1 s11.2.1 s11.2.2.2.2.1 b.1 0 → ∃ el, LSe (PJ FN (eFl E) E.2.2.2.1 g (20 - o) (60 - v) T') T' m s11.2.2.2.1 el ∧ T' 9 el = -1 := y11'
        try dsimp only at hG
        cases hG
        refine ⟨Frm_ta (Frm_ta (Frm_ta (Frm_wk fR) (Frm_wk y8.1) (Or.inl rfl)) (Frm_node (vv := v) (e := e)) (Or.inl rfl)) y11.1 (Or.inr (Or.inl (by omega))), fun x hx => ?_, y11.2.2.1, y11.2.2.2⟩
        rcases List.mem_append.mp hx with z | z
        · exact y11.2.1 x z
        · exact nsl x z
      · rw [if_neg y9] at hG
        cases hG
        refine ⟨(Frm_ta (Frm_ta (Frm_wk fR) (Frm_wk y8.1) (Or.inl rfl)) (Frm_node (vv := v) (e := e)) (Or.inl rfl)), nsl, (by show 1 ≤ s8.2.2.2.2.1.1; omega), 0, (by first | omega | (show _ + 1 + (60 - s8.2.1) ≤ _; omega)), fun T' hA => ⟨_, LL_w hL hA⟩⟩
    · simp only [if_neg hi] at hG
      obtain ⟨l1, c', hL0, l2⟩ := hN.resolve_left (fun z => hi z.1)
      have n1 := hL0.1
      have n2 := hL0.2.1
      have n3 := hL0.2.2.1
      have hL := LI_x (x := 1) hL0 (by omega) fR (by omega) (fun T' hA => hwn T' hA) y8.1 y8.2 (by omega) (by omega) (by decide) (by omega)
      by_cases y12 : tkK T n s8.1 = 12
      · rw [if_pos y12] at hG
        obtain ⟨t13, hG⟩ := gT_s hG
        have u13 := tkN_b T n s8.1 (by omega)
        try dsimp only at hG
        obtain ⟨s14, g14, hG⟩ := gb_s hG
        have x14 := mo _ _ _ _ _ _ _ _ _ _ s14 (by omega) (by omega) g14 1 (by first | omega | (simp only [bNode_1, bNode_p, bSet_1, bSet_p, bOver_1, bOver_p, bWrap_1, bWrap_p, bKeep_1, bKeep_p, bSlot_1, bSlot_p]; omega)) (Nat.le_refl 1) (Or.inr ⟨by first | omega | (simp only [bNode_1, bNode_p, bSet_1, bSet_p, bOver_1, bOver_p, bWrap_1, bWrap_p, bKeep_1, bKeep_p, bSlot_1, bSlot_p]; omega), by first | omega | (simp only [bNode_1, bNode_p, bSet_1, bSet_p, bOver_1, bOver_p, bWrap_1, bWrap_p, bKeep_1, bKeep_p, bSlot_1, bSlot_p]; omega), by first | omega | (simp only [bNode_1, bNode_p, bSet_1, bSet_p, bOver_1, bOver_p, bWrap_1, bWrap_p, bKeep_1, bKeep_p, bSlot_1, bSlot_p]; omega), by first | omega | (simp only [bNode_1, bNode_p, bSet_1, bSet_p, bOver_1, bOver_p, bWrap_1, bWrap_p, bKeep_1, bKeep_p, bSlot_1, bSlot_p]; omega)⟩)
        obtain ⟨a14, b14, c14, d14, e14, f14, h14, i14⟩ := (x14.1 : Mo n _ _ _ s14)
        have j14 := x14.2
        have j14 : 1 ≤ s14.2.2.2.1 ∧ s14.2.2.2.1 < s14.2.2.2.2.1.1 := j14
        try simp only [bNode_1, bNode_p, bSet_1, bSet_p, bOver_1, bOver_p, bWrap_1, bWrap_p, bKeep_1, bKeep_p, bSlot_1, bSlot_p] at a14 b14 c14 d14 e14 f14 h14 i14
        have y14' := ih 17 _ _ _ _ _ _ _ _ _ s14 (0) (lo) (K) (by omega) (by omega) (by omega) (by first | omega | (simp only [bNode_1, bNode_p, bSet_1, bSet_p, bOver_1, bOver_p, bWrap_1, bWrap_p, bKeep_1, bKeep_p, bSlot_1, bSlot_p]; omega)) (by first | omega | (simp only [bNode_1, bNode_p, bSet_1, bSet_p, bOver_1, bOver_p, bWrap_1, bWrap_p, bKeep_1, bKeep_p, bSlot_1, bSlot_p]; omega)) (by first | omega | (simp only [bNode_1, bNode_p, bSet_1, bSet_p, bOver_1, bOver_p, bWrap_1, bWrap_p, bKeep_1, bKeep_p, bSlot_1, bSlot_p]; omega)) (EnOK_row (EnOK_see hE nsl)) g14 (Or.inr ⟨⟨by omega, (by first | omega | (simp only [bNode_1, bNode_p, bSet_1, bSet_p, bOver_1, bOver_p, bWrap_1, bWrap_p, bKeep_1, bKeep_p, bSlot_1, bSlot_p]; omega))⟩, (c' + 1), hL, by omega⟩)
        have y14 : Frm E.2.2.2.1 s8.2.1 (bSet (bNode s8.2.2.2.2.1 30 1 (nI b.1) (nI s8.2.2.2.1)) 9 e (nI s8.2.2.2.2.1.1)) s8.2.2.2.2.1.1 s14.2.2.2.2.1 ∧ (∀ x ∈ s14.2.2.2.2.2, x.2.2 < 60) ∧ 1 ≤ s14.2.2.2.1 ∧ ∃ m, m + 1 + (60 - s14.2.1) ≤ K ∧ ∀ T', Agr T' E.2.2.2.1 s14.2.1 s14.2.2.2.2.1 lo 0 → ∃ el, LSe (PJ FN (eFl E) E.2.2.2.1 g (20 - o) K T') T' m s14.2.2.2.1 el ∧ T' 9 el = -1 := y14'
        try dsimp only at hG
        cases hG
        refine ⟨Frm_ta (Frm_ta (Frm_ta (Frm_wk fR) (Frm_wk y8.1) (Or.inl rfl)) (Frm_ta (Frm_node (vv := v)) (Frm_set9 (vv := v)) (Or.inl rfl)) (Or.inl rfl)) y14.1 (Or.inr (Or.inl (by omega))), fun x hx => ?_, y14.2.2.1, y14.2.2.2⟩
        rcases List.mem_append.mp hx with z | z
        · exact y14.2.1 x z
        · exact nsl x z
      · rw [if_neg y12] at hG
        cases hG
        refine ⟨(Frm_ta (Frm_ta (Frm_wk fR) (Frm_wk y8.1) (Or.inl rfl)) (Frm_ta (Frm_node (vv := v)) (Frm_set9 (vv := v)) (Or.inl rfl)) (Or.inl rfl)), nsl, (by show 1 ≤ i; omega), (c' + 1), (by first | omega | (show _ + 1 + (60 - s8.2.1) ≤ _; omega)), fun T' hA => ⟨_, LL_w hL hA⟩⟩
  · rw [if_neg y1] at hG
    obtain ⟨w15, v15, hG⟩ := gN_s hG
    have u15 := tkN_b T n q (by omega)
    have z15 := tkE_b T n q (by omega)
    try dsimp only at hG
    have fN : Frm E.2.2.2.1 v b 0 (bNm b E.2.2.2.1 v g T q (tkE T n q - q)) := Frm_nm
    have nN : LL (PNm E.2.2.2.1 g) E.2.2.2.1 (v + 1) b.1 (bNm b E.2.2.2.1 v g T q (tkE T n q - q)) b.1 b.1 0 := LN_1 hb1 (by omega) (by omega)
    obtain ⟨w16, t16, hG⟩ := gW_s hG
    have u16 := tkN_b T n (tkN T n q) (by omega)
    try dsimp only at hG
    obtain ⟨s17, g17, hG⟩ := gb_s hG
    have x17 := mo _ _ _ _ _ _ _ _ _ _ s17 (by omega) (by omega) g17 1 (by first | omega | (simp only [bNode_1, bNode_p, bSet_1, bSet_p, bOver_1, bOver_p, bWrap_1, bWrap_p, bKeep_1, bKeep_p, bSlot_1, bSlot_p]; omega)) (Nat.le_refl 1) (trivial)
    obtain ⟨a17, b17, c17, d17, e17, f17, h17, i17⟩ := (x17.1 : Mo n _ _ _ s17)
    have j17 := x17.2
    have j17 : 1 ≤ s17.2.2.2.1 ∧ s17.2.2.2.1 < s17.2.2.2.2.1.1 := j17
    try simp only [bNode_1, bNode_p, bSet_1, bSet_p, bOver_1, bOver_p, bWrap_1, bWrap_p, bKeep_1, bKeep_p, bSlot_1, bSlot_p] at a17 b17 c17 d17 e17 f17 h17 i17
    have y17' := ih 6 _ _ _ _ _ _ _ _ _ s17 (0) (_) (_) (by omega) (by omega) (by omega) (by first | omega | (simp only [bNode_1, bNode_p, bSet_1, bSet_p, bOver_1, bOver_p, bWrap_1, bWrap_p, bKeep_1, bKeep_p, bSlot_1, bSlot_p]; omega)) (by first | omega | (simp only [bNode_1, bNode_p, bSet_1, bSet_p, bOver_1, bOver_p, bWrap_1, bWrap_p, bKeep_1, bKeep_p, bSlot_1, bSlot_p]; omega)) (by first | omega | (simp only [bNode_1, bNode_p, bSet_1, bSet_p, bOver_1, bOver_p, bWrap_1, bWrap_p, bKeep_1, bKeep_p, bSlot_1, bSlot_p]; omega)) (EnOK_row hE) g17 (⟨rfl, rfl⟩)
    have y17 : Frm E.2.2.2.1 (v + 1) (bNm b E.2.2.2.1 v g T q (tkE T n q - q)) 0 s17.2.2.2.2.1 ∧ LPt FN (eFl E) E.2.2.2.1 s17.2.1 (20 - o) 8 (60 - (v + 1)) (bNm b E.2.2.2.1 v g T q (tkE T n q - q)).1 s17.2.2.2.2.1 s17.2.2.2.1 := y17'
    try dsimp only at hG
    have nsl : ∀ x ∈ [(tkS T n q, b.2.1, v)], x.2.2 < 60 := by
      intro x hx
      rw [List.mem_singleton.mp hx]; show v < 60; omega
    by_cases hi : i = 0
    · simp only [if_pos hi] at hG
      obtain ⟨_, rfl, rfl⟩ := hN.resolve_right (fun z => by omega)
      have hL := LI_1 (K := 60 - v) (x := 0) (by omega) (fun T' hA => ⟨0, b.1, by decide, (LL_w nN hA).1, (LL_w nN hA).2⟩) y17.1 y17.2 (by omega) (by omega) (by decide) (by omega) hb1 (by first | omega | (simp only [bNode_1, bNode_p, bSet_1, bSet_p, bOver_1, bOver_p, bWrap_1, bWrap_p, bKeep_1, bKeep_p, bSlot_1, bSlot_p]; omega))
      by_cases y18 : tkK T n s17.1 = 12
      · rw [if_pos y18] at hG
        obtain ⟨t19, hG⟩ := gT_s hG
        have u19 := tkN_b T n s17.1 (by omega)
        try dsimp only at hG
        obtain ⟨s20, g20, hG⟩ := gb_s hG
        have x20 := mo _ _ _ _ _ _ _ _ _ _ s20 (by omega) (by omega) g20 1 (by first | omega | (simp only [bNode_1, bNode_p, bSet_1, bSet_p, bOver_1, bOver_p, bWrap_1, bWrap_p, bKeep_1, bKeep_p, bSlot_1, bSlot_p]; omega)) (Nat.le_refl 1) (Or.inr ⟨by first | omega | (simp only [bNode_1, bNode_p, bSet_1, bSet_p, bOver_1, bOver_p, bWrap_1, bWrap_p, bKeep_1, bKeep_p, bSlot_1, bSlot_p]; omega), by first | omega | (simp only [bNode_1, bNode_p, bSet_1, bSet_p, bOver_1, bOver_p, bWrap_1, bWrap_p, bKeep_1, bKeep_p, bSlot_1, bSlot_p]; omega), by first | omega | (simp only [bNode_1, bNode_p, bSet_1, bSet_p, bOver_1, bOver_p, bWrap_1, bWrap_p, bKeep_1, bKeep_p, bSlot_1, bSlot_p]; omega), by first | omega | (simp only [bNode_1, bNode_p, bSet_1, bSet_p, bOver_1, bOver_p, bWrap_1, bWrap_p, bKeep_1, bKeep_p, bSlot_1, bSlot_p]; omega)⟩)
        obtain ⟨a20, b20, c20, d20, e20, f20, h20, i20⟩ := (x20.1 : Mo n _ _ _ s20)
        have j20 := x20.2
        have j20 : 1 ≤ s20.2.2.2.1 ∧ s20.2.2.2.1 < s20.2.2.2.2.1.1 := j20
        try simp only [bNode_1, bNode_p, bSet_1, bSet_p, bOver_1, bOver_p, bWrap_1, bWrap_p, bKeep_1, bKeep_p, bSlot_1, bSlot_p] at a20 b20 c20 d20 e20 f20 h20 i20
        have y20' := ih 17 _ _ _ _ _ _ _ _ _ s20 (0) (b.1) ((60 - v)) (by omega) (by omega) (by omega) (by first | omega | (simp only [bNode_1, bNode_p, bSet_1, bSet_p, bOver_1, bOver_p, bWrap_1, bWrap_p, bKeep_1, bKeep_p, bSlot_1, bSlot_p]; omega)) (by first | omega | (simp only [bNode_1, bNode_p, bSet_1, bSet_p, bOver_1, bOver_p, bWrap_1, bWrap_p, bKeep_1, bKeep_p, bSlot_1, bSlot_p]; omega)) (by first | omega | (simp only [bNode_1, bNode_p, bSet_1, bSet_p, bOver_1, bOver_p, bWrap_1, bWrap_p, bKeep_1, bKeep_p, bSlot_1, bSlot_p]; omega)) (EnOK_row (EnOK_see hE nsl)) g20 (Or.inr ⟨⟨by omega, (by first | omega | (simp only [bNode_1, bNode_p, bSet_1, bSet_p, bOver_1, bOver_p, bWrap_1, bWrap_p, bKeep_1, bKeep_p, bSlot_1, bSlot_p]; omega))⟩, 0, hL, by omega⟩)
        have y20 : Frm E.2.2.2.1 s17.2.1 (bNode s17.2.2.2.2.1 30 0 (nI b.1) (nI s17.2.2.2.1)) s17.2.2.2.2.1.1 s20.2.2.2.2.1 ∧ (∀ x ∈ s20.2.2.2.2.2, x.2.2 < 60) ∧ 1 ≤ s20.2.2.2.1 ∧ ∃ m, m + 1 + (60 - s20.2.1) ≤ (60 - v) ∧ ∀ T', Agr T' E.2.2.2.1 s20.2.1 s20.2.2.2.2.1 b.1 0 → ∃ el, LSe (PJ FN (eFl E) E.2.2.2.1 g (20 - o) (60 - v) T') T' m s20.2.2.2.1 el ∧ T' 9 el = -1 := y20'
        try dsimp only at hG
        cases hG
        refine ⟨Frm_ta (Frm_ta (Frm_ta (Frm_wk fN) (Frm_wk y17.1) (Or.inl rfl)) (Frm_node (vv := v) (e := e)) (Or.inl rfl)) y20.1 (Or.inr (Or.inl (by omega))), fun x hx => ?_, y20.2.2.1, y20.2.2.2⟩
        rcases List.mem_append.mp hx with z | z
        · exact y20.2.1 x z
        · exact nsl x z
      · rw [if_neg y18] at hG
        cases hG
        refine ⟨(Frm_ta (Frm_ta (Frm_wk fN) (Frm_wk y17.1) (Or.inl rfl)) (Frm_node (vv := v) (e := e)) (Or.inl rfl)), nsl, (by show 1 ≤ s17.2.2.2.2.1.1; omega), 0, (by first | omega | (show _ + 1 + (60 - s17.2.1) ≤ _; omega)), fun T' hA => ⟨_, LL_w hL hA⟩⟩
    · simp only [if_neg hi] at hG
      obtain ⟨l1, c', hL0, l2⟩ := hN.resolve_left (fun z => hi z.1)
      have n1 := hL0.1
      have n2 := hL0.2.1
      have n3 := hL0.2.2.1
      have hL := LI_x (x := 0) hL0 (by omega) fN (by omega) (fun T' hA => ⟨0, b.1, by decide, (LL_w nN hA).1, (LL_w nN hA).2⟩) y17.1 y17.2 (by omega) (by omega) (by decide) (by omega)
      by_cases y21 : tkK T n s17.1 = 12
      · rw [if_pos y21] at hG
        obtain ⟨t22, hG⟩ := gT_s hG
        have u22 := tkN_b T n s17.1 (by omega)
        try dsimp only at hG
        obtain ⟨s23, g23, hG⟩ := gb_s hG
        have x23 := mo _ _ _ _ _ _ _ _ _ _ s23 (by omega) (by omega) g23 1 (by first | omega | (simp only [bNode_1, bNode_p, bSet_1, bSet_p, bOver_1, bOver_p, bWrap_1, bWrap_p, bKeep_1, bKeep_p, bSlot_1, bSlot_p]; omega)) (Nat.le_refl 1) (Or.inr ⟨by first | omega | (simp only [bNode_1, bNode_p, bSet_1, bSet_p, bOver_1, bOver_p, bWrap_1, bWrap_p, bKeep_1, bKeep_p, bSlot_1, bSlot_p]; omega), by first | omega | (simp only [bNode_1, bNode_p, bSet_1, bSet_p, bOver_1, bOver_p, bWrap_1, bWrap_p, bKeep_1, bKeep_p, bSlot_1, bSlot_p]; omega), by first | omega | (simp only [bNode_1, bNode_p, bSet_1, bSet_p, bOver_1, bOver_p, bWrap_1, bWrap_p, bKeep_1, bKeep_p, bSlot_1, bSlot_p]; omega), by first | omega | (simp only [bNode_1, bNode_p, bSet_1, bSet_p, bOver_1, bOver_p, bWrap_1, bWrap_p, bKeep_1, bKeep_p, bSlot_1, bSlot_p]; omega)⟩)
        obtain ⟨a23, b23, c23, d23, e23, f23, h23, i23⟩ := (x23.1 : Mo n _ _ _ s23)
        have j23 := x23.2
        have j23 : 1 ≤ s23.2.2.2.1 ∧ s23.2.2.2.1 < s23.2.2.2.2.1.1 := j23
        try simp only [bNode_1, bNode_p, bSet_1, bSet_p, bOver_1, bOver_p, bWrap_1, bWrap_p, bKeep_1, bKeep_p, bSlot_1, bSlot_p] at a23 b23 c23 d23 e23 f23 h23 i23
        have y23' := ih 17 _ _ _ _ _ _ _ _ _ s23 (0) (lo) (K) (by omega) (by omega) (by omega) (by first | omega | (simp only [bNode_1, bNode_p, bSet_1, bSet_p, bOver_1, bOver_p, bWrap_1, bWrap_p, bKeep_1, bKeep_p, bSlot_1, bSlot_p]; omega)) (by first | omega | (simp only [bNode_1, bNode_p, bSet_1, bSet_p, bOver_1, bOver_p, bWrap_1, bWrap_p, bKeep_1, bKeep_p, bSlot_1, bSlot_p]; omega)) (by first | omega | (simp only [bNode_1, bNode_p, bSet_1, bSet_p, bOver_1, bOver_p, bWrap_1, bWrap_p, bKeep_1, bKeep_p, bSlot_1, bSlot_p]; omega)) (EnOK_row (EnOK_see hE nsl)) g23 (Or.inr ⟨⟨by omega, (by first | omega | (simp only [bNode_1, bNode_p, bSet_1, bSet_p, bOver_1, bOver_p, bWrap_1, bWrap_p, bKeep_1, bKeep_p, bSlot_1, bSlot_p]; omega))⟩, (c' + 1), hL, by omega⟩)
        have y23 : Frm E.2.2.2.1 s17.2.1 (bSet (bNode s17.2.2.2.2.1 30 0 (nI b.1) (nI s17.2.2.2.1)) 9 e (nI s17.2.2.2.2.1.1)) s17.2.2.2.2.1.1 s23.2.2.2.2.1 ∧ (∀ x ∈ s23.2.2.2.2.2, x.2.2 < 60) ∧ 1 ≤ s23.2.2.2.1 ∧ ∃ m, m + 1 + (60 - s23.2.1) ≤ K ∧ ∀ T', Agr T' E.2.2.2.1 s23.2.1 s23.2.2.2.2.1 lo 0 → ∃ el, LSe (PJ FN (eFl E) E.2.2.2.1 g (20 - o) K T') T' m s23.2.2.2.1 el ∧ T' 9 el = -1 := y23'
        try dsimp only at hG
        cases hG
        refine ⟨Frm_ta (Frm_ta (Frm_ta (Frm_wk fN) (Frm_wk y17.1) (Or.inl rfl)) (Frm_ta (Frm_node (vv := v)) (Frm_set9 (vv := v)) (Or.inl rfl)) (Or.inl rfl)) y23.1 (Or.inr (Or.inl (by omega))), fun x hx => ?_, y23.2.2.1, y23.2.2.2⟩
        rcases List.mem_append.mp hx with z | z
        · exact y23.2.1 x z
        · exact nsl x z
      · rw [if_neg y21] at hG
        cases hG
        refine ⟨(Frm_ta (Frm_ta (Frm_wk fN) (Frm_wk y17.1) (Or.inl rfl)) (Frm_ta (Frm_node (vv := v)) (Frm_set9 (vv := v)) (Or.inl rfl)) (Or.inl rfl)), nsl, (by show 1 ≤ i; omega), (c' + 1), (by first | omega | (show _ + 1 + (60 - s17.2.1) ≤ _; omega)), fun T' hA => ⟨_, LL_w hL hA⟩⟩
theorem gtr_18 {T : Nat → Int32} {n f : Nat} {FN : Nat → Nat → Prop} (hT : ∀ i, i < n → ∃ d, d ≤ 300 ∧ T i = nI d) (ih : GTr T n f FN) {E : En} {o q v i e c g j lo K : Nat} {b : BT} {r : RT} (hq : q ≤ n) (hv : v ≤ 60) (ho : o ≤ 20) (hbn : b.1 + n < 70000 + q) (hbp : b.2.1 + n ≤ 70000 + q) (hb1 : 1 ≤ b.1) (hE : EnOK FN E) (hG : G T n (f + 1) 18 E o q v i e c g b = some (Sum.inr r)) (hN : TPre FN (eFl E) E.2.2.2.1 18 o v i e c g j lo K b) : TPost FN (eFl E) E.2.2.2.1 18 o v i e c g j lo K b r := by
  have mo := g_mono T n f
  rw [G_18] at hG
  obtain ⟨c', hL, l2⟩ := (hN : ∃ c', LL (PNm E.2.2.2.1 g) E.2.2.2.1 v lo b j e c' ∧ c' + 1 ≤ v)
  have n1 := hL.1
  have n2 := hL.2.1
  have n3 := hL.2.2.1
  by_cases y1 : tkK T n q = 12
  · rw [if_pos y1] at hG
    obtain ⟨t2, hG⟩ := gT_s hG
    have u2 := tkN_b T n q (by omega)
    try dsimp only at hG
    obtain ⟨w3, v3, hG⟩ := gN_s hG
    have u3 := tkN_b T n (tkN T n q) (by omega)
    have z3 := tkE_b T n (tkN T n q) (by omega)
    try dsimp only at hG
    have hL2 : LL (PNm E.2.2.2.1 g) E.2.2.2.1 (v + 1) lo (bSet (bNm b E.2.2.2.1 v g T (tkN T n q) (tkE T n (tkN T n q) - (tkN T n q))) 9 e (nI b.1)) j b.1 (c' + 1) := LN_x hL (by omega) (by omega)
    obtain ⟨s4, g4, hG⟩ := gb_s hG
    have x4 := mo _ _ _ _ _ _ _ _ _ _ s4 (by omega) (by omega) g4 1 (by first | omega | (simp only [bNode_1, bNode_p, bSet_1, bSet_p, bOver_1, bOver_p, bWrap_1, bWrap_p, bKeep_1, bKeep_p, bSlot_1, bSlot_p]; omega)) (Nat.le_refl 1) (trivial)
    obtain ⟨a4, b4, c4, d4, e4, f4, h4, i4⟩ := (x4.1 : Mo n _ _ _ s4)
    have j4 := x4.2
    try simp only [bNode_1, bNode_p, bSet_1, bSet_p, bOver_1, bOver_p, bWrap_1, bWrap_p, bKeep_1, bKeep_p, bSlot_1, bSlot_p] at a4 b4 c4 d4 e4 f4 h4 i4
    have y4' := ih 18 _ _ _ _ _ _ _ _ _ s4 (j) (lo) (0) (by omega) (by omega) (by omega) (by first | omega | (simp only [bNode_1, bNode_p, bSet_1, bSet_p, bOver_1, bOver_p, bWrap_1, bWrap_p, bKeep_1, bKeep_p, bSlot_1, bSlot_p]; omega)) (by first | omega | (simp only [bNode_1, bNode_p, bSet_1, bSet_p, bOver_1, bOver_p, bWrap_1, bWrap_p, bKeep_1, bKeep_p, bSlot_1, bSlot_p]; omega)) (by first | omega | (simp only [bNode_1, bNode_p, bSet_1, bSet_p, bOver_1, bOver_p, bWrap_1, bWrap_p, bKeep_1, bKeep_p, bSlot_1, bSlot_p]; omega)) (EnOK_row hE) g4 (⟨c' + 1, hL2, by omega⟩)
    have y4 : Frm E.2.2.2.1 (v + 1) (bSet (bNm b E.2.2.2.1 v g T (tkN T n q) (tkE T n (tkN T n q) - (tkN T n q))) 9 e (nI b.1)) b.1 s4.2.2.2.2.1 ∧ (∀ x ∈ s4.2.2.2.2.2, x.2.2 < 60) ∧ ∀ T', Agr T' E.2.2.2.1 s4.2.1 s4.2.2.2.2.1 lo 0 → PNl E.2.2.2.1 g T' j := y4'
    try dsimp only at hG
    cases hG
    refine ⟨Frm_ta (Frm_ta (Frm_wk (Frm_nm (vv := v))) (Frm_set9 (vv := v)) (Or.inl rfl)) y4.1 (Or.inr (Or.inl (Nat.le_refl _))), fun x hx => ?_, y4.2.2⟩
    rcases List.mem_append.mp hx with z | z
    · exact y4.2.1 x z
    · rw [List.mem_singleton.mp z]; show v < 60; omega
  · rw [if_neg y1] at hG
    cases hG
    exact ⟨Frm_rf, fun x hx => absurd hx (List.not_mem_nil), fun T' hA => ⟨c', e, by omega, (LL_w hL hA).1, (LL_w hL hA).2⟩⟩
/-- what the grammar lays is a tree -/
theorem g_tree {T : Nat → Int32} {n : Nat} {FN : Nat → Nat → Prop} (hT : ∀ i, i < n → ∃ d, d ≤ 300 ∧ T i = nI d) : ∀ f : Nat, GTr T n f FN
  | 0 => fun nt E o q v i e c g b r j lo K _ _ _ _ _ _ _ hG => by simp only [G] at hG; cases hG
  | f + 1 => fun nt E o q v i e c g b r j lo K hq hv ho hbn hbp hb1 hE hG hN => by
    have ih := g_tree (FN := FN) hT f
    match nt, hG, hN with
    | 0, hG, hN => exact gtr_0 hT ih hq hv ho hbn hbp hb1 hE hG hN
    | 1, hG, hN => exact gtr_1 hT ih hq hv ho hbn hbp hb1 hE hG hN
    | 2, hG, hN => exact gtr_2 hT ih hq hv ho hbn hbp hb1 hE hG hN
    | 3, hG, hN => exact gtr_3 hT ih hq hv ho hbn hbp hb1 hE hG hN
    | 4, hG, hN => exact gtr_4 hT ih hq hv ho hbn hbp hb1 hE hG hN
    | 5, hG, hN => exact gtr_5 hT ih hq hv ho hbn hbp hb1 hE hG hN
    | 6, hG, hN => exact gtr_6 hT ih hq hv ho hbn hbp hb1 hE hG hN
    | 7, hG, hN => exact gtr_7 hT ih hq hv ho hbn hbp hb1 hE hG hN
    | 8, hG, hN => exact gtr_8 hT ih hq hv ho hbn hbp hb1 hE hG hN
    | 9, hG, hN => exact gtr_9 hT ih hq hv ho hbn hbp hb1 hE hG hN
    | 10, hG, hN => exact gtr_10 hT ih hq hv ho hbn hbp hb1 hE hG hN
    | 11, hG, hN => exact gtr_11 hT ih hq hv ho hbn hbp hb1 hE hG hN
    | 12, hG, hN => exact gtr_12 hT ih hq hv ho hbn hbp hb1 hE hG hN
    | 13, hG, hN => exact gtr_13 hT ih hq hv ho hbn hbp hb1 hE hG hN
    | 14, hG, hN => exact gtr_14 hT ih hq hv ho hbn hbp hb1 hE hG hN
    | 15, hG, hN => exact gtr_15 hT ih hq hv ho hbn hbp hb1 hE hG hN
    | 16, hG, hN => exact gtr_16 hT ih hq hv ho hbn hbp hb1 hE hG hN
    | 17, hG, hN => exact gtr_17 hT ih hq hv ho hbn hbp hb1 hE hG hN
    | 18, hG, hN => exact gtr_18 hT ih hq hv ho hbn hbp hb1 hE hG hN
    | nt + 19, hG, hN => simp only [G] at hG; cases hG

/-! The set of statements that the grammar lays: all blocks. -/
section GSX
variable {T : Nat → Int32} {n : Nat} {FN : Nat → Nat → Prop} {GF : Nat → Prop} {MD : Nat → Nat → Nat} {f : Nat}
def XB0 (T : Nat → Int32) (n : Nat) (FN : Nat → Nat → Prop) (GF : Nat → Prop) (MD : Nat → Nat → Nat) (f : Nat) : Prop := ∀ (E : En) (lp o q v : Nat) (pe : Int32) (i l : Nat) (b : BT) (s : SB) (r : ST) (d : Nat), PrZ n FN GF E o q v b s d → l < b.1 → (¬ i = 0 → (1 ≤ l ∧ b.2.2.1 9 l = -1) ∧ 1 ≤ i ∧ i < b.1) → GS T n MD f 0 E lp o q v pe i l b s = some (some r) → RB0 FN GF MD E lp d q v pe i l b s r
def XS1 (T : Nat → Int32) (n : Nat) (FN : Nat → Nat → Prop) (GF : Nat → Prop) (MD : Nat → Nat → Nat) (f : Nat) : Prop := ∀ (E : En) (lp o q v : Nat) (b : BT) (s : SB) (r : ST) (d : Nat), PrZ n FN GF E o q v b s d → GS T n MD f 1 E lp o q v 0 0 0 b s = some (some r) → RS1 FN GF MD E lp d q v b s r
def XIn (T : Nat → Int32) (n : Nat) (FN : Nat → Nat → Prop) (GF : Nat → Prop) (MD : Nat → Nat → Nat) (nt tk f : Nat) : Prop := ∀ (E : En) (lp o q v : Nat) (b : BT) (s : SB) (r : ST) (d : Nat), PrZ n FN GF E o q v b s d → o ≤ 19 → tkK T n q = tk → GS T n MD f nt E lp o q v 0 0 0 b s = some (some r) → RIn FN GF MD E lp d q v b s r
def XB3 (T : Nat → Int32) (n : Nat) (FN : Nat → Nat → Prop) (GF : Nat → Prop) (MD : Nat → Nat → Nat) (f : Nat) : Prop := ∀ (E : En) (lp o q v i l : Nat) (b : BT) (s : SB) (r : ST) (d v0 : Nat), PrZ n FN GF E o q v b s (d + 1) → i < b.1 → l < b.1 → v0 ≤ v → GS T n MD f 3 E lp o q v 0 i l b s = some (some r) → RB3 FN GF MD E lp d q v v0 i l b s r
/-- a block -/
theorem xb0_s (H1 : XS1 T n FN GF MD f) (H0 : XB0 T n FN GF MD f) : XB0 T n FN GF MD (f + 1) := by
  intro E lp o q v pe i l b s r d hP hl hi hG
  obtain ⟨p1, p2, p3, p4, p5, p6, p7, p8, p9, p10, p11⟩ := id hP
  simp only [GS] at hG
  by_cases c : isBE (tkK T n q)
  · rw [if_pos c] at hG
    cases hG
    refine ⟨fun _ _ _ => False, 0, 0, 0, Frm_rf, FrS_rf, ?_, fun z => (hi z).1.2, by show 2 * (0 + 0) + q ≤ q; omega, Or.inl rfl, fun T' S _ _ _ _ _ _ => ⟨fun _ _ _ z => z.elim, fun z => absurd rfl z⟩⟩
    show i = _
    by_cases z : i = 0
    · rw [if_pos z]; exact z
    · rw [if_neg z]
  · rw [if_neg c] at hG
    obtain ⟨t, g1, hG⟩ := hb_s hG
    obtain ⟨m, m'⟩ := gs_mo f 1 E lp o q v 0 0 0 b s t 1 (by decide) p1 p2 p7 g1 (Nat.le_refl 1) p6 (fun z => absurd z (by decide)) (fun z => absurd z (by decide))
    have R1 := H1 E lp o q v b s t d hP g1
    obtain ⟨m1, m2, m3, m4, m5, m6, m7, m8, m9, m10⟩ := id m
    obtain ⟨_, _, _, r1, _, ⟨e1, e2, e3⟩, _⟩ := id R1
    have nz : ¬ fst2 i t.2.2.2.1 = 0 := by
      unfold fst2
      by_cases z : i = 0
      · rw [if_pos z]; omega
      · rw [if_neg z]; exact z
    have fb : 1 ≤ fst2 i t.2.2.2.1 ∧ fst2 i t.2.2.2.1 < t.2.2.2.2.1.1 := by
      unfold fst2
      by_cases z : i = 0
      · rw [if_pos z]; omega
      · rw [if_neg z]; have := hi z; omega
    have n9 : (bLnk i l t.2.2.2.1 t.2.2.2.2.1).2.2.1 9 t.2.2.2.1 = -1 := by
      unfold bLnk
      by_cases z : i = 0
      · rw [if_pos z]; exact e3
      · rw [if_neg z, bSet_o (by omega)]; exact e3
    have P2 : PrZ n FN GF E o t.1 t.2.1 (bLnk i l t.2.2.2.1 t.2.2.2.2.1) (sUp t.2.2.2.2.2 t.2.2.1 pe) d := ⟨m2, m4, p3, by rw [bLnk_1]; omega, by rw [bLnk_p]; omega, by rw [bLnk_1]; omega, m10, p8, NmC_fr (NmC_fr p9 r1 m3) (Frm_lnk (vv := t.2.1) (e := l)) (Nat.le_refl _), p10, p11⟩
    have hG : GS T n MD f 0 E lp o t.1 t.2.1 pe (fst2 i t.2.2.2.1) t.2.2.2.1 (bLnk i l t.2.2.2.1 t.2.2.2.2.1) (sUp t.2.2.2.2.2 t.2.2.1 pe) = some (some r) := hG
    obtain ⟨mm, _⟩ := gs_mo f 0 E lp o t.1 t.2.1 pe (fst2 i t.2.2.2.1) t.2.2.2.1 (bLnk i l t.2.2.2.1 t.2.2.2.2.1) (sUp t.2.2.2.2.2 t.2.2.1 pe) r 1 (by decide) m2 m4 m10 hG (Nat.le_refl 1) (by rw [bLnk_1]; omega) (fun _ _ => by rw [bLnk_1]; exact fb) (fun z => absurd z (by decide))
    have R2 := H0 E lp o t.1 t.2.1 pe _ _ _ _ r d P2 (by rw [bLnk_1]; exact e2) (fun _ => ⟨⟨by omega, n9⟩, by rw [bLnk_1]; exact fb⟩) hG
    exact RB0_s m p6 hl (fun z => (hi z).1.1) R1 R2 mm.2.2.1
/-- a statement -/
theorem xs1_s (hn : n ≤ 32768) (hT : ∀ i, i < n → ∃ d, d ≤ 300 ∧ T i = nI d) (H2 : XIn T n FN GF MD 2 39 f) (H4 : XIn T n FN GF MD 4 43 f) (H5 : XIn T n FN GF MD 5 45 f) : XS1 T n FN GF MD (f + 1) := by
  intro E lp o q v b s r d hP hG
  obtain ⟨p1, p2, p3, p4, p5, p6, p7, p8, p9, p10, p11⟩ := id hP
  simp only [GS] at hG
  by_cases c : ¬ isSt (tkK T n q) ∨ (isOp (tkK T n q) ∧ o = 20) ∨ s.1 = 400
  · rw [if_pos c] at hG; cases hG
  rw [if_neg c] at hG
  have c1 : isSt (tkK T n q) := Classical.byContradiction (fun z => c (Or.inl z))
  have c2 : isOp (tkK T n q) → o ≤ 19 := fun z => by
    have : ¬ o = 20 := fun y => c (Or.inr (Or.inl ⟨z, y⟩))
    omega
  have c3 : ¬ s.1 = 400 := fun z => c (Or.inr (Or.inr z))
  have PM : PrZ n FN GF E o q v b (sMo s) d := ⟨p1, p2, p3, p4, p5, p6, by show s.1 + 1 ≤ 400; omega, p8, p9, p10, p11⟩
  obtain ⟨t, g1, hG⟩ := hb_s hG
  have R : RIn FN GF MD E lp d q v b (sMo s) t := by
    by_cases k26 : tkK T n q = 26
    · rw [if_pos k26] at g1
      obtain ⟨u, g2, g1⟩ := lb_s g1
      obtain ⟨ks, a1, a2, a3⟩ := gBg_t (GF := GF) hT p1 k26 p2 p3 p4 p5 p6 p8 p9 g2
      cases g1
      exact RIn_s (ks := ks) a1 (SLd_mo a2 ⟨p6, Nat.le_refl _⟩ (fun T' _ _ h => Or.inl h)) a3
    rw [if_neg k26] at g1
    by_cases k10 : tkK T n q = 10
    · rw [if_pos k10] at g1
      obtain ⟨u, g2, g1⟩ := lb_s g1
      obtain ⟨ks, a1, a2, a3⟩ := gPa_t (GF := GF) hn hT p1 p2 p3 p4 p5 p6 p8 p9 g2
      cases g1
      exact RIn_s (ks := ks) a1 (SLd_mo a2 ⟨p6, Nat.le_refl _⟩ (fun T' _ _ h => Or.inr (Or.inl h))) a3
    rw [if_neg k10] at g1
    by_cases k39 : tkK T n q = 39
    · rw [if_pos k39] at g1
      exact H2 E lp o q v b (sMo s) t d PM (c2 (Or.inl k39)) k39 g1
    rw [if_neg k39] at g1
    by_cases k43 : tkK T n q = 43
    · rw [if_pos k43] at g1
      exact H4 E lp o q v b (sMo s) t d PM (c2 (Or.inr (Or.inl k43))) k43 g1
    rw [if_neg k43] at g1
    by_cases k45 : tkK T n q = 45
    · rw [if_pos k45] at g1
      exact H5 E lp o q v b (sMo s) t d PM (c2 (Or.inr (Or.inr (Or.inl k45)))) k45 g1
    rw [if_neg k45] at g1
    obtain ⟨u, g2, g1⟩ := lb_s g1
    have kw : 49 ≤ tkK T n q ∧ tkK T n q ≤ 56 := by
      rcases c1 with z | z | z | z | z | z
      · exact absurd z k26
      · exact absurd z k10
      · exact absurd z k39
      · exact absurd z k43
      · exact absurd z k45
      · exact z
    obtain ⟨ks, a1, a2, a3⟩ := gSm_t (GF := GF) kw hT p1 p2 p3 p4 p5 p6 p8 p9 g2
    cases g1
    exact RIn_s (ks := ks) a1 (SLd_mo a2 ⟨p6, Nat.le_refl _⟩ (fun T' _ _ h => Or.inr (Or.inr h))) a3
  cases hG
  exact S1_fin p2 (by omega) p10 p6 (by omega) R
/-- branches -/
theorem xb3_s (hT : ∀ i, i < n → ∃ d, d ≤ 300 ∧ T i = nI d) (H0 : XB0 T n FN GF MD f) (H3 : XB3 T n FN GF MD f) : XB3 T n FN GF MD (f + 1) := by
  intro E lp o q v i l b s r d v0 hP hi hl hv0 hG
  obtain ⟨p1, p2, p3, p4, p5, p6, p7, p8, p9, p10, p11⟩ := id hP
  simp only [GS] at hG
  obtain ⟨c, g1, hG⟩ := hb_s hG
  have hC : (q ≤ c.1 ∧ c.1 ≤ n ∧ v ≤ c.2.1 ∧ c.2.1 ≤ 60 ∧ c.2.2.2.2.1.1 + q ≤ b.1 + c.1 ∧ c.2.2.2.2.1.2.1 + q ≤ b.2.1 + c.1) ∧ Frm E.2.2.2.1 v b 0 c.2.2.2.2.1 ∧ (c.2.2.2.1 = 0 ∨ LPt FN (eFl E) E.2.2.2.1 c.2.1 (20 - o) 14 (60 - v) b.1 c.2.2.2.2.1 c.2.2.2.1) ∧ c.2.2.2.2.2 = s := by
    by_cases z : l = 0 ∧ tkK T n q = 63
    · rw [if_pos z] at g1
      obtain ⟨t1, g1⟩ := hT_s g1
      have u := tkN_b T n q p1
      cases g1
      exact ⟨⟨u.1, u.2.1, Nat.le_refl _, p2, by show b.1 + q ≤ b.1 + tkN T n q; omega, by show b.2.1 + q ≤ b.2.1 + tkN T n q; omega⟩, Frm_rf, Or.inl rfl, rfl⟩
    · rw [if_neg z] at g1
      obtain ⟨t, g2, g1⟩ := lb_s g1
      obtain ⟨⟨a1, a2, a3, a4, a5, a6, a7, a8⟩, hF, hL, hlt, _⟩ := ex_of (GF := GF) hT p1 p2 p3 p4 p5 p6 p8 p9 g2
      have a4 : t.2.1 ≤ 60 := by omega
      cases g1
      exact ⟨⟨a1, a2, a3, a4, a6, a8⟩, hF, Or.inr hL, rfl⟩
  obtain ⟨⟨a1, a2, a3, a4, a6, a8⟩, hF, hL, es⟩ := hC
  obtain ⟨w1, w2, hG⟩ := hW_s hG
  have u1 := tkN_b T n c.1 a2
  obtain ⟨t, g2, hG⟩ := hb_s hG
  have P2 : PrZ n FN GF E o (tkN T n c.1) c.2.1 c.2.2.2.2.1 s (d + 1) := ⟨u1.2.1, a4, p3, by omega, by omega, Nat.le_trans p6 hF.1, p7, p8, NmC_fr p9 hF a3, p10, p11⟩
  have hB := H0 E lp o (tkN T n c.1) c.2.1 (nI i) 0 0 c.2.2.2.2.1 s t (d + 1) P2 (Nat.lt_of_lt_of_le p6 hF.1) (fun z => absurd rfl z) g2
  obtain ⟨⟨m1, m2, m3, m4, m5, m6, m7, m8, m9, m10⟩, _⟩ := gs_mo f 0 E lp o (tkN T n c.1) c.2.1 (nI i) 0 0 c.2.2.2.2.1 s t 1 (by decide) u1.2.1 a4 p7 g2 (Nat.le_refl 1) (Nat.le_trans p6 hF.1) (fun _ z => absurd rfl z) (fun z => absurd z (by decide))
  have l1 := hF.1
  by_cases k41 : tkK T n t.1 = 41
  · rw [if_pos k41] at hG
    obtain ⟨t3, hG⟩ := hT_s hG
    have u3 := tkN_b T n t.1 m2
    have hG : GS T n MD f 3 E lp o (tkN T n t.1) t.2.1 0 i t.2.2.2.2.1.1 (b3N l i t.2.2.2.2.1 (if c.2.2.2.1 = 0 then -3 else nI c.2.2.2.1) (hd t.2.2.2.1)) t.2.2.2.2.2 = some (some r) := hG
    obtain ⟨b1, b2, b3⟩ := b3N_1 (l := l) (i := i) (t := t.2.2.2.2.1) (x := if c.2.2.2.1 = 0 then -3 else nI c.2.2.2.1) (y := hd t.2.2.2.1)
    have u3' := u3.2.2.2 (by rw [k41]; decide)
    have u1' := u1.2.2.2 (by rw [w1]; decide)
    obtain ⟨_, _, _, f1, _⟩ := Br1 (GF := GF) (l := l) hF a3 m3 (by omega) (by omega) hL hB p6 hi (by omega) hl hv0
    have P3 : PrZ n FN GF E o (tkN T n t.1) t.2.1 (b3N l i t.2.2.2.2.1 (if c.2.2.2.1 = 0 then -3 else nI c.2.2.2.1) (hd t.2.2.2.1)) t.2.2.2.2.2 (d + 1) := by
      refine ⟨u3.2.1, m4, p3, by rw [b1]; omega, by rw [b2]; omega, by rw [b1]; omega, m10, p8, ⟨fun x hx => ?_, p9.2⟩, p10, p11⟩
      obtain ⟨x1, x2, x3⟩ := p9.1 x hx
      exact ⟨by omega, x2, (f1.2.2.2.2 _ x1).trans x3⟩
    obtain ⟨mm, _⟩ := gs_mo f 3 E lp o (tkN T n t.1) t.2.1 0 i t.2.2.2.2.1.1 _ _ r 1 (by decide) u3.2.1 m4 m10 hG (Nat.le_refl 1) (by rw [b1]; omega) (fun z => absurd z (by decide)) (fun _ z => absurd rfl z)
    exact RB3_s (GF := GF) hF a3 m3 (by omega) (by omega) hL hB p6 hi (by omega) hl hv0 (by omega) u3.1 mm.2.2.1 (H3 E lp o _ _ i _ _ _ r d v0 P3 (by rw [b1]; omega) (by rw [b1]; omega) (by omega) hG)
  · rw [if_neg k41] at hG
    cases hG
    exact RB3_e (GF := GF) hF a3 m3 (by omega) (by omega) hL hB p6 hi (by omega) hl hv0 (by omega)
/-- ifs -/
theorem xi2_s (H0 : XB0 T n FN GF MD f) (H3 : XB3 T n FN GF MD f) : XIn T n FN GF MD 2 39 (f + 1) := by
  intro E lp o q v b s r d hP ho hk hG
  obtain ⟨p1, p2, p3, p4, p5, p6, p7, p8, p9, p10, p11⟩ := id hP
  simp only [GS] at hG
  obtain ⟨_, hG⟩ := hT_s hG
  have u1 := tkN_b T n q p1
  have u1' := u1.2.2.2 (by rw [hk]; decide)
  obtain ⟨t, g1, hG⟩ := hb_s hG
  have P1 : PrZ n FN GF E (o + 1) (tkN T n q) v (bNode b 46 (-1) 0 0) s (d + 1) := ⟨u1.2.1, p2, by omega, by rw [bNode_1]; omega, by rw [bNode_p]; omega, by rw [bNode_1]; omega, p7, p8, NmC_fr p9 (Frm_node (e := 0)) (Nat.le_refl _), p10, by omega⟩
  have R := H3 E lp (o + 1) (tkN T n q) v b.1 0 (bNode b 46 (-1) 0 0) s t d v P1 (by rw [bNode_1]; omega) (by rw [bNode_1]; omega) (Nat.le_refl _) g1
  obtain ⟨⟨m1, m2, m3, m4, m5, m6, m7, m8, m9, m10⟩, _⟩ := gs_mo f 3 E lp (o + 1) (tkN T n q) v 0 b.1 0 (bNode b 46 (-1) 0 0) s t 1 (by decide) u1.2.1 p2 p7 g1 (Nat.le_refl 1) (by rw [bNode_1]; omega) (fun z => absurd z (by decide)) (fun _ z => absurd rfl z)
  rw [bNode_1] at m5 m6
  rw [bNode_p] at m7 m8
  obtain ⟨w, g2, hG⟩ := hb_s hG
  by_cases k42 : tkK T n t.1 = 42
  · rw [if_pos k42] at g2
    obtain ⟨_, g2⟩ := hT_s g2
    have u2 := tkN_b T n t.1 m2
    have u2' := u2.2.2.2 (by rw [k42]; decide)
    obtain ⟨z, g3, g2⟩ := hb_s g2
    obtain ⟨_, _, _, _, _, f1, _⟩ := id R
    have P2 : PrZ n FN GF E (o + 1) (tkN T n t.1) t.2.1 t.2.2.2.2.1 t.2.2.2.2.2 (d + 1) := by
      refine ⟨u2.2.1, m4, by omega, by omega, by omega, by omega, m10, p8, ⟨fun x hx => ?_, p9.2⟩, p10, by omega⟩
      obtain ⟨x1, x2, x3⟩ := p9.1 x hx
      exact ⟨by omega, x2, (f1.2.2.2.2 _ x1).trans x3⟩
    have B := H0 E lp (o + 1) (tkN T n t.1) t.2.1 (nI b.1) 0 0 t.2.2.2.2.1 t.2.2.2.2.2 z (d + 1) P2 (by omega) (fun z => absurd rfl z) g3
    obtain ⟨⟨n1, n2, n3, n4, n5, n6, n7, n8, n9, n10⟩, _⟩ := gs_mo f 0 E lp (o + 1) (tkN T n t.1) t.2.1 (nI b.1) 0 0 t.2.2.2.2.1 t.2.2.2.2.2 z 1 (by decide) u2.2.1 m4 m10 g3 (Nat.le_refl 1) (by omega) (fun _ z => absurd rfl z) (fun z => absurd z (by decide))
    cases g2
    obtain ⟨q3, y1, y2, hG⟩ := hE_mo (show z.1 ≤ n from n2) hG
    have y1 : z.1 + 2 ≤ q3 := y1
    cases hG
    exact RIn_ie p6 (by omega) u2.1 (by omega) m3 n3 (by omega) R B
  · rw [if_neg k42] at g2
    cases g2
    obtain ⟨q3, y1, y2, hG⟩ := hE_mo m2 hG
    cases hG
    exact RIn_if p6 (by omega) (by omega) R
/-- whiles -/
theorem xw4_s (hT : ∀ i, i < n → ∃ d, d ≤ 300 ∧ T i = nI d) (H0 : XB0 T n FN GF MD f) : XIn T n FN GF MD 4 43 (f + 1) := by
  intro E lp o q v b s r d hP ho hk hG
  obtain ⟨p1, p2, p3, p4, p5, p6, p7, p8, p9, p10, p11⟩ := id hP
  simp only [GS] at hG
  obtain ⟨_, hG⟩ := hT_s hG
  have u1 := tkN_b T n q p1
  have u1' := u1.2.2.2 (by rw [hk]; decide)
  obtain ⟨t, g1, hG⟩ := lb_s hG
  have N1 : NmC E.2.2.2.1 v (bNode b 47 0 0 0) GF E := NmC_fr p9 (Frm_node (e := 0)) (Nat.le_refl _)
  obtain ⟨⟨a1, a2, a3, a4, a5, a6, a7, a8⟩, hF, hL, hlt, _⟩ := ex_of (GF := GF) hT u1.2.1 p2 (show o + 1 ≤ 20 by omega) (by rw [bNode_1]; omega) (by rw [bNode_p]; omega) (by rw [bNode_1]; omega) p8 N1 g1
  have a4 : t.2.1 ≤ 60 := by omega
  rw [bNode_1] at a5 a6 hL
  rw [bNode_p] at a7 a8
  obtain ⟨w1, w2, hG⟩ := hW_s hG
  have u2 := tkN_b T n t.1 a2
  obtain ⟨z, g3, hG⟩ := hb_s hG
  have fS : Frm E.2.2.2.1 v b 0 (bSet t.2.2.2.2.1 5 b.1 (nI t.2.2.2.1)) := Frm_set8 (Nat.le_refl _) (Frm_tr (Frm_node (vv := v)) hF (Nat.le_refl _) (Or.inl rfl))
  have P2 : PrZ n FN GF E (o + 1) (tkN T n t.1) t.2.1 (bSet t.2.2.2.2.1 5 b.1 (nI t.2.2.2.1)) s (d + 1) := ⟨u2.2.1, a4, by omega, by rw [bSet_1]; omega, by rw [bSet_p]; omega, by rw [bSet_1]; omega, p7, p8, NmC_fr p9 fS a3, p10, by omega⟩
  have B := H0 E (lp + 1) (o + 1) (tkN T n t.1) t.2.1 (nI b.1) 0 0 _ s z (d + 1) P2 (by rw [bSet_1]; omega) (fun z => absurd rfl z) g3
  obtain ⟨⟨n1, n2, n3, n4, n5, n6, n7, n8, n9, n10⟩, _⟩ := gs_mo f 0 E (lp + 1) (o + 1) (tkN T n t.1) t.2.1 (nI b.1) 0 0 _ s z 1 (by decide) u2.2.1 a4 p7 g3 (Nat.le_refl 1) (by rw [bSet_1]; omega) (fun _ z => absurd rfl z) (fun z => absurd z (by decide))
  obtain ⟨q3, y1, y2, hG⟩ := hE_mo n2 hG
  cases hG
  exact RIn_w p6 (by omega) (by omega) (by omega) a3 n3 (by omega) (by omega) hF hL B
/-- fors -/
theorem xf5_s (hT : ∀ i, i < n → ∃ d, d ≤ 300 ∧ T i = nI d) (H0 : XB0 T n FN GF MD f) : XIn T n FN GF MD 5 45 (f + 1) := by
  intro E lp o q v b s r d hP ho hk hG
  obtain ⟨p1, p2, p3, p4, p5, p6, p7, p8, p9, p10, p11⟩ := id hP
  simp only [GS] at hG
  obtain ⟨_, hG⟩ := hT_s hG
  have u1 := tkN_b T n q p1
  have u1' := u1.2.2.2 (by rw [hk]; decide)
  obtain ⟨t, g1, hG⟩ := lb_s hG
  have x4 := (g_mono T n f 17 E (o + 1) _ v 0 0 _ 1 (bNode b 48 0 (-1) 0) t u1.2.1 p2 g1 1 (by rw [bNode_1]; omega) (Nat.le_refl 1) (Or.inl rfl)).1
  obtain ⟨a1, a2, a3, a4, a5, a6, a7, a8⟩ := (x4 : Mo n _ _ _ t)
  have a4 : t.2.1 ≤ 60 := by omega
  rw [bNode_1] at a5 a6
  rw [bNode_p] at a7 a8
  have y4 := g_tree (FN := FN) hT f 17 E (o + 1) _ v 0 0 _ 1 (bNode b 48 0 (-1) 0) t 0 _ _ u1.2.1 p2 (show o + 1 ≤ 20 by omega) (by rw [bNode_1]; omega) (by rw [bNode_p]; omega) (by rw [bNode_1]; omega) p8 g1 (Or.inl ⟨rfl, rfl, rfl⟩)
  obtain ⟨hF, hns, ht1, m, hm, hIt⟩ := (y4 : Frm E.2.2.2.1 v (bNode b 48 0 (-1) 0) 0 t.2.2.2.2.1 ∧ (∀ x ∈ t.2.2.2.2.2, x.2.2 < 60) ∧ 1 ≤ t.2.2.2.1 ∧ ∃ m, m + 1 + (60 - t.2.1) ≤ 60 - v ∧ ∀ T', Agr T' E.2.2.2.1 t.2.1 t.2.2.2.2.1 (b.1 + 1) 0 → ∃ el, LSe (PJ FN (eFl E) E.2.2.2.1 1 (20 - (o + 1)) (60 - v) T') T' m t.2.2.2.1 el ∧ T' 9 el = -1)
  have hNm := g17_n f E (o + 1) _ v 0 0 _ 1 (bNode b 48 0 (-1) 0) t g1
  have EO : EnOK FN (seeN E t.2.2.2.2.2) := EnOK_see p8 hns
  obtain ⟨b4, b5, b6, b7, b8, b9⟩ := nd_t (b := b) (k := 48) (x := 0) (y := -1) (z := 0)
  have at0 : ∀ a, t.2.2.2.2.1.2.2.1 a b.1 = (bNode b 48 0 (-1) 0).2.2.1 a b.1 := fun a => hF.2.2.1 a b.1 (Nat.lt_succ_self _) (by omega)
  have fS : Frm E.2.2.2.1 v b 0 (bSet t.2.2.2.2.1 5 b.1 (nI t.2.2.2.1)) := Frm_set8 (Nat.le_refl _) (Frm_tr (Frm_node (vv := v)) hF (Nat.le_refl _) (Or.inl rfl))
  have NS : NmC E.2.2.2.1 t.2.1 (bSet t.2.2.2.2.1 5 b.1 (nI t.2.2.2.1)) GF (seeN E t.2.2.2.2.2) := by
    refine ⟨fun x hx => ?_, p9.2⟩
    rcases List.mem_append.mp (show x ∈ t.2.2.2.2.2 ++ E.2.1 from hx) with z | z
    · exact ⟨(hNm x z).1, hns x z, (hNm x z).2⟩
    · exact (NmC_fr p9 fS a3).1 x z
  obtain ⟨c, g2, hG⟩ := hb_s hG
  -- what is told of the iterators and of the condition
  have hC : ∃ (cb : BT) (cv : Nat), c.2.2.2.2.1 = cb ∧ c.2.1 = cv ∧ (tkN T n q ≤ c.1 ∧ c.1 ≤ n ∧ t.2.1 ≤ cv ∧ cv ≤ 60 ∧ cb.1 + tkN T n q ≤ b.1 + 1 + c.1 ∧ cb.2.1 + tkN T n q ≤ b.2.1 + c.1) ∧ Frm E.2.2.2.1 v b 0 cb ∧ b.1 < cb.1 ∧ cb.2.2.1 4 b.1 = 48 ∧ cb.2.2.1 9 b.1 = -1 ∧ cb.2.2.1 5 b.1 = nI t.2.2.2.1 ∧ (∀ T', Agr T' E.2.2.2.1 cv cb (b.1 + 1) 0 → Agr T' E.2.2.2.1 t.2.1 t.2.2.2.2.1 (b.1 + 1) 0) ∧ (∀ T', Agr T' E.2.2.2.1 cv cb (b.1 + 1) 0 → (cb.2.2.1 6 b.1 = -1 ∨ Wx0 T' FN (lcU E.2.2.2.1 T') (cb.2.2.1 6 b.1))) ∧ NmC E.2.2.2.1 cv cb GF (seeN E t.2.2.2.2.2) := by
    by_cases k15 : tkK T n t.1 = 15
    · rw [if_pos k15] at g2
      obtain ⟨_, g2⟩ := hT_s g2
      have u2 := tkN_b T n t.1 a2
      obtain ⟨w, g3, g2⟩ := lb_s g2
      obtain ⟨⟨e1, e2, e3, e4, e5, e6, e7, e8⟩, hF2, hL2, hlt2, _⟩ := ex_of (E := seeN E t.2.2.2.2.2) (GF := GF) hT u2.2.1 a4 (show o + 1 ≤ 20 by omega) (by rw [bSet_1]; omega) (by rw [bSet_p]; omega) (by rw [bSet_1]; omega) EO NS g3
      have e4 : w.2.1 ≤ 60 := by omega
      rw [bSet_1] at e5 e6
      rw [bSet_p] at e7 e8
      have at2 : ∀ a, w.2.2.2.2.1.2.2.1 a b.1 = (bSet t.2.2.2.2.1 5 b.1 (nI t.2.2.2.1)).2.2.1 a b.1 := fun a => hF2.2.2.1 a b.1 (show b.1 < t.2.2.2.2.1.1 by omega) (by omega)
      cases g2
      refine ⟨_, _, rfl, rfl, ⟨by show _ ≤ w.1; omega, e2, e3, e4, by show w.2.2.2.2.1.1 + _ ≤ b.1 + 1 + w.1; omega, by show w.2.2.2.2.1.2.1 + _ ≤ b.2.1 + w.1; omega⟩, Frm_set8 (Nat.le_refl _) (Frm_tr fS hF2 a3 (Or.inl rfl)), by show b.1 < w.2.2.2.2.1.1; omega, ?_, ?_, ?_, fun T' hA => ?_, fun T' hA => ?_, (NmC_fr NS hF2 e3 : NmC E.2.2.2.1 w.2.1 w.2.2.2.2.1 GF (seeN E t.2.2.2.2.2))⟩
      · rw [bSet_o (by omega), at2, bSet_o (by omega), at0, b4]
      · rw [bSet_o (by omega), at2, bSet_o (by omega), at0, b9]
      · rw [bSet_o (by omega), at2, bSet_s]
      · exact Agr_st (Agr_g (Agr_st hA (Nat.lt_succ_self _)) hF2 e3 (by omega) (Nat.le_refl _) (Or.inl (by omega)) (Or.inl rfl)) (Nat.lt_succ_self _)
      · refine Or.inr ?_
        rw [bSet_s]
        have l9 := hL2.2.1
        rw [bSet_1] at l9
        exact Wx_of (by omega) (by omega) (by decide) (hL2.2.2.2.2 T' (Agr_g (top' := w.2.2.2.1) (Agr_up (Agr_st hA (Nat.lt_succ_self _)) (show b.1 + 1 ≤ (bSet t.2.2.2.2.1 5 b.1 (nI t.2.2.2.1)).1 from a5)) (Frm_rf (e := 0)) (Nat.le_refl _) (by rw [bSet_1]; omega) (Nat.le_refl _) (Or.inl (by rw [bSet_1]; omega)) (Or.inr (Or.inr rfl))))
    · rw [if_neg k15] at g2
      cases g2
      refine ⟨_, _, rfl, rfl, ⟨a1, a2, Nat.le_refl _, a4, by show t.2.2.2.2.1.1 + _ ≤ b.1 + 1 + t.1; omega, by show t.2.2.2.2.1.2.1 + _ ≤ b.2.1 + t.1; omega⟩, fS, by show b.1 < t.2.2.2.2.1.1; omega, ?_, ?_, ?_, fun T' hA => Agr_st hA (Nat.lt_succ_self _), fun T' hA => Or.inl ?_, NS⟩
      · rw [bSet_o (by omega), at0, b4]
      · rw [bSet_o (by omega), at0, b9]
      · rw [bSet_s]
      · rw [bSet_o (by omega), at0, b6]
  obtain ⟨cb, cv, ecb, ecv, ⟨c1, c2, c3, c4, c5, c6⟩, cF, clt, c4', c9, c50, cA, cC, cN⟩ := hC
  rw [ecb, ecv] at hG
  obtain ⟨w1, w2, hG⟩ := hW_s hG
  have u3 := tkN_b T n c.1 c2
  obtain ⟨z, g3, hG⟩ := hb_s hG
  have P2 : PrZ n FN GF (seeN E t.2.2.2.2.2) (o + 1) (tkN T n c.1) cv cb s (d + 1) := ⟨u3.2.1, c4, by omega, by omega, by omega, by omega, p7, EO, cN, p10, by omega⟩
  have B := H0 (seeN E t.2.2.2.2.2) (lp + 1) (o + 1) (tkN T n c.1) cv (nI b.1) 0 0 _ s z (d + 1) P2 (by omega) (fun z => absurd rfl z) g3
  obtain ⟨⟨n1, n2, n3, n4, n5, n6, n7, n8, n9, n10⟩, _⟩ := gs_mo f 0 (seeN E t.2.2.2.2.2) (lp + 1) (o + 1) (tkN T n c.1) cv (nI b.1) 0 0 _ s z 1 (by decide) u3.2.1 c4 p7 g3 (Nat.le_refl 1) (by omega) (fun _ z => absurd rfl z) (fun z => absurd z (by decide))
  obtain ⟨q3, y1, y2, hG⟩ := hE_mo n2 hG
  cases hG
  refine RIn_f (k := m + 1) rfl (fun _ _ _ _ h => h) p6 (by omega) (by omega) (by omega) (by omega) c4 n3 (by omega) (by omega) cF clt c4' c9 (fun T' hA => ?_) cC B
  obtain ⟨el, h1, h2⟩ := hIt T' (cA T' hA)
  have := LS_I (by omega) (by omega) m 0 t.2.2.2.1 el h1 (by rw [h2]; rfl)
  rw [c50]
  rw [Nat.zero_add] at this
  exact this
/-- all of them -/
theorem x_all (hn : n ≤ 32768) (hT : ∀ i, i < n → ∃ d, d ≤ 300 ∧ T i = nI d) : ∀ f, XB0 T n FN GF MD f ∧ XS1 T n FN GF MD f ∧ XIn T n FN GF MD 2 39 f ∧ XB3 T n FN GF MD f ∧ XIn T n FN GF MD 4 43 f ∧ XIn T n FN GF MD 5 45 f := by
  intro f
  induction f with
  | zero =>
    refine ⟨fun E lp o q v pe i l b s r d _ _ _ hG => ?_, fun E lp o q v b s r d _ hG => ?_, fun E lp o q v b s r d _ _ _ hG => ?_, fun E lp o q v i l b s r d v0 _ _ _ _ hG => ?_, fun E lp o q v b s r d _ _ _ hG => ?_, fun E lp o q v b s r d _ _ _ hG => ?_⟩ <;> (simp only [GS] at hG; cases hG)
  | succ f ih =>
    obtain ⟨h0, h1, h2, h3, h4, h5⟩ := ih
    exact ⟨xb0_s h1 h0, xs1_s hn hT h2 h4 h5, xi2_s h0 h3, xb3_s hT h0 h3, xw4_s hT h0, xf5_s hT h0⟩
end GSX

/-! Evaluation on both sides (reference): variables are bound, cleared. -/
section EBI
variable {T : Nat → Nat → Int32} {FN : Nat → Nat → Prop} {O r K d t u w XC : Nat} {lc : Nat → Prop} {σ1 σ2 τ1 τ2 : MS}
theorem RtP_b {σ τ : MS} (h63 : τ.1 63 = σ.1 63) (h72 : τ.1 72 = σ.1 72) (h1 : τ.2.2 30 1 = σ.2.2 30 1) (h3 : τ.2.2 30 3 = σ.2.2 30 3) (h31 : τ.2.2 31 = σ.2.2 31) (a i : Nat) : RtP t τ a i ↔ RtP t σ a i := by
  unfold RtP StI
  rw [h63, h72, h31, show (0 + 1) = 1 from rfl, show (0 + 3) = 3 from rfl, h1, h3]
theorem RtQ_b {σ τ : MS} (h63 : τ.1 63 = σ.1 63) (h72 : τ.1 72 = σ.1 72) (h1 : τ.2.2 30 1 = σ.2.2 30 1) (h3 : τ.2.2 30 3 = σ.2.2 30 3) (h31 : τ.2.2 31 = σ.2.2 31) (hQ : RtQ σ) : RtQ τ := by
  obtain ⟨P, e, q1, q2, q3, q4, ⟨c, n, c1, c2, n1, n2⟩, q6⟩ := hQ
  refine ⟨P, e, h63.trans q1, q2, h72.trans q3, q4, ⟨c, n, ?_, c2, ?_, n2⟩, by rw [h31]; exact q6⟩
  · show τ.2.2 30 1 = _
    rw [h1]; exact c1
  · show τ.2.2 30 3 = _
    rw [h3]; exact n1
/-- a place for a value, of globals, locals or frames -/
def PlV (a i : Nat) : Prop := (a = 30 ∧ 4 ≤ i ∧ i < 3214 ∧ ¬ (64 ≤ i ∧ i < 214)) ∨ (a = 33 ∧ i < 1380)
theorem PlV_n {a i : Nat} (h : PlV a i) : a ≠ 28 ∧ a ≠ 29 ∧ a ≠ 31 ∧ a ≠ 34 ∧ a ≠ 35 ∧ a ≠ 2 ∧ (a = 30 → i ≠ 1 ∧ i ≠ 3) := by unfold PlV at h; omega
theorem PlV_z {a i : Nat} (h : PlV a i) : Zn a i ∧ (a = 30 ∨ a = 33) := by unfold PlV at h; unfold Zn; omega
theorem FE_bd {N : Nat → Nat → Prop} {σ : MS} {a i : Nat} {x : Int32} (h : PlV a i) (hn : N a i) : FEn N σ (mAr σ a i x) := FEn_ar (PlV_z h).1 (PlV_z h).2 hn
theorem FE_b0 {σ : MS} {a i : Nat} (h : PlV a i) (hn : NU σ a i) : FE σ (mAr σ a i 0) := FE_ar0 (PlV_z h).1 (PlV_z h).2 hn
/-- the place of a name -/
def NPl (T : Nat → Nat → Int32) (σ : MS) (n a i : Nat) : Prop := ∃ s, T 6 n = nI s ∧ s < 60 ∧ ((T 5 n = 0 ∧ a = 30 ∧ i = 4 + s) ∨ (¬ T 5 n = 0 ∧ σ.1 69 = 0 ∧ a = 30 ∧ ∃ c, σ.2.2 30 1 = nI c ∧ 1 ≤ c ∧ c ≤ 50 ∧ i = 214 + 60 * (c - 1) + s) ∨ (¬ T 5 n = 0 ∧ σ.1 69 = 1 ∧ a = 33 ∧ ∃ fu, σ.1 67 = nI fu ∧ fu ≤ 20 ∧ i = fb fu + s))
theorem NPl_c {T : Nat → Nat → Int32} {σ τ : MS} {n a i : Nat} (h69 : τ.1 69 = σ.1 69) (h67 : τ.1 67 = σ.1 67) (h1 : τ.2.2 30 1 = σ.2.2 30 1) : NPl T τ n a i ↔ NPl T σ n a i := by unfold NPl; rw [h69, h67, h1]
theorem NPl_1 {T : Nat → Nat → Int32} {σ : MS} {n s a i fu a' i' : Nat} (x6 : T 6 n = nI s) (hs : s < 60) (h67 : σ.1 67 = nI fu) (hfu : fu ≤ 20) (h : (T 5 n = 0 ∧ a = 30 ∧ i = 4 + s) ∨ (¬ T 5 n = 0 ∧ σ.1 69 = 0 ∧ a = 30 ∧ ∃ c, σ.2.2 30 1 = nI c ∧ 1 ≤ c ∧ c ≤ 50 ∧ i = 214 + 60 * (c - 1) + s) ∨ (¬ T 5 n = 0 ∧ σ.1 69 = 1 ∧ a = 33 ∧ i = fb fu + s)) : NPl T σ n a' i' ↔ a' = a ∧ i' = i := by
  constructor
  · rintro ⟨s', y6, ys, y⟩
    have es : s' = s := (n_eq (by omega) (by omega)).mp (y6.symm.trans x6)
    subst es
    rcases h with ⟨z1, z2, z3⟩ | ⟨z1, z2, z3, c, c1, c2, c3, c4⟩ | ⟨z1, z2, z3, z4⟩
    · rcases y with ⟨_, y2, y3⟩ | ⟨y1, _⟩ | ⟨y1, _⟩
      · omega
      · exact absurd z1 y1
      · exact absurd z1 y1
    · rcases y with ⟨y1, _⟩ | ⟨_, _, y3, d, d1, d2, d3, d4⟩ | ⟨_, y2, _⟩
      · exact absurd y1 z1
      · have ed : d = c := (n_eq (by omega) (by omega)).mp (d1.symm.trans c1)
        omega
      · rw [z2] at y2; exact absurd y2 (by decide)
    · rcases y with ⟨y1, _⟩ | ⟨_, y2, _⟩ | ⟨_, _, y3, d, d1, d2, d3⟩
      · exact absurd y1 z1
      · rw [z2] at y2; exact absurd y2 (by decide)
      · have ed : d = fu := (n_eq (by omega) (by omega)).mp (d1.symm.trans h67)
        rw [ed] at d3
        omega
  · rintro ⟨rfl, rfl⟩
    exact ⟨s, x6, hs, h.imp id (fun z => z.imp id (fun y => ⟨y.1, y.2.1, y.2.2.1, fu, h67, hfu, y.2.2.2⟩))⟩
/-- one side: a value that could be reached is bound -/
theorem MI_bd {g : Nat → Prop} {l : List Nat} {B h X a i : Nat} {σ : MS} {x : Int32} (hM : MI t X g l B h σ) (hp : PlV a i) (hx : ∃ m, x = nI m ∧ (m < 3 ∨ Rch (σ.2.2 28) (RoS t σ) m)) : MI t X g l B h (mAr σ a i x) ∧ ∀ b j, RtP t (mAr σ a i x) b j ↔ RtP t σ b j := by
  obtain ⟨n1, n2, n3, n4, n5, n6, n7⟩ := PlV_n hp
  have r1 : (mAr σ a i x).2.2 30 1 = σ.2.2 30 1 := by
    by_cases e : a = 30
    · subst e; rw [mAr_s, upd_other (fun c => (n7 rfl).1 c.symm)]
    · rw [mAr_o (fun c => e c.symm)]
  have r3 : (mAr σ a i x).2.2 30 3 = σ.2.2 30 3 := by
    by_cases e : a = 30
    · subst e; rw [mAr_s, upd_other (fun c => (n7 rfl).2 c.symm)]
    · rw [mAr_o (fun c => e c.symm)]
  have r31 : (mAr σ a i x).2.2 31 = σ.2.2 31 := mAr_o (fun c => n3 c.symm)
  have rt : ∀ b j, RtP t (mAr σ a i x) b j ↔ RtP t σ b j := RtP_b rfl rfl r1 r3 r31
  refine ⟨MI_re hM rfl rfl (mAr_o (fun c => n1 c.symm)) (RtQ_b (σ := σ) rfl rfl r1 r3 r31 hM.2.1) (fun b j z => ?_), rt⟩
  by_cases e : b = a ∧ j = i
  · obtain ⟨e1, e2⟩ := e
    subst e1
    subst e2
    rw [mAr_s, upd_same]; exact hx
  · have : (mAr σ a i x).2.2 b j = σ.2.2 b j := by
      by_cases eb : b = a
      · subst eb; rw [mAr_s, upd_other (fun c => e ⟨rfl, c⟩)]
      · rw [mAr_o eb]
    rw [this]; exact MI_rt hM ((rt b j).mp z)
theorem InA_bd {σ : MS} {a i : Nat} {x : Int32} (hp : PlV a i) (b j : Nat) : InA (mAr σ a i x) b j ↔ InA σ b j := InA_c (σ := σ) (ρ := mAr σ a i x) rfl rfl rfl rfl rfl rfl (fun u _ => by rw [mAr_o (by unfold PlV at hp; omega)]) (fun q hq => by
    by_cases e : 30 = a
    · subst e; rw [mAr_s, upd_other (by unfold PlV at hp; omega)]
    · rw [mAr_o e]) (fun p _ q hq => by rw [mAr_o (by unfold PlV at hp; omega)]) b j
theorem EI_bd {a i : Nat} {x y : Int32} (hE : EI t w XC σ1 σ2) (hp : PlV a i) (hx : ∀ (g1 : Nat → Prop) (l1 : List Nat) (B1 h1 X1 : Nat) (g2 : Nat → Prop) (l2 : List Nat) (B2 h2 X2 : Nat), EIx t w XC σ1 σ2 g1 l1 B1 h1 X1 g2 l2 B2 h2 X2 → VC g1 g2 (σ1.2.2 28) (σ2.2.2 28) x y ∧ (∃ m, x = nI m ∧ (m < 3 ∨ Rch (σ1.2.2 28) (RoS t σ1) m)) ∧ ∃ m, y = nI m ∧ (m < 3 ∨ Rch (σ2.2.2 28) (RoS t σ2) m)) : EI t w XC (mAr σ1 a i x) (mAr σ2 a i y) := by
  obtain ⟨g1, l1, B1, h1, X1, g2, l2, B2, h2, X2, hX⟩ := hE
  obtain ⟨vc, rx, ry⟩ := hx g1 l1 B1 h1 X1 g2 l2 B2 h2 X2 hX
  obtain ⟨m1, m2, hR, i1, i2, t1, e1, e2, w1, hw, x1, x2, ⟨ty1, ty2⟩, c⟩ := hX
  obtain ⟨n1, n2, n3, n4, n5, n6, n7⟩ := PlV_n hp
  obtain ⟨k1, rt1⟩ := MI_bd m1 hp rx
  obtain ⟨k2, rt2⟩ := MI_bd m2 hp ry
  have o1 : ∀ b, b ≠ a → (mAr σ1 a i x).2.2 b = σ1.2.2 b := fun b hb => mAr_o hb
  have o2 : ∀ b, b ≠ a → (mAr σ2 a i y).2.2 b = σ2.2.2 b := fun b hb => mAr_o hb
  refine ⟨g1, l1, B1, h1, X1, g2, l2, B2, h2, X2, k1, k2, ⟨fun b j z hv => ?_, fun b j hb hz hn => ?_, hR.2.2.1, hR.2.2.2⟩, IT_c (σ := σ1) rfl (o1 34 (fun c => n4 c.symm)) (o1 35 (fun c => n5 c.symm)) (o1 28 (fun c => n1 c.symm)) i1, IT_c (σ := σ2) rfl (o2 34 (fun c => n4 c.symm)) (o2 35 (fun c => n5 c.symm)) (o2 28 (fun c => n1 c.symm)) i2, t1, e1, e2, w1, hw, x1, x2, ⟨by rw [o1 2 (fun c => n6 c.symm)]; exact ty1, by rw [o1 2 (fun c => n6 c.symm), o2 2 (fun c => n6 c.symm)]; exact ty2⟩, c⟩
  · rw [o1 28 (fun c => n1 c.symm), o2 28 (fun c => n1 c.symm)]
    have z := (rt1 b j).mp z
    by_cases e : b = a ∧ j = i
    · obtain ⟨eb, ej⟩ := e
      subst eb
      subst ej
      rw [mAr_s, mAr_s, upd_same, upd_same]; exact vc
    · have q1 : (mAr σ1 a i x).2.2 b j = σ1.2.2 b j := by
        by_cases eb : b = a
        · subst eb; rw [mAr_s, upd_other (fun c => e ⟨rfl, c⟩)]
        · rw [mAr_o eb]
      have q2 : (mAr σ2 a i y).2.2 b j = σ2.2.2 b j := by
        by_cases eb : b = a
        · subst eb; rw [mAr_s, upd_other (fun c => e ⟨rfl, c⟩)]
        · rw [mAr_o eb]
      rw [q1, q2]; exact hR.1 b j z hv
  · have f1 := (FE_bd (N := fun _ _ => True) (σ := σ1) (x := x) hp trivial).2.1 b j hb hz
    have f2 := (FE_bd (N := fun _ _ => True) (σ := σ2) (x := y) hp trivial).2.1 b j hb hz
    have e : ¬ (b = a ∧ j = i) := by
      intro q
      obtain ⟨eb, ej⟩ := q
      subst eb
      subst ej
      unfold PlV at hp
      unfold Zn at hz
      omega
    have q1 : (mAr σ1 a i x).2.2 b j = σ1.2.2 b j := by
      by_cases eb : b = a
      · subst eb; rw [mAr_s, upd_other (fun c => e ⟨rfl, c⟩)]
      · rw [mAr_o eb]
    have q2 : (mAr σ2 a i y).2.2 b j = σ2.2.2 b j := by
      by_cases eb : b = a
      · subst eb; rw [mAr_s, upd_other (fun c => e ⟨rfl, c⟩)]
      · rw [mAr_o eb]
    rw [q1, q2]; exact hR.2.1 b j hb hz (fun z => hn ((InA_bd hp b j).mpr z))
/-- om is bound -/
theorem EI_bd0 {a i : Nat} (hE : EI t w XC σ1 σ2) (hp : PlV a i) : EI t w XC (mAr σ1 a i 0) (mAr σ2 a i 0) := EI_bd hE hp (fun g1 l1 B1 h1 X1 g2 l2 B2 h2 X2 _ => ⟨VC_00, ⟨0, rfl, Or.inl (by decide)⟩, ⟨0, rfl, Or.inl (by decide)⟩⟩)
/-- with an error too -/
theorem EZ_bd0 {a b c i : Nat} {σ : MS} (h : EZ a b σ) (hp : PlV c i) : EZ a b (mAr σ c i 0) := by
  obtain ⟨g, l, B, h', t, m, c1, c2⟩ := h
  exact ⟨g, l, B, h', t, (MI_bd m hp ⟨0, rfl, Or.inl (by decide)⟩).1, c1, c2⟩
/-- where a name is bound: one place, as the state has it -/
theorem s_bindOne {σ : MS} {n s fu dp e : Nat} (hS : STb T FN σ) (hC : Cx lc fu dp e σ) (hn : (1 ≤ n ∧ n < LNo T % 70001)) (x6 : T 6 n = nI s) (hs : s < 60) (x5 : T 5 n = 0 ∨ lc 0) : ∃ a i, PlV a i ∧ ((T 5 n = 0 ∧ a = 30 ∧ i = 4 + s) ∨ (¬ T 5 n = 0 ∧ σ.1 69 = 0 ∧ a = 30 ∧ ∃ c, σ.2.2 30 1 = nI c ∧ 1 ≤ c ∧ c ≤ 50 ∧ i = 214 + 60 * (c - 1) + s) ∨ (¬ T 5 n = 0 ∧ σ.1 69 = 1 ∧ a = 33 ∧ i = fb fu + s)) ∧ ∀ L : Nat → Int32, L 1 = nI n → Tm (fun k => x_bindOne k 0 L σ) (fun r => r = (0, mAr σ a i (L 2))) := by
  obtain ⟨c67, cfu, _, _, _, ⟨c, c1, c2, c3⟩, c4⟩ := hC
  have hfb := fb_le cfu
  have hin : ¬ (nI n < 0 ∨ 70000 ≤ (nI n).toNatClampNeg) := n_in (by omega) (by omega)
  have b3 : ∀ (τ : MS) (N : Nat → Int32), Tm (fun k => x_bindOne k 3 N τ) (fun r => r = (0, τ)) := fun τ N => by
    refine Tm_suc (fun k => by rw [x_bindOne]) ?_
    exact Tm_some rfl
  by_cases z5 : T 5 n = 0
  · refine ⟨30, 4 + s, Or.inl ⟨rfl, by omega, by omega, by omega⟩, Or.inl ⟨z5, rfl, rfl⟩, fun L d1 => ?_⟩
    refine Tm_suc (fun k => by rw [x_bindOne]) ?_
    rw [d1]
    refine Tm_chk hin ?_
    rw [n_cl (p := n) (by omega), hS.1 5 _ (by omega) (by omega) (by omega), hS.1 6 _ (by omega) (by omega) (by omega), x6, show (4 : Int32) + nI s = nI (4 + s) from n_add (p := 4) (by omega)]
    refine Tm_ite (fun _ => ?_) (fun z => absurd z5 z)
    refine Tm_chk (n_in3 (by omega) (by omega)) ?_
    refine Tm_chk (n_in (by omega) (by omega)) ?_
    rw [n_cl (p := 4 + s) (by omega)]
    exact b3 (mAr σ 30 (4 + s) (L 2)) L
  have hlc : lc 0 := x5.resolve_left z5
  rcases c4 with z69 | ⟨z69, z68⟩
  · have hc1 : 1 ≤ c := by
      rcases c3.1 hlc with y | y
      · rw [y] at z69; exact absurd z69 (by decide)
      · exact y.2
    refine ⟨30, 214 + 60 * (c - 1) + s, Or.inl ⟨rfl, by omega, by omega, by omega⟩, Or.inr (Or.inl ⟨z5, z69, rfl, c, c1, hc1, c2, rfl⟩), fun L d1 => ?_⟩
    refine Tm_suc (fun k => by rw [x_bindOne]) ?_
    rw [d1]
    refine Tm_chk hin ?_
    rw [n_cl (p := n) (by omega), hS.1 5 _ (by omega) (by omega) (by omega)]
    refine Tm_ite (fun z => absurd z z5) (fun _ => ?_)
    refine Tm_suc (fun k => by rw [x_bindOne]) ?_
    rw [z69]
    refine Tm_ite (fun _ => ?_) (fun z => absurd rfl z)
    refine Tm_suc (fun k => by rw [x_bindOne]) ?_
    rw [d1, show (1 : Int32).toNatClampNeg = 1 from by decide, c1]
    refine Tm_chk (by decide) ?_
    refine Tm_chk hin ?_
    rw [n_cl (p := n) (by omega), hS.1 6 _ (by omega) (by omega) (by omega), x6, show nI c - 1 = nI (c - 1) from n_sub (p := c) (q := 1) (by omega) hc1, show (60 : Int32) * nI (c - 1) = nI (60 * (c - 1)) from n_mulN 60 (c - 1), show (214 : Int32) + nI (60 * (c - 1)) = nI (214 + 60 * (c - 1)) from n_add (p := 214) (by omega), n_add (p := 214 + 60 * (c - 1)) (by omega)]
    refine Tm_chk (n_in (by omega) (by omega)) ?_
    rw [n_cl (p := 214 + 60 * (c - 1) + s) (by omega)]
    exact b3 (mAr σ 30 (214 + 60 * (c - 1) + s) (L 2)) L
  · refine ⟨33, fb fu + s, Or.inr ⟨rfl, by omega⟩, Or.inr (Or.inr ⟨z5, z69, rfl, rfl⟩), fun L d1 => ?_⟩
    refine Tm_suc (fun k => by rw [x_bindOne]) ?_
    rw [d1]
    refine Tm_chk hin ?_
    rw [n_cl (p := n) (by omega), hS.1 5 _ (by omega) (by omega) (by omega)]
    refine Tm_ite (fun z => absurd z z5) (fun _ => ?_)
    refine Tm_suc (fun k => by rw [x_bindOne]) ?_
    rw [z69, d1, z68]
    refine Tm_ite (fun z => absurd z (by decide)) (fun _ => ?_)
    refine Tm_chk hin ?_
    rw [n_cl (p := n) (by omega), hS.1 6 _ (by omega) (by omega) (by omega), x6, n_add (p := fb fu) (by omega)]
    refine Tm_chk (n_in (by omega) (by omega)) ?_
    rw [n_cl (p := fb fu + s) (by omega)]
    exact b3 (mAr σ 33 (fb fu + s) (L 2)) L
/-- on both sides: the same place -/
theorem E_bnd {n s fu dp e : Nat} (hS1 : STb T FN σ1) (hE : EI t w XC σ1 σ2) (hC : Cx lc fu dp e σ1) (hn : (1 ≤ n ∧ n < LNo T % 70001)) (x6 : T 6 n = nI s) (hs : s < 60) (x5 : T 5 n = 0 ∨ lc 0) : ∃ a i, PlV a i ∧ (∀ a2 i2, NPl T σ1 n a2 i2 ↔ a2 = a ∧ i2 = i) ∧ ∀ L1 L2 : Nat → Int32, L1 1 = nI n → L2 1 = nI n → T2 (fun k => x_bindOne k 0 L1 σ1) (fun k => x_bindOne k 0 L2 σ2) (fun r1 r2 => r1 = (0, mAr σ1 a i (L1 2)) ∧ r2 = (0, mAr σ2 a i (L2 2))) := by
  have hS2 := EI_ST hE hS1
  obtain ⟨g1, l1, B1, h1, X1, g2, l2, B2, h2, X2, hX⟩ := hE
  have hR := hX.2.2.1
  have hC2 := Cx_ra hR hC
  have a69 : σ2.1 69 = σ1.1 69 := (hR.2.2.1 69 (by unfold AlS; omega)).symm
  have b1 : σ2.2.2 30 1 = σ1.2.2 30 1 := (hR.2.1 30 1 (by unfold AlR; omega) (by unfold Zn; omega) (InA_4 (by omega))).symm
  obtain ⟨a, i, p1, p2, p3⟩ := s_bindOne hS1 hC hn x6 hs x5
  obtain ⟨a', i', q1, q2, q3⟩ := s_bindOne hS2 hC2 hn x6 hs x5
  have same : a' = a ∧ i' = i := by
    rcases p2 with ⟨y1, y2, y3⟩ | ⟨y1, y2, y3, c, c1, c2, c3, c4⟩ | ⟨y1, y2, y3, y4⟩
    · rcases q2 with ⟨z1, z2, z3⟩ | ⟨z1, _⟩ | ⟨z1, _⟩
      · omega
      · exact absurd y1 z1
      · exact absurd y1 z1
    · rcases q2 with ⟨z1, _⟩ | ⟨z1, z2, z3, c', d1, d2, d3, d4⟩ | ⟨z1, z2, _⟩
      · exact absurd z1 y1
      · have : c' = c := (n_eq (by omega) (by omega)).mp (d1.symm.trans (b1.trans c1))
        subst this
        omega
      · rw [a69, y2] at z2; exact absurd z2 (by decide)
    · rcases q2 with ⟨z1, _⟩ | ⟨z1, z2, _⟩ | ⟨z1, z2, z3, z4⟩
      · exact absurd z1 y1
      · rw [a69, y2] at z2; exact absurd z2 (by decide)
      · omega
  obtain ⟨s1, s2⟩ := same
  subst s1
  subst s2
  exact ⟨a', i', p1, fun a2 i2 => NPl_1 x6 hs hC.1 hC.2.1 p2, fun L1 L2 d1 d2 => T2_t (p3 L1 d1) (q3 L2 d2)⟩
/-- a name that doesn't count -/
theorem NPl_NU {σ : MS} {n s fu dp e a i : Nat} (hC : Cx lc fu dp e σ) (x6 : T 6 n = nI s) (hs : s < 60) (hl : lc (if T 5 n = 0 then 1 + s else 61 + s)) (h : NPl T σ n a i) : NU σ a i := by
  obtain ⟨_, _, _, _, _, ⟨c, c1, c2, _, c4⟩, _⟩ := hC
  obtain ⟨s', y6, ys, y⟩ := h
  have es : s' = s := (n_eq (by omega) (by omega)).mp (y6.symm.trans x6)
  subst es
  rcases y with ⟨z5, rfl, rfl⟩ | ⟨z5, z69, rfl, c', d1, d2, d3, rfl⟩ | ⟨_, _, z, _⟩
  · rw [if_pos z5] at hl
    exact Or.inr ⟨rfl, Or.inl ⟨by omega, by omega, by rw [Nat.add_sub_cancel_left]; exact c4.1 s' hs hl⟩⟩
  · rw [if_neg z5] at hl
    have ec : c' = c := (n_eq (by omega) (by omega)).mp (d1.symm.trans c1)
    subst ec
    refine Or.inr ⟨rfl, Or.inr ⟨by omega, by omega, ?_⟩⟩
    rw [show (214 + 60 * (c' - 1) + s' - 214) / 60 = c' - 1 by omega, show (214 + 60 * (c' - 1) + s' - 214) % 60 = s' by omega]
    exact c4.2 s' hs hl z69 d2
  · exact Or.inl z
end EBI

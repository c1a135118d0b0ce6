/-! Evaluation on both sides (reference): numbers, strings, atoms, variables, single operations, conditions, ranges. -/
/-- owed: all good wholes have good signs -/
def SGN : Prop := ∀ (g : Nat → Prop) (l : List Nat) (B h : Nat) (σ : MS), HS g l B h σ → ∀ a p, g a → kdN (σ.2.2 28) a = 2 → Wh σ a p → SgOK (σ.2.2 28) a p
theorem SGN_t : SGN := fun _ _ _ _ _ _ _ _ _ _ hW => hW.2.2.2.2.2
section EBG
variable {T : Nat → Nat → Int32} {FN : Nat → Nat → Prop} {O r K d t w XC : Nat} {lc : Nat → Prop} {σ1 σ2 : MS}
theorem EQ_mo {b b' : Nat} {r1 r2 : Int32 × MS} (h : EQ b t w XC σ1 σ2 r1 r2) (hb : b ≤ b') : EQ b' t w XC σ1 σ2 r1 r2 := ⟨h.1, h.2.1, h.2.2.imp id (fun z => ⟨EZ_mo z.1 (Nat.le_refl _) hb, EZ_mo z.2 (Nat.le_refl _) hb⟩)⟩
/-- behind an answer -/
theorem EQ_ans {b : Nat} {ρ1 ρ2 : MS} {w' : Nat} {v1 v2 : Int32 × MS} (f1 : FE σ1 ρ1) (f2 : FE σ2 ρ2) (hw : w ≤ w') (hb : t + 2001 ≤ b) (k1 : FE ρ1 v1.2) (k2 : FE ρ2 v2.2) (h : (∃ w2, w' ≤ w2 ∧ EI (t + 1) w2 XC v1.2 v2.2) ∨ (EZ t (t + 2001) v1.2 ∧ EZ t (t + 2001) v2.2)) : EQ b t w XC σ1 σ2 (0, v1.2) (0, v2.2) := by
  refine ⟨FE_tr f1 k1, FE_tr f2 k2, ?_⟩
  rcases h with ⟨w2, hw2, h⟩ | ⟨h1, h2⟩
  · exact Or.inl ⟨w2, by omega, h⟩
  · exact Or.inr ⟨EZ_mo h1 (Nat.le_refl _) hb, EZ_mo h2 (Nat.le_refl _) hb⟩
/-- sweep, an operation, its answer -/
theorem E_sop {b KK : Nat} {Y1 Y2 : Nat → MS → Option (Int32 × MS)} (hXC : XC ≤ 408500) (ht : t ≤ 176000 ∧ KK ≤ 71000) (hb : t + 2001 ≤ b) (hI : EI t w XC σ1 σ2) (hv : ∀ (ρ1 ρ2 : MS) (g1 : Nat → Prop) (l1 : List Nat) (B1 h1 X1 : Nat) (g2 : Nat → Prop) (l2 : List Nat) (B2 h2 X2 : Nat), FE σ1 ρ1 → FE σ2 ρ2 → EIx t w XC ρ1 ρ2 g1 l1 B1 h1 X1 g2 l2 B2 h2 X2 → h1 + 79900 ≤ B1 + 870000 → h2 + 79900 ≤ B2 + 870000 → VP g1 l1 B1 h1 t ρ1 → VP g2 l2 B2 h2 t ρ2 → Tm (fun k => Y1 k ρ1) (VO g1 B1 h1 t ρ1) ∧ Tm (fun k => Y2 k ρ2) (VO g2 B2 h2 t ρ2) ∧ (∀ n, Pm n (fun k => Y1 k ρ1) (fun k => Y2 k ρ2) (KQ h1 h2 KK)) ∧ (∀ k, Wk (Y1 k ρ1) ρ1.2.1) ∧ (∀ k, Wk (Y2 k ρ2) ρ2.2.1)) : T2 (fun k => ob (x_sweep k 0 (upd (fun _ => 0) 1 780000) σ1) (fun r1 => ob (Y1 k r1.2) (fun r4 => ob (x_answer k 0 (upd (fun _ => 0) 1 r4.1) r4.2) (fun r5 => ob (x_push k 0 (upd (fun _ => 0) 1 r5.1) r5.2) (fun r6 => some (0, r6.2)))))) (fun k => ob (x_sweep k 0 (upd (fun _ => 0) 1 780000) σ2) (fun r1 => ob (Y2 k r1.2) (fun r4 => ob (x_answer k 0 (upd (fun _ => 0) 1 r4.1) r4.2) (fun r5 => ob (x_push k 0 (upd (fun _ => 0) 1 r5.1) r5.2) (fun r6 => some (0, r6.2)))))) (EQ b t w XC σ1 σ2) := by
  refine T2_ob (E_sw hXC (by omega) hI) (fun r1 r2 hr => ?_)
  obtain ⟨k1, k2, g1, l1, B1, h1, X1, g2, l2, B2, h2, X2, hX, rm1, rm2⟩ := hr
  have hX0 := hX
  obtain ⟨a1, a2, aR, i1, i2, t1, q1, q2, w1, hw, x1, x2, ⟨ty1, ty2⟩, a, z1, z2⟩ := hX
  have t2 : r2.2.1 59 = nI t := (aR.2.2.1 59 (by unfold AlS; omega)).symm.trans t1
  obtain ⟨p1, p2, p3, p4, p5⟩ := hv r1.2 r2.2 g1 l1 B1 h1 X1 g2 l2 B2 h2 X2 k1 k2 hX0 rm1 rm2 ⟨a1.1, t1, by omega, ⟨0, q1, by decide⟩⟩ ⟨a2.1, t2, by omega, ⟨0, q2, by decide⟩⟩
  refine T2_ob (E_op (c := 8600) hX0 p1 p2 p3 p4 p5 (by omega)) (fun s1 s2 hs => ?_)
  obtain ⟨c1, c2, c3, c4, c5⟩ := hs
  exact E_ans a1 a2 aR i1 i2 (by omega) ty1 ty2 ⟨a, c4.trans z1, z2⟩ (c4.trans ((aR.2.2.1 95 (by unfold AlS; omega)).trans c5.symm)) c1 c2 c3 (fun v1 v2 f1 f2 h => T2_some (EQ_ans k1 k2 (Nat.le_refl _) hb f1 f2 h))
theorem b_num {n p q : Nat} (hP : PC T FN O r K lc d t w XC σ1) (hI : EI t w XC σ1 σ2) (hn : (1 ≤ n ∧ n < LNo T % 70001)) (x5 : T 5 n = nI p) (x6 : T 6 n = nI q) (hq : q ≤ 60) (hpq : p + q ≤ LPo T % 70001) (hd : ∀ i, i < q → ∃ c, c ≤ 300 ∧ T 12 (p + i) = nI c) {b e : Nat} (hb : 178000 ≤ b) {L1 L2 : Nat → Int32} (d1 : L1 1 = nI n) (d2 : L2 1 = nI n) : T2 (fun k => x_GV k e 0 2 L1 σ1) (fun k => x_GV k e 0 2 L2 σ2) (EQ b t w XC σ1 σ2) := by
  have ht := PC_t hP
  have hS1 := hP.1
  have hS2 := EI_ST hI hS1
  refine T2_suc (fun k => e_begins_2 k _ _ _) (fun k => e_begins_2 k _ _ _) ?_
  rw [d1, d2]
  have hin : ¬ (nI n < 0 ∨ 70000 ≤ (nI n).toNatClampNeg) := n_in (by omega) (by omega)
  have key := E_sop (KK := 70) (Y1 := fun k (ρ : MS) => if ¬ (nI n < 0 ∨ 70000 ≤ (nI n).toNatClampNeg) then (if ¬ (nI n < 0 ∨ 70000 ≤ (nI n).toNatClampNeg) then x_literal k 0 (upd (upd (fun _ => 0) 1 (ρ.2.2 5 (nI n).toNatClampNeg)) 2 (ρ.2.2 6 (nI n).toNatClampNeg)) ρ else none) else none) (Y2 := fun k (ρ : MS) => if ¬ (nI n < 0 ∨ 70000 ≤ (nI n).toNatClampNeg) then (if ¬ (nI n < 0 ∨ 70000 ≤ (nI n).toNatClampNeg) then x_literal k 0 (upd (upd (fun _ => 0) 1 (ρ.2.2 5 (nI n).toNatClampNeg)) 2 (ρ.2.2 6 (nI n).toNatClampNeg)) ρ else none) else none) hP.2.1 (by omega) (show t + 2001 ≤ b by omega) hI (fun ρ1 ρ2 g1 l1 B1 h1 X1 g2 l2 B2 h2 X2 f1 f2 hX rm1 rm2 P1 P2 => by
    have s1 := STb_fe hS1 f1
    have s2 := STb_fe hS2 f2
    simp only [if_pos hin]
    rw [n_cl (p := n) (by omega), s1.1 5 _ (by omega) (by omega) (by omega), s1.1 6 _ (by omega) (by omega) (by omega), s2.1 5 _ (by omega) (by omega) (by omega), s2.1 6 _ (by omega) (by omega) (by omega), x5, x6]
    have dg1 : ∀ i, i < q → ∃ c, c ≤ 300 ∧ ρ1.2.2 12 (p + i) = nI c := fun i hi => by rw [s1.2.2.1 _ (by omega)]; exact hd i hi
    have dg2 : ∀ i, i < q → ∃ c, c ≤ 300 ∧ ρ2.2.2 12 (p + i) = nI c := fun i hi => by rw [s2.2.2.1 _ (by omega)]; exact hd i hi
    obtain ⟨_, _, _, _, _, _, q1, q2, _⟩ := hX
    exact ⟨s_literal P1 hq (by omega) dg1 rfl rfl, s_literal P2 hq (by omega) dg2 rfl rfl, fun n' => k_literal P1.1 P2.1 q1 q2 (by omega) (by omega) (show p + q ≤ 70000 by omega) (fun i hi => by rw [s1.2.2.1 _ (by omega), s2.2.2.1 _ (by omega)]) (fun i hi => rfl) rfl rfl, fun k => wl_literal k _ _ _, fun k => wl_literal k _ _ _⟩)
  have sim : ∀ (k : Nat) (r1 : Int32 × MS) (G : Int32 × MS → Option (Int32 × MS)), (if ¬ (nI n < 0 ∨ 70000 ≤ (nI n).toNatClampNeg) then (if ¬ (nI n < 0 ∨ 70000 ≤ (nI n).toNatClampNeg) then ob (x_literal k 0 (upd (upd (fun _ => 0) 1 (r1.2.2.2 5 (nI n).toNatClampNeg)) 2 (r1.2.2.2 6 (nI n).toNatClampNeg)) r1.2) G else none) else none) = ob (if ¬ (nI n < 0 ∨ 70000 ≤ (nI n).toNatClampNeg) then (if ¬ (nI n < 0 ∨ 70000 ≤ (nI n).toNatClampNeg) then x_literal k 0 (upd (upd (fun _ => 0) 1 (r1.2.2.2 5 (nI n).toNatClampNeg)) 2 (r1.2.2.2 6 (nI n).toNatClampNeg)) r1.2 else none) else none) G := fun k r1 G => by simp only [if_pos hin]
  simp only [sim]
  exact key
theorem b_str {n p q : Nat} (hP : PC T FN O r K lc d t w XC σ1) (hI : EI t w XC σ1 σ2) (hn : (1 ≤ n ∧ n < LNo T % 70001)) (x5 : T 5 n = nI p) (x6 : T 6 n = nI q) (hq : q ≤ 60000) (hpq : p + q ≤ 70000) (hpl : q = 0 ∨ p + q ≤ LPo T % 70001) {b e : Nat} (hb : 178000 ≤ b) {L1 L2 : Nat → Int32} (d1 : L1 1 = nI n) (d2 : L2 1 = nI n) : T2 (fun k => x_GV k e 0 3 L1 σ1) (fun k => x_GV k e 0 3 L2 σ2) (EQ b t w XC σ1 σ2) := by
  have ht := PC_t hP
  have hS1 := hP.1
  have hS2 := EI_ST hI hS1
  refine T2_suc (fun k => e_begins_3 k _ _ _) (fun k => e_begins_3 k _ _ _) ?_
  rw [d1, d2]
  have hin : ¬ (nI n < 0 ∨ 70000 ≤ (nI n).toNatClampNeg) := n_in (by omega) (by omega)
  have key := E_sop (KK := 4004) (Y1 := fun k (ρ : MS) => if ¬ (nI n < 0 ∨ 70000 ≤ (nI n).toNatClampNeg) then (if ¬ (nI n < 0 ∨ 70000 ≤ (nI n).toNatClampNeg) then x_stringOf__12 k 0 (upd (upd (fun _ => 0) 2 (ρ.2.2 5 (nI n).toNatClampNeg)) 3 (ρ.2.2 6 (nI n).toNatClampNeg)) ρ else none) else none) (Y2 := fun k (ρ : MS) => if ¬ (nI n < 0 ∨ 70000 ≤ (nI n).toNatClampNeg) then (if ¬ (nI n < 0 ∨ 70000 ≤ (nI n).toNatClampNeg) then x_stringOf__12 k 0 (upd (upd (fun _ => 0) 2 (ρ.2.2 5 (nI n).toNatClampNeg)) 3 (ρ.2.2 6 (nI n).toNatClampNeg)) ρ else none) else none) hP.2.1 (by omega) (show t + 2001 ≤ b by omega) hI (fun ρ1 ρ2 g1 l1 B1 h1 X1 g2 l2 B2 h2 X2 f1 f2 hX rm1 rm2 P1 P2 => by
    have s1 := STb_fe hS1 f1
    have s2 := STb_fe hS2 f2
    simp only [if_pos hin]
    rw [n_cl (p := n) (by omega), s1.1 5 _ (by omega) (by omega) (by omega), s1.1 6 _ (by omega) (by omega) (by omega), s2.1 5 _ (by omega) (by omega) (by omega), s2.1 6 _ (by omega) (by omega) (by omega), x5, x6]
    obtain ⟨_, _, _, _, _, _, q1, q2, _⟩ := hX
    exact ⟨s_stringOf12 P1 hq (fun _ => hpq) rfl rfl, s_stringOf12 P2 hq (fun _ => hpq) rfl rfl, fun n' => k_stringOf12 P1.1 P2.1 q1 q2 (by omega) (by omega) hq (fun _ => hpq) (fun _ => hpq) (fun i hi => by rw [s1.2.2.1 _ (by omega), s2.2.2.1 _ (by omega)]) rfl rfl rfl rfl, fun k => wl_stringOf__12 k _ _ _, fun k => wl_stringOf__12 k _ _ _⟩)
  have sim : ∀ (k : Nat) (r1 : Int32 × MS) (G : Int32 × MS → Option (Int32 × MS)), (if ¬ (nI n < 0 ∨ 70000 ≤ (nI n).toNatClampNeg) then (if ¬ (nI n < 0 ∨ 70000 ≤ (nI n).toNatClampNeg) then ob (x_stringOf__12 k 0 (upd (upd (fun _ => 0) 2 (r1.2.2.2 5 (nI n).toNatClampNeg)) 3 (r1.2.2.2 6 (nI n).toNatClampNeg)) r1.2) G else none) else none) = ob (if ¬ (nI n < 0 ∨ 70000 ≤ (nI n).toNatClampNeg) then (if ¬ (nI n < 0 ∨ 70000 ≤ (nI n).toNatClampNeg) then x_stringOf__12 k 0 (upd (upd (fun _ => 0) 2 (r1.2.2.2 5 (nI n).toNatClampNeg)) 3 (r1.2.2.2 6 (nI n).toNatClampNeg)) r1.2 else none) else none) G := fun k r1 G => by simp only [if_pos hin]
  simp only [sim]
  exact key
/-- a variable is read: the same place on both sides -/
theorem E_val {n s : Nat} {g1 g2 : Nat → Prop} {l1 l2 : List Nat} {B1 h1 X1 B2 h2 X2 : Nat} (hS1 : STb T FN σ1) (hX : EIx t w XC σ1 σ2 g1 l1 B1 h1 X1 g2 l2 B2 h2 X2) {fu dp e : Nat} (hC : Cx lc fu dp e σ1) (hn : (1 ≤ n ∧ n < LNo T % 70001)) (x6 : T 6 n = nI s) (hs : s < 60) (x5 : T 5 n = 0 ∨ lc 0) {L1 L2 : Nat → Int32} (d1 : L1 1 = nI n) (d2 : L2 1 = nI n) : ∃ a i, RtP t σ1 a i ∧ (a = 30 ∨ a = 33) ∧ (a = 30 → 4 ≤ i ∧ i < 3214 ∧ ¬ (64 ≤ i ∧ i < 214)) ∧ (a = 33 → i < 1380) ∧ T2 (fun k => x_valueOf k 0 L1 σ1) (fun k => x_valueOf k 0 L2 σ2) (fun r1 r2 => r1 = (σ1.2.2 a i, σ1) ∧ r2 = (σ2.2.2 a i, σ2)) := by
  obtain ⟨m1, m2, hR, _⟩ := hX
  have hS2 := STb_ra hR hS1
  obtain ⟨c67, cfu, _, _, _, ⟨c, c1, c2, c3⟩, c4⟩ := hC
  have hfb := fb_le cfu
  have al : ∀ j, AlS j → σ2.1 j = σ1.1 j := fun j h => (hR.2.2.1 j h).symm
  have a69 := al 69 (by unfold AlS; omega)
  have a68 := al 68 (by unfold AlS; omega)
  have b1 : σ2.2.2 30 1 = nI c := (hR.2.1 30 1 (by unfold AlR; omega) (by unfold Zn; omega) (InA_4 (by omega))).symm.trans c1
  have hin : ¬ (nI n < 0 ∨ 70000 ≤ (nI n).toNatClampNeg) := n_in (by omega) (by omega)
  have bl : ∀ (i : Nat) (Q : Int32 × MS → Int32 × MS → Prop) (r1 r2 : Int32 × MS) (N1 N2 : Nat → Int32) (k0 : Nat), N1 100 = r1.1 → N2 100 = r2.1 → Q (r1.1, r1.2) (r2.1, r2.2) → T2 (fun k => x_valueOf k 3 N1 r1.2) (fun k => x_valueOf k 3 N2 r2.2) Q := fun i Q r1 r2 N1 N2 k0 h1 h2 hQ => by
    refine T2_suc (fun k => by rw [x_valueOf]) (fun k => by rw [x_valueOf]) ?_
    rw [h1, h2]
    exact T2_some hQ
  by_cases z5 : T 5 n = 0
  · refine ⟨30, 4 + s, Or.inr (Or.inl ⟨rfl, Or.inl ⟨by omega, by omega⟩⟩), Or.inl rfl, fun _ => ⟨by omega, by omega, by omega⟩, fun z => by omega, ?_⟩
    refine T2_suc (fun k => by rw [x_valueOf]) (fun k => by rw [x_valueOf]) ?_
    rw [d1, d2]
    refine T2_chk hin hin ?_
    rw [n_cl (p := n) (by omega), hS1.1 5 _ (by omega) (by omega) (by omega), hS2.1 5 _ (by omega) (by omega) (by omega), hS1.1 6 _ (by omega) (by omega) (by omega), hS2.1 6 _ (by omega) (by omega) (by omega), x6, show (4 : Int32) + nI s = nI (4 + s) from n_add (p := 4) (by omega)]
    refine T2_ite Iff.rfl (fun _ _ => ?_) (fun z _ => absurd z5 z)
    refine T2_chk (n_in3 (by omega) (by omega)) (n_in3 (by omega) (by omega)) ?_
    refine T2_chk (n_in (by omega) (by omega)) (n_in (by omega) (by omega)) ?_
    rw [n_cl (p := 4 + s) (by omega)]
    exact T2_some ⟨rfl, rfl⟩
  have hlc : lc 0 := x5.resolve_left z5
  rcases c4 with z69 | ⟨z69, z68⟩
  · have hc1 : 1 ≤ c := by
      rcases c3.1 hlc with y | y
      · rw [y] at z69; exact absurd z69 (by decide)
      · exact y.2
    refine ⟨30, 214 + 60 * (c - 1) + s, Or.inr (Or.inl ⟨rfl, Or.inr (Or.inl ⟨by omega, ?_⟩)⟩), Or.inl rfl, fun _ => ⟨by omega, by omega, by omega⟩, fun z => by omega, ?_⟩
    · show 214 + 60 * (c - 1) + s < 0 + 214 + 60 * (σ1.2.2 30 1).toNatClampNeg
      rw [c1, n_cl (p := c) (by omega)]; omega
    refine T2_suc (fun k => by rw [x_valueOf]) (fun k => by rw [x_valueOf]) ?_
    rw [d1, d2]
    refine T2_chk hin hin ?_
    rw [n_cl (p := n) (by omega), hS1.1 5 _ (by omega) (by omega) (by omega), hS2.1 5 _ (by omega) (by omega) (by omega)]
    refine T2_ite Iff.rfl (fun z _ => absurd z z5) (fun _ _ => ?_)
    refine T2_suc (fun k => by rw [x_valueOf]) (fun k => by rw [x_valueOf]) ?_
    rw [a69, z69]
    refine T2_ite Iff.rfl (fun _ _ => ?_) (fun z _ => absurd rfl z)
    refine T2_suc (fun k => by rw [x_valueOf]) (fun k => by rw [x_valueOf]) ?_
    rw [d1, d2, show (1 : Int32).toNatClampNeg = 1 from by decide, c1, b1]
    refine T2_chk (by decide) (by decide) ?_
    refine T2_chk hin hin ?_
    rw [n_cl (p := n) (by omega), hS1.1 6 _ (by omega) (by omega) (by omega), hS2.1 6 _ (by omega) (by omega) (by omega), x6, show nI c - 1 = nI (c - 1) from n_sub (p := c) (q := 1) (by omega) hc1, show (60 : Int32) * nI (c - 1) = nI (60 * (c - 1)) from n_mulN 60 (c - 1), show (214 : Int32) + nI (60 * (c - 1)) = nI (214 + 60 * (c - 1)) from n_add (p := 214) (by omega), n_add (p := 214 + 60 * (c - 1)) (by omega)]
    refine T2_chk (n_in (by omega) (by omega)) (n_in (by omega) (by omega)) ?_
    rw [n_cl (p := 214 + 60 * (c - 1) + s) (by omega)]
    exact bl 0 _ (σ1.2.2 30 (214 + 60 * (c - 1) + s), σ1) (σ2.2.2 30 (214 + 60 * (c - 1) + s), σ2) _ _ 0 rfl rfl ⟨rfl, rfl⟩
  · refine ⟨33, fb fu + s, Or.inr (Or.inr (Or.inr (Or.inl ⟨rfl, by omega⟩))), Or.inr rfl, fun z => by omega, fun _ => by omega, ?_⟩
    refine T2_suc (fun k => by rw [x_valueOf]) (fun k => by rw [x_valueOf]) ?_
    rw [d1, d2]
    refine T2_chk hin hin ?_
    rw [n_cl (p := n) (by omega), hS1.1 5 _ (by omega) (by omega) (by omega), hS2.1 5 _ (by omega) (by omega) (by omega)]
    refine T2_ite Iff.rfl (fun z _ => absurd z z5) (fun _ _ => ?_)
    refine T2_suc (fun k => by rw [x_valueOf]) (fun k => by rw [x_valueOf]) ?_
    rw [a69, z69, d1, d2, a68, z68]
    refine T2_ite Iff.rfl (fun z _ => absurd z (by decide)) (fun _ _ => ?_)
    refine T2_chk hin hin ?_
    rw [n_cl (p := n) (by omega), hS1.1 6 _ (by omega) (by omega) (by omega), hS2.1 6 _ (by omega) (by omega) (by omega), x6, n_add (p := fb fu) (by omega)]
    refine T2_chk (n_in (by omega) (by omega)) (n_in (by omega) (by omega)) ?_
    rw [n_cl (p := fb fu + s) (by omega)]
    exact bl 0 _ (σ1.2.2 33 (fb fu + s), σ1) (σ2.2.2 33 (fb fu + s), σ2) _ _ 0 rfl rfl ⟨rfl, rfl⟩
theorem b_var {n s : Nat} (hP : PC T FN O r K lc d t w XC σ1) (hI : EI t w XC σ1 σ2) (hn : (1 ≤ n ∧ n < LNo T % 70001)) (x6 : T 6 n = nI s) (hs : s < 60) (x5 : T 5 n = 0 ∨ lc 0) {b e : Nat} {L1 L2 : Nat → Int32} (d1 : L1 1 = nI n) (d2 : L2 1 = nI n) : T2 (fun k => x_GV k e 0 8 L1 σ1) (fun k => x_GV k e 0 8 L2 σ2) (EQ b t w XC σ1 σ2) := by
  have ht := PC_t hP
  have hI0 := hI
  obtain ⟨g1, l1, B1, h1, X1, g2, l2, B2, h2, X2, hX⟩ := hI
  obtain ⟨hS1, _, _, _, _, _, _, fu, dp, e', hC, _⟩ := hP
  obtain ⟨a, i, hR, ha, _, _, hT⟩ := E_val hS1 hX hC hn x6 hs x5 (L1 := upd (fun _ => 0) 1 (L1 1)) (L2 := upd (fun _ => 0) 1 (L2 1)) d1 d2
  refine T2_suc (fun k => e_begins_8 k _ _ _) (fun k => e_begins_8 k _ _ _) ?_
  refine T2_ob hT (fun r1 r2 hr => ?_)
  rw [hr.1, hr.2]
  refine T2_ob (E_prt hI0 (by omega) hR (by unfold VwR; omega) rfl rfl) (fun s1 s2 hs => ?_)
  exact T2_some ⟨hs.1, hs.2.1, Or.inl ⟨w, Nat.le_refl _, hs.2.2⟩⟩
/-- a condition -/
theorem b_holds {f O' r' : Nat} {x : Int32} (hE : PE T FN d) (hW : WN T FN f 0 O' r' K lc x) (hP : PC T FN O' r' K lc d t w XC σ1) (hI : EI t w XC σ1 σ2) {L1 L2 : Nat → Int32} (d1 : L1 1 = x) (d2 : L2 1 = x) : T2 (fun k => x_GV k (d + 1) 8 0 L1 σ1) (fun k => x_GV k (d + 1) 8 0 L2 σ2) (fun r1 r2 => r1.1 = r2.1 ∧ FE σ1 r1.2 ∧ FE σ2 r2.2 ∧ ((∃ w', w ≤ w' ∧ EI t w' XC r1.2 r2.2) ∨ (EZ t (178000 + d) r1.2 ∧ EZ t (178000 + d) r2.2 ∧ r1.1 = 0))) := by
  have ht := PC_t hP
  have fin : ∀ (c : Int32) (N1 N2 : Nat → Int32) (τ1 τ2 : MS), (c = 0 ∨ c = 1) → N1 100 = c → N2 100 = c → FE σ1 τ1 → FE σ2 τ2 → ((∃ w', w ≤ w' ∧ EI t w' XC τ1 τ2) ∨ (EZ t (178000 + d) τ1 ∧ EZ t (178000 + d) τ2 ∧ c = 0)) → T2 (fun k => x_GV k (d + 1) 8 2 N1 τ1) (fun k => x_GV k (d + 1) 8 2 N2 τ2) (fun r1 r2 => r1.1 = r2.1 ∧ FE σ1 r1.2 ∧ FE σ2 r2.2 ∧ ((∃ w', w ≤ w' ∧ EI t w' XC r1.2 r2.2) ∨ (EZ t (178000 + d) r1.2 ∧ EZ t (178000 + d) r2.2 ∧ r1.1 = 0))) := by
    intro c N1 N2 τ1 τ2 hc n1 n2 f1 f2 h
    refine T2_suc (fun k => e_holds_2 k _ _ _) (fun k => e_holds_2 k _ _ _) ?_
    rw [n1, n2]
    exact T2_chk hc hc (T2_some ⟨rfl, f1, f2, h⟩)
  have fin0 : ∀ (N1 N2 : Nat → Int32) (τ1 τ2 : MS), FE σ1 τ1 → FE σ2 τ2 → ((∃ w', w ≤ w' ∧ EI t w' XC τ1 τ2) ∨ (EZ t (178000 + d) τ1 ∧ EZ t (178000 + d) τ2)) → T2 (fun k => x_GV k (d + 1) 8 1 N1 τ1) (fun k => x_GV k (d + 1) 8 1 N2 τ2) (fun r1 r2 => r1.1 = r2.1 ∧ FE σ1 r1.2 ∧ FE σ2 r2.2 ∧ ((∃ w', w ≤ w' ∧ EI t w' XC r1.2 r2.2) ∨ (EZ t (178000 + d) r1.2 ∧ EZ t (178000 + d) r2.2 ∧ r1.1 = 0))) := by
    intro N1 N2 τ1 τ2 f1 f2 h
    refine T2_suc (fun k => e_holds_1 k _ _ _) (fun k => e_holds_1 k _ _ _) ?_
    exact fin 0 _ _ τ1 τ2 (Or.inl rfl) rfl rfl f1 f2 (h.imp id (fun z => ⟨z.1, z.2, rfl⟩))
  refine T2_suc (fun k => e_holds_0 k _ _ _) (fun k => e_holds_0 k _ _ _) ?_
  refine T2_od ?_
  refine T2_ob (hE f O' r' K lc x t w XC σ1 σ2 _ _ hW hP hI (by exact d1) (by exact d2)) (fun r1 r2 hr => ?_)
  obtain ⟨f1, f2, hr⟩ := hr
  rcases hr with ⟨w2, hw2, hJ⟩ | ⟨z1, z2⟩
  · obtain ⟨e1, e2⟩ := EI_e hJ
    rw [e1, e2]
    refine T2_ite Iff.rfl (fun _ _ => ?_) (fun z _ => absurd rfl z)
    refine T2_ob (E_isTrue hP.2.1 (by omega) hJ _ _) (fun s1 s2 hs => ?_)
    obtain ⟨a1, a2, a3, a4, a5⟩ := hs
    have a5 : (∃ w', w ≤ w' ∧ EI t w' XC s1.2 s2.2) ∨ (EZ t (178000 + d) s1.2 ∧ EZ t (178000 + d) s2.2 ∧ s1.1 = 0) := by
      rcases a5 with a | ⟨a, b, s0⟩
      · exact Or.inl ⟨w2, hw2, a⟩
      · exact Or.inr ⟨EZ_mo a (Nat.le_refl _) (by omega), EZ_mo b (Nat.le_refl _) (by omega), s0⟩
    rw [a1] at a5 ⊢
    exact T2_ite Iff.rfl (fun _ _ => fin0 _ _ s1.2 s2.2 (FE_tr f1 a3) (FE_tr f2 a4) (a5.imp id (fun z => ⟨z.1, z.2.1⟩))) (fun y _ => fin 1 _ _ s1.2 s2.2 (Or.inr rfl) rfl rfl (FE_tr f1 a3) (FE_tr f2 a4) (a5.imp id (fun z => absurd z.2.2 y)))
  · refine T2_ite ⟨fun z => absurd z (EZ_e z1), fun z => absurd z (EZ_e z2)⟩ (fun z _ => absurd z (EZ_e z1)) (fun _ _ => ?_)
    exact fin0 _ _ r1.2 r2.2 f1 f2 (Or.inr ⟨z1, z2⟩)
end EBG

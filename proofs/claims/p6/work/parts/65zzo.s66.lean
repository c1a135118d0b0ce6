/-! Statements of the reference: the state, what stays; whiles. -/
theorem xS_0 (k d b : Nat) (L : Nat → Int32) (σ : MS) : x_GS (k + 1) d 0 b L σ = s_block (x_GS k) k d b L σ := rfl
theorem xS_1 (k d b : Nat) (L : Nat → Int32) (σ : MS) : x_GS (k + 1) d 1 b L σ = s_fors (x_GS k) k d b L σ := rfl
theorem xS_2 (k d b : Nat) (L : Nat → Int32) (σ : MS) : x_GS (k + 1) d 2 b L σ = s_ifs (x_GS k) k d b L σ := rfl
theorem xS_3 (k d b : Nat) (L : Nat → Int32) (σ : MS) : x_GS (k + 1) d 3 b L σ = s_statement (x_GS k) k d b L σ := rfl
theorem xS_4 (k d b : Nat) (L : Nat → Int32) (σ : MS) : x_GS (k + 1) d 4 b L σ = s_whiles (x_GS k) k d b L σ := rfl
def FrZ (M P w : Nat) (σ σ' : MS) : Prop :=
  (∀ j, ¬ ((5 ≤ j ∧ j ≤ 13) ∨ j = 22 ∨ j = 24 ∨ j = 38 ∨ (44 ≤ j ∧ j ≤ 48) ∨ j = 52) → σ'.1 j = σ.1 j) ∧ σ'.2.1 = σ.2.1 ∧
  (∀ j, ¬ ((4 ≤ j ∧ j ≤ 12) ∨ (20 ≤ j ∧ j ≤ 27)) → σ'.2.2 j = σ.2.2 j) ∧
  (∀ j, 4 ≤ j → j ≤ 9 → ∀ i, 1 ≤ i → i < M → σ'.2.2 j i = σ.2.2 j i) ∧
  (∀ i, i < P → σ'.2.2 12 i = σ.2.2 12 i) ∧ (∀ i, i ≠ w → σ'.2.2 21 i = σ.2.2 21 i) ∧ (∀ i, i < 60 * w ∨ 60 * w + 60 ≤ i → σ'.2.2 20 i = σ.2.2 20 i)
def mLp (σ : MS) (x : Int32) : MS := (upd σ.1 45 x, σ.2.1, σ.2.2)
section STM
variable {T : Nat → Int32} {n : Nat} {E : En} {o q v M P w lp : Nat} {b : BT} {s : SB} {MD : Nat → Nat → Nat} {σ τ υ : MS}
theorem FrZ_rf : FrZ M P w σ σ := ⟨fun _ _ => rfl, rfl, fun _ _ => rfl, fun _ _ _ _ _ _ => rfl, fun _ _ => rfl, fun _ _ => rfl, fun _ _ => rfl⟩
theorem FrZ_tr (h : FrZ M P w σ τ) (g : FrZ M P w τ υ) : FrZ M P w σ υ := by
  obtain ⟨a1, a2, a3, a4, a5, a6, a7⟩ := h
  obtain ⟨b1, b2, b3, b4, b5, b6, b7⟩ := g
  exact ⟨fun j hj => (b1 j hj).trans (a1 j hj), b2.trans a2, fun j hj => (b3 j hj).trans (a3 j hj), fun j x y i z u => (b4 j x y i z u).trans (a4 j x y i z u), fun i hi => (b5 i hi).trans (a5 i hi), fun i hi => (b6 i hi).trans (a6 i hi), fun i hi => (b7 i hi).trans (a7 i hi)⟩
theorem FrZ_of (h : FrM M P w σ τ) : FrZ M P w σ τ := by
  obtain ⟨a1, a2, a3, a4, a5, a6, a7⟩ := h
  exact ⟨fun j hj => a1 j (by omega), a2, fun j hj => a3 j (by omega), a4, a5, a6, a7⟩
theorem FrZ_lp (x : Int32) : FrZ M P w σ (mLp σ x) := ⟨fun j hj => upd_other (by omega), rfl, fun _ _ => rfl, fun _ _ _ _ _ _ => rfl, fun _ _ => rfl, fun _ _ => rfl, fun _ _ => rfl⟩
theorem Bb_lp {m : Nat} (h : Bb m σ) (x : Int32) : Bb m (mLp σ x) := ⟨by show ¬ upd σ.1 45 x 10 = 0; rw [upd_other (by decide)]; exact h.1, by show upd σ.1 45 x 22 = _; rw [upd_other (by decide)]; exact h.2⟩
theorem PS_lp (h : PS T n E o q v b σ) (x : Int32) : PS T n E o q v b (mLp σ x) := PS_sc h (fun j hj => upd_other (by omega))
theorem PZ_fr2 {o' q' v' : Nat} {b' : BT} (h : PZ T n MD E lp o q v b s σ) (hS : PS T n E o' q' v' b' τ) (hF : FrM M P w σ τ) (ho : lp ≤ o') : PZ T n MD E lp o' q' v' b' s τ := by
  obtain ⟨_, h2, h3, h4, h5, h6⟩ := h
  refine ⟨hS, PMs_fr h2 hF, ?_, ?_, h5, ?_⟩
  · rw [hF.1 45 (by decide)]; exact ⟨h3.1, ho⟩
  · rw [hF.1 44 (by decide)]; exact h4
  · rw [hF.2.2.1 10 (by decide), hF.2.2.1 11 (by decide)]; exact h6
theorem PZ_lp {lp' : Nat} (h : PZ T n MD E lp o q v b s σ) (hl : lp' ≤ o) : PZ T n MD E lp' o q v b s (mLp σ (nI lp')) := by
  obtain ⟨h1, h2, h3, h4, h5, h6⟩ := h
  exact ⟨PS_lp h1 _, h2, ⟨(upd_same : upd σ.1 45 (nI lp') 45 = nI lp'), hl⟩, (by show upd σ.1 45 (nI lp') 44 = nI s.1; rw [upd_other (by decide)]; exact h4), h5, h6⟩
/-- what a statement leaves -/
def PoZ (T : Nat → Int32) (n : Nat) (MD : Nat → Nat → Nat) (E : En) (lp o M P k : Nat) (σ0 : MS) : Option ST → Int32 × MS → Prop
  | none, r => (∃ m, Bb m r.2 ∧ m ≤ k ∧ M ≤ m) ∧ (∃ e, r.1 = nI e ∧ e < 70000 ∧ (e = 0 ∨ M ≤ e)) ∧ FrZ M P E.2.2.2.1 σ0 r.2
  | some t, r => PZ T n MD E lp o t.1 t.2.1 t.2.2.2.2.1 t.2.2.2.2.2 r.2 ∧ r.1 = nI t.2.2.2.1 ∧ FrZ M P E.2.2.2.1 σ0 r.2
/-- what a block leaves -/
def PoB (T : Nat → Int32) (n : Nat) (MD : Nat → Nat → Nat) (E : En) (lp o M P k : Nat) (σ0 : MS) : Option ST → Int32 × MS → Prop
  | none, r => (∃ m, Bb m r.2 ∧ m ≤ k ∧ M ≤ m) ∧ FrZ M P E.2.2.2.1 σ0 r.2
  | some t, r => PZ T n MD E lp o t.1 t.2.1 t.2.2.2.2.1 t.2.2.2.2.2 r.2 ∧ r.1 = hd t.2.2.2.1 ∧ FrZ M P E.2.2.2.1 σ0 r.2
/-- a block's statement -/
def SB0 (T : Nat → Int32) (n : Nat) (MD : Nat → Nat → Nat) (f : Nat) : Prop := ∀ (E : En) (lp o q v : Nat) (pe : Int32) (b : BT) (s : SB) (x : Option ST), GS T n MD f 0 E lp o q v pe 0 0 b s = some x → ∀ (σ : MS) (L : Nat → Int32) (d M P : Nat), PZ T n MD E lp o q v b s σ → 1 ≤ M → M ≤ b.1 → P ≤ b.2.1 → b.1 + (n + 1 - q) + 967 + d ≤ 70000 → b.2.1 + (n - q) ≤ 70000 → 3 * (20 - o) + 1 ≤ d → L 1 = pe → Tm (fun k => x_GS k d 0 0 L σ) (PoB T n MD E lp o M P (b.1 + (n + 1 - q) + 964 + d) σ x)
theorem b_block {d : Nat} {L : Nat → Int32} (h : ¬ σ.1 10 = 0) : Tm (fun k => x_GS k d 0 0 L σ) (fun r => r.2 = σ) := by
  refine Tm_suc (fun k => by rw [xS_0]) ?_
  show Tm (fun k => x_GS k d 0 1 (upd (upd L 2 (-1)) 3 (-1)) σ) _
  refine Tm_suc (fun k => by rw [xS_0]) ?_
  refine Tm_ite (fun z => absurd z h) (fun _ => ?_)
  refine Tm_suc (fun k => by rw [xS_0]) ?_
  exact Tm_some rfl
/-- the end of a while after a fault -/
theorem wh4b {d m e K : Nat} {ρ : MS} {N : Nat → Int32} (hB : Bb m ρ) (hF : FrZ M P E.2.2.2.1 σ ρ) (hN : N 1 = nI e) (he : M ≤ e) (he2 : e < 70000) (hK : m ≤ K) (hM : M ≤ m) : Tm (fun k => x_GS k d 4 4 N ρ) (PoZ T n MD E lp o M P K σ none) := by
  refine Tm_suc (fun k => by rw [xS_4]) ?_
  show Tm (fun k => x_GS k d 4 5 N (mLp ρ (ρ.1 45 - 1))) _
  have hB1 := Bb_lp hB (ρ.1 45 - 1)
  have hF1 : FrZ M P E.2.2.2.1 σ (mLp ρ (ρ.1 45 - 1)) := FrZ_tr hF (FrZ_lp _)
  generalize mLp ρ (ρ.1 45 - 1) = ρ1 at hB1 hF1
  refine Tm_suc (fun k => by rw [xS_4]) ?_
  refine Tm_ob (b_wantWord hB1.1 _) (fun r hr => ?_)
  obtain ⟨u, τ⟩ := r
  have hr : τ = ρ1 := hr
  subst hr
  refine Tm_ob (b_want hB1.1 _) (fun r hr => ?_)
  obtain ⟨u, ρ2⟩ := r
  have hr : ρ2 = τ := hr
  subst hr
  show Tm (fun k => x_GS k d 4 6 N (mOpn ρ2 (ρ2.1 13 - 1))) _
  refine Tm_suc (fun k => by rw [xS_4]) ?_
  exact Tm_some ⟨⟨m, Bb_opn hB1 _, hK, hM⟩, ⟨e, hN, he2, Or.inr he⟩, FrZ_tr hF1 (FrZ_of (FrM_opn _))⟩
theorem wh2b {d m e K : Nat} {ρ : MS} {N : Nat → Int32} (hB : Bb m ρ) (hF : FrZ M P E.2.2.2.1 σ ρ) (hN : N 1 = nI e) (he : M ≤ e) (he2 : e < 70000) (hK : m ≤ K) (hM : M ≤ m) : Tm (fun k => x_GS k (d + 1) 4 2 N ρ) (PoZ T n MD E lp o M P K σ none) := by
  refine Tm_suc (fun k => by rw [xS_4]) ?_
  refine Tm_ob (b_wantWord hB.1 _) (fun r hr => ?_)
  obtain ⟨u, τ⟩ := r
  have hr : τ = ρ := hr
  subst hr
  show Tm (fun k => x_GS k (d + 1) 4 3 N (mLp τ (τ.1 45 + 1))) _
  have hB1 := Bb_lp hB (τ.1 45 + 1)
  have hF1 : FrZ M P E.2.2.2.1 σ (mLp τ (τ.1 45 + 1)) := FrZ_tr hF (FrZ_lp _)
  generalize mLp τ (τ.1 45 + 1) = ρ1 at hB1 hF1
  refine Tm_suc (fun k => by rw [xS_4]) ?_
  refine Tm_ob (b_block (d := d) hB1.1) (fun r hr => ?_)
  obtain ⟨u, ρ2⟩ := r
  have hr : ρ2 = ρ1 := hr
  subst hr
  rw [hN]
  refine Tm_chk (n_in (by omega) (by omega)) ?_
  rw [n_cl (p := e) (by omega)]
  show Tm (fun k => x_GS k (d + 1) 4 4 N (mSet ρ2 6 e u)) _
  exact wh4b (Bb_set hB1) (FrZ_tr hF1 (FrZ_of (FrM_set (by decide) (by decide) (Or.inr he) _))) hN he he2 hK hM
/-- while exp do block end ; -/
theorem e_whiles {f d : Nat} {x : Option ST} {L : Nat → Int32} (H0 : SB0 T n MD f) (hG : GS T n MD (f + 1) 4 E lp o q v 0 0 0 b s = some x) (hKq : ¬ tkK T n q = 25) (ho : ¬ o = 20) (hZ : PZ T n MD E lp o q v b s σ) (h1 : 1 ≤ M) (hM : M ≤ b.1) (hP : P ≤ b.2.1) (hn : b.1 + (n + 1 - q) + 967 + (d + 1) ≤ 70000) (hp : b.2.1 + (n - q) ≤ 70000) (hd : 3 * (20 - o) ≤ d + 2) : Tm (fun k => x_GS k (d + 1) 4 0 L σ) (PoZ T n MD E lp o M P (b.1 + (n + 1 - q) + 964 + (d + 1)) σ x) := by
  have hS := hZ.1
  have hq := PS_q hS
  have hv := PS_v hS
  have ho2 := PS_o hS
  have hu := tkN_b T n q hq.1
  have hu4 := hu.2.2.2 hKq
  simp only [GS] at hG
  refine Tm_suc (fun k => by rw [xS_4]) ?_
  refine Tm_ob (p_nd (M := M) (P := P) (w := E.2.2.2.1) hS (by omega) hM) (fun r1 hr1 => ?_)
  obtain ⟨hr11, hS1, hF1⟩ := hr1
  have h13 : r1.2.1 13 + 1 = nI (o + 1) := by
    rw [hS1.2.1.1]; exact n_add (p := o) (q := 1) (by omega)
  show Tm (fun k => x_GS k (d + 1) 4 1 (upd L 1 r1.1) (mOpn r1.2 (r1.2.1 13 + 1))) _
  rw [h13]
  have hS2 := PS_opn hS1 (o' := o + 1) (by omega)
  have hF2 : FrM M P E.2.2.2.1 σ (mOpn r1.2 (nI (o + 1))) := FrM_tr hF1 (FrM_opn _)
  have hN : upd L 1 r1.1 1 = nI b.1 := by rw [upd_same]; exact hr11
  generalize mOpn r1.2 (nI (o + 1)) = σ2 at hS2 hF2
  generalize upd L 1 r1.1 = N at hN
  refine Tm_suc (fun k => by rw [xS_4]) ?_
  refine Tm_ob (p_take (M := M) (P := P) (w := E.2.2.2.1) hS2 _) (fun r3 hr3 => ?_)
  have hF3 := FrM_tr hF2 hr3.1
  rcases hT_any hG with ⟨t3, rfl⟩ | ⟨t3, hG⟩
  · rcases hr3.2 with ⟨_, hB⟩ | ⟨z, _⟩
    · rw [bNode_1] at hB
      refine Tm_ob (b_xexp hB.1 _) (fun r hr => ?_)
      subst hr
      rw [hN]
      refine Tm_chk (n_in (by omega) (by omega)) ?_
      rw [n_cl (p := b.1) (by omega)]
      show Tm (fun k => x_GS k (d + 1) 4 2 N (mSet r3.2 5 b.1 0)) _
      exact wh2b (Bb_set hB) (FrZ_of (FrM_tr hF3 (FrM_set (by decide) (by decide) (Or.inr hM) _))) hN hM (by omega) (by omega) (by omega)
    · exact absurd t3 z
  rcases hr3.2 with ⟨z, _⟩ | ⟨_, hS3⟩
  · exact absurd z t3
  rcases lb_any hG with ⟨h7, hy⟩ | ⟨t, h7, hG⟩
  · subst hy
    refine Tm_ob (p_exp (M := M) (P := P) h7 hS3 h1 (by rw [bNode_1]; omega) (by rw [bNode_p]; omega) (by rw [bNode_1]; omega) (by rw [bNode_p]; omega)) (fun r4 hr4 => ?_)
    obtain ⟨⟨m1, hm, hmk, hMm⟩, _, hF4⟩ := hr4
    rw [bNode_1] at hmk
    rw [hN]
    refine Tm_chk (n_in (by omega) (by omega)) ?_
    rw [n_cl (p := b.1) (by omega)]
    show Tm (fun k => x_GS k (d + 1) 4 2 N (mSet r4.2 5 b.1 r4.1)) _
    exact wh2b (Bb_set hm) (FrZ_of (FrM_tr hF3 (FrM_tr hF4 (FrM_set (by decide) (by decide) (Or.inr hM) _)))) hN hM (by omega) (by omega) hMm
  obtain ⟨⟨a1, a2, a3, a4, a5, a6, a7, a8⟩, a9⟩ := mo_of (M := M) hu.2.1 hv h7 (by rw [bNode_1]; omega) h1 trivial (fun h => h) (fun h => h)
  refine Tm_ob (p_exp (M := M) (P := P) h7 hS3 h1 (by rw [bNode_1]; omega) (by rw [bNode_p]; omega) (by rw [bNode_1]; omega) (by rw [bNode_p]; omega)) (fun r4 hr4 => ?_)
  rw [bNode_1] at a5 a6
  rw [bNode_p] at a7 a8
  obtain ⟨hS4, hr41, hF4⟩ := hr4
  rw [hN, hr41]
  refine Tm_chk (n_in (by omega) (by omega)) ?_
  rw [n_cl (p := b.1) (by omega)]
  show Tm (fun k => x_GS k (d + 1) 4 2 N (mSet r4.2 5 b.1 (nI t.2.2.2.1))) _
  have hS5 := PS_set hS4 (j := 5) (l := b.1) (by decide) (by decide) (nI t.2.2.2.1)
  have hF5 : FrM M P E.2.2.2.1 σ (mSet r4.2 5 b.1 (nI t.2.2.2.1)) := FrM_tr hF3 (FrM_tr hF4 (FrM_set (by decide) (by decide) (Or.inr hM) _))
  have hZ5 := PZ_fr2 hZ hS5 hF5 (by have := hZ.2.2.1.2; omega)
  generalize mSet r4.2 5 b.1 (nI t.2.2.2.1) = σ5 at hS5 hF5 hZ5
  refine Tm_suc (fun k => by rw [xS_4]) ?_
  refine Tm_ob (p_wantWord (M := M) (P := P) (w := E.2.2.2.1) hS5 (s := 12) (by decide) rfl) (fun r6 hr6 => ?_)
  show Tm (fun k => x_GS k (d + 1) 4 3 N (mLp r6.2 (r6.2.1 45 + 1))) _
  have hut := tkN_b T n t.1 a2
  -- what the block needs
  have blk : ∀ (ρ : MS), PZ T n MD E (lp + 1) (o + 1) (tkN T n t.1) t.2.1 (bSet t.2.2.2.2.1 5 b.1 (nI t.2.2.2.1)) s ρ → FrZ M P E.2.2.2.1 σ ρ → hb (GS T n MD f 0 E (lp + 1) (o + 1) (tkN T n t.1) t.2.1 (nI b.1) 0 0 (bSet t.2.2.2.2.1 5 b.1 (nI t.2.2.2.1)) s) (fun t => hE T n t.1 (fun q3 => some (some (q3, t.2.1, 0, b.1, bSet t.2.2.2.2.1 6 b.1 (Jvm.Pilot.CSetHouseLaw_law_r7351_1de140.hd t.2.2.2.1), t.2.2.2.2.2)))) = some x → Tm (fun k => x_GS k (d + 1) 4 3 N ρ) (PoZ T n MD E lp o M P (b.1 + (n + 1 - q) + 964 + (d + 1)) σ x) := fun ρ hZ7 hF7 hG => by
    refine Tm_suc (fun k => by rw [xS_4]) ?_
    rcases hb_any hG with ⟨h8, hy⟩ | ⟨y, h8, hG⟩
    · subst hy
      refine Tm_ob (H0 E (lp + 1) (o + 1) _ _ _ _ s none h8 ρ (upd (fun _ => 0) 1 (N 1)) d M P hZ7 h1 (by rw [bSet_1]; omega) (by rw [bSet_p]; omega) (by rw [bSet_1]; omega) (by rw [bSet_p]; omega) (by omega) (by rw [upd_same]; exact hN)) (fun r8 hr8 => ?_)
      obtain ⟨⟨m, hm, hmk, hMm⟩, hF8⟩ := hr8
      rw [bSet_1] at hmk
      rw [hN]
      refine Tm_chk (n_in (by omega) (by omega)) ?_
      rw [n_cl (p := b.1) (by omega)]
      show Tm (fun k => x_GS k (d + 1) 4 4 N (mSet r8.2 6 b.1 r8.1)) _
      exact wh4b (Bb_set hm) (FrZ_tr hF7 (FrZ_tr hF8 (FrZ_of (FrM_set (by decide) (by decide) (Or.inr hM) _)))) hN hM (by omega) (by omega) hMm
    obtain ⟨⟨b1, b2, b3, b4, b5, b6, b7, b8, b9, b10⟩, _⟩ := gs_mo f _ _ _ _ _ _ _ _ _ _ _ y M (by decide) hut.2.1 (by omega) hZ.2.2.2.2.1 h8 h1 (by rw [bSet_1]; omega) (fun _ z => absurd rfl z) (fun z => absurd z (by decide))
    rw [bSet_1] at b5 b6
    rw [bSet_p] at b7 b8
    refine Tm_ob (H0 E (lp + 1) (o + 1) _ _ _ _ s (some y) h8 ρ (upd (fun _ => 0) 1 (N 1)) d M P hZ7 h1 (by rw [bSet_1]; omega) (by rw [bSet_p]; omega) (by rw [bSet_1]; omega) (by rw [bSet_p]; omega) (by omega) (by rw [upd_same]; exact hN)) (fun r8 hr8 => ?_)
    obtain ⟨hZ8, hr81, hF8⟩ := hr8
    rw [hN, hr81]
    refine Tm_chk (n_in (by omega) (by omega)) ?_
    rw [n_cl (p := b.1) (by omega)]
    generalize hhd : Jvm.Pilot.CSetHouseLaw_law_r7351_1de140.hd y.2.2.2.1 = hx at hG
    show Tm (fun k => x_GS k (d + 1) 4 4 N (mSet r8.2 6 b.1 hx)) _
    have hS9 := PS_set hZ8.1 (j := 6) (l := b.1) (by decide) (by decide) hx
    have hF9 : FrM M P E.2.2.2.1 r8.2 (mSet r8.2 6 b.1 hx) := FrM_set (by decide) (by decide) (Or.inr hM) _
    have hZ9 := PZ_fr2 hZ8 hS9 hF9 hZ8.2.2.1.2
    have hF9 := FrZ_tr hF7 (FrZ_tr hF8 (FrZ_of hF9))
    generalize mSet r8.2 6 b.1 hx = σ9 at hS9 hZ9 hF9
    refine Tm_suc (fun k => by rw [xS_4]) ?_
    have h45 : σ9.1 45 - 1 = nI lp := by rw [hZ9.2.2.1.1]; exact n_sub (p := lp + 1) (q := 1) (by have := hZ9.2.2.1.2; omega) (by omega)
    show Tm (fun k => x_GS k (d + 1) 4 5 N (mLp σ9 (σ9.1 45 - 1))) _
    rw [h45]
    have hZa := PZ_lp hZ9 (lp' := lp) (by have := hZ9.2.2.1.2; omega)
    have hFa : FrZ M P E.2.2.2.1 σ (mLp σ9 (nI lp)) := FrZ_tr hF9 (FrZ_lp _)
    generalize mLp σ9 (nI lp) = σa at hZa hFa
    refine Tm_suc (fun k => by rw [xS_4]) ?_
    have fin : ∀ (ρ' : MS) (m : Nat), Bb m ρ' → M ≤ m → m ≤ b.1 + (n + 1 - q) + 964 + (d + 1) → FrZ M P E.2.2.2.1 σ ρ' → Tm (fun k => x_GS k (d + 1) 4 6 N (mOpn ρ' (ρ'.1 13 - 1))) (PoZ T n MD E lp o M P (b.1 + (n + 1 - q) + 964 + (d + 1)) σ none) := fun ρ' m hB m1 m2 hF => by
      refine Tm_suc (fun k => by rw [xS_4]) ?_
      exact Tm_some ⟨⟨m, Bb_opn hB _, m2, m1⟩, ⟨b.1, hN, by omega, Or.inr hM⟩, FrZ_tr hF (FrZ_of (FrM_opn _))⟩
    refine Tm_ob (p_wantWord (M := M) (P := P) (w := E.2.2.2.1) hZa.1 (s := 6) (by decide) rfl) (fun rb hrb => ?_)
    unfold hE at hG
    rcases hW_any hG with ⟨tb, rfl⟩ | ⟨tb, hG⟩
    · rcases hrb.2 with ⟨_, hB⟩ | ⟨z, _⟩
      · rw [bSet_1] at hB
        refine Tm_ob (b_want hB.1 _) (fun r hr => ?_)
        obtain ⟨u, ρ2⟩ := r
        have hr : ρ2 = rb.2 := hr
        subst hr
        exact fin rb.2 _ hB (by omega) (by omega) (FrZ_tr hFa (FrZ_of hrb.1))
      · exact absurd z tb
    rcases hrb.2 with ⟨z, _⟩ | ⟨_, hSb⟩
    · exact absurd tb z
    refine Tm_ob (p_want (M := M) (P := P) (w := E.2.2.2.1) hSb (s := 13) (by decide) (by decide) rfl) (fun rc hrc => ?_)
    rcases hW_any hG with ⟨tc, rfl⟩ | ⟨tc, hG⟩
    · rcases hrc.2 with ⟨_, hB⟩ | ⟨z, _⟩
      · rw [bSet_1] at hB
        exact fin rc.2 _ hB (by omega) (by omega) (FrZ_tr hFa (FrZ_tr (FrZ_of hrb.1) (FrZ_of hrc.1)))
      · exact absurd z tc
    rcases hrc.2 with ⟨z, _⟩ | ⟨_, hSc⟩
    · exact absurd tc z
    show Tm (fun k => x_GS k (d + 1) 4 6 N (mOpn rc.2 (rc.2.1 13 - 1))) _
    refine Tm_suc (fun k => by rw [xS_4]) ?_
    cases hG
    have hFc : FrM M P E.2.2.2.1 σa (mOpn rc.2 (rc.2.1 13 - 1)) := FrM_tr hrb.1 (FrM_tr hrc.1 (FrM_opn _))
    exact Tm_some ⟨PZ_fr2 hZa (PS_clo hSc) hFc hZ.2.2.1.2, hN, FrZ_tr hFa (FrZ_of hFc)⟩
  rcases hW_any hG with ⟨t6, rfl⟩ | ⟨t6, hG⟩
  · rcases hr6.2 with ⟨_, hB⟩ | ⟨z, _⟩
    · rw [bSet_1] at hB
      have hB1 := Bb_lp hB (r6.2.1 45 + 1)
      have hFx : FrZ M P E.2.2.2.1 σ (mLp r6.2 (r6.2.1 45 + 1)) := FrZ_tr (FrZ_of (FrM_tr hF5 hr6.1)) (FrZ_lp _)
      generalize mLp r6.2 (r6.2.1 45 + 1) = ρ1 at hB1 hFx
      refine Tm_suc (fun k => by rw [xS_4]) ?_
      refine Tm_ob (b_block (d := d) hB1.1) (fun r hr => ?_)
      obtain ⟨u, ρ2⟩ := r
      have hr : ρ2 = ρ1 := hr
      subst hr
      rw [hN]
      refine Tm_chk (n_in (by omega) (by omega)) ?_
      rw [n_cl (p := b.1) (by omega)]
      show Tm (fun k => x_GS k (d + 1) 4 4 N (mSet ρ2 6 b.1 u)) _
      exact wh4b (Bb_set hB1) (FrZ_tr hFx (FrZ_of (FrM_set (by decide) (by decide) (Or.inr hM) _))) hN hM (by omega) (by omega) (by omega)
    · exact absurd z t6
  rcases hr6.2 with ⟨z, _⟩ | ⟨_, hS6⟩
  · exact absurd t6 z
  have hZ6 := PZ_fr2 hZ5 hS6 hr6.1 (by have := hZ.2.2.1.2; omega)
  have h45 : r6.2.1 45 + 1 = nI (lp + 1) := by rw [hZ6.2.2.1.1]; exact n_add (p := lp) (q := 1) (by have := hZ6.2.2.1.2; omega)
  rw [h45]
  exact blk _ (PZ_lp hZ6 (by have := hZ.2.2.1.2; omega)) (FrZ_tr (FrZ_of (FrM_tr hF5 hr6.1)) (FrZ_lp _)) hG
end STM

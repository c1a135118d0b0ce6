section JnS66
variable {yf : Nat × Nat}
/-! Statements of the reference: the state, what stays; whiles. -/
theorem xS_0 (k d b : Nat) (L : Nat → Int32) (σ : MS) : x_GS (k + 1) d 0 b L σ = s_block (x_GS k) k d b L σ := rfl
theorem xS_1 (k d b : Nat) (L : Nat → Int32) (σ : MS) : x_GS (k + 1) d 1 b L σ = s_fors (x_GS k) k d b L σ := rfl
theorem xS_2 (k d b : Nat) (L : Nat → Int32) (σ : MS) : x_GS (k + 1) d 2 b L σ = s_ifs (x_GS k) k d b L σ := rfl
theorem xS_3 (k d b : Nat) (L : Nat → Int32) (σ : MS) : x_GS (k + 1) d 3 b L σ = s_statement (x_GS k) k d b L σ := rfl
theorem xS_4 (k d b : Nat) (L : Nat → Int32) (σ : MS) : x_GS (k + 1) d 4 b L σ = s_whiles (x_GS k) k d b L σ := rfl
def FrZ (M P w : Nat) (σ σ' : MS) : Prop :=
  (∀ j, ¬ ((5 ≤ j ∧ j ≤ 13) ∨ j = 22 ∨ j = 24 ∨ j = 38 ∨ (44 ≤ j ∧ j ≤ 48) ∨ j = 52) → σ'.1 j = σ.1 j) ∧ σ'.2.1 = σ.2.1 ∧
  (∀ j, ¬ ((4 ≤ j ∧ j ≤ 12) ∨ (20 ≤ j ∧ j ≤ 27)) → σ'.2.2 j = σ.2.2 j) ∧
  (∀ j, 4 ≤ j → j ≤ 9 → ∀ i, 1 ≤ i → i < M → σ'.2.2 j i = σ.2.2 j i) ∧
  (∀ i, i < P → σ'.2.2 12 i = σ.2.2 12 i) ∧ (∀ i, i ≠ w → σ'.2.2 21 i = σ.2.2 21 i) ∧ (∀ i, i < 60 * w ∨ 60 * w + 60 ≤ i → σ'.2.2 20 i = σ.2.2 20 i)
def mLp (σ : MS) (x : Int32) : MS := (upd σ.1 45 x, σ.2.1, σ.2.2)
section STM
variable {T : Nat → Int32} {n : Nat} {E : En} {o q v M P w lp : Nat} {b : BT} {s : SB} {MD : Nat → Nat → Nat} {σ τ υ : MS}
theorem FrZ_rf : FrZ M P w σ σ := ⟨fun _ _ => rfl, rfl, fun _ _ => rfl, fun _ _ _ _ _ _ => rfl, fun _ _ => rfl, fun _ _ => rfl, fun _ _ => rfl⟩
theorem FrZ_tr (h : FrZ M P w σ τ) (g : FrZ M P w τ υ) : FrZ M P w σ υ := by
  obtain ⟨a1, a2, a3, a4, a5, a6, a7⟩ := h
  obtain ⟨b1, b2, b3, b4, b5, b6, b7⟩ := g
  exact ⟨fun j hj => (b1 j hj).trans (a1 j hj), b2.trans a2, fun j hj => (b3 j hj).trans (a3 j hj), fun j x y i z u => (b4 j x y i z u).trans (a4 j x y i z u), fun i hi => (b5 i hi).trans (a5 i hi), fun i hi => (b6 i hi).trans (a6 i hi), fun i hi => (b7 i hi).trans (a7 i hi)⟩
theorem FrZ_of (h : FrM M P w σ τ) : FrZ M P w σ τ := by
  obtain ⟨a1, a2, a3, a4, a5, a6, a7⟩ := h
  exact ⟨fun j hj => a1 j (by omega), a2, fun j hj => a3 j (by omega), a4, a5, a6, a7⟩
theorem FrZ_lp (x : Int32) : FrZ M P w σ (mLp σ x) := ⟨fun j hj => upd_other (by omega), rfl, fun _ _ => rfl, fun _ _ _ _ _ _ => rfl, fun _ _ => rfl, fun _ _ => rfl, fun _ _ => rfl⟩
theorem Bb_lp {m : Nat} (h : Bb yf m σ) (x : Int32) : Bb yf m (mLp σ x) := Bb_f h (fun j hj => upd_other (by omega))
theorem PS_lp (h : PS T n E o q v b σ) (x : Int32) : PS T n E o q v b (mLp σ x) := PS_sc h (fun j hj => upd_other (by omega))
theorem PZ_fr2 {o' q' v' : Nat} {b' : BT} (h : PZ T n MD E lp o q v b s σ) (hS : PS T n E o' q' v' b' τ) (hF : FrM M P w σ τ) (ho : lp ≤ o') : PZ T n MD E lp o' q' v' b' s τ := by
  obtain ⟨_, h2, h3, h4, h5, h6⟩ := h
  refine ⟨hS, PMs_fr h2 hF, ?_, ?_, h5, ?_⟩
  · rw [hF.1 45 (by decide)]; exact ⟨h3.1, ho⟩
  · rw [hF.1 44 (by decide)]; exact h4
  · rw [hF.2.2.1 10 (by decide), hF.2.2.1 11 (by decide)]; exact h6
theorem PZ_lp {lp' : Nat} (h : PZ T n MD E lp o q v b s σ) (hl : lp' ≤ o) : PZ T n MD E lp' o q v b s (mLp σ (nI lp')) := by
  obtain ⟨h1, h2, h3, h4, h5, h6⟩ := h
  exact ⟨PS_lp h1 _, h2, ⟨(upd_same : upd σ.1 45 (nI lp') 45 = nI lp'), hl⟩, (by show upd σ.1 45 (nI lp') 44 = nI s.1; rw [upd_other (by decide)]; exact h4), h5, h6⟩
/-- what a statement leaves -/
def PoZ (T : Nat → Int32) (n : Nat) (MD : Nat → Nat → Nat) (E : En) (lp o M P k : Nat) (σ0 : MS) : Fl ST → Int32 × MS → Prop
  | Sum.inl yf, r => (∃ m, Bb yf m r.2 ∧ m ≤ k ∧ M ≤ m) ∧ (∃ e, r.1 = nI e ∧ e < 70000 ∧ (e = 0 ∨ M ≤ e)) ∧ FrZ M P E.2.2.2.1 σ0 r.2
  | Sum.inr t, r => PZ T n MD E lp o t.1 t.2.1 t.2.2.2.2.1 t.2.2.2.2.2 r.2 ∧ r.1 = nI t.2.2.2.1 ∧ FrZ M P E.2.2.2.1 σ0 r.2
/-- what a block leaves -/
def PoB (T : Nat → Int32) (n : Nat) (MD : Nat → Nat → Nat) (E : En) (lp o M P k : Nat) (σ0 : MS) : Fl ST → Int32 × MS → Prop
  | Sum.inl yf, r => (∃ m, Bb yf m r.2 ∧ m ≤ k ∧ M ≤ m) ∧ FrZ M P E.2.2.2.1 σ0 r.2
  | Sum.inr t, r => PZ T n MD E lp o t.1 t.2.1 t.2.2.2.2.1 t.2.2.2.2.2 r.2 ∧ r.1 = hd t.2.2.2.1 ∧ FrZ M P E.2.2.2.1 σ0 r.2
/-- a block's statement -/
def SB0 (T : Nat → Int32) (n : Nat) (MD : Nat → Nat → Nat) (f : Nat) : Prop := ∀ (E : En) (lp o q v : Nat) (pe : Int32) (b : BT) (s : SB) (x : Fl ST), GS T n MD f 0 E lp o q v pe 0 0 b s = some x → ∀ (σ : MS) (L : Nat → Int32) (d M P : Nat), PZ T n MD E lp o q v b s σ → 1 ≤ M → M ≤ b.1 → P ≤ b.2.1 → b.1 + (n + 1 - q) + 967 + d ≤ 70000 → b.2.1 + (n - q) ≤ 70000 → 3 * (20 - o) + 1 ≤ d → L 1 = pe → Tm (fun k => x_GS k d 0 0 L σ) (PoB T n MD E lp o M P (b.1 + (n + 1 - q) + 964 + d) σ x)
theorem b_block {d : Nat} {L : Nat → Int32} (h : ¬ σ.1 10 = 0) : Tm (fun k => x_GS k d 0 0 L σ) (fun r => r.2 = σ) := by
  refine Tm_suc (fun k => by rw [xS_0]) ?_
  show Tm (fun k => x_GS k d 0 1 (upd (upd L 2 (-1)) 3 (-1)) σ) _
  refine Tm_suc (fun k => by rw [xS_0]) ?_
  refine Tm_ite (fun z => absurd z h) (fun _ => ?_)
  refine Tm_suc (fun k => by rw [xS_0]) ?_
  exact Tm_some rfl
/-- the end of a while after a fault -/
theorem wh4b {d m e K : Nat} {ρ : MS} {N : Nat → Int32} (hB : Bb yf m ρ) (hF : FrZ M P E.2.2.2.1 σ ρ) (hN : N 1 = nI e) (he : M ≤ e) (he2 : e < 70000) (hK : m ≤ K) (hM : M ≤ m) : Tm (fun k => x_GS k d 4 4 N ρ) (PoZ T n MD E lp o M P K σ (Sum.inl yf)) := by
  refine Tm_suc (fun k => by rw [xS_4]) ?_
  show Tm (fun k => x_GS k d 4 5 N (mLp ρ (ρ.1 45 - 1))) _
  have hB1 := Bb_lp hB (ρ.1 45 - 1)
  have hF1 : FrZ M P E.2.2.2.1 σ (mLp ρ (ρ.1 45 - 1)) := FrZ_tr hF (FrZ_lp _)
  generalize mLp ρ (ρ.1 45 - 1) = ρ1 at hB1 hF1
  refine Tm_suc (fun k => by rw [xS_4]) ?_
  refine Tm_ob (b_wantWord hB1.1 _) (fun r hr => ?_)
  obtain ⟨u, τ⟩ := r
  have hr : τ = ρ1 := hr
  subst hr
  refine Tm_ob (b_want hB1.1 _) (fun r hr => ?_)
  obtain ⟨u, ρ2⟩ := r
  have hr : ρ2 = τ := hr
  subst hr
  show Tm (fun k => x_GS k d 4 6 N (mOpn ρ2 (ρ2.1 13 - 1))) _
  refine Tm_suc (fun k => by rw [xS_4]) ?_
  exact Tm_some ⟨⟨m, Bb_opn hB1 _, hK, hM⟩, ⟨e, hN, he2, Or.inr he⟩, FrZ_tr hF1 (FrZ_of (FrM_opn _))⟩
theorem wh2b {d m e K : Nat} {ρ : MS} {N : Nat → Int32} (hB : Bb yf m ρ) (hF : FrZ M P E.2.2.2.1 σ ρ) (hN : N 1 = nI e) (he : M ≤ e) (he2 : e < 70000) (hK : m ≤ K) (hM : M ≤ m) : Tm (fun k => x_GS k (d + 1) 4 2 N ρ) (PoZ T n MD E lp o M P K σ (Sum.inl yf)) := by
  refine Tm_suc (fun k => by rw [xS_4]) ?_
  refine Tm_ob (b_wantWord hB.1 _) (fun r hr => ?_)
  obtain ⟨u, τ⟩ := r
  have hr : τ = ρ := hr
  subst hr
  show Tm (fun k => x_GS k (d + 1) 4 3 N (mLp τ (τ.1 45 + 1))) _
  have hB1 := Bb_lp hB (τ.1 45 + 1)
  have hF1 : FrZ M P E.2.2.2.1 σ (mLp τ (τ.1 45 + 1)) := FrZ_tr hF (FrZ_lp _)
  generalize mLp τ (τ.1 45 + 1) = ρ1 at hB1 hF1
  refine Tm_suc (fun k => by rw [xS_4]) ?_
  refine Tm_ob (b_block (d := d) hB1.1) (fun r hr => ?_)
  obtain ⟨u, ρ2⟩ := r
  have hr : ρ2 = ρ1 := hr
  subst hr
  rw [hN]
  refine Tm_chk (n_in (by omega) (by omega)) ?_
  rw [n_cl (p := e) (by omega)]
  show Tm (fun k => x_GS k (d + 1) 4 4 N (mSet ρ2 6 e u)) _
  exact wh4b (Bb_set hB1) (FrZ_tr hF1 (FrZ_of (FrM_set (by decide) (by decide) (Or.inr he) _))) hN he he2 hK hM
/-- while exp do block end ; -/
theorem e_whiles {f d : Nat} {x : Fl ST} {L : Nat → Int32} (H0 : SB0 T n MD f) (hG : GS T n MD (f + 1) 4 E lp o q v 0 0 0 b s = some x) (hKq : ¬ tkK T n q = 25) (ho : ¬ o = 20) (hZ : PZ T n MD E lp o q v b s σ) (h1 : 1 ≤ M) (hM : M ≤ b.1) (hP : P ≤ b.2.1) (hn : b.1 + (n + 1 - q) + 967 + (d + 1) ≤ 70000) (hp : b.2.1 + (n - q) ≤ 70000) (hd : 3 * (20 - o) ≤ d + 2) : Tm (fun k => x_GS k (d + 1) 4 0 L σ) (PoZ T n MD E lp o M P (b.1 + (n + 1 - q) + 964 + (d + 1)) σ x) := by
  have hS := hZ.1
  have hq := PS_q hS
  have hv := PS_v hS
  have ho2 := PS_o hS
  have hu := tkN_b T n q hq.1
  have hu4 := hu.2.2.2 hKq
  simp only [GS] at hG
  refine Tm_suc (fun k => by rw [xS_4]) ?_
  refine Tm_ob (p_nd (M := M) (P := P) (w := E.2.2.2.1) hS (by omega) hM) (fun r1 hr1 => ?_)
  obtain ⟨hr11, hS1, hF1⟩ := hr1
  have h13 : r1.2.1 13 + 1 = nI (o + 1) := by
    rw [hS1.2.1.1]; exact n_add (p := o) (q := 1) (by omega)
  show Tm (fun k => x_GS k (d + 1) 4 1 (upd L 1 r1.1) (mOpn r1.2 (r1.2.1 13 + 1))) _
  rw [h13]
  have hS2 := PS_opn hS1 (o' := o + 1) (by omega)
  have hF2 : FrM M P E.2.2.2.1 σ (mOpn r1.2 (nI (o + 1))) := FrM_tr hF1 (FrM_opn _)
  have hN : upd L 1 r1.1 1 = nI b.1 := by rw [upd_same]; exact hr11
  generalize mOpn r1.2 (nI (o + 1)) = σ2 at hS2 hF2
  generalize upd L 1 r1.1 = N at hN
  refine Tm_suc (fun k => by rw [xS_4]) ?_
  refine Tm_ob (p_take (M := M) (P := P) (w := E.2.2.2.1) hS2 _) (fun r3 hr3 => ?_)
  have hF3 := FrM_tr hF2 hr3.1
  rcases hT_any hG with ⟨t3, rfl⟩ | ⟨t3, hG⟩
  · rcases hr3.2 with ⟨_, hB⟩ | ⟨z, _⟩
    · rw [bNode_1] at hB
      refine Tm_ob (b_xexp hB.1 _) (fun r hr => ?_)
      subst hr
      rw [hN]
      refine Tm_chk (n_in (by omega) (by omega)) ?_
      rw [n_cl (p := b.1) (by omega)]
      show Tm (fun k => x_GS k (d + 1) 4 2 N (mSet r3.2 5 b.1 0)) _
      exact wh2b (Bb_set hB) (FrZ_of (FrM_tr hF3 (FrM_set (by decide) (by decide) (Or.inr hM) _))) hN hM (by omega) (by omega) (by omega)
    · exact absurd t3 z
  rcases hr3.2 with ⟨z, _⟩ | ⟨_, hS3⟩
  · exact absurd z t3
  rcases lb_any hG with ⟨yf, h7, hy⟩ | ⟨t, h7, hG⟩
  · subst hy
    refine Tm_ob (p_exp (M := M) (P := P) h7 hS3 h1 (by rw [bNode_1]; omega) (by rw [bNode_p]; omega) (by rw [bNode_1]; omega) (by rw [bNode_p]; omega)) (fun r4 hr4 => ?_)
    obtain ⟨⟨m1, hm, hmk, hMm⟩, _, hF4⟩ := hr4
    rw [bNode_1] at hmk
    rw [hN]
    refine Tm_chk (n_in (by omega) (by omega)) ?_
    rw [n_cl (p := b.1) (by omega)]
    show Tm (fun k => x_GS k (d + 1) 4 2 N (mSet r4.2 5 b.1 r4.1)) _
    exact wh2b (Bb_set hm) (FrZ_of (FrM_tr hF3 (FrM_tr hF4 (FrM_set (by decide) (by decide) (Or.inr hM) _)))) hN hM (by omega) (by omega) hMm
  obtain ⟨⟨a1, a2, a3, a4, a5, a6, a7, a8⟩, a9⟩ := mo_of (M := M) hu.2.1 hv h7 (by rw [bNode_1]; omega) h1 trivial (fun h => h) (fun h => h)
  refine Tm_ob (p_exp (M := M) (P := P) h7 hS3 h1 (by rw [bNode_1]; omega) (by rw [bNode_p]; omega) (by rw [bNode_1]; omega) (by rw [bNode_p]; omega)) (fun r4 hr4 => ?_)
  rw [bNode_1] at a5 a6
  rw [bNode_p] at a7 a8
  obtain ⟨hS4, hr41, hF4⟩ := hr4
  rw [hN, hr41]
  refine Tm_chk (n_in (by omega) (by omega)) ?_
  rw [n_cl (p := b.1) (by omega)]
  show Tm (fun k => x_GS k (d + 1) 4 2 N (mSet r4.2 5 b.1 (nI t.2.2.2.1))) _
  have hS5 := PS_set hS4 (j := 5) (l := b.1) (by decide) (by decide) (nI t.2.2.2.1)
  have hF5 : FrM M P E.2.2.2.1 σ (mSet r4.2 5 b.1 (nI t.2.2.2.1)) := FrM_tr hF3 (FrM_tr hF4 (FrM_set (by decide) (by decide) (Or.inr hM) _))
  have hZ5 := PZ_fr2 hZ hS5 hF5 (by have := hZ.2.2.1.2; omega)
  generalize mSet r4.2 5 b.1 (nI t.2.2.2.1) = σ5 at hS5 hF5 hZ5
  refine Tm_suc (fun k => by rw [xS_4]) ?_
  refine Tm_ob (p_wantWord (M := M) (P := P) (w := E.2.2.2.1) hS5 (s := 12) (by decide) rfl) (fun r6 hr6 => ?_)
  show Tm (fun k => x_GS k (d + 1) 4 3 N (mLp r6.2 (r6.2.1 45 + 1))) _
  have hut := tkN_b T n t.1 a2
  -- what the block needs
  have blk : ∀ (ρ : MS), PZ T n MD E (lp + 1) (o + 1) (tkN T n t.1) t.2.1 (bSet t.2.2.2.2.1 5 b.1 (nI t.2.2.2.1)) s ρ → FrZ M P E.2.2.2.1 σ ρ → hb (GS T n MD f 0 E (lp + 1) (o + 1) (tkN T n t.1) t.2.1 (nI b.1) 0 0 (bSet t.2.2.2.2.1 5 b.1 (nI t.2.2.2.1)) s) (fun t => hE T n t.1 (fun q3 => some (Sum.inr (q3, t.2.1, 0, b.1, bSet t.2.2.2.2.1 6 b.1 (Jvm.Pilot.CSetHouseLaw_law_r6264_2ea8b6.hd t.2.2.2.1), t.2.2.2.2.2)))) = some x → Tm (fun k => x_GS k (d + 1) 4 3 N ρ) (PoZ T n MD E lp o M P (b.1 + (n + 1 - q) + 964 + (d + 1)) σ x) := fun ρ hZ7 hF7 hG => by
    refine Tm_suc (fun k => by rw [xS_4]) ?_
    rcases hb_any hG with ⟨yf, h8, hy⟩ | ⟨y, h8, hG⟩
    · subst hy
      refine Tm_ob (H0 E (lp + 1) (o + 1) _ _ _ _ s (Sum.inl yf) h8 ρ (upd (fun _ => 0) 1 (N 1)) d M P hZ7 h1 (by rw [bSet_1]; omega) (by rw [bSet_p]; omega) (by rw [bSet_1]; omega) (by rw [bSet_p]; omega) (by omega) (by rw [upd_same]; exact hN)) (fun r8 hr8 => ?_)
      obtain ⟨⟨m, hm, hmk, hMm⟩, hF8⟩ := hr8
      rw [bSet_1] at hmk
      rw [hN]
      refine Tm_chk (n_in (by omega) (by omega)) ?_
      rw [n_cl (p := b.1) (by omega)]
      show Tm (fun k => x_GS k (d + 1) 4 4 N (mSet r8.2 6 b.1 r8.1)) _
      exact wh4b (Bb_set hm) (FrZ_tr hF7 (FrZ_tr hF8 (FrZ_of (FrM_set (by decide) (by decide) (Or.inr hM) _)))) hN hM (by omega) (by omega) hMm
    obtain ⟨⟨b1, b2, b3, b4, b5, b6, b7, b8, b9, b10⟩, _⟩ := gs_mo f _ _ _ _ _ _ _ _ _ _ _ y M (by decide) hut.2.1 (by omega) hZ.2.2.2.2.1 h8 h1 (by rw [bSet_1]; omega) (fun _ z => absurd rfl z) (fun z => absurd z (by decide))
    rw [bSet_1] at b5 b6
    rw [bSet_p] at b7 b8
    refine Tm_ob (H0 E (lp + 1) (o + 1) _ _ _ _ s (Sum.inr y) h8 ρ (upd (fun _ => 0) 1 (N 1)) d M P hZ7 h1 (by rw [bSet_1]; omega) (by rw [bSet_p]; omega) (by rw [bSet_1]; omega) (by rw [bSet_p]; omega) (by omega) (by rw [upd_same]; exact hN)) (fun r8 hr8 => ?_)
    obtain ⟨hZ8, hr81, hF8⟩ := hr8
    rw [hN, hr81]
    refine Tm_chk (n_in (by omega) (by omega)) ?_
    rw [n_cl (p := b.1) (by omega)]
    generalize hhd : Jvm.Pilot.CSetHouseLaw_law_r6264_2ea8b6.hd y.2.2.2.1 = hx at hG
    show Tm (fun k => x_GS k (d + 1) 4 4 N (mSet r8.2 6 b.1 hx)) _
    have hS9 := PS_set hZ8.1 (j := 6) (l := b.1) (by decide) (by decide) hx
    have hF9 : FrM M P E.2.2.2.1 r8.2 (mSet r8.2 6 b.1 hx) := FrM_set (by decide) (by decide) (Or.inr hM) _
    have hZ9 := PZ_fr2 hZ8 hS9 hF9 hZ8.2.2.1.2
    have hF9 := FrZ_tr hF7 (FrZ_tr hF8 (FrZ_of hF9))
    generalize mSet r8.2 6 b.1 hx = σ9 at hS9 hZ9 hF9
    refine Tm_suc (fun k => by rw [xS_4]) ?_
    have h45 : σ9.1 45 - 1 = nI lp := by rw [hZ9.2.2.1.1]; exact n_sub (p := lp + 1) (q := 1) (by have := hZ9.2.2.1.2; omega) (by omega)
    show Tm (fun k => x_GS k (d + 1) 4 5 N (mLp σ9 (σ9.1 45 - 1))) _
    rw [h45]
    have hZa := PZ_lp hZ9 (lp' := lp) (by have := hZ9.2.2.1.2; omega)
    have hFa : FrZ M P E.2.2.2.1 σ (mLp σ9 (nI lp)) := FrZ_tr hF9 (FrZ_lp _)
    generalize mLp σ9 (nI lp) = σa at hZa hFa
    refine Tm_suc (fun k => by rw [xS_4]) ?_
    have fin : ∀ {yf : Nat × Nat} (ρ' : MS) (m : Nat), Bb yf m ρ' → M ≤ m → m ≤ b.1 + (n + 1 - q) + 964 + (d + 1) → FrZ M P E.2.2.2.1 σ ρ' → Tm (fun k => x_GS k (d + 1) 4 6 N (mOpn ρ' (ρ'.1 13 - 1))) (PoZ T n MD E lp o M P (b.1 + (n + 1 - q) + 964 + (d + 1)) σ (Sum.inl yf)) := fun {yf} ρ' m hB m1 m2 hF => by
      refine Tm_suc (fun k => by rw [xS_4]) ?_
      exact Tm_some ⟨⟨m, Bb_opn hB _, m2, m1⟩, ⟨b.1, hN, by omega, Or.inr hM⟩, FrZ_tr hF (FrZ_of (FrM_opn _))⟩
    refine Tm_ob (p_wantWord (M := M) (P := P) (w := E.2.2.2.1) hZa.1 (s := 6) (by decide) rfl) (fun rb hrb => ?_)
    unfold hE at hG
    rcases hW_any hG with ⟨tb, rfl⟩ | ⟨tb, hG⟩
    · rcases hrb.2 with ⟨_, hB⟩ | ⟨z, _⟩
      · rw [bSet_1] at hB
        refine Tm_ob (b_want hB.1 _) (fun r hr => ?_)
        obtain ⟨u, ρ2⟩ := r
        have hr : ρ2 = rb.2 := hr
        subst hr
        exact fin rb.2 _ hB (by omega) (by omega) (FrZ_tr hFa (FrZ_of hrb.1))
      · exact absurd z tb
    rcases hrb.2 with ⟨z, _⟩ | ⟨_, hSb⟩
    · exact absurd tb z
    refine Tm_ob (p_want (M := M) (P := P) (w := E.2.2.2.1) hSb (s := 13) (by decide) (by decide) rfl) (fun rc hrc => ?_)
    rcases hW_any hG with ⟨tc, rfl⟩ | ⟨tc, hG⟩
    · rcases hrc.2 with ⟨_, hB⟩ | ⟨z, _⟩
      · rw [bSet_1] at hB
        exact fin rc.2 _ hB (by omega) (by omega) (FrZ_tr hFa (FrZ_tr (FrZ_of hrb.1) (FrZ_of hrc.1)))
      · exact absurd z tc
    rcases hrc.2 with ⟨z, _⟩ | ⟨_, hSc⟩
    · exact absurd tc z
    show Tm (fun k => x_GS k (d + 1) 4 6 N (mOpn rc.2 (rc.2.1 13 - 1))) _
    refine Tm_suc (fun k => by rw [xS_4]) ?_
    cases hG
    have hFc : FrM M P E.2.2.2.1 σa (mOpn rc.2 (rc.2.1 13 - 1)) := FrM_tr hrb.1 (FrM_tr hrc.1 (FrM_opn _))
    exact Tm_some ⟨PZ_fr2 hZa (PS_clo hSc) hFc hZ.2.2.1.2, hN, FrZ_tr hFa (FrZ_of hFc)⟩
  rcases hW_any hG with ⟨t6, rfl⟩ | ⟨t6, hG⟩
  · rcases hr6.2 with ⟨_, hB⟩ | ⟨z, _⟩
    · rw [bSet_1] at hB
      have hB1 := Bb_lp hB (r6.2.1 45 + 1)
      have hFx : FrZ M P E.2.2.2.1 σ (mLp r6.2 (r6.2.1 45 + 1)) := FrZ_tr (FrZ_of (FrM_tr hF5 hr6.1)) (FrZ_lp _)
      generalize mLp r6.2 (r6.2.1 45 + 1) = ρ1 at hB1 hFx
      refine Tm_suc (fun k => by rw [xS_4]) ?_
      refine Tm_ob (b_block (d := d) hB1.1) (fun r hr => ?_)
      obtain ⟨u, ρ2⟩ := r
      have hr : ρ2 = ρ1 := hr
      subst hr
      rw [hN]
      refine Tm_chk (n_in (by omega) (by omega)) ?_
      rw [n_cl (p := b.1) (by omega)]
      show Tm (fun k => x_GS k (d + 1) 4 4 N (mSet ρ2 6 b.1 u)) _
      exact wh4b (Bb_set hB1) (FrZ_tr hFx (FrZ_of (FrM_set (by decide) (by decide) (Or.inr hM) _))) hN hM (by omega) (by omega) (by omega)
    · exact absurd z t6
  rcases hr6.2 with ⟨z, _⟩ | ⟨_, hS6⟩
  · exact absurd t6 z
  have hZ6 := PZ_fr2 hZ5 hS6 hr6.1 (by have := hZ.2.2.1.2; omega)
  have h45 : r6.2.1 45 + 1 = nI (lp + 1) := by rw [hZ6.2.2.1.1]; exact n_add (p := lp) (q := 1) (by have := hZ6.2.2.1.2; omega)
  rw [h45]
  exact blk _ (PZ_lp hZ6 (by have := hZ.2.2.1.2; omega)) (FrZ_tr (FrZ_of (FrM_tr hF5 hr6.1)) (FrZ_lp _)) hG
end STM
end JnS66
section JnS67
variable {yf : Nat × Nat}
/-! Statements of the reference: what is written of each. -/
def mAr (σ : MS) (j i : Nat) (x : Int32) : MS := (σ.1, σ.2.1, updG σ.2.2 j (upd (σ.2.2 j) i x))
def mSt (σ : MS) (x : Int32) : MS := (upd σ.1 44 x, σ.2.1, σ.2.2)
section STM
variable {T : Nat → Int32} {n : Nat} {E : En} {o q v M P w lp : Nat} {b : BT} {s : SB} {MD : Nat → Nat → Nat} {σ τ : MS}
theorem PS_g (h : PS T n E o q v b σ) (hs : ∀ j, τ.1 j = σ.1 j) (hg : ∀ j, j ≠ 10 → j ≠ 11 → τ.2.2 j = σ.2.2 j) : PS T n E o q v b τ := by
  obtain ⟨⟨⟨a1, a2⟩, a3, a4, a5, ⟨c1, c2, c3, c4, c5, c6⟩, a6⟩, ⟨d1, d2⟩, ⟨e1, e2, e3, e4, e5⟩, ⟨f1, f2, f3, f4, f5⟩, ⟨⟨g1, g2, g3⟩, ⟨g4, g5, g6⟩, ⟨g7, g8, g9⟩⟩, ⟨i1, i2, i3⟩⟩ := h
  have gg : ∀ j, j ≠ 10 → j ≠ 11 → ∀ i, τ.2.2 j i = σ.2.2 j i := fun j hj hk i => by rw [hg j hj hk]
  refine ⟨⟨⟨(hs 4).trans a1, a2⟩, (hg 3 (by decide) (by decide)).trans a3, (hg 1 (by decide) (by decide)).trans a4, (hs 10).trans a5, ⟨c1, (hs 8).trans c2, (hs 5).trans c3, (hs 9).trans c4, (hs 6).trans c5, ?_⟩, a6⟩, ⟨(hs 13).trans d1, d2⟩, ⟨(hs 22).trans e1, e2, (hs 24).trans e3, fun j h4 h9 i hi hi2 => (gg j (by omega) (by omega) i).trans (e4 j h4 h9 i hi hi2), fun i hi => (gg 12 (by decide) (by decide) i).trans (e5 i hi)⟩, ⟨(hs 37).trans f1, f2, (gg 21 (by decide) (by decide) _).trans f3, f4, fun i hi => (gg 20 (by decide) (by decide) _).trans (f5 i hi)⟩, ⟨⟨(hs 38).trans g1, g2, ?_⟩, ⟨(hs 52).trans g4, g5, ?_⟩, ⟨(hs 25).trans g7, g8, ?_⟩⟩, ⟨?_, ?_, ?_⟩⟩
  · obtain ⟨w, hw⟩ := c6
    exact ⟨w, (hs 7).trans hw⟩
  · rw [hg 22 (by decide) (by decide), hg 23 (by decide) (by decide), hg 24 (by decide) (by decide)]; exact g3
  · rw [hg 25 (by decide) (by decide), hg 26 (by decide) (by decide), hg 27 (by decide) (by decide)]; exact g6
  · rw [hg 13 (by decide) (by decide), hg 14 (by decide) (by decide), hg 15 (by decide) (by decide), hg 16 (by decide) (by decide)]; exact g9
  · rw [hs 43]; exact i1
  · rw [hs 42]; exact i2
  · rw [hg 18 (by decide) (by decide)]; exact i3
theorem mAr_o {j i k : Nat} {x : Int32} (h : k ≠ j) : (mAr σ j i x).2.2 k = σ.2.2 k := updG_other h
theorem mAr_s {j i : Nat} {x : Int32} : (mAr σ j i x).2.2 j = upd (σ.2.2 j) i x := updG_same
theorem FrZ_ar {j i : Nat} {x : Int32} (hj : j = 10 ∨ j = 11) : FrZ M P w σ (mAr σ j i x) := by
  refine ⟨fun _ _ => rfl, rfl, fun k hk => mAr_o (by omega), fun k h4 h9 i _ _ => ?_, fun i _ => ?_, fun i _ => ?_, fun i _ => ?_⟩
  · rw [mAr_o (by omega)]
  · rw [mAr_o (by omega)]
  · rw [mAr_o (by omega)]
  · rw [mAr_o (by omega)]
theorem Bb_ar {m j i : Nat} {x : Int32} (h : Bb yf m σ) : Bb yf m (mAr σ j i x) := h
theorem FrZ_st (x : Int32) : FrZ M P w σ (mSt σ x) := ⟨fun j hj => upd_other (by omega), rfl, fun _ _ => rfl, fun _ _ _ _ _ _ => rfl, fun _ _ => rfl, fun _ _ => rfl, fun _ _ => rfl⟩
theorem PZ_pl {i : Nat} {x : Int32} (h : PZ T n MD E lp o q v b s σ) : PZ T n MD E lp o q v b (sPl s i x) (mAr σ 11 i x) := by
  obtain ⟨h1, h2, h3, h4, h5, h6⟩ := h
  refine ⟨PS_g h1 (fun _ => rfl) (fun j _ hj => mAr_o hj), ?_, h3, h4, h5, fun k => ?_⟩
  · unfold PMs; rw [mAr_o (by decide)]; exact h2
  · rw [mAr_o (by decide), mAr_s]
    refine ⟨(h6 k).1, ?_⟩
    show upd (σ.2.2 11) i x k = upd s.2.2 i x k
    by_cases c : k = i
    · subst c; rw [upd_same, upd_same]
    · rw [upd_other c, upd_other c]; exact (h6 k).2
theorem PZ_up {i : Nat} {x : Int32} (h : PZ T n MD E lp o q v b s σ) : PZ T n MD E lp o q v b (sUp s i x) (mAr σ 10 i x) := by
  obtain ⟨h1, h2, h3, h4, h5, h6⟩ := h
  refine ⟨PS_g h1 (fun _ => rfl) (fun j hj _ => mAr_o hj), ?_, h3, h4, h5, fun k => ?_⟩
  · unfold PMs; rw [mAr_o (by decide)]; exact h2
  · rw [mAr_o (j := 10) (k := 11) (by decide), mAr_s]
    refine ⟨?_, (h6 k).2⟩
    show upd (σ.2.2 10) i x k = upd s.2.1 i x k
    by_cases c : k = i
    · subst c; rw [upd_same, upd_same]
    · rw [upd_other c, upd_other c]; exact (h6 k).1
theorem PZ_st (h : PZ T n MD E lp o q v b s σ) (hs : ¬ s.1 = 400) : PZ T n MD E lp o q v b (sMo s) (mSt σ (nI (s.1 + 1))) := by
  obtain ⟨h1, h2, h3, h4, h5, h6⟩ := h
  refine ⟨PS_sc h1 (fun j hj => upd_other (by omega)), h2, ⟨?_, h3.2⟩, (upd_same : upd σ.1 44 (nI (s.1 + 1)) 44 = nI (s.1 + 1)), (by show s.1 + 1 ≤ 400; omega), h6⟩
  show upd σ.1 44 (nI (s.1 + 1)) 45 = nI lp
  rw [upd_other (by decide)]; exact h3.1
theorem st14b {d m e st K : Nat} {ρ : MS} {N : Nat → Int32} (hB : Bb yf m ρ) (hF : FrZ M P E.2.2.2.1 σ ρ) (hN4 : N 4 = nI e) (he : e = 0 ∨ M ≤ e) (he2 : e < 70000) (hN2 : N 2 = nI st) (hst : st < 401) (hK : m ≤ K) (hM : M ≤ m) : Tm (fun k => x_GS k d 3 14 N ρ) (PoZ T n MD E lp o M P K σ (Sum.inl yf)) := by
  refine Tm_suc (fun k => by rw [xS_3]) ?_
  show Tm (fun k => if ¬ (N 4 < 0 ∨ 70000 ≤ (N 4).toNatClampNeg) then x_GS k d 3 15 N (mSet ρ 8 (N 4).toNatClampNeg (N 2)) else none) _
  rw [hN4]
  refine Tm_chk (n_in (by omega) (by omega)) ?_
  rw [n_cl (p := e) (by omega)]
  have hB1 : Bb yf m (mSet ρ 8 e (N 2)) := Bb_set hB
  have hF1 : FrZ M P E.2.2.2.1 σ (mSet ρ 8 e (N 2)) := FrZ_tr hF (FrZ_of (FrM_set (by decide) (by decide) he _))
  generalize mSet ρ 8 e (N 2) = ρ1 at hB1 hF1
  refine Tm_suc (fun k => by rw [xS_3]) ?_
  show Tm (fun k => if ¬ (N 2 < 0 ∨ 401 ≤ (N 2).toNatClampNeg) then x_GS k d 3 16 N (mAr ρ1 11 (N 2).toNatClampNeg (N 3)) else none) _
  rw [hN2]
  refine Tm_chk (n_in (by omega) (by omega)) ?_
  rw [n_cl (p := st) (by omega)]
  refine Tm_suc (fun k => by rw [xS_3]) ?_
  exact Tm_some ⟨⟨m, Bb_ar hB1, hK, hM⟩, ⟨e, hN4, he2, he⟩, FrZ_tr hF1 (FrZ_ar (Or.inr rfl))⟩
theorem st14 {d K q0 : Nat} {t : ST} {ρ : MS} {N : Nat → Int32} (hZ : PZ T n MD E lp o t.1 t.2.1 t.2.2.2.2.1 t.2.2.2.2.2 ρ) (hF : FrZ M P E.2.2.2.1 σ ρ) (hN4 : N 4 = nI t.2.2.2.1) (he : M ≤ t.2.2.2.1) (he2 : t.2.2.2.1 < 70000) (hN2 : N 2 = nI s.1) (hst : s.1 < 401) (hN3 : N 3 = nI q0) : Tm (fun k => x_GS k d 3 14 N ρ) (PoZ T n MD E lp o M P K σ (Sum.inr (t.1, t.2.1, s.1, t.2.2.2.1, bSet t.2.2.2.2.1 8 t.2.2.2.1 (nI s.1), sPl t.2.2.2.2.2 s.1 (nI q0)))) := by
  refine Tm_suc (fun k => by rw [xS_3]) ?_
  show Tm (fun k => if ¬ (N 4 < 0 ∨ 70000 ≤ (N 4).toNatClampNeg) then x_GS k d 3 15 N (mSet ρ 8 (N 4).toNatClampNeg (N 2)) else none) _
  rw [hN4]
  refine Tm_chk (n_in (by omega) (by omega)) ?_
  rw [n_cl (p := t.2.2.2.1) (by omega), hN2]
  have hS1 := PS_set hZ.1 (j := 8) (l := t.2.2.2.1) (by decide) (by decide) (nI s.1)
  have hF0 : FrM M P E.2.2.2.1 ρ (mSet ρ 8 t.2.2.2.1 (nI s.1)) := FrM_set (by decide) (by decide) (Or.inr he) _
  have hZ1 := PZ_fr2 hZ hS1 hF0 hZ.2.2.1.2
  have hF1 := FrZ_tr hF (FrZ_of hF0)
  generalize mSet ρ 8 t.2.2.2.1 (nI s.1) = ρ1 at hZ1 hF1
  refine Tm_suc (fun k => by rw [xS_3]) ?_
  show Tm (fun k => if ¬ (N 2 < 0 ∨ 401 ≤ (N 2).toNatClampNeg) then x_GS k d 3 16 N (mAr ρ1 11 (N 2).toNatClampNeg (N 3)) else none) _
  rw [hN2]
  refine Tm_chk (n_in (by omega) (by omega)) ?_
  rw [n_cl (p := s.1) (by omega), hN3]
  refine Tm_suc (fun k => by rw [xS_3]) ?_
  exact Tm_some ⟨PZ_pl hZ1, hN4, FrZ_tr hF1 (FrZ_ar (Or.inr rfl))⟩
end STM
end JnS67
section JnS68
variable {yf : Nat × Nat}
/-! A statement of the reference. -/
/-- ifs, whiles, fors -/
def SC (T : Nat → Int32) (n : Nat) (MD : Nat → Nat → Nat) (f nt m : Nat) : Prop := ∀ (E : En) (lp o q v : Nat) (b : BT) (s : SB) (x : Fl ST), GS T n MD f nt E lp o q v 0 0 0 b s = some x → ¬ tkK T n q = 25 → ¬ o = 20 → ∀ (σ : MS) (L : Nat → Int32) (d M P : Nat), PZ T n MD E lp o q v b s σ → 1 ≤ M → M ≤ b.1 → P ≤ b.2.1 → b.1 + (n + 1 - q) + 967 + d ≤ 70000 → b.2.1 + (n - q) ≤ 70000 → 3 * (20 - o) ≤ d + 1 → Tm (fun k => x_GS k d m 0 L σ) (PoZ T n MD E lp o M P (b.1 + (n + 1 - q) + 964 + d) σ x)
section STM
variable {T : Nat → Int32} {n : Nat} {E : En} {o q v M P w lp : Nat} {b : BT} {s : SB} {MD : Nat → Nat → Nat} {σ τ : MS}
theorem sc_4 {f : Nat} (H0 : SB0 T n MD f) : SC T n MD (f + 1) 4 4 := fun E lp o q v b s x hG hK ho σ L d M P hZ h1 hM hP hn hp hd => by
  have ho2 := PS_o hZ.1
  obtain ⟨d', rfl⟩ : ∃ d', d = d' + 1 := ⟨d - 1, by omega⟩
  exact e_whiles H0 hG hK ho hZ h1 hM hP hn hp (by omega)
abbrev rS (s : SB) (q : Nat) (r : ST) : SR := some (Sum.inr (r.1, r.2.1, s.1, r.2.2.2.1, bSet r.2.2.2.2.1 8 r.2.2.2.1 (nI s.1), sPl r.2.2.2.2.2 s.1 (nI q)))
/-- behind a statement of one piece -/
theorem st_lf {X : RG} {y : Fl RT} {x : Fl ST} {d K K' : Nat} {ρ : MS} {N : Nat → Int32} {r : Int32 × MS} (hX : X = some y) (hmo : ∀ u, X = some (Sum.inr u) → MoS n M b q v u) (hG : hb (lb X (lif (sMo s))) (rS s q) = some x) (hZ : PZ T n MD E lp o q v b (sMo s) ρ) (hF : FrZ M P E.2.2.2.1 σ ρ) (hr : Po T n E o M P K' ρ y r) (hN2 : N 2 = nI s.1) (hN3 : N 3 = nI q) (hst : s.1 < 401) (hK : K' ≤ K) (hb : b.1 + (n + 1 - q) ≤ 70000) : Tm (fun k => x_GS k d 3 14 (upd N 4 r.1) r.2) (PoZ T n MD E lp o M P K σ x) := by
  have j2 : upd N 4 r.1 2 = nI s.1 := by rw [upd_other (by decide)]; exact hN2
  have j3 : upd N 4 r.1 3 = nI q := by rw [upd_other (by decide)]; exact hN3
  have j4 : upd N 4 r.1 4 = r.1 := upd_same
  generalize upd N 4 r.1 = N' at j2 j3 j4
  cases y with
  | inl yf =>
    obtain ⟨⟨m, hm, hmk, hMm⟩, ⟨e, e1, e2, e3⟩, hF1⟩ := hr
    rw [hX] at hG
    have hx := (Option.some.inj hG).symm
    subst hx
    exact st14b hm (FrZ_tr hF (FrZ_of hF1)) (j4.trans e1) e3 e2 j2 hst (by omega) hMm
  | inr u =>
    obtain ⟨hS1, hr1, hF1⟩ := hr
    obtain ⟨⟨a1, a2, a3, a4, a5, a6, a7, a8⟩, a9, a10⟩ := hmo u hX
    rw [hX] at hG
    have hx := Option.some.inj hG
    subst hx
    exact st14 (t := (u.1, u.2.1, 0, u.2.2.2.1, u.2.2.2.2.1, sMo s)) (PZ_fr2 hZ hS1 hF1 hZ.2.2.1.2) (FrZ_tr hF (FrZ_of hF1)) (j4.trans hr1) a9.1 (by show u.2.2.2.1 < 70000; omega) j2 hst j3
/-- behind a statement with parts -/
theorem st_cp {X : SR} {y : Fl ST} {x : Fl ST} {d K K' : Nat} {ρ : MS} {N : Nat → Int32} {r : Int32 × MS} (hX : X = some y) (hmo : ∀ u, X = some (Sum.inr u) → (M ≤ u.2.2.2.1 ∧ u.2.2.2.1 < 70000)) (hG : hb X (rS s q) = some x) (hF : FrZ M P E.2.2.2.1 σ ρ) (hr : PoZ T n MD E lp o M P K' ρ y r) (hN2 : N 2 = nI s.1) (hN3 : N 3 = nI q) (hst : s.1 < 401) (hK : K' ≤ K) : Tm (fun k => x_GS k d 3 14 (upd N 4 r.1) r.2) (PoZ T n MD E lp o M P K σ x) := by
  have j2 : upd N 4 r.1 2 = nI s.1 := by rw [upd_other (by decide)]; exact hN2
  have j3 : upd N 4 r.1 3 = nI q := by rw [upd_other (by decide)]; exact hN3
  have j4 : upd N 4 r.1 4 = r.1 := upd_same
  generalize upd N 4 r.1 = N' at j2 j3 j4
  cases y with
  | inl yf =>
    obtain ⟨⟨m, hm, hmk, hMm⟩, ⟨e, e1, e2, e3⟩, hF1⟩ := hr
    rw [hX] at hG
    have hx := (Option.some.inj hG).symm
    subst hx
    exact st14b hm (FrZ_tr hF hF1) (j4.trans e1) e3 e2 j2 hst (by omega) hMm
  | inr u =>
    obtain ⟨hZ1, hr1, hF1⟩ := hr
    have a9 := hmo u hX
    rw [hX] at hG
    have hx := Option.some.inj hG
    subst hx
    exact st14 (t := u) hZ1 (FrZ_tr hF hF1) (j4.trans hr1) a9.1 a9.2 j2 hst j3
theorem st8 {f d K : Nat} {x : Fl ST} {ρ : MS} {N : Nat → Int32} (H2 : SC T n MD f 2 2) (H4 : SC T n MD f 4 4) (H5 : SC T n MD f 5 1)
    (hG : hb (if tkK T n q = 26 then lb (gBg T n f MD E o q v b) (lif (sMo s))
        else if tkK T n q = 10 then lb (gPa T n f E o q v b) (lif (sMo s))
        else if tkK T n q = 39 then GS T n MD f 2 E lp o q v 0 0 0 b (sMo s)
        else if tkK T n q = 43 then GS T n MD f 4 E lp o q v 0 0 0 b (sMo s)
        else if tkK T n q = 45 then GS T n MD f 5 E lp o q v 0 0 0 b (sMo s)
        else lb (gSm T n f lp E o q v b) (lif (sMo s))) (rS s q) = some x)
    (hSt : isSt (tkK T n q)) (hOp : isOp (tkK T n q) → ¬ o = 20) (hZ : PZ T n MD E lp o q v b (sMo s) ρ) (hF : FrZ M P E.2.2.2.1 σ ρ) (hN2 : N 2 = nI s.1) (hst : s.1 < 400) (h1 : 1 ≤ M) (hM : M ≤ b.1) (hP : P ≤ b.2.1) (hn : b.1 + (n + 1 - q) + 967 + d ≤ 70000) (hp : b.2.1 + (n - q) ≤ 70000) (hd : 3 * (20 - o) ≤ d) (hK : b.1 + (n + 1 - q) + 964 + d ≤ K) : Tm (fun k => x_GS k d 3 8 N ρ) (PoZ T n MD E lp o M P K σ x) := by
  have hS := hZ.1
  have hq := PS_q hS
  have hv := PS_v hS
  have h8 : ρ.1 8 = nI q := (PS_cur hS).2.1
  have hc := cur_kind (PS_cur hS)
  have hw := cur_what (PS_cur hS)
  refine Tm_suc (fun k => by rw [xS_3]) ?_
  refine Tm_ite (fun z => ?_) (fun z26 => ?_)
  · have hK26 := hc.2.1.mp z
    rw [if_pos hK26] at hG
    obtain ⟨y, hy⟩ : ∃ y, gBg T n f MD E o q v b = some y := by
      rcases hb_any hG with ⟨yf, h, _⟩ | ⟨u, h, _⟩
      · rcases lb_any h with ⟨yf, h, _⟩ | ⟨_, h, _⟩
        · exact ⟨_, h⟩
        · exact ⟨_, h⟩
      · rcases lb_any h with ⟨yf, h, _⟩ | ⟨_, h, _⟩
        · exact ⟨_, h⟩
        · exact ⟨_, h⟩
    refine Tm_ob (p_begun (M := M) (P := P) hy hK26 hS hZ.2.1 h1 hM hP (by omega) hp) (fun r hr => ?_)
    exact st_lf hy (fun u hu => moBg hq.1 hv h1 hM hu) hG hZ hF hr (by rw [upd_other (by decide)]; exact hN2) (by rw [upd_same]; exact h8) (by omega) (by omega) (by omega)
  have zK26 : ¬ tkK T n q = 26 := fun y => z26 (hc.2.1.mpr y)
  rw [if_neg zK26] at hG
  have j2 : upd (upd N 3 (ρ.1 8)) 4 0 2 = nI s.1 := by rw [upd_other (by decide), upd_other (by decide)]; exact hN2
  have j3 : upd (upd N 3 (ρ.1 8)) 4 0 3 = nI q := by rw [upd_other (by decide), upd_same]; exact h8
  generalize upd (upd N 3 (ρ.1 8)) 4 0 = N1 at j2 j3
  refine Tm_suc (fun k => by rw [xS_3]) ?_
  refine Tm_ob (p_sign hS (s := 10) (by decide) (by decide) rfl) (fun r1 hr1 => ?_)
  obtain ⟨u, τ⟩ := r1
  obtain ⟨h3, hr1⟩ := hr1
  have h3 : τ = ρ := h3
  subst h3
  refine Tm_ite (fun z1 => ?_) (fun z => ?_)
  · have z10 : ¬ tkK T n q = 10 := fun y => hr1.mpr y z1
    rw [if_neg z10] at hG
    have hK32 : 32 ≤ tkK T n q := by rcases hSt with y | y | y | y | y | y <;> omega
    have h7 : τ.1 7 = nI (tkK T n q - 32) := hw.2.1 hK32
    have hb85 := hw.2.2
    have isw : ∀ {s : Nat}, s < 2147483648 → (τ.1 7 = nI s ↔ tkK T n q - 32 = s) := fun hs => is_n h7 (by omega) hs
    have mo : ∀ nt : Nat, (nt = 2 ∨ nt = 4 ∨ nt = 5) → ∀ u : ST, GS T n MD f nt E lp o q v 0 0 0 b (sMo s) = some (Sum.inr u) → (M ≤ u.2.2.2.1 ∧ u.2.2.2.1 < 70000) := fun nt hnt u hu => by
      obtain ⟨⟨b1, b2, b3, b4, b5, b6, b7, b8, b9, b10⟩, _, e2, _⟩ := gs_mo f _ _ _ _ _ _ _ _ _ _ _ u M (by omega) hq.1 hv hZ.2.2.2.2.1 hu h1 hM (fun z => absurd z (by omega)) (fun _ _ => by omega)
      have e2 := (e2 (by omega)).1
      exact ⟨e2.1, by omega⟩
    refine Tm_suc (fun k => by rw [xS_3]) ?_
    refine Tm_ite (fun z => ?_) (fun y7 => ?_)
    · have z := (isw (s := 7) (by decide)).mp z
      have z : tkK T n q = 39 := by omega
      rw [if_pos z] at hG
      have ho := hOp (Or.inl z)
      have ho2 := PS_o hS
      obtain ⟨d', rfl⟩ : ∃ d', d = d' + 1 := ⟨d - 1, by omega⟩
      obtain ⟨y, hy⟩ : ∃ y, GS T n MD f 2 E lp o q v 0 0 0 b (sMo s) = some y := by
        rcases hb_any hG with ⟨yf, h, _⟩ | ⟨u, h, _⟩
        · exact ⟨_, h⟩
        · exact ⟨_, h⟩
      refine Tm_ob (H2 _ _ _ _ _ _ _ y hy (by omega) ho τ (fun _ => 0) d' M P hZ h1 hM hP (by omega) hp (by omega)) (fun r hr => ?_)
      exact st_cp hy (mo 2 (by decide)) hG hF hr j2 j3 (by omega) (by omega)
    have y7 : ¬ tkK T n q = 39 := fun y => y7 ((isw (s := 7) (by decide)).mpr (by omega))
    rw [if_neg y7] at hG
    refine Tm_suc (fun k => by rw [xS_3]) ?_
    refine Tm_ite (fun z => ?_) (fun y11 => ?_)
    · have z := (isw (s := 11) (by decide)).mp z
      have z : tkK T n q = 43 := by omega
      rw [if_pos z] at hG
      have ho := hOp (Or.inr (Or.inl z))
      have ho2 := PS_o hS
      obtain ⟨d', rfl⟩ : ∃ d', d = d' + 1 := ⟨d - 1, by omega⟩
      obtain ⟨y, hy⟩ : ∃ y, GS T n MD f 4 E lp o q v 0 0 0 b (sMo s) = some y := by
        rcases hb_any hG with ⟨yf, h, _⟩ | ⟨u, h, _⟩
        · exact ⟨_, h⟩
        · exact ⟨_, h⟩
      refine Tm_ob (H4 _ _ _ _ _ _ _ y hy (by omega) ho τ (fun _ => 0) d' M P hZ h1 hM hP (by omega) hp (by omega)) (fun r hr => ?_)
      exact st_cp hy (mo 4 (by decide)) hG hF hr j2 j3 (by omega) (by omega)
    have y11 : ¬ tkK T n q = 43 := fun y => y11 ((isw (s := 11) (by decide)).mpr (by omega))
    rw [if_neg y11] at hG
    refine Tm_suc (fun k => by rw [xS_3]) ?_
    refine Tm_ite (fun z => ?_) (fun y13 => ?_)
    · have z := (isw (s := 13) (by decide)).mp z
      have z : tkK T n q = 45 := by omega
      rw [if_pos z] at hG
      have ho := hOp (Or.inr (Or.inr (Or.inl z)))
      have ho2 := PS_o hS
      obtain ⟨d', rfl⟩ : ∃ d', d = d' + 1 := ⟨d - 1, by omega⟩
      obtain ⟨y, hy⟩ : ∃ y, GS T n MD f 5 E lp o q v 0 0 0 b (sMo s) = some y := by
        rcases hb_any hG with ⟨yf, h, _⟩ | ⟨u, h, _⟩
        · exact ⟨_, h⟩
        · exact ⟨_, h⟩
      refine Tm_ob (H5 _ _ _ _ _ _ _ y hy (by omega) ho τ (fun _ => 0) d' M P hZ h1 hM hP (by omega) hp (by omega)) (fun r hr => ?_)
      exact st_cp hy (mo 5 (by decide)) hG hF hr j2 j3 (by omega) (by omega)
    have y13 : ¬ tkK T n q = 45 := fun y => y13 ((isw (s := 13) (by decide)).mpr (by omega))
    rw [if_neg y13] at hG
    have hsm : 49 ≤ tkK T n q ∧ tkK T n q ≤ 56 := by
      rcases hSt with y | y | y | y | y | y
      · exact absurd y zK26
      · exact absurd y z10
      · exact absurd y y7
      · exact absurd y y11
      · exact absurd y y13
      · exact y
    obtain ⟨y, hy⟩ : ∃ y, gSm T n f lp E o q v b = some y := by
      rcases hb_any hG with ⟨yf, h, _⟩ | ⟨u, h, _⟩
      · rcases lb_any h with ⟨yf, h, _⟩ | ⟨_, h, _⟩
        · exact ⟨_, h⟩
        · exact ⟨_, h⟩
      · rcases lb_any h with ⟨yf, h, _⟩ | ⟨_, h, _⟩
        · exact ⟨_, h⟩
        · exact ⟨_, h⟩
    refine Tm_suc (fun k => by rw [xS_3]) ?_
    refine Tm_ob (p_simple (M := M) (P := P) hy hsm.1 hsm.2 (by rw [hZ.2.2.1.1]; exact n_eq0 (by have := hZ.2.2.1.2; have := PS_o hS; omega)) hS h1 hM hP (by omega) hp) (fun r hr => ?_)
    exact st_lf hy (fun u hu => moSm hq.1 hv h1 hM hu) hG hZ hF hr j2 j3 (by omega) (by omega) (by omega)
  · have hK10 := hr1.mp z
    rw [if_pos hK10] at hG
    obtain ⟨y, hy⟩ : ∃ y, gPa T n f E o q v b = some y := by
      rcases hb_any hG with ⟨yf, h, _⟩ | ⟨u, h, _⟩
      · rcases lb_any h with ⟨yf, h, _⟩ | ⟨_, h, _⟩
        · exact ⟨_, h⟩
        · exact ⟨_, h⟩
      · rcases lb_any h with ⟨yf, h, _⟩ | ⟨_, h, _⟩
        · exact ⟨_, h⟩
        · exact ⟨_, h⟩
    refine Tm_ob (p_partsOf (M := M) (P := P) hy (by omega) hS h1 hM hP (by omega) hp) (fun r hr => ?_)
    exact st_lf hy (fun u hu => moPa hq.1 hv h1 hM hu) hG hZ hF hr j2 j3 (by omega) (by omega) (by omega)
end STM
end JnS68
section JnS69
variable {yf : Nat × Nat}
/-! A statement of the reference: from its beginning. -/
section STM
variable {T : Nat → Int32} {n : Nat} {E : En} {o q v M P w lp : Nat} {b : BT} {s : SB} {MD : Nat → Nat → Nat} {σ τ : MS}
theorem st5b {d m K : Nat} {ρ : MS} {N : Nat → Int32} (hB : Bb yf m ρ) (hF : FrZ M P E.2.2.2.1 σ ρ) (hK : m ≤ K) (hM : M ≤ m) : Tm (fun k => x_GS k d 3 6 N ρ) (PoZ T n MD E lp o M P K σ (Sum.inl yf)) := by
  refine Tm_suc (fun k => by rw [xS_3]) ?_
  refine Tm_ite (fun z => absurd z hB.1) (fun _ => ?_)
  exact Tm_some ⟨⟨m, hB, hK, hM⟩, ⟨0, rfl, by decide, Or.inl rfl⟩, hF⟩
theorem e_statement {f d : Nat} {x : Fl ST} {L : Nat → Int32} {pe : Int32} {i l : Nat} (H2 : SC T n MD f 2 2) (H4 : SC T n MD f 4 4) (H5 : SC T n MD f 5 1) (hG : GS T n MD (f + 1) 1 E lp o q v pe i l b s = some x) (hZ : PZ T n MD E lp o q v b s σ) (h1 : 1 ≤ M) (hM : M ≤ b.1) (hP : P ≤ b.2.1) (hn : b.1 + (n + 1 - q) + 967 + d ≤ 70000) (hp : b.2.1 + (n - q) ≤ 70000) (hd : 3 * (20 - o) ≤ d) : Tm (fun k => x_GS k d 3 0 L σ) (PoZ T n MD E lp o M P (b.1 + (n + 1 - q) + 964 + d) σ x) := by
  have hS := hZ.1
  have ho := PS_o hS
  simp only [GS] at hG
  refine Tm_suc (fun k => by rw [xS_3]) ?_
  refine Tm_ob (p_isSt hS _) (fun r hr => ?_)
  obtain ⟨u, τ⟩ := r
  obtain ⟨h3, hr⟩ := hr
  have h3 : τ = σ := h3
  subst h3
  refine Tm_ite (fun z => ?_) (fun z => ?_)
  · rw [if_pos (Or.inl (fun y => hr.mpr y z)), stF_2 (fun y => hr.mpr y z)] at hG
    have hx := (Option.some.inj hG).symm
    subst hx
    refine Tm_ob (p_cannot (M := M) (P := P) (w := E.2.2.2.1) hS _) (fun rc hrc => ?_)
    exact Tm_some ⟨⟨_, hrc.1, by omega, hM⟩, ⟨0, rfl, by decide, Or.inl rfl⟩, FrZ_of hrc.2⟩
  have hSt := hr.mp z
  -- how many statements
  have five : ∀ N : Nat → Int32, ¬ (isOp (tkK T n q) ∧ o = 20) → Tm (fun k => x_GS k d 3 5 N τ) (PoZ T n MD E lp o M P (b.1 + (n + 1 - q) + 964 + d) τ x) := fun N hop => by
    refine Tm_suc (fun k => by rw [xS_3]) ?_
    refine Tm_ite (fun _ => ?_) (fun z => absurd (PS_ok hS) z)
    have h44 : τ.1 44 = nI s.1 := hZ.2.2.2.1
    have hs4 := hZ.2.2.2.2.1
    rw [h44, show (400 : Int32) = nI 400 from rfl]
    refine Tm_ite (fun z => ?_) (fun z => ?_)
    · rw [n_eq (by omega) (by omega)] at z
      rw [if_pos (Or.inr (Or.inr z)), stF_8 hSt hop] at hG
      have hx := (Option.some.inj hG).symm
      subst hx
      refine Tm_ob (p_fault (M := M) (P := P) (w := E.2.2.2.1) (yf := (8, q)) hS _ (by rfl) (by exact PS_8 hS)) (fun rc hrc => ?_)
      exact st5b hrc.1 (FrZ_of hrc.2) (by omega) hM
    rw [n_eq (by omega) (by omega)] at z
    rw [if_neg (fun c => c.elim (fun c => c hSt) (fun c => c.elim hop z))] at hG
    refine Tm_suc (fun k => by rw [xS_3]) ?_
    refine Tm_ite (fun _ => ?_) (fun z => absurd (PS_ok hS) z)
    refine Tm_suc (fun k => by rw [xS_3]) ?_
    show Tm (fun k => x_GS k d 3 8 (upd N 2 (τ.1 44)) (mSt τ (τ.1 44 + 1))) _
    have h45 : τ.1 44 + 1 = nI (s.1 + 1) := by rw [h44]; exact n_add (p := s.1) (q := 1) (by omega)
    rw [h45]
    exact st8 H2 H4 H5 hG hSt (fun y w => hop ⟨y, w⟩) (PZ_st hZ z) (FrZ_st _) (by rw [upd_same]; exact h44) (by omega) h1 hM hP hn hp hd (Nat.le_refl _)
  have two : isOp (tkK T n q) → Tm (fun k => x_GS k d 3 2 L τ) (PoZ T n MD E lp o M P (b.1 + (n + 1 - q) + 964 + d) τ x) := fun hop => by
    refine Tm_suc (fun k => by rw [xS_3]) ?_
    show Tm (fun k => x_GS k d 3 4 (upd L 100 1) τ) _
    refine Tm_suc (fun k => by rw [xS_3]) ?_
    show Tm (fun k => if τ.1 13 = 20 then (ob (x_fault k 0 (upd (upd (fun _ => 0) 1 3) 2 (τ.1 8)) τ) (fun r3 => x_GS k d 3 5 (upd (upd L 100 1) 1 (upd L 100 1 100)) r3.2)) else (x_GS k d 3 5 (upd (upd L 100 1) 1 (upd L 100 1 100)) τ)) _
    rw [hS.2.1.1, show (20 : Int32) = nI 20 from rfl]
    refine Tm_ite (fun z => ?_) (fun z => ?_)
    · rw [n_eq (by omega) (by omega)] at z
      rw [if_pos (Or.inr (Or.inl ⟨hop, z⟩)), stF_3 hSt hop z] at hG
      have hx := (Option.some.inj hG).symm
      subst hx
      refine Tm_ob (p_fault (M := M) (P := P) (w := E.2.2.2.1) (yf := (3, q)) hS _ (by rfl) (by exact PS_8 hS)) (fun rc hrc => ?_)
      refine Tm_suc (fun k => by rw [xS_3]) ?_
      refine Tm_ite (fun z => absurd z hrc.1.1) (fun _ => ?_)
      exact st5b hrc.1 (FrZ_of hrc.2) (by omega) hM
    · rw [n_eq (by omega) (by omega)] at z
      exact five _ (fun c => z c.2)
  have three : ¬ isOp (tkK T n q) → Tm (fun k => x_GS k d 3 3 L τ) (PoZ T n MD E lp o M P (b.1 + (n + 1 - q) + 964 + d) τ x) := fun hop => by
    refine Tm_suc (fun k => by rw [xS_3]) ?_
    show Tm (fun k => x_GS k d 3 4 (upd L 100 0) τ) _
    refine Tm_suc (fun k => by rw [xS_3]) ?_
    show Tm (fun k => x_GS k d 3 5 (upd (upd L 100 0) 1 (upd L 100 0 100)) τ) _
    exact five _ (fun c => hop c.1)
  refine Tm_suc (fun k => by rw [xS_3]) ?_
  refine Tm_ob (p_word hS (s := 7) (by decide) rfl) (fun r1 hr1 => ?_)
  obtain ⟨u1, ρ1⟩ := r1
  obtain ⟨h3, hr1⟩ := hr1
  have h3 : ρ1 = τ := h3
  subst h3
  refine Tm_ite (fun z1 => ?_) (fun z => two (Or.inl (hr1.mp z)))
  refine Tm_ob (p_word hS (s := 11) (by decide) rfl) (fun r2 hr2 => ?_)
  obtain ⟨u2, ρ2⟩ := r2
  obtain ⟨h3, hr2⟩ := hr2
  have h3 : ρ2 = ρ1 := h3
  subst h3
  refine Tm_ite (fun z2 => ?_) (fun z => two (Or.inr (Or.inl (hr2.mp z))))
  refine Tm_ob (p_word hS (s := 13) (by decide) rfl) (fun r4 hr4 => ?_)
  obtain ⟨u4, ρ4⟩ := r4
  obtain ⟨h3, hr4⟩ := hr4
  have h3 : ρ4 = ρ2 := h3
  subst h3
  refine Tm_ite (fun z3 => ?_) (fun z => two (Or.inr (Or.inr (Or.inl (hr4.mp z)))))
  refine Tm_ob (p_sign hS (s := 10) (by decide) (by decide) rfl) (fun r5 hr5 => ?_)
  obtain ⟨u5, ρ5⟩ := r5
  obtain ⟨h3, hr5⟩ := hr5
  have h3 : ρ5 = ρ4 := h3
  subst h3
  refine Tm_ite (fun z5 => ?_) (fun z => two (Or.inr (Or.inr (Or.inr (hr5.mp z)))))
  refine three (fun y => ?_)
  rcases y with y | y | y | y
  · exact hr1.mpr y z1
  · exact hr2.mpr y z2
  · exact hr4.mpr y z3
  · exact hr5.mpr y z5
end STM
end JnS69
section JnS70
variable {yf : Nat × Nat}
/-! A block of the reference. -/
def SZ1 (T : Nat → Int32) (n : Nat) (MD : Nat → Nat → Nat) (f : Nat) : Prop := ∀ (E : En) (lp o q v : Nat) (b : BT) (s : SB) (x : Fl ST), GS T n MD f 1 E lp o q v 0 0 0 b s = some x → ∀ (σ : MS) (L : Nat → Int32) (d M P : Nat), PZ T n MD E lp o q v b s σ → 1 ≤ M → M ≤ b.1 → P ≤ b.2.1 → b.1 + (n + 1 - q) + 967 + d ≤ 70000 → b.2.1 + (n - q) ≤ 70000 → 3 * (20 - o) ≤ d → Tm (fun k => x_GS k d 3 0 L σ) (PoZ T n MD E lp o M P (b.1 + (n + 1 - q) + 964 + d) σ x)
def SL0 (T : Nat → Int32) (n : Nat) (MD : Nat → Nat → Nat) (f : Nat) : Prop := ∀ (E : En) (lp o q v : Nat) (pe : Int32) (i l : Nat) (b : BT) (s : SB) (x : Fl ST), GS T n MD f 0 E lp o q v pe i l b s = some x → ∀ (σ : MS) (L : Nat → Int32) (d M P : Nat), PZ T n MD E lp o q v b s σ → 1 ≤ M → M ≤ b.1 → P ≤ b.2.1 → b.1 + (n + 1 - q) + 967 + d ≤ 70000 → b.2.1 + (n - q) ≤ 70000 → 3 * (20 - o) + 1 ≤ d → L 1 = pe → L 2 = hd i → (¬ i = 0 → L 3 = nI l ∧ M ≤ l ∧ l < b.1 ∧ M ≤ i ∧ i < b.1) → Tm (fun k => x_GS k d 0 1 L σ) (PoB T n MD E lp o M P (b.1 + (n + 1 - q) + 964 + d) σ x)
theorem PoB_tr {T : Nat → Int32} {n : Nat} {MD : Nat → Nat → Nat} {E : En} {lp o M P k k' : Nat} {σ τ : MS} {x : Fl ST} {r : Int32 × MS} (h : FrZ M P E.2.2.2.1 σ τ) (hk : k' ≤ k) (hp : PoB T n MD E lp o M P k' τ x r) : PoB T n MD E lp o M P k σ x r := by
  cases x with
  | inl yf =>
    obtain ⟨⟨m, h1, h2, h3⟩, h4⟩ := hp
    exact ⟨⟨m, h1, by omega, h3⟩, FrZ_tr h h4⟩
  | inr t => exact ⟨hp.1, hp.2.1, FrZ_tr h hp.2.2⟩
section STM
variable {T : Nat → Int32} {n : Nat} {MD : Nat → Nat → Nat}
theorem sb_of {f : Nat} (H : SL0 T n MD f) : SB0 T n MD f := fun E lp o q v pe b s x hG σ L d M P hZ h1 hM hP hn hp hd hL => by
  refine Tm_suc (fun k => by rw [xS_0]) ?_
  show Tm (fun k => x_GS k d 0 1 (upd (upd L 2 (-1)) 3 (-1)) σ) _
  exact H E lp o q v pe 0 0 b s x hG σ _ d M P hZ h1 hM hP hn hp hd (by rw [upd_other (by decide), upd_other (by decide)]; exact hL) (by rw [upd_other (by decide), upd_same]; rfl) (fun z => absurd rfl z)
theorem e_block {f : Nat} (H1 : SZ1 T n MD f) (H0 : SL0 T n MD f) : SL0 T n MD (f + 1) := fun E lp o q v pe i l b s x hG σ L d M P hZ h1 hM hP hn hp hdd hL1 hL2 hL3 => by
  have hS := hZ.1
  have hq := PS_q hS
  have hv := PS_v hS
  simp only [GS] at hG
  refine Tm_suc (fun k => by rw [xS_0]) ?_
  refine Tm_ite (fun _ => ?_) (fun z => absurd (PS_ok hS) z)
  refine Tm_ob (p_isBE hS _) (fun r hr => ?_)
  obtain ⟨u, τ⟩ := r
  obtain ⟨h3, hr⟩ := hr
  have h3 : τ = σ := h3
  subst h3
  refine Tm_ite (fun z => ?_) (fun z => ?_)
  · rw [if_neg (fun y => hr.mpr y z)] at hG
    obtain ⟨d', rfl⟩ : ∃ d', d = d' + 1 := ⟨d - 1, by omega⟩
    rcases hb_any hG with ⟨yf, h7, hy⟩ | ⟨t, h7, hG⟩
    · subst hy
      refine Tm_ob (H1 _ _ _ _ _ _ _ (Sum.inl yf) h7 τ (fun _ => 0) d' M P hZ h1 hM hP (by omega) hp (by omega)) (fun r4 hr4 => ?_)
      obtain ⟨⟨m, hm, hmk, hMm⟩, _, hF⟩ := hr4
      refine Tm_ite (fun z => absurd z hm.1) (fun _ => ?_)
      exact Tm_some ⟨⟨m, hm, by omega, hMm⟩, hF⟩
    obtain ⟨⟨a1, a2, a3, a4, a5, a6, a7, a8, a9, a10⟩, _, e2, e3⟩ := gs_mo f _ _ _ _ _ _ _ _ _ _ _ t M (by decide) hq.1 hv hZ.2.2.2.2.1 h7 h1 hM (fun z => absurd z (by decide)) (fun z => absurd z (by decide))
    obtain ⟨⟨e21, e22⟩, e23⟩ := e2 (by decide)
    obtain ⟨e31, e32, e33⟩ := e3 rfl
    refine Tm_ob (H1 _ _ _ _ _ _ _ (Sum.inr t) h7 τ (fun _ => 0) d' M P hZ h1 hM hP (by omega) hp (by omega)) (fun r4 hr4 => ?_)
    obtain ⟨hZ4, hr41, hF4⟩ := hr4
    refine Tm_ite (fun _ => ?_) (fun z => absurd (PS_ok hZ4.1) z)
    have j1 : upd L 4 r4.1 1 = pe := by rw [upd_other (by decide)]; exact hL1
    have j2 : upd L 4 r4.1 2 = hd i := by rw [upd_other (by decide)]; exact hL2
    have j3 : upd L 4 r4.1 3 = L 3 := by rw [upd_other (by decide)]
    have j4 : upd L 4 r4.1 4 = nI t.2.2.2.1 := by rw [upd_same]; exact hr41
    generalize upd L 4 r4.1 = N at j1 j2 j3 j4
    refine Tm_suc (fun k => by rw [xS_0]) ?_
    show Tm (fun k => if ¬ (N 4 < 0 ∨ 70000 ≤ (N 4).toNatClampNeg) then (if ¬ (r4.2.2.2 8 (N 4).toNatClampNeg < 0 ∨ 401 ≤ (r4.2.2.2 8 (N 4).toNatClampNeg).toNatClampNeg) then x_GS k (d' + 1) 0 3 N (mAr r4.2 10 (r4.2.2.2 8 (N 4).toNatClampNeg).toNatClampNeg (N 1)) else none) else none) _
    rw [j4]
    refine Tm_chk (n_in (by omega) (by omega)) ?_
    rw [n_cl (p := t.2.2.2.1) (by omega)]
    have h8 : r4.2.2.2 8 t.2.2.2.1 = nI s.1 := (hZ4.1.2.2.1.2.2.2.1 8 (by decide) (by decide) _ (by omega) e22).trans e33
    rw [h8]
    refine Tm_chk (n_in (by omega) (by omega)) ?_
    rw [n_cl (p := s.1) (by omega), j1]
    have hZ5 : PZ T n MD E lp o t.1 t.2.1 t.2.2.2.2.1 (sUp t.2.2.2.2.2 t.2.2.1 pe) (mAr r4.2 10 s.1 pe) := by rw [e31]; exact PZ_up hZ4
    have hF5 : FrZ M P E.2.2.2.1 τ (mAr r4.2 10 s.1 pe) := FrZ_tr hF4 (FrZ_ar (Or.inl rfl))
    generalize mAr r4.2 10 s.1 pe = σ5 at hZ5 hF5
    have hf2 := fst2_b (M := M) (m := t.2.2.2.2.1.1) (i := i) (fun z => ⟨(hL3 z).2.2.2.1, by have := (hL3 z).2.2.2.2; omega⟩) ⟨e21, e22⟩
    have f20 : ¬ fst2 i t.2.2.2.1 = 0 := by omega
    have hi70 : i < 70000 := by
      by_cases c : i = 0
      · omega
      · have := (hL3 c).2.2.2.2; omega
    have five : ∀ (ρ : MS) (N' : Nat → Int32), PZ T n MD E lp o t.1 t.2.1 (bLnk i l t.2.2.2.1 t.2.2.2.2.1) (sUp t.2.2.2.2.2 t.2.2.1 pe) ρ → FrZ M P E.2.2.2.1 τ ρ → N' 1 = pe → N' 2 = hd (fst2 i t.2.2.2.1) → N' 4 = nI t.2.2.2.1 → Tm (fun k => x_GS k (d' + 1) 0 5 N' ρ) (PoB T n MD E lp o M P (b.1 + (n + 1 - q) + 964 + (d' + 1)) τ x) := fun ρ N' hZ6 hF6 k1 k2 k4 => by
      refine Tm_suc (fun k => by rw [xS_0]) ?_
      show Tm (fun k => x_GS k (d' + 1) 0 1 (upd N' 3 (N' 4)) ρ) _
      refine Tm_mono (H0 _ _ _ _ _ _ _ _ _ _ x hG ρ _ (d' + 1) M P hZ6 h1 (by rw [bLnk_1]; omega) (by rw [bLnk_p]; omega) (by rw [bLnk_1]; omega) (by rw [bLnk_p]; omega) hdd (by rw [upd_other (by decide)]; exact k1) (by rw [upd_other (by decide)]; exact k2) (fun _ => ⟨by rw [upd_same]; exact k4, e21, by rw [bLnk_1]; exact e22, hf2.1, by rw [bLnk_1]; exact hf2.2⟩)) (fun r hr => ?_)
      exact PoB_tr hF6 (by rw [bLnk_1]; omega) hr
    refine Tm_suc (fun k => by rw [xS_0]) ?_
    refine Tm_ite (fun z => ?_) (fun z => ?_)
    · have i0 : i = 0 := (hd_no hi70).mp (by rw [← j2]; exact z)
      subst i0
      refine five σ5 _ hZ5 hF5 (by rw [upd_other (by decide)]; exact j1) ?_ (by rw [upd_other (by decide)]; exact j4)
      rw [upd_same, j4]; exact (hd_pos (i := t.2.2.2.1) (by omega)).symm
    have i0 : ¬ i = 0 := fun y => z (by show N 2 = -1; rw [j2]; exact (hd_no hi70).mpr y)
    obtain ⟨k3, l1, l2, _, _⟩ := hL3 i0
    refine Tm_suc (fun k => by rw [xS_0]) ?_
    show Tm (fun k => if ¬ (N 3 < 0 ∨ 70000 ≤ (N 3).toNatClampNeg) then x_GS k (d' + 1) 0 5 N (mSet σ5 9 (N 3).toNatClampNeg (N 4)) else none) _
    rw [j3, k3]
    refine Tm_chk (n_in (by omega) (by omega)) ?_
    rw [n_cl (p := l) (by omega), j4]
    have eb : bLnk i l t.2.2.2.1 t.2.2.2.2.1 = bSet t.2.2.2.2.1 9 l (nI t.2.2.2.1) := if_neg i0
    have ef : fst2 i t.2.2.2.1 = i := if_neg i0
    have hFs : FrM M P E.2.2.2.1 σ5 (mSet σ5 9 l (nI t.2.2.2.1)) := FrM_set (by decide) (by decide) (Or.inr l1) _
    refine five (mSet σ5 9 l (nI t.2.2.2.1)) N (by rw [eb]; exact PZ_fr2 hZ5 (PS_set hZ5.1 (by decide) (by decide) _) hFs hZ5.2.2.1.2) (FrZ_tr hF5 (FrZ_of hFs)) j1 (by rw [ef]; exact j2) j4
  · rw [if_pos (hr.mp z)] at hG
    cases hG
    refine Tm_suc (fun k => by rw [xS_0]) ?_
    exact Tm_some ⟨hZ, hL2, FrZ_rf⟩
end STM
end JnS70
section JnS71
variable {yf : Nat × Nat}
/-! Fors of the reference. -/
def mSn (σ : MS) (x : Int32) : MS := (upd σ.1 38 x, σ.2.1, σ.2.2)
section STM
variable {T : Nat → Int32} {n : Nat} {E : En} {o q v M P w lp : Nat} {b : BT} {s : SB} {MD : Nat → Nat → Nat} {σ τ : MS}
theorem PZ_see {ns : List Nm} {o' q' v' : Nat} {b' : BT} (h : PZ T n MD E lp o q v b s σ) (hS : PS T n (seeN E ns) o' q' v' b' τ) (hF : FrM M P w σ τ) (ho : lp ≤ o') : PZ T n MD (seeN E ns) lp o' q' v' b' s τ := by
  obtain ⟨_, h2, h3, h4, h5, h6⟩ := h
  have h2' := PMs_fr h2 hF
  refine ⟨hS, h2', ?_, ?_, h5, ?_⟩
  · rw [hF.1 45 (by decide)]; exact ⟨h3.1, ho⟩
  · rw [hF.1 44 (by decide)]; exact h4
  · rw [hF.2.2.1 10 (by decide), hF.2.2.1 11 (by decide)]; exact h6
theorem PZ_uns {ns : List Nm} {o' q' v' : Nat} {b' : BT} (h : PZ T n MD (seeN E ns) lp o q v b s σ) (hS : PS T n E o' q' v' b' τ) (hF : FrM M P w σ τ) (ho : lp ≤ o') : PZ T n MD E lp o' q' v' b' s τ := by
  obtain ⟨_, h2, h3, h4, h5, h6⟩ := h
  have h2' : PMs τ E MD := PMs_fr h2 hF
  refine ⟨hS, h2', ?_, ?_, h5, ?_⟩
  · rw [hF.1 45 (by decide)]; exact ⟨h3.1, ho⟩
  · rw [hF.1 44 (by decide)]; exact h4
  · rw [hF.2.2.1 10 (by decide), hF.2.2.1 11 (by decide)]; exact h6
theorem Bb_snZ {m : Nat} (h : Bb yf m σ) (x : Int32) : Bb yf m (mSn σ x) := ⟨by show ¬ upd σ.1 38 x 10 = 0; rw [upd_other (by decide)]; exact h.1, by show upd σ.1 38 x 22 = _ ∧ upd σ.1 38 x 11 = _ ∧ upd σ.1 38 x 12 = _; rw [upd_other (by decide), upd_other (by decide), upd_other (by decide)]; exact h.2⟩
theorem FrM_snZ (x : Int32) : FrM M P w σ (mSn σ x) := FrM_sc (fun j hj => upd_other (by omega))
theorem fo5b {d m e K : Nat} {ρ : MS} {N : Nat → Int32} (hB : Bb yf m ρ) (hF : FrZ M P E.2.2.2.1 σ ρ) (hN : N 1 = nI e) (he : M ≤ e) (he2 : e < 70000) (hK : m ≤ K) (hM : M ≤ m) : Tm (fun k => x_GS k d 1 5 N ρ) (PoZ T n MD E lp o M P K σ (Sum.inl yf)) := by
  refine Tm_suc (fun k => by rw [xS_1]) ?_
  show Tm (fun k => x_GS k d 1 6 N (mLp ρ (ρ.1 45 - 1))) _
  have hB1 := Bb_lp hB (ρ.1 45 - 1)
  have hF1 : FrZ M P E.2.2.2.1 σ (mLp ρ (ρ.1 45 - 1)) := FrZ_tr hF (FrZ_lp _)
  generalize mLp ρ (ρ.1 45 - 1) = ρ1 at hB1 hF1
  refine Tm_suc (fun k => by rw [xS_1]) ?_
  refine Tm_ob (b_wantWord hB1.1 _) (fun r hr => ?_)
  obtain ⟨u, τ⟩ := r
  have hr : τ = ρ1 := hr
  subst hr
  refine Tm_ob (b_want hB1.1 _) (fun r hr => ?_)
  obtain ⟨u, ρ2⟩ := r
  have hr : ρ2 = τ := hr
  subst hr
  show Tm (fun k => x_GS k d 1 7 N (mSn ρ2 (N 2))) _
  have hB2 := Bb_snZ hB1 (N 2)
  have hF2 : FrZ M P E.2.2.2.1 σ (mSn ρ2 (N 2)) := FrZ_tr hF1 (FrZ_of (FrM_snZ _))
  generalize mSn ρ2 (N 2) = ρ3 at hB2 hF2
  refine Tm_suc (fun k => by rw [xS_1]) ?_
  show Tm (fun k => x_GS k d 1 8 N (mOpn ρ3 (ρ3.1 13 - 1))) _
  refine Tm_suc (fun k => by rw [xS_1]) ?_
  exact Tm_some ⟨⟨m, Bb_opn hB2 _, hK, hM⟩, ⟨e, hN, he2, Or.inr he⟩, FrZ_tr hF2 (FrZ_of (FrM_opn _))⟩
theorem fo4b {d m e K : Nat} {ρ : MS} {N : Nat → Int32} (hB : Bb yf m ρ) (hF : FrZ M P E.2.2.2.1 σ ρ) (hN : N 1 = nI e) (he : M ≤ e) (he2 : e < 70000) (hK : m ≤ K) (hM : M ≤ m) : Tm (fun k => x_GS k (d + 1) 1 4 N ρ) (PoZ T n MD E lp o M P K σ (Sum.inl yf)) := by
  refine Tm_suc (fun k => by rw [xS_1]) ?_
  refine Tm_ob (b_block (d := d) hB.1) (fun r hr => ?_)
  obtain ⟨u, ρ2⟩ := r
  have hr : ρ2 = ρ := hr
  subst hr
  rw [hN]
  refine Tm_chk (n_in (by omega) (by omega)) ?_
  rw [n_cl (p := e) (by omega)]
  show Tm (fun k => x_GS k (d + 1) 1 5 N (mSet ρ2 7 e u)) _
  exact fo5b (Bb_set hB) (FrZ_tr hF (FrZ_of (FrM_set (by decide) (by decide) (Or.inr he) _))) hN he he2 hK hM
theorem fo3b {d m e K : Nat} {ρ : MS} {N : Nat → Int32} (hB : Bb yf m ρ) (hF : FrZ M P E.2.2.2.1 σ ρ) (hN : N 1 = nI e) (he : M ≤ e) (he2 : e < 70000) (hK : m ≤ K) (hM : M ≤ m) : Tm (fun k => x_GS k (d + 1) 1 3 N ρ) (PoZ T n MD E lp o M P K σ (Sum.inl yf)) := by
  refine Tm_suc (fun k => by rw [xS_1]) ?_
  refine Tm_ob (b_wantWord hB.1 _) (fun r hr => ?_)
  obtain ⟨u, τ⟩ := r
  have hr : τ = ρ := hr
  subst hr
  show Tm (fun k => x_GS k (d + 1) 1 4 N (mLp τ (τ.1 45 + 1))) _
  exact fo4b (Bb_lp hB _) (FrZ_tr hF (FrZ_lp _)) hN he he2 hK hM
theorem fo2b {d m e K : Nat} {ρ : MS} {N : Nat → Int32} (hB : Bb yf m ρ) (hF : FrZ M P E.2.2.2.1 σ ρ) (hN : N 1 = nI e) (he : M ≤ e) (he2 : e < 70000) (hK : m ≤ K) (hM : M ≤ m) : Tm (fun k => x_GS k (d + 1) 1 2 N ρ) (PoZ T n MD E lp o M P K σ (Sum.inl yf)) := by
  refine Tm_suc (fun k => by rw [xS_1]) ?_
  refine Tm_ite (fun z => absurd z hB.1) (fun _ => ?_)
  exact fo3b hB hF hN he he2 hK hM
/-- from 'do' on -/
theorem fo3 {f d e q3 v3 K : Nat} {b3 : BT} {ns : List Nm} {x : Fl ST} {ρ : MS} {N : Nat → Int32} (H0 : SB0 T n MD f) (hG : hW T n 44 q3 (fun q4 => hb (GS T n MD f 0 (seeN E ns) (lp + 1) (o + 1) q4 v3 (nI e) 0 0 b3 s) (fun t => hE T n t.1 (fun q5 => some (Sum.inr (q5, t.2.1, 0, e, bSet t.2.2.2.2.1 7 e (hd t.2.2.2.1), t.2.2.2.2.2))))) = some x) (hZ : PZ T n MD (seeN E ns) lp (o + 1) q3 v3 b3 s ρ) (hlo : lp ≤ o) (hF : FrZ M P E.2.2.2.1 σ ρ) (hN : N 1 = nI e) (hN2 : N 2 = nI E.2.1.length) (he : M ≤ e) (h1 : 1 ≤ M) (hM : M ≤ b3.1) (he2 : e < b3.1) (hP : P ≤ b3.2.1) (hn : b3.1 + (n + 1 - q3) + 967 + d ≤ 70000) (hp : b3.2.1 + (n - q3) ≤ 70000) (hdd : 3 * (20 - (o + 1)) + 1 ≤ d) (hK : b3.1 + (n + 1 - q3) + 964 + d ≤ K) : Tm (fun k => x_GS k (d + 1) 1 3 N ρ) (PoZ T n MD E lp o M P K σ x) := by
  have hS := hZ.1
  have hq := PS_q hS
  have hv := PS_v hS
  have hu := tkN_b T n q3 hq.1
  refine Tm_suc (fun k => by rw [xS_1]) ?_
  refine Tm_ob (p_wantWord (M := M) (P := P) (w := E.2.2.2.1) hS (s := 12) (by decide) rfl) (fun r6 hr6 => ?_)
  show Tm (fun k => x_GS k (d + 1) 1 4 N (mLp r6.2 (r6.2.1 45 + 1))) _
  rcases hW_any hG with ⟨t6, rfl⟩ | ⟨t6, hG⟩
  · rcases hr6.2 with ⟨_, hB⟩ | ⟨z, _⟩
    · exact fo4b (Bb_lp hB _) (FrZ_tr hF (FrZ_tr (FrZ_of hr6.1) (FrZ_lp _))) hN he (by omega) (by omega) hM
    · exact absurd z t6
  rcases hr6.2 with ⟨z, _⟩ | ⟨_, hS6⟩
  · exact absurd t6 z
  have hZ6 := PZ_fr2 hZ hS6 hr6.1 hZ.2.2.1.2
  have ho2 := PS_o hS6
  have h45 : r6.2.1 45 + 1 = nI (lp + 1) := by rw [hZ6.2.2.1.1]; exact n_add (p := lp) (q := 1) (by omega)
  rw [h45]
  have hZ7 := PZ_lp hZ6 (lp' := lp + 1) (by omega)
  have hF7 : FrZ M P E.2.2.2.1 σ (mLp r6.2 (nI (lp + 1))) := FrZ_tr hF (FrZ_tr (FrZ_of hr6.1) (FrZ_lp _))
  generalize mLp r6.2 (nI (lp + 1)) = σ7 at hZ7 hF7
  refine Tm_suc (fun k => by rw [xS_1]) ?_
  rcases hb_any hG with ⟨yf, h8, hy⟩ | ⟨y, h8, hG⟩
  · subst hy
    refine Tm_ob (H0 _ (lp + 1) (o + 1) _ _ _ _ s (Sum.inl yf) h8 σ7 (upd (fun _ => 0) 1 (N 1)) d M P hZ7 h1 hM hP (by omega) (by omega) hdd (by rw [upd_same]; exact hN)) (fun r8 hr8 => ?_)
    obtain ⟨⟨m, hm, hmk, hMm⟩, hF8⟩ := hr8
    rw [hN]
    refine Tm_chk (n_in (by omega) (by omega)) ?_
    rw [n_cl (p := e) (by omega)]
    show Tm (fun k => x_GS k (d + 1) 1 5 N (mSet r8.2 7 e r8.1)) _
    exact fo5b (Bb_set hm) (FrZ_tr hF7 (FrZ_tr hF8 (FrZ_of (FrM_set (by decide) (by decide) (Or.inr he) _)))) hN he (by omega) (by omega) hMm
  obtain ⟨⟨b1, b2, b3', b4, b5, b6, b7, b8, b9, b10⟩, _⟩ := gs_mo f _ _ _ _ _ _ _ _ _ _ _ y M (by decide) hu.2.1 hv hZ.2.2.2.2.1 h8 h1 hM (fun _ z => absurd rfl z) (fun z => absurd z (by decide))
  refine Tm_ob (H0 _ (lp + 1) (o + 1) _ _ _ _ s (Sum.inr y) h8 σ7 (upd (fun _ => 0) 1 (N 1)) d M P hZ7 h1 hM hP (by omega) (by omega) hdd (by rw [upd_same]; exact hN)) (fun r8 hr8 => ?_)
  obtain ⟨hZ8, hr81, hF8⟩ := hr8
  rw [hN, hr81]
  refine Tm_chk (n_in (by omega) (by omega)) ?_
  rw [n_cl (p := e) (by omega)]
  generalize hhd : hd y.2.2.2.1 = hx at hG
  show Tm (fun k => x_GS k (d + 1) 1 5 N (mSet r8.2 7 e hx)) _
  have hS9 := PS_set hZ8.1 (j := 7) (l := e) (by decide) (by decide) hx
  have hF9 : FrM M P E.2.2.2.1 r8.2 (mSet r8.2 7 e hx) := FrM_set (by decide) (by decide) (Or.inr he) _
  have hZ9 := PZ_fr2 hZ8 hS9 hF9 hZ8.2.2.1.2
  have hF9 : FrZ M P E.2.2.2.1 σ (mSet r8.2 7 e hx) := FrZ_tr hF7 (FrZ_tr hF8 (FrZ_of hF9))
  generalize mSet r8.2 7 e hx = σ9 at hS9 hZ9 hF9
  refine Tm_suc (fun k => by rw [xS_1]) ?_
  have h45 : σ9.1 45 - 1 = nI lp := by rw [hZ9.2.2.1.1]; exact n_sub (p := lp + 1) (q := 1) (by omega) (by omega)
  show Tm (fun k => x_GS k (d + 1) 1 6 N (mLp σ9 (σ9.1 45 - 1))) _
  rw [h45]
  have hZa := PZ_lp hZ9 (lp' := lp) (by omega)
  have hFa : FrZ M P E.2.2.2.1 σ (mLp σ9 (nI lp)) := FrZ_tr hF9 (FrZ_lp _)
  generalize mLp σ9 (nI lp) = σa at hZa hFa
  refine Tm_suc (fun k => by rw [xS_1]) ?_
  have fin : ∀ {yf : Nat × Nat} (ρ' : MS) (m : Nat), Bb yf m ρ' → M ≤ m → m ≤ K → FrZ M P E.2.2.2.1 σ ρ' → Tm (fun k => x_GS k (d + 1) 1 7 N (mSn ρ' (N 2))) (PoZ T n MD E lp o M P K σ (Sum.inl yf)) := fun {yf} ρ' m hB m1 m2 hF => by
    have hB2 := Bb_snZ hB (N 2)
    have hF2 : FrZ M P E.2.2.2.1 σ (mSn ρ' (N 2)) := FrZ_tr hF (FrZ_of (FrM_snZ _))
    generalize mSn ρ' (N 2) = ρ3 at hB2 hF2
    refine Tm_suc (fun k => by rw [xS_1]) ?_
    show Tm (fun k => x_GS k (d + 1) 1 8 N (mOpn ρ3 (ρ3.1 13 - 1))) _
    refine Tm_suc (fun k => by rw [xS_1]) ?_
    exact Tm_some ⟨⟨m, Bb_opn hB2 _, m2, m1⟩, ⟨e, hN, by omega, Or.inr he⟩, FrZ_tr hF2 (FrZ_of (FrM_opn _))⟩
  refine Tm_ob (p_wantWord (M := M) (P := P) (w := E.2.2.2.1) hZa.1 (s := 6) (by decide) rfl) (fun rb hrb => ?_)
  unfold hE at hG
  rcases hW_any hG with ⟨tb, rfl⟩ | ⟨tb, hG⟩
  · rcases hrb.2 with ⟨_, hB⟩ | ⟨z, _⟩
    · rw [bSet_1] at hB
      refine Tm_ob (b_want hB.1 _) (fun r hr => ?_)
      obtain ⟨u, ρ2⟩ := r
      have hr : ρ2 = rb.2 := hr
      subst hr
      exact fin rb.2 _ hB (by omega) (by omega) (FrZ_tr hFa (FrZ_of hrb.1))
    · exact absurd z tb
  rcases hrb.2 with ⟨z, _⟩ | ⟨_, hSb⟩
  · exact absurd tb z
  refine Tm_ob (p_want (M := M) (P := P) (w := E.2.2.2.1) hSb (s := 13) (by decide) (by decide) rfl) (fun rc hrc => ?_)
  rcases hW_any hG with ⟨tc, rfl⟩ | ⟨tc, hG⟩
  · rcases hrc.2 with ⟨_, hB⟩ | ⟨z, _⟩
    · rw [bSet_1] at hB
      exact fin rc.2 _ hB (by omega) (by omega) (FrZ_tr hFa (FrZ_tr (FrZ_of hrb.1) (FrZ_of hrc.1)))
    · exact absurd z tc
  rcases hrc.2 with ⟨z, _⟩ | ⟨_, hSc⟩
  · exact absurd tc z
  show Tm (fun k => x_GS k (d + 1) 1 7 N (mSn rc.2 (N 2))) _
  rw [hN2]
  have hSd : PS T n E (o + 1) _ _ _ (mSn rc.2 (nI E.2.1.length)) := PS_sn hSc
  have hFd : FrM M P E.2.2.2.1 σa (mSn rc.2 (nI E.2.1.length)) := FrM_tr hrb.1 (FrM_tr hrc.1 (FrM_snZ _))
  generalize mSn rc.2 (nI E.2.1.length) = σd at hSd hFd
  refine Tm_suc (fun k => by rw [xS_1]) ?_
  show Tm (fun k => x_GS k (d + 1) 1 8 N (mOpn σd (σd.1 13 - 1))) _
  refine Tm_suc (fun k => by rw [xS_1]) ?_
  cases hG
  have hFe : FrM M P E.2.2.2.1 σa (mOpn σd (σd.1 13 - 1)) := FrM_tr hFd (FrM_opn _)
  exact Tm_some ⟨PZ_uns hZa (PS_clo hSd) hFe hlo, hN, FrZ_tr hFa (FrZ_of hFe)⟩
end STM
end JnS71
section JnS72
variable {yf : Nat × Nat}
/-! Fors of the reference: from the beginning. -/
section STM
variable {T : Nat → Int32} {n : Nat} {E : En} {o q v M P w lp : Nat} {b : BT} {s : SB} {MD : Nat → Nat → Nat} {σ τ : MS}
/-- behind the iters -/
theorem fo2 {f d e q2 v2 K : Nat} {b2 : BT} {ns : List Nm} {x : Fl ST} {ρ : MS} {N : Nat → Int32} (H0 : SB0 T n MD f)
    (hG : hb (if tkK T n q2 = 15 then hT T n q2 (fun q3 => lb (G T n f 0 (seeN E ns) (o + 1) q3 v2 0 0 0 0 b2) (fun t => some (Sum.inr (t.1, t.2.1, 0, 0, bSet t.2.2.2.2.1 6 e (nI t.2.2.2.1), s)))) else some (Sum.inr (q2, v2, 0, 0, b2, s)))
          (fun c => hW T n 44 c.1 (fun q3 => hb (GS T n MD f 0 (seeN E ns) (lp + 1) (o + 1) q3 c.2.1 (nI e) 0 0 c.2.2.2.2.1 s) (fun t =>
            hE T n t.1 (fun q4 => some (Sum.inr (q4, t.2.1, 0, e, bSet t.2.2.2.2.1 7 e (hd t.2.2.2.1), t.2.2.2.2.2)))))) = some x)
    (hZ : PZ T n MD (seeN E ns) lp (o + 1) q2 v2 b2 s ρ) (hlo : lp ≤ o) (hF : FrZ M P E.2.2.2.1 σ ρ) (hN : N 1 = nI e) (hN2 : N 2 = nI E.2.1.length) (he : M ≤ e) (h1 : 1 ≤ M) (hM : M ≤ b2.1) (he2 : e < b2.1) (hP : P ≤ b2.2.1) (hn : b2.1 + (n + 1 - q2) + 967 + d ≤ 70000) (hp : b2.2.1 + (n - q2) ≤ 70000) (hdd : 3 * (20 - (o + 1)) + 1 ≤ d) (hK : b2.1 + (n + 1 - q2) + 964 + d ≤ K) : Tm (fun k => x_GS k (d + 1) 1 2 N ρ) (PoZ T n MD E lp o M P K σ x) := by
  have hS := hZ.1
  have hq := PS_q hS
  have hv := PS_v hS
  have hu := tkN_b T n q2 hq.1
  refine Tm_suc (fun k => by rw [xS_1]) ?_
  refine Tm_ite (fun _ => ?_) (fun z => absurd (PS_ok hS) z)
  refine Tm_ob (p_sign hS (s := 15) (by decide) (by decide) rfl) (fun r1 hr1 => ?_)
  obtain ⟨u, τ⟩ := r1
  obtain ⟨h3, hr1⟩ := hr1
  have h3 : τ = ρ := h3
  subst h3
  refine Tm_ite (fun z => ?_) (fun z => ?_)
  · rw [if_neg (fun y => hr1.mpr y z)] at hG
    exact fo3 H0 hG hZ hlo hF hN hN2 he h1 hM he2 hP hn hp hdd hK
  have hK15 := hr1.mp z
  rw [if_pos hK15] at hG
  have hu4 := hu.2.2.2 (by rw [hK15]; decide)
  have bad : ∀ {yf : Nat × Nat} (ρ' : MS) (m : Nat) (y : Int32), Bb yf m ρ' → M ≤ m → m ≤ K → FrM M P E.2.2.2.1 τ ρ' → Tm (fun k => x_GS k (d + 1) 1 3 N (mSet ρ' 6 e y)) (PoZ T n MD E lp o M P K σ (Sum.inl yf)) := fun {yf} ρ' m y hB m1 m2 hF' =>
    fo3b (Bb_set hB) (FrZ_tr hF (FrZ_of (FrM_tr hF' (FrM_set (by decide) (by decide) (Or.inr he) _)))) hN he (by omega) m2 m1
  refine Tm_ob (p_take (M := M) (P := P) (w := E.2.2.2.1) hS _) (fun r4 hr4 => ?_)
  rcases hb_any hG with ⟨yf, h7, hy⟩ | ⟨c, h7, hG⟩
  · subst hy
    rcases hT_any h7 with ⟨t4, ez⟩ | ⟨t4, h7⟩
    · cases ez
      rcases hr4.2 with ⟨_, hB⟩ | ⟨z, _⟩
      · refine Tm_ob (b_xexp hB.1 _) (fun r hr => ?_)
        subst hr
        rw [hN]
        refine Tm_chk (n_in (by omega) (by omega)) ?_
        rw [n_cl (p := e) (by omega)]
        exact bad r4.2 _ _ hB hM (by omega) hr4.1
      · exact absurd t4 z
    rcases hr4.2 with ⟨z, _⟩ | ⟨_, hS4⟩
    · exact absurd z t4
    rcases lb_any h7 with ⟨yf2, h8, ez⟩ | ⟨_, _, h⟩
    · cases ez
      refine Tm_ob (p_exp (M := M) (P := P) h8 hS4 h1 hM hP (by omega) (by omega)) (fun r5 hr5 => ?_)
      obtain ⟨⟨m1, hm, hmk, hMm⟩, _, hF5⟩ := hr5
      rw [hN]
      refine Tm_chk (n_in (by omega) (by omega)) ?_
      rw [n_cl (p := e) (by omega)]
      exact bad r5.2 _ _ hm hMm (by omega) (FrM_tr hr4.1 hF5)
    · cases h
  obtain ⟨t4, h7⟩ := hT_s h7
  rcases hr4.2 with ⟨z, _⟩ | ⟨_, hS4⟩
  · exact absurd z t4
  obtain ⟨t, h8, h7⟩ := lb_s h7
  obtain ⟨⟨a1, a2, a3, a4, a5, a6, a7, a8⟩, a9⟩ := mo_of (M := M) hu.2.1 hv h8 hM h1 trivial (fun h => h) (fun h => h)
  refine Tm_ob (p_exp (M := M) (P := P) h8 hS4 h1 hM hP (by omega) (by omega)) (fun r5 hr5 => ?_)
  obtain ⟨hS5, hr51, hF5⟩ := hr5
  rw [hN, hr51]
  refine Tm_chk (n_in (by omega) (by omega)) ?_
  rw [n_cl (p := e) (by omega)]
  cases h7
  show Tm (fun k => x_GS k (d + 1) 1 3 N (mSet r5.2 6 e (nI t.2.2.2.1))) _
  have hF6 : FrM M P E.2.2.2.1 τ (mSet r5.2 6 e (nI t.2.2.2.1)) := FrM_tr hr4.1 (FrM_tr hF5 (FrM_set (by decide) (by decide) (Or.inr he) _))
  exact fo3 H0 hG (PZ_fr2 hZ (PS_set hS5 (by decide) (by decide) _) hF6 hZ.2.2.1.2) hlo (FrZ_tr hF (FrZ_of hF6)) hN hN2 he h1 (by show M ≤ t.2.2.2.2.1.1; omega) (by show e < t.2.2.2.2.1.1; omega) (by show P ≤ t.2.2.2.2.1.2.1; omega) (by show t.2.2.2.2.1.1 + (n + 1 - t.1) + 967 + d ≤ 70000; omega) (by show t.2.2.2.2.1.2.1 + (n - t.1) ≤ 70000; omega) hdd (by show t.2.2.2.2.1.1 + (n + 1 - t.1) + 964 + d ≤ K; omega)
theorem sc_5 {f : Nat} (H0 : SB0 T n MD f) : SC T n MD (f + 1) 5 1 := fun E lp o q v b s x hG hKq ho σ L d M P hZ h1 hM hP hn hp hdd => by
  have hS := hZ.1
  have hq := PS_q hS
  have hv := PS_v hS
  have ho2 := PS_o hS
  have hu := tkN_b T n q hq.1
  have hu4 := hu.2.2.2 hKq
  obtain ⟨d, rfl⟩ : ∃ d', d = d' + 1 := ⟨d - 1, by omega⟩
  simp only [GS] at hG
  refine Tm_suc (fun k => by rw [xS_1]) ?_
  refine Tm_ob (p_nd (M := M) (P := P) (w := E.2.2.2.1) hS (by omega) hM) (fun r1 hr1 => ?_)
  obtain ⟨hr11, hS1, hF1⟩ := hr1
  have h13 : r1.2.1 13 + 1 = nI (o + 1) := by
    rw [hS1.2.1.1]; exact n_add (p := o) (q := 1) (by omega)
  show Tm (fun k => x_GS k (d + 1) 1 1 (upd L 1 r1.1) (mOpn r1.2 (r1.2.1 13 + 1))) _
  rw [h13]
  have hS2 := PS_opn hS1 (o' := o + 1) (by omega)
  have hF2 : FrM M P E.2.2.2.1 σ (mOpn r1.2 (nI (o + 1))) := FrM_tr hF1 (FrM_opn _)
  have hN : upd L 1 r1.1 1 = nI b.1 := by rw [upd_same]; exact hr11
  generalize mOpn r1.2 (nI (o + 1)) = σ2 at hS2 hF2
  generalize upd L 1 r1.1 = N at hN
  refine Tm_suc (fun k => by rw [xS_1]) ?_
  refine Tm_ob (p_take (M := M) (P := P) (w := E.2.2.2.1) hS2 _) (fun r3 hr3 => ?_)
  have hF3 := FrM_tr hF2 hr3.1
  have jN : ∀ y : Int32, upd N 2 y 1 = nI b.1 := fun y => by rw [upd_other (by decide)]; exact hN
  rcases hT_any hG with ⟨t3, rfl⟩ | ⟨t3, hG⟩
  · rcases hr3.2 with ⟨_, hB⟩ | ⟨z, _⟩
    · rw [bNode_1] at hB
      refine Tm_ob (b_iters (d := 320) hB.1) (fun r hr => ?_)
      rw [hN]
      refine Tm_chk (n_in (by omega) (by omega)) ?_
      rw [n_cl (p := b.1) (by omega)]
      have hB2 := Bb_f (τ := r.2) hB (fun j hj => by rw [hr.1]; exact upd_other (by omega))
      have hF4 : FrM M P E.2.2.2.1 σ r.2 := by rw [hr.1]; exact FrM_tr hF3 (FrM_sc (fun j hj => upd_other (by omega)))
      show Tm (fun k => x_GS k (d + 1) 1 2 (upd N 2 (r3.2.1 38)) (mSet r.2 5 b.1 r.1)) _
      exact fo2b (Bb_set hB2) (FrZ_of (FrM_tr hF4 (FrM_set (by decide) (by decide) (Or.inr hM) _))) (jN _) hM (by omega) (by omega) (by omega)
    · exact absurd t3 z
  rcases hr3.2 with ⟨z, _⟩ | ⟨_, hS3⟩
  · exact absurd z t3
  have h38 : r3.2.1 38 = nI E.2.1.length := hS3.2.2.2.2.1.1.1
  have H17 := (all_S (T := T) (n := n) f f (Nat.le_refl _)).2.2.2.2.2.2.2.2.2.2.2.2.2.2
  rcases lb_any hG with ⟨yf, h7, hy⟩ | ⟨t, h7, hG⟩
  · subst hy
    refine Tm_ob (m_iters (M := M) (P := P) (d := 320) H17 h7 hS3 h1 (by rw [bNode_1]; omega) (by rw [bNode_p]; omega) (by rw [bNode_1]; omega) (by rw [bNode_p]; omega) (by omega) (by decide) rfl) (fun r4 hr4 => ?_)
    obtain ⟨⟨m1, hm, hmk, hMm⟩, hF4⟩ := hr4
    rw [bNode_1] at hmk
    rw [hN]
    refine Tm_chk (n_in (by omega) (by omega)) ?_
    rw [n_cl (p := b.1) (by omega)]
    show Tm (fun k => x_GS k (d + 1) 1 2 (upd N 2 (r3.2.1 38)) (mSet r4.2 5 b.1 r4.1)) _
    exact fo2b (Bb_set hm) (FrZ_of (FrM_tr hF3 (FrM_tr hF4 (FrM_set (by decide) (by decide) (Or.inr hM) _)))) (jN _) hM (by omega) (by omega) hMm
  obtain ⟨x1, x2⟩ := g_mono T n f 17 _ _ _ _ _ _ _ _ _ t hu.2.1 hv h7 M (by rw [bNode_1]; omega) h1 (Or.inl rfl)
  have x1 : Mo n (bNode b 48 0 (-1) 0) (tkN T n q) v t := x1
  obtain ⟨a1, a2, a3, a4, a5, a6, a7, a8⟩ := x1
  rw [bNode_1] at a5 a6
  rw [bNode_p] at a7 a8
  refine Tm_ob (m_iters (M := M) (P := P) (d := 320) H17 h7 hS3 h1 (by rw [bNode_1]; omega) (by rw [bNode_p]; omega) (by rw [bNode_1]; omega) (by rw [bNode_p]; omega) (by omega) (by decide) rfl) (fun r4 hr4 => ?_)
  obtain ⟨hS4, hr41, hF4⟩ := hr4
  rw [hN, hr41]
  refine Tm_chk (n_in (by omega) (by omega)) ?_
  rw [n_cl (p := b.1) (by omega)]
  show Tm (fun k => x_GS k (d + 1) 1 2 (upd N 2 (r3.2.1 38)) (mSet r4.2 5 b.1 (nI t.2.2.2.1))) _
  have hF5 : FrM M P E.2.2.2.1 σ (mSet r4.2 5 b.1 (nI t.2.2.2.1)) := FrM_tr hF3 (FrM_tr hF4 (FrM_set (by decide) (by decide) (Or.inr hM) _))
  have hlp := hZ.2.2.1.2
  exact fo2 H0 hG (PZ_see hZ (PS_set hS4 (j := 5) (l := b.1) (by decide) (by decide) _) hF5 (by omega)) hlp (FrZ_of hF5) (jN _) (by rw [upd_same]; exact h38) hM h1 (by rw [bSet_1]; omega) (by rw [bSet_1]; omega) (by rw [bSet_p]; omega) (by rw [bSet_1]; omega) (by rw [bSet_p]; omega) (by omega) (by rw [bSet_1]; omega)
end STM
end JnS72
section JnS73
variable {yf : Nat × Nat}
/-! Ifs of the reference: after a fault. -/
section STM
variable {T : Nat → Int32} {n : Nat} {E : En} {o q v M P w lp : Nat} {b : BT} {s : SB} {MD : Nat → Nat → Nat} {σ τ : MS}
theorem if11b {d m e K : Nat} {ρ : MS} {N : Nat → Int32} (hB : Bb yf m ρ) (hF : FrZ M P E.2.2.2.1 σ ρ) (hN : N 1 = nI e) (he : M ≤ e) (he2 : e < 70000) (hK : m ≤ K) (hM : M ≤ m) : Tm (fun k => x_GS k d 2 11 N ρ) (PoZ T n MD E lp o M P K σ (Sum.inl yf)) := by
  refine Tm_suc (fun k => by rw [xS_2]) ?_
  refine Tm_ob (b_wantWord hB.1 _) (fun r hr => ?_)
  obtain ⟨u, τ⟩ := r
  have hr : τ = ρ := hr
  subst hr
  refine Tm_ob (b_want hB.1 _) (fun r hr => ?_)
  obtain ⟨u, ρ2⟩ := r
  have hr : ρ2 = τ := hr
  subst hr
  show Tm (fun k => x_GS k d 2 12 N (mOpn ρ2 (ρ2.1 13 - 1))) _
  refine Tm_suc (fun k => by rw [xS_2]) ?_
  exact Tm_some ⟨⟨m, Bb_opn hB _, hK, hM⟩, ⟨e, hN, he2, Or.inr he⟩, FrZ_tr hF (FrZ_of (FrM_opn _))⟩
theorem if10b {d m e K : Nat} {ρ : MS} {N : Nat → Int32} (hB : Bb yf m ρ) (hF : FrZ M P E.2.2.2.1 σ ρ) (hN : N 1 = nI e) (he : M ≤ e) (he2 : e < 70000) (hK : m ≤ K) (hM : M ≤ m) : Tm (fun k => x_GS k d 2 10 N ρ) (PoZ T n MD E lp o M P K σ (Sum.inl yf)) := by
  refine Tm_suc (fun k => by rw [xS_2]) ?_
  refine Tm_ite (fun z => absurd z hB.1) (fun _ => ?_)
  exact if11b hB hF hN he he2 hK hM
theorem if2b {d m e K : Nat} {ρ : MS} {N : Nat → Int32} (hB : Bb yf m ρ) (hF : FrZ M P E.2.2.2.1 σ ρ) (hN : N 1 = nI e) (he : M ≤ e) (he2 : e < 70000) (hK : m ≤ K) (hM : M ≤ m) : Tm (fun k => x_GS k d 2 2 N ρ) (PoZ T n MD E lp o M P K σ (Sum.inl yf)) := by
  refine Tm_suc (fun k => by rw [xS_2]) ?_
  refine Tm_ite (fun _ => if10b hB hF hN he he2 hK hM) (fun _ => ?_)
  refine Tm_ite (fun z => absurd z hB.1) (fun _ => ?_)
  exact if10b hB hF hN he he2 hK hM
theorem if6b {d m e K : Nat} {ρ : MS} {N : Nat → Int32} (hB : Bb yf m ρ) (hF : FrZ M P E.2.2.2.1 σ ρ) (hN : N 1 = nI e) (he : M ≤ e) (he2 : e < 70000) (hK : m ≤ K) (hM : M ≤ m) : Tm (fun k => x_GS k d 2 6 N ρ) (PoZ T n MD E lp o M P K σ (Sum.inl yf)) := by
  refine Tm_suc (fun k => by rw [xS_2]) ?_
  refine Tm_ite (fun z => absurd z hB.1) (fun _ => ?_)
  refine Tm_suc (fun k => by rw [xS_2]) ?_
  show Tm (fun k => x_GS k d 2 8 (upd (upd (upd N 2 (N 6)) 4 0) 100 0) ρ) _
  refine Tm_suc (fun k => by rw [xS_2]) ?_
  show Tm (fun k => x_GS k d 2 9 (upd (upd (upd (upd N 2 (N 6)) 4 0) 100 0) 3 0) ρ) _
  refine Tm_suc (fun k => by rw [xS_2]) ?_
  show Tm (fun k => x_GS k d 2 2 (upd (upd (upd (upd N 2 (N 6)) 4 0) 100 0) 3 0) ρ) _
  exact if2b hB hF (by rw [upd_other (by decide), upd_other (by decide), upd_other (by decide), upd_other (by decide)]; exact hN) he he2 hK hM
/-- a branch's node after a fault -/
theorem ifNb {d m e K : Nat} {ρ : MS} {N L : Nat → Int32} (hB : Bb yf m ρ) (hF : FrZ M P E.2.2.2.1 σ ρ) (hN : N 1 = nI e) (he : M ≤ e) (he2 : e < 70000) (hm : m < 70000) (hK : m + 1 ≤ K) (hM : M ≤ m) (hN2 : N 4 = 0 → ∃ l, N 2 = nI l ∧ M ≤ l ∧ l < 70000) : Tm (fun k => ob (x_node k 0 L ρ) (fun r3 => if N 4 = 0 then x_GS k d 2 5 (upd N 6 r3.1) r3.2 else (if ¬ (N 1 < 0 ∨ 70000 ≤ (N 1).toNatClampNeg) then x_GS k d 2 6 (upd N 6 r3.1) (mSet r3.2 5 (N 1).toNatClampNeg r3.1) else none))) (PoZ T n MD E lp o M P K σ (Sum.inl yf)) := by
  refine Tm_ob (b_node (M := M) (P := P) (w := E.2.2.2.1) hB hm hM _) (fun r hr => ?_)
  have hF1 := FrZ_tr hF (FrZ_of hr.2.2)
  have j1 : upd N 6 r.1 1 = nI e := by rw [upd_other (by decide)]; exact hN
  refine Tm_ite (fun z => ?_) (fun z => ?_)
  · obtain ⟨l, l1, l2, l3⟩ := hN2 z
    have j2 : upd N 6 r.1 2 = nI l := by rw [upd_other (by decide)]; exact l1
    generalize upd N 6 r.1 = N' at j1 j2
    refine Tm_suc (fun k => by rw [xS_2]) ?_
    show Tm (fun k => if ¬ (N' 2 < 0 ∨ 70000 ≤ (N' 2).toNatClampNeg) then x_GS k d 2 6 N' (mSet r.2 9 (N' 2).toNatClampNeg (N' 6)) else none) _
    rw [j2]
    refine Tm_chk (n_in (by omega) (by omega)) ?_
    rw [n_cl (p := l) (by omega)]
    exact if6b (Bb_set hr.2.1) (FrZ_tr hF1 (FrZ_of (FrM_set (by decide) (by decide) (Or.inr l2) _))) j1 he he2 hK (by omega)
  · rw [hN]
    refine Tm_chk (n_in (by omega) (by omega)) ?_
    rw [n_cl (p := e) (by omega)]
    exact if6b (Bb_set hr.2.1) (FrZ_tr hF1 (FrZ_of (FrM_set (by decide) (by decide) (Or.inr he) _))) j1 he he2 hK (by omega)
theorem if4b {d m e K : Nat} {ρ : MS} {N : Nat → Int32} (hB : Bb yf m ρ) (hF : FrZ M P E.2.2.2.1 σ ρ) (hN : N 1 = nI e) (he : M ≤ e) (he2 : e < 70000) (hm : m < 70000) (hK : m + 1 ≤ K) (hM : M ≤ m) (hN2 : N 4 = 0 → ∃ l, N 2 = nI l ∧ M ≤ l ∧ l < 70000) : Tm (fun k => x_GS k (d + 1) 2 4 N ρ) (PoZ T n MD E lp o M P K σ (Sum.inl yf)) := by
  refine Tm_suc (fun k => by rw [xS_2]) ?_
  refine Tm_ob (b_wantWord hB.1 _) (fun r hr => ?_)
  obtain ⟨u, τ⟩ := r
  have hr : τ = ρ := hr
  subst hr
  refine Tm_ob (b_block (d := d) hB.1) (fun r hr => ?_)
  obtain ⟨u, ρ2⟩ := r
  have hr : ρ2 = τ := hr
  subst hr
  exact ifNb (d := d + 1) (L := upd (upd (upd (upd (fun _ => 0) 1 33) 2 (N 5)) 3 u) 4 0) hB hF hN he he2 hm hK hM hN2
end STM
end JnS73
section JnS74
/-! Ifs of the reference: the branches. -/
section STM
variable {T : Nat → Int32} {n : Nat} {E : En} {o M P lp : Nat} {MD : Nat → Nat → Nat} {σ : MS}
/-- a branch's block has been read: its node, and on -/
theorem if6 {d e m K q v : Nat} {b : BT} {s : SB} {x : Fl ST} {ρ : MS} {N : Nat → Int32} (hZ : PZ T n MD E lp (o + 1) q v b s ρ) (hF : FrZ M P E.2.2.2.1 σ ρ) (hN : N 1 = nI e) (hN6 : N 6 = nI m) (he : M ≤ e) (he2 : e < 70000) (hM : M ≤ b.1) (hK : b.1 ≤ K)
    (hno : ¬ tkK T n q = 41 → ∀ N' : Nat → Int32, N' 1 = nI e → N' 2 = nI m → Tm (fun k => x_GS k (d + 1) 2 10 N' ρ) (PoZ T n MD E lp o M P K σ x))
    (hflt : tkK T n q = 41 → tkK T n (tkN T n q) = 0 → x = Sum.inl (1, tkN T n q))
    (hyes : tkK T n q = 41 → ¬ tkK T n (tkN T n q) = 0 → ∀ (ρ' : MS) (N' : Nat → Int32), FrZ M P E.2.2.2.1 σ ρ' → PZ T n MD E lp (o + 1) (tkN T n q) v b s ρ' → N' 1 = nI e → N' 2 = nI m → N' 3 = 1 → N' 4 = 0 → Tm (fun k => x_GS k (d + 1) 2 2 N' ρ') (PoZ T n MD E lp o M P K σ x)) : Tm (fun k => x_GS k (d + 1) 2 6 N ρ) (PoZ T n MD E lp o M P K σ x) := by
  have hS := hZ.1
  refine Tm_suc (fun k => by rw [xS_2]) ?_
  refine Tm_ite (fun _ => ?_) (fun z => absurd (PS_ok hS) z)
  refine Tm_ob (p_word hS (s := 9) (by decide) rfl) (fun r1 hr1 => ?_)
  obtain ⟨u, τ⟩ := r1
  obtain ⟨h3, hr1⟩ := hr1
  have h3 : τ = ρ := h3
  subst h3
  refine Tm_ite (fun z => ?_) (fun z => ?_)
  · refine Tm_suc (fun k => by rw [xS_2]) ?_
    show Tm (fun k => x_GS k (d + 1) 2 8 (upd (upd (upd N 2 (N 6)) 4 0) 100 0) τ) _
    refine Tm_suc (fun k => by rw [xS_2]) ?_
    show Tm (fun k => x_GS k (d + 1) 2 9 (upd (upd (upd (upd N 2 (N 6)) 4 0) 100 0) 3 0) τ) _
    refine Tm_suc (fun k => by rw [xS_2]) ?_
    show Tm (fun k => x_GS k (d + 1) 2 2 (upd (upd (upd (upd N 2 (N 6)) 4 0) 100 0) 3 0) τ) _
    refine Tm_suc (fun k => by rw [xS_2]) ?_
    show Tm (fun k => x_GS k (d + 1) 2 10 (upd (upd (upd (upd N 2 (N 6)) 4 0) 100 0) 3 0) τ) _
    exact hno (fun y => hr1.mpr y z) _ (by rw [upd_other (by decide), upd_other (by decide), upd_other (by decide), upd_other (by decide)]; exact hN) (by rw [upd_other (by decide), upd_other (by decide), upd_other (by decide), upd_same]; exact hN6)
  · have hK41 := hr1.mp z
    show Tm (fun k => x_GS k (d + 1) 2 8 (upd (upd (upd N 2 (N 6)) 4 0) 100 1) τ) _
    refine Tm_suc (fun k => by rw [xS_2]) ?_
    show Tm (fun k => ob (x_take k 0 (fun _ => 0) τ) (fun r2 => x_GS k (d + 1) 2 9 (upd (upd (upd (upd N 2 (N 6)) 4 0) 100 1) 3 1) r2.2)) _
    have j1 : upd (upd (upd (upd N 2 (N 6)) 4 0) 100 1) 3 1 1 = nI e := by rw [upd_other (by decide), upd_other (by decide), upd_other (by decide), upd_other (by decide)]; exact hN
    have j2 : upd (upd (upd (upd N 2 (N 6)) 4 0) 100 1) 3 1 2 = nI m := by rw [upd_other (by decide), upd_other (by decide), upd_other (by decide), upd_same]; exact hN6
    have j3 : upd (upd (upd (upd N 2 (N 6)) 4 0) 100 1) 3 1 3 = 1 := upd_same
    have j4 : upd (upd (upd (upd N 2 (N 6)) 4 0) 100 1) 3 1 4 = 0 := by rw [upd_other (by decide), upd_other (by decide), upd_same]
    generalize upd (upd (upd (upd N 2 (N 6)) 4 0) 100 1) 3 1 = N' at j1 j2 j3 j4
    refine Tm_ob (p_take (M := M) (P := P) (w := E.2.2.2.1) hS _) (fun r4 hr4 => ?_)
    refine Tm_suc (fun k => by rw [xS_2]) ?_
    show Tm (fun k => x_GS k (d + 1) 2 2 N' r4.2) _
    rcases hr4.2 with ⟨t4, hB⟩ | ⟨t4, hS4⟩
    · have hx := hflt hK41 t4
      subst hx
      exact if2b hB (FrZ_tr hF (FrZ_of hr4.1)) j1 he he2 hK hM
    · exact hyes hK41 t4 r4.2 N' (FrZ_tr hF (FrZ_of hr4.1)) (PZ_fr2 hZ hS4 hr4.1 hZ.2.2.1.2) j1 j2 j3 j4
end STM
end JnS74
section JnS75
variable {yf : Nat × Nat}
/-! Ifs of the reference: the loop over the branches. -/
section STM
variable {T : Nat → Int32} {n : Nat} {E : En} {o M P lp : Nat} {MD : Nat → Nat → Nat} {σ : MS}
abbrev bIf (l i m : Nat) (c : Int32) (t : ST) : BT := if l = 0 then bSet (bNode t.2.2.2.2.1 33 c (hd t.2.2.2.1) 0) 5 i (nI m) else bSet (bNode t.2.2.2.2.1 33 c (hd t.2.2.2.1) 0) 9 l (nI m)
/-- from 'then' on -/
theorem if4 {f d e l K q v : Nat} {b : BT} {s : SB} {c5 : Int32} {y x : Fl ST} {ρ : MS} {N : Nat → Int32} (H0 : SB0 T n MD f)
    (hG : hW T n 40 q (fun q2 => hb (GS T n MD f 0 E lp (o + 1) q2 v (nI e) 0 0 b s) (fun t => if tkK T n t.1 = 41 then hT T n t.1 (fun q3 => GS T n MD f 3 E lp (o + 1) q3 t.2.1 0 e t.2.2.2.2.1.1 (bIf l e t.2.2.2.2.1.1 c5 t) t.2.2.2.2.2) else some (Sum.inr (t.1, t.2.1, 0, t.2.2.2.2.1.1, bIf l e t.2.2.2.2.1.1 c5 t, t.2.2.2.2.2)))) = some y)
    (hZ : PZ T n MD E lp (o + 1) q v b s ρ) (hF : FrZ M P E.2.2.2.1 σ ρ) (hN : N 1 = nI e) (hN5 : N 5 = c5) (hN4 : N 4 = 0 ↔ ¬ l = 0) (hN2 : ¬ l = 0 → N 2 = nI l ∧ M ≤ l ∧ l < b.1) (he : M ≤ e) (he2 : e < b.1) (h1 : 1 ≤ M) (hM : M ≤ b.1) (hP : P ≤ b.2.1) (hn : b.1 + (n + 1 - q) + 967 + (d + 1) ≤ 70000) (hp : b.2.1 + (n - q) ≤ 70000) (hdd : 3 * (20 - (o + 1)) + 1 ≤ d) (hK : b.1 + (n + 1 - q) + 964 + (d + 1) ≤ K) (hbad : ∀ z, y = Sum.inl z → x = Sum.inl z)
    (hno : ∀ t, y = Sum.inr t → ∀ (ρ' : MS) (N' : Nat → Int32), N' 1 = nI e → N' 2 = nI t.2.2.2.1 → FrZ M P E.2.2.2.1 σ ρ' → PZ T n MD E lp (o + 1) t.1 t.2.1 t.2.2.2.2.1 t.2.2.2.2.2 ρ' → Tm (fun k => x_GS k (d + 1) 2 10 N' ρ') (PoZ T n MD E lp o M P K σ x))
    (hyes : ∀ (q3 v3 m : Nat) (b3 : BT) (s3 : SB), GS T n MD f 3 E lp (o + 1) q3 v3 0 e m b3 s3 = some y → ∀ (ρ' : MS) (N' : Nat → Int32), FrZ M P E.2.2.2.1 σ ρ' → PZ T n MD E lp (o + 1) q3 v3 b3 s3 ρ' → N' 1 = nI e → N' 2 = nI m → N' 3 = 1 → N' 4 = 0 → M ≤ m → m < b3.1 → b.1 ≤ b3.1 → b3.1 + q ≤ b.1 + q3 → b.2.1 ≤ b3.2.1 → b3.2.1 + q ≤ b.2.1 + q3 → q ≤ q3 → q3 ≤ n → Tm (fun k => x_GS k (d + 1) 2 2 N' ρ') (PoZ T n MD E lp o M P K σ x)) : Tm (fun k => x_GS k (d + 1) 2 4 N ρ) (PoZ T n MD E lp o M P K σ x) := by
  have hS := hZ.1
  have hq := PS_q hS
  have hv := PS_v hS
  have hu := tkN_b T n q hq.1
  have hN2' : N 4 = 0 → ∃ l, N 2 = nI l ∧ M ≤ l ∧ l < 70000 := fun z => by
    have h := hN2 (hN4.mp z)
    exact ⟨l, h.1, h.2.1, by have := h.2.2; omega⟩
  refine Tm_suc (fun k => by rw [xS_2]) ?_
  refine Tm_ob (p_wantWord (M := M) (P := P) (w := E.2.2.2.1) hS (s := 8) (by decide) rfl) (fun r1 hr1 => ?_)
  have hF1 := FrZ_tr hF (FrZ_of hr1.1)
  rcases hW_any hG with ⟨t1, hy⟩ | ⟨t1, hG⟩
  · have hx := hbad _ hy
    subst hx
    rcases hr1.2 with ⟨_, hB⟩ | ⟨z, _⟩
    · refine Tm_ob (b_block (d := d) hB.1) (fun r hr => ?_)
      obtain ⟨u, ρ2⟩ := r
      have hr : ρ2 = r1.2 := hr
      subst hr
      exact ifNb (d := d + 1) (L := upd (upd (upd (upd (fun _ => 0) 1 33) 2 (N 5)) 3 u) 4 0) hB hF1 hN he (by omega) (by omega) (by omega) hM hN2'
    · exact absurd z t1
  rcases hr1.2 with ⟨z, _⟩ | ⟨_, hS1⟩
  · exact absurd t1 z
  have hu4 := hu.2.2.2 (by rw [t1.1]; decide)
  have hZ1 := PZ_fr2 hZ hS1 hr1.1 hZ.2.2.1.2
  rcases hb_any hG with ⟨yf, h8, hy⟩ | ⟨t, h8, hG⟩
  · have hx := hbad _ hy
    subst hx
    refine Tm_ob (H0 _ lp (o + 1) _ _ _ _ s (Sum.inl yf) h8 r1.2 (upd (fun _ => 0) 1 (N 1)) d M P hZ1 h1 hM hP (by omega) (by omega) hdd (by rw [upd_same]; exact hN)) (fun r8 hr8 => ?_)
    obtain ⟨⟨m, hm, hmk, hMm⟩, hF8⟩ := hr8
    exact ifNb (d := d + 1) (L := upd (upd (upd (upd (fun _ => 0) 1 33) 2 (N 5)) 3 r8.1) 4 0) hm (FrZ_tr hF1 hF8) hN he (by omega) (by omega) (by omega) hMm hN2'
  obtain ⟨⟨b1, b2, b3, b4, b5, b6, b7, b8, b9, b10⟩, _⟩ := gs_mo f _ _ _ _ _ _ _ _ _ _ _ t M (by decide) hu.2.1 hv hZ.2.2.2.2.1 h8 h1 hM (fun _ z => absurd rfl z) (fun z => absurd z (by decide))
  refine Tm_ob (H0 _ lp (o + 1) _ _ _ _ s (Sum.inr t) h8 r1.2 (upd (fun _ => 0) 1 (N 1)) d M P hZ1 h1 hM hP (by omega) (by omega) hdd (by rw [upd_same]; exact hN)) (fun r8 hr8 => ?_)
  obtain ⟨hZ8, hr81, hF8⟩ := hr8
  have hF8 := FrZ_tr hF1 hF8
  rw [hr81, hN5]
  refine Tm_ob (p_nd (M := M) (P := P) (w := E.2.2.2.1) hZ8.1 (by omega) (by omega)) (fun r9 hr9 => ?_)
  obtain ⟨hr91, hS9, hF9⟩ := hr9
  have hZ9 := PZ_fr2 hZ8 hS9 hF9 hZ8.2.2.1.2
  have hF9 := FrZ_tr hF8 (FrZ_of hF9)
  have j1 : upd N 6 r9.1 1 = nI e := by rw [upd_other (by decide)]; exact hN
  have j2 : upd N 6 r9.1 2 = N 2 := by rw [upd_other (by decide)]
  have j6 : upd N 6 r9.1 6 = nI t.2.2.2.2.1.1 := by rw [upd_same]; exact hr91
  have hb3 : (bIf l e t.2.2.2.2.1.1 c5 t).1 = t.2.2.2.2.1.1 + 1 ∧ (bIf l e t.2.2.2.2.1.1 c5 t).2.1 = t.2.2.2.2.1.2.1 := by
    unfold bIf
    by_cases l0 : l = 0
    · rw [if_pos l0]; exact ⟨rfl, rfl⟩
    · rw [if_neg l0]; exact ⟨rfl, rfl⟩
  have hut := tkN_b T n t.1 b2
  -- the node lies: go on
  have six : ∀ (ρ' : MS) (N' : Nat → Int32), PZ T n MD E lp (o + 1) t.1 t.2.1 (bIf l e t.2.2.2.2.1.1 c5 t) t.2.2.2.2.2 ρ' → FrZ M P E.2.2.2.1 σ ρ' → N' 1 = nI e → N' 6 = nI t.2.2.2.2.1.1 → Tm (fun k => x_GS k (d + 1) 2 6 N' ρ') (PoZ T n MD E lp o M P K σ x) := fun ρ' N' hZ' hF' k1 k6 => by
    refine if6 hZ' hF' k1 k6 he (by omega) (by omega) (by omega) (fun h41 N'' i1 i2 => ?_) (fun h41 t0 => ?_) (fun h41 t0 ρ'' N'' hF'' hZ'' i1 i2 i3 i4 => ?_)
    · rw [if_neg h41] at hG
      exact hno _ (Option.some.inj hG).symm ρ' N'' i1 i2 hF' hZ'
    · rw [if_pos h41] at hG
      rcases hT_any hG with ⟨_, hy⟩ | ⟨z, _⟩
      · exact hbad _ hy
      · exact absurd t0 z
    · rw [if_pos h41] at hG
      rcases hT_any hG with ⟨z, _⟩ | ⟨_, hG⟩
      · exact absurd z t0
      exact hyes _ _ _ _ _ hG ρ'' N'' hF'' hZ'' i1 i2 i3 i4 (by omega) (by omega) (by omega) (by omega) (by omega) (by omega) (by omega) hut.2.1
  refine Tm_ite (fun z => ?_) (fun z => ?_)
  · have l0 := hN4.mp z
    obtain ⟨k2, l1, l2⟩ := hN2 l0
    generalize upd N 6 r9.1 = N' at j1 j2 j6
    refine Tm_suc (fun k => by rw [xS_2]) ?_
    show Tm (fun k => if ¬ (N' 2 < 0 ∨ 70000 ≤ (N' 2).toNatClampNeg) then x_GS k (d + 1) 2 6 N' (mSet r9.2 9 (N' 2).toNatClampNeg (N' 6)) else none) _
    rw [j2, k2]
    refine Tm_chk (n_in (by omega) (by omega)) ?_
    rw [n_cl (p := l) (by omega), j6]
    have eb : bIf l e t.2.2.2.2.1.1 c5 t = bSet (bNode t.2.2.2.2.1 33 c5 (hd t.2.2.2.1) 0) 9 l (nI t.2.2.2.2.1.1) := if_neg l0
    have hFs : FrM M P E.2.2.2.1 r9.2 (mSet r9.2 9 l (nI t.2.2.2.2.1.1)) := FrM_set (by decide) (by decide) (Or.inr l1) _
    exact six _ N' (by rw [eb]; exact PZ_fr2 hZ9 (PS_set hZ9.1 (by decide) (by decide) _) hFs hZ9.2.2.1.2) (FrZ_tr hF9 (FrZ_of hFs)) j1 j6
  · have l0 : l = 0 := Decidable.byContradiction (fun y => z (hN4.mpr y))
    rw [hN]
    refine Tm_chk (n_in (by omega) (by omega)) ?_
    rw [n_cl (p := e) (by omega)]
    have eb : bIf l e t.2.2.2.2.1.1 c5 t = bSet (bNode t.2.2.2.2.1 33 c5 (hd t.2.2.2.1) 0) 5 e (nI t.2.2.2.2.1.1) := if_pos l0
    show Tm (fun k => x_GS k (d + 1) 2 6 (upd N 6 r9.1) (mSet r9.2 5 e r9.1)) _
    have hFs : FrM M P E.2.2.2.1 r9.2 (mSet r9.2 5 e (nI t.2.2.2.2.1.1)) := FrM_set (by decide) (by decide) (Or.inr he) _
    generalize upd N 6 r9.1 = N' at j1 j2 j6
    rw [hr91]
    exact six _ N' (by rw [eb]; exact PZ_fr2 hZ9 (PS_set hZ9.1 (by decide) (by decide) _) hFs hZ9.2.2.1.2) (FrZ_tr hF9 (FrZ_of hFs)) j1 j6
end STM
end JnS75
section JnS76
variable {yf : Nat × Nat}
/-! Ifs of the reference. -/
section STM
variable {T : Nat → Int32} {n : Nat} {E : En} {o M P lp : Nat} {MD : Nat → Nat → Nat} {σ : MS}
theorem ifs_loop {d e K : Nat} {x : Fl ST} (hdd : 3 * (20 - (o + 1)) + 1 ≤ d) (he : M ≤ e) (h1 : 1 ≤ M) : ∀ (f : Nat), (∀ f', f' < f → SB0 T n MD f') → ∀ (q v l : Nat) (b : BT) (s : SB) (y : Fl ST), GS T n MD f 3 E lp (o + 1) q v 0 e l b s = some y → ∀ (ρ : MS) (N : Nat → Int32), PZ T n MD E lp (o + 1) q v b s ρ → FrZ M P E.2.2.2.1 σ ρ → N 1 = nI e → N 3 = 1 → (N 4 = 0 ↔ ¬ l = 0) → (¬ l = 0 → N 2 = nI l ∧ M ≤ l ∧ l < b.1) → e < b.1 → M ≤ b.1 → P ≤ b.2.1 → b.1 + (n + 1 - q) + 967 + (d + 1) ≤ 70000 → b.2.1 + (n - q) ≤ 70000 → b.1 + (n + 1 - q) + 964 + (d + 1) ≤ K → (∀ z, y = Sum.inl z → x = Sum.inl z) →
    (∀ t, y = Sum.inr t → ∀ (ρ' : MS) (N' : Nat → Int32), N' 1 = nI e → N' 2 = nI t.2.2.2.1 → FrZ M P E.2.2.2.1 σ ρ' → PZ T n MD E lp (o + 1) t.1 t.2.1 t.2.2.2.2.1 t.2.2.2.2.2 ρ' → Tm (fun k => x_GS k (d + 1) 2 10 N' ρ') (PoZ T n MD E lp o M P K σ x)) → Tm (fun k => x_GS k (d + 1) 2 2 N ρ) (PoZ T n MD E lp o M P K σ x)
  | 0 => fun _ q v l b s y hG => by simp only [GS] at hG; cases hG
  | f + 1 => fun H q v l b s y hG ρ N hZ hF hN hN3 hN4 hN2 he2 hM hP hn hp hK hbad hno => by
    have ih := ifs_loop (K := K) (x := x) hdd he h1 f (fun f' h => H f' (by omega))
    have H0 := H f (by omega)
    simp only [GS] at hG
    have hS := hZ.1
    have hq := PS_q hS
    have hv := PS_v hS
    have hu := tkN_b T n q hq.1
    have hN2' : N 4 = 0 → ∃ l, N 2 = nI l ∧ M ≤ l ∧ l < 70000 := fun z => by
      have h := hN2 (hN4.mp z)
      exact ⟨l, h.1, h.2.1, by have := h.2.2; omega⟩
    -- a condition was read
    have four : ∀ (c : ST) (c5 : Int32) (ρ' : MS) (N' : Nat → Int32), c5 = (if c.2.2.2.1 = 0 then -3 else nI c.2.2.2.1) → hW T n 40 c.1 (fun q2 => hb (GS T n MD f 0 E lp (o + 1) q2 c.2.1 (nI e) 0 0 c.2.2.2.2.1 s) (fun t => if tkK T n t.1 = 41 then hT T n t.1 (fun q3 => GS T n MD f 3 E lp (o + 1) q3 t.2.1 0 e t.2.2.2.2.1.1 (bIf l e t.2.2.2.2.1.1 (if c.2.2.2.1 = 0 then -3 else nI c.2.2.2.1) t) t.2.2.2.2.2) else some (Sum.inr (t.1, t.2.1, 0, t.2.2.2.2.1.1, bIf l e t.2.2.2.2.1.1 (if c.2.2.2.1 = 0 then -3 else nI c.2.2.2.1) t, t.2.2.2.2.2)))) = some y → PZ T n MD E lp (o + 1) c.1 c.2.1 c.2.2.2.2.1 s ρ' → FrZ M P E.2.2.2.1 σ ρ' → N' 1 = nI e → N' 2 = N 2 → N' 4 = N 4 → N' 5 = c5 → q ≤ c.1 → c.1 ≤ n → b.1 ≤ c.2.2.2.2.1.1 → c.2.2.2.2.1.1 + q ≤ b.1 + c.1 → b.2.1 ≤ c.2.2.2.2.1.2.1 → c.2.2.2.2.1.2.1 + q ≤ b.2.1 + c.1 → Tm (fun k => x_GS k (d + 1) 2 4 N' ρ') (PoZ T n MD E lp o M P K σ x) := fun c c5 ρ' N' hc hG hZ' hF' k1 k2 k4 k5 a1 a2 a3 a4 a5 a6 => by
      rw [← hc] at hG
      refine if4 H0 hG hZ' hF' k1 k5 (by rw [k4]; exact hN4) (fun z => by rw [k2]; exact ⟨(hN2 z).1, (hN2 z).2.1, by have := (hN2 z).2.2; omega⟩) he (by omega) h1 (by omega) (by omega) (by omega) (by omega) hdd (by omega) hbad hno ?_
      intro q3 v3 m b3 s3 hG3 ρ3 N3 hF3 hZ3 i1 i2 i3 i4 m1 m2 c1 c2 c3 c4 c5' c6
      exact ih q3 v3 m b3 s3 y hG3 ρ3 N3 hZ3 hF3 i1 i3 ⟨fun _ => by omega, fun _ => i4⟩ (fun _ => ⟨i2, m1, m2⟩) (by omega) (by omega) (by omega) (by omega) (by omega) (by omega) hbad hno
    have three : ∀ N' : Nat → Int32, ¬ (l = 0 ∧ tkK T n q = 63) → N' 1 = nI e → N' 2 = N 2 → N' 4 = N 4 → Tm (fun k => x_GS k (d + 1) 2 3 N' ρ) (PoZ T n MD E lp o M P K σ x) := fun N' hc k1 k2 k4 => by
      rw [if_neg hc] at hG
      refine Tm_suc (fun k => by rw [xS_2]) ?_
      rcases hb_any hG with ⟨yf, h7, hy⟩ | ⟨c, h7, hG⟩
      · have hx := hbad _ hy
        subst hx
        rcases lb_any h7 with ⟨yf2, h8, ez⟩ | ⟨_, _, h⟩
        · cases ez
          refine Tm_ob (p_exp (M := M) (P := P) h8 hS h1 hM hP (by omega) (by omega)) (fun r hr => ?_)
          obtain ⟨⟨m1, hm, hmk, hMm⟩, _, hF5⟩ := hr
          exact if4b hm (FrZ_tr hF (FrZ_of hF5)) (by rw [upd_other (by decide)]; exact k1) he (by omega) (by omega) (by omega) hMm (fun z => by rw [upd_other (by decide), k2]; exact hN2' (by rw [← k4, ← z, upd_other (by decide)]))
        · cases h
      obtain ⟨t, h8, h7⟩ := lb_s h7
      obtain ⟨⟨a1, a2, a3, a4, a5, a6, a7, a8⟩, a9⟩ := mo_of (M := M) hq.1 hv h8 hM h1 trivial (fun h => h) (fun h => h)
      refine Tm_ob (p_exp (M := M) (P := P) h8 hS h1 hM hP (by omega) (by omega)) (fun r hr => ?_)
      obtain ⟨hS5, hr51, hF5⟩ := hr
      cases h7
      exact four _ (nI t.2.2.2.1) r.2 _ (if_neg (by omega : ¬ t.2.2.2.1 = 0)).symm hG (PZ_fr2 hZ hS5 hF5 hZ.2.2.1.2) (FrZ_tr hF (FrZ_of hF5)) (by rw [upd_other (by decide)]; exact k1) (by rw [upd_other (by decide)]; exact k2) (by rw [upd_other (by decide)]; exact k4) (by rw [upd_same]; exact hr51) a1 a2 a5 a6 a7 a8
    refine Tm_suc (fun k => by rw [xS_2]) ?_
    show Tm (fun k => if N 3 = 0 then x_GS k (d + 1) 2 10 N ρ else (if ρ.1 10 = 0 then (if N 4 = 0 then x_GS k (d + 1) 2 3 (upd N 5 (-1)) ρ else ob (x_isWord k 0 (upd (fun _ => 0) 1 31) ρ) (fun r4 => if r4.1 = 0 then x_GS k (d + 1) 2 3 (upd N 5 (-1)) r4.2 else ob (x_take k 0 (fun _ => 0) r4.2) (fun r6 => x_GS k (d + 1) 2 4 (upd N 5 (-3)) r6.2))) else x_GS k (d + 1) 2 10 N ρ)) _
    refine Tm_no (by rw [hN3]; decide) ?_
    refine Tm_yes (PS_ok hS) ?_
    have u1 : ∀ z : Int32, upd N 5 z 1 = nI e := fun z => by rw [upd_other (by decide)]; exact hN
    have u2 : ∀ z : Int32, upd N 5 z 2 = N 2 := fun z => by rw [upd_other (by decide)]
    have u4 : ∀ z : Int32, upd N 5 z 4 = N 4 := fun z => by rw [upd_other (by decide)]
    refine Tm_ite (fun z => three _ (fun c => (hN4.mp z) c.1) (u1 _) (u2 _) (u4 _)) (fun z => ?_)
    have l0 : l = 0 := Decidable.byContradiction (fun y => z (hN4.mpr y))
    refine Tm_ob (p_word hS (s := 31) (by decide) rfl) (fun r1 hr1 => ?_)
    obtain ⟨u, τ⟩ := r1
    obtain ⟨h3, hr1⟩ := hr1
    have h3 : τ = ρ := h3
    subst h3
    refine Tm_ite (fun z1 => three _ (fun c => hr1.mpr c.2 z1) (u1 _) (u2 _) (u4 _)) (fun z1 => ?_)
    have hK63 := hr1.mp z1
    rw [if_pos ⟨l0, hK63⟩] at hG
    refine Tm_ob (p_take (M := M) (P := P) (w := E.2.2.2.1) hS _) (fun r4 hr4 => ?_)
    rcases hb_any hG with ⟨yf, h7, hy⟩ | ⟨c, h7, hG⟩
    · have hx := hbad _ hy
      subst hx
      rcases hT_any h7 with ⟨t4, ez⟩ | ⟨_, h⟩
      · cases ez
        rcases hr4.2 with ⟨_, hB⟩ | ⟨w, _⟩
        · exact if4b hB (FrZ_tr hF (FrZ_of hr4.1)) (u1 _) he (by omega) (by omega) (by omega) hM (fun w => absurd ((u4 _).symm.trans w) z)
        · exact absurd t4 w
      · cases h
    obtain ⟨t4, h7⟩ := hT_s h7
    rcases hr4.2 with ⟨w, _⟩ | ⟨_, hS4⟩
    · exact absurd w t4
    cases h7
    exact four _ (-3) r4.2 _ rfl hG (PZ_fr2 hZ hS4 hr4.1 hZ.2.2.1.2) (FrZ_tr hF (FrZ_of hr4.1)) (u1 _) (u2 _) (u4 _) upd_same hu.1 hu.2.1 (Nat.le_refl _) (by dsimp only; omega) (Nat.le_refl _) (by dsimp only; omega)
end STM
end JnS76
section JnS77
variable {yf : Nat × Nat}
/-! Ifs of the reference, and all statements. -/
section STM
variable {T : Nat → Int32} {n : Nat} {E : En} {o M P lp : Nat} {MD : Nat → Nat → Nat} {σ : MS}
/-- end ; -/
theorem if11 {d e K q v : Nat} {b : BT} {s : SB} {x : Fl ST} {ρ : MS} {N : Nat → Int32} (hG : hE T n q (fun q3 => some (Sum.inr (q3, v, 0, e, b, s))) = some x) (hZ : PZ T n MD E lp (o + 1) q v b s ρ) (hlo : lp ≤ o) (hF : FrZ M P E.2.2.2.1 σ ρ) (hN : N 1 = nI e) (he : M ≤ e) (he2 : e < 70000) (hM : M ≤ b.1) (hK : b.1 ≤ K) : Tm (fun k => x_GS k d 2 11 N ρ) (PoZ T n MD E lp o M P K σ x) := by
  have fin : ∀ {yf : Nat × Nat} (ρ' : MS) (m : Nat), Bb yf m ρ' → M ≤ m → m ≤ K → FrZ M P E.2.2.2.1 σ ρ' → Tm (fun k => x_GS k d 2 12 N (mOpn ρ' (ρ'.1 13 - 1))) (PoZ T n MD E lp o M P K σ (Sum.inl yf)) := fun {yf} ρ' m hB m1 m2 hF => by
    refine Tm_suc (fun k => by rw [xS_2]) ?_
    exact Tm_some ⟨⟨m, Bb_opn hB _, m2, m1⟩, ⟨e, hN, he2, Or.inr he⟩, FrZ_tr hF (FrZ_of (FrM_opn _))⟩
  refine Tm_suc (fun k => by rw [xS_2]) ?_
  refine Tm_ob (p_wantWord (M := M) (P := P) (w := E.2.2.2.1) hZ.1 (s := 6) (by decide) rfl) (fun rb hrb => ?_)
  unfold hE at hG
  rcases hW_any hG with ⟨tb, rfl⟩ | ⟨tb, hG⟩
  · rcases hrb.2 with ⟨_, hB⟩ | ⟨z, _⟩
    · refine Tm_ob (b_want hB.1 _) (fun r hr => ?_)
      obtain ⟨u, ρ2⟩ := r
      have hr : ρ2 = rb.2 := hr
      subst hr
      exact fin rb.2 _ hB hM hK (FrZ_tr hF (FrZ_of hrb.1))
    · exact absurd z tb
  rcases hrb.2 with ⟨z, _⟩ | ⟨_, hSb⟩
  · exact absurd tb z
  refine Tm_ob (p_want (M := M) (P := P) (w := E.2.2.2.1) hSb (s := 13) (by decide) (by decide) rfl) (fun rc hrc => ?_)
  rcases hW_any hG with ⟨tc, rfl⟩ | ⟨tc, hG⟩
  · rcases hrc.2 with ⟨_, hB⟩ | ⟨z, _⟩
    · exact fin rc.2 _ hB hM hK (FrZ_tr hF (FrZ_tr (FrZ_of hrb.1) (FrZ_of hrc.1)))
    · exact absurd z tc
  rcases hrc.2 with ⟨z, _⟩ | ⟨_, hSc⟩
  · exact absurd tc z
  show Tm (fun k => x_GS k d 2 12 N (mOpn rc.2 (rc.2.1 13 - 1))) _
  refine Tm_suc (fun k => by rw [xS_2]) ?_
  cases hG
  have hFc : FrM M P E.2.2.2.1 ρ (mOpn rc.2 (rc.2.1 13 - 1)) := FrM_tr hrb.1 (FrM_tr hrc.1 (FrM_opn _))
  exact Tm_some ⟨PZ_fr2 hZ (PS_clo hSc) hFc hlo, hN, FrZ_tr hF (FrZ_of hFc)⟩
/-- else -/
theorem if10 {f d e l K q v : Nat} {b : BT} {s : SB} {x : Fl ST} {ρ : MS} {N : Nat → Int32} (H0 : SB0 T n MD f)
    (hG : hb (if tkK T n q = 42 then hT T n q (fun q2 => hb (GS T n MD f 0 E lp (o + 1) q2 v (nI e) 0 0 b s) (fun t => some (Sum.inr (t.1, t.2.1, 0, 0, bSet (bNode t.2.2.2.2.1 33 (-2) (hd t.2.2.2.1) 0) 9 l (nI t.2.2.2.2.1.1), t.2.2.2.2.2)))) else some (Sum.inr (q, v, 0, l, b, s)))
          (fun t => hE T n t.1 (fun q3 => some (Sum.inr (q3, t.2.1, 0, e, t.2.2.2.2.1, t.2.2.2.2.2)))) = some x)
    (hZ : PZ T n MD E lp (o + 1) q v b s ρ) (hlo : lp ≤ o) (hF : FrZ M P E.2.2.2.1 σ ρ) (hN : N 1 = nI e) (hN2 : N 2 = nI l) (hl : M ≤ l) (hl2 : l < b.1) (he : M ≤ e) (he2 : e < b.1) (h1 : 1 ≤ M) (hM : M ≤ b.1) (hP : P ≤ b.2.1) (hn : b.1 + (n + 1 - q) + 967 + (d + 1) ≤ 70000) (hp : b.2.1 + (n - q) ≤ 70000) (hdd : 3 * (20 - (o + 1)) + 1 ≤ d) (hK : b.1 + (n + 1 - q) + 964 + (d + 1) ≤ K) : Tm (fun k => x_GS k (d + 1) 2 10 N ρ) (PoZ T n MD E lp o M P K σ x) := by
  have hS := hZ.1
  have hq := PS_q hS
  have hv := PS_v hS
  have hu := tkN_b T n q hq.1
  refine Tm_suc (fun k => by rw [xS_2]) ?_
  refine Tm_ite (fun _ => ?_) (fun z => absurd (PS_ok hS) z)
  refine Tm_ob (p_word hS (s := 10) (by decide) rfl) (fun r1 hr1 => ?_)
  obtain ⟨u, τ⟩ := r1
  obtain ⟨h3, hr1⟩ := hr1
  have h3 : τ = ρ := h3
  subst h3
  refine Tm_ite (fun z => ?_) (fun z => ?_)
  · rw [if_neg (fun y => hr1.mpr y z)] at hG
    exact if11 (q := q) (v := v) (b := b) (s := s) hG hZ hlo hF hN he (by omega) hM (by omega)
  have hK42 := hr1.mp z
  rw [if_pos hK42] at hG
  have hu4 := hu.2.2.2 (by rw [hK42]; decide)
  have nb : ∀ {yf : Nat × Nat} (ρ' : MS) (m : Nat) (L : Nat → Int32), Bb yf m ρ' → M ≤ m → m < 70000 → m + 1 ≤ K → FrZ M P E.2.2.2.1 σ ρ' → Tm (fun k => ob (x_node k 0 L ρ') (fun r6 => if ¬ (N 2 < 0 ∨ 70000 ≤ (N 2).toNatClampNeg) then x_GS k (d + 1) 2 11 N (mSet r6.2 9 (N 2).toNatClampNeg r6.1) else none)) (PoZ T n MD E lp o M P K σ (Sum.inl yf)) := fun {yf} ρ' m L hB m1 m2 m3 hF' => by
    refine Tm_ob (b_node (M := M) (P := P) (w := E.2.2.2.1) hB m2 m1 _) (fun r hr => ?_)
    rw [hN2]
    refine Tm_chk (n_in (by omega) (by omega)) ?_
    rw [n_cl (p := l) (by omega)]
    exact if11b (Bb_set hr.2.1) (FrZ_tr hF' (FrZ_tr (FrZ_of hr.2.2) (FrZ_of (FrM_set (by decide) (by decide) (Or.inr hl) _)))) hN he (by omega) m3 (by omega)
  refine Tm_ob (p_take (M := M) (P := P) (w := E.2.2.2.1) hS _) (fun r4 hr4 => ?_)
  have hF4 := FrZ_tr hF (FrZ_of hr4.1)
  rcases hb_any hG with ⟨yf, h7, hy⟩ | ⟨c, h7, hG⟩
  · subst hy
    rcases hT_any h7 with ⟨t4, ez⟩ | ⟨t4, h7⟩
    · cases ez
      rcases hr4.2 with ⟨_, hB⟩ | ⟨w, _⟩
      · refine Tm_ob (b_block (d := d) hB.1) (fun r hr => ?_)
        obtain ⟨u, ρ2⟩ := r
        have hr : ρ2 = r4.2 := hr
        subst hr
        exact nb r4.2 _ _ hB hM (by omega) (by omega) hF4
      · exact absurd t4 w
    rcases hr4.2 with ⟨w, _⟩ | ⟨_, hS4⟩
    · exact absurd w t4
    rcases hb_any h7 with ⟨yf2, h8, ez⟩ | ⟨_, _, h⟩
    · cases ez
      refine Tm_ob (H0 _ lp (o + 1) _ _ _ _ s (Sum.inl yf) h8 r4.2 (upd (fun _ => 0) 1 (N 1)) d M P (PZ_fr2 hZ hS4 hr4.1 hZ.2.2.1.2) h1 hM hP (by omega) (by omega) hdd (by rw [upd_same]; exact hN)) (fun r8 hr8 => ?_)
      obtain ⟨⟨m, hm, hmk, hMm⟩, hF8⟩ := hr8
      exact nb r8.2 _ _ hm hMm (by omega) (by omega) (FrZ_tr hF4 hF8)
    · cases h
  obtain ⟨t4, h7⟩ := hT_s h7
  rcases hr4.2 with ⟨w, _⟩ | ⟨_, hS4⟩
  · exact absurd w t4
  obtain ⟨t, h8, h7⟩ := hb_s h7
  obtain ⟨⟨b1, b2, b3, b4, b5, b6, b7, b8, b9, b10⟩, _⟩ := gs_mo f _ _ _ _ _ _ _ _ _ _ _ t M (by decide) hu.2.1 hv hZ.2.2.2.2.1 h8 h1 hM (fun _ z => absurd rfl z) (fun z => absurd z (by decide))
  refine Tm_ob (H0 _ lp (o + 1) _ _ _ _ s (Sum.inr t) h8 r4.2 (upd (fun _ => 0) 1 (N 1)) d M P (PZ_fr2 hZ hS4 hr4.1 hZ.2.2.1.2) h1 hM hP (by omega) (by omega) hdd (by rw [upd_same]; exact hN)) (fun r8 hr8 => ?_)
  obtain ⟨hZ8, hr81, hF8⟩ := hr8
  rw [hr81]
  refine Tm_ob (p_nd (M := M) (P := P) (w := E.2.2.2.1) hZ8.1 (by omega) (by omega)) (fun r9 hr9 => ?_)
  obtain ⟨hr91, hS9, hF9⟩ := hr9
  rw [hN2, hr91]
  refine Tm_chk (n_in (by omega) (by omega)) ?_
  rw [n_cl (p := l) (by omega)]
  show Tm (fun k => x_GS k (d + 1) 2 11 N (mSet r9.2 9 l (nI t.2.2.2.2.1.1))) _
  have hFs : FrM M P E.2.2.2.1 r8.2 (mSet r9.2 9 l (nI t.2.2.2.2.1.1)) := FrM_tr hF9 (FrM_set (by decide) (by decide) (Or.inr hl) _)
  cases h7
  exact if11 hG (PZ_fr2 hZ8 (PS_set hS9 (by decide) (by decide) _) hFs hZ8.2.2.1.2) hlo (FrZ_tr hF4 (FrZ_tr hF8 (FrZ_of hFs))) hN he (by omega) (by rw [bSet_1, bNode_1]; omega) (by rw [bSet_1, bNode_1]; omega)
theorem sc_2 {f : Nat} (H : ∀ f', f' ≤ f → SB0 T n MD f') : SC T n MD (f + 1) 2 2 := fun E lp o q v b s x hG hKq ho σ L d M P hZ h1 hM hP hn hp hdd => by
  have hS := hZ.1
  have hq := PS_q hS
  have hv := PS_v hS
  have ho2 := PS_o hS
  have hlp := hZ.2.2.1.2
  have hu := tkN_b T n q hq.1
  have hu4 := hu.2.2.2 hKq
  obtain ⟨d, rfl⟩ : ∃ d', d = d' + 1 := ⟨d - 1, by omega⟩
  simp only [GS] at hG
  refine Tm_suc (fun k => by rw [xS_2]) ?_
  refine Tm_ob (p_nd (M := M) (P := P) (w := E.2.2.2.1) hS (by omega) hM) (fun r1 hr1 => ?_)
  obtain ⟨hr11, hS1, hF1⟩ := hr1
  have h13 : r1.2.1 13 + 1 = nI (o + 1) := by
    rw [hS1.2.1.1]; exact n_add (p := o) (q := 1) (by omega)
  show Tm (fun k => x_GS k (d + 1) 2 1 (upd L 1 r1.1) (mOpn r1.2 (r1.2.1 13 + 1))) _
  rw [h13]
  have hS2 := PS_opn hS1 (o' := o + 1) (by omega)
  have hF2 : FrM M P E.2.2.2.1 σ (mOpn r1.2 (nI (o + 1))) := FrM_tr hF1 (FrM_opn _)
  have hN : upd L 1 r1.1 1 = nI b.1 := by rw [upd_same]; exact hr11
  generalize mOpn r1.2 (nI (o + 1)) = σ2 at hS2 hF2
  generalize upd L 1 r1.1 = N at hN
  refine Tm_suc (fun k => by rw [xS_2]) ?_
  show Tm (fun k => ob (x_take k 0 (fun _ => 0) σ2) (fun r1 => x_GS k (d + 1) 2 2 (upd (upd (upd N 2 (-1)) 3 1) 4 1) r1.2)) _
  have j1 : upd (upd (upd N 2 (-1)) 3 1) 4 1 1 = nI b.1 := by rw [upd_other (by decide), upd_other (by decide), upd_other (by decide)]; exact hN
  have j3 : upd (upd (upd N 2 (-1)) 3 1) 4 1 3 = 1 := by rw [upd_other (by decide), upd_same]
  have j4 : upd (upd (upd N 2 (-1)) 3 1) 4 1 4 = 1 := upd_same
  generalize upd (upd (upd N 2 (-1)) 3 1) 4 1 = N1 at j1 j3 j4
  refine Tm_ob (p_take (M := M) (P := P) (w := E.2.2.2.1) hS2 _) (fun r3 hr3 => ?_)
  have hF3 := FrM_tr hF2 hr3.1
  rcases hT_any hG with ⟨t3, rfl⟩ | ⟨t3, hG⟩
  · rcases hr3.2 with ⟨_, hB⟩ | ⟨z, _⟩
    · rw [bNode_1] at hB
      exact if2b hB (FrZ_of hF3) j1 hM (by omega) (by omega) (by omega)
    · exact absurd t3 z
  rcases hr3.2 with ⟨z, _⟩ | ⟨_, hS3⟩
  · exact absurd z t3
  obtain ⟨y, hy⟩ : ∃ y, GS T n MD f 3 E lp (o + 1) (tkN T n q) v 0 b.1 0 (bNode b 46 (-1) 0 0) s = some y := by
    rcases hb_any hG with ⟨yf, h, _⟩ | ⟨u, h, _⟩
    · exact ⟨_, h⟩
    · exact ⟨_, h⟩
  refine ifs_loop (by omega) hM h1 f (fun f' h => H f' (by omega)) _ _ 0 _ s y hy r3.2 N1 (PZ_fr2 hZ hS3 hF3 (by omega)) (FrZ_of hF3) j1 j3 ⟨fun z => absurd (j4.symm.trans z) (by decide), fun z => absurd rfl z⟩ (fun z => absurd rfl z) (by rw [bNode_1]; omega) (by rw [bNode_1]; omega) (by rw [bNode_p]; omega) (by rw [bNode_1]; omega) (by rw [bNode_p]; omega) (by rw [bNode_1]; omega) (fun z h => ?_) (fun t h ρ' N' i1 i2 hF' hZ' => ?_)
  · subst h
    rw [hy] at hG
    exact (Option.some.inj hG).symm
  · subst h
    rw [hy] at hG
    obtain ⟨⟨b1, b2, b3, b4, b5, b6, b7, b8, b9, b10⟩, _, e2, _⟩ := gs_mo f _ _ _ _ _ _ _ _ _ _ _ t M (by decide) hu.2.1 hv hZ.2.2.2.2.1 hy h1 (by rw [bNode_1]; omega) (fun z => absurd z (by decide)) (fun _ z => absurd rfl z)
    rw [bNode_1] at b5 b6
    rw [bNode_p] at b7 b8
    have e2 := (e2 (by decide)).1
    refine if10 (l := t.2.2.2.1) (H f (Nat.le_refl _)) ?_ hZ' hlp hF' i1 i2 e2.1 e2.2 hM (by omega) h1 (by omega) (by omega) (by omega) (by omega) (by omega) (by omega)
    have hG : hb (if tkK T n t.1 = 42 then _ else some (Sum.inr t)) _ = some x := hG
    by_cases c : tkK T n t.1 = 42
    · rw [if_pos c] at hG ⊢; exact hG
    · rw [if_neg c] at hG ⊢; exact hG
/-- all statements of the reference -/
theorem all_Z : ∀ f : Nat, ∀ f', f' ≤ f → SL0 T n MD f' ∧ SZ1 T n MD f' ∧ SC T n MD f' 2 2 ∧ SC T n MD f' 4 4 ∧ SC T n MD f' 5 1
  | 0 => fun f' h => by
    obtain rfl : f' = 0 := by omega
    refine ⟨?_, ?_, ?_, ?_, ?_⟩
    · intro E lp o q v pe i l b s x hG; simp only [GS] at hG; cases hG
    · intro E lp o q v b s x hG; simp only [GS] at hG; cases hG
    · intro E lp o q v b s x hG; simp only [GS] at hG; cases hG
    · intro E lp o q v b s x hG; simp only [GS] at hG; cases hG
    · intro E lp o q v b s x hG; simp only [GS] at hG; cases hG
  | f + 1 => fun f' h => by
    have ih := all_Z f
    by_cases c : f' ≤ f
    · exact ih f' c
    obtain rfl : f' = f + 1 := by omega
    obtain ⟨H0, H1, H2, H4, H5⟩ := ih f (Nat.le_refl _)
    refine ⟨e_block H1 H0, ?_, sc_2 (fun f' h => sb_of (ih f' h).1), sc_4 (sb_of H0), sc_5 (sb_of H0)⟩
    intro E lp o q v b s x hG σ L d M P hZ h1 hM hP hn hp hd
    exact e_statement H2 H4 H5 hG hZ h1 hM hP hn hp hd
end STM
end JnS77

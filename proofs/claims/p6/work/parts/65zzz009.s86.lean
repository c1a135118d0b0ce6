/-! Funcs and procs of the reference: after a fault; the end; variables; the body. -/
section CAL
variable {T : Nat → Int32} {n : Nat} {c : Nat}
theorem s_isW01 (L : Nat → Int32) (σ : MS) : Tm (fun k => x_isWord k 0 L σ) (fun r => r.1 = 0 ∨ r.1 = 1) := by
  have e : ∀ (N : Nat → Int32), N 100 = 0 ∨ N 100 = 1 → Tm (fun k => x_isWord k 2 N σ) (fun r => r.1 = 0 ∨ r.1 = 1) := fun N hN => by
    refine Tm_suc (fun k => by rw [x_isWord]) ?_
    exact Tm_chk hN (Tm_some hN)
  have e1 : Tm (fun k => x_isWord k 1 L σ) (fun r => r.1 = 0 ∨ r.1 = 1) := by
    refine Tm_suc (fun k => by rw [x_isWord]) ?_
    exact e _ (Or.inl upd_same)
  refine Tm_suc (fun k => by rw [x_isWord]) ?_
  refine Tm_ite (fun _ => ?_) (fun _ => e1)
  exact Tm_ite (fun _ => e _ (Or.inr upd_same)) (fun _ => e1)
/-- the end of a callable: left -/
def PoE (T : Nat → Int32) (n c : Nat) (σ0 : MS) (Q : Nat → Int32 × Nat → BT → SB → MS → Prop) : Option BD → Int32 × MS → Prop
  | none, r => ∃ ρ, r.2 = mOut ρ ∧ (∃ m, Bb m ρ) ∧ FrU c σ0 (mAr ρ 17 c (σ0.2.2 17 c))
  | some t, r => ∃ ρ, r.2 = mOut ρ ∧ Q t.1 t.2.1 t.2.2.1 t.2.2.2 ρ ∧ FrU c σ0 (mAr ρ 17 c (σ0.2.2 17 c))
theorem FrU_17 {σ ρ : MS} {x : Int32} (h : FrU c σ ρ) (y : Int32) : FrU c σ (mAr (mAr ρ 17 c x) 17 c (σ.2.2 17 c)) := by
  obtain ⟨h1, h2, h3, h4, h5, h6, h7, h8⟩ := h
  refine ⟨h1, h2, fun j hj => ?_, fun i hi => ?_, fun i hi => ?_, fun i hi => ?_, fun i hi => ?_, fun z => ?_⟩
  · by_cases e : j = 17
    · subst e
      rw [mAr_s, mAr_s]
      funext i
      by_cases w : i = c
      · subst w; rw [upd_same]
      · rw [upd_other w, upd_other w, h3 17 (by decide)]
    · rw [mAr_o e, mAr_o e]; exact h3 j hj
  · rw [mAr_o (by decide), mAr_o (by decide)]; exact h4 i hi
  · rw [mAr_o (by decide), mAr_o (by decide)]; exact h5 i hi
  · rw [mAr_o (by decide), mAr_o (by decide)]; exact h6 i hi
  · rw [mAr_o (by decide), mAr_o (by decide)]; exact h7 i hi
  · rw [mAr_o (by decide), mAr_o (by decide)]; exact h8 z
theorem mAr_id {σ : MS} {j i : Nat} : mAr σ j i (σ.2.2 j i) = σ := by
  unfold mAr
  have : upd (σ.2.2 j) i (σ.2.2 j i) = σ.2.2 j := by
    funext k
    by_cases e : k = i
    · subst e; rw [upd_same]
    · rw [upd_other e]
  rw [this, updG_self]
/-- from the last ; on -/
theorem ca_26 {σ ρ : MS} {N : Nat → Int32} {E : En} {q v : Nat} {b : BT} {x : Option BD} {e : Int32 × Nat} {s : SB} {Q : Nat → Int32 × Nat → BT → SB → MS → Prop} (hG : pW T n 13 q (fun q2 => some (some (q2, e, b, s))) = some x) (h : PS T n E 0 q v b ρ) (hF : FrU c σ (mAr ρ 17 c (σ.2.2 17 c))) (hQ : ∀ ρ', PS T n E 0 (tkN T n q) v b ρ' → FrM 0 0 E.2.2.2.1 ρ ρ' → Q (tkN T n q) e b s ρ') (hw : E.2.2.2.1 = c + 1) : Tm (fun k => x_declareCallable k 26 N ρ) (PoE T n c σ Q x) := by
  refine Tm_suc (fun k => by rw [x_declareCallable]) ?_
  refine Tm_ob (p_want (M := 0) (P := 0) (w := E.2.2.2.1) h (s := 13) (by decide) (by decide) upd_same) (fun r hr => ?_)
  refine Tm_suc (fun k => by rw [x_declareCallable]) ?_
  refine Tm_suc (fun k => by rw [x_declareCallable]) ?_
  refine Tm_suc (fun k => by rw [x_declareCallable]) ?_
  have hF2 : FrU c σ (mAr r.2 17 c (σ.2.2 17 c)) := by
    have hF1 := hr.1
    rw [hw] at hF1
    have g := FrU_M hF1
    have g2 : FrU c (mAr ρ 17 c (σ.2.2 17 c)) (mAr r.2 17 c (σ.2.2 17 c)) := by
      obtain ⟨h1, h2, h3, h4, h5, h6, h7, h8⟩ := g
      refine ⟨h1, h2, fun j hj => ?_, fun i hi => ?_, fun i hi => ?_, fun i hi => ?_, fun i hi => ?_, fun z => ?_⟩
      · by_cases e : j = 17
        · subst e; rw [mAr_s, mAr_s, h3 17 (by decide)]
        · rw [mAr_o e, mAr_o e]; exact h3 j hj
      · rw [mAr_o (by decide), mAr_o (by decide)]; exact h4 i hi
      · rw [mAr_o (by decide), mAr_o (by decide)]; exact h5 i hi
      · rw [mAr_o (by decide), mAr_o (by decide)]; exact h6 i hi
      · rw [mAr_o (by decide), mAr_o (by decide)]; exact h7 i hi
      · rw [mAr_o (by decide)] at z ⊢; exact h8 z
    exact FrU_tr hF g2
  rcases pW_any hG with ⟨z, rfl⟩ | ⟨z, hx⟩
  · rcases hr.2 with ⟨_, hB⟩ | ⟨y, _⟩
    · exact Tm_some ⟨r.2, rfl, ⟨_, hB⟩, hF2⟩
    · exact absurd y z
  · rcases hr.2 with ⟨y, _⟩ | ⟨_, hS⟩
    · exact absurd z y
    · obtain rfl := Option.some.inj hx
      exact Tm_some ⟨r.2, rfl, hQ _ hS hr.1, hF2⟩
/-- after a fault -/
theorem ca_b26 {σ ρ : MS} {N : Nat → Int32} {m : Nat} {Q : Nat → Int32 × Nat → BT → SB → MS → Prop} (hB : Bb m ρ) (hF : FrU c σ (mAr ρ 17 c (σ.2.2 17 c))) : Tm (fun k => x_declareCallable k 26 N ρ) (PoE T n c σ Q none) := by
  refine Tm_suc (fun k => by rw [x_declareCallable]) ?_
  refine Tm_ob (b_want hB.1 _) (fun r hr => ?_)
  refine Tm_suc (fun k => by rw [x_declareCallable]) ?_
  refine Tm_suc (fun k => by rw [x_declareCallable]) ?_
  refine Tm_suc (fun k => by rw [x_declareCallable]) ?_
  rw [hr]
  exact Tm_some ⟨ρ, rfl, ⟨_, hB⟩, hF⟩
theorem ca_b23 {σ ρ : MS} {N : Nat → Int32} {m : Nat} {Q : Nat → Int32 × Nat → BT → SB → MS → Prop} (hc : c ≤ 40) (hN : N 2 = nI c) (hB : Bb m ρ) (hF : FrU c σ ρ) : Tm (fun k => x_declareCallable k 23 N ρ) (PoE T n c σ Q none) := by
  refine Tm_suc (fun k => by rw [x_declareCallable]) ?_
  refine Tm_ob (show Tm (fun k => x_block k 0 (upd (fun _ => 0) 1 (-1)) ρ) (fun r => r.2 = ρ) from b_block hB.1) (fun r hr => ?_)
  rw [hN, hr]
  refine Tm_chk (n_in (by omega) (by omega)) ?_
  rw [n_cl (p := c) (by omega)]
  show Tm (fun k => x_declareCallable k 24 N (mAr ρ 17 c r.1)) _
  refine Tm_suc (fun k => by rw [x_declareCallable]) ?_
  have hB2 : Bb m (mAr ρ 17 c r.1) := hB
  refine Tm_ob (b_wantWord hB2.1 _) (fun r2 hr2 => ?_)
  rw [hr2]
  exact ca_b26 hB2 (FrU_17 hF 0)
theorem ca_b25 {σ ρ : MS} {N : Nat → Int32} {m : Nat} {Q : Nat → Int32 × Nat → BT → SB → MS → Prop} (hc : c ≤ 40) (hN : N 2 = nI c) (hB : Bb m ρ) (hF : FrU c σ ρ) : Tm (fun k => x_declareCallable k 25 N ρ) (PoE T n c σ Q none) := by
  refine Tm_suc (fun k => by rw [x_declareCallable]) ?_
  refine Tm_ob (b_want hB.1 _) (fun r hr => ?_)
  rw [hr]
  refine Tm_ob (b_xexp hB.1 _) (fun r2 hr2 => ?_)
  rw [hr2, hN]
  refine Tm_chk (n_in (by omega) (by omega)) ?_
  rw [n_cl (p := c) (by omega)]
  show Tm (fun k => x_declareCallable k 26 N (mAr ρ 17 c 0)) _
  exact ca_b26 (show Bb m (mAr ρ 17 c 0) from hB) (FrU_17 hF 0)
theorem ca_b22 {σ ρ : MS} {N : Nat → Int32} {m : Nat} {Q : Nat → Int32 × Nat → BT → SB → MS → Prop} (hc : c ≤ 40) (hN : N 2 = nI c) (hB : Bb m ρ) (hF : FrU c σ ρ) : Tm (fun k => x_declareCallable k 22 N ρ) (PoE T n c σ Q none) := by
  refine Tm_suc (fun k => by rw [x_declareCallable]) ?_
  exact Tm_ite (fun z => absurd z hB.1) (fun _ => ca_b23 hc hN hB hF)
theorem ca_b20 {σ ρ : MS} {N : Nat → Int32} {m : Nat} {Q : Nat → Int32 × Nat → BT → SB → MS → Prop} (hc : c ≤ 40) (hN : N 2 = nI c) (hB : Bb m ρ) (hF : FrU c σ ρ) : Tm (fun k => x_declareCallable k 20 N ρ) (PoE T n c σ Q none) := by
  refine Tm_suc (fun k => by rw [x_declareCallable]) ?_
  show Tm (fun k => x_declareCallable k 21 N (mOpn ρ (ρ.1 13 - 1))) _
  have hB2 := Bb_opn hB (ρ.1 13 - 1)
  have hF2 := FrU_tr hF (FrU_opn (c := c) (σ := ρ) (ρ.1 13 - 1))
  refine Tm_suc (fun k => by rw [x_declareCallable]) ?_
  refine Tm_ite (fun _ => ca_b25 hc hN hB2 hF2) (fun _ => ?_)
  refine Tm_ob (b_want hB2.1 _) (fun r hr => ?_)
  rw [hr]
  exact ca_b22 hc hN hB2 hF2
theorem ca_b19 {σ ρ : MS} {N : Nat → Int32} {m : Nat} {Q : Nat → Int32 × Nat → BT → SB → MS → Prop} (hc : c ≤ 40) (hN : N 2 = nI c) (hB : Bb m ρ) (hF : FrU c σ ρ) : Tm (fun k => x_declareCallable k 19 N ρ) (PoE T n c σ Q none) := by
  refine Tm_suc (fun k => by rw [x_declareCallable]) ?_
  have l : Tm (fun k => x_paramsOf k 0 (upd (upd (fun _ => 0) 1 (N 2)) 2 (N 1)) ρ) (fun r => r.2 = ρ) := by
    refine Tm_suc (fun k => by rw [x_paramsOf]) ?_
    exact pm_b hB.1
  refine Tm_ob l (fun r hr => ?_)
  rw [hr]
  exact Tm_ite (fun z => absurd z hB.1) (fun _ => ca_b20 hc hN hB hF)
end CAL

section JnS30
/-! The reference's exps, held against the grammar. -/
theorem xE_0 (k d b : Nat) (L : Nat → Int32) (σ : MS) : x_GE (k + 1) d 0 b L σ = s_brackets (x_GE k) k d b L σ := rfl
theorem xE_1 (k d b : Nat) (L : Nat → Int32) (σ : MS) : x_GE (k + 1) d 1 b L σ = s_choice (x_GE k) k d b L σ := rfl
theorem xE_2 (k d b : Nat) (L : Nat → Int32) (σ : MS) : x_GE (k + 1) d 2 b L σ = s_conjunction (x_GE k) k d b L σ := rfl
theorem xE_3 (k d b : Nat) (L : Nat → Int32) (σ : MS) : x_GE (k + 1) d 3 b L σ = s_exp (x_GE k) k d b L σ := rfl
theorem xE_4 (k d b : Nat) (L : Nat → Int32) (σ : MS) : x_GE (k + 1) d 4 b L σ = s_iters (x_GE k) k d b L σ := rfl
theorem xE_5 (k d b : Nat) (L : Nat → Int32) (σ : MS) : x_GE (k + 1) d 5 b L σ = s_listed (x_GE k) k d b L σ := rfl
theorem xE_6 (k d b : Nat) (L : Nat → Int32) (σ : MS) : x_GE (k + 1) d 6 b L σ = s_name (x_GE k) k d b L σ := rfl
theorem xE_7 (k d b : Nat) (L : Nat → Int32) (σ : MS) : x_GE (k + 1) d 7 b L σ = s_negation (x_GE k) k d b L σ := rfl
theorem xE_8 (k d b : Nat) (L : Nat → Int32) (σ : MS) : x_GE (k + 1) d 8 b L σ = s_parts (x_GE k) k d b L σ := rfl
theorem xE_9 (k d b : Nat) (L : Nat → Int32) (σ : MS) : x_GE (k + 1) d 9 b L σ = s_power (x_GE k) k d b L σ := rfl
theorem xE_10 (k d b : Nat) (L : Nat → Int32) (σ : MS) : x_GE (k + 1) d 10 b L σ = s_prefix (x_GE k) k d b L σ := rfl
theorem xE_11 (k d b : Nat) (L : Nat → Int32) (σ : MS) : x_GE (k + 1) d 11 b L σ = s_primary (x_GE k) k d b L σ := rfl
theorem xE_12 (k d b : Nat) (L : Nat → Int32) (σ : MS) : x_GE (k + 1) d 12 b L σ = s_quantified (x_GE k) k d b L σ := rfl
theorem xE_13 (k d b : Nat) (L : Nat → Int32) (σ : MS) : x_GE (k + 1) d 13 b L σ = s_relation (x_GE k) k d b L σ := rfl
theorem xE_14 (k d b : Nat) (L : Nat → Int32) (σ : MS) : x_GE (k + 1) d 14 b L σ = s_sum (x_GE k) k d b L σ := rfl
theorem xE_15 (k d b : Nat) (L : Nat → Int32) (σ : MS) : x_GE (k + 1) d 15 b L σ = s_term (x_GE k) k d b L σ := rfl
theorem xE_16 (k d b : Nat) (L : Nat → Int32) (σ : MS) : x_GE (k + 1) d 16 b L σ = s_wordly (x_GE k) k d b L σ := rfl
def Po (T : Nat → Int32) (n : Nat) (E : En) (o M P k : Nat) (σ0 : MS) : Fl RT → Int32 × MS → Prop
  | Sum.inl yf, r => (∃ m, Bb yf m r.2 ∧ m ≤ k ∧ M ≤ m) ∧ (∃ e, r.1 = nI e ∧ e < 70000 ∧ (e = 0 ∨ M ≤ e)) ∧ FrM M P E.2.2.2.1 σ0 r.2
  | Sum.inr t, r => PS T n E o t.1 t.2.1 t.2.2.2.2.1 r.2 ∧ r.1 = nI t.2.2.2.1 ∧ FrM M P E.2.2.2.1 σ0 r.2
theorem Po_tr {T : Nat → Int32} {n : Nat} {E : En} {o M P k k' : Nat} {σ τ : MS} {x : Fl RT} {r : Int32 × MS} (h : FrM M P E.2.2.2.1 σ τ) (hk : k' ≤ k) (hp : Po T n E o M P k' τ x r) : Po T n E o M P k σ x r := by
  cases x with
  | inl yf =>
    obtain ⟨⟨m, h1, h2, h3⟩, h4, h5⟩ := hp
    exact ⟨⟨m, h1, by omega, h3⟩, h4, FrM_tr h h5⟩
  | inr t => exact ⟨hp.1, hp.2.1, FrM_tr h hp.2.2⟩
def reT (M : Nat) (b : BT) (L : Nat → Int32) (e : Nat) : Prop := True
def re1 (M : Nat) (b : BT) (L : Nat → Int32) (e : Nat) : Prop := L 1 = nI e ∧ M ≤ e ∧ e < b.1
def re2 (M : Nat) (b : BT) (L : Nat → Int32) (e : Nat) : Prop := L 2 = nI e ∧ M ≤ e ∧ e < b.1
def SG (T : Nat → Int32) (n f nt lv m blk : Nat) (re : Nat → BT → (Nat → Int32) → Nat → Prop) : Prop := ∀ (E : En) (o q v i e : Nat) (b : BT) (x : Fl RT), G T n f nt E o q v i e 0 0 b = some x → ∀ (σ : MS) (L : Nat → Int32) (d M P : Nat), PS T n E o q v b σ → 1 ≤ M → M ≤ b.1 → P ≤ b.2.1 → b.1 + (n + 1 - q) + 3 * (d + 2) ≤ 70000 → b.2.1 + (n - q) ≤ 70000 → 12 * (21 - o) + lv ≤ d → re M b L e → Tm (fun k => x_GE k d m blk L σ) (Po T n E o M P (b.1 + (n + 1 - q) + 3 * (d + 1)) σ x)
abbrev S0 (T : Nat → Int32) (n f : Nat) : Prop := SG T n f 0 11 3 0 reT
abbrev S1 (T : Nat → Int32) (n f : Nat) : Prop := SG T n f 1 11 3 1 re1
abbrev S2 (T : Nat → Int32) (n f : Nat) : Prop := SG T n f 2 10 2 0 reT
abbrev S3 (T : Nat → Int32) (n f : Nat) : Prop := SG T n f 3 10 2 1 re1
abbrev S4 (T : Nat → Int32) (n f : Nat) : Prop := SG T n f 4 9 7 0 reT
abbrev S5 (T : Nat → Int32) (n f : Nat) : Prop := SG T n f 5 8 13 0 reT
abbrev S6 (T : Nat → Int32) (n f : Nat) : Prop := SG T n f 6 7 14 0 reT
abbrev S7 (T : Nat → Int32) (n f : Nat) : Prop := SG T n f 7 7 14 1 re1
abbrev S8 (T : Nat → Int32) (n f : Nat) : Prop := SG T n f 8 6 15 0 reT
abbrev S9 (T : Nat → Int32) (n f : Nat) : Prop := SG T n f 9 6 15 1 re1
abbrev S10 (T : Nat → Int32) (n f : Nat) : Prop := SG T n f 10 5 9 0 reT
abbrev S11 (T : Nat → Int32) (n f : Nat) : Prop := SG T n f 11 4 10 0 reT
abbrev S12 (T : Nat → Int32) (n f : Nat) : Prop := SG T n f 12 3 8 1 re2
abbrev S13 (T : Nat → Int32) (n f : Nat) : Prop := SG T n f 13 3 11 0 reT
section BADRUN
variable {σ : MS} {d : Nat} {L : Nat → Int32}
theorem b_exp1 (h : ¬ σ.1 10 = 0) : Tm (fun k => x_GE k d 3 1 L σ) (fun r => r = (L 1, σ)) := by
  refine Tm_suc (fun k => by rw [xE_3]) ?_
  refine Tm_ite (c := σ.1 10 = 0) (fun c => absurd c h) (fun _ => ?_)
  refine Tm_suc (fun k => by rw [xE_3]) ?_
  exact Tm_some rfl
theorem b_con1 (h : ¬ σ.1 10 = 0) : Tm (fun k => x_GE k d 2 1 L σ) (fun r => r = (L 1, σ)) := by
  refine Tm_suc (fun k => by rw [xE_2]) ?_
  refine Tm_ite (c := σ.1 10 = 0) (fun c => absurd c h) (fun _ => ?_)
  refine Tm_suc (fun k => by rw [xE_2]) ?_
  exact Tm_some rfl
theorem b_sum1 (h : ¬ σ.1 10 = 0) : Tm (fun k => x_GE k d 14 1 L σ) (fun r => r = (L 1, σ)) := by
  refine Tm_suc (fun k => by rw [xE_14]) ?_
  refine Tm_ite (c := σ.1 10 = 0) (fun c => absurd c h) (fun _ => ?_)
  refine Tm_suc (fun k => by rw [xE_14]) ?_
  exact Tm_some rfl
theorem b_ter1 (h : ¬ σ.1 10 = 0) : Tm (fun k => x_GE k d 15 1 L σ) (fun r => r = (L 1, σ)) := by
  refine Tm_suc (fun k => by rw [xE_15]) ?_
  refine Tm_ite (c := σ.1 10 = 0) (fun c => absurd c h) (fun _ => ?_)
  refine Tm_suc (fun k => by rw [xE_15]) ?_
  exact Tm_some rfl
theorem b_par1 (h : ¬ σ.1 10 = 0) : Tm (fun k => x_GE k d 8 1 L σ) (fun r => r = (L 2, σ)) := by
  refine Tm_suc (fun k => by rw [xE_8]) ?_
  refine Tm_ite (c := σ.1 10 = 0) (fun c => absurd c h) (fun _ => ?_)
  refine Tm_suc (fun k => by rw [xE_8]) ?_
  exact Tm_some rfl
theorem b_pre (h : ¬ σ.1 10 = 0) : Tm (fun k => x_GE k d 10 0 L σ) (fun r => r = (0, σ)) := by
  refine Tm_suc (fun k => by rw [xE_10]) ?_
  exact Tm_ite (c := σ.1 10 = 0) (fun c => absurd c h) (fun _ => Tm_some rfl)
theorem b_pow (h : ¬ σ.1 10 = 0) : Tm (fun k => x_GE k (d + 1) 9 0 L σ) (fun r => r = (0, σ)) := by
  refine Tm_suc (fun k => by rw [xE_9]) ?_
  show Tm (fun k => ob (x_GE k d 10 0 (fun _ => 0) σ) _) _
  refine Tm_ob (b_pre h) (fun r hr => ?_)
  subst hr
  refine Tm_ite (c := σ.1 10 = 0) (fun c => absurd c h) (fun _ => ?_)
  refine Tm_suc (fun k => by rw [xE_9]) ?_
  exact Tm_some rfl
theorem b_ter (h : ¬ σ.1 10 = 0) : Tm (fun k => x_GE k (d + 2) 15 0 L σ) (fun r => r = (0, σ)) := by
  refine Tm_suc (fun k => by rw [xE_15]) ?_
  show Tm (fun k => ob (x_GE k (d + 1) 9 0 (fun _ => 0) σ) _) _
  refine Tm_ob (b_pow h) (fun r hr => ?_)
  subst hr
  exact b_ter1 h
theorem b_sum (h : ¬ σ.1 10 = 0) : Tm (fun k => x_GE k (d + 3) 14 0 L σ) (fun r => r = (0, σ)) := by
  refine Tm_suc (fun k => by rw [xE_14]) ?_
  show Tm (fun k => ob (x_GE k (d + 2) 15 0 (fun _ => 0) σ) _) _
  refine Tm_ob (b_ter h) (fun r hr => ?_)
  subst hr
  exact b_sum1 h
theorem b_rel (h : ¬ σ.1 10 = 0) : Tm (fun k => x_GE k (d + 4) 13 0 L σ) (fun r => r = (0, σ)) := by
  refine Tm_suc (fun k => by rw [xE_13]) ?_
  show Tm (fun k => ob (x_GE k (d + 3) 14 0 (fun _ => 0) σ) _) _
  refine Tm_ob (b_sum h) (fun r hr => ?_)
  subst hr
  refine Tm_ite (c := σ.1 10 = 0) (fun c => absurd c h) (fun _ => ?_)
  refine Tm_suc (fun k => by rw [xE_13]) ?_
  exact Tm_some rfl
theorem b_neg (h : ¬ σ.1 10 = 0) : Tm (fun k => x_GE k (d + 5) 7 0 L σ) (fun r => r = (0, σ)) := by
  refine Tm_suc (fun k => by rw [xE_7]) ?_
  refine Tm_ite (c := σ.1 10 = 0) (fun c => absurd c h) (fun _ => ?_)
  refine Tm_suc (fun k => by rw [xE_7]) ?_
  show Tm (fun k => ob (x_GE k (d + 4) 13 0 (fun _ => 0) σ) _) _
  refine Tm_ob (b_rel h) (fun r hr => ?_)
  subst hr
  exact Tm_some rfl
theorem b_con (h : ¬ σ.1 10 = 0) : Tm (fun k => x_GE k (d + 6) 2 0 L σ) (fun r => r = (0, σ)) := by
  refine Tm_suc (fun k => by rw [xE_2]) ?_
  show Tm (fun k => ob (x_GE k (d + 5) 7 0 (fun _ => 0) σ) _) _
  refine Tm_ob (b_neg h) (fun r hr => ?_)
  subst hr
  exact b_con1 h
theorem b_exp (h : ¬ σ.1 10 = 0) : Tm (fun k => x_GE k (d + 7) 3 0 L σ) (fun r => r = (0, σ)) := by
  refine Tm_suc (fun k => by rw [xE_3]) ?_
  show Tm (fun k => ob (x_GE k (d + 6) 2 0 (fun _ => 0) σ) _) _
  refine Tm_ob (b_con h) (fun r hr => ?_)
  subst hr
  exact b_exp1 h
end BADRUN
section EXPS
variable {T : Nat → Int32} {n f : Nat}
/-- a row of operands: the first one, then the loop -/
theorem head_of {nt nt' lp lv m m' : Nat} {g : Nat → Nat → (Nat → Int32) → MS → Option (Int32 × MS)}
    (hg : ∀ (E : En) (o q v i e c g : Nat) (b : BT), G T n (f + 1) nt E o q v i e c g b = gb (G T n f nt' E o q v 0 0 0 0 b) (fun r => G T n f lp E o r.1 r.2.1 r.2.2.1 r.2.2.2.1 0 0 r.2.2.2.2.1))
    (hx : ∀ (d : Nat) (L : Nat → Int32) (σ : MS) (k : Nat), x_GE (k + 1) (d + 1) m 0 L σ = ob (x_GE k d m' 0 (fun _ => 0) σ) (fun r1 => x_GE k (d + 1) m 1 (upd L 1 r1.1) r1.2))
    (hb : ∀ (σ : MS) (d : Nat) (L : Nat → Int32), ¬ σ.1 10 = 0 → Tm (fun k => x_GE k d m 1 L σ) (fun r => r = (L 1, σ)))
    (hnd : ∀ (M : Nat) (b : BT), Nd0 nt' M b 0 0 0) (hnd1 : ∀ (M : Nat) (r : RT), Nd1 nt' M r → M ≤ r.2.2.2.1 ∧ r.2.2.2.1 < r.2.2.2.2.1.1) (hmo : ∀ (b : BT) (q v : Nat) (r : RT), MoN nt' n b q v r → Mo n b q v r)
    (H2 : SG T n f nt' lv m' 0 reT) (H1 : SG T n f lp (lv + 1) m 1 re1) : SG T n (f + 1) nt (lv + 1) m 0 reT := by
  intro E o q v i e b x hG σ L d M P hS h1 hM hP hn hp hd _
  rw [hg] at hG
  obtain ⟨d, rfl⟩ : ∃ d', d = d' + 1 := ⟨d - 1, by omega⟩
  refine Tm_suc (fun k => by rw [hx]) ?_
  rcases gb_any hG with ⟨yf, h2, rfl⟩ | ⟨s, h2, hk⟩
  · refine Tm_ob (H2 _ _ _ _ _ _ _ _ h2 σ _ d M P hS h1 hM hP (by omega) hp (by omega) trivial) (fun r hr => ?_)
    obtain ⟨⟨m1, hm, hmk, hMm⟩, ⟨e', he', he2, he3⟩, hF⟩ := hr
    refine Tm_mono (hb r.2 _ _ hm.1) (fun z hz => ?_)
    subst hz
    exact ⟨⟨m1, hm, by omega, hMm⟩, ⟨e', by show upd L 1 r.1 1 = _; rw [upd_same]; exact he', he2, he3⟩, hF⟩
  · have hv : v ≤ 60 := hS.2.2.2.1.2.2.2.1
    have hq := PS_q hS
    obtain ⟨x1, x2⟩ := g_mono T n f nt' E o q v 0 0 0 0 b s hq.1 hv h2 M hM h1 (hnd _ _)
    obtain ⟨a1, a2, a3, a4, a5, a6, a7, a8⟩ := hmo _ _ _ _ x1
    have x2 := hnd1 _ _ x2
    refine Tm_ob (H2 _ _ _ _ _ _ _ _ h2 σ _ d M P hS h1 hM hP (by omega) hp (by omega) trivial) (fun r hr => ?_)
    obtain ⟨hS', hr1, hF⟩ := hr
    refine Tm_mono (H1 _ _ _ _ _ _ _ _ hk r.2 _ (d + 1) M P hS' h1 (by omega) (by omega) (by omega) (by omega) (by omega) ⟨by rw [upd_same]; exact hr1, x2.1, x2.2⟩) (fun z hz => Po_tr hF (by omega) hz)
theorem e_0 (H2 : S2 T n f) (H1 : S1 T n f) : S0 T n (f + 1) :=
  head_of (g := fun _ _ _ _ => none) (fun _ _ _ _ _ _ _ _ _ => rfl) (fun _ _ _ _ => rfl) (fun _ _ _ h => b_exp1 h) (fun _ _ => trivial) (fun _ _ h => h) (fun _ _ _ _ h => h) H2 H1
theorem e_2 (H2 : S4 T n f) (H1 : S3 T n f) : S2 T n (f + 1) :=
  head_of (g := fun _ _ _ _ => none) (fun _ _ _ _ _ _ _ _ _ => rfl) (fun _ _ _ _ => rfl) (fun _ _ _ h => b_con1 h) (fun _ _ => trivial) (fun _ _ h => h) (fun _ _ _ _ h => h) H2 H1
theorem e_6 (H2 : S8 T n f) (H1 : S7 T n f) : S6 T n (f + 1) :=
  head_of (g := fun _ _ _ _ => none) (fun _ _ _ _ _ _ _ _ _ => rfl) (fun _ _ _ _ => rfl) (fun _ _ _ h => b_sum1 h) (fun _ _ => trivial) (fun _ _ h => h) (fun _ _ _ _ h => h) H2 H1
theorem e_8 (H2 : S10 T n f) (H1 : S9 T n f) : S8 T n (f + 1) :=
  head_of (g := fun _ _ _ _ => none) (fun _ _ _ _ _ _ _ _ _ => rfl) (fun _ _ _ _ => rfl) (fun _ _ _ h => b_ter1 h) (fun _ _ => trivial) (fun _ _ h => h) (fun _ _ _ _ h => h) H2 H1
/-- the loop's turn: a token is taken, an operand read, a node laid over both -/
theorem turn_of {nt nt' lv m m' : Nat} {E : En} {o q v e : Nat} {b : BT} {x : Fl RT} {kd op : Int32} {σ : MS} {L N : Nat → Int32} {d M P : Nat}
    (hG : gT T n q (fun q1 => gb (G T n f nt' E o q1 v 0 0 0 0 b) (fun r => G T n f nt E o r.1 r.2.1 0 r.2.2.2.2.1.1 0 0 (bOver r.2.2.2.2.1 kd op e (nI r.2.2.2.1)))) = some x)
    (hb : ∀ (σ : MS) (d : Nat) (L : Nat → Int32), ¬ σ.1 10 = 0 → Tm (fun k => x_GE k d m 1 L σ) (fun r => r = (L 1, σ)))
    (hbm : ∀ (σ : MS) (d : Nat) (L : Nat → Int32), 10 ≤ d → ¬ σ.1 10 = 0 → Tm (fun k => x_GE k d m' 0 L σ) (fun r => r = (0, σ)))
    (hnd : ∀ (M : Nat) (b : BT), Nd0 nt' M b 0 0 0) (hnd1 : ∀ (M : Nat) (r : RT), Nd1 nt' M r → M ≤ r.2.2.2.1 ∧ r.2.2.2.1 < r.2.2.2.2.1.1) (hmo : ∀ (b : BT) (q v : Nat) (r : RT), MoN nt' n b q v r → Mo n b q v r)
    (H2 : SG T n f nt' lv m' 0 reT) (H1 : SG T n f nt (lv + 1) m 1 re1) (hK : ¬ tkK T n q = 25)
    (hS : PS T n E o q v b σ) (h1 : 1 ≤ M) (hM : M ≤ b.1) (hP : P ≤ b.2.1) (hn : b.1 + (n + 1 - q) + 3 * (d + 1 + 2) ≤ 70000) (hp : b.2.1 + (n - q) ≤ 70000) (hd : 12 * (21 - o) + (lv + 1) ≤ d + 1) (he : M ≤ e ∧ e < b.1) (Z : Nat → Int32) (A : (Nat → Int32) → Int32 → (Nat → Int32)) (hA : ∀ x, A N x 1 = x) (hL1 : L 1 = nI e) :
    Tm (fun k => ob (x_take k 0 Z σ) (fun r4 => ob (x_GE k d m' 0 (fun _ => 0) r4.2) (fun r5 => ob (x_over k 0 (upd (upd (upd (upd (fun _ => 0) 1 kd) 2 op) 3 (L 1)) 4 r5.1) r5.2) (fun r6 => x_GE k (d + 1) m 1 (A N r6.1) r6.2)))) (Po T n E o M P (b.1 + (n + 1 - q) + 3 * (d + 1 + 1)) σ x) := by
  have hq := PS_q hS
  have hu := tkN_b T n q hq.1
  have hu4 := hu.2.2.2 hK
  have ho : o ≤ 20 := hS.2.1.2
  have hv : v ≤ 60 := hS.2.2.2.1.2.2.2.1
  refine Tm_ob (p_take (M := M) (P := P) (w := E.2.2.2.1) hS _) (fun r4 hr4 => ?_)
  rcases gT_any hG with ⟨t0, rfl⟩ | ⟨t0, hG⟩
  · rcases hr4.2 with ⟨_, hB⟩ | ⟨z, _⟩
    · refine Tm_ob (hbm r4.2 d _ (by omega) hB.1) (fun r5 hr5 => ?_)
      subst hr5
      refine Tm_ob (b_over (M := M) (P := P) (w := E.2.2.2.1) hB (by omega) hM _ (l := e) (by rw [upd_other (by decide), upd_same]; exact hL1) (Or.inr he.1) (by omega)) (fun r6 hr6 => ?_)
      refine Tm_mono (hb r6.2 _ _ hr6.2.1.1) (fun z hz => ?_)
      subst hz
      exact ⟨⟨_, hr6.2.1, by omega, by omega⟩, ⟨b.1, by rw [hA]; exact hr6.1, by omega, Or.inr hM⟩, FrM_tr hr4.1 hr6.2.2⟩
    · exact absurd t0 z
  · rcases hr4.2 with ⟨z, _⟩ | ⟨_, hS4⟩
    · exact absurd z t0
    rcases gb_any hG with ⟨yf, h2, rfl⟩ | ⟨s, h2, hk⟩
    · refine Tm_ob (H2 _ _ _ _ _ _ _ _ h2 r4.2 _ d M P hS4 h1 hM hP (by omega) (by omega) (by omega) trivial) (fun r5 hr5 => ?_)
      obtain ⟨⟨m1, hm, hmk, hMm⟩, ⟨e', he', he2, he3⟩, hF⟩ := hr5
      refine Tm_ob (b_over (M := M) (P := P) (w := E.2.2.2.1) hm (by omega) hMm _ (l := e) (by rw [upd_other (by decide), upd_same]; exact hL1) (Or.inr he.1) (by omega)) (fun r6 hr6 => ?_)
      refine Tm_mono (hb r6.2 _ _ hr6.2.1.1) (fun z hz => ?_)
      subst hz
      exact ⟨⟨_, hr6.2.1, by omega, by omega⟩, ⟨m1, by rw [hA]; exact hr6.1, by omega, Or.inr hMm⟩, FrM_tr hr4.1 (FrM_tr hF hr6.2.2)⟩
    · obtain ⟨x1, x2⟩ := g_mono T n f nt' E o _ v 0 0 0 0 b s hu.2.1 hv h2 M hM h1 (hnd _ _)
      obtain ⟨a1, a2, a3, a4, a5, a6, a7, a8⟩ := hmo _ _ _ _ x1
      have x2 := hnd1 _ _ x2
      refine Tm_ob (H2 _ _ _ _ _ _ _ _ h2 r4.2 _ d M P hS4 h1 hM hP (by omega) (by omega) (by omega) trivial) (fun r5 hr5 => ?_)
      obtain ⟨hS5, hr51, hF⟩ := hr5
      refine Tm_ob (p_over (M := M) (P := P) (w := E.2.2.2.1) hS5 (by omega) (by omega) _ (l := e) (by rw [upd_other (by decide), upd_same]; exact hL1) he.1 (by omega)) (fun r6 hr6 => ?_)
      obtain ⟨hr61, hS6, hF6⟩ := hr6
      have e4 : (upd (upd (upd (upd (fun _ => 0) 1 kd) 2 op) 3 (L 1)) 4 r5.1) 4 = nI s.2.2.2.1 := by rw [upd_same]; exact hr51
      have e1 : (upd (upd (upd (upd (fun _ => (0 : Int32)) 1 kd) 2 op) 3 (L 1)) 4 r5.1) 1 = kd := by rw [upd_other (by decide), upd_other (by decide), upd_other (by decide), upd_same]
      have e2 : (upd (upd (upd (upd (fun _ => (0 : Int32)) 1 kd) 2 op) 3 (L 1)) 4 r5.1) 2 = op := by rw [upd_other (by decide), upd_other (by decide), upd_same]
      rw [e4, e1, e2] at hS6
      refine Tm_mono (H1 _ _ _ _ _ _ _ _ hk r6.2 _ (d + 1) M P hS6 h1 (by rw [bOver_1]; omega) (by rw [bOver_p]; omega) (by rw [bOver_1]; omega) (by rw [bOver_p]; omega) (by omega) ⟨by rw [hA]; exact hr61, by omega, by rw [bOver_1]; omega⟩) (fun z hz => Po_tr (FrM_tr hr4.1 (FrM_tr hF hF6)) (by rw [bOver_1]; omega) hz)
theorem e_1 (H2 : S2 T n f) (H1 : S1 T n f) : S1 T n (f + 1) := by
  intro E o q v i e b x hG σ L d M P hS h1 hM hP hn hp hd hre
  obtain ⟨hL1, he⟩ := hre
  obtain ⟨d, rfl⟩ : ∃ d', d = d' + 1 := ⟨d - 1, by omega⟩
  rw [G_1] at hG
  refine Tm_suc (fun k => by rw [xE_3]) ?_
  refine Tm_ite (c := σ.1 10 = 0) (fun _ => ?_) (fun c => absurd (PS_ok hS) c)
  refine Tm_ob (p_word hS (s := 33) (by decide) rfl) (fun r2 hr2 => ?_)
  obtain ⟨u, τ⟩ := r2
  obtain ⟨rfl, hr2⟩ := hr2
  refine Tm_ite (fun c => ?_) (fun c => ?_)
  · have hK : ¬ tkK T n q = 65 := fun z => hr2.mpr z c
    rw [if_neg hK] at hG
    cases hG
    refine Tm_suc (fun k => by rw [xE_3]) ?_
    exact Tm_some ⟨hS, hL1, FrM_rf⟩
  · have hK : tkK T n q = 65 := hr2.mp c
    rw [if_pos hK] at hG
    exact turn_of (L := L) (N := L) (A := fun L x => upd L 1 x) hG (fun _ _ _ h => b_exp1 h) (fun σ d L h9 h => by obtain ⟨d', rfl⟩ : ∃ d', d = d' + 6 := ⟨d - 6, by omega⟩; exact b_con h) (fun _ _ => trivial) (fun _ _ h => h) (fun _ _ _ _ h => h) H2 H1 (by omega) hS h1 hM hP hn hp hd he _ (fun x => upd_same) hL1
theorem e_3 (H2 : S4 T n f) (H1 : S3 T n f) : S3 T n (f + 1) := by
  intro E o q v i e b x hG σ L d M P hS h1 hM hP hn hp hd hre
  obtain ⟨hL1, he⟩ := hre
  obtain ⟨d, rfl⟩ : ∃ d', d = d' + 1 := ⟨d - 1, by omega⟩
  rw [G_3] at hG
  refine Tm_suc (fun k => by rw [xE_2]) ?_
  refine Tm_ite (c := σ.1 10 = 0) (fun _ => ?_) (fun c => absurd (PS_ok hS) c)
  refine Tm_ob (p_word hS (s := 32) (by decide) rfl) (fun r2 hr2 => ?_)
  obtain ⟨u, τ⟩ := r2
  obtain ⟨rfl, hr2⟩ := hr2
  refine Tm_ite (fun c => ?_) (fun c => ?_)
  · have hK : ¬ tkK T n q = 64 := fun z => hr2.mpr z c
    rw [if_neg hK] at hG
    cases hG
    refine Tm_suc (fun k => by rw [xE_2]) ?_
    exact Tm_some ⟨hS, hL1, FrM_rf⟩
  · have hK : tkK T n q = 64 := hr2.mp c
    rw [if_pos hK] at hG
    exact turn_of (L := L) (N := L) (A := fun L x => upd L 1 x) hG (fun _ _ _ h => b_con1 h) (fun σ d L h9 h => by obtain ⟨d', rfl⟩ : ∃ d', d = d' + 5 := ⟨d - 5, by omega⟩; exact b_neg h) (fun _ _ => trivial) (fun _ _ h => h) (fun _ _ _ _ h => h) H2 H1 (by omega) hS h1 hM hP hn hp hd he _ (fun x => upd_same) hL1
end EXPS
end JnS30
section JnS31
/-! Sums, terms, comparisons, not, powers, prefixes. -/
section EXPS
variable {T : Nat → Int32} {n f : Nat}
/-- an operator as a number -/
theorem s_operator (L : Nat → Int32) (σ : MS) : Tm (fun k => x_operator k 0 L σ) (fun r => r = (if σ.1 6 = 4 then σ.1 7 else 100 + σ.1 7, σ)) := by
  refine Tm_suc (fun k => by rw [x_operator]) ?_
  refine Tm_ite (fun c => ?_) (fun c => ?_)
  · refine Tm_suc (fun k => by rw [x_operator]) ?_
    exact Tm_some (by rw [if_pos c, upd_same])
  · refine Tm_suc (fun k => by rw [x_operator]) ?_
    refine Tm_suc (fun k => by rw [x_operator]) ?_
    exact Tm_some (by rw [if_neg c, upd_same])
theorem p_operator {E : En} {o q v : Nat} {b : BT} {σ : MS} (h : PS T n E o q v b σ) (hk : (1 ≤ tkK T n q ∧ tkK T n q ≤ 24) ∨ 32 ≤ tkK T n q) (L : Nat → Int32) : Tm (fun k => x_operator k 0 L σ) (fun r => r = (opr (tkK T n q), σ)) := by
  refine Tm_mono (s_operator L σ) (fun r hr => ?_)
  subst hr
  have c := cur_kind (PS_cur h)
  have w := cur_what (PS_cur h)
  unfold opr
  rcases hk with hk | hk
  · rw [if_pos (c.2.2.2.2.1.mpr hk), if_pos hk.2, w.1 hk.1 hk.2]
  · rw [if_neg (fun z => by have := c.2.2.2.2.1.mp z; omega), if_neg (by omega), w.2.1 hk]
theorem e_7 (H2 : S8 T n f) (H1 : S7 T n f) : S7 T n (f + 1) := by
  intro E o q v i e b x hG σ L d M P hS h1 hM hP hn hp hd hre
  obtain ⟨hL1, he⟩ := hre
  obtain ⟨d, rfl⟩ : ∃ d', d = d' + 1 := ⟨d - 1, by omega⟩
  rw [G_7] at hG
  have out : ¬ (tkK T n q = 2 ∨ tkK T n q = 3) → Tm (fun k => x_GE k (d + 1) 14 3 L σ) (Po T n E o M P (b.1 + (n + 1 - q) + 3 * (d + 1 + 1)) σ x) := fun hK => by
    rw [if_neg hK] at hG
    cases hG
    refine Tm_suc (fun k => by rw [xE_14]) ?_
    exact Tm_some ⟨hS, hL1, FrM_rf⟩
  have on : (tkK T n q = 2 ∨ tkK T n q = 3) → Tm (fun k => x_GE k (d + 1) 14 2 L σ) (Po T n E o M P (b.1 + (n + 1 - q) + 3 * (d + 1 + 1)) σ x) := fun hK => by
    rw [if_pos hK] at hG
    refine Tm_suc (fun k => by rw [xE_14]) ?_
    refine Tm_ob (p_operator hS (by omega) _) (fun r1 hr1 => ?_)
    subst hr1
    exact turn_of (L := L) (N := upd L 2 (opr (tkK T n q))) (A := fun L x => upd L 1 x) hG (fun _ _ _ h => b_sum1 h) (fun σ d L h9 h => by obtain ⟨d', rfl⟩ : ∃ d', d = d' + 2 := ⟨d - 2, by omega⟩; exact b_ter h) (fun _ _ => trivial) (fun _ _ h => h) (fun _ _ _ _ h => h) H2 H1 (by omega) hS h1 hM hP hn hp hd he _ (fun x => upd_same) hL1
  refine Tm_suc (fun k => by rw [xE_14]) ?_
  refine Tm_ite (c := σ.1 10 = 0) (fun _ => ?_) (fun c => absurd (PS_ok hS) c)
  refine Tm_ob (p_sign hS (s := 2) (by decide) (by decide) rfl) (fun r2 hr2 => ?_)
  obtain ⟨u, τ⟩ := r2
  obtain ⟨rfl, hr2⟩ := hr2
  refine Tm_ite (fun c => ?_) (fun c => on (Or.inl (hr2.mp c)))
  refine Tm_ob (p_sign hS (s := 3) (by decide) (by decide) rfl) (fun r4 hr4 => ?_)
  obtain ⟨u, τ⟩ := r4
  obtain ⟨rfl, hr4⟩ := hr4
  refine Tm_ite (fun c2 => ?_) (fun c2 => on (Or.inr (hr4.mp c2)))
  exact out (fun z => z.elim (fun z => hr2.mpr z c) (fun z => hr4.mpr z c2))
theorem e_9 (H2 : S10 T n f) (H1 : S9 T n f) : S9 T n (f + 1) := by
  intro E o q v i e b x hG σ L d M P hS h1 hM hP hn hp hd hre
  obtain ⟨hL1, he⟩ := hre
  obtain ⟨d, rfl⟩ : ∃ d', d = d' + 1 := ⟨d - 1, by omega⟩
  rw [G_9] at hG
  have out : ¬ (tkK T n q = 4 ∨ tkK T n q = 67 ∨ tkK T n q = 68) → Tm (fun k => x_GE k (d + 1) 15 3 L σ) (Po T n E o M P (b.1 + (n + 1 - q) + 3 * (d + 1 + 1)) σ x) := fun hK => by
    rw [if_neg hK] at hG
    cases hG
    refine Tm_suc (fun k => by rw [xE_15]) ?_
    exact Tm_some ⟨hS, hL1, FrM_rf⟩
  have on : (tkK T n q = 4 ∨ tkK T n q = 67 ∨ tkK T n q = 68) → Tm (fun k => x_GE k (d + 1) 15 2 L σ) (Po T n E o M P (b.1 + (n + 1 - q) + 3 * (d + 1 + 1)) σ x) := fun hK => by
    rw [if_pos hK] at hG
    refine Tm_suc (fun k => by rw [xE_15]) ?_
    refine Tm_ob (p_operator hS (by omega) _) (fun r1 hr1 => ?_)
    subst hr1
    exact turn_of (L := L) (N := upd L 2 (opr (tkK T n q))) (A := fun L x => upd L 1 x) hG (fun _ _ _ h => b_ter1 h) (fun σ d L h9 h => by obtain ⟨d', rfl⟩ : ∃ d', d = d' + 1 := ⟨d - 1, by omega⟩; exact b_pow h) (fun _ _ => trivial) (fun _ _ h => h) (fun _ _ _ _ h => h) H2 H1 (by omega) hS h1 hM hP hn hp hd he _ (fun x => upd_same) hL1
  refine Tm_suc (fun k => by rw [xE_15]) ?_
  refine Tm_ite (c := σ.1 10 = 0) (fun _ => ?_) (fun c => absurd (PS_ok hS) c)
  refine Tm_ob (p_sign hS (s := 4) (by decide) (by decide) rfl) (fun r2 hr2 => ?_)
  obtain ⟨u, τ⟩ := r2
  obtain ⟨rfl, hr2⟩ := hr2
  refine Tm_ite (fun c => ?_) (fun c => on (Or.inl (hr2.mp c)))
  refine Tm_ob (p_word hS (s := 35) (by decide) rfl) (fun r4 hr4 => ?_)
  obtain ⟨u, τ⟩ := r4
  obtain ⟨rfl, hr4⟩ := hr4
  refine Tm_ite (fun c2 => ?_) (fun c2 => on (Or.inr (Or.inl (hr4.mp c2))))
  refine Tm_ob (p_word hS (s := 36) (by decide) rfl) (fun r6 hr6 => ?_)
  obtain ⟨u, τ⟩ := r6
  obtain ⟨rfl, hr6⟩ := hr6
  refine Tm_ite (fun c3 => ?_) (fun c3 => on (Or.inr (Or.inr (hr6.mp c3))))
  exact out (fun z => z.elim (fun z => hr2.mpr z c) (fun z => z.elim (fun z => hr4.mpr z c2) (fun z => hr6.mpr z c3)))
/-- is it a comparison -/
theorem p_isRelation {E : En} {o q v : Nat} {b : BT} {σ : MS} (h : PS T n E o q v b σ) (L : Nat → Int32) : Tm (fun k => x_isRelation k 0 L σ) (fun r => r.2 = σ ∧ (¬ r.1 = 0 ↔ isRl (tkK T n q))) := by
  have c := cur_kind (PS_cur h)
  have w := cur_what (PS_cur h)
  have yes : isRl (tkK T n q) → ∀ L, Tm (fun k => x_isRelation k 2 L σ) (fun r => r.2 = σ ∧ (¬ r.1 = 0 ↔ isRl (tkK T n q))) := fun hy L => by
    refine Tm_suc (fun k => by rw [x_isRelation]) ?_
    refine Tm_suc (fun k => by rw [x_isRelation]) ?_
    refine Tm_chk (by rw [upd_same]; exact Or.inr rfl) ?_
    exact Tm_some ⟨rfl, ⟨fun _ => hy, fun _ => by show ¬ upd L 100 1 100 = 0; rw [upd_same]; decide⟩⟩
  have words : ¬ (17 ≤ tkK T n q ∧ tkK T n q ≤ 22) → ∀ L, Tm (fun k => x_isRelation k 1 L σ) (fun r => r.2 = σ ∧ (¬ r.1 = 0 ↔ isRl (tkK T n q))) := fun hn L => by
    refine Tm_suc (fun k => by rw [x_isRelation]) ?_
    refine Tm_ob (p_word h (s := 14) (by decide) rfl) (fun r1 hr1 => ?_)
    obtain ⟨u, τ⟩ := r1
    obtain ⟨rfl, hr1⟩ := hr1
    refine Tm_ite (fun c1 => ?_) (fun c1 => yes (Or.inr (Or.inl (hr1.mp c1))) _)
    refine Tm_ob (p_word h (s := 15) (by decide) rfl) (fun r2 hr2 => ?_)
    obtain ⟨u, τ⟩ := r2
    obtain ⟨rfl, hr2⟩ := hr2
    refine Tm_ite (fun c2 => ?_) (fun c2 => yes (Or.inr (Or.inr (Or.inl (hr2.mp c2)))) _)
    refine Tm_ob (p_word h (s := 16) (by decide) rfl) (fun r3 hr3 => ?_)
    obtain ⟨u, τ⟩ := r3
    obtain ⟨rfl, hr3⟩ := hr3
    refine Tm_ite (fun c3 => ?_) (fun c3 => yes (Or.inr (Or.inr (Or.inr (hr3.mp c3)))) _)
    refine Tm_suc (fun k => by rw [x_isRelation]) ?_
    refine Tm_suc (fun k => by rw [x_isRelation]) ?_
    refine Tm_chk (by rw [upd_same]; exact Or.inl rfl) ?_
    refine Tm_some ⟨rfl, ⟨fun z => absurd (show upd L 100 0 100 = 0 from upd_same) z, fun z => ?_⟩⟩
    rcases z with z | z | z | z
    · exact absurd z hn
    · exact absurd c1 (hr1.mpr z)
    · exact absurd c2 (hr2.mpr z)
    · exact absurd c3 (hr3.mpr z)
  refine Tm_suc (fun k => by rw [x_isRelation]) ?_
  refine Tm_ite (fun d => ?_) (fun d => words (fun z => d (c.2.2.2.2.1.mpr (by omega))) _)
  have hk := c.2.2.2.2.1.mp d
  rw [w.1 hk.1 hk.2]
  refine Tm_ite (fun d => words (fun z => ?_) _) (fun d => ?_)
  · have d : nI (tkK T n q) < nI 17 := d
    rw [n_lt (by omega) (by omega)] at d; omega
  · have d : ¬ nI (tkK T n q) < nI 17 := d
    rw [n_lt (by omega) (by omega)] at d
    refine Tm_ite (fun d2 => ?_) (fun d2 => ?_)
    · have d2 : nI (tkK T n q) ≤ nI 22 := d2
      rw [n_le (by omega) (by omega)] at d2
      exact yes (Or.inl (by omega)) _
    · have d2 : ¬ nI (tkK T n q) ≤ nI 22 := d2
      rw [n_le (by omega) (by omega)] at d2
      exact words (by omega) _
end EXPS
end JnS31
section JnS32
variable {yf : Nat × Nat}
/-! Comparisons, not, powers, prefixes, parts. -/
section EXPS
variable {T : Nat → Int32} {n f : Nat}
theorem PS_v {E : En} {o q v : Nat} {b : BT} {σ : MS} (h : PS T n E o q v b σ) : v ≤ 60 := h.2.2.2.1.2.2.2.1
theorem PS_o {E : En} {o q v : Nat} {b : BT} {σ : MS} (h : PS T n E o q v b σ) : o ≤ 20 := h.2.1.2
/-- one operand, as G's own facts have it -/
theorem mo_of {nt : Nat} {E : En} {o q v : Nat} {b : BT} {s : RT} {M : Nat} (hq : q ≤ n) (hv : v ≤ 60) (h : G T n f nt E o q v 0 0 0 0 b = some (Sum.inr s)) (hM : M ≤ b.1) (h1 : 1 ≤ M) (hn0 : Nd0 nt M b 0 0 0) (hn1 : Nd1 nt M s → M ≤ s.2.2.2.1 ∧ s.2.2.2.1 < s.2.2.2.2.1.1) (hmo : MoN nt n b q v s → Mo n b q v s) : Mo n b q v s ∧ M ≤ s.2.2.2.1 ∧ s.2.2.2.1 < s.2.2.2.2.1.1 := by
  obtain ⟨x1, x2⟩ := g_mono T n f nt E o q v 0 0 0 0 b s hq hv h M hM h1 hn0
  exact ⟨hmo x1, hn1 x2⟩
theorem e_5 (H6 : S6 T n f) : S5 T n (f + 1) := by
  intro E o q v i e b x hG σ L d M P hS h1 hM hP hn hp hd _
  obtain ⟨d, rfl⟩ : ∃ d', d = d' + 1 := ⟨d - 1, by omega⟩
  rw [G_5] at hG
  have hq := PS_q hS
  have ho := PS_o hS
  refine Tm_suc (fun k => by rw [xE_13]) ?_
  show Tm (fun k => ob (x_GE k d 14 0 (fun _ => 0) σ) _) _
  rcases gb_any hG with ⟨yf, h2, rfl⟩ | ⟨s, h2, hG⟩
  · refine Tm_ob (H6 _ _ _ _ _ _ _ _ h2 σ _ d M P hS h1 hM hP (by omega) hp (by omega) trivial) (fun r hr => ?_)
    obtain ⟨⟨m1, hm, hmk, hMm⟩, ⟨e', he', he2, he3⟩, hF⟩ := hr
    refine Tm_ite (fun c => absurd c hm.1) (fun _ => ?_)
    refine Tm_suc (fun k => by rw [xE_13]) ?_
    exact Tm_some ⟨⟨m1, hm, by omega, hMm⟩, ⟨e', by show upd L 1 r.1 1 = _; rw [upd_same]; exact he', he2, he3⟩, hF⟩
  obtain ⟨⟨a1, a2, a3, a4, a5, a6, a7, a8⟩, a9⟩ := mo_of hq.1 (PS_v hS) h2 hM h1 trivial (fun h => h) (fun h => h)
  refine Tm_ob (H6 _ _ _ _ _ _ _ _ h2 σ _ d M P hS h1 hM hP (by omega) hp (by omega) trivial) (fun r hr => ?_)
  obtain ⟨hS1, hr1, hF⟩ := hr
  refine Tm_ite (fun _ => ?_) (fun c => absurd (PS_ok hS1) c)
  refine Tm_ob (p_isRelation hS1 _) (fun r3 hr3 => ?_)
  obtain ⟨u, τ⟩ := r3
  obtain ⟨h3, hr3⟩ := hr3
  have h3 : τ = r.2 := h3
  subst h3
  refine Tm_ite (fun c => ?_) (fun c => ?_)
  · rw [if_neg (fun z => hr3.mpr z c)] at hG
    cases hG
    refine Tm_suc (fun k => by rw [xE_13]) ?_
    exact Tm_some ⟨hS1, by show upd L 1 r.1 1 = _; rw [upd_same]; exact hr1, hF⟩
  have hR := hr3.mp c
  rw [if_pos hR] at hG
  have hv1 := PS_v hS1
  have hu := tkN_b T n s.1 a2
  have hu4 := hu.2.2.2 (by rcases hR with z | z | z | z <;> omega)
  refine Tm_ob (p_operator hS1 (by rcases hR with z | z | z | z <;> omega) _) (fun r5 hr5 => ?_)
  subst hr5
  refine Tm_ob (p_take (M := M) (P := P) (w := E.2.2.2.1) hS1 _) (fun r6 hr6 => ?_)
  rcases gT_any hG with ⟨t0, rfl⟩ | ⟨t0, hG⟩
  · rcases hr6.2 with ⟨_, hB⟩ | ⟨z, _⟩
    · show Tm (fun k => ob (x_GE k d 14 0 (fun _ => 0) r6.2) _) _
      obtain ⟨d', hd'⟩ : ∃ d', d = d' + 3 := ⟨d - 3, by omega⟩
      refine Tm_ob (by rw [hd']; exact b_sum hB.1) (fun r7 hr7 => ?_)
      subst hr7
      refine Tm_ob (b_over (M := M) (P := P) (w := E.2.2.2.1) hB (by omega) (by omega) _ (l := s.2.2.2.1) (by rw [upd_other (by decide), upd_same]; exact hr1) (Or.inr a9.1) (by omega)) (fun r8 hr8 => ?_)
      refine Tm_suc (fun k => by rw [xE_13]) ?_
      exact Tm_some ⟨⟨_, hr8.2.1, by omega, by omega⟩, ⟨s.2.2.2.2.1.1, (show upd (upd L 1 r8.1) 2 (opr (tkK T n s.1)) 1 = nI s.2.2.2.2.1.1 from by rw [upd_other (by decide), upd_same]; exact hr8.1), by omega, Or.inr (by omega)⟩, FrM_tr hF (FrM_tr hr6.1 hr8.2.2)⟩
    · exact absurd t0 z
  rcases hr6.2 with ⟨z, _⟩ | ⟨_, hS6⟩
  · exact absurd z t0
  show Tm (fun k => ob (x_GE k d 14 0 (fun _ => 0) r6.2) _) _
  rcases gb_any hG with ⟨yf, h7, rfl⟩ | ⟨s7, h7, hG⟩
  · refine Tm_ob (H6 _ _ _ _ _ _ _ _ h7 r6.2 _ d M P hS6 h1 (by omega) (by omega) (by omega) (by omega) (by omega) trivial) (fun r7 hr7 => ?_)
    obtain ⟨⟨m1, hm, hmk, hMm⟩, ⟨e', he', he2, he3⟩, hF7⟩ := hr7
    refine Tm_ob (b_over (M := M) (P := P) (w := E.2.2.2.1) hm (by omega) hMm _ (l := s.2.2.2.1) (by rw [upd_other (by decide), upd_same]; exact hr1) (Or.inr a9.1) (by omega)) (fun r8 hr8 => ?_)
    refine Tm_suc (fun k => by rw [xE_13]) ?_
    exact Tm_some ⟨⟨_, hr8.2.1, by omega, by omega⟩, ⟨m1, (show upd (upd L 1 r8.1) 2 (opr (tkK T n s.1)) 1 = nI m1 from by rw [upd_other (by decide), upd_same]; exact hr8.1), by omega, Or.inr hMm⟩, FrM_tr hF (FrM_tr hr6.1 (FrM_tr hF7 hr8.2.2))⟩
  obtain ⟨⟨b1, b2, b3, b4, b5, b6, b7, b8⟩, b9⟩ := mo_of (M := M) hu.2.1 hv1 h7 (by omega) h1 trivial (fun h => h) (fun h => h)
  refine Tm_ob (H6 _ _ _ _ _ _ _ _ h7 r6.2 _ d M P hS6 h1 (by omega) (by omega) (by omega) (by omega) (by omega) trivial) (fun r7 hr7 => ?_)
  obtain ⟨hS7, hr71, hF7⟩ := hr7
  refine Tm_ob (p_over (M := M) (P := P) (w := E.2.2.2.1) hS7 (by omega) (by omega) _ (l := s.2.2.2.1) (by rw [upd_other (by decide), upd_same]; exact hr1) a9.1 (by omega)) (fun r8 hr8 => ?_)
  obtain ⟨hr81, hS8, hF8⟩ := hr8
  cases hG
  refine Tm_suc (fun k => by rw [xE_13]) ?_
  refine Tm_some ⟨?_, (show upd (upd L 1 r8.1) 2 (opr (tkK T n s.1)) 1 = nI s7.2.2.2.2.1.1 from ?_), FrM_tr hF (FrM_tr hr6.1 (FrM_tr hF7 hF8))⟩
  · have e4 : (upd (upd (upd (upd (fun _ => (0 : Int32)) 1 16) 2 (opr (tkK T n s.1))) 3 r.1) 4 r7.1) 4 = nI s7.2.2.2.1 := by rw [upd_same]; exact hr71
    rw [e4] at hS8
    exact hS8
  · rw [upd_other (by decide), upd_same]; exact hr81
/-- not, - and #, ** : one more is open, the operand behind is read, a node is laid -/
theorem e_4 (H4 : S4 T n f) (H5 : S5 T n f) : S4 T n (f + 1) := by
  intro E o q v i e b x hG σ L d M P hS h1 hM hP hn hp hd _
  obtain ⟨d, rfl⟩ : ∃ d', d = d' + 1 := ⟨d - 1, by omega⟩
  rw [G_4] at hG
  have hq := PS_q hS
  have ho := PS_o hS
  refine Tm_suc (fun k => by rw [xE_7]) ?_
  refine Tm_ite (c := σ.1 10 = 0) (fun _ => ?_) (fun c => absurd (PS_ok hS) c)
  refine Tm_ob (p_word hS (s := 34) (by decide) rfl) (fun r2 hr2 => ?_)
  obtain ⟨u, τ⟩ := r2
  obtain ⟨rfl, hr2⟩ := hr2
  refine Tm_ite (fun c => ?_) (fun c => ?_)
  · rw [if_neg (fun z => hr2.mpr z c)] at hG
    refine Tm_suc (fun k => by rw [xE_7]) ?_
    show Tm (fun k => ob (x_GE k d 13 0 (fun _ => 0) τ) (fun r1 => some (r1.1, r1.2))) _
    refine Tm_ob (H5 _ _ _ _ _ _ _ _ hG τ _ d M P hS h1 hM hP (by omega) hp (by omega) trivial) (fun r hr => ?_)
    exact Tm_some (Po_tr FrM_rf (by omega) hr)
  have hK := hr2.mp c
  rw [if_pos hK] at hG
  have hu := tkN_b T n q hq.1
  have hu4 := hu.2.2.2 (by omega)
  -- behind the fault
  have bad : ∀ {yf : Nat × Nat} (ρ : MS) (m : Nat) (N : Nat → Int32), Bb yf m ρ → M ≤ m → m ≤ b.1 → FrM M P E.2.2.2.1 τ ρ → Tm (fun k => x_GE k (d + 1) 7 3 N ρ) (Po T n E o M P (b.1 + (n + 1 - q) + 3 * (d + 1 + 1)) τ (Sum.inl yf)) := fun ρ m N hB hMm hmb hF => by
    refine Tm_suc (fun k => by rw [xE_7]) ?_
    show Tm (fun k => ob (x_GE k d 7 0 (fun _ => 0) ρ) _) _
    obtain ⟨d', hd'⟩ : ∃ d', d = d' + 5 := ⟨d - 5, by omega⟩
    refine Tm_ob (by rw [hd']; exact b_neg hB.1) (fun r7 hr7 => ?_)
    subst hr7
    refine Tm_suc (fun k => by rw [xE_7]) ?_
    refine Tm_ob (b_node (M := M) (P := P) (w := E.2.2.2.1) (Bb_opn hB (ρ.1 13 - 1)) (by omega) hMm _) (fun r8 hr8 => ?_)
    exact Tm_some ⟨⟨_, hr8.2.1, by omega, by omega⟩, ⟨_, hr8.1, by omega, Or.inr hMm⟩, FrM_tr hF (FrM_tr (FrM_opn _) hr8.2.2)⟩
  refine Tm_suc (fun k => by rw [xE_7]) ?_
  refine Tm_ob (p_open (M := M) (P := P) (w := E.2.2.2.1) hS _) (fun r1 hr1 => ?_)
  rcases gO_any hG with ⟨t0, rfl⟩ | ⟨t0, hG⟩
  · rcases hr1.2 with ⟨_, hB⟩ | ⟨z, _⟩
    · exact Tm_ite (fun c => absurd c hB.1) (fun _ => bad r1.2 _ _ hB hM (by omega) hr1.1)
    · omega
  rcases hr1.2 with ⟨z, _⟩ | ⟨ho2, hS1, _⟩
  · exact absurd z t0
  refine Tm_ite (fun _ => ?_) (fun c => absurd (PS_ok hS1) c)
  refine Tm_ob (p_take (M := M) (P := P) (w := E.2.2.2.1) hS1 _) (fun r3 hr3 => ?_)
  rcases gT_any hG with ⟨t1, rfl⟩ | ⟨t1, hG⟩
  · rcases hr3.2 with ⟨_, hB⟩ | ⟨z, _⟩
    · exact bad r3.2 _ _ hB hM (by omega) (FrM_tr hr1.1 hr3.1)
    · exact absurd t1 z
  rcases hr3.2 with ⟨z, _⟩ | ⟨_, hS3⟩
  · exact absurd z t1
  refine Tm_suc (fun k => by rw [xE_7]) ?_
  show Tm (fun k => ob (x_GE k d 7 0 (fun _ => 0) r3.2) _) _
  rcases gb_any hG with ⟨yf, h7, rfl⟩ | ⟨s, h7, hG⟩
  · refine Tm_ob (H4 _ _ _ _ _ _ _ _ h7 r3.2 _ d M P hS3 h1 hM hP (by omega) (by omega) (by omega) trivial) (fun r7 hr7 => ?_)
    obtain ⟨⟨m1, hm, hmk, hMm⟩, ⟨e', he', he2, he3⟩, hF7⟩ := hr7
    refine Tm_suc (fun k => by rw [xE_7]) ?_
    refine Tm_ob (b_node (M := M) (P := P) (w := E.2.2.2.1) (Bb_opn hm (r7.2.1 13 - 1)) (by omega) hMm _) (fun r8 hr8 => ?_)
    exact Tm_some ⟨⟨_, hr8.2.1, by omega, by omega⟩, ⟨_, hr8.1, by omega, Or.inr hMm⟩, FrM_tr hr1.1 (FrM_tr hr3.1 (FrM_tr hF7 (FrM_tr (FrM_opn _) hr8.2.2)))⟩
  obtain ⟨⟨a1, a2, a3, a4, a5, a6, a7, a8⟩, a9⟩ := mo_of hu.2.1 (PS_v hS) h7 hM h1 trivial (fun h => h) (fun h => h)
  refine Tm_ob (H4 _ _ _ _ _ _ _ _ h7 r3.2 _ d M P hS3 h1 hM hP (by omega) (by omega) (by omega) trivial) (fun r7 hr7 => ?_)
  obtain ⟨hS7, hr71, hF7⟩ := hr7
  refine Tm_suc (fun k => by rw [xE_7]) ?_
  refine Tm_ob (p_node (M := M) (P := P) (w := E.2.2.2.1) (PS_clo hS7) (by omega) (by omega) _) (fun r8 hr8 => ?_)
  obtain ⟨hr81, hS8, hF8⟩ := hr8
  cases hG
  refine Tm_some ⟨?_, hr81, FrM_tr hr1.1 (FrM_tr hr3.1 (FrM_tr hF7 (FrM_tr (FrM_opn _) hF8)))⟩
  have e3 : (upd (upd (upd (upd (fun _ => (0 : Int32)) 1 19) 2 0) 3 (upd L 1 r7.1 1)) 4 0) 3 = nI s.2.2.2.1 := by rw [upd_other (by decide), upd_same, upd_same]; exact hr71
  rw [e3] at hS8
  exact hS8
end EXPS
end JnS32
section JnS33
variable {yf : Nat × Nat}
/-! Powers, prefixes, parts. -/
section EXPS
variable {T : Nat → Int32} {n f : Nat}
theorem par0 {d : Nat} {L : Nat → Int32} {σ : MS} {Q : Int32 × MS → Prop} (h : Tm (fun k => x_GE k d 8 1 (upd L 2 (L 1)) σ) Q) : Tm (fun k => x_GE k d 8 0 L σ) Q := Tm_suc (h := fun k => x_GE k d 8 1 (upd L 2 (L 1)) σ) (fun k => rfl) h
theorem e_10 (H11 : S11 T n f) (H10 : S10 T n f) : S10 T n (f + 1) := by
  intro E o q v i e b x hG σ L d M P hS h1 hM hP hn hp hd _
  obtain ⟨d, rfl⟩ : ∃ d', d = d' + 1 := ⟨d - 1, by omega⟩
  rw [G_10] at hG
  have hq := PS_q hS
  have ho := PS_o hS
  refine Tm_suc (fun k => by rw [xE_9]) ?_
  show Tm (fun k => ob (x_GE k d 10 0 (fun _ => 0) σ) _) _
  rcases gb_any hG with ⟨yf, h2, rfl⟩ | ⟨s, h2, hG⟩
  · refine Tm_ob (H11 _ _ _ _ _ _ _ _ h2 σ _ d M P hS h1 hM hP (by omega) hp (by omega) trivial) (fun r hr => ?_)
    obtain ⟨⟨m1, hm, hmk, hMm⟩, ⟨e', he', he2, he3⟩, hF⟩ := hr
    refine Tm_ite (fun c => absurd c hm.1) (fun _ => ?_)
    refine Tm_suc (fun k => by rw [xE_9]) ?_
    exact Tm_some ⟨⟨m1, hm, by omega, hMm⟩, ⟨e', by show upd L 1 r.1 1 = _; rw [upd_same]; exact he', he2, he3⟩, hF⟩
  obtain ⟨⟨a1, a2, a3, a4, a5, a6, a7, a8⟩, a9⟩ := mo_of hq.1 (PS_v hS) h2 hM h1 trivial (fun h => h) (fun h => h)
  refine Tm_ob (H11 _ _ _ _ _ _ _ _ h2 σ _ d M P hS h1 hM hP (by omega) hp (by omega) trivial) (fun r hr => ?_)
  obtain ⟨hS1, hr1, hF⟩ := hr
  refine Tm_ite (fun _ => ?_) (fun c => absurd (PS_ok hS1) c)
  refine Tm_ob (p_sign hS1 (s := 5) (by decide) (by decide) rfl) (fun r3 hr3 => ?_)
  obtain ⟨u, τ⟩ := r3
  obtain ⟨h3, hr3⟩ := hr3
  have h3 : τ = r.2 := h3
  subst h3
  refine Tm_ite (fun c => ?_) (fun c => ?_)
  · rw [if_neg (fun z => hr3.mpr z c)] at hG
    cases hG
    refine Tm_suc (fun k => by rw [xE_9]) ?_
    exact Tm_some ⟨hS1, by show upd L 1 r.1 1 = _; rw [upd_same]; exact hr1, hF⟩
  have hK := hr3.mp c
  rw [if_pos hK] at hG
  have hv1 := PS_v hS1
  have hu := tkN_b T n s.1 a2
  have hu4 := hu.2.2.2 (by omega)
  have hN1 : upd L 1 r.1 1 = nI s.2.2.2.1 := by rw [upd_same]; exact hr1
  generalize upd L 1 r.1 = N at hN1
  -- the end, behind a fault: m nodes, the operand's number is of no matter
  have bad4 : ∀ {yf : Nat × Nat} (ρ : MS) (m : Nat) (N' : Nat → Int32), N' 1 = nI s.2.2.2.1 → Bb yf m ρ → s.2.2.2.2.1.1 ≤ m → m + 1 ≤ b.1 + (n + 1 - q) + 3 * (d + 1 + 1) → FrM M P E.2.2.2.1 σ ρ → Tm (fun k => x_GE k (d + 1) 9 4 N' ρ) (Po T n E o M P (b.1 + (n + 1 - q) + 3 * (d + 1 + 1)) σ (Sum.inl yf)) := fun ρ m N' hN' hB hm1 hm2 hF => by
    refine Tm_suc (fun k => by rw [xE_9]) ?_
    refine Tm_ob (b_over (M := M) (P := P) (w := E.2.2.2.1) hB (by omega) (by omega) _ (l := s.2.2.2.1) (by rw [upd_other (by decide), upd_same]; exact hN') (Or.inr a9.1) (by omega)) (fun r8 hr8 => ?_)
    exact Tm_some ⟨⟨_, hr8.2.1, by omega, by omega⟩, ⟨_, hr8.1, by omega, Or.inr (by omega)⟩, FrM_tr hF hr8.2.2⟩
  have bad : ∀ {yf : Nat × Nat} (ρ : MS), Bb yf s.2.2.2.2.1.1 ρ → FrM M P E.2.2.2.1 σ ρ → Tm (fun k => x_GE k (d + 1) 9 3 N ρ) (Po T n E o M P (b.1 + (n + 1 - q) + 3 * (d + 1 + 1)) σ (Sum.inl yf)) := fun ρ hB hF => by
    refine Tm_suc (fun k => by rw [xE_9]) ?_
    show Tm (fun k => ob (x_GE k d 9 0 (fun _ => 0) ρ) _) _
    obtain ⟨d', hd'⟩ : ∃ d', d = d' + 1 := ⟨d - 1, by omega⟩
    refine Tm_ob (by rw [hd']; exact b_pow hB.1) (fun r7 hr7 => ?_)
    subst hr7
    exact bad4 (mOpn ρ (ρ.1 13 - 1)) _ _ (by rw [upd_other (by decide)]; exact hN1) (Bb_opn hB _) (Nat.le_refl _) (by omega) (FrM_tr hF (FrM_opn _))
  refine Tm_suc (fun k => by rw [xE_9]) ?_
  refine Tm_ob (p_open (M := M) (P := P) (w := E.2.2.2.1) hS1 _) (fun r1 hr1' => ?_)
  rcases gO_any hG with ⟨t0, rfl⟩ | ⟨t0, hG⟩
  · rcases hr1'.2 with ⟨_, hB⟩ | ⟨z, _⟩
    · exact Tm_ite (fun c => absurd c hB.1) (fun _ => bad r1.2 hB (FrM_tr hF hr1'.1))
    · omega
  rcases hr1'.2 with ⟨z, _⟩ | ⟨ho2, hS2, _⟩
  · exact absurd z t0
  refine Tm_ite (fun _ => ?_) (fun c => absurd (PS_ok hS2) c)
  refine Tm_ob (p_take (M := M) (P := P) (w := E.2.2.2.1) hS2 _) (fun r3 hr3 => ?_)
  rcases gT_any hG with ⟨t1, rfl⟩ | ⟨t1, hG⟩
  · rcases hr3.2 with ⟨_, hB⟩ | ⟨z, _⟩
    · exact bad r3.2 hB (FrM_tr hF (FrM_tr hr1'.1 hr3.1))
    · exact absurd t1 z
  rcases hr3.2 with ⟨z, _⟩ | ⟨_, hS3⟩
  · exact absurd z t1
  refine Tm_suc (fun k => by rw [xE_9]) ?_
  show Tm (fun k => ob (x_GE k d 9 0 (fun _ => 0) r3.2) _) _
  rcases gb_any hG with ⟨yf, h7, rfl⟩ | ⟨s7, h7, hG⟩
  · refine Tm_ob (H10 _ _ _ _ _ _ _ _ h7 r3.2 _ d M P hS3 h1 (by omega) (by omega) (by omega) (by omega) (by omega) trivial) (fun r7 hr7 => ?_)
    obtain ⟨⟨m1, hm, hmk, hMm⟩, ⟨e', he', he2, he3⟩, hF7⟩ := hr7
    by_cases hms : s.2.2.2.2.1.1 ≤ m1
    · exact bad4 (mOpn r7.2 (r7.2.1 13 - 1)) m1 _ (by rw [upd_other (by decide)]; exact hN1) (Bb_opn hm _) hms (by omega) (FrM_tr hF (FrM_tr hr1'.1 (FrM_tr hr3.1 (FrM_tr hF7 (FrM_opn _)))))
    · refine Tm_suc (fun k => by rw [xE_9]) ?_
      refine Tm_ob (b_over (M := M) (P := P) (w := E.2.2.2.1) (Bb_opn hm (r7.2.1 13 - 1)) (by omega) hMm _ (l := s.2.2.2.1) (by rw [upd_other (by decide), upd_same, upd_other (by decide)]; exact hN1) (Or.inr a9.1) (by omega)) (fun r8 hr8 => ?_)
      exact Tm_some ⟨⟨_, hr8.2.1, by omega, by omega⟩, ⟨_, hr8.1, by omega, Or.inr (by omega)⟩, FrM_tr hF (FrM_tr hr1'.1 (FrM_tr hr3.1 (FrM_tr hF7 (FrM_tr (FrM_opn _) hr8.2.2))))⟩
  obtain ⟨⟨b1, b2, b3, b4, b5, b6, b7, b8⟩, b9⟩ := mo_of (M := M) hu.2.1 hv1 h7 (by omega) h1 trivial (fun h => h) (fun h => h)
  refine Tm_ob (H10 _ _ _ _ _ _ _ _ h7 r3.2 _ d M P hS3 h1 (by omega) (by omega) (by omega) (by omega) (by omega) trivial) (fun r7 hr7 => ?_)
  obtain ⟨hS7, hr71, hF7⟩ := hr7
  refine Tm_suc (fun k => by rw [xE_9]) ?_
  refine Tm_ob (p_over (M := M) (P := P) (w := E.2.2.2.1) (PS_clo hS7) (by omega) (by omega) _ (l := s.2.2.2.1) (by rw [upd_other (by decide), upd_same, upd_other (by decide)]; exact hN1) a9.1 (by omega)) (fun r8 hr8 => ?_)
  obtain ⟨hr81, hS8, hF8⟩ := hr8
  cases hG
  refine Tm_some ⟨?_, hr81, FrM_tr hF (FrM_tr hr1'.1 (FrM_tr hr3.1 (FrM_tr hF7 (FrM_tr (FrM_opn _) hF8))))⟩
  have e4 : (upd (upd (upd (upd (fun _ => (0 : Int32)) 1 16) 2 5) 3 (upd N 2 r7.1 1)) 4 (upd N 2 r7.1 2)) 4 = nI s7.2.2.2.1 := by rw [upd_same, upd_same]; exact hr71
  rw [e4] at hS8
  exact hS8
theorem e_11 (H11 : S11 T n f) (H13 : S13 T n f) (H12 : S12 T n f) : S11 T n (f + 1) := by
  intro E o q v i e b x hG σ L d M P hS h1 hM hP hn hp hd _
  obtain ⟨d, rfl⟩ : ∃ d', d = d' + 1 := ⟨d - 1, by omega⟩
  rw [G_11] at hG
  have hq := PS_q hS
  have ho := PS_o hS
  have hu := tkN_b T n q hq.1
  -- the end of both kinds, behind a fault
  have end6 : ∀ {yf : Nat × Nat} (ρ : MS) (m : Nat) (N : Nat → Int32), Bb yf m ρ → M ≤ m → m + 1 ≤ b.1 + (n + 1 - q) + 3 * (d + 1 + 1) → FrM M P E.2.2.2.1 σ ρ → Tm (fun k => x_GE k (d + 1) 10 6 N ρ) (Po T n E o M P (b.1 + (n + 1 - q) + 3 * (d + 1 + 1)) σ (Sum.inl yf)) := fun ρ m N hB hMm hm2 hF => by
    refine Tm_suc (fun k => by rw [xE_10]) ?_
    refine Tm_ob (b_node (M := M) (P := P) (w := E.2.2.2.1) hB (by omega) hMm _) (fun r8 hr8 => ?_)
    exact Tm_some ⟨⟨_, hr8.2.1, by omega, by omega⟩, ⟨_, hr8.1, by omega, Or.inr hMm⟩, FrM_tr hF hr8.2.2⟩
  have end10 : ∀ {yf : Nat × Nat} (ρ : MS) (m : Nat) (N : Nat → Int32), Bb yf m ρ → M ≤ m → m + 1 ≤ b.1 + (n + 1 - q) + 3 * (d + 1 + 1) → FrM M P E.2.2.2.1 σ ρ → Tm (fun k => x_GE k (d + 1) 10 10 N ρ) (Po T n E o M P (b.1 + (n + 1 - q) + 3 * (d + 1 + 1)) σ (Sum.inl yf)) := fun ρ m N hB hMm hm2 hF => by
    refine Tm_suc (fun k => by rw [xE_10]) ?_
    refine Tm_ob (b_node (M := M) (P := P) (w := E.2.2.2.1) hB (by omega) hMm _) (fun r8 hr8 => ?_)
    exact Tm_some ⟨⟨_, hr8.2.1, by omega, by omega⟩, ⟨_, hr8.1, by omega, Or.inr hMm⟩, FrM_tr hF hr8.2.2⟩
  have bad5 : ∀ {yf : Nat × Nat} (ρ : MS) (N : Nat → Int32), Bb yf b.1 ρ → FrM M P E.2.2.2.1 σ ρ → Tm (fun k => x_GE k (d + 1) 10 5 N ρ) (Po T n E o M P (b.1 + (n + 1 - q) + 3 * (d + 1 + 1)) σ (Sum.inl yf)) := fun ρ N hB hF => by
    refine Tm_suc (fun k => by rw [xE_10]) ?_
    show Tm (fun k => ob (x_GE k d 10 0 (fun _ => 0) ρ) _) _
    refine Tm_ob (b_pre hB.1) (fun r7 hr7 => ?_)
    subst hr7
    exact end6 (mOpn ρ (ρ.1 13 - 1)) _ _ (Bb_opn hB _) hM (by omega) (FrM_tr hF (FrM_opn _))
  have bad9 : ∀ {yf : Nat × Nat} (ρ : MS) (N : Nat → Int32), Bb yf b.1 ρ → FrM M P E.2.2.2.1 σ ρ → Tm (fun k => x_GE k (d + 1) 10 9 N ρ) (Po T n E o M P (b.1 + (n + 1 - q) + 3 * (d + 1 + 1)) σ (Sum.inl yf)) := fun ρ N hB hF => by
    refine Tm_suc (fun k => by rw [xE_10]) ?_
    refine Tm_ob (b_want hB.1 _) (fun r1 hr1 => ?_)
    obtain ⟨u, τ⟩ := r1
    have hr1 : τ = ρ := hr1
    subst hr1
    show Tm (fun k => ob (x_GE k d 10 0 (fun _ => 0) τ) _) _
    refine Tm_ob (b_pre hB.1) (fun r7 hr7 => ?_)
    subst hr7
    exact end10 (mOpn τ (τ.1 13 - 1)) _ _ (Bb_opn hB _) hM (by omega) (FrM_tr hF (FrM_opn _))
  -- - and #
  have four : ∀ N : Nat → Int32, N 100 = (if tkK T n q = 3 then 17 else 18) → (tkK T n q = 3 ∨ tkK T n q = 23) → Tm (fun k => x_GE k (d + 1) 10 4 N σ) (Po T n E o M P (b.1 + (n + 1 - q) + 3 * (d + 1 + 1)) σ x) := fun N hN hK => by
    rw [if_pos hK] at hG
    have hu4 := hu.2.2.2 (by omega)
    refine Tm_suc (fun k => by rw [xE_10]) ?_
    refine Tm_ob (p_open (M := M) (P := P) (w := E.2.2.2.1) hS _) (fun r1 hr1 => ?_)
    rcases gO_any hG with ⟨t0, rfl⟩ | ⟨t0, hG⟩
    · rcases hr1.2 with ⟨_, hB⟩ | ⟨z, _⟩
      · exact Tm_ite (fun c => absurd c hB.1) (fun _ => bad5 r1.2 _ hB hr1.1)
      · omega
    rcases hr1.2 with ⟨z, _⟩ | ⟨ho2, hS1, _⟩
    · exact absurd z t0
    refine Tm_ite (fun _ => ?_) (fun c => absurd (PS_ok hS1) c)
    refine Tm_ob (p_take (M := M) (P := P) (w := E.2.2.2.1) hS1 _) (fun r3 hr3 => ?_)
    rcases gT_any hG with ⟨t1, rfl⟩ | ⟨t1, hG⟩
    · rcases hr3.2 with ⟨_, hB⟩ | ⟨z, _⟩
      · exact bad5 r3.2 _ hB (FrM_tr hr1.1 hr3.1)
      · exact absurd t1 z
    rcases hr3.2 with ⟨z, _⟩ | ⟨_, hS3⟩
    · exact absurd z t1
    refine Tm_suc (fun k => by rw [xE_10]) ?_
    show Tm (fun k => ob (x_GE k d 10 0 (fun _ => 0) r3.2) _) _
    rcases gb_any hG with ⟨yf, h7, rfl⟩ | ⟨s, h7, hG⟩
    · refine Tm_ob (H11 _ _ _ _ _ _ _ _ h7 r3.2 _ d M P hS3 h1 hM hP (by omega) (by omega) (by omega) trivial) (fun r7 hr7 => ?_)
      obtain ⟨⟨m1, hm, hmk, hMm⟩, _, hF7⟩ := hr7
      exact end6 (mOpn r7.2 (r7.2.1 13 - 1)) m1 _ (Bb_opn hm _) hMm (by omega) (FrM_tr hr1.1 (FrM_tr hr3.1 (FrM_tr hF7 (FrM_opn _))))
    obtain ⟨⟨a1, a2, a3, a4, a5, a6, a7, a8⟩, a9⟩ := mo_of hu.2.1 (PS_v hS) h7 hM h1 trivial (fun h => h) (fun h => h)
    refine Tm_ob (H11 _ _ _ _ _ _ _ _ h7 r3.2 _ d M P hS3 h1 hM hP (by omega) (by omega) (by omega) trivial) (fun r7 hr7 => ?_)
    obtain ⟨hS7, hr71, hF7⟩ := hr7
    refine Tm_suc (fun k => by rw [xE_10]) ?_
    refine Tm_ob (p_node (M := M) (P := P) (w := E.2.2.2.1) (PS_clo hS7) (by omega) (by omega) _) (fun r8 hr8 => ?_)
    obtain ⟨hr81, hS8, hF8⟩ := hr8
    cases hG
    refine Tm_some ⟨?_, hr81, FrM_tr hr1.1 (FrM_tr hr3.1 (FrM_tr hF7 (FrM_tr (FrM_opn _) hF8)))⟩
    have e1 : (upd (upd (upd (upd (fun _ => (0 : Int32)) 1 (upd (upd N 1 (N 100)) 2 r7.1 1)) 2 0) 3 (upd (upd N 1 (N 100)) 2 r7.1 2)) 4 0) 1 = (if tkK T n q = 3 then 17 else 18) := by
      rw [upd_other (by decide), upd_other (by decide), upd_other (by decide), upd_same, upd_other (by decide), upd_same]; exact hN
    have e3 : (upd (upd (upd (upd (fun _ => (0 : Int32)) 1 (upd (upd N 1 (N 100)) 2 r7.1 1)) 2 0) 3 (upd (upd N 1 (N 100)) 2 r7.1 2)) 4 0) 3 = nI s.2.2.2.1 := by rw [upd_other (by decide), upd_same, upd_same]; exact hr71
    rw [e1, e3] at hS8
    exact hS8
  -- + / and its like
  have eight : ¬ (tkK T n q = 3 ∨ tkK T n q = 23) → (tkK T n q = 2 ∨ tkK T n q = 4 ∨ tkK T n q = 81 ∨ tkK T n q = 80) → ∀ N : Nat → Int32, Tm (fun k => x_GE k (d + 1) 10 8 N σ) (Po T n E o M P (b.1 + (n + 1 - q) + 3 * (d + 1 + 1)) σ x) := fun hK0 hK N => by
    rw [if_neg hK0, if_pos hK] at hG
    have hu4 := hu.2.2.2 (by omega)
    refine Tm_suc (fun k => by rw [xE_10]) ?_
    refine Tm_ob (p_operator hS (by omega) _) (fun r0 hr0 => ?_)
    subst hr0
    refine Tm_ob (p_open (M := M) (P := P) (w := E.2.2.2.1) hS _) (fun r1 hr1 => ?_)
    rcases gO_any hG with ⟨t0, rfl⟩ | ⟨t0, hG⟩
    · rcases hr1.2 with ⟨_, hB⟩ | ⟨z, _⟩
      · exact Tm_ite (fun c => absurd c hB.1) (fun _ => bad9 r1.2 _ hB hr1.1)
      · omega
    rcases hr1.2 with ⟨z, _⟩ | ⟨ho2, hS1, _⟩
    · exact absurd z t0
    refine Tm_ite (fun _ => ?_) (fun c => absurd (PS_ok hS1) c)
    refine Tm_ob (p_take (M := M) (P := P) (w := E.2.2.2.1) hS1 _) (fun r3 hr3 => ?_)
    rcases gT_any hG with ⟨t1, rfl⟩ | ⟨t1, hG⟩
    · rcases hr3.2 with ⟨_, hB⟩ | ⟨z, _⟩
      · exact bad9 r3.2 _ hB (FrM_tr hr1.1 hr3.1)
      · exact absurd t1 z
    rcases hr3.2 with ⟨z, _⟩ | ⟨_, hS3⟩
    · exact absurd z t1
    have hN1 : upd N 1 (opr (tkK T n q)) 1 = opr (tkK T n q) := upd_same
    generalize upd N 1 (opr (tkK T n q)) = N1 at hN1
    refine Tm_suc (fun k => by rw [xE_10]) ?_
    refine Tm_ob (p_want (M := M) (P := P) (w := E.2.2.2.1) hS3 (s := 24) (by decide) (by decide) rfl) (fun r5 hr5 => ?_)
    show Tm (fun k => ob (x_GE k d 10 0 (fun _ => 0) r5.2) _) _
    rcases gW_any hG with ⟨t2, rfl⟩ | ⟨t2, hG⟩
    · rcases hr5.2 with ⟨_, hB⟩ | ⟨z, _⟩
      · refine Tm_ob (b_pre hB.1) (fun r7 hr7 => ?_)
        subst hr7
        exact end10 (mOpn r5.2 (r5.2.1 13 - 1)) _ _ (Bb_opn hB _) hM (by omega) (FrM_tr hr1.1 (FrM_tr hr3.1 (FrM_tr hr5.1 (FrM_opn _))))
      · exact absurd z t2
    rcases hr5.2 with ⟨z, _⟩ | ⟨_, hS5⟩
    · exact absurd t2 z
    have hw := tkN_b T n (tkN T n q) hu.2.1
    rcases gb_any hG with ⟨yf, h7, rfl⟩ | ⟨s, h7, hG⟩
    · refine Tm_ob (H11 _ _ _ _ _ _ _ _ h7 r5.2 _ d M P hS5 h1 hM hP (by omega) (by omega) (by omega) trivial) (fun r7 hr7 => ?_)
      obtain ⟨⟨m1, hm, hmk, hMm⟩, _, hF7⟩ := hr7
      exact end10 (mOpn r7.2 (r7.2.1 13 - 1)) m1 _ (Bb_opn hm _) hMm (by omega) (FrM_tr hr1.1 (FrM_tr hr3.1 (FrM_tr hr5.1 (FrM_tr hF7 (FrM_opn _)))))
    obtain ⟨⟨a1, a2, a3, a4, a5, a6, a7, a8⟩, a9⟩ := mo_of hw.2.1 (PS_v hS) h7 hM h1 trivial (fun h => h) (fun h => h)
    refine Tm_ob (H11 _ _ _ _ _ _ _ _ h7 r5.2 _ d M P hS5 h1 hM hP (by omega) (by omega) (by omega) trivial) (fun r7 hr7 => ?_)
    obtain ⟨hS7, hr71, hF7⟩ := hr7
    refine Tm_suc (fun k => by rw [xE_10]) ?_
    refine Tm_ob (p_node (M := M) (P := P) (w := E.2.2.2.1) (PS_clo hS7) (by omega) (by omega) _) (fun r8 hr8 => ?_)
    obtain ⟨hr81, hS8, hF8⟩ := hr8
    cases hG
    refine Tm_some ⟨?_, hr81, FrM_tr hr1.1 (FrM_tr hr3.1 (FrM_tr hr5.1 (FrM_tr hF7 (FrM_tr (FrM_opn _) hF8))))⟩
    have e2 : (upd (upd (upd (upd (fun _ => (0 : Int32)) 1 20) 2 (upd N1 2 r7.1 1)) 3 (upd N1 2 r7.1 2)) 4 0) 2 = opr (tkK T n q) := by
      rw [upd_other (by decide), upd_other (by decide), upd_same, upd_other (by decide)]; exact hN1
    have e3 : (upd (upd (upd (upd (fun _ => (0 : Int32)) 1 20) 2 (upd N1 2 r7.1 1)) 3 (upd N1 2 r7.1 2)) 4 0) 3 = nI s.2.2.2.1 := by rw [upd_other (by decide), upd_same, upd_same]; exact hr71
    rw [e2, e3] at hS8
    exact hS8
  -- a primary and its parts
  have eleven : ¬ (tkK T n q = 3 ∨ tkK T n q = 23) → ¬ (tkK T n q = 2 ∨ tkK T n q = 4 ∨ tkK T n q = 81 ∨ tkK T n q = 80) → ∀ N : Nat → Int32, Tm (fun k => x_GE k (d + 1) 10 11 N σ) (Po T n E o M P (b.1 + (n + 1 - q) + 3 * (d + 1 + 1)) σ x) := fun hK0 hK N => by
    rw [if_neg hK0, if_neg hK] at hG
    refine Tm_suc (fun k => by rw [xE_10]) ?_
    show Tm (fun k => ob (x_GE k d 11 0 (fun _ => 0) σ) (fun r1 => ob (x_GE k d 8 0 (upd (fun _ => 0) 1 r1.1) r1.2) (fun r2 => some (r2.1, r2.2)))) _
    rcases gb_any hG with ⟨yf, h7, rfl⟩ | ⟨s, h7, hG⟩
    · refine Tm_ob (H13 _ _ _ _ _ _ _ _ h7 σ _ d M P hS h1 hM hP (by omega) (by omega) (by omega) trivial) (fun r7 hr7 => ?_)
      obtain ⟨⟨m1, hm, hmk, hMm⟩, ⟨e', he', he2, he3⟩, hF7⟩ := hr7
      refine Tm_ob (P := fun r => r = (r7.1, r7.2)) (par0 (Tm_mono (b_par1 hm.1) (fun r hr => by rw [hr, upd_same, upd_same]))) (fun r8 hr8 => ?_)
      subst hr8
      exact Tm_some ⟨⟨m1, hm, by omega, hMm⟩, ⟨e', he', he2, he3⟩, hF7⟩
    obtain ⟨⟨a1, a2, a3, a4, a5, a6, a7, a8⟩, a9⟩ := mo_of hq.1 (PS_v hS) h7 hM h1 trivial (fun h => h) (fun h => h)
    refine Tm_ob (H13 _ _ _ _ _ _ _ _ h7 σ _ d M P hS h1 hM hP (by omega) (by omega) (by omega) trivial) (fun r7 hr7 => ?_)
    obtain ⟨hS7, hr71, hF7⟩ := hr7
    refine Tm_ob (P := Po T n E o M P (s.2.2.2.2.1.1 + (n + 1 - s.1) + 3 * (d + 1)) r7.2 x) (par0 (H12 _ _ _ _ _ _ _ _ hG r7.2 _ d M P hS7 h1 (by omega) (by omega) (by omega) (by omega) (by omega) ⟨by rw [upd_same, upd_same]; exact hr71, a9.1, a9.2⟩)) (fun r8 hr8 => ?_)
    exact Tm_some (Po_tr hF7 (by omega) hr8)
  refine Tm_suc (fun k => by rw [xE_10]) ?_
  refine Tm_ite (c := σ.1 10 = 0) (fun _ => ?_) (fun c => absurd (PS_ok hS) c)
  refine Tm_suc (fun k => by rw [xE_10]) ?_
  refine Tm_ob (p_sign hS (s := 3) (by decide) (by decide) rfl) (fun r2 hr2 => ?_)
  obtain ⟨u, τ⟩ := r2
  obtain ⟨h3, hr2⟩ := hr2
  have h3 : τ = σ := h3
  subst h3
  have two : ∀ N : Nat → Int32, (tkK T n q = 3 ∨ tkK T n q = 23) → Tm (fun k => x_GE k (d + 1) 10 2 N τ) (Po T n E o M P (b.1 + (n + 1 - q) + 3 * (d + 1 + 1)) τ x) := fun N hK => by
    refine Tm_suc (fun k => by rw [xE_10]) ?_
    refine Tm_ob (p_sign hS (s := 3) (by decide) (by decide) rfl) (fun r4 hr4 => ?_)
    obtain ⟨u, τ'⟩ := r4
    obtain ⟨h3, hr4⟩ := hr4
    have h3 : τ' = τ := h3
    subst h3
    refine Tm_ite (fun c => ?_) (fun c => ?_)
    · refine Tm_suc (fun k => by rw [xE_10]) ?_
      exact four _ (by rw [upd_same, if_neg (fun z => hr4.mpr z c)]) hK
    · exact four _ (by rw [upd_same, if_pos (hr4.mp c)]) hK
  refine Tm_ite (fun c => ?_) (fun c => two _ (Or.inl (hr2.mp c)))
  have n3 : ¬ tkK T n q = 3 := fun z => hr2.mpr z c
  refine Tm_ob (p_sign hS (s := 23) (by decide) (by decide) rfl) (fun r3 hr3 => ?_)
  obtain ⟨u, τ'⟩ := r3
  obtain ⟨h3, hr3⟩ := hr3
  have h3 : τ' = τ := h3
  subst h3
  refine Tm_ite (fun c => ?_) (fun c => two _ (Or.inr (hr3.mp c)))
  have n23 : ¬ tkK T n q = 23 := fun z => hr3.mpr z c
  refine Tm_suc (fun k => by rw [xE_10]) ?_
  refine Tm_ob (p_sign hS (s := 2) (by decide) (by decide) rfl) (fun r4 hr4 => ?_)
  obtain ⟨u, τ⟩ := r4
  obtain ⟨h3, hr4⟩ := hr4
  have h3 : τ = τ' := h3
  subst h3
  refine Tm_ite (fun c => ?_) (fun c => eight (by omega) (Or.inl (hr4.mp c)) _)
  have n2 : ¬ tkK T n q = 2 := fun z => hr4.mpr z c
  refine Tm_ob (p_sign hS (s := 4) (by decide) (by decide) rfl) (fun r5 hr5 => ?_)
  obtain ⟨u, τ'⟩ := r5
  obtain ⟨h3, hr5⟩ := hr5
  have h3 : τ' = τ := h3
  subst h3
  refine Tm_ite (fun c => ?_) (fun c => eight (by omega) (Or.inr (Or.inl (hr5.mp c))) _)
  have n4 : ¬ tkK T n q = 4 := fun z => hr5.mpr z c
  refine Tm_ob (p_word hS (s := 49) (by decide) rfl) (fun r6 hr6 => ?_)
  obtain ⟨u, τ⟩ := r6
  obtain ⟨h3, hr6⟩ := hr6
  have h3 : τ = τ' := h3
  subst h3
  refine Tm_ite (fun c => ?_) (fun c => eight (by omega) (Or.inr (Or.inr (Or.inl (hr6.mp c)))) _)
  have n81 : ¬ tkK T n q = 81 := fun z => hr6.mpr z c
  refine Tm_ob (p_word hS (s := 48) (by decide) rfl) (fun r7 hr7 => ?_)
  obtain ⟨u, τ'⟩ := r7
  obtain ⟨h3, hr7⟩ := hr7
  have h3 : τ' = τ := h3
  subst h3
  refine Tm_ite (fun c => ?_) (fun c => eight (by omega) (Or.inr (Or.inr (Or.inr (hr7.mp c)))) _)
  have n80 : ¬ tkK T n q = 80 := fun z => hr7.mpr z c
  exact eleven (by omega) (by omega) _
end EXPS
end JnS33
section JnS34
variable {yf : Nat × Nat}
/-! Parts. -/
section EXPS
variable {T : Nat → Int32} {n f : Nat}
theorem e_12 (H0 : S0 T n f) (H12 : S12 T n f) : S12 T n (f + 1) := by
  intro E o q v i e b x hG σ L d M P hS h1 hM hP hn hp hd hre
  obtain ⟨hL2, he⟩ := hre
  obtain ⟨d, rfl⟩ : ∃ d', d = d' + 1 := ⟨d - 1, by omega⟩
  rw [G_12] at hG
  have hq := PS_q hS
  have ho := PS_o hS
  have hv := PS_v hS
  have hu := tkN_b T n q hq.1
  -- behind a fault: from want on, from the node on
  have b9 : ∀ {yf : Nat × Nat} (ρ : MS) (m l : Nat) (N : Nat → Int32), N 2 = nI l → l < 70000 → M ≤ l → Bb yf m ρ → M ≤ m → m ≤ b.1 + (n + 1 - q) + 3 * (d + 1 + 1) → FrM M P E.2.2.2.1 σ ρ → Tm (fun k => x_GE k (d + 1) 8 9 N ρ) (Po T n E o M P (b.1 + (n + 1 - q) + 3 * (d + 1 + 1)) σ (Sum.inl yf)) := fun ρ m l N hN hl hMl hB hMm hm hF => by
    refine Tm_suc (fun k => by rw [xE_8]) ?_
    refine Tm_ob (b_want hB.1 _) (fun r1 hr1 => ?_)
    obtain ⟨u, τ⟩ := r1
    have hr1 : τ = ρ := hr1
    subst hr1
    refine Tm_mono (b_par1 (Bb_opn hB (τ.1 13 - 1)).1) (fun r hr => ?_)
    rw [hr]
    exact ⟨⟨m, Bb_opn hB _, hm, hMm⟩, ⟨l, hN, hl, Or.inr hMl⟩, FrM_tr hF (FrM_opn _)⟩
  have b7 : ∀ {yf : Nat × Nat} (ρ : MS) (m l : Nat) (N : Nat → Int32), N 2 = nI l → l < 70000 → M ≤ l → Bb yf m ρ → M ≤ m → m ≤ b.1 + (n + 1 - q) + 3 * (d + 1 + 1) → FrM M P E.2.2.2.1 σ ρ → Tm (fun k => x_GE k (d + 1) 8 7 N ρ) (Po T n E o M P (b.1 + (n + 1 - q) + 3 * (d + 1 + 1)) σ (Sum.inl yf)) := fun ρ m l N hN hl hMl hB hMm hm hF => by
    refine Tm_suc (fun k => by rw [xE_8]) ?_
    refine Tm_ite (c := N 3 = 0) (fun _ => ?_) (fun _ => b9 ρ m l _ (by rw [upd_other (by decide)]; exact hN) hl hMl hB hMm hm hF)
    refine Tm_suc (fun k => by rw [xE_8]) ?_
    exact b9 ρ m l _ (by rw [upd_other (by decide)]; exact hN) hl hMl hB hMm hm hF
  have b6 : ∀ {yf : Nat × Nat} (ρ : MS) (m : Nat) (N : Nat → Int32), N 2 = nI e → Bb yf m ρ → M ≤ m → m + 1 ≤ b.1 + (n + 1 - q) + 3 * (d + 1 + 1) → FrM M P E.2.2.2.1 σ ρ → Tm (fun k => x_GE k (d + 1) 8 6 N ρ) (Po T n E o M P (b.1 + (n + 1 - q) + 3 * (d + 1 + 1)) σ (Sum.inl yf)) := fun ρ m N hN hB hMm hm hF => by
    refine Tm_suc (fun k => by rw [xE_8]) ?_
    refine Tm_ob (b_over (M := M) (P := P) (w := E.2.2.2.1) hB (by omega) hMm _ (l := e) (by rw [upd_other (by decide), upd_same]; exact hN) (Or.inr he.1) (by omega)) (fun r8 hr8 => ?_)
    exact b7 r8.2 (m + 1) m _ (by rw [upd_same]; exact hr8.1) (by omega) hMm hr8.2.1 (by omega) hm (FrM_tr hF hr8.2.2)
  have b4 : ∀ {yf : Nat × Nat} (ρ : MS) (m : Nat) (N : Nat → Int32), N 2 = nI e → Bb yf m ρ → M ≤ m → m + 1 ≤ b.1 + (n + 1 - q) + 3 * (d + 1 + 1) → FrM M P E.2.2.2.1 σ ρ → Tm (fun k => x_GE k (d + 1) 8 4 N ρ) (Po T n E o M P (b.1 + (n + 1 - q) + 3 * (d + 1 + 1)) σ (Sum.inl yf)) := fun ρ m N hN hB hMm hm hF => by
    refine Tm_suc (fun k => by rw [xE_8]) ?_
    refine Tm_ite (c := N 3 = 0) (fun _ => ?_) (fun _ => b6 ρ m _ (by rw [upd_other (by decide)]; exact hN) hB hMm hm hF)
    refine Tm_suc (fun k => by rw [xE_8]) ?_
    exact b6 ρ m _ (by rw [upd_other (by decide)]; exact hN) hB hMm hm hF
  have b3 : ∀ {yf : Nat × Nat} (ρ : MS) (N : Nat → Int32), N 2 = nI e → Bb yf b.1 ρ → FrM M P E.2.2.2.1 σ ρ → Tm (fun k => x_GE k (d + 1) 8 3 N ρ) (Po T n E o M P (b.1 + (n + 1 - q) + 3 * (d + 1 + 1)) σ (Sum.inl yf)) := fun ρ N hN hB hF => by
    refine Tm_suc (fun k => by rw [xE_8]) ?_
    show Tm (fun k => ob (x_GE k d 3 0 (fun _ => 0) ρ) _) _
    obtain ⟨d', hd'⟩ : ∃ d', d = d' + 7 := ⟨d - 7, by omega⟩
    refine Tm_ob (by rw [hd']; exact b_exp hB.1) (fun r7 hr7 => ?_)
    subst hr7
    refine Tm_ite (c := ρ.1 10 = 0) (fun c => absurd c hB.1) (fun _ => ?_)
    exact b4 ρ b.1 _ (by rw [upd_other (by decide)]; exact hN) hB hM (by omega) hF
  -- the closing one, then the loop
  have g9 : ∀ (ρ : MS) (N : Nat → Int32) (t q2 v2 : Nat) (bb : BT) (l i2 : Nat), 1 ≤ t → t ≤ 24 → N 100 = nI t → N 2 = nI l → M ≤ l → l < bb.1 → PS T n E (o + 1) q2 v2 bb ρ → q < q2 → b.1 ≤ bb.1 → bb.1 + q ≤ b.1 + q2 → b.2.1 ≤ bb.2.1 → bb.2.1 + q ≤ b.2.1 + q2 → gW T n t q2 (fun q3 => G T n f 12 E o q3 v2 i2 l 0 0 bb) = some x → FrM M P E.2.2.2.1 σ ρ → Tm (fun k => x_GE k (d + 1) 8 9 N ρ) (Po T n E o M P (b.1 + (n + 1 - q) + 3 * (d + 1 + 1)) σ x) := fun ρ N t q2 v2 bb l i2 ht1 ht2 hN1 hN2 hMl hl hS2 hqq z1 z2 z3 z4 hG hF => by
    have hq2 := PS_q hS2
    have hu2 := tkN_b T n q2 hq2.1
    refine Tm_suc (fun k => by rw [xE_8]) ?_
    refine Tm_ob (p_want (M := M) (P := P) (w := E.2.2.2.1) hS2 ht1 ht2 (by rw [upd_same]; exact hN1)) (fun r5 hr5 => ?_)
    rcases gW_any hG with ⟨t2, rfl⟩ | ⟨t2, hG⟩
    · rcases hr5.2 with ⟨_, hB⟩ | ⟨z, _⟩
      · refine Tm_mono (b_par1 (Bb_opn hB (r5.2.1 13 - 1)).1) (fun r hr => ?_)
        rw [hr]
        exact ⟨⟨_, Bb_opn hB _, by omega, by omega⟩, ⟨l, hN2, by omega, Or.inr hMl⟩, FrM_tr hF (FrM_tr hr5.1 (FrM_opn _))⟩
      · exact absurd z t2
    rcases hr5.2 with ⟨z, _⟩ | ⟨_, hS5⟩
    · exact absurd t2 z
    refine Tm_mono (H12 _ _ _ _ _ _ _ _ hG (mOpn r5.2 (r5.2.1 13 - 1)) _ (d + 1) M P (PS_clo hS5) h1 (by omega) (by omega) (by omega) (by omega) (by omega) ⟨hN2, hMl, hl⟩) (fun r hr => Po_tr (FrM_tr hF (FrM_tr hr5.1 (FrM_opn _))) (by omega) hr)
  have g7 : ∀ (ρ : MS) (N : Nat → Int32) (t q2 v2 : Nat) (bb : BT) (l i2 : Nat), (N 3 = 0 → t = 7) → (¬ N 3 = 0 → t = 9) → N 2 = nI l → M ≤ l → l < bb.1 → PS T n E (o + 1) q2 v2 bb ρ → q < q2 → b.1 ≤ bb.1 → bb.1 + q ≤ b.1 + q2 → b.2.1 ≤ bb.2.1 → bb.2.1 + q ≤ b.2.1 + q2 → gW T n t q2 (fun q3 => G T n f 12 E o q3 v2 i2 l 0 0 bb) = some x → FrM M P E.2.2.2.1 σ ρ → Tm (fun k => x_GE k (d + 1) 8 7 N ρ) (Po T n E o M P (b.1 + (n + 1 - q) + 3 * (d + 1 + 1)) σ x) := fun ρ N t q2 v2 bb l i2 ht1 ht2 hN2 hMl hl hS2 hqq z1 z2 z3 z4 hG hF => by
    refine Tm_suc (fun k => by rw [xE_8]) ?_
    refine Tm_ite (c := N 3 = 0) (fun c => ?_) (fun c => ?_)
    · obtain rfl := ht1 c
      refine Tm_suc (fun k => by rw [xE_8]) ?_
      exact g9 ρ _ 7 q2 v2 bb l i2 (by decide) (by decide) (by rw [upd_same]; rfl) (by rw [upd_other (by decide)]; exact hN2) hMl hl hS2 hqq z1 z2 z3 z4 hG hF
    · obtain rfl := ht2 c
      exact g9 ρ _ 9 q2 v2 bb l i2 (by decide) (by decide) (by rw [upd_same]; rfl) (by rw [upd_other (by decide)]; exact hN2) hMl hl hS2 hqq z1 z2 z3 z4 hG hF
  -- one exp: the node over both
  have g6 : ∀ (ρ : MS) (N : Nat → Int32) (kd : Int32) (t : Nat) (s : RT) (i2 : Nat), N 100 = kd → (N 3 = 0 → t = 7) → (¬ N 3 = 0 → t = 9) → N 2 = nI e → N 4 = nI s.2.2.2.1 → PS T n E (o + 1) s.1 s.2.1 s.2.2.2.2.1 ρ → q < s.1 → b.1 ≤ s.2.2.2.2.1.1 → s.2.2.2.2.1.1 + q + 1 ≤ b.1 + s.1 → b.2.1 ≤ s.2.2.2.2.1.2.1 → s.2.2.2.2.1.2.1 + q ≤ b.2.1 + s.1 → gW T n t s.1 (fun q3 => G T n f 12 E o q3 s.2.1 i2 s.2.2.2.2.1.1 0 0 (bOver s.2.2.2.2.1 kd 0 e (nI s.2.2.2.1))) = some x → FrM M P E.2.2.2.1 σ ρ → Tm (fun k => x_GE k (d + 1) 8 6 N ρ) (Po T n E o M P (b.1 + (n + 1 - q) + 3 * (d + 1 + 1)) σ x) := fun ρ N kd t s i2 hN100 ht1 ht2 hN2 hN4 hS2 hqq z1 z2 z3 z4 hG hF => by
    have hq2 := PS_q hS2
    refine Tm_suc (fun k => by rw [xE_8]) ?_
    refine Tm_ob (p_over (M := M) (P := P) (w := E.2.2.2.1) hS2 (by omega) (by omega) _ (l := e) (by rw [upd_other (by decide), upd_same]; exact hN2) he.1 (by omega)) (fun r8 hr8 => ?_)
    obtain ⟨hr81, hS8, hF8⟩ := hr8
    have e4 : (upd (upd (upd (upd (fun _ => (0 : Int32)) 1 (N 100)) 2 0) 3 (N 2)) 4 (N 4)) 4 = nI s.2.2.2.1 := by rw [upd_same]; exact hN4
    have e1 : (upd (upd (upd (upd (fun _ => (0 : Int32)) 1 (N 100)) 2 0) 3 (N 2)) 4 (N 4)) 1 = kd := by rw [upd_other (by decide), upd_other (by decide), upd_other (by decide), upd_same]; exact hN100
    rw [e4, e1] at hS8
    exact g7 r8.2 _ t s.1 s.2.1 _ s.2.2.2.2.1.1 i2 (fun c => ht1 (by rw [upd_other (by decide)] at c; exact c)) (fun c => ht2 (by rw [upd_other (by decide)] at c; exact c)) (by rw [upd_same]; exact hr81) (by omega) (by rw [bOver_1]; omega) hS8 hqq (by rw [bOver_1]; omega) (by rw [bOver_1]; omega) (by rw [bOver_p]; omega) (by rw [bOver_p]; omega) hG (FrM_tr hF hF8)
  have two : (tkK T n q = 6 ∨ tkK T n q = 8) → Tm (fun k => x_GE k (d + 1) 8 2 L σ) (Po T n E o M P (b.1 + (n + 1 - q) + 3 * (d + 1 + 1)) σ x) := fun hK => by
    rw [if_pos hK] at hG
    have hu4 := hu.2.2.2 (by omega)
    refine Tm_suc (fun k => by rw [xE_8]) ?_
    refine Tm_ob (p_sign hS (s := 8) (by decide) (by decide) rfl) (fun r0 hr0 => ?_)
    obtain ⟨im, τ⟩ := r0
    obtain ⟨h3, him⟩ := hr0
    have h3 : τ = σ := h3
    subst h3
    have him : ¬ im = 0 ↔ tkK T n q = 8 := him
    have hN2 : upd L 3 im 2 = nI e := by rw [upd_other (by decide)]; exact hL2
    have hN3 : upd L 3 im 3 = im := upd_same
    refine Tm_ob (p_open (M := M) (P := P) (w := E.2.2.2.1) hS _) (fun r1 hr1 => ?_)
    rcases gO_any hG with ⟨t0, rfl⟩ | ⟨t0, hG⟩
    · rcases hr1.2 with ⟨_, hB⟩ | ⟨z, _⟩
      · exact Tm_ite (fun c => absurd c hB.1) (fun _ => b3 r1.2 _ hN2 hB hr1.1)
      · omega
    rcases hr1.2 with ⟨z, _⟩ | ⟨ho2, hS1, _⟩
    · exact absurd z t0
    refine Tm_ite (fun _ => ?_) (fun c => absurd (PS_ok hS1) c)
    refine Tm_ob (p_take (M := M) (P := P) (w := E.2.2.2.1) hS1 _) (fun r3 hr3 => ?_)
    rcases gT_any hG with ⟨t1, rfl⟩ | ⟨t1, hG⟩
    · rcases hr3.2 with ⟨_, hB⟩ | ⟨z, _⟩
      · exact b3 r3.2 _ hN2 hB (FrM_tr hr1.1 hr3.1)
      · exact absurd t1 z
    rcases hr3.2 with ⟨z, _⟩ | ⟨_, hS3⟩
    · exact absurd z t1
    generalize upd L 3 im = N at hN2 hN3
    have hF3 := FrM_tr hr1.1 hr3.1
    refine Tm_suc (fun k => by rw [xE_8]) ?_
    show Tm (fun k => ob (x_GE k d 3 0 (fun _ => 0) r3.2) _) _
    rcases gb_any hG with ⟨yf, h7, rfl⟩ | ⟨s, h7, hG⟩
    · refine Tm_ob (H0 _ _ _ _ _ _ _ _ h7 r3.2 _ d M P hS3 h1 hM hP (by omega) (by omega) (by omega) trivial) (fun r7 hr7 => ?_)
      obtain ⟨⟨m1, hm, hmk, hMm⟩, _, hF7⟩ := hr7
      refine Tm_ite (c := r7.2.1 10 = 0) (fun c => absurd c hm.1) (fun _ => ?_)
      exact b4 r7.2 m1 _ (by rw [upd_other (by decide)]; exact hN2) hm hMm (by omega) (FrM_tr hF3 hF7)
    obtain ⟨⟨a1, a2, a3, a4, a5, a6, a7, a8⟩, a9⟩ := mo_of hu.2.1 hv h7 hM h1 trivial (fun h => h) (fun h => h)
    refine Tm_ob (H0 _ _ _ _ _ _ _ _ h7 r3.2 _ d M P hS3 h1 hM hP (by omega) (by omega) (by omega) trivial) (fun r7 hr7 => ?_)
    obtain ⟨hS7, hr71, hF7⟩ := hr7
    have hF7 := FrM_tr hF3 hF7
    have hv7 := PS_v hS7
    refine Tm_ite (c := r7.2.1 10 = 0) (fun _ => ?_) (fun c => absurd (PS_ok hS7) c)
    refine Tm_ite (c := N 3 = 0) (fun c3 => ?_) (fun c3 => ?_)
    · rw [hN3] at c3
      have hK6 : tkK T n q = 6 := by
        rcases hK with z | z
        · exact z
        · exact absurd c3 (him.mpr z)
      refine Tm_ob (p_sign hS7 (s := 16) (by decide) (by decide) rfl) (fun r4 hr4 => ?_)
      obtain ⟨u, τ⟩ := r4
      obtain ⟨h3, hr4⟩ := hr4
      have h3 : τ = r7.2 := h3
      subst h3
      refine Tm_ite (fun c4 => ?_) (fun c4 => ?_)
      · have n8 : ¬ tkK T n q = 8 := by omega
        rw [if_neg (fun z => hr4.mpr z.2 c4)] at hG
        simp only [if_neg n8] at hG
        have h43 : upd N 4 r7.1 3 = 0 := by rw [upd_other (by decide), hN3]; exact c3
        have h42 : upd N 4 r7.1 2 = nI e := by rw [upd_other (by decide)]; exact hN2
        have h44 : upd N 4 r7.1 4 = nI s.2.2.2.1 := by rw [upd_same]; exact hr71
        generalize upd N 4 r7.1 = N4 at h43 h42 h44
        refine Tm_suc (fun k => by rw [xE_8]) ?_
        refine Tm_ite (c := N4 3 = 0) (fun _ => ?_) (fun c => absurd h43 c)
        refine Tm_suc (fun k => by rw [xE_8]) ?_
        exact g6 r7.2 _ 21 7 s _ upd_same (fun _ => rfl) (fun c => absurd (by rw [upd_other (by decide)]; exact h43) c) (by rw [upd_other (by decide)]; exact h42) (by rw [upd_other (by decide)]; exact h44) hS7 (by omega) (by omega) (by omega) (by omega) (by omega) hG hF7
      · have hK2 := hr4.mp c4
        rw [if_pos ⟨hK6, hK2⟩] at hG
        have hw := tkN_b T n s.1 a2
        have hw4 := hw.2.2.2 (by omega)
        refine Tm_ob (p_take (M := M) (P := P) (w := E.2.2.2.1) hS7 _) (fun r6 hr6 => ?_)
        show Tm (fun k => ob (x_GE k d 3 0 (fun _ => 0) r6.2) _) _
        rcases gT_any hG with ⟨t6, rfl⟩ | ⟨t6, hG⟩
        · rcases hr6.2 with ⟨_, hB⟩ | ⟨z, _⟩
          · obtain ⟨d', hd'⟩ : ∃ d', d = d' + 7 := ⟨d - 7, by omega⟩
            refine Tm_ob (by rw [hd']; exact b_exp hB.1) (fun rx hrx => ?_)
            subst hrx
            refine Tm_ob (b_over (M := M) (P := P) (w := E.2.2.2.1) hB (by omega) (by omega) _ (l := e) (by rw [upd_other (by decide), upd_same]; exact hN2) (Or.inr he.1) (by omega)) (fun r8 hr8 => ?_)
            rw [hr8.1]
            refine Tm_chk (n_in (by omega) (by omega)) ?_
            exact b7 (mSet r8.2 8 (nI s.2.2.2.2.1.1).toNatClampNeg 0) (s.2.2.2.2.1.1 + 1) s.2.2.2.2.1.1 _ upd_same (by omega) (by omega) (Bb_set hr8.2.1) (by omega) (by omega) (FrM_tr hF7 (FrM_tr hr6.1 (FrM_tr hr8.2.2 (FrM_set (by decide) (by decide) (by rw [n_cl (by omega)]; omega) _))))
          · exact absurd t6 z
        rcases hr6.2 with ⟨z, _⟩ | ⟨_, hS6⟩
        · exact absurd z t6
        rcases gb_any hG with ⟨yf, h9, rfl⟩ | ⟨s9, h9, hG⟩
        · refine Tm_ob (H0 _ _ _ _ _ _ _ _ h9 r6.2 _ d M P hS6 h1 (by omega) (by omega) (by omega) (by omega) (by omega) trivial) (fun rx hrx => ?_)
          obtain ⟨⟨m1, hm, hmk, hMm⟩, _, hFx⟩ := hrx
          refine Tm_ob (b_over (M := M) (P := P) (w := E.2.2.2.1) hm (by omega) hMm _ (l := e) (by rw [upd_other (by decide), upd_same]; exact hN2) (Or.inr he.1) (by omega)) (fun r8 hr8 => ?_)
          rw [hr8.1]
          refine Tm_chk (n_in (by omega) (by omega)) ?_
          exact b7 (mSet r8.2 8 (nI m1).toNatClampNeg rx.1) (m1 + 1) m1 _ upd_same (by omega) hMm (Bb_set hr8.2.1) (by omega) (by omega) (FrM_tr hF7 (FrM_tr hr6.1 (FrM_tr hFx (FrM_tr hr8.2.2 (FrM_set (by decide) (by decide) (by rw [n_cl (by omega)]; omega) _)))))
        obtain ⟨⟨f1, f2, f3, f4, f5, f6, f7, f8⟩, f9⟩ := mo_of (M := M) hw.2.1 hv7 h9 (by omega) h1 trivial (fun h => h) (fun h => h)
        refine Tm_ob (H0 _ _ _ _ _ _ _ _ h9 r6.2 _ d M P hS6 h1 (by omega) (by omega) (by omega) (by omega) (by omega) trivial) (fun rx hrx => ?_)
        obtain ⟨hSx, hrx1, hFx⟩ := hrx
        refine Tm_ob (p_over (M := M) (P := P) (w := E.2.2.2.1) hSx (by omega) (by omega) _ (l := e) (by rw [upd_other (by decide), upd_same]; exact hN2) he.1 (by omega)) (fun r8 hr8 => ?_)
        obtain ⟨hr81, hS8, hF8⟩ := hr8
        rw [hr81]
        refine Tm_chk (n_in (by omega) (by omega)) ?_
        have e4 : (upd (upd (upd (upd (fun _ => (0 : Int32)) 1 22) 2 0) 3 (N 2)) 4 r7.1) 4 = nI s.2.2.2.1 := by rw [upd_same]; exact hr71
        rw [e4] at hS8
        have hS9 := PS_set (l := (nI s9.2.2.2.2.1.1).toNatClampNeg) hS8 (j := 8) (by decide) (by decide) rx.1
        rw [n_cl (p := s9.2.2.2.2.1.1) (by omega), hrx1] at hS9
        rw [n_cl (p := s9.2.2.2.2.1.1) (by omega)]
        refine g7 (mSet r8.2 8 s9.2.2.2.2.1.1 rx.1) _ 7 s9.1 s9.2.1 _ s9.2.2.2.2.1.1 (if i = 0 then 0 else 2) (fun _ => rfl) (fun c => absurd ?_ c) upd_same (by omega) (by rw [bSet_1, bOver_1]; omega) (by rw [hrx1]; exact hS9) (by omega) (by rw [bSet_1, bOver_1]; omega) (by rw [bSet_1, bOver_1]; omega) (by rw [bSet_p, bOver_p]; omega) (by rw [bSet_p, bOver_p]; omega) hG (FrM_tr hF7 (FrM_tr hr6.1 (FrM_tr hFx (FrM_tr hF8 (FrM_set (by decide) (by decide) (by omega) _)))))
        rw [upd_other (by decide), upd_other (by decide), upd_other (by decide), hN3]; exact c3
    · rw [hN3] at c3
      have hK8 := him.mp c3
      rw [if_neg (fun z : tkK T n q = 6 ∧ tkK T n s.1 = 16 => by omega)] at hG
      simp only [if_pos hK8] at hG
      have h43 : ¬ upd N 4 r7.1 3 = 0 := by rw [upd_other (by decide), hN3]; exact c3
      have h42 : upd N 4 r7.1 2 = nI e := by rw [upd_other (by decide)]; exact hN2
      have h44 : upd N 4 r7.1 4 = nI s.2.2.2.1 := by rw [upd_same]; exact hr71
      generalize upd N 4 r7.1 = N4 at h43 h42 h44
      refine Tm_suc (fun k => by rw [xE_8]) ?_
      refine Tm_ite (c := N4 3 = 0) (fun c => absurd c h43) (fun _ => ?_)
      exact g6 r7.2 _ 23 9 s _ upd_same (fun c => absurd c (by rw [upd_other (by decide)]; exact h43)) (fun _ => rfl) (by rw [upd_other (by decide)]; exact h42) (by rw [upd_other (by decide)]; exact h44) hS7 (by omega) (by omega) (by omega) (by omega) (by omega) hG hF7
  refine Tm_suc (fun k => by rw [xE_8]) ?_
  refine Tm_ite (c := σ.1 10 = 0) (fun _ => ?_) (fun c => absurd (PS_ok hS) c)
  refine Tm_ob (p_sign hS (s := 6) (by decide) (by decide) rfl) (fun r2 hr2 => ?_)
  obtain ⟨u, τ⟩ := r2
  obtain ⟨h3, hr2⟩ := hr2
  have h3 : τ = σ := h3
  subst h3
  refine Tm_ite (fun c => ?_) (fun c => two (Or.inl (hr2.mp c)))
  refine Tm_ob (p_sign hS (s := 8) (by decide) (by decide) rfl) (fun r4 hr4 => ?_)
  obtain ⟨u, τ'⟩ := r4
  obtain ⟨h3, hr4⟩ := hr4
  have h3 : τ' = τ := h3
  subst h3
  refine Tm_ite (fun c2 => ?_) (fun c2 => two (Or.inr (hr4.mp c2)))
  rw [if_neg (fun z => z.elim (fun z => hr2.mpr z c) (fun z => hr4.mpr z c2))] at hG
  cases hG
  refine Tm_suc (fun k => by rw [xE_8]) ?_
  exact Tm_some ⟨hS, hL2, FrM_rf⟩
end EXPS
end JnS34
section JnS35
/-! Names of the reference: kept, found. -/
section NAMES
variable {T : Nat → Int32} {n : Nat} {E : En} {o q v M P w : Nat} {b : BT} {σ : MS}
theorem glOK_mono {A B C D pool pool' : Nat → Int32} {p p' : Nat} {gl : List Gn} (h2 : ∀ i, i < p → pool' i = pool i) (h3 : p ≤ p') (h : glOK A B C D pool p gl) : glOK A B C D pool' p' gl := fun k x hx => by
  obtain ⟨a, b, c, d, e, f, g, g2, i⟩ := h k x hx
  exact ⟨a, b, c, d, by omega, f, g, g2, fun j hj => by rw [h2 _ (by omega)]; exact i j hj⟩
theorem PS_keep (h : PS T n E o q v b σ) {f m : Nat} (hm : b.2.1 + m < 2147483648) : PS T n E o q v (bKeep b T f m) (mPool σ f m) := by
  obtain ⟨⟨⟨a1, a2⟩, a3, a4, a5, ⟨c1, c2, c3, c4, c5, c6⟩, a6⟩, ⟨d1, d2⟩, ⟨e1, e2, e3, e4, e5⟩, ⟨f1, f2, f3, f4, f5⟩, ⟨⟨g1, g2, g3⟩, ⟨g4, g5, g6⟩, ⟨g7, g8, g9⟩⟩, ⟨i1, i2, i3⟩⟩ := h
  obtain ⟨k1, k2, hs, hg, k5, k6⟩ := mPool_is (f := f) e3 m hm
  have gg : ∀ j, j ≠ 12 → ∀ i, (mPool σ f m).2.2 j i = σ.2.2 j i := fun j hj i => by rw [hg j hj]
  have pl : ∀ i, i < b.2.1 → (bKeep b T f m).2.2.2.1 i = b.2.2.2.1 i := fun i hi => if_neg (by omega)
  refine ⟨⟨⟨(hs 4 (by decide)).trans a1, a2⟩, (hg 3 (by decide)).trans a3, (hg 1 (by decide)).trans a4, (hs 10 (by decide)).trans a5, ⟨c1, (hs 8 (by decide)).trans c2, (hs 5 (by decide)).trans c3, (hs 9 (by decide)).trans c4, (hs 6 (by decide)).trans c5, ?_⟩, a6⟩, ⟨(hs 13 (by decide)).trans d1, d2⟩, ⟨(hs 22 (by decide)).trans e1, e2, k1, fun j h4 h9 i hi hi2 => (gg j (by omega) i).trans (e4 j h4 h9 i hi hi2), fun i hi => ?_⟩, ⟨(hs 37 (by decide)).trans f1, f2, (gg 21 (by decide) _).trans f3, f4, fun i hi => (gg 20 (by decide) _).trans (f5 i hi)⟩, ⟨⟨(hs 38 (by decide)).trans g1, g2, ?_⟩, ⟨(hs 52 (by decide)).trans g4, g5, ?_⟩, ⟨(hs 25 (by decide)).trans g7, g8, ?_⟩⟩, ⟨?_, ?_, ?_⟩⟩
  · obtain ⟨w, hw⟩ := c6
    exact ⟨w, (hs 7 (by decide)).trans hw⟩
  · have hi : i < b.2.1 + m := hi
    by_cases c : i < b.2.1
    · rw [k5 i c, pl i c]; exact e5 i c
    · have := k6 (i - b.2.1) (by omega)
      rw [show b.2.1 + (i - b.2.1) = i by omega] at this
      rw [this, a3]
      exact (if_pos ⟨by omega, hi⟩ : (bKeep b T f m).2.2.2.1 i = T (f + (i - b.2.1))).symm
  · rw [hg 22 (by decide), hg 23 (by decide), hg 24 (by decide)]
    exact rowsOK_mono _ (fun i hi => ⟨rfl, rfl, rfl⟩) pl (by rw [bKeep_p]; omega) g3
  · rw [hg 25 (by decide), hg 26 (by decide), hg 27 (by decide)]
    exact rowsOK_mono _ (fun i hi => ⟨rfl, rfl, rfl⟩) pl (by rw [bKeep_p]; omega) g6
  · rw [hg 13 (by decide), hg 14 (by decide), hg 15 (by decide), hg 16 (by decide)]
    exact glOK_mono pl (by rw [bKeep_p]; omega) g9
  · rw [hs 43 (by decide)]; exact i1
  · rw [hs 42 (by decide)]; exact i2
  · rw [hg 18 (by decide)]; exact i3
theorem FrM_keep {p f m : Nat} (h : σ.1 24 = nI p) (hP : P ≤ p) (hm : p + m < 2147483648) : FrM M P w σ (mPool σ f m) := by
  obtain ⟨k1, k2, hs, hg, k5, k6⟩ := mPool_is (f := f) h m hm
  exact ⟨fun j hj => hs j (by omega), k2, fun j hj => hg j (by omega), fun j h4 h9 i hi hi2 => by rw [hg j (by omega)], fun i hi => k5 i (by omega), fun i hi => by rw [hg 21 (by decide)], fun i hi => by rw [hg 20 (by decide)]⟩
theorem p_keep (h : PS T n E o q v b σ) (hP : P ≤ b.2.1) {f e : Nat} (hfe : f ≤ e) (he : e ≤ 32768) (hp : b.2.1 + (e - f) ≤ 70000) {L : Nat → Int32} (h1 : L 1 = nI f) (h2 : L 2 = nI e) : Tm (fun k => x_keep k 0 L σ) (fun r => r = (nI b.2.1, mPool σ f (e - f)) ∧ PS T n E o q v (bKeep b T f (e - f)) r.2 ∧ FrM M P w σ r.2) :=
  Tm_mono (s_keep h.2.2.1.2.2.1 hfe he hp L h1 h2) (fun r hr => by subst hr; exact ⟨rfl, PS_keep h (by omega), FrM_keep h.2.2.1.2.2.1 hP (by omega)⟩)
/-- a row's name is the one that stands here, just when the bytes are the same -/
theorem mIs_row {j1 j2 k f e : Nat} {x : List Int32} {p : Nat} (hT : σ.2.2 3 = T) (ha : σ.2.2 j1 k = nI p) (hb : σ.2.2 j2 k = nI x.length) (hp : p + x.length ≤ 70000) (hpl : ∀ i, i < x.length → σ.2.2 12 (p + i) = x.getD i 0) : mIs σ f (e - f) j1 j2 k ↔ x = seg T f e := by
  rw [mIs_iff ⟨ha, hb, hp⟩]
  constructor
  · rintro ⟨h1, h2⟩
    refine seg_eq h1.symm (fun i hi => ?_)
    rw [← hpl i (by omega), h2 i (by omega), hT]
  · intro h
    have hl : x.length = e - f := by rw [h, seg_len]
    refine ⟨hl.symm, fun i hi => ?_⟩
    rw [hpl i hi, hT, h]
    exact seg_at (by omega)
theorem find_rows {j1 j2 j3 f e p : Nat} {pool : Nat → Int32} (hT : σ.2.2 3 = T) (hp : p ≤ 70000) (hpl : ∀ i, i < p → σ.2.2 12 i = pool i) : ∀ l : List Nm, rowsOK (σ.2.2 j1) (σ.2.2 j2) (σ.2.2 j3) pool p l → match l.find? (fun x => decide (x.1 = seg T f e)) with
    | some x => ∃ k, k < l.length ∧ mIs σ f (e - f) j1 j2 k ∧ (∀ j, k < j → j < l.length → ¬ mIs σ f (e - f) j1 j2 j) ∧ σ.2.2 j3 k = nI x.2.2 ∧ x.2.2 < 60
    | none => ∀ j, j < l.length → ¬ mIs σ f (e - f) j1 j2 j
  | [], _ => fun j hj => absurd hj (Nat.not_lt_zero j)
  | x :: l, ⟨⟨a, b, c, d, d2, g⟩, h⟩ => by
    have ih := find_rows (f := f) (e := e) hT hp hpl l h
    have hx := mIs_row (f := f) (e := e) hT a b (by omega) (fun i hi => by rw [hpl _ (by omega)]; exact g i hi)
    have hlen : (x :: l).length = l.length + 1 := rfl
    rw [List.find?_cons]
    by_cases hc : x.1 = seg T f e
    · rw [decide_eq_true hc]
      exact ⟨l.length, by omega, hx.mpr hc, fun j h1 h2 => by omega, c, d2⟩
    · rw [decide_eq_false hc]
      cases hf : l.find? (fun x => decide (x.1 = seg T f e)) with
      | none =>
        rw [hf] at ih
        intro j hj
        by_cases he : j = l.length
        · subst he; exact fun z => hc (hx.mp z)
        · exact ih j (by omega)
      | some y =>
        rw [hf] at ih
        obtain ⟨k, k1, k2, k3, k4⟩ := ih
        refine ⟨k, by omega, k2, fun j h1 h2 => ?_, k4⟩
        by_cases he : j = l.length
        · subst he; exact fun z => hc (hx.mp z)
        · exact k3 j h1 (by omega)
theorem find_gl {f e p : Nat} {pool : Nat → Int32} (hT : σ.2.2 3 = T) (hp : p ≤ 70000) (hpl : ∀ i, i < p → σ.2.2 12 i = pool i) : ∀ (l : List Gn) (off : Nat), (∀ (k : Nat) (x : Gn), l[k]? = some x → σ.2.2 13 (off + k) = nI x.2.2.1 ∧ σ.2.2 14 (off + k) = nI x.2.1 ∧ σ.2.2 15 (off + k) = nI x.1.length ∧ σ.2.2 16 (off + k) = nI x.2.2.2 ∧ x.2.1 + x.1.length ≤ p ∧ x.2.2.1 ≤ 3 ∧ 1 ≤ x.2.2.1 ∧ x.2.2.2 < 60 ∧ ∀ i, i < x.1.length → pool (x.2.1 + i) = x.1.getD i 0) → match l.find? (fun x => decide (x.1 = seg T f e)) with
    | some x => ∃ k, k < l.length ∧ mIs σ f (e - f) 14 15 (off + k) ∧ (∀ j, j < k → ¬ mIs σ f (e - f) 14 15 (off + j)) ∧ σ.2.2 13 (off + k) = nI x.2.2.1 ∧ σ.2.2 16 (off + k) = nI x.2.2.2 ∧ x ∈ l ∧ 1 ≤ x.2.2.1 ∧ x.2.2.1 ≤ 3 ∧ x.2.2.2 < 60
    | none => ∀ j, j < l.length → ¬ mIs σ f (e - f) 14 15 (off + j)
  | [], _, _ => fun j hj => absurd hj (Nat.not_lt_zero j)
  | x :: l, off, h => by
    obtain ⟨a1, a2, a3, a4, a5, a6, a7, a8, a9⟩ := h 0 x rfl
    have ih := find_gl (f := f) (e := e) hT hp hpl l (off + 1) (fun k y hy => by rw [show off + 1 + k = off + (k + 1) by omega]; exact h (k + 1) y hy)
    have hx := mIs_row (f := f) (e := e) hT a2 a3 (by omega) (fun i hi => by rw [hpl _ (by omega)]; exact a9 i hi)
    have hlen : (x :: l).length = l.length + 1 := rfl
    rw [List.find?_cons]
    by_cases hc : x.1 = seg T f e
    · rw [decide_eq_true hc]
      exact ⟨0, by omega, hx.mpr hc, fun j h1 => absurd h1 (Nat.not_lt_zero j), a1, a4, List.mem_cons_self, a7, a6, a8⟩
    · rw [decide_eq_false hc]
      cases hf : l.find? (fun x => decide (x.1 = seg T f e)) with
      | none =>
        rw [hf] at ih
        intro j hj
        cases j with
        | zero => exact fun z => hc (hx.mp z)
        | succ j => rw [show off + (j + 1) = off + 1 + j by omega]; exact ih j (by omega)
      | some y =>
        rw [hf] at ih
        obtain ⟨k, k1, k2, k3, k4, k5, k6, k7⟩ := ih
        refine ⟨k + 1, by omega, by rw [show off + (k + 1) = off + 1 + k by omega]; exact k2, fun j h1 => ?_, by rw [show off + (k + 1) = off + 1 + k by omega]; exact k4, by rw [show off + (k + 1) = off + 1 + k by omega]; exact k5, List.mem_cons_of_mem _ k6, k7⟩
        cases j with
        | zero => exact fun z => hc (hx.mp z)
        | succ j => rw [show off + (j + 1) = off + 1 + j by omega]; exact k3 j (by omega)
theorem rows_mRow {j1 j2 j3 p : Nat} {pool : Nat → Int32} (hp : p ≤ 70000) : ∀ l : List Nm, rowsOK (σ.2.2 j1) (σ.2.2 j2) (σ.2.2 j3) pool p l → ∀ j, j < l.length → ∃ p l, mRow σ j1 j2 j p l
  | [], _, j, hj => absurd hj (Nat.not_lt_zero j)
  | x :: l, ⟨⟨a, b, c, d, _⟩, h⟩, j, hj => by
    by_cases he : j = l.length
    · subst he; exact ⟨x.2.1, x.1.length, a, b, by omega⟩
    · exact rows_mRow hp l h j (by have : (x :: l).length = l.length + 1 := rfl; omega)
/-- which name it is -/
theorem p_find (h : PS T n E o q v b σ) (hp : b.2.1 ≤ 70000) (L : Nat → Int32) : Tm (fun k => x_find k 0 L σ) (fun r => PS T n E o q v b r.2 ∧ FrM M P w σ r.2 ∧ (∀ j, j ≠ 46 → j ≠ 47 → j ≠ 48 → r.2.1 j = σ.1 j) ∧ r.2.1 46 = nI (fd E (tkS T n q)).1 ∧ (fd E (tkS T n q)).1 ≤ 3 ∧ (¬ (fd E (tkS T n q)).1 = 0 → r.2.1 47 = nI (fd E (tkS T n q)).2.1 ∧ r.2.1 48 = (fd E (tkS T n q)).2.2 ∧ (fd E (tkS T n q)).2.1 < 60) ∧ (¬ (fd E (tkS T n q)).1 = 0 → ¬ (fd E (tkS T n q)).1 = 1 → (fd E (tkS T n q)).2.1 < 41 ∧ σ.2.2 18 (fd E (tkS T n q)).2.1 = nI (E.2.2.2.2.2.2 (fd E (tkS T n q)).2.1) ∧ E.2.2.2.2.2.2 (fd E (tkS T n q)).2.1 ≤ 8)) := by
  have h0 := h
  obtain ⟨⟨⟨a1, a2⟩, a3, a4, a5, ⟨c1, c2, c3, c4, c5, c6⟩, a6⟩, ⟨d1, d2⟩, ⟨e1, e2, e3, e4, e5⟩, ⟨f1, f2, f3, f4, f5⟩, ⟨⟨g1, g2, g3⟩, ⟨g4, g5, g6⟩, ⟨g7, g8, g9⟩⟩, ⟨i1, i2, i3⟩⟩ := h
  have hE := tkE_b T n q c1
  have hr1 := find_rows (f := q) (e := tkE T n q) a3 hp e5 E.2.1 g3
  have hr2 := find_gl (f := q) (e := tkE T n q) a3 hp e5 E.1 0 (fun k x hx => by rw [Nat.zero_add]; exact g9 k x hx)
  have hgl : ∀ j, j < E.1.length → ∃ p l, mRow σ 14 15 j p l := fun j hj => by
    obtain ⟨k1, k2, k3, k4, k5, _⟩ := g9 j E.1[j] (List.getElem?_eq_getElem hj)
    exact ⟨_, _, k2, k3, by omega⟩
  refine Tm_mono (s_find c2 c4 hE.1 (by omega) g1 (by omega) g7 g8 (rows_mRow hp E.2.1 g3) hgl L) (fun r hr => ?_)
  obtain ⟨z, u, y⟩ := r
  obtain ⟨hy, hu, hf⟩ := hr
  have hy : y = σ.2 := hy
  subst hy
  have hu : ∀ j, j ≠ 46 → j ≠ 47 → j ≠ 48 → u j = σ.1 j := hu
  have hf : _ := hf
  refine ⟨PS_sc h0 (fun j hj => hu j (by omega) (by omega) (by omega)), FrM_sc (fun j hj => hu j (by omega) (by omega) (by omega)), hu, ?_⟩
  show u 46 = nI (fd E (tkS T n q)).1 ∧ (fd E (tkS T n q)).1 ≤ 3 ∧ (¬ (fd E (tkS T n q)).1 = 0 → u 47 = nI (fd E (tkS T n q)).2.1 ∧ u 48 = (fd E (tkS T n q)).2.2 ∧ (fd E (tkS T n q)).2.1 < 60) ∧ _
  have e37 : (if σ.1 37 ≤ 0 then (0 : Int32) else 1) = (if E.2.2.2.1 = 0 then 0 else 1) := by
    rw [f1]
    by_cases hw : E.2.2.2.1 = 0
    · rw [if_pos hw, hw, if_pos (by decide)]
    · rw [if_neg hw, if_neg]
      intro z
      have z : nI E.2.2.2.1 ≤ nI 0 := z
      rw [n_le (by omega) (by omega)] at z; omega
  have hks : ∀ l : List Int32, (l = tkS T n q) = (l = seg T q (tkE T n q)) := fun _ => rfl
  unfold fd
  rw [show tkS T n q = seg T q (tkE T n q) from rfl]
  cases hS : E.2.1.find? (fun x => decide (x.1 = seg T q (tkE T n q))) with
  | some x =>
    rw [hS] at hr1
    obtain ⟨k, k1, k2, k3, k4, k5⟩ := hr1
    rcases hf with ⟨k', q1, q2, q3, q4, q5, q6⟩ | ⟨q1, _⟩ | ⟨q1, _⟩
    · have : k' = k := by
        by_cases h1 : k' < k
        · exact absurd k2 (q3 k h1 k1)
        · by_cases h2 : k < k'
          · exact absurd q2 (k3 k' h2 q1)
          · omega
      subst this
      exact ⟨q4, by dsimp only; omega, fun _ => ⟨q5.trans k4, q6.trans e37, k5⟩, fun _ z => absurd rfl z⟩
    · exact absurd k2 (q1 k k1)
    · exact absurd k2 (q1 k k1)
  | none =>
    rw [hS] at hr1
    cases hG : E.1.find? (fun x => decide (x.1 = seg T q (tkE T n q))) with
    | some x =>
      rw [hG] at hr2
      obtain ⟨k, k1, k2, k3, k4, k5, k6, k7, k8, k9⟩ := hr2
      rw [Nat.zero_add] at k2 k4 k5
      rcases hf with ⟨k', q1, q2, _⟩ | ⟨_, k', q1, q2, q3, q4, q5, q6⟩ | ⟨_, q1, _⟩
      · exact absurd q2 (hr1 k' q1)
      · have : k' = k := by
          by_cases h1 : k' < k
          · have := k3 k' h1
            rw [Nat.zero_add] at this
            exact absurd q2 this
          · by_cases h2 : k < k'
            · exact absurd k2 (q3 k h2)
            · omega
        subst this
        refine ⟨q4.trans k4, k8, fun _ => ⟨q5.trans k5, q6, k9⟩, fun _ z => ?_⟩
        exact i3 x k6 z
      · exact absurd k2 (q1 k k1)
    | none =>
      rw [hG] at hr2
      rcases hf with ⟨k', q1, q2, _⟩ | ⟨_, k', q1, q2, _⟩ | ⟨_, _, q1⟩
      · exact absurd q2 (hr1 k' q1)
      · have := hr2 k' q1
        rw [Nat.zero_add] at this
        exact absurd q2 this
      · exact ⟨q1, Nat.zero_le 3, fun z => absurd rfl z, fun z => absurd rfl z⟩
end NAMES
end JnS35
section JnS36
/-! Names of iters are told. -/
theorem n_add {p q : Nat} (h : p + q < 2147483648) : nI p + nI q = nI (p + q) := by
  rw [i_eq, i_add (by rw [n_int (by omega), n_int (by omega)]; omega) (by rw [n_int (by omega), n_int (by omega)]; omega), n_int (by omega), n_int (by omega), n_int h]; omega
theorem n_mul60 {w : Nat} (h : w ≤ 42) : (60 : Int32) * nI w = nI (60 * w) := by
  have h60 : (60 : Int32).toInt = 60 := rfl
  rw [i_eq, i_mul (by rw [h60, n_int (by omega)]; omega) (by rw [h60, n_int (by omega)]; omega), h60, n_int (by omega), n_int (by omega)]; omega
theorem nar_b {g : Nat} (h : g ≤ 1) : vp_nar .boolean (nI g) = nI g := by
  have : g = 0 ∨ g = 1 := by omega
  rcases this with rfl | rfl <;> rfl
section PC
variable {T : Nat → Int32} {n : Nat} {E : En} {o q v w : Nat} {b : BT} {σ τ : MS}
theorem PT_c (hs : ∀ j, 4 ≤ j → j ≤ 10 → τ.1 j = σ.1 j) (h3 : τ.2.2 3 = σ.2.2 3) (h1 : τ.2.2 1 = σ.2.2 1) (h : PT T n σ q) : PT T n τ q := by
  obtain ⟨⟨a1, a2⟩, a3, a4, a5, ⟨c1, c2, c3, c4, c5, wv, c6⟩, a6⟩ := h
  exact ⟨⟨(hs 4 (by decide) (by decide)).trans a1, a2⟩, h3.trans a3, h1.trans a4, (hs 10 (by decide) (by decide)).trans a5, ⟨c1, (hs 8 (by decide) (by decide)).trans c2, (hs 5 (by decide) (by decide)).trans c3, (hs 9 (by decide) (by decide)).trans c4, (hs 6 (by decide) (by decide)).trans c5, wv, (hs 7 (by decide) (by decide)).trans c6⟩, a6⟩
theorem PB_c (h22 : τ.1 22 = σ.1 22) (h24 : τ.1 24 = σ.1 24) (hg : ∀ j, (4 ≤ j ∧ j ≤ 9) ∨ j = 12 → τ.2.2 j = σ.2.2 j) (h : PB σ b) : PB τ b := by
  obtain ⟨e1, e2, e3, e4, e5⟩ := h
  exact ⟨h22.trans e1, e2, h24.trans e3, fun j h4 h9 i hi hi2 => by rw [hg j (Or.inl ⟨h4, h9⟩)]; exact e4 j h4 h9 i hi hi2, fun i hi => by rw [hg 12 (Or.inr rfl)]; exact e5 i hi⟩
theorem PV_c (h37 : τ.1 37 = σ.1 37) (h21 : τ.2.2 21 = σ.2.2 21) (h20 : τ.2.2 20 = σ.2.2 20) (h : PV σ w v b) : PV τ w v b := by
  obtain ⟨f1, f2, f3, f4, f5⟩ := h
  exact ⟨h37.trans f1, f2, by rw [h21]; exact f3, f4, fun i hi => by rw [h20]; exact f5 i hi⟩
theorem PF_c (h43 : τ.1 43 = σ.1 43) (h42 : τ.1 42 = σ.1 42) (h18 : τ.2.2 18 = σ.2.2 18) (h : PF σ E) : PF τ E := by
  unfold PF
  rw [h43, h42, h18]; exact h
theorem PN_c (h38 : τ.1 38 = σ.1 38) (h52 : τ.1 52 = σ.1 52) (h25 : τ.1 25 = σ.1 25) (hg : ∀ j, (13 ≤ j ∧ j ≤ 16) ∨ (22 ≤ j ∧ j ≤ 27) → τ.2.2 j = σ.2.2 j) (h : PN σ E b v) : PN τ E b v := by
  unfold PN
  rw [h38, h52, h25, hg 22 (by decide), hg 23 (by decide), hg 24 (by decide), hg 25 (by decide), hg 26 (by decide), hg 27 (by decide), hg 13 (by decide), hg 14 (by decide), hg 15 (by decide), hg 16 (by decide)]; exact h
end PC
section TELL
variable {T : Nat → Int32} {n : Nat} {E : En} {o q v M P w : Nat} {b : BT} {σ : MS}
/-- a slot of the unit's -/
def mSlot (σ : MS) (w v : Nat) (x : Int32) : MS := (σ.1, σ.2.1, updG (updG σ.2.2 20 (upd (σ.2.2 20) (60 * w + v) x)) 21 (upd (σ.2.2 21) w (nI (v + 1))))
theorem mSlot_o {x : Int32} {j : Nat} (h : j ≠ 20) (h2 : j ≠ 21) : (mSlot σ w v x).2.2 j = σ.2.2 j := by
  show updG (updG σ.2.2 20 _) 21 _ j = _
  rw [updG_other h2, updG_other h]
theorem mSlot_21 {x : Int32} : (mSlot σ w v x).2.2 21 = upd (σ.2.2 21) w (nI (v + 1)) := rfl
theorem mSlot_20 {x : Int32} : (mSlot σ w v x).2.2 20 = upd (σ.2.2 20) (60 * w + v) x := rfl
theorem PS_slot (h : PS T n E o q v b σ) (hv : v < 60) (x : Int32) : PS T n E o q (v + 1) (bSlot b (60 * E.2.2.2.1 + v) x) (mSlot σ E.2.2.2.1 v x) := by
  obtain ⟨hT, hO, hB, ⟨f1, f2, f3, f4, f5⟩, ⟨⟨g1, g2, g3⟩, ⟨g4, g5, g6⟩, g7⟩, hF⟩ := h
  have oo : ∀ j, j ≠ 20 → j ≠ 21 → (mSlot σ E.2.2.2.1 v x).2.2 j = σ.2.2 j := fun j a b => mSlot_o a b
  refine ⟨PT_c (fun _ _ _ => rfl) (oo 3 (by decide) (by decide)) (oo 1 (by decide) (by decide)) hT, hO, PB_c (σ := σ) (b := bSlot b (60 * E.2.2.2.1 + v) x) rfl rfl (fun j hj => oo j (by omega) (by omega)) hB, ⟨f1, f2, ?_, by omega, fun i hi => ?_⟩, PN_c (σ := σ) (b := bSlot b (60 * E.2.2.2.1 + v) x) rfl rfl rfl (fun j hj => oo j (by omega) (by omega)) ⟨⟨g1, by omega, g3⟩, ⟨g4, by omega, g6⟩, g7⟩, PF_c rfl rfl (oo 18 (by decide) (by decide)) hF⟩
  · rw [mSlot_21, upd_same]
  · rw [mSlot_20]
    show _ = upd b.2.2.2.2 (60 * E.2.2.2.1 + v) x (60 * E.2.2.2.1 + i)
    by_cases hi2 : i = v
    · subst hi2; rw [upd_same, upd_same]
    · rw [upd_other (by omega), upd_other (by omega)]; exact f5 i (by omega)
theorem FrM_slot (hv : v < 60) (x : Int32) : FrM M P w σ (mSlot σ w v x) := by
  refine ⟨fun _ _ => rfl, rfl, fun j hj => mSlot_o (by omega) (by omega), fun j h4 h9 i _ _ => by rw [mSlot_o (by omega) (by omega)], fun i _ => by rw [mSlot_o (by decide) (by decide)], fun i hi => ?_, fun i hi => ?_⟩
  · rw [mSlot_21, upd_other hi]
  · rw [mSlot_20, upd_other (by omega)]
theorem p_newSlot (h : PS T n E o q v b σ) {g : Nat} (hg : g ≤ 1) {L : Nat → Int32} (hL : L 1 = nI g) : Tm (fun k => x_newSlot k 0 L σ) (fun r => FrM M P E.2.2.2.1 σ r.2 ∧ ((v = 60 ∧ Bb (8, q) b.1 r.2) ∨ (v < 60 ∧ r = (nI v, mSlot σ E.2.2.2.1 v (nI g)) ∧ PS T n E o q (v + 1) (bSlot b (60 * E.2.2.2.1 + v) (nI g)) r.2))) := by
  have h0 := h
  obtain ⟨f1, f2, f3, f4, f5⟩ := h.2.2.2.1
  have hi : ¬ (nI E.2.2.2.1 < 0 ∨ 43 ≤ (nI E.2.2.2.1).toNatClampNeg) := n_in (by omega) (by omega)
  have hc : (nI E.2.2.2.1).toNatClampNeg = E.2.2.2.1 := n_cl (by omega)
  refine Tm_suc (fun k => by rw [x_newSlot]) ?_
  rw [f1]
  refine Tm_chk hi ?_
  rw [hc, f3]
  refine Tm_ite (fun c => ?_) (fun c => ?_)
  · have c : nI v = nI 60 := c
    rw [n_eq (by omega) (by omega)] at c
    refine Tm_ob (p_fault (M := M) (P := P) (w := E.2.2.2.1) (yf := (8, q)) h0 _ (by rfl) (by exact PS_8 h0)) (fun r hr => ?_)
    exact Tm_some ⟨hr.2, Or.inl ⟨c, hr.1⟩⟩
  · have c : ¬ nI v = nI 60 := c
    rw [n_eq (by omega) (by omega)] at c
    have hv : v < 60 := by omega
    refine Tm_suc (fun k => by rw [x_newSlot]) ?_
    rw [f1]
    refine Tm_chk hi ?_
    rw [hc, f3, n_mul60 f2, n_add (by omega)]
    refine Tm_chk (n_in (by omega) (by omega)) ?_
    rw [n_cl (p := 60 * E.2.2.2.1 + v) (by omega), hL, nar_b hg]
    have e21 : (updG σ.2.2 20 (upd (σ.2.2 20) (60 * E.2.2.2.1 + v) (nI g))) 21 = σ.2.2 21 := updG_other (by decide)
    refine Tm_suc (fun k => by rw [x_newSlot]) ?_
    show Tm (fun k => if ¬ (σ.1 37 < 0 ∨ 43 ≤ (σ.1 37).toNatClampNeg) then (if ¬ (σ.1 37 < 0 ∨ 43 ≤ (σ.1 37).toNatClampNeg) then x_newSlot k 3 L (σ.1, σ.2.1, updG (updG σ.2.2 20 (upd (σ.2.2 20) (60 * E.2.2.2.1 + v) (nI g))) 21 (upd ((updG σ.2.2 20 (upd (σ.2.2 20) (60 * E.2.2.2.1 + v) (nI g))) 21) (σ.1 37).toNatClampNeg ((updG σ.2.2 20 (upd (σ.2.2 20) (60 * E.2.2.2.1 + v) (nI g))) 21 (σ.1 37).toNatClampNeg + 1))) else none) else none) _
    rw [f1]
    refine Tm_chk hi ?_
    refine Tm_chk hi ?_
    rw [hc, e21, f3, n_add1]
    refine Tm_suc (fun k => by rw [x_newSlot]) ?_
    show Tm (fun k => if ¬ (σ.1 37 < 0 ∨ 43 ≤ (σ.1 37).toNatClampNeg) then some ((mSlot σ E.2.2.2.1 v (nI g)).2.2 21 (σ.1 37).toNatClampNeg - 1, mSlot σ E.2.2.2.1 v (nI g)) else none) _
    rw [f1]
    refine Tm_chk hi ?_
    rw [hc, show (mSlot σ E.2.2.2.1 v (nI g)).2.2 21 E.2.2.2.1 = nI (v + 1) from by rw [mSlot_21, upd_same], show (nI (v + 1) - 1 : Int32) = nI (v + 1) - nI 1 from rfl, n_sub (by omega) (by omega)]
    exact Tm_some ⟨FrM_slot hv _, Or.inr ⟨hv, rfl, PS_slot h0 hv _⟩⟩
/-- a row of names, pushed -/
def mRowP (σ : MS) (r : Nat) (x y z : Int32) : MS := (upd σ.1 52 (nI (r + 1)), σ.2.1, updG (updG (updG σ.2.2 25 (upd (σ.2.2 25) r x)) 26 (upd (σ.2.2 26) r y)) 27 (upd (σ.2.2 27) r z))
theorem mRowP_o {r : Nat} {x y z : Int32} {j : Nat} (h : j < 25 ∨ 27 < j) : (mRowP σ r x y z).2.2 j = σ.2.2 j := by
  show updG (updG (updG σ.2.2 25 _) 26 _) 27 _ j = _
  rw [updG_other (by omega), updG_other (by omega), updG_other (by omega)]
theorem mRowP_s {r : Nat} {x y z : Int32} {j : Nat} (h : j ≠ 52) : (mRowP σ r x y z).1 j = σ.1 j := upd_other h
theorem PS_row (h : PS T n E o q v b σ) (nm : Nm) (hl : E.2.2.1.length + 1 ≤ v) (hp : nm.2.1 + nm.1.length ≤ b.2.1) (hs : nm.2.2 < 60) (hc : ∀ i, i < nm.1.length → b.2.2.2.1 (nm.2.1 + i) = nm.1.getD i 0) : PS T n (rowN E [nm]) o q v b (mRowP σ E.2.2.1.length (nI nm.2.1) (nI nm.1.length) (nI nm.2.2)) := by
  obtain ⟨hT, hO, hB, hV, ⟨⟨g1, g2, g3⟩, ⟨g4, g5, g6⟩, ⟨g7, g8, g9⟩⟩, hF⟩ := h
  have e25 : (mRowP σ E.2.2.1.length (nI nm.2.1) (nI nm.1.length) (nI nm.2.2)).2.2 25 = upd (σ.2.2 25) E.2.2.1.length (nI nm.2.1) := rfl
  have e26 : (mRowP σ E.2.2.1.length (nI nm.2.1) (nI nm.1.length) (nI nm.2.2)).2.2 26 = upd (σ.2.2 26) E.2.2.1.length (nI nm.1.length) := rfl
  have e27 : (mRowP σ E.2.2.1.length (nI nm.2.1) (nI nm.1.length) (nI nm.2.2)).2.2 27 = upd (σ.2.2 27) E.2.2.1.length (nI nm.2.2) := rfl
  refine ⟨PT_c (fun j _ _ => mRowP_s (by omega)) (mRowP_o (by decide)) (mRowP_o (by decide)) hT, ⟨(mRowP_s (by decide)).trans hO.1, hO.2⟩, PB_c (mRowP_s (by decide)) (mRowP_s (by decide)) (fun j hj => mRowP_o (by omega)) hB, PV_c (mRowP_s (by decide)) (mRowP_o (by decide)) (mRowP_o (by decide)) hV, ⟨⟨(mRowP_s (by decide)).trans g1, g2, ?_⟩, ⟨?_, hl, ?_⟩, ⟨(mRowP_s (by decide)).trans g7, g8, ?_⟩⟩, PF_c (mRowP_s (by decide)) (mRowP_s (by decide)) (mRowP_o (by decide)) hF⟩
  · rw [mRowP_o (by decide), mRowP_o (by decide), mRowP_o (by decide)]; exact g3
  · exact (upd_same : upd σ.1 52 (nI (E.2.2.1.length + 1)) 52 = _)
  · rw [e25, e26, e27]
    refine ⟨⟨upd_same, upd_same, upd_same, hp, hs, hc⟩, rowsOK_mono _ (fun i hi => ?_) (fun _ _ => rfl) (Nat.le_refl _) g6⟩
    have hi : i < E.2.2.1.length := hi
    exact ⟨upd_other (by omega), upd_other (by omega), upd_other (by omega)⟩
  · rw [mRowP_o (by decide), mRowP_o (by decide), mRowP_o (by decide), mRowP_o (by decide)]; exact g9
theorem FrM_row {r : Nat} {x y z : Int32} : FrM M P w σ (mRowP σ r x y z) :=
  ⟨fun j hj => mRowP_s (by omega), rfl, fun j hj => mRowP_o (by omega), fun j h4 h9 i _ _ => by rw [mRowP_o (by omega)], fun i _ => by rw [mRowP_o (by decide)], fun i hi => by rw [mRowP_o (by decide)], fun i hi => by rw [mRowP_o (by decide)]⟩
/-- a row of names that are seen, pushed -/
def mSeeP (σ : MS) (r : Nat) (x y z : Int32) : MS := (upd σ.1 38 (nI (r + 1)), σ.2.1, updG (updG (updG σ.2.2 22 (upd (σ.2.2 22) r x)) 23 (upd (σ.2.2 23) r y)) 24 (upd (σ.2.2 24) r z))
theorem mSeeP_o {r : Nat} {x y z : Int32} {j : Nat} (h : j < 22 ∨ 24 < j) : (mSeeP σ r x y z).2.2 j = σ.2.2 j := by
  show updG (updG (updG σ.2.2 22 _) 23 _) 24 _ j = _
  rw [updG_other (by omega), updG_other (by omega), updG_other (by omega)]
theorem mSeeP_s {r : Nat} {x y z : Int32} {j : Nat} (h : j ≠ 38) : (mSeeP σ r x y z).1 j = σ.1 j := upd_other h
theorem PS_see (h : PS T n E o q v b σ) (nm : Nm) (hl : E.2.1.length + 1 ≤ v) (hp : nm.2.1 + nm.1.length ≤ b.2.1) (hs : nm.2.2 < 60) (hc : ∀ i, i < nm.1.length → b.2.2.2.1 (nm.2.1 + i) = nm.1.getD i 0) : PS T n (seeN E [nm]) o q v b (mSeeP σ E.2.1.length (nI nm.2.1) (nI nm.1.length) (nI nm.2.2)) := by
  obtain ⟨hT, hO, hB, hV, ⟨⟨g1, g2, g3⟩, ⟨g4, g5, g6⟩, ⟨g7, g8, g9⟩⟩, hF⟩ := h
  have e25 : (mSeeP σ E.2.1.length (nI nm.2.1) (nI nm.1.length) (nI nm.2.2)).2.2 22 = upd (σ.2.2 22) E.2.1.length (nI nm.2.1) := rfl
  have e26 : (mSeeP σ E.2.1.length (nI nm.2.1) (nI nm.1.length) (nI nm.2.2)).2.2 23 = upd (σ.2.2 23) E.2.1.length (nI nm.1.length) := rfl
  have e27 : (mSeeP σ E.2.1.length (nI nm.2.1) (nI nm.1.length) (nI nm.2.2)).2.2 24 = upd (σ.2.2 24) E.2.1.length (nI nm.2.2) := rfl
  refine ⟨PT_c (fun j _ _ => mSeeP_s (by omega)) (mSeeP_o (by decide)) (mSeeP_o (by decide)) hT, ⟨(mSeeP_s (by decide)).trans hO.1, hO.2⟩, PB_c (mSeeP_s (by decide)) (mSeeP_s (by decide)) (fun j hj => mSeeP_o (by omega)) hB, PV_c (mSeeP_s (by decide)) (mSeeP_o (by decide)) (mSeeP_o (by decide)) hV, ⟨⟨?_, hl, ?_⟩, ⟨(mSeeP_s (by decide)).trans g4, g5, ?_⟩, ⟨(mSeeP_s (by decide)).trans g7, g8, ?_⟩⟩, PF_c (mSeeP_s (by decide)) (mSeeP_s (by decide)) (mSeeP_o (by decide)) hF⟩
  · exact (upd_same : upd σ.1 38 (nI (E.2.1.length + 1)) 38 = _)
  · rw [e25, e26, e27]
    refine ⟨⟨upd_same, upd_same, upd_same, hp, hs, hc⟩, rowsOK_mono _ (fun i hi => ?_) (fun _ _ => rfl) (Nat.le_refl _) g3⟩
    have hi : i < E.2.1.length := hi
    exact ⟨upd_other (by omega), upd_other (by omega), upd_other (by omega)⟩
  · rw [mSeeP_o (by decide), mSeeP_o (by decide), mSeeP_o (by decide)]; exact g6
  · rw [mSeeP_o (by decide), mSeeP_o (by decide), mSeeP_o (by decide), mSeeP_o (by decide)]; exact g9
theorem FrM_see {r : Nat} {x y z : Int32} : FrM M P w σ (mSeeP σ r x y z) :=
  ⟨fun j hj => mSeeP_s (by omega), rfl, fun j hj => mSeeP_o (by omega), fun j h4 h9 i _ _ => by rw [mSeeP_o (by omega)], fun i _ => by rw [mSeeP_o (by decide)], fun i hi => by rw [mSeeP_o (by decide)], fun i hi => by rw [mSeeP_o (by decide)]⟩
theorem s_see {r : Nat} (h : σ.1 38 = nI r) (hr : r < 400) (L : Nat → Int32) : Tm (fun k => x_see k 0 L σ) (fun z => z = (0, mSeeP σ r (L 1) (L 2) (L 3))) := by
  have hi : ¬ (nI r < 0 ∨ 400 ≤ (nI r).toNatClampNeg) := n_in (by omega) hr
  have hc : (nI r).toNatClampNeg = r := n_cl (by omega)
  refine Tm_suc (fun k => by rw [x_see]) ?_
  rw [h]
  refine Tm_chk hi ?_
  refine Tm_suc (fun k => by rw [x_see]) ?_
  rw [h]
  refine Tm_chk hi ?_
  refine Tm_suc (fun k => by rw [x_see]) ?_
  rw [h]
  refine Tm_chk hi ?_
  refine Tm_suc (fun k => by rw [x_see]) ?_
  rw [h, n_add1, hc]
  exact Tm_some rfl
end TELL
end JnS36

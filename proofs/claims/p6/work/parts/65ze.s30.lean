/-! The reference's exps, held against the grammar. -/
theorem xE_0 (k d b : Nat) (L : Nat → Int32) (σ : MS) : x_GE (k + 1) d 0 b L σ = s_brackets (x_GE k) k d b L σ := rfl
theorem xE_1 (k d b : Nat) (L : Nat → Int32) (σ : MS) : x_GE (k + 1) d 1 b L σ = s_choice (x_GE k) k d b L σ := rfl
theorem xE_2 (k d b : Nat) (L : Nat → Int32) (σ : MS) : x_GE (k + 1) d 2 b L σ = s_conjunction (x_GE k) k d b L σ := rfl
theorem xE_3 (k d b : Nat) (L : Nat → Int32) (σ : MS) : x_GE (k + 1) d 3 b L σ = s_exp (x_GE k) k d b L σ := rfl
theorem xE_4 (k d b : Nat) (L : Nat → Int32) (σ : MS) : x_GE (k + 1) d 4 b L σ = s_iters (x_GE k) k d b L σ := rfl
theorem xE_5 (k d b : Nat) (L : Nat → Int32) (σ : MS) : x_GE (k + 1) d 5 b L σ = s_listed (x_GE k) k d b L σ := rfl
theorem xE_6 (k d b : Nat) (L : Nat → Int32) (σ : MS) : x_GE (k + 1) d 6 b L σ = s_name (x_GE k) k d b L σ := rfl
theorem xE_7 (k d b : Nat) (L : Nat → Int32) (σ : MS) : x_GE (k + 1) d 7 b L σ = s_negation (x_GE k) k d b L σ := rfl
theorem xE_8 (k d b : Nat) (L : Nat → Int32) (σ : MS) : x_GE (k + 1) d 8 b L σ = s_parts (x_GE k) k d b L σ := rfl
theorem xE_9 (k d b : Nat) (L : Nat → Int32) (σ : MS) : x_GE (k + 1) d 9 b L σ = s_power (x_GE k) k d b L σ := rfl
theorem xE_10 (k d b : Nat) (L : Nat → Int32) (σ : MS) : x_GE (k + 1) d 10 b L σ = s_prefix (x_GE k) k d b L σ := rfl
theorem xE_11 (k d b : Nat) (L : Nat → Int32) (σ : MS) : x_GE (k + 1) d 11 b L σ = s_primary (x_GE k) k d b L σ := rfl
theorem xE_12 (k d b : Nat) (L : Nat → Int32) (σ : MS) : x_GE (k + 1) d 12 b L σ = s_quantified (x_GE k) k d b L σ := rfl
theorem xE_13 (k d b : Nat) (L : Nat → Int32) (σ : MS) : x_GE (k + 1) d 13 b L σ = s_relation (x_GE k) k d b L σ := rfl
theorem xE_14 (k d b : Nat) (L : Nat → Int32) (σ : MS) : x_GE (k + 1) d 14 b L σ = s_sum (x_GE k) k d b L σ := rfl
theorem xE_15 (k d b : Nat) (L : Nat → Int32) (σ : MS) : x_GE (k + 1) d 15 b L σ = s_term (x_GE k) k d b L σ := rfl
theorem xE_16 (k d b : Nat) (L : Nat → Int32) (σ : MS) : x_GE (k + 1) d 16 b L σ = s_wordly (x_GE k) k d b L σ := rfl
def Po (T : Nat → Int32) (n : Nat) (E : En) (o M P k : Nat) (σ0 : MS) : Option RT → Int32 × MS → Prop
  | none, r => (∃ m, Bb m r.2 ∧ m ≤ k ∧ M ≤ m) ∧ (∃ e, r.1 = nI e ∧ e < 70000 ∧ (e = 0 ∨ M ≤ e)) ∧ FrM M P E.2.2.2.1 σ0 r.2
  | some t, r => PS T n E o t.1 t.2.1 t.2.2.2.2.1 r.2 ∧ r.1 = nI t.2.2.2.1 ∧ FrM M P E.2.2.2.1 σ0 r.2
theorem Po_tr {T : Nat → Int32} {n : Nat} {E : En} {o M P k k' : Nat} {σ τ : MS} {x : Option RT} {r : Int32 × MS} (h : FrM M P E.2.2.2.1 σ τ) (hk : k' ≤ k) (hp : Po T n E o M P k' τ x r) : Po T n E o M P k σ x r := by
  cases x with
  | none =>
    obtain ⟨⟨m, h1, h2, h3⟩, h4, h5⟩ := hp
    exact ⟨⟨m, h1, by omega, h3⟩, h4, FrM_tr h h5⟩
  | some t => exact ⟨hp.1, hp.2.1, FrM_tr h hp.2.2⟩
def reT (M : Nat) (b : BT) (L : Nat → Int32) (e : Nat) : Prop := True
def re1 (M : Nat) (b : BT) (L : Nat → Int32) (e : Nat) : Prop := L 1 = nI e ∧ M ≤ e ∧ e < b.1
def re2 (M : Nat) (b : BT) (L : Nat → Int32) (e : Nat) : Prop := L 2 = nI e ∧ M ≤ e ∧ e < b.1
def SG (T : Nat → Int32) (n f nt lv m blk : Nat) (re : Nat → BT → (Nat → Int32) → Nat → Prop) : Prop := ∀ (E : En) (o q v i e : Nat) (b : BT) (x : Option RT), G T n f nt E o q v i e 0 0 b = some x → ∀ (σ : MS) (L : Nat → Int32) (d M P : Nat), PS T n E o q v b σ → 1 ≤ M → M ≤ b.1 → P ≤ b.2.1 → b.1 + (n + 1 - q) + 3 * (d + 2) ≤ 70000 → b.2.1 + (n - q) ≤ 70000 → 12 * (21 - o) + lv ≤ d → re M b L e → Tm (fun k => x_GE k d m blk L σ) (Po T n E o M P (b.1 + (n + 1 - q) + 3 * (d + 1)) σ x)
abbrev S0 (T : Nat → Int32) (n f : Nat) : Prop := SG T n f 0 11 3 0 reT
abbrev S1 (T : Nat → Int32) (n f : Nat) : Prop := SG T n f 1 11 3 1 re1
abbrev S2 (T : Nat → Int32) (n f : Nat) : Prop := SG T n f 2 10 2 0 reT
abbrev S3 (T : Nat → Int32) (n f : Nat) : Prop := SG T n f 3 10 2 1 re1
abbrev S4 (T : Nat → Int32) (n f : Nat) : Prop := SG T n f 4 9 7 0 reT
abbrev S5 (T : Nat → Int32) (n f : Nat) : Prop := SG T n f 5 8 13 0 reT
abbrev S6 (T : Nat → Int32) (n f : Nat) : Prop := SG T n f 6 7 14 0 reT
abbrev S7 (T : Nat → Int32) (n f : Nat) : Prop := SG T n f 7 7 14 1 re1
abbrev S8 (T : Nat → Int32) (n f : Nat) : Prop := SG T n f 8 6 15 0 reT
abbrev S9 (T : Nat → Int32) (n f : Nat) : Prop := SG T n f 9 6 15 1 re1
abbrev S10 (T : Nat → Int32) (n f : Nat) : Prop := SG T n f 10 5 9 0 reT
abbrev S11 (T : Nat → Int32) (n f : Nat) : Prop := SG T n f 11 4 10 0 reT
abbrev S12 (T : Nat → Int32) (n f : Nat) : Prop := SG T n f 12 3 8 1 re2
abbrev S13 (T : Nat → Int32) (n f : Nat) : Prop := SG T n f 13 3 11 0 reT
section BADRUN
variable {σ : MS} {d : Nat} {L : Nat → Int32}
theorem b_exp1 (h : ¬ σ.1 10 = 0) : Tm (fun k => x_GE k d 3 1 L σ) (fun r => r = (L 1, σ)) := by
  refine Tm_suc (fun k => by rw [xE_3]) ?_
  refine Tm_ite (c := σ.1 10 = 0) (fun c => absurd c h) (fun _ => ?_)
  refine Tm_suc (fun k => by rw [xE_3]) ?_
  exact Tm_some rfl
theorem b_con1 (h : ¬ σ.1 10 = 0) : Tm (fun k => x_GE k d 2 1 L σ) (fun r => r = (L 1, σ)) := by
  refine Tm_suc (fun k => by rw [xE_2]) ?_
  refine Tm_ite (c := σ.1 10 = 0) (fun c => absurd c h) (fun _ => ?_)
  refine Tm_suc (fun k => by rw [xE_2]) ?_
  exact Tm_some rfl
theorem b_sum1 (h : ¬ σ.1 10 = 0) : Tm (fun k => x_GE k d 14 1 L σ) (fun r => r = (L 1, σ)) := by
  refine Tm_suc (fun k => by rw [xE_14]) ?_
  refine Tm_ite (c := σ.1 10 = 0) (fun c => absurd c h) (fun _ => ?_)
  refine Tm_suc (fun k => by rw [xE_14]) ?_
  exact Tm_some rfl
theorem b_ter1 (h : ¬ σ.1 10 = 0) : Tm (fun k => x_GE k d 15 1 L σ) (fun r => r = (L 1, σ)) := by
  refine Tm_suc (fun k => by rw [xE_15]) ?_
  refine Tm_ite (c := σ.1 10 = 0) (fun c => absurd c h) (fun _ => ?_)
  refine Tm_suc (fun k => by rw [xE_15]) ?_
  exact Tm_some rfl
theorem b_par1 (h : ¬ σ.1 10 = 0) : Tm (fun k => x_GE k d 8 1 L σ) (fun r => r = (L 2, σ)) := by
  refine Tm_suc (fun k => by rw [xE_8]) ?_
  refine Tm_ite (c := σ.1 10 = 0) (fun c => absurd c h) (fun _ => ?_)
  refine Tm_suc (fun k => by rw [xE_8]) ?_
  exact Tm_some rfl
theorem b_pre (h : ¬ σ.1 10 = 0) : Tm (fun k => x_GE k d 10 0 L σ) (fun r => r = (0, σ)) := by
  refine Tm_suc (fun k => by rw [xE_10]) ?_
  exact Tm_ite (c := σ.1 10 = 0) (fun c => absurd c h) (fun _ => Tm_some rfl)
theorem b_pow (h : ¬ σ.1 10 = 0) : Tm (fun k => x_GE k (d + 1) 9 0 L σ) (fun r => r = (0, σ)) := by
  refine Tm_suc (fun k => by rw [xE_9]) ?_
  show Tm (fun k => ob (x_GE k d 10 0 (fun _ => 0) σ) _) _
  refine Tm_ob (b_pre h) (fun r hr => ?_)
  subst hr
  refine Tm_ite (c := σ.1 10 = 0) (fun c => absurd c h) (fun _ => ?_)
  refine Tm_suc (fun k => by rw [xE_9]) ?_
  exact Tm_some rfl
theorem b_ter (h : ¬ σ.1 10 = 0) : Tm (fun k => x_GE k (d + 2) 15 0 L σ) (fun r => r = (0, σ)) := by
  refine Tm_suc (fun k => by rw [xE_15]) ?_
  show Tm (fun k => ob (x_GE k (d + 1) 9 0 (fun _ => 0) σ) _) _
  refine Tm_ob (b_pow h) (fun r hr => ?_)
  subst hr
  exact b_ter1 h
theorem b_sum (h : ¬ σ.1 10 = 0) : Tm (fun k => x_GE k (d + 3) 14 0 L σ) (fun r => r = (0, σ)) := by
  refine Tm_suc (fun k => by rw [xE_14]) ?_
  show Tm (fun k => ob (x_GE k (d + 2) 15 0 (fun _ => 0) σ) _) _
  refine Tm_ob (b_ter h) (fun r hr => ?_)
  subst hr
  exact b_sum1 h
theorem b_rel (h : ¬ σ.1 10 = 0) : Tm (fun k => x_GE k (d + 4) 13 0 L σ) (fun r => r = (0, σ)) := by
  refine Tm_suc (fun k => by rw [xE_13]) ?_
  show Tm (fun k => ob (x_GE k (d + 3) 14 0 (fun _ => 0) σ) _) _
  refine Tm_ob (b_sum h) (fun r hr => ?_)
  subst hr
  refine Tm_ite (c := σ.1 10 = 0) (fun c => absurd c h) (fun _ => ?_)
  refine Tm_suc (fun k => by rw [xE_13]) ?_
  exact Tm_some rfl
theorem b_neg (h : ¬ σ.1 10 = 0) : Tm (fun k => x_GE k (d + 5) 7 0 L σ) (fun r => r = (0, σ)) := by
  refine Tm_suc (fun k => by rw [xE_7]) ?_
  refine Tm_ite (c := σ.1 10 = 0) (fun c => absurd c h) (fun _ => ?_)
  refine Tm_suc (fun k => by rw [xE_7]) ?_
  show Tm (fun k => ob (x_GE k (d + 4) 13 0 (fun _ => 0) σ) _) _
  refine Tm_ob (b_rel h) (fun r hr => ?_)
  subst hr
  exact Tm_some rfl
theorem b_con (h : ¬ σ.1 10 = 0) : Tm (fun k => x_GE k (d + 6) 2 0 L σ) (fun r => r = (0, σ)) := by
  refine Tm_suc (fun k => by rw [xE_2]) ?_
  show Tm (fun k => ob (x_GE k (d + 5) 7 0 (fun _ => 0) σ) _) _
  refine Tm_ob (b_neg h) (fun r hr => ?_)
  subst hr
  exact b_con1 h
theorem b_exp (h : ¬ σ.1 10 = 0) : Tm (fun k => x_GE k (d + 7) 3 0 L σ) (fun r => r = (0, σ)) := by
  refine Tm_suc (fun k => by rw [xE_3]) ?_
  show Tm (fun k => ob (x_GE k (d + 6) 2 0 (fun _ => 0) σ) _) _
  refine Tm_ob (b_con h) (fun r hr => ?_)
  subst hr
  exact b_exp1 h
end BADRUN
section EXPS
variable {T : Nat → Int32} {n f : Nat}
/-- a row of operands: the first one, then the loop -/
theorem head_of {nt nt' lp lv m m' : Nat} {g : Nat → Nat → (Nat → Int32) → MS → Option (Int32 × MS)}
    (hg : ∀ (E : En) (o q v i e c g : Nat) (b : BT), G T n (f + 1) nt E o q v i e c g b = gb (G T n f nt' E o q v 0 0 0 0 b) (fun r => G T n f lp E o r.1 r.2.1 r.2.2.1 r.2.2.2.1 0 0 r.2.2.2.2.1))
    (hx : ∀ (d : Nat) (L : Nat → Int32) (σ : MS) (k : Nat), x_GE (k + 1) (d + 1) m 0 L σ = ob (x_GE k d m' 0 (fun _ => 0) σ) (fun r1 => x_GE k (d + 1) m 1 (upd L 1 r1.1) r1.2))
    (hb : ∀ (σ : MS) (d : Nat) (L : Nat → Int32), ¬ σ.1 10 = 0 → Tm (fun k => x_GE k d m 1 L σ) (fun r => r = (L 1, σ)))
    (hnd : ∀ (M : Nat) (b : BT), Nd0 nt' M b 0 0 0) (hnd1 : ∀ (M : Nat) (r : RT), Nd1 nt' M r → M ≤ r.2.2.2.1 ∧ r.2.2.2.1 < r.2.2.2.2.1.1) (hmo : ∀ (b : BT) (q v : Nat) (r : RT), MoN nt' n b q v r → Mo n b q v r)
    (H2 : SG T n f nt' lv m' 0 reT) (H1 : SG T n f lp (lv + 1) m 1 re1) : SG T n (f + 1) nt (lv + 1) m 0 reT := by
  intro E o q v i e b x hG σ L d M P hS h1 hM hP hn hp hd _
  rw [hg] at hG
  obtain ⟨d, rfl⟩ : ∃ d', d = d' + 1 := ⟨d - 1, by omega⟩
  refine Tm_suc (fun k => by rw [hx]) ?_
  rcases gb_any hG with ⟨h2, rfl⟩ | ⟨s, h2, hk⟩
  · refine Tm_ob (H2 _ _ _ _ _ _ _ _ h2 σ _ d M P hS h1 hM hP (by omega) hp (by omega) trivial) (fun r hr => ?_)
    obtain ⟨⟨m1, hm, hmk, hMm⟩, ⟨e', he', he2, he3⟩, hF⟩ := hr
    refine Tm_mono (hb r.2 _ _ hm.1) (fun z hz => ?_)
    subst hz
    exact ⟨⟨m1, hm, by omega, hMm⟩, ⟨e', by show upd L 1 r.1 1 = _; rw [upd_same]; exact he', he2, he3⟩, hF⟩
  · have hv : v ≤ 60 := hS.2.2.2.1.2.2.2.1
    have hq := PS_q hS
    obtain ⟨x1, x2⟩ := g_mono T n f nt' E o q v 0 0 0 0 b s hq.1 hv h2 M hM h1 (hnd _ _)
    obtain ⟨a1, a2, a3, a4, a5, a6, a7, a8⟩ := hmo _ _ _ _ x1
    have x2 := hnd1 _ _ x2
    refine Tm_ob (H2 _ _ _ _ _ _ _ _ h2 σ _ d M P hS h1 hM hP (by omega) hp (by omega) trivial) (fun r hr => ?_)
    obtain ⟨hS', hr1, hF⟩ := hr
    refine Tm_mono (H1 _ _ _ _ _ _ _ _ hk r.2 _ (d + 1) M P hS' h1 (by omega) (by omega) (by omega) (by omega) (by omega) ⟨by rw [upd_same]; exact hr1, x2.1, x2.2⟩) (fun z hz => Po_tr hF (by omega) hz)
theorem e_0 (H2 : S2 T n f) (H1 : S1 T n f) : S0 T n (f + 1) :=
  head_of (g := fun _ _ _ _ => none) (fun _ _ _ _ _ _ _ _ _ => rfl) (fun _ _ _ _ => rfl) (fun _ _ _ h => b_exp1 h) (fun _ _ => trivial) (fun _ _ h => h) (fun _ _ _ _ h => h) H2 H1
theorem e_2 (H2 : S4 T n f) (H1 : S3 T n f) : S2 T n (f + 1) :=
  head_of (g := fun _ _ _ _ => none) (fun _ _ _ _ _ _ _ _ _ => rfl) (fun _ _ _ _ => rfl) (fun _ _ _ h => b_con1 h) (fun _ _ => trivial) (fun _ _ h => h) (fun _ _ _ _ h => h) H2 H1
theorem e_6 (H2 : S8 T n f) (H1 : S7 T n f) : S6 T n (f + 1) :=
  head_of (g := fun _ _ _ _ => none) (fun _ _ _ _ _ _ _ _ _ => rfl) (fun _ _ _ _ => rfl) (fun _ _ _ h => b_sum1 h) (fun _ _ => trivial) (fun _ _ h => h) (fun _ _ _ _ h => h) H2 H1
theorem e_8 (H2 : S10 T n f) (H1 : S9 T n f) : S8 T n (f + 1) :=
  head_of (g := fun _ _ _ _ => none) (fun _ _ _ _ _ _ _ _ _ => rfl) (fun _ _ _ _ => rfl) (fun _ _ _ h => b_ter1 h) (fun _ _ => trivial) (fun _ _ h => h) (fun _ _ _ _ h => h) H2 H1
/-- the loop's turn: a token is taken, an operand read, a node laid over both -/
theorem turn_of {nt nt' lv m m' : Nat} {E : En} {o q v e : Nat} {b : BT} {x : Option RT} {kd op : Int32} {σ : MS} {L N : Nat → Int32} {d M P : Nat}
    (hG : gT T n q (fun q1 => gb (G T n f nt' E o q1 v 0 0 0 0 b) (fun r => G T n f nt E o r.1 r.2.1 0 r.2.2.2.2.1.1 0 0 (bOver r.2.2.2.2.1 kd op e (nI r.2.2.2.1)))) = some x)
    (hb : ∀ (σ : MS) (d : Nat) (L : Nat → Int32), ¬ σ.1 10 = 0 → Tm (fun k => x_GE k d m 1 L σ) (fun r => r = (L 1, σ)))
    (hbm : ∀ (σ : MS) (d : Nat) (L : Nat → Int32), 10 ≤ d → ¬ σ.1 10 = 0 → Tm (fun k => x_GE k d m' 0 L σ) (fun r => r = (0, σ)))
    (hnd : ∀ (M : Nat) (b : BT), Nd0 nt' M b 0 0 0) (hnd1 : ∀ (M : Nat) (r : RT), Nd1 nt' M r → M ≤ r.2.2.2.1 ∧ r.2.2.2.1 < r.2.2.2.2.1.1) (hmo : ∀ (b : BT) (q v : Nat) (r : RT), MoN nt' n b q v r → Mo n b q v r)
    (H2 : SG T n f nt' lv m' 0 reT) (H1 : SG T n f nt (lv + 1) m 1 re1) (hK : ¬ tkK T n q = 25)
    (hS : PS T n E o q v b σ) (h1 : 1 ≤ M) (hM : M ≤ b.1) (hP : P ≤ b.2.1) (hn : b.1 + (n + 1 - q) + 3 * (d + 1 + 2) ≤ 70000) (hp : b.2.1 + (n - q) ≤ 70000) (hd : 12 * (21 - o) + (lv + 1) ≤ d + 1) (he : M ≤ e ∧ e < b.1) (Z : Nat → Int32) (A : (Nat → Int32) → Int32 → (Nat → Int32)) (hA : ∀ x, A N x 1 = x) (hL1 : L 1 = nI e) :
    Tm (fun k => ob (x_take k 0 Z σ) (fun r4 => ob (x_GE k d m' 0 (fun _ => 0) r4.2) (fun r5 => ob (x_over k 0 (upd (upd (upd (upd (fun _ => 0) 1 kd) 2 op) 3 (L 1)) 4 r5.1) r5.2) (fun r6 => x_GE k (d + 1) m 1 (A N r6.1) r6.2)))) (Po T n E o M P (b.1 + (n + 1 - q) + 3 * (d + 1 + 1)) σ x) := by
  have hq := PS_q hS
  have hu := tkN_b T n q hq.1
  have hu4 := hu.2.2.2 hK
  have ho : o ≤ 20 := hS.2.1.2
  have hv : v ≤ 60 := hS.2.2.2.1.2.2.2.1
  refine Tm_ob (p_take (M := M) (P := P) (w := E.2.2.2.1) hS _) (fun r4 hr4 => ?_)
  rcases gT_any hG with ⟨t0, rfl⟩ | ⟨t0, hG⟩
  · rcases hr4.2 with ⟨_, hB⟩ | ⟨z, _⟩
    · refine Tm_ob (hbm r4.2 d _ (by omega) hB.1) (fun r5 hr5 => ?_)
      subst hr5
      refine Tm_ob (b_over (M := M) (P := P) (w := E.2.2.2.1) hB (by omega) hM _ (l := e) (by rw [upd_other (by decide), upd_same]; exact hL1) (Or.inr he.1) (by omega)) (fun r6 hr6 => ?_)
      refine Tm_mono (hb r6.2 _ _ hr6.2.1.1) (fun z hz => ?_)
      subst hz
      exact ⟨⟨_, hr6.2.1, by omega, by omega⟩, ⟨b.1, by rw [hA]; exact hr6.1, by omega, Or.inr hM⟩, FrM_tr hr4.1 hr6.2.2⟩
    · exact absurd t0 z
  · rcases hr4.2 with ⟨z, _⟩ | ⟨_, hS4⟩
    · exact absurd z t0
    rcases gb_any hG with ⟨h2, rfl⟩ | ⟨s, h2, hk⟩
    · refine Tm_ob (H2 _ _ _ _ _ _ _ _ h2 r4.2 _ d M P hS4 h1 hM hP (by omega) (by omega) (by omega) trivial) (fun r5 hr5 => ?_)
      obtain ⟨⟨m1, hm, hmk, hMm⟩, ⟨e', he', he2, he3⟩, hF⟩ := hr5
      refine Tm_ob (b_over (M := M) (P := P) (w := E.2.2.2.1) hm (by omega) hMm _ (l := e) (by rw [upd_other (by decide), upd_same]; exact hL1) (Or.inr he.1) (by omega)) (fun r6 hr6 => ?_)
      refine Tm_mono (hb r6.2 _ _ hr6.2.1.1) (fun z hz => ?_)
      subst hz
      exact ⟨⟨_, hr6.2.1, by omega, by omega⟩, ⟨m1, by rw [hA]; exact hr6.1, by omega, Or.inr hMm⟩, FrM_tr hr4.1 (FrM_tr hF hr6.2.2)⟩
    · obtain ⟨x1, x2⟩ := g_mono T n f nt' E o _ v 0 0 0 0 b s hu.2.1 hv h2 M hM h1 (hnd _ _)
      obtain ⟨a1, a2, a3, a4, a5, a6, a7, a8⟩ := hmo _ _ _ _ x1
      have x2 := hnd1 _ _ x2
      refine Tm_ob (H2 _ _ _ _ _ _ _ _ h2 r4.2 _ d M P hS4 h1 hM hP (by omega) (by omega) (by omega) trivial) (fun r5 hr5 => ?_)
      obtain ⟨hS5, hr51, hF⟩ := hr5
      refine Tm_ob (p_over (M := M) (P := P) (w := E.2.2.2.1) hS5 (by omega) (by omega) _ (l := e) (by rw [upd_other (by decide), upd_same]; exact hL1) he.1 (by omega)) (fun r6 hr6 => ?_)
      obtain ⟨hr61, hS6, hF6⟩ := hr6
      have e4 : (upd (upd (upd (upd (fun _ => 0) 1 kd) 2 op) 3 (L 1)) 4 r5.1) 4 = nI s.2.2.2.1 := by rw [upd_same]; exact hr51
      have e1 : (upd (upd (upd (upd (fun _ => (0 : Int32)) 1 kd) 2 op) 3 (L 1)) 4 r5.1) 1 = kd := by rw [upd_other (by decide), upd_other (by decide), upd_other (by decide), upd_same]
      have e2 : (upd (upd (upd (upd (fun _ => (0 : Int32)) 1 kd) 2 op) 3 (L 1)) 4 r5.1) 2 = op := by rw [upd_other (by decide), upd_other (by decide), upd_same]
      rw [e4, e1, e2] at hS6
      refine Tm_mono (H1 _ _ _ _ _ _ _ _ hk r6.2 _ (d + 1) M P hS6 h1 (by rw [bOver_1]; omega) (by rw [bOver_p]; omega) (by rw [bOver_1]; omega) (by rw [bOver_p]; omega) (by omega) ⟨by rw [hA]; exact hr61, by omega, by rw [bOver_1]; omega⟩) (fun z hz => Po_tr (FrM_tr hr4.1 (FrM_tr hF hF6)) (by rw [bOver_1]; omega) hz)
theorem e_1 (H2 : S2 T n f) (H1 : S1 T n f) : S1 T n (f + 1) := by
  intro E o q v i e b x hG σ L d M P hS h1 hM hP hn hp hd hre
  obtain ⟨hL1, he⟩ := hre
  obtain ⟨d, rfl⟩ : ∃ d', d = d' + 1 := ⟨d - 1, by omega⟩
  rw [G_1] at hG
  refine Tm_suc (fun k => by rw [xE_3]) ?_
  refine Tm_ite (c := σ.1 10 = 0) (fun _ => ?_) (fun c => absurd (PS_ok hS) c)
  refine Tm_ob (p_word hS (s := 33) (by decide) rfl) (fun r2 hr2 => ?_)
  obtain ⟨u, τ⟩ := r2
  obtain ⟨rfl, hr2⟩ := hr2
  refine Tm_ite (fun c => ?_) (fun c => ?_)
  · have hK : ¬ tkK T n q = 65 := fun z => hr2.mpr z c
    rw [if_neg hK] at hG
    cases hG
    refine Tm_suc (fun k => by rw [xE_3]) ?_
    exact Tm_some ⟨hS, hL1, FrM_rf⟩
  · have hK : tkK T n q = 65 := hr2.mp c
    rw [if_pos hK] at hG
    exact turn_of (L := L) (N := L) (A := fun L x => upd L 1 x) hG (fun _ _ _ h => b_exp1 h) (fun σ d L h9 h => by obtain ⟨d', rfl⟩ : ∃ d', d = d' + 6 := ⟨d - 6, by omega⟩; exact b_con h) (fun _ _ => trivial) (fun _ _ h => h) (fun _ _ _ _ h => h) H2 H1 (by omega) hS h1 hM hP hn hp hd he _ (fun x => upd_same) hL1
theorem e_3 (H2 : S4 T n f) (H1 : S3 T n f) : S3 T n (f + 1) := by
  intro E o q v i e b x hG σ L d M P hS h1 hM hP hn hp hd hre
  obtain ⟨hL1, he⟩ := hre
  obtain ⟨d, rfl⟩ : ∃ d', d = d' + 1 := ⟨d - 1, by omega⟩
  rw [G_3] at hG
  refine Tm_suc (fun k => by rw [xE_2]) ?_
  refine Tm_ite (c := σ.1 10 = 0) (fun _ => ?_) (fun c => absurd (PS_ok hS) c)
  refine Tm_ob (p_word hS (s := 32) (by decide) rfl) (fun r2 hr2 => ?_)
  obtain ⟨u, τ⟩ := r2
  obtain ⟨rfl, hr2⟩ := hr2
  refine Tm_ite (fun c => ?_) (fun c => ?_)
  · have hK : ¬ tkK T n q = 64 := fun z => hr2.mpr z c
    rw [if_neg hK] at hG
    cases hG
    refine Tm_suc (fun k => by rw [xE_2]) ?_
    exact Tm_some ⟨hS, hL1, FrM_rf⟩
  · have hK : tkK T n q = 64 := hr2.mp c
    rw [if_pos hK] at hG
    exact turn_of (L := L) (N := L) (A := fun L x => upd L 1 x) hG (fun _ _ _ h => b_con1 h) (fun σ d L h9 h => by obtain ⟨d', rfl⟩ : ∃ d', d = d' + 5 := ⟨d - 5, by omega⟩; exact b_neg h) (fun _ _ => trivial) (fun _ _ h => h) (fun _ _ _ _ h => h) H2 H1 (by omega) hS h1 hM hP hn hp hd he _ (fun x => upd_same) hL1
end EXPS

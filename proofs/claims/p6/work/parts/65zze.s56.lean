/-! Simple statements. -/
/-- the exps of a print behind the first -/
def GPr (T : Nat → Int32) (n : Nat) (E : En) : Nat → Nat → Nat → Nat → Nat → BT → RG
  | 0, _, _, _, _, _ => none
  | f + 1, o, q, v, e, b => if tkK T n q = 12 then gT T n q (fun q1 => gb (G T n f 0 E o q1 v 0 0 0 0 b) (fun r => GPr T n E f o r.1 r.2.1 r.2.2.2.1 (bSet r.2.2.2.2.1 9 e (nI r.2.2.2.1)))) else some (some (q, v, 0, e, b, []))
def gS13 (T : Nat → Int32) (n q v e : Nat) (b : BT) : RG := gW T n 13 q (fun q2 => some (some (q2, v, 0, e, b, [])))
def gSm0 (T : Nat → Int32) (n f : Nat) (E : En) (o w q v : Nat) (b : BT) : RG :=
  if w = 19 then (if tkK T n q = 13 then gS13 T n q v b.1 (bNode b 51 (-1) 0 0) else gb (G T n f 0 E o q v 0 0 0 0 b) (fun r => gS13 T n r.1 r.2.1 r.2.2.2.2.1.1 (bNode r.2.2.2.2.1 51 (nI r.2.2.2.1) 0 0)))
  else if w = 20 then (if tkK T n q = 6 then gO o (gT T n q (fun q2 => gb (G T n f 0 E (o + 1) q2 v 0 0 0 0 b) (fun r => gb (GPr T n E f (o + 1) r.1 r.2.1 r.2.2.2.1 r.2.2.2.2.1) (fun s => gW T n 7 s.1 (fun q3 => gS13 T n q3 s.2.1 s.2.2.2.2.1.1 (bNode s.2.2.2.2.1 52 (nI r.2.2.2.1) 0 0)))))) else some none)
  else if w = 21 then gb (G T n f 0 E o q v 0 0 0 0 b) (fun r => gS13 T n r.1 r.2.1 r.2.2.2.2.1.1 (bNode r.2.2.2.2.1 53 (nI r.2.2.2.1) 0 0))
  else gS13 T n q v b.1 (bNode b (nI (w + 32)) 0 0 0)
def gSm (T : Nat → Int32) (n f lp : Nat) (E : En) (o q v : Nat) (b : BT) : RG :=
  if ((tkK T n q = 49 ∨ tkK T n q = 50) ∧ lp = 0) ∨ (tkK T n q = 51 ∧ (E.2.2.2.1 = 0 ∨ 41 < E.2.2.2.1)) then some none else gT T n q (fun q1 => gSm0 T n f E o (tkK T n q - 32) q1 v b)
section SIM
variable {T : Nat → Int32} {n : Nat} {E : En} {o M P : Nat}
theorem gpr_mo : ∀ (f : Nat) (o q v e : Nat) (b : BT) (r : RT) (M : Nat), q ≤ n → v ≤ 60 → GPr T n E f o q v e b = some (some r) → M ≤ b.1 → 1 ≤ M → M ≤ e → e < b.1 → Mo n b q v r ∧ (M ≤ r.2.2.2.1 ∧ r.2.2.2.1 < r.2.2.2.2.1.1)
  | 0, o, q, v, e, b, r, M, _, _, hG, _, _, _, _ => by simp only [GPr] at hG; cases hG
  | f + 1, o, q, v, e, b, r, M, hq, hv, hG, hM, h1, e1, e2 => by
    simp only [GPr] at hG
    by_cases k12 : tkK T n q = 12
    · rw [if_pos k12] at hG
      obtain ⟨_, hG⟩ := gT_s hG
      have hu := tkN_b T n q hq
      obtain ⟨s, h7, hG⟩ := gb_s hG
      obtain ⟨⟨a1, a2, a3, a4, a5, a6, a7, a8⟩, a9⟩ := mo_of (M := M) hu.2.1 hv h7 hM h1 trivial (fun h => h) (fun h => h)
      obtain ⟨⟨b1, b2, b3, b4, b5, b6, b7, b8⟩, b9⟩ := gpr_mo f _ _ _ _ _ r M a2 (by omega) hG (by rw [bSet_1]; omega) h1 a9.1 (by rw [bSet_1]; exact a9.2)
      rw [bSet_1] at b5 b6
      rw [bSet_p] at b7 b8
      exact ⟨by unfold Mo; omega, b9⟩
    · rw [if_neg k12] at hG; cases hG
      exact ⟨by unfold Mo; dsimp only; omega, e1, e2⟩
theorem gpr_tot : ∀ (f o q v e : Nat) (b : BT), q ≤ n → v ≤ 60 → 1 ≤ b.1 → 30 * (n - q) + 23 ≤ f → ∃ y, GPr T n E f o q v e b = some y
  | 0, o, q, v, e, b, _, _, _, hf => absurd hf (by omega)
  | f + 1, o, q, v, e, b, hq, hv, hb, hf => by
    simp only [GPr]
    by_cases k12 : tkK T n q = 12
    · rw [if_pos k12]
      have hu := tkN_b T n q hq
      have hu4 := hu.2.2.2 (by rw [k12]; decide)
      refine gT_t ?_
      refine gb_t (g_tot T n f 0 E o _ v 0 0 0 0 b (by decide) hu.2.1 hv hb trivial (by simp only [lvG]; omega)) (fun s h7 => ?_)
      obtain ⟨⟨a1, a2, a3, a4, a5, a6, a7, a8⟩, a9⟩ := mo_of (M := b.1) hu.2.1 hv h7 (Nat.le_refl _) hb trivial (fun h => h) (fun h => h)
      exact gpr_tot f _ _ _ _ _ a2 (by omega) (by rw [bSet_1]; omega) (by omega)
    · rw [if_neg k12]; exact ⟨_, rfl⟩
theorem print_loop : ∀ (f : Nat) (q v e : Nat) (b : BT) (y : Option RT), GPr T n E f o q v e b = some y → ∀ (σ : MS) (N : Nat → Int32) (Q : Int32 × MS → Prop), PS T n E o q v b σ → 1 ≤ M → M ≤ b.1 → P ≤ b.2.1 → b.1 + (n + 1 - q) + 967 ≤ 70000 → b.2.1 + (n - q) ≤ 70000 → N 4 = nI e → M ≤ e → e < b.1 →
    (∀ (ρ : MS) (N' : Nat → Int32), N' 3 = N 3 → FrM M P E.2.2.2.1 σ ρ → (match y with
      | none => ∃ m, Bb m ρ ∧ M ≤ m ∧ m ≤ b.1 + (n + 1 - q) + 963
      | some s => PS T n E o s.1 s.2.1 s.2.2.2.2.1 ρ) → Tm (fun k => x_simple k 18 N' ρ) Q) → Tm (fun k => x_simple k 16 N σ) Q
  | 0 => fun q v e b y hG => by simp only [GPr] at hG; cases hG
  | f + 1 => fun q v e b y hG σ N Q hS h1 hM hP hn hp hN4 e1 e2 hout => by
    simp only [GPr] at hG
    have hq := PS_q hS
    have hv := PS_v hS
    have hu := tkN_b T n q hq.1
    have ih := print_loop f
    refine Tm_suc (fun k => by rw [x_simple]) ?_
    refine Tm_ite (fun _ => ?_) (fun z => absurd (PS_ok hS) z)
    refine Tm_ob (p_sign hS (s := 12) (by decide) (by decide) rfl) (fun r3 hr3 => ?_)
    obtain ⟨u, τ⟩ := r3
    obtain ⟨h3, hr3⟩ := hr3
    have h3 : τ = σ := h3
    subst h3
    refine Tm_ite (fun z => ?_) (fun z => ?_)
    · rw [if_neg (fun y => hr3.mpr y z)] at hG
      cases hG
      exact hout τ N rfl FrM_rf hS
    have hK := hr3.mp z
    rw [if_pos hK] at hG
    have hu4 := hu.2.2.2 (by rw [hK]; decide)
    have bout : ∀ (ρ : MS) (m : Nat) (x : Int32), y = none → Bb m ρ → M ≤ m → m ≤ b.1 + (n + 1 - q) + 963 → FrM M P E.2.2.2.1 τ ρ → Tm (fun k => x_simple k 17 (upd N 5 x) (mSet ρ 9 e x)) Q := fun ρ m x hy hB hMm hm hF => by
      subst hy
      refine Tm_suc (fun k => by rw [x_simple]) ?_
      refine Tm_suc (fun k => by rw [x_simple]) ?_
      refine Tm_ite (fun z => absurd z hB.1) (fun _ => ?_)
      exact hout (mSet ρ 9 e x) _ (by rw [upd_other (by decide), upd_other (by decide)]) (FrM_tr hF (FrM_set (by decide) (by decide) (Or.inr e1) _)) ⟨m, Bb_set hB, hMm, hm⟩
    refine Tm_ob (p_take (M := M) (P := P) (w := E.2.2.2.1) hS _) (fun r4 hr4 => ?_)
    rcases gT_any hG with ⟨t4, hy⟩ | ⟨t4, hG⟩
    · rcases hr4.2 with ⟨_, hB⟩ | ⟨z, _⟩
      · refine Tm_ob (b_xexp hB.1 _) (fun r7 hr7 => ?_)
        subst hr7
        rw [hN4]
        refine Tm_chk (n_in (by omega) (by omega)) ?_
        rw [n_cl (p := e) (by omega)]
        exact bout r4.2 b.1 0 hy hB hM (by omega) hr4.1
      · exact absurd t4 z
    rcases hr4.2 with ⟨z, _⟩ | ⟨_, hS4⟩
    · exact absurd z t4
    rcases gb_any hG with ⟨h7, hy⟩ | ⟨s, h7, hG⟩
    · refine Tm_ob (p_exp (M := M) (P := P) h7 hS4 h1 hM hP (by omega) (by omega)) (fun r7 hr7 => ?_)
      obtain ⟨⟨m1, hm, hmk, hMm⟩, _, hF7⟩ := hr7
      rw [hN4]
      refine Tm_chk (n_in (by omega) (by omega)) ?_
      rw [n_cl (p := e) (by omega)]
      exact bout r7.2 m1 _ hy hm hMm (by omega) (FrM_tr hr4.1 hF7)
    obtain ⟨⟨a1, a2, a3, a4, a5, a6, a7, a8⟩, a9⟩ := mo_of (M := M) hu.2.1 hv h7 hM h1 trivial (fun h => h) (fun h => h)
    refine Tm_ob (p_exp (M := M) (P := P) h7 hS4 h1 hM hP (by omega) (by omega)) (fun r7 hr7 => ?_)
    obtain ⟨hS7, hr71, hF7⟩ := hr7
    rw [hN4]
    refine Tm_chk (n_in (by omega) (by omega)) ?_
    rw [n_cl (p := e) (by omega)]
    rw [hr71]
    refine Tm_suc (fun k => by rw [x_simple]) ?_
    have hF8 : FrM M P E.2.2.2.1 τ (mSet r7.2 9 e (nI s.2.2.2.1)) := FrM_tr hr4.1 (FrM_tr hF7 (FrM_set (by decide) (by decide) (Or.inr e1) _))
    refine ih _ _ _ _ _ hG (mSet r7.2 9 e (nI s.2.2.2.1)) _ Q (PS_set hS7 (by decide) (by decide) _) h1 (by rw [bSet_1]; omega) (by rw [bSet_p]; omega) (by rw [bSet_1]; omega) (by rw [bSet_p]; omega) (by rw [upd_same, upd_same]) a9.1 (by rw [bSet_1]; exact a9.2) ?_
    intro ρ N' k3 hF hm
    refine hout ρ N' (by rw [k3, upd_other (by decide), upd_other (by decide)]) (FrM_tr hF8 hF) ?_
    cases y with
    | none =>
      obtain ⟨m, j1, j2, j3⟩ := hm
      rw [bSet_1] at j3
      exact ⟨m, j1, j2, by omega⟩
    | some s => exact hm
end SIM

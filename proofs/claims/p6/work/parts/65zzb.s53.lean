/-! Targets and calls of procs. -/
section TGT
variable {T : Nat → Int32} {n : Nat}
theorem p_isTarget {E : En} {o q v : Nat} {b : BT} {σ : MS} (h : PS T n E o q v b σ) (hb : b.1 ≤ 70000) {e : Nat} {x : Int32} (hc : Ch b e x) {L : Nat → Int32} (hL : L 1 = nI e) : Tm (fun k => x_isTarget k 0 L σ) (fun r => r.2 = σ ∧ (¬ r.1 = 0 ↔ x = 7)) := by
  have e4 := h.2.2.1.2.2.2.1
  obtain ⟨k, hc⟩ := hc
  have loop : ∀ (k e : Nat) (N : Nat → Int32), ChB b.1 (b.2.2.1 4) (b.2.2.1 6) k e x → N 2 = nI e → Tm (fun k => x_isTarget k 1 N σ) (fun r => r.2 = σ ∧ (¬ r.1 = 0 ↔ x = 7)) := by
    intro k
    induction k with
    | zero => intro e N hc; exact absurd hc (fun z => z)
    | succ k ih =>
      intro e N hc hN
      obtain ⟨h1, h2, h3⟩ := hc
      have t4 := e4 4 (by decide) (by decide) e h2 h1
      have t6 := e4 6 (by decide) (by decide) e h2 h1
      have hi : ¬ (nI e < 0 ∨ 70000 ≤ (nI e).toNatClampNeg) := n_in (by omega) (by omega)
      have hcl : (nI e).toNatClampNeg = e := n_cl (by omega)
      have two : isPt (b.2.2.1 4 e) → Tm (fun k => x_isTarget k 2 N σ) (fun r => r.2 = σ ∧ (¬ r.1 = 0 ↔ x = 7)) := fun hp => by
        rcases h3 with ⟨_, l, l1, l2⟩ | h3
        · refine Tm_suc (fun k => by rw [x_isTarget]) ?_
          rw [hN]
          refine Tm_chk hi ?_
          rw [hcl, t6, l1]
          exact ih l _ l2 upd_same
        · exact absurd hp h3.1
      refine Tm_suc (fun k => by rw [x_isTarget]) ?_
      rw [hN]
      refine Tm_chk hi ?_
      rw [hcl, t4]
      refine Tm_ite (fun c => two (Or.inl c)) (fun c1 => ?_)
      refine Tm_chk (by rw [← hcl] at hi; rw [hcl] at hi; exact fun z => n_in (p := e) (n := 70000) (by omega) (by omega) (by rw [hcl]; exact z)) ?_
      refine Tm_ite (fun c => two (Or.inr (Or.inl c))) (fun c2 => ?_)
      refine Tm_chk (fun z => n_in (p := e) (n := 70000) (by omega) (by omega) (by rw [hcl]; exact z)) ?_
      refine Tm_ite (fun c => two (Or.inr (Or.inr c))) (fun c3 => ?_)
      have hx : b.2.2.1 4 e = x := by
        rcases h3 with ⟨hp, _⟩ | h3
        · rcases hp with z | z | z
          · exact absurd z c1
          · exact absurd z c2
          · exact absurd z c3
        · exact h3.2
      refine Tm_suc (fun k => by rw [x_isTarget]) ?_
      rw [hN]
      refine Tm_chk hi ?_
      rw [hcl, t4, hx]
      refine Tm_ite (fun c => ?_) (fun c => ?_)
      · refine Tm_suc (fun k => by rw [x_isTarget]) ?_
        refine Tm_chk (by rw [upd_same]; exact Or.inr rfl) ?_
        exact Tm_some ⟨rfl, ⟨fun _ => c, fun _ => by show ¬ upd N 100 1 100 = 0; rw [upd_same]; decide⟩⟩
      · refine Tm_suc (fun k => by rw [x_isTarget]) ?_
        refine Tm_suc (fun k => by rw [x_isTarget]) ?_
        refine Tm_chk (by rw [upd_same]; exact Or.inl rfl) ?_
        exact Tm_some ⟨rfl, ⟨fun z => absurd (show upd N 100 0 100 = 0 from upd_same) z, fun z => absurd z c⟩⟩
  refine Tm_suc (fun k => by rw [x_isTarget]) ?_
  exact loop k e _ hc (by rw [upd_same]; exact hL)
/-- NAME { part } -/
def gTg (T : Nat → Int32) (n f : Nat) (E : En) (o q v : Nat) (b : BT) : RG := if tkK T n q = 26 then gT T n q (fun q1 => if (fd E (tkS T n q)).1 = 1 then G T n f 12 E o q1 v 1 b.1 0 0 (bNode b 7 (fd E (tkS T n q)).2.2 (nI (fd E (tkS T n q)).2.1) 0) else some none) else some none
theorem gTg_tot (E : En) (o q v : Nat) (b : BT) (hq : q ≤ n) (hv : v ≤ 60) (hb : 1 ≤ b.1) {f : Nat} (hf : 30 * (n - q) ≤ f) : ∃ x, gTg T n f E o q v b = some x := by
  unfold gTg
  by_cases c : tkK T n q = 26
  · rw [if_pos c]
    have hu := tkN_b T n q hq
    have hu4 := hu.2.2.2 (by rw [c]; decide)
    refine gT_t ?_
    by_cases c2 : (fd E (tkS T n q)).1 = 1
    · rw [if_pos c2]
      exact g_tot T n f 12 E o _ v 1 b.1 0 0 _ (by decide) hu.2.1 hv (by rw [bNode_1]; omega) (⟨hb, by rw [bNode_1]; omega⟩ : 1 ≤ _ ∧ _ < _) (by simp only [lvG]; omega)
    · rw [if_neg c2]; exact ⟨none, rfl⟩
  · rw [if_neg c]; exact ⟨none, rfl⟩
theorem gTg_mo {f : Nat} {E : En} {o q v M : Nat} {b : BT} {s : RT} (hq : q ≤ n) (hv : v ≤ 60) (hM : M ≤ b.1) (h1 : 1 ≤ M) (hG : gTg T n f E o q v b = some (some s)) : Mo n b q v s ∧ (M ≤ s.2.2.2.1 ∧ s.2.2.2.1 < s.2.2.2.2.1.1) ∧ q < s.1 ∧ Inf s.2.2.2.2.1 s.2.2.2.1 s.2.2.1 := by
  unfold gTg at hG
  by_cases c : tkK T n q = 26
  · rw [if_pos c] at hG
    obtain ⟨_, hG⟩ := gT_s hG
    have hu := tkN_b T n q hq
    have hu4 := hu.2.2.2 (by rw [c]; decide)
    try dsimp only at hG
    by_cases c2 : (fd E (tkS T n q)).1 = 1
    · rw [if_pos c2] at hG
      obtain ⟨x1, x2⟩ := g_mono T n f 12 _ _ _ _ _ _ _ _ _ s hu.2.1 hv hG M (by rw [bNode_1]; omega) h1 (⟨hM, by rw [bNode_1]; omega⟩ : M ≤ _ ∧ _ < _)
      obtain ⟨a1, a2, a3, a4, a5, a6, a7, a8⟩ := (x1 : Mo n _ _ _ s)
      rw [bNode_1] at a5 a6
      rw [bNode_p] at a7 a8
      have hi := g_info T n f 12 _ _ _ _ _ _ _ _ _ s (by decide) hu.2.1 hv (by rw [bNode_1]; omega) hG (⟨by omega, by rw [bNode_1]; omega⟩ : 1 ≤ _ ∧ _ < _) (fun _ => inf_var (by omega))
      exact ⟨by unfold Mo; omega, x2, by omega, hi⟩
    · rw [if_neg c2] at hG; cases hG
  · rw [if_neg c] at hG; cases hG
theorem p_target {f : Nat} {E : En} {o q v M P : Nat} {b : BT} {x : Option RT} {σ : MS} {L : Nat → Int32} (hG : gTg T n f E o q v b = some x) (hS : PS T n E o q v b σ) (h1 : 1 ≤ M) (hM : M ≤ b.1) (hP : P ≤ b.2.1) (hn : b.1 + (n + 1 - q) + 966 ≤ 70000) (hp : b.2.1 + (n - q) ≤ 70000) : Tm (fun k => x_target k 0 L σ) (Po T n E o M P (b.1 + (n + 1 - q) + 963) σ x) := by
  have hq := PS_q hS
  have hv := PS_v hS
  have ho := PS_o hS
  have hu := tkN_b T n q hq.1
  unfold gTg at hG
  have b2 : ∀ (ρ : MS) (N : Nat → Int32), Bb b.1 ρ → FrM M P E.2.2.2.1 σ ρ → Tm (fun k => x_target k 2 N ρ) (Po T n E o M P (b.1 + (n + 1 - q) + 963) σ none) := fun ρ N hB hF => by
    refine Tm_suc (fun k => by rw [x_target]) ?_
    refine Tm_ite (fun z => absurd z hB.1) (fun _ => ?_)
    refine Tm_suc (fun k => by rw [x_target]) ?_
    exact Tm_some ⟨⟨_, hB, by omega, hM⟩, ⟨0, (show upd N 100 0 100 = nI 0 from upd_same), by decide, Or.inl rfl⟩, hF⟩
  refine Tm_suc (fun k => by rw [x_target]) ?_
  refine Tm_ob (p_wantName (M := M) (P := P) (w := E.2.2.2.1) hS _) (fun r0 hr0 => ?_)
  by_cases hK : tkK T n q = 26
  · rw [if_pos hK] at hG
    have hu4 := hu.2.2.2 (by rw [hK]; decide)
    rcases hr0.2 with ⟨z, _⟩ | ⟨_, hr⟩
    · exact absurd hK z
    obtain ⟨u, τ⟩ := r0
    have hr : τ = σ := hr
    subst hr
    refine Tm_ite (fun _ => ?_) (fun z => absurd (PS_ok hS) z)
    refine Tm_suc (fun k => by rw [x_target]) ?_
    refine Tm_ob (p_find (M := M) (P := P) (w := E.2.2.2.1) hS (by omega) _) (fun r1 hr1 => ?_)
    obtain ⟨hS1, hF1, hsame, h46, hF3, h47, hcal⟩ := hr1
    have hloc := fd_loc E (tkS T n q)
    refine Tm_ob (p_take (M := M) (P := P) (w := E.2.2.2.1) hS1 _) (fun r2 hr2 => ?_)
    have hF2 := FrM_tr hF1 hr2.1
    have n3 : upd (upd (upd (upd L 1 (τ.1 8)) 2 (r1.2.1 46)) 3 (r1.2.1 47)) 4 (r1.2.1 48) 3 = r1.2.1 47 := by rw [upd_other (by decide), upd_same]
    have n4 : upd (upd (upd (upd L 1 (τ.1 8)) 2 (r1.2.1 46)) 3 (r1.2.1 47)) 4 (r1.2.1 48) 4 = r1.2.1 48 := upd_same
    generalize upd (upd (upd (upd L 1 (τ.1 8)) 2 (r1.2.1 46)) 3 (r1.2.1 47)) 4 (r1.2.1 48) = N at n3 n4
    rcases gT_any hG with ⟨t0, rfl⟩ | ⟨t0, hG⟩
    · rcases hr2.2 with ⟨_, hB⟩ | ⟨z, _⟩
      · exact Tm_ite (fun z => absurd z hB.1) (fun _ => b2 r2.2 N hB hF2)
      · exact absurd t0 z
    rcases hr2.2 with ⟨z, _⟩ | ⟨_, hS2⟩
    · exact absurd z t0
    refine Tm_ite (fun _ => ?_) (fun z => absurd (PS_ok hS2) z)
    rw [h46]
    generalize hFd : fd E (tkS T n q) = F at hG h46 hF3 h47 hcal hloc
    refine Tm_ite (c := nI F.1 = 1) (fun z => ?_) (fun z => ?_)
    · have z : nI F.1 = nI 1 := z
      rw [n_eq (by omega) (by omega)] at z
      rw [if_pos z] at hG
      obtain ⟨h47, h48, hF60⟩ := h47 (by omega)
      refine Tm_suc (fun k => by rw [x_target]) ?_
      refine Tm_ite (fun _ => ?_) (fun z => absurd (PS_ok hS2) z)
      have five : ∀ N' : Nat → Int32, N' 101 = 7 → N' 100 = F.2.2 → N' 3 = nI F.2.1 → Tm (fun k => x_target k 5 N' r2.2) (Po T n E o M P (b.1 + (n + 1 - q) + 963) τ x) := fun N' j1 j2 j3 => by
        refine Tm_suc (fun k => by rw [x_target]) ?_
        refine Tm_ob (p_node (M := M) (P := P) (w := E.2.2.2.1) hS2 (by omega) hM _) (fun r8 hr8 => ?_)
        obtain ⟨hr81, hS8, hF8⟩ := hr8
        have w1 : (upd (upd (upd (upd (fun _ => (0 : Int32)) 1 (N' 101)) 2 (N' 100)) 3 (N' 3)) 4 0) 1 = 7 := by rw [upd_other (by decide), upd_other (by decide), upd_other (by decide), upd_same]; exact j1
        have w2 : (upd (upd (upd (upd (fun _ => (0 : Int32)) 1 (N' 101)) 2 (N' 100)) 3 (N' 3)) 4 0) 2 = F.2.2 := by rw [upd_other (by decide), upd_other (by decide), upd_same]; exact j2
        have w3 : (upd (upd (upd (upd (fun _ => (0 : Int32)) 1 (N' 101)) 2 (N' 100)) 3 (N' 3)) 4 0) 3 = nI F.2.1 := by rw [upd_other (by decide), upd_same]; exact j3
        rw [w1, w2, w3] at hS8
        have h12 := (all_S (T := T) (n := n) f f (Nat.le_refl _)).2.2.2.2.2.2.2.2.2.2.2.2.1
        refine Tm_ob (P := Po T n E o M P (b.1 + (n + 1 - q) + 963) τ x) (par0 (Tm_mono (h12 _ _ _ _ _ _ _ _ hG r8.2 _ 320 M P hS8 h1 (by rw [bNode_1]; omega) (by rw [bNode_p]; omega) (by rw [bNode_1]; omega) (by rw [bNode_p]; omega) (by omega) ⟨by rw [upd_same, upd_same]; exact hr81, hM, by rw [bNode_1]; omega⟩) (fun r hr => Po_tr (FrM_tr hF2 hF8) (by rw [bNode_1]; omega) hr))) (fun r9 hr9 => ?_)
        refine Tm_suc (fun k => by rw [x_target]) ?_
        refine Tm_some ?_
        rw [upd_same]
        exact hr9
      refine Tm_suc (fun k => by rw [x_target]) ?_
      refine Tm_ite (fun y => ?_) (fun y => ?_)
      · rw [n4, h48] at y
        refine Tm_suc (fun k => by rw [x_target]) ?_
        refine five _ (by rw [upd_same, upd_same]) (by rw [upd_other (by decide), upd_same, y]) ?_
        rw [upd_other (by decide), upd_other (by decide), upd_other (by decide), n3]; exact h47
      · rw [n4, h48] at y
        have y1 : F.2.2 = 1 := hloc.resolve_left y
        refine five _ upd_same (by rw [upd_other (by decide), upd_same, y1]) ?_
        rw [upd_other (by decide), upd_other (by decide), n3]; exact h47
    · have z : ¬ nI F.1 = nI 1 := z
      rw [n_eq (by omega) (by omega)] at z
      rw [if_neg z] at hG
      have hx : x = none := (Option.some.inj hG).symm
      subst hx
      refine Tm_ob (p_fault (M := M) (P := P) (w := E.2.2.2.1) hS2 _) (fun r5 hr5 => ?_)
      exact b2 r5.2 N hr5.1 (FrM_tr hF2 hr5.2)
  · rw [if_neg hK] at hG
    have hx : x = none := (Option.some.inj hG).symm
    subst hx
    rcases hr0.2 with ⟨_, hB⟩ | ⟨z, _⟩
    · refine Tm_ite (fun z => absurd z hB.1) (fun _ => ?_)
      exact Tm_some ⟨⟨_, hB, by omega, hM⟩, ⟨0, rfl, by decide, Or.inl rfl⟩, hr0.1⟩
    · exact absurd z hK
theorem b_target {σ : MS} (h : ¬ σ.1 10 = 0) (L : Nat → Int32) : Tm (fun k => x_target k 0 L σ) (fun r => r = (0, σ)) := by
  refine Tm_suc (fun k => by rw [x_target]) ?_
  refine Tm_ob (b_wantName h _) (fun r hr => ?_)
  obtain ⟨u, τ⟩ := r
  have hr : τ = σ := hr
  subst hr
  exact Tm_ite (fun c => absurd c h) (fun _ => Tm_some rfl)
theorem b_xexp {σ : MS} (h : ¬ σ.1 10 = 0) (L : Nat → Int32) : Tm (fun k => x_exp k 0 L σ) (fun r => r = (0, σ)) := b_exp (d := 313) h
end TGT

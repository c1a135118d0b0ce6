/-! Calls of procs. -/
/-- the exps of a call: for wr and rw they must be targets -/
def GA (T : Nat → Int32) (n : Nat) (md : Nat → Nat) (np : Nat) (E : En) : Nat → Nat → Nat → Nat → Nat → Nat → Nat → BT → RG
  | 0, _, _, _, _, _, _, _ => none
  | f + 1, o, q, v, i, e, c, b => if c = 0 then (if tkK T n q = 7 then some (some (q, v, 0, 0, b, [])) else gb (G T n f 0 E o q v 0 0 0 0 b) (fun r => if 0 < np ∧ 0 < md 0 ∧ r.2.2.1 = 0 then some none else GA T n md np E f o r.1 r.2.1 r.2.2.2.1 r.2.2.2.1 1 r.2.2.2.2.1))
    else if tkK T n q = 12 then gT T n q (fun q1 => gb (G T n f 0 E o q1 v 0 0 0 0 b) (fun r => if c < np ∧ 0 < md c ∧ r.2.2.1 = 0 then some none else GA T n md np E f o r.1 r.2.1 i r.2.2.2.1 (c + 1) (bSet r.2.2.2.2.1 9 e (nI r.2.2.2.1))))
    else some (some (q, v, c, i, b, []))
def gCl (T : Nat → Int32) (n f : Nat) (md : Nat → Nat) (np p : Nat) (tg : Int32) (E : En) (o q v : Nat) (b : BT) : RG := gT T n q (fun q1 => if tkK T n q1 = 6 then gO o (gT T n q1 (fun q2 => gb (GA T n md np E f (o + 1) q2 v 0 0 0 b) (fun r => if tkK T n r.1 = 7 ∧ r.2.2.1 = np then gT T n r.1 (fun q3 => gW T n 13 q3 (fun q4 => some (some (q4, r.2.1, 0, r.2.2.2.2.1.1, bNode r.2.2.2.2.1 45 tg (hd r.2.2.2.1) (nI p), [])))) else some none))) else some none)
section CALL
variable {T : Nat → Int32} {n : Nat} {md : Nat → Nat} {np : Nat} {E : En}
theorem ga_mo : ∀ (f : Nat) (o q v i e c : Nat) (b : BT) (r : RT) (M : Nat), q ≤ n → v ≤ 60 → GA T n md np E f o q v i e c b = some (some r) → M ≤ b.1 → 1 ≤ M → c ≤ q → (c = 0 ∨ (M ≤ i ∧ i < b.1 ∧ M ≤ e ∧ e < b.1)) → Mo n b q v r ∧ ((r.2.2.1 = 0 ∧ r.2.2.2.1 = 0) ∨ (M ≤ r.2.2.2.1 ∧ r.2.2.2.1 < r.2.2.2.2.1.1)) ∧ r.2.2.1 ≤ r.1
  | 0, o, q, v, i, e, c, b, r, M, _, _, hG, _, _, _, _ => by simp only [GA] at hG; cases hG
  | f + 1, o, q, v, i, e, c, b, r, M, hq, hv, hG, hM, h1, hcq, hN => by
    simp only [GA] at hG
    by_cases c0 : c = 0
    · rw [if_pos c0] at hG
      by_cases k7 : tkK T n q = 7
      · rw [if_pos k7] at hG; cases hG
        exact ⟨by unfold Mo; dsimp only; omega, Or.inl ⟨rfl, rfl⟩, Nat.zero_le _⟩
      rw [if_neg k7] at hG
      obtain ⟨s, h7, hG⟩ := gb_s hG
      obtain ⟨⟨a1, a2, a3, a4, a5, a6, a7, a8⟩, a9⟩ := mo_of (M := M) hq hv h7 hM h1 trivial (fun h => h) (fun h => h)
      have a9' := (mo_of (M := b.1) hq hv h7 (Nat.le_refl _) (by omega) trivial (fun h => h) (fun h => h)).2
      try dsimp only at hG
      by_cases c1 : 0 < np ∧ 0 < md 0 ∧ s.2.2.1 = 0
      · rw [if_pos c1] at hG; cases hG
      rw [if_neg c1] at hG
      obtain ⟨⟨b1, b2, b3, b4, b5, b6, b7, b8⟩, b9, b10⟩ := ga_mo f _ _ _ _ _ _ _ r M a2 (by omega) hG (by omega) h1 (by omega) (Or.inr ⟨a9.1, a9.2, a9.1, a9.2⟩)
      exact ⟨by unfold Mo; omega, b9, b10⟩
    · rw [if_neg c0] at hG
      by_cases k12 : tkK T n q = 12
      · rw [if_pos k12] at hG
        obtain ⟨_, hG⟩ := gT_s hG
        have hu := tkN_b T n q hq
        obtain ⟨s, h7, hG⟩ := gb_s hG
        obtain ⟨⟨a1, a2, a3, a4, a5, a6, a7, a8⟩, a9⟩ := mo_of (M := M) hu.2.1 hv h7 hM h1 trivial (fun h => h) (fun h => h)
        have a9' := (mo_of (M := b.1) hu.2.1 hv h7 (Nat.le_refl _) (by omega) trivial (fun h => h) (fun h => h)).2
        try dsimp only at hG
        by_cases c1 : c < np ∧ 0 < md c ∧ s.2.2.1 = 0
        · rw [if_pos c1] at hG; cases hG
        rw [if_neg c1] at hG
        obtain ⟨⟨b1, b2, b3, b4, b5, b6, b7, b8⟩, b9, b10⟩ := ga_mo f _ _ _ _ _ _ _ r M a2 (by omega) hG (by rw [bSet_1]; omega) h1 (by omega) (Or.inr ⟨by omega, by rw [bSet_1]; omega, a9.1, by rw [bSet_1]; exact a9.2⟩)
        rw [bSet_1] at b5 b6
        rw [bSet_p] at b7 b8
        exact ⟨by unfold Mo; omega, b9, b10⟩
      · rw [if_neg k12] at hG; cases hG
        refine ⟨by unfold Mo; dsimp only; omega, Or.inr (by dsimp only; omega), hcq⟩
theorem ga_tot : ∀ (f o q v i e c : Nat) (b : BT), q ≤ n → v ≤ 60 → 1 ≤ b.1 → 30 * (n - q) + 23 ≤ f → ∃ y, GA T n md np E f o q v i e c b = some y
  | 0, o, q, v, i, e, c, b, _, _, _, hf => absurd hf (by omega)
  | f + 1, o, q, v, i, e, c, b, hq, hv, hb, hf => by
    simp only [GA]
    by_cases c0 : c = 0
    · rw [if_pos c0]
      by_cases k7 : tkK T n q = 7
      · rw [if_pos k7]; exact ⟨_, rfl⟩
      rw [if_neg k7]
      refine gb_t (g_tot T n f 0 E o q v 0 0 0 0 b (by decide) hq hv hb trivial (by simp only [lvG]; omega)) (fun s h7 => ?_)
      obtain ⟨⟨a1, a2, a3, a4, a5, a6, a7, a8⟩, a9⟩ := mo_of (M := b.1) hq hv h7 (Nat.le_refl _) hb trivial (fun h => h) (fun h => h)
      by_cases c1 : 0 < np ∧ 0 < md 0 ∧ s.2.2.1 = 0
      · rw [if_pos c1]; exact ⟨_, rfl⟩
      · rw [if_neg c1]; exact ga_tot f _ _ _ _ _ _ _ a2 (by omega) (by omega) (by omega)
    · rw [if_neg c0]
      by_cases k12 : tkK T n q = 12
      · rw [if_pos k12]
        have hu := tkN_b T n q hq
        have hu4 := hu.2.2.2 (by rw [k12]; decide)
        refine gT_t ?_
        refine gb_t (g_tot T n f 0 E o _ v 0 0 0 0 b (by decide) hu.2.1 hv hb trivial (by simp only [lvG]; omega)) (fun s h7 => ?_)
        obtain ⟨⟨a1, a2, a3, a4, a5, a6, a7, a8⟩, a9⟩ := mo_of (M := b.1) hu.2.1 hv h7 (Nat.le_refl _) hb trivial (fun h => h) (fun h => h)
        by_cases c1 : c < np ∧ 0 < md c ∧ s.2.2.1 = 0
        · rw [if_pos c1]; exact ⟨_, rfl⟩
        · rw [if_neg c1]; exact ga_tot f _ _ _ _ _ _ _ a2 (by omega) (by rw [bSet_1]; omega) (by omega)
      · rw [if_neg k12]; exact ⟨_, rfl⟩
/-- what a proc's rows say -/
def PM (σ : MS) (md : Nat → Nat) (np p : Nat) : Prop := p < 41 ∧ np ≤ 8 ∧ σ.2.2 18 p = nI np ∧ (∀ i, i < np → σ.2.2 19 (8 * p + i) = nI (md i) ∧ md i ≤ 2)
theorem PM_fr {σ τ : MS} {p M P w : Nat} (h : PM σ md np p) (hF : FrM M P w σ τ) : PM τ md np p := by
  unfold PM
  rw [hF.2.2.1 18 (by decide), hF.2.2.1 19 (by decide)]; exact h
theorem n_mul8 {p c : Nat} (h : p < 41) (hc : c < 2147483000) : (8 : Int32) * nI p + nI c = nI (8 * p + c) := by
  have h8 : (8 : Int32).toInt = 8 := rfl
  have e : (8 : Int32) * nI p = nI (8 * p) := by
    rw [i_eq, i_mul (by rw [h8, n_int (by omega)]; omega) (by rw [h8, n_int (by omega)]; omega), h8, n_int (by omega), n_int (by omega)]; omega
  rw [e, n_add (by omega)]
/-- one exp of a call has been read: is it a target where one is wanted -/
theorem call_chk {M P c p : Nat} {σ0 : MS} {s : RT} {o : Nat} {r1 : Int32 × MS} {L : Nat → Int32} {x8 : Int32} (Q : Int32 × MS → Prop) (hS : PS T n E o s.1 s.2.1 s.2.2.2.2.1 r1.2) (hr1 : r1.1 = nI s.2.2.2.1) (hI : Inf s.2.2.2.2.1 s.2.2.2.1 s.2.2.1) (hb : s.2.2.2.2.1.1 ≤ 70000) (hm : PM r1.2 md np p) (hL2 : L 2 = nI p) (hL6 : L 6 = nI c) (hc : c < 2147483000) (hF : FrM M P E.2.2.2.1 σ0 r1.2)
    (good : ¬ (c < np ∧ 0 < md c ∧ s.2.2.1 = 0) → Tm (fun k => x_call k 8 (upd (upd L 7 x8) 8 r1.1) r1.2) Q)
    (bad : (c < np ∧ 0 < md c ∧ s.2.2.1 = 0) → ∀ ρ : MS, Bb s.2.2.2.2.1.1 ρ → FrM M P E.2.2.2.1 σ0 ρ → Tm (fun k => x_call k 8 (upd (upd L 7 x8) 8 r1.1) ρ) Q) (y1 y2 : Int32) :
    Tm (fun k => if r1.2.1 10 = 0 then (if ¬ (L 2 < 0 ∨ 41 ≤ (L 2).toNatClampNeg) then (if r1.2.2.2 18 (L 2).toNatClampNeg ≤ L 6 then x_call k 8 (upd (upd L 7 x8) 8 r1.1) r1.2 else (if ¬ (8 * L 2 + L 6 < 0 ∨ 328 ≤ (8 * L 2 + L 6).toNatClampNeg) then (if r1.2.2.2 19 (8 * L 2 + L 6).toNatClampNeg ≤ 0 then x_call k 8 (upd (upd L 7 x8) 8 r1.1) r1.2 else ob (x_isTarget k 0 (upd (fun _ => 0) 1 r1.1) r1.2) (fun r7 => if r7.1 = 0 then ob (x_fault k 0 (upd (upd (fun _ => 0) 1 y1) 2 y2) r7.2) (fun r9 => x_call k 8 (upd (upd L 7 x8) 8 r1.1) r9.2) else x_call k 8 (upd (upd L 7 x8) 8 r1.1) r7.2)) else none)) else none) else x_call k 8 (upd (upd L 7 x8) 8 r1.1) r1.2) Q := by
  obtain ⟨m1, m2, m3, m4⟩ := hm
  refine Tm_ite (fun _ => ?_) (fun z => absurd (PS_ok hS) z)
  rw [hL2, hL6]
  refine Tm_chk (n_in (by omega) (by omega)) ?_
  rw [n_cl (p := p) (by omega), m3]
  refine Tm_ite (fun z => ?_) (fun z => ?_)
  · rw [n_le (by omega) (by omega)] at z
    exact good (by omega)
  rw [n_le (by omega) (by omega)] at z
  rw [n_mul8 m1 hc]
  refine Tm_chk (n_in (by omega) (by omega)) ?_
  rw [n_cl (p := 8 * p + c) (by omega), (m4 c (by omega)).1]
  have m42 := (m4 c (by omega)).2
  refine Tm_ite (fun z2 => ?_) (fun z2 => ?_)
  · rw [n_le0 (by omega)] at z2
    exact good (by omega)
  rw [n_le0 (by omega)] at z2
  by_cases hi : s.2.2.1 = 0
  · obtain ⟨w, w1, w2⟩ := hI.2.2 hi
    refine Tm_ob (p_isTarget hS hb w2 (by rw [upd_same]; exact hr1)) (fun r7 hr7 => ?_)
    obtain ⟨u, τ⟩ := r7
    obtain ⟨h3, hr7⟩ := hr7
    have h3 : τ = r1.2 := h3
    subst h3
    refine Tm_ite (fun _ => ?_) (fun y => absurd (hr7.mp y) w1)
    refine Tm_ob (p_fault (M := M) (P := P) (w := E.2.2.2.1) hS _) (fun r9 hr9 => ?_)
    exact bad ⟨by omega, by omega, hi⟩ r9.2 hr9.1 (FrM_tr hF hr9.2)
  · refine Tm_ob (p_isTarget hS hb (hI.2.1 hi) (by rw [upd_same]; exact hr1)) (fun r7 hr7 => ?_)
    obtain ⟨u, τ⟩ := r7
    obtain ⟨h3, hr7⟩ := hr7
    have h3 : τ = r1.2 := h3
    subst h3
    exact Tm_ite (fun y => absurd y (hr7.mpr rfl)) (fun _ => good (fun z => hi z.2.2))
end CALL

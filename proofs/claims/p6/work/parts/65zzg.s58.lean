/-! A tuple of targets. -/
def gHo (T : Nat → Int32) (n f : Nat) (E : En) (o q v : Nat) (b : BT) : RG := if tkK T n q = 3 then gT T n q (fun q1 => some (some (q1, v, 0, b.1, bNode b 32 0 0 0, []))) else gTg T n f E o q v b
/-- is there a first already: else this one is it -/
def fst2 (i e : Nat) : Nat := if i = 0 then e else i
def bLnk (i e x : Nat) (b : BT) : BT := if i = 0 then b else bSet b 9 e (nI x)
def GPt (T : Nat → Int32) (n : Nat) (E : En) : Nat → Nat → Nat → Nat → Nat → Nat → BT → RG
  | 0, _, _, _, _, _, _ => none
  | f + 1, o, q, v, i, e, b => gb (gHo T n f E o q v b) (fun r => if tkK T n r.1 = 12 then gT T n r.1 (fun q1 => GPt T n E f o q1 r.2.1 (fst2 i r.2.2.2.1) r.2.2.2.1 (bLnk i e r.2.2.2.1 r.2.2.2.2.1)) else some (some (r.1, r.2.1, 0, fst2 i r.2.2.2.1, bLnk i e r.2.2.2.1 r.2.2.2.2.1, [])))
def gPa (T : Nat → Int32) (n f : Nat) (E : En) (o q v : Nat) (b : BT) : RG := gO o (gT T n q (fun q1 => gb (GPt T n E f (o + 1) q1 v 0 0 b) (fun r => gW T n 11 r.1 (fun q2 => gW T n 1 q2 (fun q3 => gb (G T n f 0 E o q3 r.2.1 0 0 0 0 r.2.2.2.2.1) (fun s => gW T n 13 s.1 (fun q4 => some (some (q4, s.2.1, 0, s.2.2.2.2.1.1, bNode s.2.2.2.2.1 42 (nI r.2.2.2.1) (nI s.2.2.2.1) 0, [])))))))))
section PTS
variable {T : Nat → Int32} {n : Nat} {E : En} {o M P : Nat}
theorem bLnk_1 {i e x : Nat} {b : BT} : (bLnk i e x b).1 = b.1 := by unfold bLnk; split <;> rfl
theorem bLnk_p {i e x : Nat} {b : BT} : (bLnk i e x b).2.1 = b.2.1 := by unfold bLnk; split <;> rfl
theorem fst2_b {i x M m : Nat} (h : ¬ i = 0 → M ≤ i ∧ i < m) (hx : M ≤ x ∧ x < m) : M ≤ fst2 i x ∧ fst2 i x < m := by
  unfold fst2; by_cases c : i = 0
  · rw [if_pos c]; exact hx
  · rw [if_neg c]; exact h c
theorem gHo_mo {f o q v M : Nat} {b : BT} {s : RT} (hq : q ≤ n) (hv : v ≤ 60) (hM : M ≤ b.1) (h1 : 1 ≤ M) (hG : gHo T n f E o q v b = some (some s)) : Mo n b q v s ∧ (M ≤ s.2.2.2.1 ∧ s.2.2.2.1 < s.2.2.2.2.1.1) ∧ q < s.1 := by
  unfold gHo at hG
  by_cases c : tkK T n q = 3
  · rw [if_pos c] at hG
    have hu := tkN_b T n q hq
    have hu4 := hu.2.2.2 (by rw [c]; decide)
    obtain ⟨_, hG⟩ := gT_s hG
    cases hG
    refine ⟨?_, ⟨hM, (by show b.1 < b.1 + 1; omega)⟩, hu4⟩
    unfold Mo
    dsimp only
    rw [bNode_1, bNode_p]; omega
  · rw [if_neg c] at hG
    have h := gTg_mo (M := M) hq hv hM h1 hG
    exact ⟨h.1, h.2.1, h.2.2.1⟩
theorem gHo_tot {f o q v : Nat} {b : BT} (hq : q ≤ n) (hv : v ≤ 60) (hb : 1 ≤ b.1) (hf : 30 * (n - q) ≤ f) : ∃ x, gHo T n f E o q v b = some x := by
  unfold gHo
  by_cases c : tkK T n q = 3
  · rw [if_pos c]; exact gT_t ⟨_, rfl⟩
  · rw [if_neg c]; exact gTg_tot E o q v b hq hv hb hf
theorem gpt_mo : ∀ (f : Nat) (o q v i e : Nat) (b : BT) (r : RT) (M : Nat), q ≤ n → v ≤ 60 → GPt T n E f o q v i e b = some (some r) → M ≤ b.1 → 1 ≤ M → (¬ i = 0 → M ≤ i ∧ i < b.1) → Mo n b q v r ∧ (M ≤ r.2.2.2.1 ∧ r.2.2.2.1 < r.2.2.2.2.1.1) ∧ q < r.1
  | 0, o, q, v, i, e, b, r, M, _, _, hG, _, _, _ => by simp only [GPt] at hG; cases hG
  | f + 1, o, q, v, i, e, b, r, M, hq, hv, hG, hM, h1, hi => by
    simp only [GPt] at hG
    obtain ⟨s, h7, hG⟩ := gb_s hG
    obtain ⟨⟨a1, a2, a3, a4, a5, a6, a7, a8⟩, a9, a10⟩ := gHo_mo (M := M) hq hv hM h1 h7
    have hf2 := fst2_b (M := M) (m := s.2.2.2.2.1.1) (i := i) (fun z => ⟨(hi z).1, by have := (hi z).2; omega⟩) a9
    try dsimp only at hG
    by_cases k12 : tkK T n s.1 = 12
    · rw [if_pos k12] at hG
      obtain ⟨_, hG⟩ := gT_s hG
      have hu := tkN_b T n s.1 a2
      obtain ⟨⟨b1, b2, b3, b4, b5, b6, b7, b8⟩, b9, b10⟩ := gpt_mo f _ _ _ _ _ _ r M hu.2.1 (by omega) hG (by rw [bLnk_1]; omega) h1 (fun _ => by rw [bLnk_1]; exact hf2)
      rw [bLnk_1] at b5 b6
      rw [bLnk_p] at b7 b8
      exact ⟨by unfold Mo; omega, b9, by omega⟩
    · rw [if_neg k12] at hG; cases hG
      refine ⟨?_, by rw [bLnk_1]; exact hf2, a10⟩
      unfold Mo
      dsimp only
      rw [bLnk_1, bLnk_p]; omega
theorem gpt_tot : ∀ (f o q v i e : Nat) (b : BT), q ≤ n → v ≤ 60 → 1 ≤ b.1 → 30 * (n - q) + 1 ≤ f → ∃ y, GPt T n E f o q v i e b = some y
  | 0, o, q, v, i, e, b, _, _, _, hf => absurd hf (by omega)
  | f + 1, o, q, v, i, e, b, hq, hv, hb, hf => by
    simp only [GPt]
    refine gb_t (gHo_tot hq hv hb (by omega)) (fun s h7 => ?_)
    obtain ⟨⟨a1, a2, a3, a4, a5, a6, a7, a8⟩, a9, a10⟩ := gHo_mo (M := b.1) hq hv (Nat.le_refl _) hb h7
    by_cases k12 : tkK T n s.1 = 12
    · rw [if_pos k12]
      have hu := tkN_b T n s.1 a2
      have hu4 := hu.2.2.2 (by rw [k12]; decide)
      refine gT_t ?_
      exact gpt_tot f _ _ _ _ _ _ hu.2.1 (by omega) (by rw [bLnk_1]; omega) (by omega)
    · rw [if_neg k12]; exact ⟨_, rfl⟩
/-- after a fault: to the loop's end -/
theorem pts_bad {i e m : Nat} {b : BT} {ρ : MS} {N : Nat → Int32} {Q : Int32 × MS → Prop} {σ : MS} (hB : Bb m ρ) (hF : FrM M P E.2.2.2.1 σ ρ) (hN1 : N 1 = hd i) (hi : i < 70000) (hN2 : ¬ i = 0 → N 2 = nI e ∧ M ≤ e ∧ e < b.1) (hb : b.1 ≤ 70000)
    (hout : ∀ (ρ : MS) (N' : Nat → Int32), FrM M P E.2.2.2.1 σ ρ → Bb m ρ → Tm (fun k => x_partsOf k 10 N' ρ) Q) : Tm (fun k => x_partsOf k 4 N ρ) Q := by
  have six : ∀ (ρ : MS) (N : Nat → Int32), FrM M P E.2.2.2.1 σ ρ → Bb m ρ → Tm (fun k => x_partsOf k 6 N ρ) Q := fun ρ N hF hB => by
    refine Tm_suc (fun k => by rw [x_partsOf]) ?_
    refine Tm_ite (fun z => absurd z hB.1) (fun _ => ?_)
    refine Tm_suc (fun k => by rw [x_partsOf]) ?_
    refine Tm_suc (fun k => by rw [x_partsOf]) ?_
    refine Tm_ite (fun _ => ?_) (fun z => absurd (by rw [upd_same]) z)
    refine Tm_suc (fun k => by rw [x_partsOf]) ?_
    refine Tm_suc (fun k => by rw [x_partsOf]) ?_
    refine Tm_ite (fun _ => ?_) (fun z => absurd (by rw [upd_same, upd_same]) z)
    exact hout ρ _ hF hB
  refine Tm_suc (fun k => by rw [x_partsOf]) ?_
  refine Tm_ite (fun z => six ρ _ hF hB) (fun z => ?_)
  have i0 : ¬ i = 0 := fun y => z (by rw [hN1]; exact (hd_no hi).mpr y)
  obtain ⟨k2, e1, e2⟩ := hN2 i0
  refine Tm_suc (fun k => by rw [x_partsOf]) ?_
  rw [k2]
  refine Tm_chk (n_in (by omega) (by omega)) ?_
  rw [n_cl (p := e) (by omega)]
  exact six (mSet ρ 9 e (N 4)) N (FrM_tr hF (FrM_set (by decide) (by decide) (Or.inr e1) _)) (Bb_set hB)
theorem pts_good {i e x q v : Nat} {b b0 : BT} {ρ : MS} {N : Nat → Int32} {Q : Int32 × MS → Prop} {σ : MS} (hS : PS T n E o q v b ρ) (hF : FrM M P E.2.2.2.1 σ ρ) (hN1 : N 1 = hd i) (hi : i < 70000) (hN2 : ¬ i = 0 → N 2 = nI e ∧ M ≤ e ∧ e < b.1) (hN4 : N 4 = nI x) (hx : ¬ x = 0) (hb : b.1 ≤ 70000)
    (hno : ∀ (ρ : MS) (N' : Nat → Int32), ¬ tkK T n q = 12 → FrM M P E.2.2.2.1 σ ρ → PS T n E o q v (bLnk i e x b) ρ → N' 1 = nI (fst2 i x) → Tm (fun k => x_partsOf k 10 N' ρ) Q)
    (hflt : ∀ (ρ : MS) (N' : Nat → Int32), tkK T n q = 12 → tkK T n (tkN T n q) = 0 → FrM M P E.2.2.2.1 σ ρ → Bb b.1 ρ → Tm (fun k => x_partsOf k 10 N' ρ) Q)
    (hyes : ∀ (ρ : MS) (N' : Nat → Int32), tkK T n q = 12 → ¬ tkK T n (tkN T n q) = 0 → FrM M P E.2.2.2.1 σ ρ → PS T n E o (tkN T n q) v (bLnk i e x b) ρ → N' 1 = hd (fst2 i x) → N' 2 = nI x → N' 3 = 1 → Tm (fun k => x_partsOf k 2 N' ρ) Q) : Tm (fun k => x_partsOf k 4 N ρ) Q := by
  have f20 : ¬ fst2 i x = 0 := by unfold fst2; by_cases c : i = 0; rw [if_pos c]; exact hx; rw [if_neg c]; exact c
  have six : ∀ (ρ : MS) (N : Nat → Int32), FrM M P E.2.2.2.1 σ ρ → PS T n E o q v (bLnk i e x b) ρ → N 1 = hd (fst2 i x) → N 4 = nI x → Tm (fun k => x_partsOf k 6 N ρ) Q := fun ρ N hF hS k1 k4 => by
    refine Tm_suc (fun k => by rw [x_partsOf]) ?_
    refine Tm_ite (fun _ => ?_) (fun z => absurd (PS_ok hS) z)
    refine Tm_ob (p_sign hS (s := 12) (by decide) (by decide) rfl) (fun r3 hr3 => ?_)
    obtain ⟨u, τ⟩ := r3
    obtain ⟨h3, hr3⟩ := hr3
    have h3 : τ = ρ := h3
    subst h3
    refine Tm_ite (fun z => ?_) (fun z => ?_)
    · refine Tm_suc (fun k => by rw [x_partsOf]) ?_
      refine Tm_suc (fun k => by rw [x_partsOf]) ?_
      refine Tm_ite (fun _ => ?_) (fun z => absurd (by rw [upd_same]) z)
      refine Tm_suc (fun k => by rw [x_partsOf]) ?_
      refine Tm_suc (fun k => by rw [x_partsOf]) ?_
      refine Tm_ite (fun _ => ?_) (fun z => absurd (by rw [upd_same, upd_same]) z)
      refine hno τ _ (fun y => hr3.mpr y z) hF hS ?_
      rw [upd_other (by decide), upd_other (by decide), upd_other (by decide), k1]
      exact hd_pos f20
    · have hK := hr3.mp z
      refine Tm_suc (fun k => by rw [x_partsOf]) ?_
      refine Tm_ite (fun z => absurd z (by rw [upd_same]; decide)) (fun _ => ?_)
      refine Tm_ob (p_take (M := M) (P := P) (w := E.2.2.2.1) hS _) (fun r4 hr4 => ?_)
      refine Tm_suc (fun k => by rw [x_partsOf]) ?_
      rcases hr4.2 with ⟨t4, hB⟩ | ⟨t4, hS4⟩
      · refine Tm_suc (fun k => by rw [x_partsOf]) ?_
        refine Tm_ite (fun z => absurd z (by rw [upd_same, upd_same]; decide)) (fun _ => ?_)
        refine Tm_ite (fun z => absurd z hB.1) (fun _ => ?_)
        exact hflt r4.2 _ hK t4 (FrM_tr hF hr4.1) (by rw [bLnk_1] at hB; exact hB)
      · refine hyes r4.2 _ hK t4 (FrM_tr hF hr4.1) hS4 ?_ ?_ ?_
        · rw [upd_other (by decide), upd_other (by decide), upd_other (by decide)]; exact k1
        · rw [upd_other (by decide), upd_other (by decide), upd_same]; exact k4
        · rw [upd_same, upd_same]
  refine Tm_suc (fun k => by rw [x_partsOf]) ?_
  refine Tm_ite (fun z => ?_) (fun z => ?_)
  · have i0 : i = 0 := (hd_no hi).mp (by rw [← hN1]; exact z)
    subst i0
    refine six ρ _ hF hS ?_ ?_
    · rw [upd_same, hN4]; exact (hd_pos (i := x) hx).symm
    · rw [upd_other (by decide)]; exact hN4
  have i0 : ¬ i = 0 := fun y => z (by rw [hN1]; exact (hd_no hi).mpr y)
  obtain ⟨k2, e1, e2⟩ := hN2 i0
  refine Tm_suc (fun k => by rw [x_partsOf]) ?_
  rw [k2]
  refine Tm_chk (n_in (by omega) (by omega)) ?_
  rw [n_cl (p := e) (by omega), hN4]
  have eb : bLnk i e x b = bSet b 9 e (nI x) := if_neg i0
  have ef : fst2 i x = i := if_neg i0
  refine six (mSet ρ 9 e (nI x)) N (FrM_tr hF (FrM_set (by decide) (by decide) (Or.inr e1) _)) (by rw [eb]; exact PS_set hS (by decide) (by decide) _) (by rw [ef]; exact hN1) hN4
end PTS

section JnS58
variable {yf : Nat × Nat}
/-! A tuple of targets. -/
def gHo (T : Nat → Int32) (n f : Nat) (E : En) (o q v : Nat) (b : BT) : RG := if tkK T n q = 3 then gT T n q (fun q1 => some (Sum.inr (q1, v, 0, b.1, bNode b 32 0 0 0, []))) else gTg T n f E o q v b
/-- is there a first already: else this one is it -/
def fst2 (i e : Nat) : Nat := if i = 0 then e else i
def bLnk (i e x : Nat) (b : BT) : BT := if i = 0 then b else bSet b 9 e (nI x)
def GPt (T : Nat → Int32) (n : Nat) (E : En) : Nat → Nat → Nat → Nat → Nat → Nat → BT → RG
  | 0, _, _, _, _, _, _ => none
  | f + 1, o, q, v, i, e, b => gb (gHo T n f E o q v b) (fun r => if tkK T n r.1 = 12 then gT T n r.1 (fun q1 => GPt T n E f o q1 r.2.1 (fst2 i r.2.2.2.1) r.2.2.2.1 (bLnk i e r.2.2.2.1 r.2.2.2.2.1)) else some (Sum.inr (r.1, r.2.1, 0, fst2 i r.2.2.2.1, bLnk i e r.2.2.2.1 r.2.2.2.2.1, [])))
def gPa (T : Nat → Int32) (n f : Nat) (E : En) (o q v : Nat) (b : BT) : RG := gO o q (gT T n q (fun q1 => gb (GPt T n E f (o + 1) q1 v 0 0 b) (fun r => gW T n 11 r.1 (fun q2 => gW T n 1 q2 (fun q3 => gb (G T n f 0 E o q3 r.2.1 0 0 0 0 r.2.2.2.2.1) (fun s => gW T n 13 s.1 (fun q4 => some (Sum.inr (q4, s.2.1, 0, s.2.2.2.2.1.1, bNode s.2.2.2.2.1 42 (nI r.2.2.2.1) (nI s.2.2.2.1) 0, [])))))))))
section PTS
variable {T : Nat → Int32} {n : Nat} {E : En} {o M P : Nat}
theorem bLnk_1 {i e x : Nat} {b : BT} : (bLnk i e x b).1 = b.1 := by unfold bLnk; split <;> rfl
theorem bLnk_p {i e x : Nat} {b : BT} : (bLnk i e x b).2.1 = b.2.1 := by unfold bLnk; split <;> rfl
theorem fst2_b {i x M m : Nat} (h : ¬ i = 0 → M ≤ i ∧ i < m) (hx : M ≤ x ∧ x < m) : M ≤ fst2 i x ∧ fst2 i x < m := by
  unfold fst2; by_cases c : i = 0
  · rw [if_pos c]; exact hx
  · rw [if_neg c]; exact h c
theorem gHo_mo {f o q v M : Nat} {b : BT} {s : RT} (hq : q ≤ n) (hv : v ≤ 60) (hM : M ≤ b.1) (h1 : 1 ≤ M) (hG : gHo T n f E o q v b = some (Sum.inr s)) : Mo n b q v s ∧ (M ≤ s.2.2.2.1 ∧ s.2.2.2.1 < s.2.2.2.2.1.1) ∧ q < s.1 := by
  unfold gHo at hG
  by_cases c : tkK T n q = 3
  · rw [if_pos c] at hG
    have hu := tkN_b T n q hq
    have hu4 := hu.2.2.2 (by rw [c]; decide)
    obtain ⟨_, hG⟩ := gT_s hG
    cases hG
    refine ⟨?_, ⟨hM, (by show b.1 < b.1 + 1; omega)⟩, hu4⟩
    unfold Mo
    dsimp only
    rw [bNode_1, bNode_p]; omega
  · rw [if_neg c] at hG
    have h := gTg_mo (M := M) hq hv hM h1 hG
    exact ⟨h.1, h.2.1, h.2.2.1⟩
theorem gHo_tot {f o q v : Nat} {b : BT} (hq : q ≤ n) (hv : v ≤ 60) (hb : 1 ≤ b.1) (hf : 30 * (n - q) ≤ f) : ∃ x, gHo T n f E o q v b = some x := by
  unfold gHo
  by_cases c : tkK T n q = 3
  · rw [if_pos c]; exact gT_t ⟨_, rfl⟩
  · rw [if_neg c]; exact gTg_tot E o q v b hq hv hb hf
theorem gpt_mo : ∀ (f : Nat) (o q v i e : Nat) (b : BT) (r : RT) (M : Nat), q ≤ n → v ≤ 60 → GPt T n E f o q v i e b = some (Sum.inr r) → M ≤ b.1 → 1 ≤ M → (¬ i = 0 → M ≤ i ∧ i < b.1) → Mo n b q v r ∧ (M ≤ r.2.2.2.1 ∧ r.2.2.2.1 < r.2.2.2.2.1.1) ∧ q < r.1
  | 0, o, q, v, i, e, b, r, M, _, _, hG, _, _, _ => by simp only [GPt] at hG; cases hG
  | f + 1, o, q, v, i, e, b, r, M, hq, hv, hG, hM, h1, hi => by
    simp only [GPt] at hG
    obtain ⟨s, h7, hG⟩ := gb_s hG
    obtain ⟨⟨a1, a2, a3, a4, a5, a6, a7, a8⟩, a9, a10⟩ := gHo_mo (M := M) hq hv hM h1 h7
    have hf2 := fst2_b (M := M) (m := s.2.2.2.2.1.1) (i := i) (fun z => ⟨(hi z).1, by have := (hi z).2; omega⟩) a9
    try dsimp only at hG
    by_cases k12 : tkK T n s.1 = 12
    · rw [if_pos k12] at hG
      obtain ⟨_, hG⟩ := gT_s hG
      have hu := tkN_b T n s.1 a2
      obtain ⟨⟨b1, b2, b3, b4, b5, b6, b7, b8⟩, b9, b10⟩ := gpt_mo f _ _ _ _ _ _ r M hu.2.1 (by omega) hG (by rw [bLnk_1]; omega) h1 (fun _ => by rw [bLnk_1]; exact hf2)
      rw [bLnk_1] at b5 b6
      rw [bLnk_p] at b7 b8
      exact ⟨by unfold Mo; omega, b9, by omega⟩
    · rw [if_neg k12] at hG; cases hG
      refine ⟨?_, by rw [bLnk_1]; exact hf2, a10⟩
      unfold Mo
      dsimp only
      rw [bLnk_1, bLnk_p]; omega
theorem gpt_tot : ∀ (f o q v i e : Nat) (b : BT), q ≤ n → v ≤ 60 → 1 ≤ b.1 → 30 * (n - q) + 1 ≤ f → ∃ y, GPt T n E f o q v i e b = some y
  | 0, o, q, v, i, e, b, _, _, _, hf => absurd hf (by omega)
  | f + 1, o, q, v, i, e, b, hq, hv, hb, hf => by
    simp only [GPt]
    refine gb_t (gHo_tot hq hv hb (by omega)) (fun s h7 => ?_)
    obtain ⟨⟨a1, a2, a3, a4, a5, a6, a7, a8⟩, a9, a10⟩ := gHo_mo (M := b.1) hq hv (Nat.le_refl _) hb h7
    by_cases k12 : tkK T n s.1 = 12
    · rw [if_pos k12]
      have hu := tkN_b T n s.1 a2
      have hu4 := hu.2.2.2 (by rw [k12]; decide)
      refine gT_t ?_
      exact gpt_tot f _ _ _ _ _ _ hu.2.1 (by omega) (by rw [bLnk_1]; omega) (by omega)
    · rw [if_neg k12]; exact ⟨_, rfl⟩
/-- after a fault: to the loop's end -/
theorem pts_bad {i e m : Nat} {b : BT} {ρ : MS} {N : Nat → Int32} {Q : Int32 × MS → Prop} {σ : MS} (hB : Bb yf m ρ) (hF : FrM M P E.2.2.2.1 σ ρ) (hN1 : N 1 = hd i) (hi : i < 70000) (hN2 : ¬ i = 0 → N 2 = nI e ∧ M ≤ e ∧ e < b.1) (hb : b.1 ≤ 70000)
    (hout : ∀ (ρ : MS) (N' : Nat → Int32), FrM M P E.2.2.2.1 σ ρ → Bb yf m ρ → Tm (fun k => x_partsOf k 10 N' ρ) Q) : Tm (fun k => x_partsOf k 4 N ρ) Q := by
  have six : ∀ (ρ : MS) (N : Nat → Int32), FrM M P E.2.2.2.1 σ ρ → Bb yf m ρ → Tm (fun k => x_partsOf k 6 N ρ) Q := fun ρ N hF hB => by
    refine Tm_suc (fun k => by rw [x_partsOf]) ?_
    refine Tm_ite (fun z => absurd z hB.1) (fun _ => ?_)
    refine Tm_suc (fun k => by rw [x_partsOf]) ?_
    refine Tm_suc (fun k => by rw [x_partsOf]) ?_
    refine Tm_ite (fun _ => ?_) (fun z => absurd (by rw [upd_same]) z)
    refine Tm_suc (fun k => by rw [x_partsOf]) ?_
    refine Tm_suc (fun k => by rw [x_partsOf]) ?_
    refine Tm_ite (fun _ => ?_) (fun z => absurd (by rw [upd_same, upd_same]) z)
    exact hout ρ _ hF hB
  refine Tm_suc (fun k => by rw [x_partsOf]) ?_
  refine Tm_ite (fun z => six ρ _ hF hB) (fun z => ?_)
  have i0 : ¬ i = 0 := fun y => z (by rw [hN1]; exact (hd_no hi).mpr y)
  obtain ⟨k2, e1, e2⟩ := hN2 i0
  refine Tm_suc (fun k => by rw [x_partsOf]) ?_
  rw [k2]
  refine Tm_chk (n_in (by omega) (by omega)) ?_
  rw [n_cl (p := e) (by omega)]
  exact six (mSet ρ 9 e (N 4)) N (FrM_tr hF (FrM_set (by decide) (by decide) (Or.inr e1) _)) (Bb_set hB)
theorem pts_good {i e x q v : Nat} {b b0 : BT} {ρ : MS} {N : Nat → Int32} {Q : Int32 × MS → Prop} {σ : MS} (hS : PS T n E o q v b ρ) (hF : FrM M P E.2.2.2.1 σ ρ) (hN1 : N 1 = hd i) (hi : i < 70000) (hN2 : ¬ i = 0 → N 2 = nI e ∧ M ≤ e ∧ e < b.1) (hN4 : N 4 = nI x) (hx : ¬ x = 0) (hb : b.1 ≤ 70000)
    (hno : ∀ (ρ : MS) (N' : Nat → Int32), ¬ tkK T n q = 12 → FrM M P E.2.2.2.1 σ ρ → PS T n E o q v (bLnk i e x b) ρ → N' 1 = nI (fst2 i x) → Tm (fun k => x_partsOf k 10 N' ρ) Q)
    (hflt : ∀ (ρ : MS) (N' : Nat → Int32), tkK T n q = 12 → tkK T n (tkN T n q) = 0 → FrM M P E.2.2.2.1 σ ρ → Bb (1, tkN T n q) b.1 ρ → Tm (fun k => x_partsOf k 10 N' ρ) Q)
    (hyes : ∀ (ρ : MS) (N' : Nat → Int32), tkK T n q = 12 → ¬ tkK T n (tkN T n q) = 0 → FrM M P E.2.2.2.1 σ ρ → PS T n E o (tkN T n q) v (bLnk i e x b) ρ → N' 1 = hd (fst2 i x) → N' 2 = nI x → N' 3 = 1 → Tm (fun k => x_partsOf k 2 N' ρ) Q) : Tm (fun k => x_partsOf k 4 N ρ) Q := by
  have f20 : ¬ fst2 i x = 0 := by unfold fst2; by_cases c : i = 0; rw [if_pos c]; exact hx; rw [if_neg c]; exact c
  have six : ∀ (ρ : MS) (N : Nat → Int32), FrM M P E.2.2.2.1 σ ρ → PS T n E o q v (bLnk i e x b) ρ → N 1 = hd (fst2 i x) → N 4 = nI x → Tm (fun k => x_partsOf k 6 N ρ) Q := fun ρ N hF hS k1 k4 => by
    refine Tm_suc (fun k => by rw [x_partsOf]) ?_
    refine Tm_ite (fun _ => ?_) (fun z => absurd (PS_ok hS) z)
    refine Tm_ob (p_sign hS (s := 12) (by decide) (by decide) rfl) (fun r3 hr3 => ?_)
    obtain ⟨u, τ⟩ := r3
    obtain ⟨h3, hr3⟩ := hr3
    have h3 : τ = ρ := h3
    subst h3
    refine Tm_ite (fun z => ?_) (fun z => ?_)
    · refine Tm_suc (fun k => by rw [x_partsOf]) ?_
      refine Tm_suc (fun k => by rw [x_partsOf]) ?_
      refine Tm_ite (fun _ => ?_) (fun z => absurd (by rw [upd_same]) z)
      refine Tm_suc (fun k => by rw [x_partsOf]) ?_
      refine Tm_suc (fun k => by rw [x_partsOf]) ?_
      refine Tm_ite (fun _ => ?_) (fun z => absurd (by rw [upd_same, upd_same]) z)
      refine hno τ _ (fun y => hr3.mpr y z) hF hS ?_
      rw [upd_other (by decide), upd_other (by decide), upd_other (by decide), k1]
      exact hd_pos f20
    · have hK := hr3.mp z
      refine Tm_suc (fun k => by rw [x_partsOf]) ?_
      refine Tm_ite (fun z => absurd z (by rw [upd_same]; decide)) (fun _ => ?_)
      refine Tm_ob (p_take (M := M) (P := P) (w := E.2.2.2.1) hS _) (fun r4 hr4 => ?_)
      refine Tm_suc (fun k => by rw [x_partsOf]) ?_
      rcases hr4.2 with ⟨t4, hB⟩ | ⟨t4, hS4⟩
      · refine Tm_suc (fun k => by rw [x_partsOf]) ?_
        refine Tm_ite (fun z => absurd z (by rw [upd_same, upd_same]; decide)) (fun _ => ?_)
        refine Tm_ite (fun z => absurd z hB.1) (fun _ => ?_)
        exact hflt r4.2 _ hK t4 (FrM_tr hF hr4.1) (by rw [bLnk_1] at hB; exact hB)
      · refine hyes r4.2 _ hK t4 (FrM_tr hF hr4.1) hS4 ?_ ?_ ?_
        · rw [upd_other (by decide), upd_other (by decide), upd_other (by decide)]; exact k1
        · rw [upd_other (by decide), upd_other (by decide), upd_same]; exact k4
        · rw [upd_same, upd_same]
  refine Tm_suc (fun k => by rw [x_partsOf]) ?_
  refine Tm_ite (fun z => ?_) (fun z => ?_)
  · have i0 : i = 0 := (hd_no hi).mp (by rw [← hN1]; exact z)
    subst i0
    refine six ρ _ hF hS ?_ ?_
    · rw [upd_same, hN4]; exact (hd_pos (i := x) hx).symm
    · rw [upd_other (by decide)]; exact hN4
  have i0 : ¬ i = 0 := fun y => z (by rw [hN1]; exact (hd_no hi).mpr y)
  obtain ⟨k2, e1, e2⟩ := hN2 i0
  refine Tm_suc (fun k => by rw [x_partsOf]) ?_
  rw [k2]
  refine Tm_chk (n_in (by omega) (by omega)) ?_
  rw [n_cl (p := e) (by omega), hN4]
  have eb : bLnk i e x b = bSet b 9 e (nI x) := if_neg i0
  have ef : fst2 i x = i := if_neg i0
  refine six (mSet ρ 9 e (nI x)) N (FrM_tr hF (FrM_set (by decide) (by decide) (Or.inr e1) _)) (by rw [eb]; exact PS_set hS (by decide) (by decide) _) (by rw [ef]; exact hN1) hN4
end PTS
end JnS58
section JnS59
variable {yf : Nat × Nat}
/-! A tuple of targets: the reference's. -/
section PTS
variable {T : Nat → Int32} {n : Nat} {E : En} {o M P : Nat}
theorem parts_loop : ∀ (f : Nat) (q v i e : Nat) (b : BT) (y : Fl RT), GPt T n E f o q v i e b = some y → ∀ (σ : MS) (N : Nat → Int32) (Q : Int32 × MS → Prop), PS T n E o q v b σ → 1 ≤ M → M ≤ b.1 → P ≤ b.2.1 → b.1 + (n + 1 - q) + 967 ≤ 70000 → b.2.1 + (n - q) ≤ 70000 → N 1 = hd i → N 3 = 1 → (¬ i = 0 → N 2 = nI e ∧ M ≤ e ∧ e < b.1 ∧ M ≤ i ∧ i < b.1) →
    (∀ (ρ : MS) (N' : Nat → Int32), FrM M P E.2.2.2.1 σ ρ → (match y with
      | Sum.inl yf => ∃ m, Bb yf m ρ ∧ M ≤ m ∧ m ≤ b.1 + (n + 1 - q) + 963
      | Sum.inr s => PS T n E o s.1 s.2.1 s.2.2.2.2.1 ρ ∧ N' 1 = nI s.2.2.2.1) → Tm (fun k => x_partsOf k 10 N' ρ) Q) → Tm (fun k => x_partsOf k 2 N σ) Q
  | 0 => fun q v i e b y hG => by simp only [GPt] at hG; cases hG
  | f + 1 => fun q v i e b y hG σ N Q hS h1 hM hP hn hp hN1 hN3 hN2 hout => by
    simp only [GPt] at hG
    have hq := PS_q hS
    have hv := PS_v hS
    have hu := tkN_b T n q hq.1
    have ih := parts_loop f
    have hi70 : i < 70000 := by
      by_cases c : i = 0
      · omega
      · have := (hN2 c).2.2.2.2; omega
    have hN2' : ¬ i = 0 → N 2 = nI e ∧ M ≤ e ∧ e < b.1 := fun z => ⟨(hN2 z).1, (hN2 z).2.1, (hN2 z).2.2.1⟩
    have bad : ∀ {yf : Nat × Nat} (ρ : MS) (N' : Nat → Int32) (m : Nat), y = Sum.inl yf → N' 1 = N 1 → N' 2 = N 2 → Bb yf m ρ → M ≤ m → m ≤ b.1 + (n + 1 - q) + 963 → FrM M P E.2.2.2.1 σ ρ → Tm (fun k => x_partsOf k 4 N' ρ) Q := fun {yf} ρ N' m hy k1 k2 hB m1 m2 hF => by
      subst hy
      exact pts_bad (i := i) (e := e) (b := b) hB hF (by rw [k1]; exact hN1) hi70 (fun z => by rw [k2]; exact hN2' z) (by omega) (fun ρ N' hF hB => hout ρ N' hF ⟨m, hB, m1, m2⟩)
    have good : ∀ (s : RT) (ρ : MS) (N' : Nat → Int32), gHo T n f E o q v b = some (Sum.inr s) → (if tkK T n s.1 = 12 then gT T n s.1 (fun q1 => GPt T n E f o q1 s.2.1 (fst2 i s.2.2.2.1) s.2.2.2.1 (bLnk i e s.2.2.2.1 s.2.2.2.2.1)) else some (Sum.inr (s.1, s.2.1, 0, fst2 i s.2.2.2.1, bLnk i e s.2.2.2.1 s.2.2.2.2.1, []))) = some y → N' 1 = N 1 → N' 2 = N 2 → N' 4 = nI s.2.2.2.1 → PS T n E o s.1 s.2.1 s.2.2.2.2.1 ρ → FrM M P E.2.2.2.1 σ ρ → Tm (fun k => x_partsOf k 4 N' ρ) Q := fun s ρ N' h7 hG k1 k2 k4 hS7 hF => by
      obtain ⟨⟨a1, a2, a3, a4, a5, a6, a7, a8⟩, a9, a10⟩ := gHo_mo (M := M) hq.1 hv hM h1 h7
      have hf2 := fst2_b (M := M) (m := s.2.2.2.2.1.1) (i := i) (fun z => ⟨(hN2 z).2.2.2.1, by have := (hN2 z).2.2.2.2; omega⟩) a9
      have hus := tkN_b T n s.1 a2
      refine pts_good (i := i) (e := e) (x := s.2.2.2.1) (b0 := b) hS7 hF (by rw [k1]; exact hN1) hi70 (fun z => by rw [k2]; exact ⟨(hN2 z).1, (hN2 z).2.1, by have := (hN2 z).2.2.1; omega⟩) k4 (by omega) (by omega) ?_ ?_ ?_
      · intro ρ N' hK hF hS hN'
        rw [if_neg hK] at hG
        cases hG
        exact hout ρ N' hF ⟨hS, hN'⟩
      · intro ρ N' hK t hF hB
        rw [if_pos hK] at hG
        rcases gT_any hG with ⟨_, hy⟩ | ⟨z, _⟩
        · subst hy
          exact hout ρ N' hF ⟨_, hB, by omega, by omega⟩
        · exact absurd t z
      · intro ρ N' hK t hF hS j1 j2 j3
        rw [if_pos hK] at hG
        rcases gT_any hG with ⟨z, _⟩ | ⟨_, hG⟩
        · exact absurd z t
        have hus4 := hus.2.2.2 (by rw [hK]; decide)
        refine ih _ _ _ _ _ _ hG ρ N' Q hS h1 (by rw [bLnk_1]; omega) (by rw [bLnk_p]; omega) (by rw [bLnk_1]; omega) (by rw [bLnk_p]; omega) j1 j3 (fun _ => ⟨j2, a9.1, by rw [bLnk_1]; exact a9.2, hf2.1, by rw [bLnk_1]; exact hf2.2⟩) ?_
        intro ρ' N'' hF' hm
        refine hout ρ' N'' (FrM_tr hF hF') ?_
        cases y with
        | inl yf =>
          obtain ⟨m, l1, l2, l3⟩ := hm
          rw [bLnk_1] at l3
          exact ⟨m, l1, l2, by omega⟩
        | inr s => exact hm
    refine Tm_suc (fun k => by rw [x_partsOf]) ?_
    rw [hN3]
    refine Tm_ite (c := (1 : Int32) = 0) (fun z => absurd z (by decide)) (fun _ => ?_)
    refine Tm_ite (fun _ => ?_) (fun z => absurd (PS_ok hS) z)
    refine Tm_ob (p_sign hS (s := 3) (by decide) (by decide) rfl) (fun r3 hr3 => ?_)
    obtain ⟨u, τ⟩ := r3
    obtain ⟨h3, hr3⟩ := hr3
    have h3 : τ = σ := h3
    subst h3
    refine Tm_ite (fun z => ?_) (fun z => ?_)
    · have hK : ¬ tkK T n q = 3 := fun y => hr3.mpr y z
      have eH : gHo T n f E o q v b = gTg T n f E o q v b := if_neg hK
      refine Tm_suc (fun k => by rw [x_partsOf]) ?_
      rcases gb_any hG with ⟨yf, h7, hy⟩ | ⟨s, h7, hG⟩
      · rw [eH] at h7
        refine Tm_ob (p_target (M := M) (P := P) h7 hS h1 hM hP (by omega) (by omega)) (fun r7 hr7 => ?_)
        obtain ⟨⟨m1, hm, hmk, hMm⟩, _, hF7⟩ := hr7
        exact bad r7.2 _ m1 hy (by rw [upd_other (by decide), upd_other (by decide)]) (by rw [upd_other (by decide), upd_other (by decide)]) hm hMm hmk hF7
      · have h7' := h7
        rw [eH] at h7
        refine Tm_ob (p_target (M := M) (P := P) h7 hS h1 hM hP (by omega) (by omega)) (fun r7 hr7 => ?_)
        obtain ⟨hS7, hr71, hF7⟩ := hr7
        exact good s r7.2 _ h7' hG (by rw [upd_other (by decide), upd_other (by decide)]) (by rw [upd_other (by decide), upd_other (by decide)]) (by rw [upd_same]; exact hr71) hS7 hF7
    · have hK := hr3.mp z
      have eH : gHo T n f E o q v b = gT T n q (fun q1 => some (Sum.inr (q1, v, 0, b.1, bNode b 32 0 0 0, []))) := if_pos hK
      refine Tm_ob (p_nd (M := M) (P := P) (w := E.2.2.2.1) hS (by omega) hM) (fun r5 hr5 => ?_)
      refine Tm_ob (p_take (M := M) (P := P) (w := E.2.2.2.1) hr5.2.1 _) (fun r6 hr6 => ?_)
      rcases gb_any hG with ⟨yf, h7, hy⟩ | ⟨s, h7, hG⟩
      · rw [eH] at h7
        rcases gT_any h7 with ⟨t, ey⟩ | ⟨t, h7⟩
        · obtain rfl := Sum.inl.inj ey
          rcases hr6.2 with ⟨_, hB⟩ | ⟨z, _⟩
          · rw [bNode_1] at hB
            exact bad r6.2 _ _ hy (by rw [upd_other (by decide)]) (by rw [upd_other (by decide)]) hB (by omega) (by omega) (FrM_tr hr5.2.2 hr6.1)
          · exact absurd t z
        · cases h7
      · have h7' := h7
        rw [eH] at h7
        rcases gT_any h7 with ⟨t, h⟩ | ⟨t, h7⟩
        · cases h
        rcases hr6.2 with ⟨z, _⟩ | ⟨_, hS6⟩
        · exact absurd z t
        cases h7
        exact good _ r6.2 _ h7' hG (by rw [upd_other (by decide)]) (by rw [upd_other (by decide)]) (by rw [upd_same]; exact hr5.1) hS6 (FrM_tr hr5.2.2 hr6.1)
/-- from := on -/
theorem pts11b {m K : Nat} {σ ρ : MS} {N : Nat → Int32} (hB : Bb yf m ρ) (hF : FrM M P E.2.2.2.1 σ ρ) (hm : m < 70000) (hK : m + 1 ≤ K) (hM : M ≤ m) : Tm (fun k => x_partsOf k 11 N ρ) (Po T n E o M P K σ (Sum.inl yf)) := by
  refine Tm_suc (fun k => by rw [x_partsOf]) ?_
  refine Tm_ob (b_want hB.1 _) (fun r hr => ?_)
  obtain ⟨u, τ⟩ := r
  have hr : τ = ρ := hr
  subst hr
  refine Tm_ob (b_xexp hB.1 _) (fun r hr => ?_)
  subst hr
  refine Tm_ob (b_want hB.1 _) (fun r hr => ?_)
  obtain ⟨u, ρ⟩ := r
  have hr : ρ = τ := hr
  subst hr
  refine Tm_ob (b_node (M := M) (P := P) (w := E.2.2.2.1) hB hm hM _) (fun r hr => ?_)
  exact Tm_some ⟨⟨_, hr.2.1, hK, by omega⟩, ⟨_, hr.1, by omega, Or.inr hM⟩, FrM_tr hF hr.2.2⟩
theorem pts10b {m K : Nat} {σ ρ : MS} {N : Nat → Int32} (hB : Bb yf m ρ) (hF : FrM M P E.2.2.2.1 σ ρ) (hm : m < 70000) (hK : m + 1 ≤ K) (hM : M ≤ m) : Tm (fun k => x_partsOf k 10 N ρ) (Po T n E o M P K σ (Sum.inl yf)) := by
  refine Tm_suc (fun k => by rw [x_partsOf]) ?_
  refine Tm_ob (b_want hB.1 _) (fun r hr => ?_)
  obtain ⟨u, τ⟩ := r
  have hr : τ = ρ := hr
  subst hr
  show Tm (fun k => x_partsOf k 11 N (mOpn τ (τ.1 13 - 1))) _
  exact pts11b (Bb_opn hB _) (FrM_tr hF (FrM_opn _)) hm hK hM
/-- a loop after a fault before it -/
theorem pts1b {m K : Nat} {σ ρ : MS} {N : Nat → Int32} (hB : Bb yf m ρ) (hF : FrM M P E.2.2.2.1 σ ρ) (hm : m < 70000) (hK : m + 1 ≤ K) (hM : M ≤ m) : Tm (fun k => x_partsOf k 1 N ρ) (Po T n E o M P K σ (Sum.inl yf)) := by
  refine Tm_suc (fun k => by rw [x_partsOf]) ?_
  refine Tm_suc (fun k => by rw [x_partsOf]) ?_
  refine Tm_ite (fun z => absurd z (by rw [upd_same]; decide)) (fun _ => ?_)
  refine Tm_ite (fun z => absurd z hB.1) (fun _ => ?_)
  exact pts10b hB hF hm hK hM
theorem pts11 {f q v i K : Nat} {b : BT} {x : Fl RT} {σ ρ : MS} {N : Nat → Int32} (hG : gW T n 1 q (fun q3 => gb (G T n f 0 E o q3 v 0 0 0 0 b) (fun s => gW T n 13 s.1 (fun q4 => some (Sum.inr (q4, s.2.1, 0, s.2.2.2.2.1.1, bNode s.2.2.2.2.1 42 (nI i) (nI s.2.2.2.1) 0, []))))) = some x) (hS : PS T n E o q v b ρ) (hF : FrM M P E.2.2.2.1 σ ρ) (hN : N 1 = nI i) (h1 : 1 ≤ M) (hM : M ≤ b.1) (hP : P ≤ b.2.1) (hn : b.1 + (n + 1 - q) + 967 ≤ 70000) (hp : b.2.1 + (n - q) ≤ 70000) (hK : b.1 + (n + 1 - q) + 964 ≤ K) : Tm (fun k => x_partsOf k 11 N ρ) (Po T n E o M P K σ x) := by
  have hq := PS_q hS
  have hv := PS_v hS
  have hu := tkN_b T n q hq.1
  refine Tm_suc (fun k => by rw [x_partsOf]) ?_
  rw [hN]
  -- from the third want on
  have cb : ∀ {yf : Nat × Nat} (ρ' : MS) (m : Nat) (y : Int32), Bb yf m ρ' → FrM M P E.2.2.2.1 σ ρ' → m < 70000 → m + 1 ≤ K → M ≤ m → Tm (fun k => ob (x_want k 0 (upd (fun _ => 0) 1 13) ρ') (fun r3 => ob (x_node k 0 (upd (upd (upd (upd (fun _ => 0) 1 42) 2 (nI i)) 3 y) 4 0) r3.2) (fun r4 => some (r4.1, r4.2)))) (Po T n E o M P K σ (Sum.inl yf)) := fun {yf} ρ' m y hB hF hm hK hM => by
    refine Tm_ob (b_want hB.1 _) (fun r hr => ?_)
    obtain ⟨u, τ⟩ := r
    have hr : τ = ρ' := hr
    subst hr
    refine Tm_ob (b_node (M := M) (P := P) (w := E.2.2.2.1) hB hm hM _) (fun r hr => ?_)
    exact Tm_some ⟨⟨_, hr.2.1, hK, by omega⟩, ⟨_, hr.1, by omega, Or.inr hM⟩, FrM_tr hF hr.2.2⟩
  refine Tm_ob (p_want (M := M) (P := P) (w := E.2.2.2.1) hS (s := 1) (by decide) (by decide) rfl) (fun r1 hr1 => ?_)
  rcases gW_any hG with ⟨t1, rfl⟩ | ⟨t1, hG⟩
  · rcases hr1.2 with ⟨_, hB⟩ | ⟨y, _⟩
    · refine Tm_ob (b_xexp hB.1 _) (fun r hr => ?_)
      subst hr
      exact cb r1.2 _ _ hB (FrM_tr hF hr1.1) (by omega) (by omega) hM
    · exact absurd y t1
  rcases hr1.2 with ⟨y, _⟩ | ⟨_, hS1⟩
  · exact absurd t1 y
  have hF1 := FrM_tr hF hr1.1
  have hu4 := hu.2.2.2 (by rw [t1.1]; decide)
  rcases gb_any hG with ⟨yf, h7, hy⟩ | ⟨s, h7, hG⟩
  · subst hy
    refine Tm_ob (p_exp (M := M) (P := P) h7 hS1 h1 hM hP (by omega) (by omega)) (fun r2 hr2 => ?_)
    obtain ⟨⟨m1, hm, hmk, hMm⟩, _, hF2⟩ := hr2
    exact cb r2.2 _ _ hm (FrM_tr hF1 hF2) (by omega) (by omega) hMm
  obtain ⟨⟨a1, a2, a3, a4, a5, a6, a7, a8⟩, a9⟩ := mo_of (M := M) hu.2.1 hv h7 hM h1 trivial (fun h => h) (fun h => h)
  refine Tm_ob (p_exp (M := M) (P := P) h7 hS1 h1 hM hP (by omega) (by omega)) (fun r2 hr2 => ?_)
  obtain ⟨hS2, hr21, hF2⟩ := hr2
  have hF2 := FrM_tr hF1 hF2
  rw [hr21]
  refine Tm_ob (p_want (M := M) (P := P) (w := E.2.2.2.1) hS2 (s := 13) (by decide) (by decide) rfl) (fun r3 hr3 => ?_)
  rcases gW_any hG with ⟨t3, rfl⟩ | ⟨t3, hG⟩
  · rcases hr3.2 with ⟨_, hB⟩ | ⟨y, _⟩
    · refine Tm_ob (b_node (M := M) (P := P) (w := E.2.2.2.1) hB (by omega) (by omega) _) (fun r hr => ?_)
      exact Tm_some ⟨⟨_, hr.2.1, by omega, by omega⟩, ⟨_, hr.1, by omega, Or.inr (by omega)⟩, FrM_tr hF2 (FrM_tr hr3.1 hr.2.2)⟩
    · exact absurd y t3
  rcases hr3.2 with ⟨y, _⟩ | ⟨_, hS3⟩
  · exact absurd t3 y
  refine Tm_ob (p_nd (M := M) (P := P) (w := E.2.2.2.1) hS3 (by omega) (by omega)) (fun r hr => ?_)
  cases hG
  exact Tm_some ⟨hr.2.1, hr.1, FrM_tr hF2 (FrM_tr hr3.1 hr.2.2)⟩
theorem p_partsOf {f q v : Nat} {b : BT} {x : Fl RT} {σ : MS} {L : Nat → Int32} (hG : gPa T n f E o q v b = some x) (hK : ¬ tkK T n q = 25) (hS : PS T n E o q v b σ) (h1 : 1 ≤ M) (hM : M ≤ b.1) (hP : P ≤ b.2.1) (hn : b.1 + (n + 1 - q) + 967 ≤ 70000) (hp : b.2.1 + (n - q) ≤ 70000) : Tm (fun k => x_partsOf k 0 L σ) (Po T n E o M P (b.1 + (n + 1 - q) + 964) σ x) := by
  have hq := PS_q hS
  have hv := PS_v hS
  have ho := PS_o hS
  have hu := tkN_b T n q hq.1
  have hu4 := hu.2.2.2 hK
  unfold gPa at hG
  refine Tm_suc (fun k => by rw [x_partsOf]) ?_
  refine Tm_ob (p_open (M := M) (P := P) (w := E.2.2.2.1) hS _) (fun r1 hr1 => ?_)
  rcases gO_any hG with ⟨t1, rfl⟩ | ⟨t1, hG⟩
  · rcases hr1.2 with ⟨_, hB⟩ | ⟨y, _⟩
    · refine Tm_ite (fun z => absurd z hB.1) (fun _ => ?_)
      exact pts1b hB hr1.1 (by omega) (by omega) hM
    · omega
  rcases hr1.2 with ⟨y, _⟩ | ⟨_, hS1, _⟩
  · exact absurd y t1
  refine Tm_ite (fun _ => ?_) (fun z => absurd (PS_ok hS1) z)
  refine Tm_ob (p_take (M := M) (P := P) (w := E.2.2.2.1) hS1 _) (fun r3 hr3 => ?_)
  have hF3 := FrM_tr hr1.1 hr3.1
  rcases gT_any hG with ⟨t3, rfl⟩ | ⟨t3, hG⟩
  · rcases hr3.2 with ⟨_, hB⟩ | ⟨z, _⟩
    · exact pts1b hB hF3 (by omega) (by omega) hM
    · exact absurd t3 z
  rcases hr3.2 with ⟨z, _⟩ | ⟨_, hS3⟩
  · exact absurd z t3
  refine Tm_suc (fun k => by rw [x_partsOf]) ?_
  obtain ⟨y, hy⟩ : ∃ y, GPt T n E f (o + 1) (tkN T n q) v 0 0 b = some y := by
    rcases gb_any hG with ⟨yf, h, _⟩ | ⟨t, h, _⟩
    · exact ⟨_, h⟩
    · exact ⟨_, h⟩
  refine parts_loop (M := M) (P := P) f _ _ _ _ _ y hy r3.2 _ _ hS3 h1 hM hP (by omega) (by omega) (by rw [upd_other (by decide), upd_other (by decide), upd_same]; rfl) upd_same (fun z => absurd rfl z) ?_
  intro ρ N' hFρ hm
  have hFρ := FrM_tr hF3 hFρ
  rw [hy] at hG
  cases y with
  | inl yf =>
    obtain ⟨m, j1, j2, j3⟩ := hm
    have hx := (Option.some.inj hG).symm
    subst hx
    exact pts10b j1 hFρ (by omega) (by omega) j2
  | inr s =>
    have hG : gW T n 11 s.1 (fun q2 => gW T n 1 q2 (fun q3 => gb (G T n f 0 E o q3 s.2.1 0 0 0 0 s.2.2.2.2.1) (fun t => gW T n 13 t.1 (fun q4 => some (Sum.inr (q4, t.2.1, 0, t.2.2.2.2.1.1, bNode t.2.2.2.2.1 42 (nI s.2.2.2.1) (nI t.2.2.2.1) 0, [])))))) = some x := hG
    obtain ⟨hSs, k1⟩ := hm
    obtain ⟨⟨a1, a2, a3, a4, a5, a6, a7, a8⟩, a9, a10⟩ := gpt_mo f _ _ _ _ _ _ s M hu.2.1 hv hy hM h1 (fun z => absurd rfl z)
    have hus := tkN_b T n s.1 a2
    refine Tm_suc (fun k => by rw [x_partsOf]) ?_
    refine Tm_ob (p_want (M := M) (P := P) (w := E.2.2.2.1) hSs (s := 11) (by decide) (by decide) rfl) (fun r6 hr6 => ?_)
    show Tm (fun k => x_partsOf k 11 N' (mOpn r6.2 (r6.2.1 13 - 1))) _
    have hF6 : FrM M P E.2.2.2.1 σ (mOpn r6.2 (r6.2.1 13 - 1)) := FrM_tr hFρ (FrM_tr hr6.1 (FrM_opn _))
    rcases gW_any hG with ⟨t6, rfl⟩ | ⟨t6, hG⟩
    · rcases hr6.2 with ⟨_, hB⟩ | ⟨y, _⟩
      · exact pts11b (Bb_opn hB _) hF6 (by omega) (by omega) (by omega)
      · exact absurd y t6
    rcases hr6.2 with ⟨y, _⟩ | ⟨_, hS6⟩
    · exact absurd t6 y
    exact pts11 hG (PS_clo hS6) hF6 k1 h1 (by omega) (by omega) (by omega) (by omega) (by omega)
end PTS
end JnS59
section JnS60
variable {yf : Nat × Nat}
/-! What begins with a name: a call, an assignment. -/
def gE13 (T : Nat → Int32) (n f : Nat) (E : En) (o q v : Nat) (b : BT) (a c z : Int32) : RG := gb (G T n f 0 E o q v 0 0 0 0 b) (fun s => gW T n 13 s.1 (fun q4 => some (Sum.inr (q4, s.2.1, 0, s.2.2.2.2.1.1, bNode s.2.2.2.2.1 a c (nI s.2.2.2.1) z, []))))
def gCa (T : Nat → Int32) (n f : Nat) (MD : Nat → Nat → Nat) (tg : Int32) (E : En) (o q v : Nat) (b : BT) : RG := gCl T n f (MD (fd E (tkS T n q)).2.1) (E.2.2.2.2.2.2 (fd E (tkS T n q)).2.1) (fd E (tkS T n q)).2.1 tg E o q v b
/-- behind a target and := -/
def gAs (T : Nat → Int32) (n f : Nat) (MD : Nat → Nat → Nat) (E : En) (o i e q v : Nat) (b : BT) : RG :=
  if tkK T n q = 63 then (if i = 1 then gT T n q (fun q2 => gW T n 13 q2 (fun q3 => some (Sum.inr (q3, v, 0, b.1, bNode b 44 (nI e) 0 0, [])))) else some (Sum.inl (2, q)))
  else if tkK T n q = 26 ∧ (fd E (tkS T n q)).1 = 3 then gCa T n f MD (nI e) E o q v b
  else gE13 T n f E o q v b 40 (nI e) 0
def gBh (T : Nat → Int32) (n f : Nat) (MD : Nat → Nat → Nat) (E : En) (o i e q v : Nat) (b : BT) : RG :=
  if tkK T n q = 2 ∨ tkK T n q = 3 ∨ tkK T n q = 4 then gT T n q (fun q1 => gW T n 1 q1 (fun q2 => gE13 T n f E o q2 v b 41 (nI e) (opr (tkK T n q))))
  else if tkK T n q = 57 ∨ tkK T n q = 58 ∨ tkK T n q = 59 then gT T n q (fun q1 => gb (gTg T n f E o q1 v b) (fun s => gW T n 13 s.1 (fun q2 => some (Sum.inr (q2, s.2.1, 0, s.2.2.2.2.1.1, bNode s.2.2.2.2.1 43 (nI e) (nI s.2.2.2.1) (nI (tkK T n q - 32)), [])))))
  else gW T n 1 q (fun q1 => gAs T n f MD E o i e q1 v b)
def gBg (T : Nat → Int32) (n f : Nat) (MD : Nat → Nat → Nat) (E : En) (o q v : Nat) (b : BT) : RG :=
  if (fd E (tkS T n q)).1 = 3 then gCa T n f MD (-1) E o q v b else gb (gTg T n f E o q v b) (fun r => gBh T n f MD E o r.2.2.1 r.2.2.2.1 r.1 r.2.1 r.2.2.2.2.1)
/-- the modes of the procs that are told -/
def PMs (σ : MS) (E : En) (MD : Nat → Nat → Nat) : Prop := ∀ x ∈ E.1, x.2.2.1 = 3 → ∀ i, i < E.2.2.2.2.2.2 x.2.2.2 → σ.2.2 19 (8 * x.2.2.2 + i) = nI (MD x.2.2.2 i) ∧ MD x.2.2.2 i ≤ 2
theorem fd_3 {E : En} {s : List Int32} (h : (fd E s).1 = 3) : ∃ x ∈ E.1, x.2.2.1 = 3 ∧ x.2.2.2 = (fd E s).2.1 := by
  unfold fd at h ⊢
  cases hS : E.2.1.find? (fun x => decide (x.1 = s)) with
  | some x => rw [hS] at h; exact absurd (show (1 : Nat) = 3 from h) (by decide)
  | none =>
    rw [hS] at h
    cases hG : E.1.find? (fun x => decide (x.1 = s)) with
    | some x => rw [hG] at h; exact ⟨x, List.mem_of_find?_eq_some hG, h, rfl⟩
    | none => rw [hG] at h; exact absurd (show (0 : Nat) = 3 from h) (by decide)
section BEG
variable {T : Nat → Int32} {n : Nat} {E : En} {o M P : Nat}
theorem PMs_fr {σ τ : MS} {MD : Nat → Nat → Nat} {w : Nat} (h : PMs σ E MD) (hF : FrM M P w σ τ) : PMs τ E MD := by
  unfold PMs
  rw [hF.2.2.1 19 (by decide)]; exact h
/-- ; and a node, after a fault -/
theorem wnb {m K : Nat} {σ ρ : MS} {N L : Nat → Int32} (hB : Bb yf m ρ) (hF : FrM M P E.2.2.2.1 σ ρ) (hm : m < 70000) (hK : m + 1 ≤ K) (hM : M ≤ m) : Tm (fun k => ob (x_want k 0 N ρ) (fun r3 => ob (x_node k 0 L r3.2) (fun r4 => some (r4.1, r4.2)))) (Po T n E o M P K σ (Sum.inl yf)) := by
  refine Tm_ob (b_want hB.1 _) (fun r hr => ?_)
  obtain ⟨u, τ⟩ := r
  have hr : τ = ρ := hr
  subst hr
  refine Tm_ob (b_node (M := M) (P := P) (w := E.2.2.2.1) hB hm hM _) (fun r hr => ?_)
  exact Tm_some ⟨⟨_, hr.2.1, hK, by omega⟩, ⟨_, hr.1, by omega, Or.inr hM⟩, FrM_tr hF hr.2.2⟩
theorem wn {q v K : Nat} {b : BT} {x : Fl RT} {a c d z : Int32} {σ ρ : MS} (hG : gW T n 13 q (fun q4 => some (Sum.inr (q4, v, 0, b.1, bNode b a c d z, []))) = some x) (hS : PS T n E o q v b ρ) (hF : FrM M P E.2.2.2.1 σ ρ) (hm : b.1 < 70000) (hK : b.1 + 1 ≤ K) (hM : M ≤ b.1) : Tm (fun k => ob (x_want k 0 (upd (fun _ => 0) 1 13) ρ) (fun r3 => ob (x_node k 0 (upd (upd (upd (upd (fun _ => 0) 1 a) 2 c) 3 d) 4 z) r3.2) (fun r4 => some (r4.1, r4.2)))) (Po T n E o M P K σ x) := by
  refine Tm_ob (p_want (M := M) (P := P) (w := E.2.2.2.1) hS (s := 13) (by decide) (by decide) rfl) (fun r3 hr3 => ?_)
  rcases gW_any hG with ⟨t3, rfl⟩ | ⟨t3, hG⟩
  · rcases hr3.2 with ⟨_, hB⟩ | ⟨y, _⟩
    · refine Tm_ob (b_node (M := M) (P := P) (w := E.2.2.2.1) hB hm hM _) (fun r hr => ?_)
      exact Tm_some ⟨⟨_, hr.2.1, hK, by omega⟩, ⟨_, hr.1, by omega, Or.inr hM⟩, FrM_tr hF (FrM_tr hr3.1 hr.2.2)⟩
    · exact absurd y t3
  rcases hr3.2 with ⟨y, _⟩ | ⟨_, hS3⟩
  · exact absurd t3 y
  refine Tm_ob (p_nd (M := M) (P := P) (w := E.2.2.2.1) hS3 hm hM) (fun r hr => ?_)
  cases hG
  exact Tm_some ⟨hr.2.1, hr.1, FrM_tr hF (FrM_tr hr3.1 hr.2.2)⟩
theorem ewnb {m K : Nat} {σ ρ : MS} {N N' : Nat → Int32} {g : Int32 → Nat → Int32} (hB : Bb yf m ρ) (hF : FrM M P E.2.2.2.1 σ ρ) (hm : m < 70000) (hK : m + 1 ≤ K) (hM : M ≤ m) : Tm (fun k => ob (x_exp k 0 N' ρ) (fun r2 => ob (x_want k 0 N r2.2) (fun r3 => ob (x_node k 0 (g r2.1) r3.2) (fun r4 => some (r4.1, r4.2))))) (Po T n E o M P K σ (Sum.inl yf)) := by
  refine Tm_ob (b_xexp hB.1 _) (fun r hr => ?_)
  subst hr
  exact wnb hB hF hm hK hM
theorem ewn {f q v K : Nat} {b : BT} {x : Fl RT} {a c z : Int32} {σ ρ : MS} (hG : gE13 T n f E o q v b a c z = some x) (hS : PS T n E o q v b ρ) (hF : FrM M P E.2.2.2.1 σ ρ) (h1 : 1 ≤ M) (hM : M ≤ b.1) (hP : P ≤ b.2.1) (hn : b.1 + (n + 1 - q) + 967 ≤ 70000) (hp : b.2.1 + (n - q) ≤ 70000) (hK : b.1 + (n + 1 - q) + 964 ≤ K) : Tm (fun k => ob (x_exp k 0 (fun _ => 0) ρ) (fun r2 => ob (x_want k 0 (upd (fun _ => 0) 1 13) r2.2) (fun r3 => ob (x_node k 0 (upd (upd (upd (upd (fun _ => 0) 1 a) 2 c) 3 r2.1) 4 z) r3.2) (fun r4 => some (r4.1, r4.2))))) (Po T n E o M P K σ x) := by
  have hq := PS_q hS
  have hv := PS_v hS
  unfold gE13 at hG
  rcases gb_any hG with ⟨yf, h7, hy⟩ | ⟨s, h7, hG⟩
  · subst hy
    refine Tm_ob (p_exp (M := M) (P := P) h7 hS h1 hM hP (by omega) (by omega)) (fun r2 hr2 => ?_)
    obtain ⟨⟨m1, hm, hmk, hMm⟩, _, hF2⟩ := hr2
    exact wnb hm (FrM_tr hF hF2) (by omega) (by omega) hMm
  obtain ⟨⟨a1, a2, a3, a4, a5, a6, a7, a8⟩, a9⟩ := mo_of (M := M) hq.1 hv h7 hM h1 trivial (fun h => h) (fun h => h)
  refine Tm_ob (p_exp (M := M) (P := P) h7 hS h1 hM hP (by omega) (by omega)) (fun r2 hr2 => ?_)
  obtain ⟨hS2, hr21, hF2⟩ := hr2
  rw [hr21]
  exact wn hG hS2 (FrM_tr hF hF2) (by omega) (by omega) (by omega)
/-- x op := exp ; -/
theorem bg3 {f q v e K : Nat} {b : BT} {x : Fl RT} {σ ρ : MS} {N : Nat → Int32} (hG : gT T n q (fun q1 => gW T n 1 q1 (fun q2 => gE13 T n f E o q2 v b 41 (nI e) (opr (tkK T n q)))) = some x) (hKq : 1 ≤ tkK T n q ∧ tkK T n q ≤ 24) (hN : N 1 = nI e) (hS : PS T n E o q v b ρ) (hF : FrM M P E.2.2.2.1 σ ρ) (h1 : 1 ≤ M) (hM : M ≤ b.1) (hP : P ≤ b.2.1) (hn : b.1 + (n + 1 - q) + 967 ≤ 70000) (hp : b.2.1 + (n - q) ≤ 70000) (hK : b.1 + (n + 1 - q) + 964 ≤ K) : Tm (fun k => x_begun k 3 N ρ) (Po T n E o M P K σ x) := by
  have hq := PS_q hS
  have hu := tkN_b T n q hq.1
  refine Tm_suc (fun k => by rw [x_begun]) ?_
  refine Tm_ob (p_operator hS (Or.inl hKq) _) (fun r1 hr1 => ?_)
  subst hr1
  rw [hN]
  refine Tm_ob (p_take (M := M) (P := P) (w := E.2.2.2.1) hS _) (fun r2 hr2 => ?_)
  rcases gT_any hG with ⟨t2, rfl⟩ | ⟨t2, hG⟩
  · rcases hr2.2 with ⟨_, hB⟩ | ⟨z, _⟩
    · refine Tm_ob (b_want hB.1 _) (fun r hr => ?_)
      obtain ⟨u, τ⟩ := r
      have hr : τ = r2.2 := hr
      subst hr
      exact ewnb (g := fun y => upd (upd (upd (upd (fun _ => 0) 1 41) 2 (nI e)) 3 y) 4 (opr (tkK T n q))) hB (FrM_tr hF hr2.1) (by omega) (by omega) hM
    · exact absurd t2 z
  rcases hr2.2 with ⟨z, _⟩ | ⟨_, hS2⟩
  · exact absurd z t2
  have hu2 := tkN_b T n (tkN T n q) hu.2.1
  refine Tm_ob (p_want (M := M) (P := P) (w := E.2.2.2.1) hS2 (s := 1) (by decide) (by decide) rfl) (fun r3 hr3 => ?_)
  have hF3 := FrM_tr hF (FrM_tr hr2.1 hr3.1)
  rcases gW_any hG with ⟨t3, rfl⟩ | ⟨t3, hG⟩
  · rcases hr3.2 with ⟨_, hB⟩ | ⟨y, _⟩
    · exact ewnb (g := fun y => upd (upd (upd (upd (fun _ => 0) 1 41) 2 (nI e)) 3 y) 4 (opr (tkK T n q))) hB hF3 (by omega) (by omega) hM
    · exact absurd y t3
  rcases hr3.2 with ⟨y, _⟩ | ⟨_, hS3⟩
  · exact absurd t3 y
  exact ewn hG hS3 hF3 h1 hM hP (by omega) (by omega) (by omega)
/-- x from y ; and its like -/
theorem bg5 {f q v e K : Nat} {b : BT} {x : Fl RT} {σ ρ : MS} {N : Nat → Int32} (hG : gT T n q (fun q1 => gb (gTg T n f E o q1 v b) (fun s => gW T n 13 s.1 (fun q2 => some (Sum.inr (q2, s.2.1, 0, s.2.2.2.2.1.1, bNode s.2.2.2.2.1 43 (nI e) (nI s.2.2.2.1) (nI (tkK T n q - 32)), []))))) = some x) (hKq : 32 ≤ tkK T n q) (hN : N 1 = nI e) (hS : PS T n E o q v b ρ) (hF : FrM M P E.2.2.2.1 σ ρ) (h1 : 1 ≤ M) (hM : M ≤ b.1) (hP : P ≤ b.2.1) (hn : b.1 + (n + 1 - q) + 967 ≤ 70000) (hp : b.2.1 + (n - q) ≤ 70000) (hK : b.1 + (n + 1 - q) + 964 ≤ K) : Tm (fun k => x_begun k 5 N ρ) (Po T n E o M P K σ x) := by
  have hq := PS_q hS
  have hv := PS_v hS
  have hu := tkN_b T n q hq.1
  have h7 : ρ.1 7 = nI (tkK T n q - 32) := (cur_what (PS_cur hS)).2.1 hKq
  refine Tm_suc (fun k => by rw [x_begun]) ?_
  rw [hN, h7]
  refine Tm_ob (p_take (M := M) (P := P) (w := E.2.2.2.1) hS _) (fun r2 hr2 => ?_)
  rcases gT_any hG with ⟨t2, rfl⟩ | ⟨t2, hG⟩
  · rcases hr2.2 with ⟨_, hB⟩ | ⟨z, _⟩
    · refine Tm_ob (b_target hB.1 _) (fun r hr => ?_)
      subst hr
      exact wnb hB (FrM_tr hF hr2.1) (by omega) (by omega) hM
    · exact absurd t2 z
  rcases hr2.2 with ⟨z, _⟩ | ⟨_, hS2⟩
  · exact absurd z t2
  have hF2 := FrM_tr hF hr2.1
  rcases gb_any hG with ⟨yf, h7, hy⟩ | ⟨s, h7, hG⟩
  · subst hy
    refine Tm_ob (p_target (M := M) (P := P) h7 hS2 h1 hM hP (by omega) (by omega)) (fun r3 hr3 => ?_)
    obtain ⟨⟨m1, hm, hmk, hMm⟩, _, hF3⟩ := hr3
    exact wnb hm (FrM_tr hF2 hF3) (by omega) (by omega) hMm
  obtain ⟨⟨a1, a2, a3, a4, a5, a6, a7, a8⟩, a9, a10, a11⟩ := gTg_mo (M := M) hu.2.1 hv hM h1 h7
  refine Tm_ob (p_target (M := M) (P := P) h7 hS2 h1 hM hP (by omega) (by omega)) (fun r3 hr3 => ?_)
  obtain ⟨hS3, hr31, hF3⟩ := hr3
  rw [hr31]
  exact wn hG hS3 (FrM_tr hF2 hF3) (by omega) (by omega) (by omega)
/-- a call -/
theorem bg_call {f q v K : Nat} {b : BT} {x : Fl RT} {MD : Nat → Nat → Nat} {tg : Int32} {σ ρ : MS} {L : Nat → Int32} (hG : gCa T n f MD tg E o q v b = some x) (hKq : tkK T n q = 26) (h3 : (fd E (tkS T n q)).1 = 3) (hL : L 1 = tg) (hS : PS T n E o q v b ρ) (h47 : ρ.1 47 = nI (fd E (tkS T n q)).2.1) (hc : (fd E (tkS T n q)).2.1 < 41 ∧ ρ.2.2 18 (fd E (tkS T n q)).2.1 = nI (E.2.2.2.2.2.2 (fd E (tkS T n q)).2.1) ∧ E.2.2.2.2.2.2 (fd E (tkS T n q)).2.1 ≤ 8) (hMD : PMs ρ E MD) (hF : FrM M P E.2.2.2.1 σ ρ) (h1 : 1 ≤ M) (hM : M ≤ b.1) (hP : P ≤ b.2.1) (hn : b.1 + (n + 1 - q) + 967 ≤ 70000) (hp : b.2.1 + (n - q) ≤ 70000) (hK : b.1 + (n + 1 - q) + 964 ≤ K) : Tm (fun k => ob (x_call k 0 L ρ) (fun r3 => some (r3.1, r3.2))) (Po T n E o M P K σ x) := by
  obtain ⟨y, y1, y2, y3⟩ := fd_3 h3
  have hPM : PM ρ (MD (fd E (tkS T n q)).2.1) (E.2.2.2.2.2.2 (fd E (tkS T n q)).2.1) (fd E (tkS T n q)).2.1 := ⟨hc.1, hc.2.2, hc.2.1, fun i hi => by
    have := hMD y y1 y2 i (by rw [y3]; exact hi)
    rw [y3] at this; exact this⟩
  refine Tm_ob (p_call (M := M) (P := P) hG hKq h47 hPM hL hS h1 hM hP hn hp) (fun r hr => ?_)
  exact Tm_some (Po_tr hF hK hr)
end BEG
end JnS60
section JnS61
variable {yf : Nat × Nat}
/-! What begins with a name: the reference's. -/
section BEG
variable {T : Nat → Int32} {n : Nat} {E : En} {o M P : Nat}
/-- behind := -/
theorem bg7 {f q v i e K : Nat} {b : BT} {x : Fl RT} {MD : Nat → Nat → Nat} {σ ρ : MS} {N : Nat → Int32} (hG : gAs T n f MD E o i e q v b = some x) (hN : N 1 = nI e) (hI : Inf b e i) (he1 : 1 ≤ e) (he2 : e < b.1) (hS : PS T n E o q v b ρ) (hMD : PMs ρ E MD) (hF : FrM M P E.2.2.2.1 σ ρ) (h1 : 1 ≤ M) (hM : M ≤ b.1) (hP : P ≤ b.2.1) (hn : b.1 + (n + 1 - q) + 967 ≤ 70000) (hp : b.2.1 + (n - q) ≤ 70000) (hK : b.1 + (n + 1 - q) + 964 ≤ K) : Tm (fun k => x_begun k 7 N ρ) (Po T n E o M P K σ x) := by
  have hq := PS_q hS
  have hu := tkN_b T n q hq.1
  unfold gAs at hG
  refine Tm_suc (fun k => by rw [x_begun]) ?_
  refine Tm_ob (p_word hS (s := 31) (by decide) rfl) (fun r1 hr1 => ?_)
  obtain ⟨u, τ⟩ := r1
  obtain ⟨h3, hr1⟩ := hr1
  have h3 : τ = ρ := h3
  subst h3
  refine Tm_ite (fun z => ?_) (fun z => ?_)
  · have h63 : ¬ tkK T n q = 63 := fun y => hr1.mpr y z
    rw [if_neg h63] at hG
    have ten : ∀ (ρ : MS), PS T n E o q v b ρ → FrM M P E.2.2.2.1 σ ρ → ¬ (tkK T n q = 26 ∧ (fd E (tkS T n q)).1 = 3) → Tm (fun k => x_begun k 10 N ρ) (Po T n E o M P K σ x) := fun ρ hS hF hno => by
      rw [if_neg hno] at hG
      refine Tm_suc (fun k => by rw [x_begun]) ?_
      rw [hN]
      exact ewn hG hS hF h1 hM hP hn hp hK
    refine Tm_suc (fun k => by rw [x_begun]) ?_
    refine Tm_ite (fun z => ?_) (fun z => ?_)
    · have hK26 := (cur_kind (PS_cur hS)).2.1.mp z
      refine Tm_ob (p_find (M := M) (P := P) (w := E.2.2.2.1) hS (by omega) _) (fun r2 hr2 => ?_)
      obtain ⟨hS2, hF2, hsame, h46, hF3, h47, hcal⟩ := hr2
      rw [h46]
      refine Tm_ite (c := nI (fd E (tkS T n q)).1 = 3) (fun y => ?_) (fun y => ?_)
      · have y : nI (fd E (tkS T n q)).1 = nI 3 := y
        rw [n_eq (by omega) (by omega)] at y
        rw [if_pos ⟨hK26, y⟩] at hG
        refine bg_call (M := M) (P := P) hG hK26 y (by rw [upd_same]; exact hN) hS2 (h47 (by omega)).1 ?_ (PMs_fr hMD hF2) (FrM_tr hF hF2) h1 hM hP hn hp hK
        have hc := hcal (by omega) (by omega)
        rw [hF2.2.2.1 18 (by decide)]
        exact hc
      · have y : ¬ nI (fd E (tkS T n q)).1 = nI 3 := y
        rw [n_eq (by omega) (by omega)] at y
        exact ten r2.2 hS2 (FrM_tr hF hF2) (fun c => y c.2)
    · exact ten τ hS hF (fun c => z ((cur_kind (PS_cur hS)).2.1.mpr c.1))
  · have h63 := hr1.mp z
    rw [if_pos h63] at hG
    rw [hN]
    refine Tm_chk (n_in (by omega) (by omega)) ?_
    rw [n_cl (p := e) (by omega)]
    have h4 : τ.2.2 4 e = b.2.2.1 4 e := hS.2.2.1.2.2.2.1 4 (by decide) (by decide) e he1 he2
    refine Tm_ite (fun y => ?_) (fun y => ?_)
    · rw [if_pos (hI.1.mpr (by rw [← h4]; exact y))] at hG
      refine Tm_suc (fun k => by rw [x_begun]) ?_
      rw [hN]
      refine Tm_ob (p_take (M := M) (P := P) (w := E.2.2.2.1) hS _) (fun r2 hr2 => ?_)
      rcases gT_any hG with ⟨t2, rfl⟩ | ⟨t2, hG⟩
      · rcases hr2.2 with ⟨_, hB⟩ | ⟨z, _⟩
        · exact wnb hB (FrM_tr hF hr2.1) (by omega) (by omega) hM
        · exact absurd t2 z
      rcases hr2.2 with ⟨z, _⟩ | ⟨_, hS2⟩
      · exact absurd z t2
      exact wn hG hS2 (FrM_tr hF hr2.1) (by omega) (by omega) hM
    · rw [if_neg (fun c => y (by show τ.2.2 4 e = 7; rw [h4]; exact hI.1.mp c))] at hG
      have hx := (Option.some.inj hG).symm
      subst hx
      refine Tm_ob (p_cannot (M := M) (P := P) (w := E.2.2.2.1) hS _) (fun rc hrc => ?_)
      exact Tm_some ⟨⟨_, hrc.1, by omega, hM⟩, ⟨0, rfl, by decide, Or.inl rfl⟩, FrM_tr hF hrc.2⟩
/-- behind a target -/
theorem bg2 {f q v i e K : Nat} {b : BT} {x : Fl RT} {MD : Nat → Nat → Nat} {σ ρ : MS} {N : Nat → Int32} (hG : gBh T n f MD E o i e q v b = some x) (hN : N 1 = nI e) (hI : Inf b e i) (he1 : 1 ≤ e) (he2 : e < b.1) (hS : PS T n E o q v b ρ) (hMD : PMs ρ E MD) (hF : FrM M P E.2.2.2.1 σ ρ) (h1 : 1 ≤ M) (hM : M ≤ b.1) (hP : P ≤ b.2.1) (hn : b.1 + (n + 1 - q) + 967 ≤ 70000) (hp : b.2.1 + (n - q) ≤ 70000) (hK : b.1 + (n + 1 - q) + 964 ≤ K) : Tm (fun k => x_begun k 2 N ρ) (Po T n E o M P K σ x) := by
  have hq := PS_q hS
  have hu := tkN_b T n q hq.1
  unfold gBh at hG
  have six : ¬ (tkK T n q = 2 ∨ tkK T n q = 3 ∨ tkK T n q = 4) → ¬ (tkK T n q = 57 ∨ tkK T n q = 58 ∨ tkK T n q = 59) → Tm (fun k => x_begun k 6 N ρ) (Po T n E o M P K σ x) := fun c1 c2 => by
    rw [if_neg c1, if_neg c2] at hG
    refine Tm_suc (fun k => by rw [x_begun]) ?_
    refine Tm_ob (p_want (M := M) (P := P) (w := E.2.2.2.1) hS (s := 1) (by decide) (by decide) rfl) (fun r3 hr3 => ?_)
    rcases gW_any hG with ⟨t3, rfl⟩ | ⟨t3, hG⟩
    · rcases hr3.2 with ⟨_, hB⟩ | ⟨y, _⟩
      · refine Tm_ite (fun z => absurd z hB.1) (fun _ => ?_)
        exact Tm_some ⟨⟨_, hB, by omega, hM⟩, ⟨0, rfl, by decide, Or.inl rfl⟩, FrM_tr hF hr3.1⟩
      · exact absurd y t3
    rcases hr3.2 with ⟨y, _⟩ | ⟨_, hS3⟩
    · exact absurd t3 y
    refine Tm_ite (fun _ => ?_) (fun z => absurd (PS_ok hS3) z)
    exact bg7 hG hN hI he1 he2 hS3 (PMs_fr hMD hr3.1) (FrM_tr hF hr3.1) h1 hM hP (by omega) (by omega) (by omega)
  have five : ¬ (tkK T n q = 2 ∨ tkK T n q = 3 ∨ tkK T n q = 4) → (tkK T n q = 57 ∨ tkK T n q = 58 ∨ tkK T n q = 59) → Tm (fun k => x_begun k 5 N ρ) (Po T n E o M P K σ x) := fun c1 c2 => by
    rw [if_neg c1, if_pos c2] at hG
    exact bg5 hG (by omega) hN hS hF h1 hM hP hn hp hK
  have four : ¬ (tkK T n q = 2 ∨ tkK T n q = 3 ∨ tkK T n q = 4) → Tm (fun k => x_begun k 4 N ρ) (Po T n E o M P K σ x) := fun c1 => by
    refine Tm_suc (fun k => by rw [x_begun]) ?_
    refine Tm_ob (p_word hS (s := 25) (by decide) rfl) (fun r1 hr1 => ?_)
    obtain ⟨u, τ⟩ := r1
    obtain ⟨h3, hr1⟩ := hr1
    have h3 : τ = ρ := h3
    subst h3
    refine Tm_ite (fun z1 => ?_) (fun z => five c1 (Or.inl (hr1.mp z)))
    refine Tm_ob (p_word hS (s := 26) (by decide) rfl) (fun r2 hr2 => ?_)
    obtain ⟨u2, ρ2⟩ := r2
    obtain ⟨h3, hr2⟩ := hr2
    have h3 : ρ2 = τ := h3
    subst h3
    refine Tm_ite (fun z2 => ?_) (fun z => five c1 (Or.inr (Or.inl (hr2.mp z))))
    refine Tm_ob (p_word hS (s := 27) (by decide) rfl) (fun r4 hr4 => ?_)
    obtain ⟨u4, ρ4⟩ := r4
    obtain ⟨h3, hr4⟩ := hr4
    have h3 : ρ4 = ρ2 := h3
    subst h3
    refine Tm_ite (fun z3 => ?_) (fun z => five c1 (Or.inr (Or.inr (hr4.mp z))))
    refine six c1 (fun y => ?_)
    rcases y with y | y | y
    · exact hr1.mpr y z1
    · exact hr2.mpr y z2
    · exact hr4.mpr y z3
  have three : (tkK T n q = 2 ∨ tkK T n q = 3 ∨ tkK T n q = 4) → Tm (fun k => x_begun k 3 N ρ) (Po T n E o M P K σ x) := fun c1 => by
    rw [if_pos c1] at hG
    exact bg3 hG (by omega) hN hS hF h1 hM hP hn hp hK
  refine Tm_suc (fun k => by rw [x_begun]) ?_
  refine Tm_ob (p_sign hS (s := 2) (by decide) (by decide) rfl) (fun r1 hr1 => ?_)
  obtain ⟨u, τ⟩ := r1
  obtain ⟨h3, hr1⟩ := hr1
  have h3 : τ = ρ := h3
  subst h3
  refine Tm_ite (fun z1 => ?_) (fun z => three (Or.inl (hr1.mp z)))
  refine Tm_ob (p_sign hS (s := 3) (by decide) (by decide) rfl) (fun r2 hr2 => ?_)
  obtain ⟨u2, ρ2⟩ := r2
  obtain ⟨h3, hr2⟩ := hr2
  have h3 : ρ2 = τ := h3
  subst h3
  refine Tm_ite (fun z2 => ?_) (fun z => three (Or.inr (Or.inl (hr2.mp z))))
  refine Tm_ob (p_sign hS (s := 4) (by decide) (by decide) rfl) (fun r4 hr4 => ?_)
  obtain ⟨u4, ρ4⟩ := r4
  obtain ⟨h3, hr4⟩ := hr4
  have h3 : ρ4 = ρ2 := h3
  subst h3
  refine Tm_ite (fun z3 => ?_) (fun z => three (Or.inr (Or.inr (hr4.mp z))))
  refine four (fun y => ?_)
  rcases y with y | y | y
  · exact hr1.mpr y z1
  · exact hr2.mpr y z2
  · exact hr4.mpr y z3
theorem p_begun {f q v : Nat} {b : BT} {x : Fl RT} {MD : Nat → Nat → Nat} {σ : MS} {L : Nat → Int32} (hG : gBg T n f MD E o q v b = some x) (hKq : tkK T n q = 26) (hS : PS T n E o q v b σ) (hMD : PMs σ E MD) (h1 : 1 ≤ M) (hM : M ≤ b.1) (hP : P ≤ b.2.1) (hn : b.1 + (n + 1 - q) + 967 ≤ 70000) (hp : b.2.1 + (n - q) ≤ 70000) : Tm (fun k => x_begun k 0 L σ) (Po T n E o M P (b.1 + (n + 1 - q) + 964) σ x) := by
  have hq := PS_q hS
  have hv := PS_v hS
  unfold gBg at hG
  refine Tm_suc (fun k => by rw [x_begun]) ?_
  refine Tm_ob (p_find (M := M) (P := P) (w := E.2.2.2.1) hS (by omega) _) (fun r2 hr2 => ?_)
  obtain ⟨hS2, hF2, hsame, h46, hF3, h47, hcal⟩ := hr2
  rw [h46]
  refine Tm_ite (c := nI (fd E (tkS T n q)).1 = 3) (fun y => ?_) (fun y => ?_)
  · have y : nI (fd E (tkS T n q)).1 = nI 3 := y
    rw [n_eq (by omega) (by omega)] at y
    rw [if_pos y] at hG
    refine bg_call (M := M) (P := P) hG hKq y upd_same hS2 (h47 (by omega)).1 ?_ (PMs_fr hMD hF2) hF2 h1 hM hP hn hp (Nat.le_refl _)
    have hc := hcal (by omega) (by omega)
    rw [hF2.2.2.1 18 (by decide)]
    exact hc
  · have y : ¬ nI (fd E (tkS T n q)).1 = nI 3 := y
    rw [n_eq (by omega) (by omega)] at y
    rw [if_neg y] at hG
    refine Tm_suc (fun k => by rw [x_begun]) ?_
    rcases gb_any hG with ⟨yf, h7, hy⟩ | ⟨s, h7, hG⟩
    · subst hy
      refine Tm_ob (p_target (M := M) (P := P) h7 hS2 h1 hM hP (by omega) (by omega)) (fun r3 hr3 => ?_)
      obtain ⟨⟨m1, hm, hmk, hMm⟩, _, hF3⟩ := hr3
      refine Tm_ite (fun z => absurd z hm.1) (fun _ => ?_)
      exact Tm_some ⟨⟨_, hm, by omega, hMm⟩, ⟨0, rfl, by decide, Or.inl rfl⟩, FrM_tr hF2 hF3⟩
    obtain ⟨⟨a1, a2, a3, a4, a5, a6, a7, a8⟩, a9, a10, a11⟩ := gTg_mo (M := M) hq.1 hv hM h1 h7
    refine Tm_ob (p_target (M := M) (P := P) h7 hS2 h1 hM hP (by omega) (by omega)) (fun r3 hr3 => ?_)
    obtain ⟨hS3, hr31, hF3⟩ := hr3
    refine Tm_ite (fun _ => ?_) (fun z => absurd (PS_ok hS3) z)
    have hF3 := FrM_tr hF2 hF3
    exact bg2 hG (by rw [upd_same]; exact hr31) a11 (by omega) a9.2 hS3 (PMs_fr hMD hF3) hF3 h1 (by omega) (by omega) (by omega) (by omega) (by omega)
end BEG
end JnS61
section JnS62
variable {yf : Nat × Nat}
/-! Statements: the grammar GS over G, with what the reference lays of them (how many, up, place). -/
/-- statements, what each lies in, where each begins -/
abbrev SB := Nat × (Nat → Int32) × (Nat → Int32)
/-- the next token, variables, the statement's number, node (or the first of a list, 0: none), what is laid, statements -/
abbrev ST := Nat × Nat × Nat × Nat × BT × SB
abbrev SR := Option (Fl ST)
def hb (x : SR) (k : ST → SR) : SR := match x with
  | none => none
  | some (Sum.inl y) => some (Sum.inl y)
  | some (Sum.inr r) => k r
def lb (x : RG) (k : RT → SR) : SR := match x with
  | none => none
  | some (Sum.inl y) => some (Sum.inl y)
  | some (Sum.inr r) => k r
def hT (T : Nat → Int32) (n q : Nat) (k : Nat → SR) : SR := if tkK T n (tkN T n q) = 0 then some (Sum.inl (1, tkN T n q)) else k (tkN T n q)
def hW (T : Nat → Int32) (n t q : Nat) (k : Nat → SR) : SR := if tkK T n q = t then hT T n q k else some (Sum.inl (2, q))
/-- end ; -/
def hE (T : Nat → Int32) (n q : Nat) (k : Nat → SR) : SR := hW T n 38 q (fun q1 => hW T n 13 q1 k)
def sUp (s : SB) (i : Nat) (x : Int32) : SB := (s.1, upd s.2.1 i x, s.2.2)
def sPl (s : SB) (i : Nat) (x : Int32) : SB := (s.1, s.2.1, upd s.2.2 i x)
def sMo (s : SB) : SB := (s.1 + 1, s.2)
abbrev isBE (k : Nat) : Prop := k = 25 ∨ k = 38 ∨ k = 41 ∨ k = 42
abbrev isSt (k : Nat) : Prop := k = 26 ∨ k = 10 ∨ k = 39 ∨ k = 43 ∨ k = 45 ∨ (49 ≤ k ∧ k ≤ 56)
abbrev isOp (k : Nat) : Prop := k = 39 ∨ k = 43 ∨ k = 45 ∨ k = 10
/-- the fault at a statement's first token -/
def stF (k o : Nat) : Nat := if ¬ isSt k then 2 else if isOp k ∧ o = 20 then 3 else 8
theorem stF_2 {k o : Nat} (h : ¬ isSt k) : stF k o = 2 := if_pos h
theorem stF_3 {k o : Nat} (h : isSt k) (h2 : isOp k) (h3 : o = 20) : stF k o = 3 := by unfold stF; rw [if_neg (fun c => c h), if_pos ⟨h2, h3⟩]
theorem stF_8 {k o : Nat} (h : isSt k) (h2 : ¬ (isOp k ∧ o = 20)) : stF k o = 8 := by unfold stF; rw [if_neg (fun c => c h), if_neg h2]
def lif (s : SB) (r : RT) : SR := some (Sum.inr (r.1, r.2.1, 0, r.2.2.2.1, r.2.2.2.2.1, s))
/-- 0 a block within pe (first i, last l), 1 a statement, 2 ifs, 3 the branches of an if (its node i, last l), 4 whiles, 5 fors; lp: loops around -/
def GS (T : Nat → Int32) (n : Nat) (MD : Nat → Nat → Nat) : Nat → Nat → En → Nat → Nat → Nat → Nat → Int32 → Nat → Nat → BT → SB → SR
  | 0, _, _, _, _, _, _, _, _, _, _, _ => none
  | f + 1, nt, E, lp, o, q, v, pe, i, l, b, s => match nt with
    | 0 => if isBE (tkK T n q) then some (Sum.inr (q, v, 0, i, b, s)) else hb (GS T n MD f 1 E lp o q v 0 0 0 b s) (fun r => GS T n MD f 0 E lp o r.1 r.2.1 pe (fst2 i r.2.2.2.1) r.2.2.2.1 (bLnk i l r.2.2.2.1 r.2.2.2.2.1) (sUp r.2.2.2.2.2 r.2.2.1 pe))
    | 1 => if ¬ isSt (tkK T n q) ∨ (isOp (tkK T n q) ∧ o = 20) ∨ s.1 = 400 then some (Sum.inl (stF (tkK T n q) o, q))
      else hb (if tkK T n q = 26 then lb (gBg T n f MD E o q v b) (lif (sMo s))
        else if tkK T n q = 10 then lb (gPa T n f E o q v b) (lif (sMo s))
        else if tkK T n q = 39 then GS T n MD f 2 E lp o q v 0 0 0 b (sMo s)
        else if tkK T n q = 43 then GS T n MD f 4 E lp o q v 0 0 0 b (sMo s)
        else if tkK T n q = 45 then GS T n MD f 5 E lp o q v 0 0 0 b (sMo s)
        else lb (gSm T n f lp E o q v b) (lif (sMo s)))
        (fun r => some (Sum.inr (r.1, r.2.1, s.1, r.2.2.2.1, bSet r.2.2.2.2.1 8 r.2.2.2.1 (nI s.1), sPl r.2.2.2.2.2 s.1 (nI q))))
    | 2 => hT T n q (fun q1 => hb (GS T n MD f 3 E lp (o + 1) q1 v 0 b.1 0 (bNode b 46 (-1) 0 0) s) (fun r =>
        hb (if tkK T n r.1 = 42 then hT T n r.1 (fun q2 => hb (GS T n MD f 0 E lp (o + 1) q2 r.2.1 (nI b.1) 0 0 r.2.2.2.2.1 r.2.2.2.2.2) (fun t => some (Sum.inr (t.1, t.2.1, 0, 0, bSet (bNode t.2.2.2.2.1 33 (-2) (hd t.2.2.2.1) 0) 9 r.2.2.2.1 (nI t.2.2.2.2.1.1), t.2.2.2.2.2)))) else some (Sum.inr r))
          (fun t => hE T n t.1 (fun q3 => some (Sum.inr (q3, t.2.1, 0, b.1, t.2.2.2.2.1, t.2.2.2.2.2))))))
    | 3 => hb (if l = 0 ∧ tkK T n q = 63 then hT T n q (fun q1 => some (Sum.inr (q1, v, 0, 0, b, s))) else lb (G T n f 0 E o q v 0 0 0 0 b) (fun r => some (Sum.inr (r.1, r.2.1, 0, r.2.2.2.1, r.2.2.2.2.1, s))))
        (fun c => hW T n 40 c.1 (fun q2 => hb (GS T n MD f 0 E lp o q2 c.2.1 (nI i) 0 0 c.2.2.2.2.1 s) (fun t =>
          let b2 := bNode t.2.2.2.2.1 33 (if c.2.2.2.1 = 0 then -3 else nI c.2.2.2.1) (hd t.2.2.2.1) 0
          let m := t.2.2.2.2.1.1
          let b3 := if l = 0 then bSet b2 5 i (nI m) else bSet b2 9 l (nI m)
          if tkK T n t.1 = 41 then hT T n t.1 (fun q3 => GS T n MD f 3 E lp o q3 t.2.1 0 i m b3 t.2.2.2.2.2) else some (Sum.inr (t.1, t.2.1, 0, m, b3, t.2.2.2.2.2)))))
    | 4 => hT T n q (fun q1 => lb (G T n f 0 E (o + 1) q1 v 0 0 0 0 (bNode b 47 0 0 0)) (fun r => hW T n 44 r.1 (fun q2 => hb (GS T n MD f 0 E (lp + 1) (o + 1) q2 r.2.1 (nI b.1) 0 0 (bSet r.2.2.2.2.1 5 b.1 (nI r.2.2.2.1)) s) (fun t =>
        hE T n t.1 (fun q3 => some (Sum.inr (q3, t.2.1, 0, b.1, bSet t.2.2.2.2.1 6 b.1 (hd t.2.2.2.1), t.2.2.2.2.2)))))))
    | 5 => hT T n q (fun q1 => lb (G T n f 17 E (o + 1) q1 v 0 0 E.2.2.1.length 1 (bNode b 48 0 (-1) 0)) (fun r =>
        hb (if tkK T n r.1 = 15 then hT T n r.1 (fun q2 => lb (G T n f 0 (seeN E r.2.2.2.2.2) (o + 1) q2 r.2.1 0 0 0 0 (bSet r.2.2.2.2.1 5 b.1 (nI r.2.2.2.1))) (fun t => some (Sum.inr (t.1, t.2.1, 0, 0, bSet t.2.2.2.2.1 6 b.1 (nI t.2.2.2.1), s)))) else some (Sum.inr (r.1, r.2.1, 0, 0, bSet r.2.2.2.2.1 5 b.1 (nI r.2.2.2.1), s)))
          (fun c => hW T n 44 c.1 (fun q3 => hb (GS T n MD f 0 (seeN E r.2.2.2.2.2) (lp + 1) (o + 1) q3 c.2.1 (nI b.1) 0 0 c.2.2.2.2.1 s) (fun t =>
            hE T n t.1 (fun q4 => some (Sum.inr (q4, t.2.1, 0, b.1, bSet t.2.2.2.2.1 7 b.1 (hd t.2.2.2.1), t.2.2.2.2.2))))))))
    | _ => some (Sum.inl (2, q))
theorem hb_any {x : SR} {k : ST → SR} {y : Fl ST} (h : hb x k = some y) : (∃ e, x = some (Sum.inl e) ∧ y = Sum.inl e) ∨ ∃ s, x = some (Sum.inr s) ∧ k s = some y := by
  cases x with
  | none => exact absurd h (by intro h; cases h)
  | some z => cases z with
    | inl e => exact Or.inl ⟨e, rfl, (Option.some.inj h).symm⟩
    | inr s => exact Or.inr ⟨s, rfl, h⟩
theorem lb_any {x : RG} {k : RT → SR} {y : Fl ST} (h : lb x k = some y) : (∃ e, x = some (Sum.inl e) ∧ y = Sum.inl e) ∨ ∃ s, x = some (Sum.inr s) ∧ k s = some y := by
  cases x with
  | none => exact absurd h (by intro h; cases h)
  | some z => cases z with
    | inl e => exact Or.inl ⟨e, rfl, (Option.some.inj h).symm⟩
    | inr s => exact Or.inr ⟨s, rfl, h⟩
theorem hT_any {T : Nat → Int32} {n q : Nat} {k : Nat → SR} {y : Fl ST} (h : hT T n q k = some y) : (tkK T n (tkN T n q) = 0 ∧ y = Sum.inl (1, tkN T n q)) ∨ (¬ tkK T n (tkN T n q) = 0 ∧ k (tkN T n q) = some y) := by
  unfold hT at h
  by_cases c : tkK T n (tkN T n q) = 0
  · rw [if_pos c] at h; exact Or.inl ⟨c, (Option.some.inj h).symm⟩
  · rw [if_neg c] at h; exact Or.inr ⟨c, h⟩
theorem hW_any {T : Nat → Int32} {n t q : Nat} {k : Nat → SR} {y : Fl ST} (h : hW T n t q k = some y) : (¬ (tkK T n q = t ∧ ¬ tkK T n (tkN T n q) = 0) ∧ y = Sum.inl (wF T n t q)) ∨ ((tkK T n q = t ∧ ¬ tkK T n (tkN T n q) = 0) ∧ k (tkN T n q) = some y) := by
  unfold hW at h
  by_cases c : tkK T n q = t
  · rw [if_pos c] at h
    rcases hT_any h with ⟨a, b⟩ | ⟨a, b⟩
    · exact Or.inl ⟨fun z => z.2 a, by rw [wF_y c]; exact b⟩
    · exact Or.inr ⟨⟨c, a⟩, b⟩
  · rw [if_neg c] at h; exact Or.inl ⟨fun z => c z.1, by rw [wF_n c]; exact (Option.some.inj h).symm⟩
section STM
variable {T : Nat → Int32} {n : Nat} {E : En} {o q v M P w lp : Nat} {b : BT} {s : SB} {MD : Nat → Nat → Nat} {σ : MS}
/-- the state at a statement -/
def PZ (T : Nat → Int32) (n : Nat) (MD : Nat → Nat → Nat) (E : En) (lp o q v : Nat) (b : BT) (s : SB) (σ : MS) : Prop := PS T n E o q v b σ ∧ PMs σ E MD ∧ (σ.1 45 = nI lp ∧ lp ≤ o) ∧ σ.1 44 = nI s.1 ∧ s.1 ≤ 400 ∧ (∀ i, σ.2.2 10 i = s.2.1 i ∧ σ.2.2 11 i = s.2.2 i)
theorem PZ_fr {o' q' v' : Nat} {b' : BT} {τ : MS} (h : PZ T n MD E lp o q v b s σ) (hS : PS T n E o' q' v' b' τ) (hF : FrM M P w σ τ) (ho : o ≤ o') : PZ T n MD E lp o' q' v' b' s τ := by
  obtain ⟨_, h2, h3, h4, h5, h6⟩ := h
  refine ⟨hS, PMs_fr h2 hF, ?_, ?_, h5, ?_⟩
  · rw [hF.1 45 (by decide)]; exact ⟨h3.1, by omega⟩
  · rw [hF.1 44 (by decide)]; exact h4
  · rw [hF.2.2.1 10 (by decide), hF.2.2.1 11 (by decide)]; exact h6
theorem p_isBE (h : PS T n E o q v b σ) (L : Nat → Int32) : Tm (fun k => x_isBlockEnd k 0 L σ) (fun r => r.2 = σ ∧ (¬ r.1 = 0 ↔ isBE (tkK T n q))) := by
  have hc := cur_kind (PS_cur h)
  have yes : ∀ L : Nat → Int32, isBE (tkK T n q) → Tm (fun k => x_isBlockEnd k 1 L σ) (fun r => r.2 = σ ∧ (¬ r.1 = 0 ↔ isBE (tkK T n q))) := fun L hy => by
    refine Tm_suc (fun k => by rw [x_isBlockEnd]) ?_
    refine Tm_suc (fun k => by rw [x_isBlockEnd]) ?_
    rw [upd_same]
    exact Tm_chk (Or.inr rfl) (Tm_some ⟨rfl, fun _ => hy, fun _ => (by decide : ¬ (1 : Int32) = 0)⟩)
  have no : ∀ L : Nat → Int32, ¬ isBE (tkK T n q) → Tm (fun k => x_isBlockEnd k 2 L σ) (fun r => r.2 = σ ∧ (¬ r.1 = 0 ↔ isBE (tkK T n q))) := fun L hy => by
    refine Tm_suc (fun k => by rw [x_isBlockEnd]) ?_
    refine Tm_suc (fun k => by rw [x_isBlockEnd]) ?_
    rw [upd_same]
    exact Tm_chk (Or.inl rfl) (Tm_some ⟨rfl, fun z => absurd rfl z, fun z => absurd z hy⟩)
  refine Tm_suc (fun k => by rw [x_isBlockEnd]) ?_
  refine Tm_ite (fun z => yes _ (Or.inl (hc.1.mp z))) (fun z0 => ?_)
  refine Tm_ob (p_word h (s := 6) (by decide) rfl) (fun r1 hr1 => ?_)
  obtain ⟨u, τ⟩ := r1
  obtain ⟨h3, hr1⟩ := hr1
  have h3 : τ = σ := h3
  subst h3
  refine Tm_ite (fun z1 => ?_) (fun z => yes _ (Or.inr (Or.inl (hr1.mp z))))
  refine Tm_ob (p_word h (s := 9) (by decide) rfl) (fun r2 hr2 => ?_)
  obtain ⟨u2, ρ2⟩ := r2
  obtain ⟨h3, hr2⟩ := hr2
  have h3 : ρ2 = τ := h3
  subst h3
  refine Tm_ite (fun z2 => ?_) (fun z => yes _ (Or.inr (Or.inr (Or.inl (hr2.mp z)))))
  refine Tm_ob (p_word h (s := 10) (by decide) rfl) (fun r4 hr4 => ?_)
  obtain ⟨u4, ρ4⟩ := r4
  obtain ⟨h3, hr4⟩ := hr4
  have h3 : ρ4 = ρ2 := h3
  subst h3
  refine Tm_ite (fun z3 => ?_) (fun z => yes _ (Or.inr (Or.inr (Or.inr (hr4.mp z)))))
  refine no _ (fun y => ?_)
  rcases y with y | y | y | y
  · exact z0 (hc.1.mpr y)
  · exact hr1.mpr y z1
  · exact hr2.mpr y z2
  · exact hr4.mpr y z3
theorem p_isSt (h : PS T n E o q v b σ) (L : Nat → Int32) : Tm (fun k => x_isStatement k 0 L σ) (fun r => r.2 = σ ∧ (¬ r.1 = 0 ↔ isSt (tkK T n q))) := by
  have hc := cur_kind (PS_cur h)
  have hw := cur_what (PS_cur h)
  have yes : ∀ L : Nat → Int32, isSt (tkK T n q) → Tm (fun k => x_isStatement k 1 L σ) (fun r => r.2 = σ ∧ (¬ r.1 = 0 ↔ isSt (tkK T n q))) := fun L hy => by
    refine Tm_suc (fun k => by rw [x_isStatement]) ?_
    refine Tm_suc (fun k => by rw [x_isStatement]) ?_
    rw [upd_same]
    exact Tm_chk (Or.inr rfl) (Tm_some ⟨rfl, fun _ => hy, fun _ => (by decide : ¬ (1 : Int32) = 0)⟩)
  have no : ∀ L : Nat → Int32, ¬ isSt (tkK T n q) → Tm (fun k => x_isStatement k 2 L σ) (fun r => r.2 = σ ∧ (¬ r.1 = 0 ↔ isSt (tkK T n q))) := fun L hy => by
    refine Tm_suc (fun k => by rw [x_isStatement]) ?_
    refine Tm_suc (fun k => by rw [x_isStatement]) ?_
    rw [upd_same]
    exact Tm_chk (Or.inl rfl) (Tm_some ⟨rfl, fun z => absurd rfl z, fun z => absurd z hy⟩)
  refine Tm_suc (fun k => by rw [x_isStatement]) ?_
  refine Tm_ite (fun z => yes _ (Or.inl (hc.2.1.mp z))) (fun z0 => ?_)
  have z0 : ¬ tkK T n q = 26 := fun y => z0 (hc.2.1.mpr y)
  refine Tm_ob (p_sign h (s := 10) (by decide) (by decide) rfl) (fun r1 hr1 => ?_)
  obtain ⟨u, τ⟩ := r1
  obtain ⟨h3, hr1⟩ := hr1
  have h3 : τ = σ := h3
  subst h3
  refine Tm_ite (fun z1 => ?_) (fun z => yes _ (Or.inr (Or.inl (hr1.mp z))))
  have z1 : ¬ tkK T n q = 10 := fun y => hr1.mpr y z1
  refine Tm_ite (fun z => ?_) (fun z => ?_)
  · have hK := hc.2.2.2.2.2.mp z
    have h7 : τ.1 7 = nI (tkK T n q - 32) := hw.2.1 hK
    have hb85 := hw.2.2
    show Tm (fun k => if τ.1 7 = 7 then x_isStatement k 1 L τ else if τ.1 7 = 11 then x_isStatement k 1 L τ else if τ.1 7 = 13 then x_isStatement k 1 L τ else if τ.1 7 < 17 then x_isStatement k 2 L τ else if 24 < τ.1 7 then x_isStatement k 2 L τ else x_isStatement k 1 L τ) _
    have isw : ∀ {s : Nat}, s < 2147483648 → (τ.1 7 = nI s ↔ tkK T n q - 32 = s) := fun hs => is_n h7 (by omega) hs
    refine Tm_ite (fun z => yes _ (by have := (isw (s := 7) (by decide)).mp z; exact Or.inr (Or.inr (Or.inl (by omega))))) (fun y7 => ?_)
    have y7 : ¬ tkK T n q - 32 = 7 := fun y => y7 ((isw (s := 7) (by decide)).mpr y)
    refine Tm_ite (fun z => yes _ (by have := (isw (s := 11) (by decide)).mp z; exact Or.inr (Or.inr (Or.inr (Or.inl (by omega)))))) (fun y11 => ?_)
    have y11 : ¬ tkK T n q - 32 = 11 := fun y => y11 ((isw (s := 11) (by decide)).mpr y)
    refine Tm_ite (fun z => yes _ (by have := (isw (s := 13) (by decide)).mp z; exact Or.inr (Or.inr (Or.inr (Or.inr (Or.inl (by omega))))))) (fun y13 => ?_)
    have y13 : ¬ tkK T n q - 32 = 13 := fun y => y13 ((isw (s := 13) (by decide)).mpr y)
    rw [h7, show (17 : Int32) = nI 17 from rfl, show (24 : Int32) = nI 24 from rfl]
    refine Tm_ite (fun z => no _ (fun y => ?_)) (fun y17 => ?_)
    · rw [n_lt (by omega) (by omega)] at z
      rcases y with y | y | y | y | y | y <;> omega
    rw [n_lt (by omega) (by omega)] at y17
    refine Tm_ite (fun z => no _ (fun y => ?_)) (fun y24 => ?_)
    · rw [n_lt (by omega) (by omega)] at z
      rcases y with y | y | y | y | y | y <;> omega
    rw [n_lt (by omega) (by omega)] at y24
    exact yes _ (Or.inr (Or.inr (Or.inr (Or.inr (Or.inr ⟨by omega, by omega⟩)))))
  · have hK : ¬ 32 ≤ tkK T n q := fun y => z (hc.2.2.2.2.2.mpr y)
    refine no _ (fun y => ?_)
    rcases y with y | y | y | y | y | y <;> omega
end STM
end JnS62
section JnS63
/-! Statements without parts: they go on, and lay no more than there are bytes. -/
section SMO
variable {T : Nat → Int32} {n : Nat} {E : En} {o q v M f : Nat} {b : BT} {MD : Nat → Nat → Nat}
/-- what is laid by a statement that goes on -/
def MoS (n M : Nat) (b : BT) (q v : Nat) (r : RT) : Prop := Mo n b q v r ∧ (M ≤ r.2.2.2.1 ∧ r.2.2.2.1 < r.2.2.2.2.1.1) ∧ q < r.1
theorem Mo_tr {b1 : BT} {q1 v1 : Nat} {r : RT} (h : q ≤ q1 ∧ q1 ≤ n ∧ v ≤ v1 ∧ v1 ≤ 60 ∧ b.1 ≤ b1.1 ∧ b1.1 + q ≤ b.1 + q1 ∧ b.2.1 ≤ b1.2.1 ∧ b1.2.1 + q ≤ b.2.1 + q1) (hM : M ≤ b.1) (g : MoS n M b1 q1 v1 r) : MoS n M b q v r := by
  obtain ⟨⟨a1, a2, a3, a4, a5, a6, a7, a8⟩, a9, a10⟩ := g
  exact ⟨by unfold Mo; omega, a9, by omega⟩
theorem mo13 {a c d z : Int32} {r : RT} (hq : q ≤ n) (hv : v ≤ 60) (hM : M ≤ b.1) (hG : gW T n 13 q (fun q4 => some (Sum.inr (q4, v, 0, b.1, bNode b a c d z, []))) = some (Sum.inr r)) : MoS n M b q v r := by
  obtain ⟨t, _, hG⟩ := gW_s hG
  have hu := tkN_b T n q hq
  have hu4 := hu.2.2.2 (by rw [t]; decide)
  cases hG
  refine ⟨?_, ⟨hM, (by show b.1 < b.1 + 1; omega)⟩, hu4⟩
  unfold Mo
  dsimp only
  rw [bNode_1, bNode_p]; omega
theorem moS13 {a c d z : Int32} {r : RT} (hq : q ≤ n) (hv : v ≤ 60) (hM : M ≤ b.1) (hG : gS13 T n q v b.1 (bNode b a c d z) = some (Sum.inr r)) : MoS n M b q v r := mo13 hq hv hM hG
theorem moE13 {a c z : Int32} {r : RT} (hq : q ≤ n) (hv : v ≤ 60) (h1 : 1 ≤ M) (hM : M ≤ b.1) (hG : gE13 T n f E o q v b a c z = some (Sum.inr r)) : MoS n M b q v r := by
  unfold gE13 at hG
  obtain ⟨s, h7, hG⟩ := gb_s hG
  obtain ⟨⟨a1, a2, a3, a4, a5, a6, a7, a8⟩, a9⟩ := mo_of (M := M) hq hv h7 hM h1 trivial (fun h => h) (fun h => h)
  exact Mo_tr (by omega) hM (mo13 (M := M) a2 (by omega) (by omega) hG)
theorem moCl {md : Nat → Nat} {np p : Nat} {tg : Int32} {r : RT} (hq : q ≤ n) (hv : v ≤ 60) (h1 : 1 ≤ M) (hM : M ≤ b.1) (hG : gCl T n f md np p tg E o q v b = some (Sum.inr r)) : MoS n M b q v r := by
  unfold gCl at hG
  obtain ⟨_, hG⟩ := gT_s hG
  have hu := tkN_b T n q hq
  generalize tkN T n q = q1 at hG hu
  by_cases c : tkK T n q1 = 6
  · rw [if_pos c] at hG
    obtain ⟨_, hG⟩ := gO_s hG
    obtain ⟨_, hG⟩ := gT_s hG
    have hu1 := tkN_b T n q1 hu.2.1
    obtain ⟨s, h7, hG⟩ := gb_s hG
    obtain ⟨⟨a1, a2, a3, a4, a5, a6, a7, a8⟩, a9, a10⟩ := ga_mo f _ _ _ _ _ _ _ s M hu1.2.1 hv h7 hM h1 (Nat.zero_le _) (Or.inl rfl)
    try dsimp only at hG
    by_cases c2 : tkK T n s.1 = 7 ∧ s.2.2.1 = np
    · rw [if_pos c2] at hG
      obtain ⟨_, hG⟩ := gT_s hG
      have hus := tkN_b T n s.1 a2
      exact Mo_tr (by omega) hM (mo13 (M := M) hus.2.1 (by omega) (by omega) hG)
    · rw [if_neg c2] at hG; cases hG
  · rw [if_neg c] at hG; cases hG
theorem moAs {i e : Nat} {r : RT} (hq : q ≤ n) (hv : v ≤ 60) (h1 : 1 ≤ M) (hM : M ≤ b.1) (hG : gAs T n f MD E o i e q v b = some (Sum.inr r)) : MoS n M b q v r := by
  unfold gAs at hG
  by_cases c : tkK T n q = 63
  · rw [if_pos c] at hG
    by_cases c2 : i = 1
    · rw [if_pos c2] at hG
      obtain ⟨_, hG⟩ := gT_s hG
      have hu := tkN_b T n q hq
      exact Mo_tr (by omega) hM (mo13 (M := M) hu.2.1 hv hM hG)
    · rw [if_neg c2] at hG; cases hG
  rw [if_neg c] at hG
  by_cases c3 : tkK T n q = 26 ∧ (fd E (tkS T n q)).1 = 3
  · rw [if_pos c3] at hG; exact moCl hq hv h1 hM hG
  · rw [if_neg c3] at hG; exact moE13 hq hv h1 hM hG
theorem moBh {i e : Nat} {r : RT} (hq : q ≤ n) (hv : v ≤ 60) (h1 : 1 ≤ M) (hM : M ≤ b.1) (hG : gBh T n f MD E o i e q v b = some (Sum.inr r)) : MoS n M b q v r := by
  unfold gBh at hG
  have hu := tkN_b T n q hq
  by_cases c : tkK T n q = 2 ∨ tkK T n q = 3 ∨ tkK T n q = 4
  · rw [if_pos c] at hG
    obtain ⟨_, hG⟩ := gT_s hG
    obtain ⟨_, _, hG⟩ := gW_s hG
    have hu1 := tkN_b T n _ hu.2.1
    exact Mo_tr (by omega) hM (moE13 hu1.2.1 hv h1 hM hG)
  rw [if_neg c] at hG
  by_cases c2 : tkK T n q = 57 ∨ tkK T n q = 58 ∨ tkK T n q = 59
  · rw [if_pos c2] at hG
    obtain ⟨_, hG⟩ := gT_s hG
    obtain ⟨s, h7, hG⟩ := gb_s hG
    obtain ⟨⟨a1, a2, a3, a4, a5, a6, a7, a8⟩, a9, a10, a11⟩ := gTg_mo (M := M) hu.2.1 hv hM h1 h7
    exact Mo_tr (by omega) hM (mo13 (M := M) a2 (by omega) (by omega) hG)
  · rw [if_neg c2] at hG
    obtain ⟨_, _, hG⟩ := gW_s hG
    exact Mo_tr (by omega) hM (moAs hu.2.1 hv h1 hM hG)
theorem moBg {r : RT} (hq : q ≤ n) (hv : v ≤ 60) (h1 : 1 ≤ M) (hM : M ≤ b.1) (hG : gBg T n f MD E o q v b = some (Sum.inr r)) : MoS n M b q v r := by
  unfold gBg at hG
  by_cases c : (fd E (tkS T n q)).1 = 3
  · rw [if_pos c] at hG; exact moCl hq hv h1 hM hG
  rw [if_neg c] at hG
  obtain ⟨s, h7, hG⟩ := gb_s hG
  obtain ⟨⟨a1, a2, a3, a4, a5, a6, a7, a8⟩, a9, a10, a11⟩ := gTg_mo (M := M) hq hv hM h1 h7
  exact Mo_tr (by omega) hM (moBh (M := M) a2 (by omega) h1 (by omega) hG)
theorem moPa {r : RT} (hq : q ≤ n) (hv : v ≤ 60) (h1 : 1 ≤ M) (hM : M ≤ b.1) (hG : gPa T n f E o q v b = some (Sum.inr r)) : MoS n M b q v r := by
  unfold gPa at hG
  have hu := tkN_b T n q hq
  obtain ⟨_, hG⟩ := gO_s hG
  obtain ⟨_, hG⟩ := gT_s hG
  obtain ⟨s, h7, hG⟩ := gb_s hG
  obtain ⟨⟨a1, a2, a3, a4, a5, a6, a7, a8⟩, a9, a10⟩ := gpt_mo f _ _ _ _ _ _ s M hu.2.1 hv h7 hM h1 (fun z => absurd rfl z)
  have hus := tkN_b T n s.1 a2
  obtain ⟨_, _, hG⟩ := gW_s hG
  have hu2 := tkN_b T n _ hus.2.1
  obtain ⟨_, _, hG⟩ := gW_s hG
  exact Mo_tr (by omega) hM (moE13 (M := M) hu2.2.1 (by omega) h1 (by omega) hG)
theorem moSm {lp : Nat} {r : RT} (hq : q ≤ n) (hv : v ≤ 60) (h1 : 1 ≤ M) (hM : M ≤ b.1) (hG : gSm T n f lp E o q v b = some (Sum.inr r)) : MoS n M b q v r := by
  unfold gSm at hG
  have hu := tkN_b T n q hq
  by_cases c : ((tkK T n q = 49 ∨ tkK T n q = 50) ∧ lp = 0) ∨ (tkK T n q = 51 ∧ (E.2.2.2.1 = 0 ∨ 41 < E.2.2.2.1))
  · rw [if_pos c] at hG; cases hG
  rw [if_neg c] at hG
  obtain ⟨_, hG⟩ := gT_s hG
  unfold gSm0 at hG
  generalize tkK T n q - 32 = w at hG
  generalize tkN T n q = q1 at hG hu
  refine Mo_tr (b1 := b) (q1 := q1) (v1 := v) (by omega) hM ?_
  have hx : ∀ a : Int32, gb (G T n f 0 E o q1 v 0 0 0 0 b) (fun r => gS13 T n r.1 r.2.1 r.2.2.2.2.1.1 (bNode r.2.2.2.2.1 a (nI r.2.2.2.1) 0 0)) = some (Sum.inr r) → MoS n M b q1 v r := fun a hG => by
    obtain ⟨s, h7, hG⟩ := gb_s hG
    obtain ⟨⟨a1, a2, a3, a4, a5, a6, a7, a8⟩, a9⟩ := mo_of (M := M) hu.2.1 hv h7 hM h1 trivial (fun h => h) (fun h => h)
    exact Mo_tr (by omega) hM (moS13 (M := M) a2 (by omega) (by omega) hG)
  by_cases c1 : w = 19
  · rw [if_pos c1] at hG
    by_cases c2 : tkK T n q1 = 13
    · rw [if_pos c2] at hG; exact moS13 hu.2.1 hv hM hG
    · rw [if_neg c2] at hG; exact hx _ hG
  rw [if_neg c1] at hG
  by_cases c2 : w = 20
  · rw [if_pos c2] at hG
    by_cases c3 : tkK T n q1 = 6
    · rw [if_pos c3] at hG
      obtain ⟨_, hG⟩ := gO_s hG
      obtain ⟨_, hG⟩ := gT_s hG
      have hu1 := tkN_b T n q1 hu.2.1
      obtain ⟨s, h7, hG⟩ := gb_s hG
      obtain ⟨⟨a1, a2, a3, a4, a5, a6, a7, a8⟩, a9⟩ := mo_of (M := M) hu1.2.1 hv h7 hM h1 trivial (fun h => h) (fun h => h)
      obtain ⟨t, h8, hG⟩ := gb_s hG
      obtain ⟨⟨b1, b2, b3, b4, b5, b6, b7, b8⟩, b9⟩ := gpr_mo f _ _ _ _ _ t M a2 (by omega) h8 (by omega) h1 a9.1 a9.2
      obtain ⟨_, _, hG⟩ := gW_s hG
      have hut := tkN_b T n t.1 b2
      exact Mo_tr (by omega) hM (moS13 (M := M) hut.2.1 (by omega) (by omega) hG)
    · rw [if_neg c3] at hG; cases hG
  rw [if_neg c2] at hG
  by_cases c3 : w = 21
  · rw [if_pos c3] at hG; exact hx _ hG
  · rw [if_neg c3] at hG; exact moS13 hu.2.1 hv hM hG
end SMO
end JnS63
section JnS64
variable {yf : Nat × Nat}
/-! Statements: they go on, and lay no more than there are bytes. -/
theorem hb_s {x : SR} {k : ST → SR} {r : ST} (h : hb x k = some (Sum.inr r)) : ∃ s, x = some (Sum.inr s) ∧ k s = some (Sum.inr r) := by
  rcases hb_any h with ⟨yf, _, h2⟩ | h
  · cases h2
  · exact h
theorem lb_s {x : RG} {k : RT → SR} {r : ST} (h : lb x k = some (Sum.inr r)) : ∃ s, x = some (Sum.inr s) ∧ k s = some (Sum.inr r) := by
  rcases lb_any h with ⟨yf, _, h2⟩ | h
  · cases h2
  · exact h
theorem hT_s {T : Nat → Int32} {n q : Nat} {k : Nat → SR} {r : ST} (h : hT T n q k = some (Sum.inr r)) : ¬ tkK T n (tkN T n q) = 0 ∧ k (tkN T n q) = some (Sum.inr r) := by
  rcases hT_any h with ⟨_, h2⟩ | h
  · cases h2
  · exact h
theorem hW_s {T : Nat → Int32} {n t q : Nat} {k : Nat → SR} {r : ST} (h : hW T n t q k = some (Sum.inr r)) : tkK T n q = t ∧ ¬ tkK T n (tkN T n q) = 0 ∧ k (tkN T n q) = some (Sum.inr r) := by
  rcases hW_any h with ⟨_, h2⟩ | ⟨⟨a, b⟩, h⟩
  · cases h2
  · exact ⟨a, b, h⟩
/-- it goes on -/
def MoZ (n : Nat) (b : BT) (s : SB) (q v : Nat) (r : ST) : Prop := q ≤ r.1 ∧ r.1 ≤ n ∧ v ≤ r.2.1 ∧ r.2.1 ≤ 60 ∧ b.1 ≤ r.2.2.2.2.1.1 ∧ r.2.2.2.2.1.1 + q ≤ b.1 + r.1 ∧ b.2.1 ≤ r.2.2.2.2.1.2.1 ∧ r.2.2.2.2.1.2.1 + q ≤ b.2.1 + r.1 ∧ s.1 ≤ r.2.2.2.2.2.1 ∧ r.2.2.2.2.2.1 ≤ 400
def NdZ (nt M : Nat) (s : SB) (q : Nat) (r : ST) : Prop := (nt = 0 → r.2.2.2.1 = 0 ∨ (M ≤ r.2.2.2.1 ∧ r.2.2.2.1 < r.2.2.2.2.1.1)) ∧ (¬ nt = 0 → (M ≤ r.2.2.2.1 ∧ r.2.2.2.1 < r.2.2.2.2.1.1) ∧ q < r.1) ∧ (nt = 1 → r.2.2.1 = s.1 ∧ s.1 < 400 ∧ r.2.2.2.2.1.2.2.1 8 r.2.2.2.1 = nI s.1)
section SMO
variable {T : Nat → Int32} {n : Nat} {MD : Nat → Nat → Nat}
theorem hE_mo {q : Nat} (hq : q ≤ n) {k : Nat → SR} {r : ST} (h : hE T n q k = some (Sum.inr r)) : ∃ q2, q + 2 ≤ q2 ∧ q2 ≤ n ∧ k q2 = some (Sum.inr r) := by
  unfold hE at h
  obtain ⟨t1, _, h⟩ := hW_s h
  have hu := tkN_b T n q hq
  have hu4 := hu.2.2.2 (by rw [t1]; decide)
  obtain ⟨t2, _, h⟩ := hW_s h
  have hv := tkN_b T n _ hu.2.1
  have hv4 := hv.2.2.2 (by rw [t2]; decide)
  exact ⟨_, by omega, hv.2.1, h⟩
theorem gs_mo : ∀ (f nt : Nat) (E : En) (lp o q v : Nat) (pe : Int32) (i l : Nat) (b : BT) (s : SB) (r : ST) (M : Nat), nt ≤ 5 → q ≤ n → v ≤ 60 → s.1 ≤ 400 → GS T n MD f nt E lp o q v pe i l b s = some (Sum.inr r) → 1 ≤ M → M ≤ b.1 → (nt = 0 → ¬ i = 0 → M ≤ i ∧ i < b.1) → (2 ≤ nt → ¬ nt = 3 → ¬ tkK T n q = 25) → MoZ n b s q v r ∧ NdZ nt M s q r
  | 0, nt, E, lp, o, q, v, pe, i, l, b, s, r, M, _, _, _, _, hG, _, _, _, _ => by simp only [GS] at hG; cases hG
  | f + 1, nt, E, lp, o, q, v, pe, i, l, b, s, r, M, hnt, hq, hv, hs, hG, h1, hM, hi, hK => by
    have ih := gs_mo f
    have hu := tkN_b T n q hq
    match nt, hnt with
    | 0, _ =>
      simp only [GS] at hG
      by_cases c : isBE (tkK T n q)
      · rw [if_pos c] at hG; cases hG
        refine ⟨by unfold MoZ; dsimp only; omega, ?_, fun z => absurd rfl z, fun z => absurd z (by decide)⟩
        intro _
        by_cases c0 : i = 0
        · exact Or.inl c0
        · exact Or.inr (hi rfl c0)
      rw [if_neg c] at hG
      obtain ⟨t, h7, hG⟩ := hb_s hG
      obtain ⟨⟨a1, a2, a3, a4, a5, a6, a7, a8, a9, a10⟩, d1, d2, d3⟩ := ih _ _ _ _ _ _ _ _ _ _ _ t M (by decide) hq hv hs h7 h1 hM (fun z => absurd z (by decide)) (fun z => absurd z (by decide))
      have d2 := d2 (by decide)
      have hf2 := fst2_b (M := M) (m := t.2.2.2.2.1.1) (i := i) (fun z => ⟨(hi rfl z).1, by have := (hi rfl z).2; omega⟩) d2.1
      obtain ⟨⟨b1, b2, b3, b4, b5, b6, b7, b8, b9, b10⟩, e1, _, _⟩ := ih _ _ _ _ _ _ _ _ _ _ _ r M (by decide) a2 a4 (by show t.2.2.2.2.2.1 ≤ 400; exact a10) hG h1 (by rw [bLnk_1]; omega) (fun _ _ => by rw [bLnk_1]; exact hf2) (fun z => absurd z (by decide))
      rw [bLnk_1] at b5 b6
      rw [bLnk_p] at b7 b8
      have b9 : t.2.2.2.2.2.1 ≤ r.2.2.2.2.2.1 := b9
      exact ⟨by unfold MoZ; omega, fun _ => e1 rfl, fun z => absurd rfl z, fun z => absurd z (by decide)⟩
    | 1, _ =>
      simp only [GS] at hG
      by_cases c : ¬ isSt (tkK T n q) ∨ (isOp (tkK T n q) ∧ o = 20) ∨ s.1 = 400
      · rw [if_pos c] at hG; cases hG
      rw [if_neg c] at hG
      have hs4 : ¬ s.1 = 400 := fun z => c (Or.inr (Or.inr z))
      obtain ⟨t, h7, hG⟩ := hb_s hG
      have key : MoZ n b (sMo s) q v t ∧ (M ≤ t.2.2.2.1 ∧ t.2.2.2.1 < t.2.2.2.2.1.1) ∧ q < t.1 := by
        have lft : ∀ x : RG, (∀ u, x = some (Sum.inr u) → MoS n M b q v u) → lb x (lif (sMo s)) = some (Sum.inr t) → MoZ n b (sMo s) q v t ∧ (M ≤ t.2.2.2.1 ∧ t.2.2.2.1 < t.2.2.2.2.1.1) ∧ q < t.1 := fun x hx h => by
          obtain ⟨u, hu, h⟩ := lb_s h
          obtain ⟨⟨a1, a2, a3, a4, a5, a6, a7, a8⟩, a9, a10⟩ := hx u hu
          unfold lif at h
          cases h
          refine ⟨?_, a9, a10⟩
          unfold MoZ sMo
          dsimp only
          omega
        have grp : ∀ nt : Nat, (nt = 2 ∨ nt = 4 ∨ nt = 5) → ¬ tkK T n q = 25 → GS T n MD f nt E lp o q v 0 0 0 b (sMo s) = some (Sum.inr t) → MoZ n b (sMo s) q v t ∧ (M ≤ t.2.2.2.1 ∧ t.2.2.2.1 < t.2.2.2.2.1.1) ∧ q < t.1 := fun nt hnt hk h => by
          have := ih _ _ _ _ _ _ _ _ _ _ _ t M (by omega) hq hv (by show s.1 + 1 ≤ 400; omega) h h1 hM (fun z => absurd z (by omega)) (fun _ _ => hk)
          exact ⟨this.1, (this.2.2.1 (by omega)).1, (this.2.2.1 (by omega)).2⟩
        by_cases c1 : tkK T n q = 26
        · rw [if_pos c1] at h7; exact lft _ (fun u hu => moBg hq hv h1 hM hu) h7
        rw [if_neg c1] at h7
        by_cases c2 : tkK T n q = 10
        · rw [if_pos c2] at h7; exact lft _ (fun u hu => moPa hq hv h1 hM hu) h7
        rw [if_neg c2] at h7
        by_cases c3 : tkK T n q = 39
        · rw [if_pos c3] at h7; exact grp 2 (by decide) (by omega) h7
        rw [if_neg c3] at h7
        by_cases c4 : tkK T n q = 43
        · rw [if_pos c4] at h7; exact grp 4 (by decide) (by omega) h7
        rw [if_neg c4] at h7
        by_cases c5 : tkK T n q = 45
        · rw [if_pos c5] at h7; exact grp 5 (by decide) (by omega) h7
        rw [if_neg c5] at h7
        exact lft _ (fun u hu => moSm hq hv h1 hM hu) h7
      obtain ⟨⟨a1, a2, a3, a4, a5, a6, a7, a8, a9, a10⟩, d1, d2⟩ := key
      have a9 : s.1 + 1 ≤ t.2.2.2.2.2.1 := a9
      cases hG
      refine ⟨?_, fun z => absurd z (by decide), fun _ => ⟨d1, d2⟩, fun _ => ⟨rfl, by omega, ?_⟩⟩
      · unfold MoZ
        dsimp only
        rw [bSet_1, bSet_p]
        show _ ∧ _ ∧ _ ∧ _ ∧ _ ∧ _ ∧ _ ∧ _ ∧ s.1 ≤ t.2.2.2.2.2.1 ∧ t.2.2.2.2.2.1 ≤ 400
        omega
      · show updG t.2.2.2.2.1.2.2.1 8 (upd (t.2.2.2.2.1.2.2.1 8) t.2.2.2.1 (nI s.1)) 8 t.2.2.2.1 = nI s.1
        rw [updG_same, upd_same]
    | 2, _ =>
      simp only [GS] at hG
      have hu4 := hu.2.2.2 (hK (by decide) (by decide))
      obtain ⟨_, hG⟩ := hT_s hG
      generalize tkN T n q = q1 at hG hu hu4
      obtain ⟨t, h7, hG⟩ := hb_s hG
      obtain ⟨⟨a1, a2, a3, a4, a5, a6, a7, a8, a9, a10⟩, d1, d2, d3⟩ := ih _ _ _ _ _ _ _ _ _ _ _ t M (by decide) hu.2.1 hv hs h7 h1 (by rw [bNode_1]; omega) (fun z => absurd z (by decide)) (fun _ z => absurd rfl z)
      rw [bNode_1] at a5 a6
      rw [bNode_p] at a7 a8
      obtain ⟨x, h8, hG⟩ := hb_s hG
      have key : MoZ n t.2.2.2.2.1 t.2.2.2.2.2 t.1 t.2.1 x := by
        by_cases c : tkK T n t.1 = 42
        · rw [if_pos c] at h8
          have hut := tkN_b T n t.1 a2
          have hut4 := hut.2.2.2 (by rw [c]; decide)
          obtain ⟨_, h8⟩ := hT_s h8
          obtain ⟨y, h9, h8⟩ := hb_s h8
          obtain ⟨⟨b1, b2, b3, b4, b5, b6, b7, b8, b9, b10⟩, _⟩ := ih _ _ _ _ _ _ _ _ _ _ _ y M (by decide) hut.2.1 a4 a10 h9 h1 (by omega) (fun _ z => absurd rfl z) (fun z => absurd z (by decide))
          cases h8
          unfold MoZ
          dsimp only
          rw [bSet_1, bSet_p, bNode_1, bNode_p]
          omega
        · rw [if_neg c] at h8; cases h8
          unfold MoZ; omega
      obtain ⟨b1, b2, b3, b4, b5, b6, b7, b8, b9, b10⟩ := key
      obtain ⟨q2, e1, e2, hG⟩ := hE_mo b2 hG
      cases hG
      refine ⟨?_, fun z => absurd z (by decide), fun _ => ⟨⟨hM, ?_⟩, ?_⟩, fun z => absurd z (by decide)⟩
      · unfold MoZ; dsimp only; omega
      · show b.1 < x.2.2.2.2.1.1; omega
      · show q < q2; omega
    | 3, _ =>
      simp only [GS] at hG
      obtain ⟨c, h7, hG⟩ := hb_s hG
      have key : MoZ n b s q v c := by
        by_cases k : l = 0 ∧ tkK T n q = 63
        · rw [if_pos k] at h7
          obtain ⟨_, h7⟩ := hT_s h7
          cases h7
          unfold MoZ; dsimp only; omega
        · rw [if_neg k] at h7
          obtain ⟨u, h8, h7⟩ := lb_s h7
          obtain ⟨⟨a1, a2, a3, a4, a5, a6, a7, a8⟩, a9⟩ := mo_of (M := M) hq hv h8 hM h1 trivial (fun h => h) (fun h => h)
          cases h7
          unfold MoZ; dsimp only; omega
      obtain ⟨a1, a2, a3, a4, a5, a6, a7, a8, a9, a10⟩ := key
      obtain ⟨k40, _, hG⟩ := hW_s hG
      have huc := tkN_b T n c.1 a2
      have huc4 := huc.2.2.2 (by rw [k40]; decide)
      obtain ⟨t, h9, hG⟩ := hb_s hG
      obtain ⟨⟨b1, b2, b3, b4, b5, b6, b7, b8, b9, b10⟩, _⟩ := ih _ _ _ _ _ _ _ _ _ _ _ t M (by decide) huc.2.1 a4 hs h9 h1 (by omega) (fun _ z => absurd rfl z) (fun z => absurd z (by decide))
      have hb3 : (if l = 0 then bSet (bNode t.2.2.2.2.1 33 (if c.2.2.2.1 = 0 then -3 else nI c.2.2.2.1) (hd t.2.2.2.1) 0) 5 i (nI t.2.2.2.2.1.1) else bSet (bNode t.2.2.2.2.1 33 (if c.2.2.2.1 = 0 then -3 else nI c.2.2.2.1) (hd t.2.2.2.1) 0) 9 l (nI t.2.2.2.2.1.1)).1 = t.2.2.2.2.1.1 + 1 ∧ (if l = 0 then bSet (bNode t.2.2.2.2.1 33 (if c.2.2.2.1 = 0 then -3 else nI c.2.2.2.1) (hd t.2.2.2.1) 0) 5 i (nI t.2.2.2.2.1.1) else bSet (bNode t.2.2.2.2.1 33 (if c.2.2.2.1 = 0 then -3 else nI c.2.2.2.1) (hd t.2.2.2.1) 0) 9 l (nI t.2.2.2.2.1.1)).2.1 = t.2.2.2.2.1.2.1 := by
        by_cases l0 : l = 0
        · rw [if_pos l0]; exact ⟨rfl, rfl⟩
        · rw [if_neg l0]; exact ⟨rfl, rfl⟩
      generalize (if l = 0 then bSet (bNode t.2.2.2.2.1 33 (if c.2.2.2.1 = 0 then -3 else nI c.2.2.2.1) (hd t.2.2.2.1) 0) 5 i (nI t.2.2.2.2.1.1) else bSet (bNode t.2.2.2.2.1 33 (if c.2.2.2.1 = 0 then -3 else nI c.2.2.2.1) (hd t.2.2.2.1) 0) 9 l (nI t.2.2.2.2.1.1)) = b3x at hG hb3
      by_cases k41 : tkK T n t.1 = 41
      · rw [if_pos k41] at hG
        obtain ⟨_, hG⟩ := hT_s hG
        have hut := tkN_b T n t.1 b2
        obtain ⟨⟨e1, e2, e3, e4, e5, e6, e7, e8, e9, e10⟩, _, g2, _⟩ := ih _ _ _ _ _ _ _ _ _ _ _ r M (by decide) hut.2.1 b4 b10 hG h1 (by omega) (fun z => absurd z (by decide)) (fun _ z => absurd rfl z)
        have g2 := g2 (by decide)
        exact ⟨by unfold MoZ; omega, fun z => absurd z (by decide), fun _ => ⟨g2.1, by omega⟩, fun z => absurd z (by decide)⟩
      · rw [if_neg k41] at hG; cases hG
        refine ⟨?_, fun z => absurd z (by decide), fun _ => ⟨⟨?_, ?_⟩, ?_⟩, fun z => absurd z (by decide)⟩
        · unfold MoZ; dsimp only; omega
        · show M ≤ t.2.2.2.2.1.1; omega
        · show t.2.2.2.2.1.1 < b3x.1; omega
        · show q < t.1; omega
    | 4, _ =>
      simp only [GS] at hG
      have hu4 := hu.2.2.2 (hK (by decide) (by decide))
      obtain ⟨_, hG⟩ := hT_s hG
      generalize tkN T n q = q1 at hG hu hu4
      obtain ⟨t, h7, hG⟩ := lb_s hG
      obtain ⟨⟨a1, a2, a3, a4, a5, a6, a7, a8⟩, a9⟩ := mo_of (M := M) hu.2.1 hv h7 (by rw [bNode_1]; omega) h1 trivial (fun h => h) (fun h => h)
      rw [bNode_1] at a5 a6
      rw [bNode_p] at a7 a8
      obtain ⟨k44, _, hG⟩ := hW_s hG
      have hut := tkN_b T n t.1 a2
      obtain ⟨x, h9, hG⟩ := hb_s hG
      obtain ⟨⟨b1, b2, b3, b4, b5, b6, b7, b8, b9, b10⟩, _⟩ := ih _ _ _ _ _ _ _ _ _ _ _ x M (by decide) hut.2.1 (by omega) hs h9 h1 (by rw [bSet_1]; omega) (fun _ z => absurd rfl z) (fun z => absurd z (by decide))
      rw [bSet_1] at b5 b6
      rw [bSet_p] at b7 b8
      obtain ⟨q2, e1, e2, hG⟩ := hE_mo b2 hG
      cases hG
      refine ⟨?_, fun z => absurd z (by decide), fun _ => ⟨⟨hM, ?_⟩, ?_⟩, fun z => absurd z (by decide)⟩
      · unfold MoZ; dsimp only; rw [bSet_1, bSet_p]; omega
      · show b.1 < x.2.2.2.2.1.1; omega
      · show q < q2; omega
    | 5, _ =>
      simp only [GS] at hG
      have hu4 := hu.2.2.2 (hK (by decide) (by decide))
      obtain ⟨_, hG⟩ := hT_s hG
      generalize tkN T n q = q1 at hG hu hu4
      obtain ⟨t, h7, hG⟩ := lb_s hG
      obtain ⟨x1, a9⟩ := g_mono T n f 17 _ _ _ _ _ _ _ _ _ t hu.2.1 hv h7 M (by rw [bNode_1]; omega) h1 (Or.inl rfl)
      have x1 : Mo n (bNode b 48 0 (-1) 0) q1 v t := x1
      obtain ⟨a1, a2, a3, a4, a5, a6, a7, a8⟩ := x1
      rw [bNode_1] at a5 a6
      rw [bNode_p] at a7 a8
      obtain ⟨c, h8, hG⟩ := hb_s hG
      have key : MoZ n t.2.2.2.2.1 s t.1 t.2.1 c := by
        by_cases k : tkK T n t.1 = 15
        · rw [if_pos k] at h8
          obtain ⟨_, h8⟩ := hT_s h8
          have hut := tkN_b T n t.1 a2
          obtain ⟨y, h9, h8⟩ := lb_s h8
          obtain ⟨⟨b1, b2, b3, b4, b5, b6, b7, b8⟩, _⟩ := mo_of (M := M) hut.2.1 (by omega) h9 (by rw [bSet_1]; omega) h1 trivial (fun h => h) (fun h => h)
          rw [bSet_1] at b5 b6
          rw [bSet_p] at b7 b8
          cases h8
          unfold MoZ; dsimp only; rw [bSet_1, bSet_p]; omega
        · rw [if_neg k] at h8; cases h8
          unfold MoZ; dsimp only; rw [bSet_1, bSet_p]; omega
      obtain ⟨c1, c2, c3, c4, c5, c6, c7, c8, c9, c10⟩ := key
      obtain ⟨k44, _, hG⟩ := hW_s hG
      have huc := tkN_b T n c.1 c2
      obtain ⟨x, h9, hG⟩ := hb_s hG
      obtain ⟨⟨b1, b2, b3, b4, b5, b6, b7, b8, b9, b10⟩, _⟩ := ih _ _ _ _ _ _ _ _ _ _ _ x M (by decide) huc.2.1 c4 hs h9 h1 (by omega) (fun _ z => absurd rfl z) (fun z => absurd z (by decide))
      obtain ⟨q2, e1, e2, hG⟩ := hE_mo b2 hG
      cases hG
      refine ⟨?_, fun z => absurd z (by decide), fun _ => ⟨⟨hM, ?_⟩, ?_⟩, fun z => absurd z (by decide)⟩
      · unfold MoZ; dsimp only; rw [bSet_1, bSet_p]; omega
      · show b.1 < x.2.2.2.2.1.1; omega
      · show q < q2; omega
end SMO
end JnS64
section JnS65
variable {yf : Nat × Nat}
/-! Statements: the grammar always answers. -/
theorem hb_t {x : SR} {k : ST → SR} (h : ∃ y, x = some y) (hk : ∀ r, x = some (Sum.inr r) → ∃ y, k r = some y) : ∃ y, hb x k = some y := by
  obtain ⟨y, rfl⟩ := h
  cases y with
  | inl yf => exact ⟨_, rfl⟩
  | inr r => exact hk r rfl
theorem lb_t {x : RG} {k : RT → SR} (h : ∃ y, x = some y) (hk : ∀ r, x = some (Sum.inr r) → ∃ y, k r = some y) : ∃ y, lb x k = some y := by
  obtain ⟨y, rfl⟩ := h
  cases y with
  | inl yf => exact ⟨_, rfl⟩
  | inr r => exact hk r rfl
theorem hT_t {T : Nat → Int32} {n q : Nat} {k : Nat → SR} (hk : ∃ y, k (tkN T n q) = some y) : ∃ y, hT T n q k = some y := by
  unfold hT
  by_cases c : tkK T n (tkN T n q) = 0
  · rw [if_pos c]; exact ⟨_, rfl⟩
  · rw [if_neg c]; exact hk
theorem hW_t {T : Nat → Int32} {n t q : Nat} {k : Nat → SR} (hk : tkK T n q = t → ∃ y, k (tkN T n q) = some y) : ∃ y, hW T n t q k = some y := by
  unfold hW
  by_cases c : tkK T n q = t
  · rw [if_pos c]; exact hT_t (hk c)
  · rw [if_neg c]; exact ⟨_, rfl⟩
section STO
variable {T : Nat → Int32} {n : Nat} {E : En} {o q v f : Nat} {b : BT} {MD : Nat → Nat → Nat}
theorem exp_t (hq : q ≤ n) (hv : v ≤ 60) (hb : 1 ≤ b.1) (hf : 30 * (n - q) + 21 ≤ f) : ∃ y, G T n f 0 E o q v 0 0 0 0 b = some y := g_tot T n f 0 E o q v 0 0 0 0 b (by decide) hq hv hb trivial (by simp only [lvG]; omega)
theorem e13_t {a c z : Int32} (hq : q ≤ n) (hv : v ≤ 60) (hb : 1 ≤ b.1) (hf : 30 * (n - q) + 21 ≤ f) : ∃ y, gE13 T n f E o q v b a c z = some y := gb_t (exp_t hq hv hb hf) (fun s _ => gW_t (fun _ => ⟨_, rfl⟩))
theorem cl_t {md : Nat → Nat} {np p : Nat} {tg : Int32} (hq : q ≤ n) (hv : v ≤ 60) (hb : 1 ≤ b.1) (hf : 30 * (n - q) + 23 ≤ f) : ∃ y, gCl T n f md np p tg E o q v b = some y := by
  have hu := tkN_b T n q hq
  have hu1 := tkN_b T n _ hu.2.1
  unfold gCl
  refine gT_t ?_
  by_cases c : tkK T n (tkN T n q) = 6
  · rw [if_pos c]
    refine gO_t (gT_t (gb_t (ga_tot f _ _ _ _ _ _ _ hu1.2.1 hv hb (by omega)) (fun s _ => ?_)))
    by_cases c2 : tkK T n s.1 = 7 ∧ s.2.2.1 = np
    · rw [if_pos c2]; exact gT_t (gW_t (fun _ => ⟨_, rfl⟩))
    · rw [if_neg c2]; exact ⟨_, rfl⟩
  · rw [if_neg c]; exact ⟨_, rfl⟩
theorem as_t {i e : Nat} (hq : q ≤ n) (hv : v ≤ 60) (hb : 1 ≤ b.1) (hf : 30 * (n - q) + 23 ≤ f) : ∃ y, gAs T n f MD E o i e q v b = some y := by
  unfold gAs
  by_cases c : tkK T n q = 63
  · rw [if_pos c]
    by_cases c2 : i = 1
    · rw [if_pos c2]; exact gT_t (gW_t (fun _ => ⟨_, rfl⟩))
    · rw [if_neg c2]; exact ⟨_, rfl⟩
  rw [if_neg c]
  by_cases c3 : tkK T n q = 26 ∧ (fd E (tkS T n q)).1 = 3
  · rw [if_pos c3]; exact cl_t hq hv hb hf
  · rw [if_neg c3]; exact e13_t hq hv hb (by omega)
theorem bh_t {i e : Nat} (hq : q ≤ n) (hv : v ≤ 60) (hb : 1 ≤ b.1) (hf : 30 * (n - q) + 23 ≤ f) : ∃ y, gBh T n f MD E o i e q v b = some y := by
  have hu := tkN_b T n q hq
  have hu1 := tkN_b T n _ hu.2.1
  unfold gBh
  by_cases c : tkK T n q = 2 ∨ tkK T n q = 3 ∨ tkK T n q = 4
  · rw [if_pos c]; exact gT_t (gW_t (fun _ => e13_t hu1.2.1 hv hb (by omega)))
  rw [if_neg c]
  by_cases c2 : tkK T n q = 57 ∨ tkK T n q = 58 ∨ tkK T n q = 59
  · rw [if_pos c2]; exact gT_t (gb_t (gTg_tot E o _ v b hu.2.1 hv hb (by omega)) (fun s _ => gW_t (fun _ => ⟨_, rfl⟩)))
  · rw [if_neg c2]; exact gW_t (fun _ => as_t hu.2.1 hv hb (by omega))
theorem bg_t (hq : q ≤ n) (hv : v ≤ 60) (hb : 1 ≤ b.1) (hf : 30 * (n - q) + 23 ≤ f) : ∃ y, gBg T n f MD E o q v b = some y := by
  unfold gBg
  by_cases c : (fd E (tkS T n q)).1 = 3
  · rw [if_pos c]; exact cl_t hq hv hb hf
  rw [if_neg c]
  refine gb_t (gTg_tot E o q v b hq hv hb (by omega)) (fun s h7 => ?_)
  obtain ⟨⟨a1, a2, a3, a4, a5, a6, a7, a8⟩, a9, a10, a11⟩ := gTg_mo (M := b.1) hq hv (Nat.le_refl _) hb h7
  exact bh_t a2 (by omega) (by omega) (by omega)
theorem pa_t (hq : q ≤ n) (hv : v ≤ 60) (hb : 1 ≤ b.1) (hf : 30 * (n - q) + 23 ≤ f) : ∃ y, gPa T n f E o q v b = some y := by
  have hu := tkN_b T n q hq
  unfold gPa
  refine gO_t (gT_t (gb_t (gpt_tot f _ _ _ _ _ _ hu.2.1 hv hb (by omega)) (fun s h7 => ?_)))
  obtain ⟨⟨a1, a2, a3, a4, a5, a6, a7, a8⟩, a9, a10⟩ := gpt_mo f _ _ _ _ _ _ s b.1 hu.2.1 hv h7 (Nat.le_refl _) hb (fun z => absurd rfl z)
  have hus := tkN_b T n s.1 a2
  have hu2 := tkN_b T n _ hus.2.1
  exact gW_t (fun _ => gW_t (fun _ => gb_t (exp_t hu2.2.1 (by omega) (by omega) (by omega)) (fun _ _ => gW_t (fun _ => ⟨_, rfl⟩))))
theorem sm_t {lp : Nat} (hq : q ≤ n) (hv : v ≤ 60) (hb : 1 ≤ b.1) (hf : 30 * (n - q) + 23 ≤ f) : ∃ y, gSm T n f lp E o q v b = some y := by
  have hu := tkN_b T n q hq
  unfold gSm
  by_cases c : ((tkK T n q = 49 ∨ tkK T n q = 50) ∧ lp = 0) ∨ (tkK T n q = 51 ∧ (E.2.2.2.1 = 0 ∨ 41 < E.2.2.2.1))
  · rw [if_pos c]; exact ⟨_, rfl⟩
  rw [if_neg c]
  refine gT_t ?_
  unfold gSm0
  generalize tkK T n q - 32 = w
  generalize tkN T n q = q1 at hu
  by_cases c1 : w = 19
  · rw [if_pos c1]
    by_cases c2 : tkK T n q1 = 13
    · rw [if_pos c2]; exact gW_t (fun _ => ⟨_, rfl⟩)
    · rw [if_neg c2]; exact gb_t (exp_t hu.2.1 hv hb (by omega)) (fun _ _ => gW_t (fun _ => ⟨_, rfl⟩))
  rw [if_neg c1]
  by_cases c2 : w = 20
  · rw [if_pos c2]
    by_cases c3 : tkK T n q1 = 6
    · rw [if_pos c3]
      have hu1 := tkN_b T n q1 hu.2.1
      refine gO_t (gT_t (gb_t (exp_t hu1.2.1 hv hb (by omega)) (fun s h7 => ?_)))
      obtain ⟨⟨a1, a2, a3, a4, a5, a6, a7, a8⟩, a9⟩ := mo_of (M := b.1) hu1.2.1 hv h7 (Nat.le_refl _) hb trivial (fun h => h) (fun h => h)
      exact gb_t (gpr_tot f _ _ _ _ _ a2 (by omega) (by omega) (by omega)) (fun _ _ => gW_t (fun _ => gW_t (fun _ => ⟨_, rfl⟩)))
    · rw [if_neg c3]; exact ⟨_, rfl⟩
  rw [if_neg c2]
  by_cases c3 : w = 21
  · rw [if_pos c3]; exact gb_t (exp_t hu.2.1 hv hb (by omega)) (fun _ _ => gW_t (fun _ => ⟨_, rfl⟩))
  · rw [if_neg c3]; exact gW_t (fun _ => ⟨_, rfl⟩)
end STO
def lvZ : Nat → Nat
  | 0 => 30
  | 1 => 29
  | 3 => 27
  | _ => 28
theorem hE_t {T : Nat → Int32} {n q : Nat} {k : Nat → SR} (hk : ∀ q, ∃ y, k q = some y) : ∃ y, hE T n q k = some y := hW_t (fun _ => hW_t (fun _ => hk _))
theorem gs_tot {T : Nat → Int32} {n : Nat} {MD : Nat → Nat → Nat} : ∀ (f nt : Nat) (E : En) (lp o q v : Nat) (pe : Int32) (i l : Nat) (b : BT) (s : SB), nt ≤ 5 → q ≤ n → v ≤ 60 → s.1 ≤ 400 → 1 ≤ b.1 → (2 ≤ nt → ¬ nt = 3 → ¬ tkK T n q = 25) → 40 * (n - q) + lvZ nt + 1 ≤ f → ∃ y, GS T n MD f nt E lp o q v pe i l b s = some y
  | 0, nt, E, lp, o, q, v, pe, i, l, b, s, _, _, _, _, _, _, hf => absurd hf (by omega)
  | f + 1, nt, E, lp, o, q, v, pe, i, l, b, s, hnt, hq, hv, hs, hb, hK, hf => by
    have ih := gs_tot (T := T) (n := n) (MD := MD) f
    have mo := gs_mo (T := T) (n := n) (MD := MD) f
    have hu := tkN_b T n q hq
    match nt, hnt with
    | 0, _ =>
      simp only [GS]
      simp only [lvZ] at hf
      by_cases c : isBE (tkK T n q)
      · rw [if_pos c]; exact ⟨_, rfl⟩
      rw [if_neg c]
      refine hb_t (ih _ _ _ _ _ _ _ _ _ _ _ (by decide) hq hv hs hb (fun z => absurd z (by decide)) (by simp only [lvZ]; omega)) (fun t h7 => ?_)
      obtain ⟨⟨a1, a2, a3, a4, a5, a6, a7, a8, a9, a10⟩, d1, d2, d3⟩ := mo _ _ _ _ _ _ _ _ _ _ _ t b.1 (by decide) hq hv hs h7 hb (Nat.le_refl _) (fun z => absurd z (by decide)) (fun z => absurd z (by decide))
      have d2 := (d2 (by decide)).2
      exact ih _ _ _ _ _ _ _ _ _ _ _ (by decide) a2 a4 a10 (by rw [bLnk_1]; omega) (fun z => absurd z (by decide)) (by simp only [lvZ]; omega)
    | 1, _ =>
      simp only [GS]
      simp only [lvZ] at hf
      by_cases c : ¬ isSt (tkK T n q) ∨ (isOp (tkK T n q) ∧ o = 20) ∨ s.1 = 400
      · rw [if_pos c]; exact ⟨_, rfl⟩
      rw [if_neg c]
      have hs4 : ¬ s.1 = 400 := fun z => c (Or.inr (Or.inr z))
      refine hb_t ?_ (fun t _ => ⟨_, rfl⟩)
      have grp : ∀ nt : Nat, (nt = 2 ∨ nt = 4 ∨ nt = 5) → ¬ tkK T n q = 25 → ∃ y, GS T n MD f nt E lp o q v 0 0 0 b (sMo s) = some y := fun nt hnt hk =>
        ih _ _ _ _ _ _ _ _ _ _ _ (by omega) hq hv (by show s.1 + 1 ≤ 400; omega) hb (fun _ _ => hk) (by rcases hnt with rfl | rfl | rfl <;> simp only [lvZ] <;> omega)
      by_cases c1 : tkK T n q = 26
      · rw [if_pos c1]; exact lb_t (bg_t hq hv hb (by omega)) (fun _ _ => ⟨_, rfl⟩)
      rw [if_neg c1]
      by_cases c2 : tkK T n q = 10
      · rw [if_pos c2]; exact lb_t (pa_t hq hv hb (by omega)) (fun _ _ => ⟨_, rfl⟩)
      rw [if_neg c2]
      by_cases c3 : tkK T n q = 39
      · rw [if_pos c3]; exact grp 2 (by decide) (by omega)
      rw [if_neg c3]
      by_cases c4 : tkK T n q = 43
      · rw [if_pos c4]; exact grp 4 (by decide) (by omega)
      rw [if_neg c4]
      by_cases c5 : tkK T n q = 45
      · rw [if_pos c5]; exact grp 5 (by decide) (by omega)
      rw [if_neg c5]
      exact lb_t (sm_t hq hv hb (by omega)) (fun _ _ => ⟨_, rfl⟩)
    | 2, _ =>
      simp only [GS]
      simp only [lvZ] at hf
      have hu4 := hu.2.2.2 (hK (by decide) (by decide))
      refine hT_t ?_
      generalize tkN T n q = q1 at hu hu4
      refine hb_t (ih _ _ _ _ _ _ _ _ _ _ _ (by decide) hu.2.1 hv hs (by rw [bNode_1]; omega) (fun _ z => absurd rfl z) (by simp only [lvZ]; omega)) (fun t h7 => ?_)
      obtain ⟨⟨a1, a2, a3, a4, a5, a6, a7, a8, a9, a10⟩, d1, d2, d3⟩ := mo _ _ _ _ _ _ _ _ _ _ _ t b.1 (by decide) hu.2.1 hv hs h7 hb (by rw [bNode_1]; omega) (fun z => absurd z (by decide)) (fun _ z => absurd rfl z)
      rw [bNode_1] at a5
      refine hb_t ?_ (fun x _ => hE_t (fun _ => ⟨_, rfl⟩))
      by_cases c : tkK T n t.1 = 42
      · rw [if_pos c]
        have hut := tkN_b T n t.1 a2
        exact hT_t (hb_t (ih _ _ _ _ _ _ _ _ _ _ _ (by decide) hut.2.1 a4 a10 (by omega) (fun z => absurd z (by decide)) (by simp only [lvZ]; omega)) (fun _ _ => ⟨_, rfl⟩))
      · rw [if_neg c]; exact ⟨_, rfl⟩
    | 3, _ =>
      simp only [GS]
      simp only [lvZ] at hf
      refine hb_t ?_ (fun c h7 => ?_)
      · by_cases k : l = 0 ∧ tkK T n q = 63
        · rw [if_pos k]; exact hT_t ⟨_, rfl⟩
        · rw [if_neg k]; exact lb_t (exp_t hq hv hb (by omega)) (fun _ _ => ⟨_, rfl⟩)
      have key : MoZ n b s q v c := by
        by_cases k : l = 0 ∧ tkK T n q = 63
        · rw [if_pos k] at h7
          obtain ⟨_, h7⟩ := hT_s h7
          cases h7
          unfold MoZ; dsimp only; omega
        · rw [if_neg k] at h7
          obtain ⟨u, h8, h7⟩ := lb_s h7
          obtain ⟨⟨a1, a2, a3, a4, a5, a6, a7, a8⟩, a9⟩ := mo_of (M := b.1) hq hv h8 (Nat.le_refl _) hb trivial (fun h => h) (fun h => h)
          cases h7
          unfold MoZ; dsimp only; omega
      obtain ⟨a1, a2, a3, a4, a5, a6, a7, a8, a9, a10⟩ := key
      refine hW_t (fun k40 => ?_)
      have huc := tkN_b T n c.1 a2
      have huc4 := huc.2.2.2 (by rw [k40]; decide)
      refine hb_t (ih _ _ _ _ _ _ _ _ _ _ _ (by decide) huc.2.1 a4 hs (by omega) (fun z => absurd z (by decide)) (by simp only [lvZ]; omega)) (fun t h9 => ?_)
      obtain ⟨⟨b1, b2, b3, b4, b5, b6, b7, b8, b9, b10⟩, _⟩ := mo _ _ _ _ _ _ _ _ _ _ _ t b.1 (by decide) huc.2.1 a4 hs h9 hb (by omega) (fun _ z => absurd rfl z) (fun z => absurd z (by decide))
      by_cases k41 : tkK T n t.1 = 41
      · rw [if_pos k41]
        have hut := tkN_b T n t.1 b2
        refine hT_t (ih _ _ _ _ _ _ _ _ _ _ _ (by decide) hut.2.1 b4 b10 ?_ (fun _ z => absurd rfl z) (by simp only [lvZ]; omega))
        by_cases l0 : l = 0
        · rw [if_pos l0]; show 1 ≤ t.2.2.2.2.1.1 + 1; omega
        · rw [if_neg l0]; show 1 ≤ t.2.2.2.2.1.1 + 1; omega
      · rw [if_neg k41]; exact ⟨_, rfl⟩
    | 4, _ =>
      simp only [GS]
      simp only [lvZ] at hf
      have hu4 := hu.2.2.2 (hK (by decide) (by decide))
      refine hT_t ?_
      generalize tkN T n q = q1 at hu hu4
      refine lb_t (exp_t hu.2.1 hv (by rw [bNode_1]; omega) (by omega)) (fun t h7 => ?_)
      obtain ⟨⟨a1, a2, a3, a4, a5, a6, a7, a8⟩, a9⟩ := mo_of (M := b.1) hu.2.1 hv h7 (by rw [bNode_1]; omega) hb trivial (fun h => h) (fun h => h)
      rw [bNode_1] at a5
      refine hW_t (fun _ => ?_)
      have hut := tkN_b T n t.1 a2
      exact hb_t (ih _ _ _ _ _ _ _ _ _ _ _ (by decide) hut.2.1 (by omega) hs (by rw [bSet_1]; omega) (fun z => absurd z (by decide)) (by simp only [lvZ]; omega)) (fun _ _ => hE_t (fun _ => ⟨_, rfl⟩))
    | 5, _ =>
      simp only [GS]
      simp only [lvZ] at hf
      have hu4 := hu.2.2.2 (hK (by decide) (by decide))
      refine hT_t ?_
      generalize tkN T n q = q1 at hu hu4
      refine lb_t (g_tot T n f 17 E (o + 1) q1 v 0 0 E.2.2.1.length 1 _ (by decide) hu.2.1 hv (by rw [bNode_1]; omega) (Or.inl rfl) (by simp only [lvG]; omega)) (fun t h7 => ?_)
      obtain ⟨x1, a9⟩ := g_mono T n f 17 _ _ _ _ _ _ _ _ _ t hu.2.1 hv h7 b.1 (by rw [bNode_1]; omega) hb (Or.inl rfl)
      have x1 : Mo n (bNode b 48 0 (-1) 0) q1 v t := x1
      obtain ⟨a1, a2, a3, a4, a5, a6, a7, a8⟩ := x1
      rw [bNode_1] at a5
      have hut := tkN_b T n t.1 a2
      refine hb_t ?_ (fun c h8 => ?_)
      · by_cases k : tkK T n t.1 = 15
        · rw [if_pos k]; exact hT_t (lb_t (exp_t hut.2.1 (by omega) (by rw [bSet_1]; omega) (by omega)) (fun _ _ => ⟨_, rfl⟩))
        · rw [if_neg k]; exact ⟨_, rfl⟩
      have key : t.1 ≤ c.1 ∧ c.1 ≤ n ∧ c.2.1 ≤ 60 ∧ 1 ≤ c.2.2.2.2.1.1 := by
        by_cases k : tkK T n t.1 = 15
        · rw [if_pos k] at h8
          obtain ⟨_, h8⟩ := hT_s h8
          obtain ⟨y, h9, h8⟩ := lb_s h8
          obtain ⟨⟨b1, b2, b3, b4, b5, b6, b7, b8⟩, _⟩ := mo_of (M := b.1) hut.2.1 (by omega) h9 (by rw [bSet_1]; omega) hb trivial (fun h => h) (fun h => h)
          rw [bSet_1] at b5
          cases h8
          dsimp only; rw [bSet_1]; omega
        · rw [if_neg k] at h8; cases h8
          dsimp only; rw [bSet_1]; omega
      obtain ⟨c1, c2, c3, c4⟩ := key
      refine hW_t (fun _ => ?_)
      have huc := tkN_b T n c.1 c2
      exact hb_t (ih _ _ _ _ _ _ _ _ _ _ _ (by decide) huc.2.1 c3 hs c4 (fun z => absurd z (by decide)) (by simp only [lvZ]; omega)) (fun _ _ => hE_t (fun _ => ⟨_, rfl⟩))
end JnS65

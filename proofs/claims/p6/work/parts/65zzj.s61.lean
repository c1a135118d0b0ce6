/-! What begins with a name: the reference's. -/
section BEG
variable {T : Nat → Int32} {n : Nat} {E : En} {o M P : Nat}
/-- behind := -/
theorem bg7 {f q v i e K : Nat} {b : BT} {x : Option RT} {MD : Nat → Nat → Nat} {σ ρ : MS} {N : Nat → Int32} (hG : gAs T n f MD E o i e q v b = some x) (hN : N 1 = nI e) (hI : Inf b e i) (he1 : 1 ≤ e) (he2 : e < b.1) (hS : PS T n E o q v b ρ) (hMD : PMs ρ E MD) (hF : FrM M P E.2.2.2.1 σ ρ) (h1 : 1 ≤ M) (hM : M ≤ b.1) (hP : P ≤ b.2.1) (hn : b.1 + (n + 1 - q) + 967 ≤ 70000) (hp : b.2.1 + (n - q) ≤ 70000) (hK : b.1 + (n + 1 - q) + 964 ≤ K) : Tm (fun k => x_begun k 7 N ρ) (Po T n E o M P K σ x) := by
  have hq := PS_q hS
  have hu := tkN_b T n q hq.1
  unfold gAs at hG
  refine Tm_suc (fun k => by rw [x_begun]) ?_
  refine Tm_ob (p_word hS (s := 31) (by decide) rfl) (fun r1 hr1 => ?_)
  obtain ⟨u, τ⟩ := r1
  obtain ⟨h3, hr1⟩ := hr1
  have h3 : τ = ρ := h3
  subst h3
  refine Tm_ite (fun z => ?_) (fun z => ?_)
  · have h63 : ¬ tkK T n q = 63 := fun y => hr1.mpr y z
    rw [if_neg h63] at hG
    have ten : ∀ (ρ : MS), PS T n E o q v b ρ → FrM M P E.2.2.2.1 σ ρ → ¬ (tkK T n q = 26 ∧ (fd E (tkS T n q)).1 = 3) → Tm (fun k => x_begun k 10 N ρ) (Po T n E o M P K σ x) := fun ρ hS hF hno => by
      rw [if_neg hno] at hG
      refine Tm_suc (fun k => by rw [x_begun]) ?_
      rw [hN]
      exact ewn hG hS hF h1 hM hP hn hp hK
    refine Tm_suc (fun k => by rw [x_begun]) ?_
    refine Tm_ite (fun z => ?_) (fun z => ?_)
    · have hK26 := (cur_kind (PS_cur hS)).2.1.mp z
      refine Tm_ob (p_find (M := M) (P := P) (w := E.2.2.2.1) hS (by omega) _) (fun r2 hr2 => ?_)
      obtain ⟨hS2, hF2, hsame, h46, hF3, h47, hcal⟩ := hr2
      rw [h46]
      refine Tm_ite (c := nI (fd E (tkS T n q)).1 = 3) (fun y => ?_) (fun y => ?_)
      · have y : nI (fd E (tkS T n q)).1 = nI 3 := y
        rw [n_eq (by omega) (by omega)] at y
        rw [if_pos ⟨hK26, y⟩] at hG
        refine bg_call (M := M) (P := P) hG hK26 y (by rw [upd_same]; exact hN) hS2 (h47 (by omega)).1 ?_ (PMs_fr hMD hF2) (FrM_tr hF hF2) h1 hM hP hn hp hK
        have hc := hcal (by omega) (by omega)
        rw [hF2.2.2.1 18 (by decide)]
        exact hc
      · have y : ¬ nI (fd E (tkS T n q)).1 = nI 3 := y
        rw [n_eq (by omega) (by omega)] at y
        exact ten r2.2 hS2 (FrM_tr hF hF2) (fun c => y c.2)
    · exact ten τ hS hF (fun c => z ((cur_kind (PS_cur hS)).2.1.mpr c.1))
  · have h63 := hr1.mp z
    rw [if_pos h63] at hG
    rw [hN]
    refine Tm_chk (n_in (by omega) (by omega)) ?_
    rw [n_cl (p := e) (by omega)]
    have h4 : τ.2.2 4 e = b.2.2.1 4 e := hS.2.2.1.2.2.2.1 4 (by decide) (by decide) e he1 he2
    refine Tm_ite (fun y => ?_) (fun y => ?_)
    · rw [if_pos (hI.1.mpr (by rw [← h4]; exact y))] at hG
      refine Tm_suc (fun k => by rw [x_begun]) ?_
      rw [hN]
      refine Tm_ob (p_take (M := M) (P := P) (w := E.2.2.2.1) hS _) (fun r2 hr2 => ?_)
      rcases gT_any hG with ⟨t2, rfl⟩ | ⟨t2, hG⟩
      · rcases hr2.2 with ⟨_, hB⟩ | ⟨z, _⟩
        · exact wnb hB (FrM_tr hF hr2.1) (by omega) (by omega) hM
        · exact absurd t2 z
      rcases hr2.2 with ⟨z, _⟩ | ⟨_, hS2⟩
      · exact absurd z t2
      exact wn hG hS2 (FrM_tr hF hr2.1) (by omega) (by omega) hM
    · rw [if_neg (fun c => y (by show τ.2.2 4 e = 7; rw [h4]; exact hI.1.mp c))] at hG
      have hx : x = none := (Option.some.inj hG).symm
      subst hx
      refine Tm_ob (p_cannot (M := M) (P := P) (w := E.2.2.2.1) hS _) (fun rc hrc => ?_)
      exact Tm_some ⟨⟨_, hrc.1, by omega, hM⟩, ⟨0, rfl, by decide, Or.inl rfl⟩, FrM_tr hF hrc.2⟩
/-- behind a target -/
theorem bg2 {f q v i e K : Nat} {b : BT} {x : Option RT} {MD : Nat → Nat → Nat} {σ ρ : MS} {N : Nat → Int32} (hG : gBh T n f MD E o i e q v b = some x) (hN : N 1 = nI e) (hI : Inf b e i) (he1 : 1 ≤ e) (he2 : e < b.1) (hS : PS T n E o q v b ρ) (hMD : PMs ρ E MD) (hF : FrM M P E.2.2.2.1 σ ρ) (h1 : 1 ≤ M) (hM : M ≤ b.1) (hP : P ≤ b.2.1) (hn : b.1 + (n + 1 - q) + 967 ≤ 70000) (hp : b.2.1 + (n - q) ≤ 70000) (hK : b.1 + (n + 1 - q) + 964 ≤ K) : Tm (fun k => x_begun k 2 N ρ) (Po T n E o M P K σ x) := by
  have hq := PS_q hS
  have hu := tkN_b T n q hq.1
  unfold gBh at hG
  have six : ¬ (tkK T n q = 2 ∨ tkK T n q = 3 ∨ tkK T n q = 4) → ¬ (tkK T n q = 57 ∨ tkK T n q = 58 ∨ tkK T n q = 59) → Tm (fun k => x_begun k 6 N ρ) (Po T n E o M P K σ x) := fun c1 c2 => by
    rw [if_neg c1, if_neg c2] at hG
    refine Tm_suc (fun k => by rw [x_begun]) ?_
    refine Tm_ob (p_want (M := M) (P := P) (w := E.2.2.2.1) hS (s := 1) (by decide) (by decide) rfl) (fun r3 hr3 => ?_)
    rcases gW_any hG with ⟨t3, rfl⟩ | ⟨t3, hG⟩
    · rcases hr3.2 with ⟨_, hB⟩ | ⟨y, _⟩
      · refine Tm_ite (fun z => absurd z hB.1) (fun _ => ?_)
        exact Tm_some ⟨⟨_, hB, by omega, hM⟩, ⟨0, rfl, by decide, Or.inl rfl⟩, FrM_tr hF hr3.1⟩
      · exact absurd y t3
    rcases hr3.2 with ⟨y, _⟩ | ⟨_, hS3⟩
    · exact absurd t3 y
    refine Tm_ite (fun _ => ?_) (fun z => absurd (PS_ok hS3) z)
    exact bg7 hG hN hI he1 he2 hS3 (PMs_fr hMD hr3.1) (FrM_tr hF hr3.1) h1 hM hP (by omega) (by omega) (by omega)
  have five : ¬ (tkK T n q = 2 ∨ tkK T n q = 3 ∨ tkK T n q = 4) → (tkK T n q = 57 ∨ tkK T n q = 58 ∨ tkK T n q = 59) → Tm (fun k => x_begun k 5 N ρ) (Po T n E o M P K σ x) := fun c1 c2 => by
    rw [if_neg c1, if_pos c2] at hG
    exact bg5 hG (by omega) hN hS hF h1 hM hP hn hp hK
  have four : ¬ (tkK T n q = 2 ∨ tkK T n q = 3 ∨ tkK T n q = 4) → Tm (fun k => x_begun k 4 N ρ) (Po T n E o M P K σ x) := fun c1 => by
    refine Tm_suc (fun k => by rw [x_begun]) ?_
    refine Tm_ob (p_word hS (s := 25) (by decide) rfl) (fun r1 hr1 => ?_)
    obtain ⟨u, τ⟩ := r1
    obtain ⟨h3, hr1⟩ := hr1
    have h3 : τ = ρ := h3
    subst h3
    refine Tm_ite (fun z1 => ?_) (fun z => five c1 (Or.inl (hr1.mp z)))
    refine Tm_ob (p_word hS (s := 26) (by decide) rfl) (fun r2 hr2 => ?_)
    obtain ⟨u2, ρ2⟩ := r2
    obtain ⟨h3, hr2⟩ := hr2
    have h3 : ρ2 = τ := h3
    subst h3
    refine Tm_ite (fun z2 => ?_) (fun z => five c1 (Or.inr (Or.inl (hr2.mp z))))
    refine Tm_ob (p_word hS (s := 27) (by decide) rfl) (fun r4 hr4 => ?_)
    obtain ⟨u4, ρ4⟩ := r4
    obtain ⟨h3, hr4⟩ := hr4
    have h3 : ρ4 = ρ2 := h3
    subst h3
    refine Tm_ite (fun z3 => ?_) (fun z => five c1 (Or.inr (Or.inr (hr4.mp z))))
    refine six c1 (fun y => ?_)
    rcases y with y | y | y
    · exact hr1.mpr y z1
    · exact hr2.mpr y z2
    · exact hr4.mpr y z3
  have three : (tkK T n q = 2 ∨ tkK T n q = 3 ∨ tkK T n q = 4) → Tm (fun k => x_begun k 3 N ρ) (Po T n E o M P K σ x) := fun c1 => by
    rw [if_pos c1] at hG
    exact bg3 hG (by omega) hN hS hF h1 hM hP hn hp hK
  refine Tm_suc (fun k => by rw [x_begun]) ?_
  refine Tm_ob (p_sign hS (s := 2) (by decide) (by decide) rfl) (fun r1 hr1 => ?_)
  obtain ⟨u, τ⟩ := r1
  obtain ⟨h3, hr1⟩ := hr1
  have h3 : τ = ρ := h3
  subst h3
  refine Tm_ite (fun z1 => ?_) (fun z => three (Or.inl (hr1.mp z)))
  refine Tm_ob (p_sign hS (s := 3) (by decide) (by decide) rfl) (fun r2 hr2 => ?_)
  obtain ⟨u2, ρ2⟩ := r2
  obtain ⟨h3, hr2⟩ := hr2
  have h3 : ρ2 = τ := h3
  subst h3
  refine Tm_ite (fun z2 => ?_) (fun z => three (Or.inr (Or.inl (hr2.mp z))))
  refine Tm_ob (p_sign hS (s := 4) (by decide) (by decide) rfl) (fun r4 hr4 => ?_)
  obtain ⟨u4, ρ4⟩ := r4
  obtain ⟨h3, hr4⟩ := hr4
  have h3 : ρ4 = ρ2 := h3
  subst h3
  refine Tm_ite (fun z3 => ?_) (fun z => three (Or.inr (Or.inr (hr4.mp z))))
  refine four (fun y => ?_)
  rcases y with y | y | y
  · exact hr1.mpr y z1
  · exact hr2.mpr y z2
  · exact hr4.mpr y z3
theorem p_begun {f q v : Nat} {b : BT} {x : Option RT} {MD : Nat → Nat → Nat} {σ : MS} {L : Nat → Int32} (hG : gBg T n f MD E o q v b = some x) (hKq : tkK T n q = 26) (hS : PS T n E o q v b σ) (hMD : PMs σ E MD) (h1 : 1 ≤ M) (hM : M ≤ b.1) (hP : P ≤ b.2.1) (hn : b.1 + (n + 1 - q) + 967 ≤ 70000) (hp : b.2.1 + (n - q) ≤ 70000) : Tm (fun k => x_begun k 0 L σ) (Po T n E o M P (b.1 + (n + 1 - q) + 964) σ x) := by
  have hq := PS_q hS
  have hv := PS_v hS
  unfold gBg at hG
  refine Tm_suc (fun k => by rw [x_begun]) ?_
  refine Tm_ob (p_find (M := M) (P := P) (w := E.2.2.2.1) hS (by omega) _) (fun r2 hr2 => ?_)
  obtain ⟨hS2, hF2, hsame, h46, hF3, h47, hcal⟩ := hr2
  rw [h46]
  refine Tm_ite (c := nI (fd E (tkS T n q)).1 = 3) (fun y => ?_) (fun y => ?_)
  · have y : nI (fd E (tkS T n q)).1 = nI 3 := y
    rw [n_eq (by omega) (by omega)] at y
    rw [if_pos y] at hG
    refine bg_call (M := M) (P := P) hG hKq y upd_same hS2 (h47 (by omega)).1 ?_ (PMs_fr hMD hF2) hF2 h1 hM hP hn hp (Nat.le_refl _)
    have hc := hcal (by omega) (by omega)
    rw [hF2.2.2.1 18 (by decide)]
    exact hc
  · have y : ¬ nI (fd E (tkS T n q)).1 = nI 3 := y
    rw [n_eq (by omega) (by omega)] at y
    rw [if_neg y] at hG
    refine Tm_suc (fun k => by rw [x_begun]) ?_
    rcases gb_any hG with ⟨h7, hy⟩ | ⟨s, h7, hG⟩
    · subst hy
      refine Tm_ob (p_target (M := M) (P := P) h7 hS2 h1 hM hP (by omega) (by omega)) (fun r3 hr3 => ?_)
      obtain ⟨⟨m1, hm, hmk, hMm⟩, _, hF3⟩ := hr3
      refine Tm_ite (fun z => absurd z hm.1) (fun _ => ?_)
      exact Tm_some ⟨⟨_, hm, by omega, hMm⟩, ⟨0, rfl, by decide, Or.inl rfl⟩, FrM_tr hF2 hF3⟩
    obtain ⟨⟨a1, a2, a3, a4, a5, a6, a7, a8⟩, a9, a10, a11⟩ := gTg_mo (M := M) hq.1 hv hM h1 h7
    refine Tm_ob (p_target (M := M) (P := P) h7 hS2 h1 hM hP (by omega) (by omega)) (fun r3 hr3 => ?_)
    obtain ⟨hS3, hr31, hF3⟩ := hr3
    refine Tm_ite (fun _ => ?_) (fun z => absurd (PS_ok hS3) z)
    have hF3 := FrM_tr hF2 hF3
    exact bg2 hG (by rw [upd_same]; exact hr31) a11 (by omega) a9.2 hS3 (PMs_fr hMD hF3) hF3 h1 (by omega) (by omega) (by omega) (by omega) (by omega)
end BEG

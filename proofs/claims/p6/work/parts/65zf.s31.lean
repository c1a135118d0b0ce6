/-! Sums, terms, comparisons, not, powers, prefixes. -/
section EXPS
variable {T : Nat → Int32} {n f : Nat}
/-- an operator as a number -/
theorem s_operator (L : Nat → Int32) (σ : MS) : Tm (fun k => x_operator k 0 L σ) (fun r => r = (if σ.1 6 = 4 then σ.1 7 else 100 + σ.1 7, σ)) := by
  refine Tm_suc (fun k => by rw [x_operator]) ?_
  refine Tm_ite (fun c => ?_) (fun c => ?_)
  · refine Tm_suc (fun k => by rw [x_operator]) ?_
    exact Tm_some (by rw [if_pos c, upd_same])
  · refine Tm_suc (fun k => by rw [x_operator]) ?_
    refine Tm_suc (fun k => by rw [x_operator]) ?_
    exact Tm_some (by rw [if_neg c, upd_same])
theorem p_operator {E : En} {o q v : Nat} {b : BT} {σ : MS} (h : PS T n E o q v b σ) (hk : (1 ≤ tkK T n q ∧ tkK T n q ≤ 24) ∨ 32 ≤ tkK T n q) (L : Nat → Int32) : Tm (fun k => x_operator k 0 L σ) (fun r => r = (opr (tkK T n q), σ)) := by
  refine Tm_mono (s_operator L σ) (fun r hr => ?_)
  subst hr
  have c := cur_kind (PS_cur h)
  have w := cur_what (PS_cur h)
  unfold opr
  rcases hk with hk | hk
  · rw [if_pos (c.2.2.2.2.1.mpr hk), if_pos hk.2, w.1 hk.1 hk.2]
  · rw [if_neg (fun z => by have := c.2.2.2.2.1.mp z; omega), if_neg (by omega), w.2.1 hk]
theorem e_7 (H2 : S8 T n f) (H1 : S7 T n f) : S7 T n (f + 1) := by
  intro E o q v i e b x hG σ L d M P hS h1 hM hP hn hp hd hre
  obtain ⟨hL1, he⟩ := hre
  obtain ⟨d, rfl⟩ : ∃ d', d = d' + 1 := ⟨d - 1, by omega⟩
  rw [G_7] at hG
  have out : ¬ (tkK T n q = 2 ∨ tkK T n q = 3) → Tm (fun k => x_GE k (d + 1) 14 3 L σ) (Po T n E o M P (b.1 + (n + 1 - q) + 3 * (d + 1 + 1)) σ x) := fun hK => by
    rw [if_neg hK] at hG
    cases hG
    refine Tm_suc (fun k => by rw [xE_14]) ?_
    exact Tm_some ⟨hS, hL1, FrM_rf⟩
  have on : (tkK T n q = 2 ∨ tkK T n q = 3) → Tm (fun k => x_GE k (d + 1) 14 2 L σ) (Po T n E o M P (b.1 + (n + 1 - q) + 3 * (d + 1 + 1)) σ x) := fun hK => by
    rw [if_pos hK] at hG
    refine Tm_suc (fun k => by rw [xE_14]) ?_
    refine Tm_ob (p_operator hS (by omega) _) (fun r1 hr1 => ?_)
    subst hr1
    exact turn_of (L := L) (N := upd L 2 (opr (tkK T n q))) (A := fun L x => upd L 1 x) hG (fun _ _ _ h => b_sum1 h) (fun σ d L h9 h => by obtain ⟨d', rfl⟩ : ∃ d', d = d' + 2 := ⟨d - 2, by omega⟩; exact b_ter h) (fun _ _ => trivial) (fun _ _ h => h) (fun _ _ _ _ h => h) H2 H1 (by omega) hS h1 hM hP hn hp hd he _ (fun x => upd_same) hL1
  refine Tm_suc (fun k => by rw [xE_14]) ?_
  refine Tm_ite (c := σ.1 10 = 0) (fun _ => ?_) (fun c => absurd (PS_ok hS) c)
  refine Tm_ob (p_sign hS (s := 2) (by decide) (by decide) rfl) (fun r2 hr2 => ?_)
  obtain ⟨u, τ⟩ := r2
  obtain ⟨rfl, hr2⟩ := hr2
  refine Tm_ite (fun c => ?_) (fun c => on (Or.inl (hr2.mp c)))
  refine Tm_ob (p_sign hS (s := 3) (by decide) (by decide) rfl) (fun r4 hr4 => ?_)
  obtain ⟨u, τ⟩ := r4
  obtain ⟨rfl, hr4⟩ := hr4
  refine Tm_ite (fun c2 => ?_) (fun c2 => on (Or.inr (hr4.mp c2)))
  exact out (fun z => z.elim (fun z => hr2.mpr z c) (fun z => hr4.mpr z c2))
theorem e_9 (H2 : S10 T n f) (H1 : S9 T n f) : S9 T n (f + 1) := by
  intro E o q v i e b x hG σ L d M P hS h1 hM hP hn hp hd hre
  obtain ⟨hL1, he⟩ := hre
  obtain ⟨d, rfl⟩ : ∃ d', d = d' + 1 := ⟨d - 1, by omega⟩
  rw [G_9] at hG
  have out : ¬ (tkK T n q = 4 ∨ tkK T n q = 67 ∨ tkK T n q = 68) → Tm (fun k => x_GE k (d + 1) 15 3 L σ) (Po T n E o M P (b.1 + (n + 1 - q) + 3 * (d + 1 + 1)) σ x) := fun hK => by
    rw [if_neg hK] at hG
    cases hG
    refine Tm_suc (fun k => by rw [xE_15]) ?_
    exact Tm_some ⟨hS, hL1, FrM_rf⟩
  have on : (tkK T n q = 4 ∨ tkK T n q = 67 ∨ tkK T n q = 68) → Tm (fun k => x_GE k (d + 1) 15 2 L σ) (Po T n E o M P (b.1 + (n + 1 - q) + 3 * (d + 1 + 1)) σ x) := fun hK => by
    rw [if_pos hK] at hG
    refine Tm_suc (fun k => by rw [xE_15]) ?_
    refine Tm_ob (p_operator hS (by omega) _) (fun r1 hr1 => ?_)
    subst hr1
    exact turn_of (L := L) (N := upd L 2 (opr (tkK T n q))) (A := fun L x => upd L 1 x) hG (fun _ _ _ h => b_ter1 h) (fun σ d L h9 h => by obtain ⟨d', rfl⟩ : ∃ d', d = d' + 1 := ⟨d - 1, by omega⟩; exact b_pow h) (fun _ _ => trivial) (fun _ _ h => h) (fun _ _ _ _ h => h) H2 H1 (by omega) hS h1 hM hP hn hp hd he _ (fun x => upd_same) hL1
  refine Tm_suc (fun k => by rw [xE_15]) ?_
  refine Tm_ite (c := σ.1 10 = 0) (fun _ => ?_) (fun c => absurd (PS_ok hS) c)
  refine Tm_ob (p_sign hS (s := 4) (by decide) (by decide) rfl) (fun r2 hr2 => ?_)
  obtain ⟨u, τ⟩ := r2
  obtain ⟨rfl, hr2⟩ := hr2
  refine Tm_ite (fun c => ?_) (fun c => on (Or.inl (hr2.mp c)))
  refine Tm_ob (p_word hS (s := 35) (by decide) rfl) (fun r4 hr4 => ?_)
  obtain ⟨u, τ⟩ := r4
  obtain ⟨rfl, hr4⟩ := hr4
  refine Tm_ite (fun c2 => ?_) (fun c2 => on (Or.inr (Or.inl (hr4.mp c2))))
  refine Tm_ob (p_word hS (s := 36) (by decide) rfl) (fun r6 hr6 => ?_)
  obtain ⟨u, τ⟩ := r6
  obtain ⟨rfl, hr6⟩ := hr6
  refine Tm_ite (fun c3 => ?_) (fun c3 => on (Or.inr (Or.inr (hr6.mp c3))))
  exact out (fun z => z.elim (fun z => hr2.mpr z c) (fun z => z.elim (fun z => hr4.mpr z c2) (fun z => hr6.mpr z c3)))
/-- is it a comparison -/
theorem p_isRelation {E : En} {o q v : Nat} {b : BT} {σ : MS} (h : PS T n E o q v b σ) (L : Nat → Int32) : Tm (fun k => x_isRelation k 0 L σ) (fun r => r.2 = σ ∧ (¬ r.1 = 0 ↔ isRl (tkK T n q))) := by
  have c := cur_kind (PS_cur h)
  have w := cur_what (PS_cur h)
  have yes : isRl (tkK T n q) → ∀ L, Tm (fun k => x_isRelation k 2 L σ) (fun r => r.2 = σ ∧ (¬ r.1 = 0 ↔ isRl (tkK T n q))) := fun hy L => by
    refine Tm_suc (fun k => by rw [x_isRelation]) ?_
    refine Tm_suc (fun k => by rw [x_isRelation]) ?_
    refine Tm_chk (by rw [upd_same]; exact Or.inr rfl) ?_
    exact Tm_some ⟨rfl, ⟨fun _ => hy, fun _ => by show ¬ upd L 100 1 100 = 0; rw [upd_same]; decide⟩⟩
  have words : ¬ (17 ≤ tkK T n q ∧ tkK T n q ≤ 22) → ∀ L, Tm (fun k => x_isRelation k 1 L σ) (fun r => r.2 = σ ∧ (¬ r.1 = 0 ↔ isRl (tkK T n q))) := fun hn L => by
    refine Tm_suc (fun k => by rw [x_isRelation]) ?_
    refine Tm_ob (p_word h (s := 14) (by decide) rfl) (fun r1 hr1 => ?_)
    obtain ⟨u, τ⟩ := r1
    obtain ⟨rfl, hr1⟩ := hr1
    refine Tm_ite (fun c1 => ?_) (fun c1 => yes (Or.inr (Or.inl (hr1.mp c1))) _)
    refine Tm_ob (p_word h (s := 15) (by decide) rfl) (fun r2 hr2 => ?_)
    obtain ⟨u, τ⟩ := r2
    obtain ⟨rfl, hr2⟩ := hr2
    refine Tm_ite (fun c2 => ?_) (fun c2 => yes (Or.inr (Or.inr (Or.inl (hr2.mp c2)))) _)
    refine Tm_ob (p_word h (s := 16) (by decide) rfl) (fun r3 hr3 => ?_)
    obtain ⟨u, τ⟩ := r3
    obtain ⟨rfl, hr3⟩ := hr3
    refine Tm_ite (fun c3 => ?_) (fun c3 => yes (Or.inr (Or.inr (Or.inr (hr3.mp c3)))) _)
    refine Tm_suc (fun k => by rw [x_isRelation]) ?_
    refine Tm_suc (fun k => by rw [x_isRelation]) ?_
    refine Tm_chk (by rw [upd_same]; exact Or.inl rfl) ?_
    refine Tm_some ⟨rfl, ⟨fun z => absurd (show upd L 100 0 100 = 0 from upd_same) z, fun z => ?_⟩⟩
    rcases z with z | z | z | z
    · exact absurd z hn
    · exact absurd c1 (hr1.mpr z)
    · exact absurd c2 (hr2.mpr z)
    · exact absurd c3 (hr3.mpr z)
  refine Tm_suc (fun k => by rw [x_isRelation]) ?_
  refine Tm_ite (fun d => ?_) (fun d => words (fun z => d (c.2.2.2.2.1.mpr (by omega))) _)
  have hk := c.2.2.2.2.1.mp d
  rw [w.1 hk.1 hk.2]
  refine Tm_ite (fun d => words (fun z => ?_) _) (fun d => ?_)
  · have d : nI (tkK T n q) < nI 17 := d
    rw [n_lt (by omega) (by omega)] at d; omega
  · have d : ¬ nI (tkK T n q) < nI 17 := d
    rw [n_lt (by omega) (by omega)] at d
    refine Tm_ite (fun d2 => ?_) (fun d2 => ?_)
    · have d2 : nI (tkK T n q) ≤ nI 22 := d2
      rw [n_le (by omega) (by omega)] at d2
      exact yes (Or.inl (by omega)) _
    · have d2 : ¬ nI (tkK T n q) ≤ nI 22 := d2
      rw [n_le (by omega) (by omega)] at d2
      exact words (by omega) _
end EXPS

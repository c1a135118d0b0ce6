/-! Calls that ask alone (reference): fault, count, shape, shown, order. -/
section ASK
variable {σ : MS} {L : Nat → Int32} {X B h : Nat} {g : Nat → Prop} {l : List Nat}
theorem s_fault_ : Tm (fun k => x_fault_ k 0 L σ) (fun r => r = (σ.1 11, mSc σ 2 0)) := by
  refine Tm_suc (fun k => by rw [x_fault_]) ?_
  refine Tm_suc (fun k => by rw [x_fault_]) ?_
  exact Tm_some rfl
theorem s_count : Tm (fun k => x_count k 0 L σ) (fun r => ∃ c, r.2 = mSc σ 2 c) := by
  have no : ∀ N : Nat → Int32, Tm (fun k => x_count k 1 N σ) (fun r => ∃ c, r.2 = mSc σ 2 c) := fun N => by
    refine Tm_suc (fun k => by rw [x_count]) ?_
    refine Tm_suc (fun k => by rw [x_count]) ?_
    refine Tm_ob (s_good _ _) (fun r hr => ?_)
    rw [hr]
    refine Tm_ite (fun _ => ?_) (fun v => absurd rfl v)
    exact Tm_some ⟨1, rfl⟩
  have e8 : ∀ (N : Nat → Int32) (b : Nat), b = 8 ∨ b = 11 ∨ b = 14 → Tm (fun k => x_count k b N (mSc σ 2 0)) (fun r => ∃ c, r.2 = mSc σ 2 c) := fun N b hb => by
    rcases hb with rfl | rfl | rfl
    · exact Tm_suc (fun k => by rw [x_count]) (Tm_some ⟨0, rfl⟩)
    · exact Tm_suc (fun k => by rw [x_count]) (Tm_some ⟨0, rfl⟩)
    · exact Tm_suc (fun k => by rw [x_count]) (Tm_some ⟨0, rfl⟩)
  have yes : ∀ N : Nat → Int32, Tm (fun k => x_count k 2 N σ) (fun r => ∃ c, r.2 = mSc σ 2 c) := fun N => by
    refine Tm_suc (fun k => by rw [x_count]) ?_
    refine Tm_suc (fun k => by rw [x_count]) ?_
    refine Tm_ob (s_good _ _) (fun r hr => ?_)
    rw [hr]
    refine Tm_ite (fun z => absurd (show (1 : Int32) = 0 from z) (by decide)) (fun _ => ?_)
    show Tm (fun k => x_count k 4 (upd N 100 0) (mSc σ 2 0)) _
    refine Tm_suc (fun k => by rw [x_count]) ?_
    refine Tm_ite (fun _ => ?_) (fun _ => ?_)
    · exact Tm_suc (fun k => by rw [x_count]) (Tm_some ⟨0, rfl⟩)
    refine Tm_ite (fun _ => ?_) (fun _ => ?_)
    · refine Tm_suc (fun k => by rw [x_count]) ?_
      refine Tm_ite (fun _ => ?_) (fun _ => e8 _ 8 (by omega))
      exact Tm_suc (fun k => by rw [x_count]) (e8 _ 8 (by omega))
    refine Tm_ite (fun _ => ?_) (fun _ => ?_)
    · refine Tm_suc (fun k => by rw [x_count]) ?_
      refine Tm_ite (fun _ => ?_) (fun _ => ?_)
      · exact Tm_suc (fun k => by rw [x_count]) (e8 _ 11 (by omega))
      · exact Tm_chk (by decide) (e8 _ 11 (by omega))
    refine Tm_ite (fun _ => ?_) (fun _ => ?_)
    · refine Tm_suc (fun k => by rw [x_count]) ?_
      refine Tm_ite (fun _ => ?_) (fun _ => e8 _ 14 (by omega))
      exact Tm_suc (fun k => by rw [x_count]) (e8 _ 14 (by omega))
    · exact Tm_suc (fun k => by rw [x_count]) (Tm_some ⟨0, rfl⟩)
  refine Tm_suc (fun k => by rw [x_count]) ?_
  exact Tm_ite (fun _ => no L) (fun _ => Tm_ite (fun _ => yes L) (fun _ => no L))
theorem s_shown (h120 : ∃ q, σ.1 120 = nI q ∧ q ≤ 12000) : Tm (fun k => x_shown k 0 L σ) (fun r => ∃ c, r.2 = mSc σ 2 c) := by
  have no : ∀ N : Nat → Int32, Tm (fun k => x_shown k 1 N σ) (fun r => ∃ c, r.2 = mSc σ 2 c) := fun N => by
    refine Tm_suc (fun k => by rw [x_shown]) ?_
    refine Tm_suc (fun k => by rw [x_shown]) ?_
    refine Tm_ob (s_good _ _) (fun r hr => ?_)
    rw [hr]
    refine Tm_ite (fun _ => ?_) (fun v => absurd rfl v)
    refine Tm_suc (fun k => by rw [x_shown]) ?_
    exact Tm_suc (fun k => by rw [x_shown]) (Tm_some ⟨1, rfl⟩)
  obtain ⟨q, q1, q2⟩ := h120
  refine Tm_suc (fun k => by rw [x_shown]) ?_
  refine Tm_ite (fun _ => no L) (fun z1 => Tm_ite (fun z2 => ?_) (fun _ => no L))
  rw [q1] at z2
  refine Tm_suc (fun k => by rw [x_shown]) ?_
  refine Tm_suc (fun k => by rw [x_shown]) ?_
  refine Tm_ob (s_good _ _) (fun r hr => ?_)
  rw [hr]
  refine Tm_ite (fun z => absurd (show (1 : Int32) = 0 from z) (by decide)) (fun _ => ?_)
  have hl : ¬ (L 1 < 0 ∨ 12000 ≤ (L 1).toNatClampNeg) := by
    have h0 : 0 ≤ (L 1).toInt := by
      rw [i_lt] at z1
      have z : (0 : Int32).toInt = 0 := rfl
      omega
    obtain ⟨p, hp, hp2⟩ : ∃ p, L 1 = nI p ∧ p < 2147483648 := ⟨(L 1).toInt.toNat, n_ofpos h0, by have := (L 1).toInt_lt; omega⟩
    rw [hp] at z2 ⊢
    have := (n_lt (by omega) (by omega)).mp z2
    exact n_in (by omega) (by omega)
  refine Tm_chk hl ?_
  exact Tm_suc (fun k => by rw [x_shown]) (Tm_some ⟨0, rfl⟩)
theorem s_order (hM : MI 0 X g l B h σ) : Tm (fun k => x_order k 0 L σ) (fun r => r.2 = mSc σ 2 0) := by
  refine Tm_suc (fun k => by rw [x_order]) ?_
  show Tm (fun k => x_order k 1 L (mSc σ 2 0)) _
  have hS : HS g l B h (mSc σ 2 0) := HS_c hM.1 rfl rfl rfl
  have v : ∀ i, i < 2 → Vd g (σ.2.2 40 i) := fun i hi => hM.2.2.1 40 i (Or.inr (Or.inr (Or.inr (Or.inr (Or.inr (Or.inr (Or.inr (Or.inr ⟨rfl, hi⟩))))))))
  obtain ⟨a, a1, a2⟩ := v 0 (by decide)
  obtain ⟨b, b1, b2⟩ := v 1 (by decide)
  have e5 : ∀ N : Nat → Int32, Tm (fun k => x_order k 5 N (mSc σ 2 0)) (fun r => r.2 = mSc σ 2 0) := fun N => Tm_suc (fun k => by rw [x_order]) (Tm_some rfl)
  refine Tm_suc (fun k => by rw [x_order]) ?_
  refine Tm_ite (fun _ => ?_) (fun _ => Tm_some rfl)
  refine Tm_suc (fun k => by rw [x_order]) ?_
  refine Tm_chk (by decide) ?_
  refine Tm_chk (by decide) ?_
  rw [show (0 : Int32).toNatClampNeg = 0 from by decide, show (1 : Int32).toNatClampNeg = 1 from by decide]
  refine Tm_ob (s_compareV hS a2 b2 a1 b1) (fun r3 hr3 => ?_)
  rw [hr3]
  refine Tm_ite (fun _ => ?_) (fun _ => e5 _)
  refine Tm_suc (fun k => by rw [x_order]) ?_
  refine Tm_ite (fun _ => ?_) (fun _ => e5 _)
  exact Tm_suc (fun k => by rw [x_order]) (e5 _)
theorem s_shape (hM : MI 0 X g l B h σ) : Tm (fun k => x_shape k 0 L σ) (fun r => ∃ c, r.2 = mSc σ 2 c) := by
  have no : ∀ N : Nat → Int32, Tm (fun k => x_shape k 1 N σ) (fun r => ∃ c, r.2 = mSc σ 2 c) := fun N => by
    refine Tm_suc (fun k => by rw [x_shape]) ?_
    refine Tm_suc (fun k => by rw [x_shape]) ?_
    refine Tm_ob (s_good _ _) (fun r hr => ?_)
    rw [hr]
    refine Tm_ite (fun _ => ?_) (fun v => absurd rfl v)
    exact Tm_some ⟨1, rfl⟩
  have hS : HS g l B h (mSc σ 2 0) := HS_c hM.1 rfl rfl rfl
  obtain ⟨a, a1, a2⟩ := hM.2.2.1 40 0 (Or.inr (Or.inr (Or.inr (Or.inr (Or.inr (Or.inr (Or.inr (Or.inr ⟨rfl, by omega⟩))))))))
  have ab := HS_vb hS a2
  have e10 : ∀ N : Nat → Int32, Tm (fun k => x_shape k 10 N (mSc σ 2 0)) (fun r => ∃ c, r.2 = mSc σ 2 c) := fun N => Tm_suc (fun k => by rw [x_shape]) (Tm_some ⟨0, rfl⟩)
  refine Tm_suc (fun k => by rw [x_shape]) ?_
  refine Tm_ite (fun _ => no L) (fun _ => Tm_ite (fun _ => ?_) (fun _ => no L))
  refine Tm_suc (fun k => by rw [x_shape]) ?_
  refine Tm_suc (fun k => by rw [x_shape]) ?_
  refine Tm_ob (s_good _ _) (fun r hr => ?_)
  rw [hr]
  refine Tm_ite (fun z => absurd (show (1 : Int32) = 0 from z) (by decide)) (fun _ => ?_)
  show Tm (fun k => x_shape k 4 (upd L 100 0) (mSc σ 2 0)) _
  refine Tm_suc (fun k => by rw [x_shape]) ?_
  refine Tm_ite (fun _ => Tm_some ⟨0, rfl⟩) (fun _ => ?_)
  refine Tm_suc (fun k => by rw [x_shape]) ?_
  refine Tm_ite (fun _ => Tm_some ⟨0, rfl⟩) (fun _ => ?_)
  refine Tm_suc (fun k => by rw [x_shape]) ?_
  refine Tm_chk (by decide) ?_
  rw [show (0 : Int32).toNatClampNeg = 0 from by decide]
  have e0 : (mSc σ 2 0).2.2 40 0 = nI a := a1
  rw [e0]
  refine Tm_ob (s_kind hS a2 rfl) (fun r2 hr2 => ?_)
  rw [hr2]
  refine Tm_ite (fun _ => e10 _) (fun _ => ?_)
  refine Tm_suc (fun k => by rw [x_shape]) ?_
  refine Tm_ite (fun _ => ?_) (fun _ => ?_)
  · refine Tm_ob (s_size hS a2 rfl) (fun r3 hr3 => ?_)
    rw [hr3]
    exact e10 _
  · refine Tm_suc (fun k => by rw [x_shape]) ?_
    refine Tm_ite (fun _ => ?_) (fun z => ?_)
    · exact Tm_suc (fun k => by rw [x_shape]) (e10 _)
    · refine Tm_chk ?_ (e10 _)
      show ¬ (nI a + 1 < 0 ∨ 1740000 ≤ (nI a + 1).toNatClampNeg)
      rw [n_add1]
      refine n_in (by omega) ?_
      have z : ¬ nI (kdN ((mSc σ 2 0).2.2 28) a) < 4 := z
      rcases a2 with c | c
      · exfalso
        apply z
        unfold kdN
        by_cases c0 : a = 0
        · rw [if_pos c0]; decide
        · rw [if_neg c0, if_pos c]; decide
      · obtain ⟨k, n', s, hh, go, b1, b2⟩ := HS_at hS c
        have h1 := hS.2.1
        have h2 := hS.2.2.2.1
        omega
end ASK

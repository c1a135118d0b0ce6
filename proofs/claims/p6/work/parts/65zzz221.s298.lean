/-! A kept text becomes the tape again (reference). -/
def LdF (σ : MS) (U : Nat → Int32) (n : Nat) (ω : MS) : Prop := ω.1 4 = nI n ∧ (∀ j, j ≠ 4 → ω.1 j = σ.1 j) ∧ ω.2.1 = σ.2.1 ∧ (∀ a, a ≠ 3 → ω.2.2 a = σ.2.2 a) ∧ ∀ i, i < n → ω.2.2 3 i = U i
section LDS
variable {σ : MS} {n p : Nat} {L : Nat → Int32}
theorem s_load53 (hn : n ≤ 32768) (hp : p + n ≤ 32768) (l2 : L 2 = nI p) (l3 : L 3 = nI n) : Tm (fun k => x_load__53 k 0 L σ) (fun r => LdF σ (fun i => σ.2.2 53 (p + i)) n r.2) := by
  refine Tm_suc (fun k => by rw [x_load__53]) ?_
  have lp : ∀ (d i : Nat) (N : Nat → Int32) (υ : MS), d + i = n → N 2 = nI p → N 3 = nI n → N 4 = nI i → υ.1 = σ.1 → υ.2.1 = σ.2.1 → (∀ a, a ≠ 3 → υ.2.2 a = σ.2.2 a) → (∀ k, k < i → υ.2.2 3 k = σ.2.2 53 (p + k)) → Tm (fun k => x_load__53 k 1 N υ) (fun r => LdF σ (fun i => σ.2.2 53 (p + i)) n r.2) := by
    intro d
    induction d with
    | zero =>
      intro i N υ hi n2 n3 n4 us ul ur uc
      refine Tm_suc (fun k => by rw [x_load__53]) ?_
      rw [n3, n4]
      refine Tm_ite (fun _ => ?_) (fun z => absurd ((n_le (by omega) (by omega)).mpr (by omega)) z)
      refine Tm_suc (fun k => by rw [x_load__53]) ?_
      rw [n3]
      refine Tm_some ⟨rfl, fun j hj => ?_, ul, ur, fun k hk => uc k (by omega)⟩
      show upd υ.1 4 (nI n) j = _
      rw [upd_other hj, us]
    | succ d ih =>
      intro i N υ hi n2 n3 n4 us ul ur uc
      refine Tm_suc (fun k => by rw [x_load__53]) ?_
      rw [n2, n3, n4, n_add (p := p) (by omega)]
      refine Tm_ite (fun z => absurd ((n_le (by omega) (by omega)).mp z) (by omega)) (fun _ => ?_)
      refine Tm_chk (n_in (by omega) (by omega)) ?_
      refine Tm_chk (n_in (by omega) (by omega)) ?_
      rw [n_cl (p := i) (by omega), n_cl (p := p + i) (by omega)]
      show Tm (fun k => x_load__53 k 2 N (mAr υ 3 i (υ.2.2 53 (p + i)))) _
      refine Tm_suc (fun k => by rw [x_load__53]) ?_
      rw [n4, n_add1]
      refine ih (i + 1) _ _ (by omega) n2 n3 rfl us ul (fun a h => (mAr_o h).trans (ur a h)) (fun k hk => ?_)
      rw [mAr_s]
      by_cases e : k = i
      · rw [e, upd_same, ur 53 (by decide)]
      · rw [upd_other e]; exact uc k (by omega)
  exact lp n 0 _ σ (by omega) l2 l3 rfl rfl rfl (fun _ _ => rfl) (fun k hk => absurd hk (Nat.not_lt_zero k))
theorem s_load54 (hn : n ≤ 32768) (hp : p + n ≤ 262144) (l2 : L 2 = nI p) (l3 : L 3 = nI n) : Tm (fun k => x_load__54 k 0 L σ) (fun r => LdF σ (fun i => σ.2.2 54 (p + i)) n r.2) := by
  refine Tm_suc (fun k => by rw [x_load__54]) ?_
  have lp : ∀ (d i : Nat) (N : Nat → Int32) (υ : MS), d + i = n → N 2 = nI p → N 3 = nI n → N 4 = nI i → υ.1 = σ.1 → υ.2.1 = σ.2.1 → (∀ a, a ≠ 3 → υ.2.2 a = σ.2.2 a) → (∀ k, k < i → υ.2.2 3 k = σ.2.2 54 (p + k)) → Tm (fun k => x_load__54 k 1 N υ) (fun r => LdF σ (fun i => σ.2.2 54 (p + i)) n r.2) := by
    intro d
    induction d with
    | zero =>
      intro i N υ hi n2 n3 n4 us ul ur uc
      refine Tm_suc (fun k => by rw [x_load__54]) ?_
      rw [n3, n4]
      refine Tm_ite (fun _ => ?_) (fun z => absurd ((n_le (by omega) (by omega)).mpr (by omega)) z)
      refine Tm_suc (fun k => by rw [x_load__54]) ?_
      rw [n3]
      refine Tm_some ⟨rfl, fun j hj => ?_, ul, ur, fun k hk => uc k (by omega)⟩
      show upd υ.1 4 (nI n) j = _
      rw [upd_other hj, us]
    | succ d ih =>
      intro i N υ hi n2 n3 n4 us ul ur uc
      refine Tm_suc (fun k => by rw [x_load__54]) ?_
      rw [n2, n3, n4, n_add (p := p) (by omega)]
      refine Tm_ite (fun z => absurd ((n_le (by omega) (by omega)).mp z) (by omega)) (fun _ => ?_)
      refine Tm_chk (n_in (by omega) (by omega)) ?_
      refine Tm_chk (n_in (by omega) (by omega)) ?_
      rw [n_cl (p := i) (by omega), n_cl (p := p + i) (by omega)]
      show Tm (fun k => x_load__54 k 2 N (mAr υ 3 i (υ.2.2 54 (p + i)))) _
      refine Tm_suc (fun k => by rw [x_load__54]) ?_
      rw [n4, n_add1]
      refine ih (i + 1) _ _ (by omega) n2 n3 rfl us ul (fun a h => (mAr_o h).trans (ur a h)) (fun k hk => ?_)
      rw [mAr_s]
      by_cases e : k = i
      · rw [e, upd_same, ur 54 (by decide)]
      · rw [upd_other e]; exact uc k (by omega)
  exact lp n 0 _ σ (by omega) l2 l3 rfl rfl rfl (fun _ _ => rfl) (fun k hk => absurd hk (Nat.not_lt_zero k))
theorem s_load56 (hn : n ≤ 32768) (hp : p + n ≤ 32768) (l2 : L 2 = nI p) (l3 : L 3 = nI n) : Tm (fun k => x_load__56 k 0 L σ) (fun r => LdF σ (fun i => σ.2.2 56 (p + i)) n r.2) := by
  refine Tm_suc (fun k => by rw [x_load__56]) ?_
  have lp : ∀ (d i : Nat) (N : Nat → Int32) (υ : MS), d + i = n → N 2 = nI p → N 3 = nI n → N 4 = nI i → υ.1 = σ.1 → υ.2.1 = σ.2.1 → (∀ a, a ≠ 3 → υ.2.2 a = σ.2.2 a) → (∀ k, k < i → υ.2.2 3 k = σ.2.2 56 (p + k)) → Tm (fun k => x_load__56 k 1 N υ) (fun r => LdF σ (fun i => σ.2.2 56 (p + i)) n r.2) := by
    intro d
    induction d with
    | zero =>
      intro i N υ hi n2 n3 n4 us ul ur uc
      refine Tm_suc (fun k => by rw [x_load__56]) ?_
      rw [n3, n4]
      refine Tm_ite (fun _ => ?_) (fun z => absurd ((n_le (by omega) (by omega)).mpr (by omega)) z)
      refine Tm_suc (fun k => by rw [x_load__56]) ?_
      rw [n3]
      refine Tm_some ⟨rfl, fun j hj => ?_, ul, ur, fun k hk => uc k (by omega)⟩
      show upd υ.1 4 (nI n) j = _
      rw [upd_other hj, us]
    | succ d ih =>
      intro i N υ hi n2 n3 n4 us ul ur uc
      refine Tm_suc (fun k => by rw [x_load__56]) ?_
      rw [n2, n3, n4, n_add (p := p) (by omega)]
      refine Tm_ite (fun z => absurd ((n_le (by omega) (by omega)).mp z) (by omega)) (fun _ => ?_)
      refine Tm_chk (n_in (by omega) (by omega)) ?_
      refine Tm_chk (n_in (by omega) (by omega)) ?_
      rw [n_cl (p := i) (by omega), n_cl (p := p + i) (by omega)]
      show Tm (fun k => x_load__56 k 2 N (mAr υ 3 i (υ.2.2 56 (p + i)))) _
      refine Tm_suc (fun k => by rw [x_load__56]) ?_
      rw [n4, n_add1]
      refine ih (i + 1) _ _ (by omega) n2 n3 rfl us ul (fun a h => (mAr_o h).trans (ur a h)) (fun k hk => ?_)
      rw [mAr_s]
      by_cases e : k = i
      · rw [e, upd_same, ur 56 (by decide)]
      · rw [upd_other e]; exact uc k (by omega)
  exact lp n 0 _ σ (by omega) l2 l3 rfl rfl rfl (fun _ _ => rfl) (fun k hk => absurd hk (Nat.not_lt_zero k))
end LDS

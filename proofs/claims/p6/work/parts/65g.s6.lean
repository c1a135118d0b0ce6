/-- behind blanks and notes -/
def skE (T : Nat → Int32) (n : Nat) : Nat → Nat → Nat
  | 0, p => p
  | f + 1, p => if p < n ∧ isB (T p) then skE T n f (p + 1) else if noteB T n p then skE T n f (noteE T n n p) else p
theorem noteB_lt {T : Nat → Int32} {n p : Nat} (h : noteB T n p) : p + 1 < n ∧ T p = 45 ∧ T (p + 1) = 45 := by
  obtain ⟨h1, h2⟩ := h
  unfold rB at h1 h2
  by_cases c : p + 1 < n
  · rw [if_pos c] at h2; rw [if_pos (by omega)] at h1; exact ⟨c, h1, h2⟩
  · rw [if_neg c] at h2; exact absurd h2 (by decide)
theorem noteE_gt {T : Nat → Int32} {n p : Nat} (h : noteB T n p) : p < noteE T n n p := by
  obtain ⟨h1, h2, h3⟩ := noteB_lt h
  obtain ⟨m, rfl⟩ : ∃ m, n = m + 1 := ⟨n - 1, by omega⟩
  show p < if p < m + 1 ∧ ¬ T p = 10 then noteE T (m + 1) m (p + 1) else p
  rw [if_pos ⟨by omega, by rw [h2]; decide⟩]
  have := noteE_ge T (m + 1) m (p + 1)
  omega
theorem skE_le (T : Nat → Int32) (n : Nat) : ∀ f p : Nat, p ≤ n → skE T n f p ≤ n
  | 0, p, h => h
  | f + 1, p, h => by
    show (if p < n ∧ isB (T p) then skE T n f (p + 1) else if noteB T n p then skE T n f (noteE T n n p) else p) ≤ n
    by_cases c : p < n ∧ isB (T p)
    · rw [if_pos c]; exact skE_le T n f (p + 1) (by omega)
    · rw [if_neg c]
      by_cases d : noteB T n p
      · rw [if_pos d]; exact skE_le T n f _ (noteE_le T n n p h)
      · rw [if_neg d]; exact h
theorem skE_ge (T : Nat → Int32) (n : Nat) : ∀ f p : Nat, p ≤ skE T n f p
  | 0, p => Nat.le_refl _
  | f + 1, p => by
    show p ≤ (if p < n ∧ isB (T p) then skE T n f (p + 1) else if noteB T n p then skE T n f (noteE T n n p) else p)
    by_cases c : p < n ∧ isB (T p)
    · rw [if_pos c]; have := skE_ge T n f (p + 1); omega
    · rw [if_neg c]
      by_cases d : noteB T n p
      · rw [if_pos d]; have := skE_ge T n f (noteE T n n p); have := noteE_ge T n n p; omega
      · rw [if_neg d]; exact Nat.le_refl _
theorem skip_loop {σ : MS} {n : Nat} (hn : mN σ n) : ∀ (f p : Nat) (L : Nat → Int32), n - p < f → p ≤ n → ¬ L 1 = 0 → Tm (fun k => x_skip k 1 L (mAt σ p)) (fun r => r = (0, mAt σ (skE (σ.2.2 3) n f p))) := by
  intro f
  induction f with
  | zero => intro p L h; omega
  | succ f ih =>
    intro p L hf hp h1
    have hN := hn.2
    have h4 : (mAt σ p).1 4 = nI n := (mAt_mN hn).1
    have e : skE (σ.2.2 3) n (f + 1) p = (if p < n ∧ isB (σ.2.2 3 p) then skE (σ.2.2 3) n f (p + 1) else if noteB (σ.2.2 3) n p then skE (σ.2.2 3) n f (noteE (σ.2.2 3) n n p) else p) := rfl
    rw [e]
    refine Tm_suc (fun k => by rw [x_skip]) ?_
    refine Tm_ite (fun c => absurd c h1) (fun _ => ?_)
    refine Tm_ob (s_byteAt (mAt_mN hn) (p := p) (by omega) (by rw [upd_same, mAt_at])) (fun r hr => ?_)
    subst hr
    -- not a blank: a note, or the end
    have three : ∀ M : Nat → Int32, M 2 = rB (σ.2.2 3) n p → ¬ M 1 = 0 → ¬ (p < n ∧ isB (σ.2.2 3 p)) → Tm (fun k => x_skip k 3 M (mAt σ p)) (fun r => r = (0, mAt σ (if p < n ∧ isB (σ.2.2 3 p) then skE (σ.2.2 3) n f (p + 1) else if noteB (σ.2.2 3) n p then skE (σ.2.2 3) n f (noteE (σ.2.2 3) n n p) else p))) := by
      intro M h2 hM hb
      rw [if_neg hb]
      have five : ¬ noteB (σ.2.2 3) n p → Tm (fun k => x_skip k 5 M (mAt σ p)) (fun r => r = (0, mAt σ (if noteB (σ.2.2 3) n p then skE (σ.2.2 3) n f (noteE (σ.2.2 3) n n p) else p))) := fun hno => by
        rw [if_neg hno]
        refine Tm_suc (fun k => by rw [x_skip]) ?_
        refine Tm_suc (fun k => by rw [x_skip]) ?_
        refine Tm_suc (fun k => by rw [x_skip]) ?_
        refine Tm_ite (fun _ => ?_) (fun c => absurd upd_same c)
        refine Tm_suc (fun k => by rw [x_skip]) ?_
        exact Tm_some rfl
      refine Tm_suc (fun k => by rw [x_skip]) ?_
      rw [h2]
      refine Tm_ite (fun c => ?_) (fun c => five (fun h => c h.1))
      rw [mAt_at, n_add1]
      refine Tm_ob (s_byteAt (mAt_mN hn) (p := p + 1) (by omega) upd_same) (fun r hr => ?_)
      subst hr
      refine Tm_ite (fun c2 => ?_) (fun c2 => five (fun h => c2 h.2))
      have hy : noteB (σ.2.2 3) n p := ⟨c, c2⟩
      rw [if_pos hy]
      have hgt := noteE_gt hy
      have hle := noteE_le (σ.2.2 3) n n p hp
      refine note_loop hn M _ n p (by omega) hp ?_
      refine Tm_suc (fun k => by rw [x_skip]) ?_
      exact ih _ M (by omega) hle hM
    have two : ∀ M : Nat → Int32, ¬ M 1 = 0 → (p < n ∧ isB (σ.2.2 3 p)) → Tm (fun k => x_skip k 2 M (mAt σ p)) (fun r => r = (0, mAt σ (if p < n ∧ isB (σ.2.2 3 p) then skE (σ.2.2 3) n f (p + 1) else if noteB (σ.2.2 3) n p then skE (σ.2.2 3) n f (noteE (σ.2.2 3) n n p) else p))) := by
      intro M hM hb
      rw [if_pos hb]
      refine Tm_suc (fun k => by rw [x_skip]) ?_
      refine Tm_suc (fun k => by rw [x_skip]) ?_
      rw [mAt_up]
      exact ih (p + 1) M (by omega) (by omega) hM
    have hM : ¬ upd L 2 (rB (σ.2.2 3) n p) 1 = 0 := by rw [upd_other (by decide)]; exact h1
    show Tm (fun k => if (mAt σ p).1 4 ≤ (mAt σ p).1 5 then _ else _) _
    rw [h4, mAt_at]
    refine Tm_ite (fun c => ?_) (fun c => ?_)
    · rw [n_le (by omega) (by omega)] at c
      exact three _ upd_same hM (by omega)
    · rw [n_le (by omega) (by omega)] at c
      have er : rB (σ.2.2 3) n p = σ.2.2 3 p := if_pos (by omega)
      refine Tm_ite (fun d => two _ hM ⟨by omega, Or.inl (er ▸ d)⟩) (fun d1 => ?_)
      refine Tm_ite (fun d => two _ hM ⟨by omega, Or.inr (Or.inl (er ▸ d))⟩) (fun d2 => ?_)
      refine Tm_ite (fun d => two _ hM ⟨by omega, Or.inr (Or.inr (Or.inl (er ▸ d)))⟩) (fun d3 => ?_)
      refine Tm_ite (fun d => two _ hM ⟨by omega, Or.inr (Or.inr (Or.inr (er ▸ d)))⟩) (fun d4 => ?_)
      refine three _ upd_same hM (fun h => ?_)
      have d1 : ¬ rB (σ.2.2 3) n p = 9 := d1
      have d2 : ¬ rB (σ.2.2 3) n p = 10 := d2
      have d3 : ¬ rB (σ.2.2 3) n p = 13 := d3
      have d4 : ¬ rB (σ.2.2 3) n p = 32 := d4
      rw [er] at d1 d2 d3 d4
      rcases h.2 with h | h | h | h
      · exact d1 h
      · exact d2 h
      · exact d3 h
      · exact d4 h
/-- behind blanks and notes from p on -/
def sk (T : Nat → Int32) (n p : Nat) : Nat := skE T n (n + 1) p
theorem s_skip {σ : MS} {n p : Nat} (hn : mN σ n) (h5 : σ.1 5 = nI p) (hp : p ≤ n) (L : Nat → Int32) : Tm (fun k => x_skip k 0 L σ) (fun r => r = (0, mAt σ (sk (σ.2.2 3) n p))) := by
  refine Tm_suc (fun k => by rw [x_skip]) ?_
  have := skip_loop hn (n + 1) p (upd L 1 1) (by omega) hp (by rw [upd_same]; decide)
  rw [mAt_self h5] at this
  exact this

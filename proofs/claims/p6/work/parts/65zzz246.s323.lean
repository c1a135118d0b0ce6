/-! Iterators of a for: the list. -/
section ITL
variable {T : Nat → Nat → Int32} {FN : Nat → Nat → Prop} {fl : Nat → Prop} {un O K : Nat}
theorem NmW_of {e j : Nat} (h : PNm un 1 T j e) : ∃ s, NmW T (lcU un T) (cnU un T) e s := by
  obtain ⟨he, s, h6, hs, h5, h20⟩ := h
  have ne : ¬ T 20 (60 * un + s) = 0 := by rw [h20]; decide
  refine ⟨s, he, h6, hs, ?_, ?_⟩
  · by_cases u : un = 0
    · rw [if_pos u] at h5; exact Or.inl h5
    · exact Or.inr (Or.inl ⟨rfl, u⟩)
  · by_cases u : un = 0
    · rw [if_pos u] at h5
      rw [if_pos h5]
      refine Or.inl ⟨by omega, by omega, ?_⟩
      rw [show 1 + s - 1 = 60 * un + s by omega]; exact ne
    · rw [if_neg u] at h5
      rw [if_neg (by rw [h5]; decide)]
      refine Or.inr ⟨u, by omega, by omega, ?_⟩
      rw [show 61 + s - 61 = s by omega]; exact ne
theorem LS_N : ∀ (c m i e : Nat), LSe (PNm un 1 T) T c i e → NmL T (lcU un T) (cnU un T) m (T 9 e) → NmL T (lcU un T) (cnU un T) (m + c + 1) (nI i) := by
  intro c
  induction c with
  | zero =>
    intro m i e h w
    obtain ⟨rfl, h1⟩ := h
    obtain ⟨s, hs⟩ := NmW_of h1
    exact ⟨i, s, rfl, hs, w⟩
  | succ c ih =>
    intro m i e h w
    obtain ⟨e', h1, h9, h2⟩ := h
    obtain ⟨s, hs⟩ := NmW_of h2
    have := ih (m + 1) i e' h1 (by rw [h9]; exact ⟨e, s, rfl, hs, w⟩)
    rw [show m + (c + 1) + 1 = m + 1 + c + 1 by omega]; exact this
theorem PJ_I {j e k : Nat} (hO : O ≤ 20) (hK : K ≤ 60) (h : PJ FN fl un 1 O K T j e) (w : ItL T FN (lcU un T) (cnU un T) k (T 9 e)) : ItL T FN (lcU un T) (cnU un T) (k + 1) (nI e) := by
  obtain ⟨he, hj, ⟨a, h6, c, el, hc, hS, h9⟩, h7⟩ := h
  refine ⟨e, rfl, he, ⟨c + 1, by omega, by omega, ?_⟩, Wx_of hO (by omega) (by decide) h7, w⟩
  have := LS_N c 0 a el hS (by rw [h9]; rfl)
  rw [h6, show c + 1 = 0 + c + 1 by omega]; exact this
theorem LS_I (hO : O ≤ 20) (hK : K ≤ 60) : ∀ (c m i e : Nat), LSe (PJ FN fl un 1 O K T) T c i e → ItL T FN (lcU un T) (cnU un T) m (T 9 e) → ItL T FN (lcU un T) (cnU un T) (m + c + 1) (nI i) := by
  intro c
  induction c with
  | zero => intro m i e h w; obtain ⟨rfl, h1⟩ := h; exact PJ_I hO hK h1 w
  | succ c ih =>
    intro m i e h w
    obtain ⟨e', h1, h9, h2⟩ := h
    have := ih (m + 1) i e' h1 (by rw [h9]; exact PJ_I hO hK h2 w)
    rw [show m + (c + 1) + 1 = m + 1 + c + 1 by omega]; exact this
theorem chl_I {lc cn : Nat → Prop} : ∀ (k f : Nat) (x : Int32), k ≤ f → ItL T FN lc cn k x → chl T f x = k := by
  intro k
  induction k with
  | zero =>
    intro f x _ h
    have h : x = -1 := h
    cases f with
    | zero => rfl
    | succ f => exact if_pos h
  | succ k ih =>
    intro f x hf h
    obtain ⟨e, xe, he, _, _, h9⟩ := h
    cases f with
    | zero => omega
    | succ f =>
      show (if x = -1 then 0 else 1 + chl T f (T 9 x.toNatClampNeg)) = k + 1
      rw [if_neg (by rw [xe]; exact ne_m1 he), xe, n_cl (p := e) (by omega), ih f _ (by omega) h9]
      omega
end ITL
/-- T' has the statements laid from k0 on -/
def AgU (T' : Nat → Nat → Int32) (s : SB) (k0 : Nat) : Prop := (∀ i, k0 ≤ i → i < s.1 → T' 10 i = s.2.1 i) ∧ s.1 ≤ SNo T' % 402
/-- what stays of statements -/
def FrS (s s' : SB) : Prop := s.1 ≤ s'.1 ∧ ∀ i, i < s.1 → s'.2.1 i = s.2.1 i
theorem FrS_rf {s : SB} : FrS s s := ⟨Nat.le_refl _, fun _ _ => rfl⟩
theorem FrS_tr {s s' s'' : SB} (h : FrS s s') (h' : FrS s' s'') : FrS s s'' := ⟨Nat.le_trans h.1 h'.1, fun i hi => (h'.2 i (Nat.lt_of_lt_of_le hi h.1)).trans (h.2 i hi)⟩
theorem AgU_dn {T' : Nat → Nat → Int32} {s s' : SB} {k0 k1 : Nat} (h : AgU T' s' k0) (hF : FrS s s') (hk : k0 ≤ k1) : AgU T' s k1 := ⟨fun i h1 h2 => (h.1 i (by omega) (Nat.lt_of_lt_of_le h2 hF.1)).trans (hF.2 i h2), Nat.le_trans hF.1 h.2⟩
theorem AgU_lo {T' : Nat → Nat → Int32} {s : SB} {k0 k1 : Nat} (h : AgU T' s k0) (hk : k0 ≤ k1) : AgU T' s k1 := ⟨fun i h1 h2 => h.1 i (by omega) h2, h.2⟩

/-! The sweep: cells that hold no values are skipped (reference). -/
section SKP
variable {H0 H : Nat → Int32} {g : Nat → Prop} {l l' : List Nat} {B h B' h' s : Nat} {mv : Nat → Bool} {φ : Nat → Nat}
theorem SwI_skip {s2 : Nat} (hI : SwI H0 g l B h B' h' s H mv φ l') (hs : s ≤ s2) (hf : ∀ v n i, mv v = true → H0 (v + 1) = nI n → n ≤ 3996 → i < n → s ≤ φ v + 4 + i → φ v + 4 + i < s2 → ¬ (H0 v = nI 5 ∨ H0 v = nI 6)) : SwI H0 g l B h B' h' s2 H mv φ l' := by
  obtain ⟨i1, i2, i3, i4, i5, i6, i7⟩ := hI
  refine ⟨i1, i2, i3, i4, i5, fun w hw => ?_, i7⟩
  obtain ⟨v, n, u1, u2, u3, u4, u5, u6, u7⟩ := i6 w hw
  refine ⟨v, n, u1, u2, u3, u4, u5, u6, fun i hi => ?_⟩
  rcases u7 i hi with q | q
  · by_cases e : w + 4 + i < s2
    · refine Or.inr ⟨e, Or.inr ⟨?_, q.2⟩⟩
      exact hf v n i u1 u3 u4 hi (by rw [u2]; exact q.1) (by rw [u2]; exact e)
    · exact Or.inl ⟨by omega, q.2⟩
  · exact Or.inr ⟨by omega, q.2⟩
/-- the head of an object is skipped; its body too, unless it holds values -/
theorem SwI_head {v n : Nat} (hI : SwI H0 g l B h B' h' (φ v) H mv φ l') (hm : mv v = true) (hn : H0 (v + 1) = nI n) (hn2 : n ≤ 3996) : SwI H0 g l B h B' h' (φ v + 4) H mv φ l' ∧ (¬ (H0 v = nI 5 ∨ H0 v = nI 6) → SwI H0 g l B h B' h' (φ v + 4 + n) H mv φ l') := by
  obtain ⟨wl, w5, w6, w7⟩ := SwI_at hI hm hn hn2
  have hI0 := hI
  obtain ⟨i1, i2, i3, i4, i5, i6, i7⟩ := hI
  have hw1 : H (φ v + 1) = nI n := (w6 1 (by omega)).trans hn
  have own : ∀ u k i, mv u = true → H0 (u + 1) = nI k → k ≤ 3996 → i < k → φ v ≤ φ u + 4 + i → φ u + 4 + i < φ v + 4 + n → u = v := fun u k i hu hk1 hk2 hi q1 q2 => by
    obtain ⟨ul, u5, u6, _⟩ := SwI_at hI0 hu hk1 hk2
    have hu1 : H (φ u + 1) = nI k := (u6 1 (by omega)).trans hk1
    by_cases e : φ u = φ v
    · exact i7 u v hu hm e
    · by_cases q : φ u < φ v
      · have := Til_disj l' _ i1 (φ u) (φ v) k ul wl q hu1 hk2
        omega
      · have := Til_disj l' _ i1 (φ v) (φ u) n wl ul (by omega) hw1 hn2
        omega
  refine ⟨SwI_skip hI0 (by omega) (fun u k i hu hk1 hk2 hi q1 q2 => ?_), fun hk => SwI_skip hI0 (by omega) (fun u k i hu hk1 hk2 hi q1 q2 => ?_)⟩
  · have e := own u k i hu hk1 hk2 hi q1 (by omega)
    subst e
    omega
  · have e := own u k i hu hk1 hk2 hi q1 q2
    subst e
    exact hk
end SKP

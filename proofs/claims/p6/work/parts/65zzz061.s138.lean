/-! The sweep: one cell is scanned (reference). -/
section SCN
variable {H0 H : Nat → Int32} {g : Nat → Prop} {l l' : List Nat} {B h B' h' s : Nat} {mv : Nat → Bool} {φ : Nat → Nat}
theorem Til_hd {b : Nat} {H' : Nat → Int32} : ∀ (l : List Nat) (a : Nat), (∀ u, u ∈ l → H' (u + 1) = H (u + 1)) → Til H b a l → Til H' b a l
  | [], _, _, h => h
  | v :: l, a, he, ⟨e, n, n1, n2, n3⟩ => ⟨e, n, (he v List.mem_cons_self).trans n1, n2, Til_hd l _ (fun u hu => he u (List.mem_cons_of_mem v hu)) n3⟩
/-- what is known of the object that has gone to a place -/
theorem SwI_at {v n : Nat} (hI : SwI H0 g l B h B' h' s H mv φ l') (hm : mv v = true) (hn : H0 (v + 1) = nI n) (hn2 : n ≤ 3996) : φ v ∈ l' ∧ φ v + 4 + n ≤ h' ∧ (∀ i, i < 4 → H (φ v + i) = H0 (v + i)) ∧ ∀ i, i < n → (s ≤ φ v + 4 + i ∧ H (φ v + 4 + i) = H0 (v + 4 + i)) ∨ (φ v + 4 + i < s ∧ SwC H0 mv φ v i (H (φ v + 4 + i))) := by
  obtain ⟨i1, i2, i3, i4, i5, i6, i7⟩ := hI
  have hl := (i3 v hm).2
  obtain ⟨u, k, u1, u2, u3, u4, u5, u6, u7⟩ := i6 _ hl
  have e : u = v := i7 u v u1 hm u2
  subst e
  have ek : k = n := (n_eq (by omega) (by omega)).mp (u3.symm.trans hn)
  subst ek
  exact ⟨hl, u5, u6, u7⟩
theorem SwI_cell {v i n m : Nat} {x : Int32} (hO : HO H0 g l (B + 4) h) (hh : h ≤ B + 870000) (hBB : (B = 0 ∧ B' = 870000) ∨ (B = 870000 ∧ B' = 0)) (hI : SwI H0 g l B h B' h' s H mv φ l') (hm : mv v = true) (hn : H0 (v + 1) = nI n) (hn2 : n ≤ 3996) (hi : i < n) (hs : s = φ v + 4 + i) (hk : H0 v = nI 5 ∨ H0 v = nI 6) (hc : H0 (v + 4 + i) = nI m) (hx : SWV mv φ m x) : SwI H0 g l B h B' h' (s + 1) (upd H s x) mv φ l' := by
  obtain ⟨wl, w5, w6, w7⟩ := SwI_at hI hm hn hn2
  obtain ⟨i1, i2, i3, i4, i5, i6, i7⟩ := hI
  have hw1 : H (φ v + 1) = nI n := (w6 1 (by omega)).trans hn
  have hwT := (Til_mem l' _ i1 _ wl).1
  -- no head of another lies there
  have far : ∀ u k, u ∈ l' → u ≠ φ v → H (u + 1) = nI k → k ≤ 3996 → u + 4 + k ≤ φ v ∨ φ v + 4 + n ≤ u := fun u k hu hne hk1 hk2 => by
    by_cases q : u < φ v
    · exact Or.inl (Til_disj l' _ i1 u (φ v) k hu wl q hk1 hk2)
    · exact Or.inr (Til_disj l' _ i1 (φ v) u n wl hu (by omega) hw1 hn2)
  have hd : ∀ u j, u ∈ l' → j < 4 → u + j ≠ s := fun u j hu hj => by
    by_cases e : u = φ v
    · omega
    · obtain ⟨_, k, _, _, k3, k4, _, k6, _⟩ := i6 u hu
      have := far u k hu e ((k6 1 (by omega)).trans k3) k4
      omega
  have old : ∀ j, B + 4 ≤ j → j < h → upd H s x j = H j := fun j q1 q2 => upd_other (by omega)
  refine ⟨Til_hd l' _ (fun u hu => upd_other (hd u 1 hu (by omega))) i1, i2, i3, fun u k gu hu hk1 hk2 j hj => ?_, fun u hu => ?_, fun u hu => ?_, i7⟩
  · obtain ⟨_, n3, _, _, q1, q2, q3⟩ := HO_at hO (by omega) gu
    have : n3 = k := (n_eq (by have := q1.2.2.2.2.2.2.2.1; omega) (by omega)).mp (q1.2.1.symm.trans hk1)
    rw [old _ (by omega) (by omega)]
    exact i4 u k gu hu hk1 hk2 j hj
  · obtain ⟨_, n3, _, _, q1, q2, q3⟩ := HO_at hO (by omega) (i3 u hu).1
    rw [old _ (by omega) (by omega), old _ (by omega) (by omega)]
    exact i5 u hu
  · obtain ⟨vu, nu, u1, u2, u3, u4, u5, u6, u7⟩ := i6 u hu
    refine ⟨vu, nu, u1, u2, u3, u4, u5, fun j hj => ?_, fun j hj => ?_⟩
    · rw [upd_other (hd u j hu hj)]; exact u6 j hj
    · by_cases e : u + 4 + j = s
      · have eu : u = φ v := by
          by_cases e2 : u = φ v
          · exact e2
          · have := far u nu hu e2 ((u6 1 (by omega)).trans u3) u4
            omega
        have ev : vu = v := i7 vu v u1 hm (u2.trans eu)
        subst ev
        have ej : j = i := by omega
        subst ej
        refine Or.inr ⟨by omega, ?_⟩
        rw [e, upd_same]
        exact Or.inl ⟨hk, m, hc, hx⟩
      · rw [upd_other e]
        rcases u7 j hj with q | q
        · exact Or.inl ⟨by omega, q.2⟩
        · exact Or.inr ⟨by omega, q.2⟩
end SCN

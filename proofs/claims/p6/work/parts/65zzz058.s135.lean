/-! The sweep: one object is copied (reference). -/
/-- a cell that has been scanned -/
def SwC (H0 : Nat → Int32) (mv : Nat → Bool) (φ : Nat → Nat) (v i : Nat) (x : Int32) : Prop :=
  ((H0 v = nI 5 ∨ H0 v = nI 6) ∧ ∃ m, H0 (v + 4 + i) = nI m ∧ ((m < 3 ∧ x = nI m) ∨ (mv m = true ∧ x = nI (φ m)))) ∨ (¬ (H0 v = nI 5 ∨ H0 v = nI 6) ∧ x = H0 (v + 4 + i))
/-- midway in a sweep -/
def SwI (H0 : Nat → Int32) (g : Nat → Prop) (l : List Nat) (B h B' h' s : Nat) (H : Nat → Int32) (mv : Nat → Bool) (φ : Nat → Nat) (l' : List Nat) : Prop :=
  Til H h' (B' + 4) l' ∧ (h' + rmS H0 mv l ≤ B' + (h - B)) ∧ (∀ v, mv v = true → g v ∧ φ v ∈ l') ∧
  (∀ v n, g v → mv v = false → H0 (v + 1) = nI n → n ≤ 3996 → ∀ i, i < 4 + n → H (v + i) = H0 (v + i)) ∧
  (∀ v, mv v = true → H v = -1 ∧ H (v + 1) = nI (φ v)) ∧
  (∀ w, w ∈ l' → ∃ v n, mv v = true ∧ φ v = w ∧ H0 (v + 1) = nI n ∧ n ≤ 3996 ∧ w + 4 + n ≤ h' ∧ (∀ i, i < 4 → H (w + i) = H0 (v + i)) ∧ ∀ i, i < n → (s ≤ w + 4 + i ∧ H (w + 4 + i) = H0 (v + 4 + i)) ∨ (w + 4 + i < s ∧ SwC H0 mv φ v i (H (w + 4 + i)))) ∧
  (∀ u v, mv u = true → mv v = true → φ u = φ v → u = v)
section SWC
variable {H0 H : Nat → Int32} {g : Nat → Prop} {l l' : List Nat} {B h B' h' s : Nat} {mv : Nat → Bool} {φ : Nat → Nat}
theorem Til_disj {b : Nat} : ∀ (l : List Nat) (a : Nat), Til H b a l → ∀ v w n, v ∈ l → w ∈ l → v < w → H (v + 1) = nI n → n ≤ 3996 → v + 4 + n ≤ w
  | [], _, _, _, _, _, h, _, _, _, _ => absurd h (List.not_mem_nil)
  | u :: l, a, hT, v, w, n, hv, hw, hlt, hn, hn2 => by
    obtain ⟨e, m, m1, m2, m3⟩ := hT
    rcases List.mem_cons.mp hv with z | z
    · rcases List.mem_cons.mp hw with y | y
      · omega
      · have q := (Til_mem l _ m3 w y).1
        subst z
        by_cases hm : m < 2147483648
        · have : m = n := (n_eq hm (by omega)).mp (m1.symm.trans hn)
          omega
        · omega
    · rcases List.mem_cons.mp hw with y | y
      · have q := (Til_mem l _ m3 v z).1
        omega
      · exact Til_disj l _ m3 v w n z y hlt hn hn2
theorem SwC_mo {mv2 : Nat → Bool} {φ2 : Nat → Nat} {v i : Nat} {x : Int32} (hm : ∀ m, mv m = true → mv2 m = true ∧ φ2 m = φ m) (hx : SwC H0 mv φ v i x) : SwC H0 mv2 φ2 v i x := by
  rcases hx with ⟨k, m, m1, m2⟩ | hx
  · refine Or.inl ⟨k, m, m1, ?_⟩
    rcases m2 with m2 | m2
    · exact Or.inl m2
    · exact Or.inr ⟨(hm m m2.1).1, by rw [(hm m m2.1).2]; exact m2.2⟩
  · exact Or.inr hx
/-- the ghost of one more copy -/
theorem SwI_add {H2 : Nat → Int32} {v n : Nat} (hO : HO H0 g l (B + 4) h) (hh : h ≤ B + 870000) (hBB : (B = 0 ∧ B' = 870000) ∨ (B = 870000 ∧ B' = 0)) (hs : s ≤ h') (hI : SwI H0 g l B h B' h' s H mv φ l') (hv : g v) (hm : mv v = false) (hn : H0 (v + 1) = nI n) (hn2 : n ≤ 3996) (hvl : B + 4 ≤ v) (hvh : v + 4 + n ≤ h)
    (e1 : ∀ j, j ≠ v → j ≠ v + 1 → ¬ (h' ≤ j ∧ j < h' + (4 + n)) → H2 j = H j) (e2 : ∀ j, j < 4 + n → H2 (h' + j) = H (v + j)) (e3 : H2 v = -1) (e4 : H2 (v + 1) = nI h') : SwI H0 g l B h B' (h' + 4 + n) s H2 (mvA mv v) (fun x => if x = v then h' else φ x) (l' ++ [h']) := by
  obtain ⟨i1, i2, i3, i4, i5, i6, i7⟩ := hI
  have hh' := Til_le _ _ i1
  have hrm := rmS_mv l _ hO.1 (hO.2 v hv).1 hm
  rw [hn, n_cl (by omega)] at hrm
  have hcell := i4 v n hv hm hn hn2
  have hmo : ∀ m, mv m = true → mvA mv v m = true ∧ (if m = v then h' else φ m) = φ m := fun m hmm => by
    have : m ≠ v := fun e => by rw [e, hm] at hmm; exact absurd hmm (by decide)
    exact ⟨(if_neg this).trans hmm, if_neg this⟩
  have hold : ∀ j, B' + 4 ≤ j → j < h' → H2 j = H j := fun j q1 q2 => e1 j (by omega) (by omega) (by omega)
  refine ⟨?_, by omega, fun u hu => ?_, fun u m gu hu hmu hm2 i hi => ?_, fun u hu => ?_, fun w hw => ?_, fun u w hu hw he => ?_⟩
  · refine Til_snoc l' _ n (Til_ext l' _ hold i1) ?_
    rw [e2 1 (by omega), hcell 1 (by omega)]; exact hn
  · by_cases e : u = v
    · rw [e]
      refine ⟨hv, ?_⟩
      show (if v = v then h' else φ v) ∈ _
      rw [if_pos rfl]; exact List.mem_append.mpr (Or.inr List.mem_cons_self)
    · have hu : mv u = true := by rw [← hu]; exact (if_neg e).symm
      refine ⟨(i3 u hu).1, ?_⟩
      show (if u = v then h' else φ u) ∈ _
      rw [if_neg e]; exact List.mem_append.mpr (Or.inl (i3 u hu).2)
  · have e : u ≠ v := fun e => by
      rw [e, show mvA mv v v = true from if_pos rfl] at hu; exact absurd hu (by decide)
    have hu : mv u = false := by rw [← hu]; exact (if_neg e).symm
    have ul := (hO.2 u gu).1
    have vl := (hO.2 v hv).1
    obtain ⟨uT, uM⟩ := Til_mem l _ hO.1 u ul
    obtain ⟨n', un1, un2⟩ := uM
    have hb : u + 4 + m ≤ h := by
      obtain ⟨k, n3, s3, t3, q1, q2, q3⟩ := HO_at hO (by omega) gu
      have : n3 = m := (n_eq (by omega) (by omega)).mp (q1.2.1.symm.trans hmu)
      omega
    have d : u + 4 + m ≤ v ∨ v + 4 + n ≤ u := by
      by_cases q : u < v
      · exact Or.inl (Til_disj l _ hO.1 u v m ul vl q hmu hm2)
      · exact Or.inr (Til_disj l _ hO.1 v u n vl ul (by omega) hn hn2)
    rw [e1 (u + i) (by omega) (by omega) (by omega)]
    exact i4 u m gu hu hmu hm2 i hi
  · by_cases e : u = v
    · rw [e]
      refine ⟨e3, ?_⟩
      show H2 (v + 1) = nI (if v = v then h' else φ v)
      rw [if_pos rfl]; exact e4
    · have hu : mv u = true := by rw [← hu]; exact (if_neg e).symm
      have gu := (i3 u hu).1
      have ul := (hO.2 u gu).1
      have vl := (hO.2 v hv).1
      obtain ⟨k, m, s3, t3, q1, q2, q3⟩ := HO_at hO (by omega) gu
      have d : u + 4 + m ≤ v ∨ v + 4 + n ≤ u := by
        by_cases q : u < v
        · exact Or.inl (Til_disj l _ hO.1 u v m ul vl q q1.2.1 q1.2.2.2.2.2.2.2.1)
        · exact Or.inr (Til_disj l _ hO.1 v u n vl ul (by omega) hn hn2)
      refine ⟨?_, ?_⟩
      · rw [e1 u (by omega) (by omega) (by omega)]; exact (i5 u hu).1
      · show H2 (u + 1) = nI (if u = v then h' else φ u)
        rw [if_neg e, e1 (u + 1) (by omega) (by omega) (by omega)]; exact (i5 u hu).2
  · rcases List.mem_append.mp hw with hw | hw
    · obtain ⟨u, m, u1, u2, u3, u4, u5, u6, u7⟩ := i6 w hw
      have wT := (Til_mem l' _ i1 w hw).1
      refine ⟨u, m, (hmo u u1).1, ((hmo u u1).2).trans u2, u3, u4, by omega, fun i hi => ?_, fun i hi => ?_⟩
      · rw [hold (w + i) (by omega) (by omega)]; exact u6 i hi
      · rw [hold (w + 4 + i) (by omega) (by omega)]
        exact (u7 i hi).imp id (fun z => ⟨z.1, SwC_mo hmo z.2⟩)
    · have hw : w = h' := by
        rcases List.mem_cons.mp hw with z | z
        · exact z
        · exact absurd z (List.not_mem_nil)
      subst hw
      refine ⟨v, n, if_pos rfl, if_pos rfl, hn, hn2, Nat.le_refl _, fun i hi => ?_, fun i hi => Or.inl ⟨by omega, ?_⟩⟩
      · rw [e2 i (by omega), hcell i (by omega)]
      · rw [Nat.add_assoc, e2 (4 + i) (by omega), hcell (4 + i) (by omega), Nat.add_assoc]
  · have lt : ∀ x, mv x = true → φ x < h' := fun x hx => by
      obtain ⟨_, k, _, q⟩ := Til_mem l' _ i1 (φ x) (i3 x hx).2
      omega
    have he : (if u = v then h' else φ u) = (if w = v then h' else φ w) := he
    by_cases eu : u = v
    · by_cases ew : w = v
      · rw [eu, ew]
      · have hw : mv w = true := by rw [← hw]; exact (if_neg ew).symm
        rw [if_pos eu, if_neg ew] at he
        have := lt w hw
        omega
    · have hu : mv u = true := by rw [← hu]; exact (if_neg eu).symm
      by_cases ew : w = v
      · rw [if_neg eu, if_pos ew] at he
        have := lt u hu
        omega
      · have hw : mv w = true := by rw [← hw]; exact (if_neg ew).symm
        rw [if_neg eu, if_neg ew] at he
        exact i7 u w hu hw he
end SWC

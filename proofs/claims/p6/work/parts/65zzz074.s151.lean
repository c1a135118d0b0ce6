/-! Two runs side by side (reference): rules. -/
/-- more fuel gives the same -/
def Mn (g : Nat → Option (Int32 × MS)) : Prop := ∀ k, Ole (g k) (g (k + 1))
/-- with fuel up to n: where both give an answer, Q holds of them -/
def Pm (n : Nat) (g1 g2 : Nat → Option (Int32 × MS)) (Q : Int32 × MS → Int32 × MS → Prop) : Prop := ∀ k, k ≤ n → ∀ r1 r2, g1 k = some r1 → g2 k = some r2 → Q r1 r2
section PMR
variable {n : Nat} {g1 g2 h1 h2 : Nat → Option (Int32 × MS)} {Q P : Int32 × MS → Int32 × MS → Prop}
theorem Mn_le {g : Nat → Option (Int32 × MS)} (h : Mn g) (k : Nat) : ∀ i, Ole (g k) (g (k + i))
  | 0 => Ole_rf _
  | i + 1 => fun r hr => h (k + i) r (Mn_le h k i r hr)
theorem Tm_at {g : Nat → Option (Int32 × MS)} {P : Int32 × MS → Prop} (t : Tm g P) (h : Mn g) {k : Nat} {r : Int32 × MS} (hr : g k = some r) : P r := by
  obtain ⟨r0, N, h1, h2⟩ := t
  have e1 := Mn_le h k N r hr
  have e2 := h1 (k + N) (by omega)
  rw [e1] at e2
  cases e2
  exact h2
theorem Pm_suc (z : g1 0 = none) (e1 : ∀ k, g1 (k + 1) = h1 k) (e2 : ∀ k, g2 (k + 1) = h2 k) (t : ∀ m, m + 1 = n → Pm m h1 h2 Q) : Pm n g1 g2 Q := by
  intro k hk r1 r2 a1 a2
  cases k with
  | zero => rw [z] at a1; cases a1
  | succ k =>
    cases n with
    | zero => omega
    | succ m =>
      rw [e1] at a1
      rw [e2] at a2
      exact t m rfl k (by omega) r1 r2 a1 a2
theorem Pm_ite {c1 c2 : Prop} {d1 : Decidable c1} {d2 : Decidable c2} {a1 a2 b1 b2 : Nat → Option (Int32 × MS)} (hc : c1 ↔ c2) (t : c1 → c2 → Pm n a1 a2 Q) (u : ¬ c1 → ¬ c2 → Pm n b1 b2 Q) : Pm n (fun k => if c1 then a1 k else b1 k) (fun k => if c2 then a2 k else b2 k) Q := by
  intro k hk r1 r2 e1 e2
  by_cases h : c1
  · have e1 : (if c1 then a1 k else b1 k) = some r1 := e1
    have e2 : (if c2 then a2 k else b2 k) = some r2 := e2
    rw [if_pos h] at e1
    rw [if_pos (hc.mp h)] at e2
    exact t h (hc.mp h) k hk r1 r2 e1 e2
  · have h2 : ¬ c2 := fun z => h (hc.mpr z)
    have e1 : (if c1 then a1 k else b1 k) = some r1 := e1
    have e2 : (if c2 then a2 k else b2 k) = some r2 := e2
    rw [if_neg h] at e1
    rw [if_neg h2] at e2
    exact u h h2 k hk r1 r2 e1 e2
theorem Pm_chk {c1 c2 : Prop} {d1 : Decidable c1} {d2 : Decidable c2} {a1 a2 : Nat → Option (Int32 × MS)} (t : c1 → c2 → Pm n a1 a2 Q) : Pm n (fun k => if c1 then a1 k else none) (fun k => if c2 then a2 k else none) Q := by
  intro k hk r1 r2 e1 e2
  have e1 : (if c1 then a1 k else none) = some r1 := e1
  have e2 : (if c2 then a2 k else none) = some r2 := e2
  by_cases h : c1
  · by_cases h' : c2
    · rw [if_pos h] at e1
      rw [if_pos h'] at e2
      exact t h h' k hk r1 r2 e1 e2
    · rw [if_neg h'] at e2; cases e2
  · rw [if_neg h] at e1; cases e1
theorem Pm_some {r1 r2 : Int32 × MS} (h : Q r1 r2) : Pm n (fun _ => some r1) (fun _ => some r2) Q := by
  intro k hk s1 s2 e1 e2
  cases e1
  cases e2
  exact h
theorem Pm_mono (t : Pm n g1 g2 P) (h : ∀ r1 r2, P r1 r2 → Q r1 r2) : Pm n g1 g2 Q := fun k hk r1 r2 e1 e2 => h r1 r2 (t k hk r1 r2 e1 e2)
theorem Pm_ob {x1 x2 : Nat → Option (Int32 × MS)} {f1 f2 : Nat → Int32 × MS → Option (Int32 × MS)} (t : Pm n x1 x2 P) (h : ∀ r1 r2, P r1 r2 → Pm n (fun k => f1 k r1) (fun k => f2 k r2) Q) : Pm n (fun k => ob (x1 k) (f1 k)) (fun k => ob (x2 k) (f2 k)) Q := by
  intro k hk r1 r2 e1 e2
  have e1 : ob (x1 k) (f1 k) = some r1 := e1
  have e2 : ob (x2 k) (f2 k) = some r2 := e2
  cases a1 : x1 k with
  | none => rw [a1] at e1; cases e1
  | some s1 =>
    cases a2 : x2 k with
    | none => rw [a2] at e2; cases e2
    | some s2 =>
      rw [a1] at e1
      rw [a2] at e2
      exact h s1 s2 (t k hk s1 s2 a1 a2) k hk r1 r2 e1 e2
/-- with what is known of each side alone -/
theorem Pm_un {P1 P2 : Int32 × MS → Prop} (t1 : Tm g1 P1) (m1 : Mn g1) (t2 : Tm g2 P2) (m2 : Mn g2) (t : Pm n g1 g2 Q) : Pm n g1 g2 (fun r1 r2 => Q r1 r2 ∧ P1 r1 ∧ P2 r2) := fun k hk r1 r2 e1 e2 => ⟨t k hk r1 r2 e1 e2, Tm_at t1 m1 e1, Tm_at t2 m2 e2⟩
theorem Pm_t2 {P1 P2 : Int32 × MS → Prop} (t1 : Tm g1 P1) (m1 : Mn g1) (t2 : Tm g2 P2) (m2 : Mn g2) : Pm n g1 g2 (fun r1 r2 => P1 r1 ∧ P2 r2) := fun k hk r1 r2 e1 e2 => ⟨Tm_at t1 m1 e1, Tm_at t2 m2 e2⟩
end PMR
section EVS
variable {H1 H2 H1' H2' : Nat → Int32} {g1 g2 : Nat → Prop} {l1 l2 : List Nat} {a1 b1 a2 b2 : Nat} {x y : Nat}
theorem EVb_3 (h : EVb H1 H2 x y) : (x < 3 ∧ y = x) ∨ (3 ≤ x ∧ 3 ≤ y) := by
  rcases EVb_VR h with z | z
  · exact Or.inl z
  · exact Or.inr ⟨z.1, z.2.1⟩
theorem EVb_sz (h : EVb H1 H2 x y) : szN H2 y = szN H1 x ∧ htN H2 y = htN H1 x ∧ kdN H2 y = kdN H1 x := VR_sz (EVb_VR h)
theorem EVb_hd (h : EVb H1 H2 x y) (hx : 3 ≤ x) {i : Nat} (hi : i < 4) : H2 (y + i) = H1 (x + i) := by
  rcases EVb_VR h with z | z
  · omega
  · exact z.2.2 i hi
theorem EVb_b (R : Nat → Nat → Prop) (hR : Bis R H1 H2) : ∀ a b, R a b → EVb H1 H2 a b := fun a b h => ⟨R, hR, h⟩
theorem EVb_bis : Bis (EVb H1 H2) H1 H2 := by
  intro a b h
  obtain ⟨R, hR, h⟩ := h
  rcases hR a b h with z | ⟨z1, z2, z3, z4⟩
  · exact Or.inl z
  · refine Or.inr ⟨z1, z2, z3, fun n hn hn2 i hi => ?_⟩
    rcases z4 n hn hn2 i hi with ⟨k, c, d, c1, c2, d1, d2, cd⟩ | q
    · exact Or.inl ⟨k, c, d, c1, c2, d1, d2, R, hR, cd⟩
    · exact Or.inr q
/-- members -/
theorem EVb_mem (h : EVb H1 H2 x y) (hx : 3 ≤ x) (hk : H1 x = nI 5 ∨ H1 x = nI 6) {n i : Nat} (hn : H1 (x + 1) = nI n) (hn2 : n ≤ 3996) (hi : i < n) : ∃ c d, H1 (x + 4 + i) = nI c ∧ c < 1740000 ∧ H2 (y + 4 + i) = nI d ∧ d < 1740000 ∧ EVb H1 H2 c d := by
  rcases EVb_bis x y h with z | ⟨z1, z2, z3, z4⟩
  · omega
  · rcases z4 n hn hn2 i hi with ⟨k, q⟩ | ⟨k, _⟩
    · exact q
    · exact absurd hk k
/-- bytes, limbs -/
theorem EVb_raw (h : EVb H1 H2 x y) (hx : 3 ≤ x) (hk : ¬ (H1 x = nI 5 ∨ H1 x = nI 6)) {n i : Nat} (hn : H1 (x + 1) = nI n) (hn2 : n ≤ 3996) (hi : i < n) : H2 (y + 4 + i) = H1 (x + 4 + i) := by
  rcases EVb_bis x y h with z | ⟨z1, z2, z3, z4⟩
  · omega
  · rcases z4 n hn hn2 i hi with ⟨k, _⟩ | ⟨_, q⟩
    · exact absurd k hk
    · exact q
/-- two objects that are made alike -/
theorem EVb_mk (hx : 3 ≤ x) (hy : 3 ≤ y) (hh : ∀ i, i < 4 → H2 (y + i) = H1 (x + i)) (hc : ∀ n, H1 (x + 1) = nI n → n ≤ 3996 → ∀ i, i < n → ((H1 x = nI 5 ∨ H1 x = nI 6) ∧ ∃ c d, H1 (x + 4 + i) = nI c ∧ c < 1740000 ∧ H2 (y + 4 + i) = nI d ∧ d < 1740000 ∧ EVb H1 H2 c d) ∨ (¬ (H1 x = nI 5 ∨ H1 x = nI 6) ∧ H2 (y + 4 + i) = H1 (x + 4 + i))) : EVb H1 H2 x y := by
  refine ⟨fun a b => (a = x ∧ b = y) ∨ EVb H1 H2 a b, fun a b hab => ?_, Or.inl ⟨rfl, rfl⟩⟩
  rcases hab with ⟨e1, e2⟩ | hab
  · subst e1; subst e2
    refine Or.inr ⟨hx, hy, hh, fun n hn hn2 i hi => ?_⟩
    rcases hc n hn hn2 i hi with ⟨k, c, d, c1, c2, d1, d2, cd⟩ | q
    · exact Or.inl ⟨k, c, d, c1, c2, d1, d2, Or.inr cd⟩
    · exact Or.inr q
  · rcases EVb_bis a b hab with z | ⟨z1, z2, z3, z4⟩
    · exact Or.inl z
    · refine Or.inr ⟨z1, z2, z3, fun n hn hn2 i hi => ?_⟩
      rcases z4 n hn hn2 i hi with ⟨k, c, d, c1, c2, d1, d2, cd⟩ | q
      · exact Or.inl ⟨k, c, d, c1, c2, d1, d2, Or.inr cd⟩
      · exact Or.inr q
/-- both heaps grow -/
theorem EVb_g2 (hO1 : HO H1 g1 l1 a1 b1) (hb1 : b1 ≤ 1740000) (he1 : ∀ i, a1 ≤ i → i < b1 → H1' i = H1 i) (hO2 : HO H2 g2 l2 a2 b2) (hb2 : b2 ≤ 1740000) (he2 : ∀ i, a2 ≤ i → i < b2 → H2' i = H2 i) (hx : x < 3 ∨ g1 x) (hy : y < 3 ∨ g2 y) (h : EVb H1 H2 x y) : EVb H1' H2' x y :=
  EVb_tr (EVb_sy (EVb_gr hO1 hb1 he1 hx)) (EVb_tr h (EVb_gr hO2 hb2 he2 hy))
end EVS

section JnS151
/-! Two runs side by side (reference): rules. -/
/-- more fuel gives the same -/
def Mn (g : Nat → Option (Int32 × MS)) : Prop := ∀ k, Ole (g k) (g (k + 1))
/-- with fuel up to n: where both give an answer, Q holds of them -/
def Pm (n : Nat) (g1 g2 : Nat → Option (Int32 × MS)) (Q : Int32 × MS → Int32 × MS → Prop) : Prop := ∀ k, k ≤ n → ∀ r1 r2, g1 k = some r1 → g2 k = some r2 → Q r1 r2
section PMR
variable {n : Nat} {g1 g2 h1 h2 : Nat → Option (Int32 × MS)} {Q P : Int32 × MS → Int32 × MS → Prop}
theorem Mn_le {g : Nat → Option (Int32 × MS)} (h : Mn g) (k : Nat) : ∀ i, Ole (g k) (g (k + i))
  | 0 => Ole_rf _
  | i + 1 => fun r hr => h (k + i) r (Mn_le h k i r hr)
theorem Tm_at {g : Nat → Option (Int32 × MS)} {P : Int32 × MS → Prop} (t : Tm g P) (h : Mn g) {k : Nat} {r : Int32 × MS} (hr : g k = some r) : P r := by
  obtain ⟨r0, N, h1, h2⟩ := t
  have e1 := Mn_le h k N r hr
  have e2 := h1 (k + N) (by omega)
  rw [e1] at e2
  cases e2
  exact h2
theorem Pm_suc (z : g1 0 = none) (e1 : ∀ k, g1 (k + 1) = h1 k) (e2 : ∀ k, g2 (k + 1) = h2 k) (t : ∀ m, m + 1 = n → Pm m h1 h2 Q) : Pm n g1 g2 Q := by
  intro k hk r1 r2 a1 a2
  cases k with
  | zero => rw [z] at a1; cases a1
  | succ k =>
    cases n with
    | zero => omega
    | succ m =>
      rw [e1] at a1
      rw [e2] at a2
      exact t m rfl k (by omega) r1 r2 a1 a2
theorem Pm_ite {c1 c2 : Prop} {d1 : Decidable c1} {d2 : Decidable c2} {a1 a2 b1 b2 : Nat → Option (Int32 × MS)} (hc : c1 ↔ c2) (t : c1 → c2 → Pm n a1 a2 Q) (u : ¬ c1 → ¬ c2 → Pm n b1 b2 Q) : Pm n (fun k => if c1 then a1 k else b1 k) (fun k => if c2 then a2 k else b2 k) Q := by
  intro k hk r1 r2 e1 e2
  by_cases h : c1
  · have e1 : (if c1 then a1 k else b1 k) = some r1 := e1
    have e2 : (if c2 then a2 k else b2 k) = some r2 := e2
    rw [if_pos h] at e1
    rw [if_pos (hc.mp h)] at e2
    exact t h (hc.mp h) k hk r1 r2 e1 e2
  · have h2 : ¬ c2 := fun z => h (hc.mpr z)
    have e1 : (if c1 then a1 k else b1 k) = some r1 := e1
    have e2 : (if c2 then a2 k else b2 k) = some r2 := e2
    rw [if_neg h] at e1
    rw [if_neg h2] at e2
    exact u h h2 k hk r1 r2 e1 e2
theorem Pm_chk {c1 c2 : Prop} {d1 : Decidable c1} {d2 : Decidable c2} {a1 a2 : Nat → Option (Int32 × MS)} (t : c1 → c2 → Pm n a1 a2 Q) : Pm n (fun k => if c1 then a1 k else none) (fun k => if c2 then a2 k else none) Q := by
  intro k hk r1 r2 e1 e2
  have e1 : (if c1 then a1 k else none) = some r1 := e1
  have e2 : (if c2 then a2 k else none) = some r2 := e2
  by_cases h : c1
  · by_cases h' : c2
    · rw [if_pos h] at e1
      rw [if_pos h'] at e2
      exact t h h' k hk r1 r2 e1 e2
    · rw [if_neg h'] at e2; cases e2
  · rw [if_neg h] at e1; cases e1
theorem Pm_some {r1 r2 : Int32 × MS} (h : Q r1 r2) : Pm n (fun _ => some r1) (fun _ => some r2) Q := by
  intro k hk s1 s2 e1 e2
  cases e1
  cases e2
  exact h
theorem Pm_mono (t : Pm n g1 g2 P) (h : ∀ r1 r2, P r1 r2 → Q r1 r2) : Pm n g1 g2 Q := fun k hk r1 r2 e1 e2 => h r1 r2 (t k hk r1 r2 e1 e2)
theorem Pm_ob {x1 x2 : Nat → Option (Int32 × MS)} {f1 f2 : Nat → Int32 × MS → Option (Int32 × MS)} (t : Pm n x1 x2 P) (h : ∀ r1 r2, P r1 r2 → Pm n (fun k => f1 k r1) (fun k => f2 k r2) Q) : Pm n (fun k => ob (x1 k) (f1 k)) (fun k => ob (x2 k) (f2 k)) Q := by
  intro k hk r1 r2 e1 e2
  have e1 : ob (x1 k) (f1 k) = some r1 := e1
  have e2 : ob (x2 k) (f2 k) = some r2 := e2
  cases a1 : x1 k with
  | none => rw [a1] at e1; cases e1
  | some s1 =>
    cases a2 : x2 k with
    | none => rw [a2] at e2; cases e2
    | some s2 =>
      rw [a1] at e1
      rw [a2] at e2
      exact h s1 s2 (t k hk s1 s2 a1 a2) k hk r1 r2 e1 e2
/-- with what is known of each side alone -/
theorem Pm_un {P1 P2 : Int32 × MS → Prop} (t1 : Tm g1 P1) (m1 : Mn g1) (t2 : Tm g2 P2) (m2 : Mn g2) (t : Pm n g1 g2 Q) : Pm n g1 g2 (fun r1 r2 => Q r1 r2 ∧ P1 r1 ∧ P2 r2) := fun k hk r1 r2 e1 e2 => ⟨t k hk r1 r2 e1 e2, Tm_at t1 m1 e1, Tm_at t2 m2 e2⟩
theorem Pm_t2 {P1 P2 : Int32 × MS → Prop} (t1 : Tm g1 P1) (m1 : Mn g1) (t2 : Tm g2 P2) (m2 : Mn g2) : Pm n g1 g2 (fun r1 r2 => P1 r1 ∧ P2 r2) := fun k hk r1 r2 e1 e2 => ⟨Tm_at t1 m1 e1, Tm_at t2 m2 e2⟩
end PMR
section EVS
variable {H1 H2 H1' H2' : Nat → Int32} {g1 g2 : Nat → Prop} {l1 l2 : List Nat} {a1 b1 a2 b2 : Nat} {x y : Nat}
theorem EVb_3 (h : EVb H1 H2 x y) : (x < 3 ∧ y = x) ∨ (3 ≤ x ∧ 3 ≤ y) := by
  rcases EVb_VR h with z | z
  · exact Or.inl z
  · exact Or.inr ⟨z.1, z.2.1⟩
theorem EVb_sz (h : EVb H1 H2 x y) : szN H2 y = szN H1 x ∧ htN H2 y = htN H1 x ∧ kdN H2 y = kdN H1 x := VR_sz (EVb_VR h)
theorem EVb_hd (h : EVb H1 H2 x y) (hx : 3 ≤ x) {i : Nat} (hi : i < 4) : H2 (y + i) = H1 (x + i) := by
  rcases EVb_VR h with z | z
  · omega
  · exact z.2.2 i hi
theorem EVb_b (R : Nat → Nat → Prop) (hR : Bis R H1 H2) : ∀ a b, R a b → EVb H1 H2 a b := fun a b h => ⟨R, hR, h⟩
theorem EVb_bis : Bis (EVb H1 H2) H1 H2 := by
  intro a b h
  obtain ⟨R, hR, h⟩ := h
  rcases hR a b h with z | ⟨z1, z2, z3, z4⟩
  · exact Or.inl z
  · refine Or.inr ⟨z1, z2, z3, fun n hn hn2 i hi => ?_⟩
    rcases z4 n hn hn2 i hi with ⟨k, c, d, c1, c2, d1, d2, cd⟩ | q
    · exact Or.inl ⟨k, c, d, c1, c2, d1, d2, R, hR, cd⟩
    · exact Or.inr q
/-- members -/
theorem EVb_mem (h : EVb H1 H2 x y) (hx : 3 ≤ x) (hk : H1 x = nI 5 ∨ H1 x = nI 6) {n i : Nat} (hn : H1 (x + 1) = nI n) (hn2 : n ≤ 3996) (hi : i < n) : ∃ c d, H1 (x + 4 + i) = nI c ∧ c < 1740000 ∧ H2 (y + 4 + i) = nI d ∧ d < 1740000 ∧ EVb H1 H2 c d := by
  rcases EVb_bis x y h with z | ⟨z1, z2, z3, z4⟩
  · omega
  · rcases z4 n hn hn2 i hi with ⟨k, q⟩ | ⟨k, _⟩
    · exact q
    · exact absurd hk k
/-- bytes, limbs -/
theorem EVb_raw (h : EVb H1 H2 x y) (hx : 3 ≤ x) (hk : ¬ (H1 x = nI 5 ∨ H1 x = nI 6)) {n i : Nat} (hn : H1 (x + 1) = nI n) (hn2 : n ≤ 3996) (hi : i < n) : H2 (y + 4 + i) = H1 (x + 4 + i) := by
  rcases EVb_bis x y h with z | ⟨z1, z2, z3, z4⟩
  · omega
  · rcases z4 n hn hn2 i hi with ⟨k, _⟩ | ⟨_, q⟩
    · exact absurd k hk
    · exact q
/-- two objects that are made alike -/
theorem EVb_mk (hx : 3 ≤ x) (hy : 3 ≤ y) (hh : ∀ i, i < 4 → H2 (y + i) = H1 (x + i)) (hc : ∀ n, H1 (x + 1) = nI n → n ≤ 3996 → ∀ i, i < n → ((H1 x = nI 5 ∨ H1 x = nI 6) ∧ ∃ c d, H1 (x + 4 + i) = nI c ∧ c < 1740000 ∧ H2 (y + 4 + i) = nI d ∧ d < 1740000 ∧ EVb H1 H2 c d) ∨ (¬ (H1 x = nI 5 ∨ H1 x = nI 6) ∧ H2 (y + 4 + i) = H1 (x + 4 + i))) : EVb H1 H2 x y := by
  refine ⟨fun a b => (a = x ∧ b = y) ∨ EVb H1 H2 a b, fun a b hab => ?_, Or.inl ⟨rfl, rfl⟩⟩
  rcases hab with ⟨e1, e2⟩ | hab
  · subst e1; subst e2
    refine Or.inr ⟨hx, hy, hh, fun n hn hn2 i hi => ?_⟩
    rcases hc n hn hn2 i hi with ⟨k, c, d, c1, c2, d1, d2, cd⟩ | q
    · exact Or.inl ⟨k, c, d, c1, c2, d1, d2, Or.inr cd⟩
    · exact Or.inr q
  · rcases EVb_bis a b hab with z | ⟨z1, z2, z3, z4⟩
    · exact Or.inl z
    · refine Or.inr ⟨z1, z2, z3, fun n hn hn2 i hi => ?_⟩
      rcases z4 n hn hn2 i hi with ⟨k, c, d, c1, c2, d1, d2, cd⟩ | q
      · exact Or.inl ⟨k, c, d, c1, c2, d1, d2, Or.inr cd⟩
      · exact Or.inr q
/-- both heaps grow -/
theorem EVb_g2 (hO1 : HO H1 g1 l1 a1 b1) (hb1 : b1 ≤ 1740000) (he1 : ∀ i, a1 ≤ i → i < b1 → H1' i = H1 i) (hO2 : HO H2 g2 l2 a2 b2) (hb2 : b2 ≤ 1740000) (he2 : ∀ i, a2 ≤ i → i < b2 → H2' i = H2 i) (hx : x < 3 ∨ g1 x) (hy : y < 3 ∨ g2 y) (h : EVb H1 H2 x y) : EVb H1' H2' x y :=
  EVb_tr (EVb_sy (EVb_gr hO1 hb1 he1 hx)) (EVb_tr h (EVb_gr hO2 hb2 he2 hy))
end EVS
end JnS151
section JnS152
/-! Two runs side by side (reference): comparing. -/
section KCM
variable {g1 g2 : Nat → Prop} {l1 l2 : List Nat} {B1 h1 B2 h2 n : Nat} {σ1 σ2 : MS}
theorem k_compareWholes (hS1 : HS g1 l1 B1 h1 σ1) (hS2 : HS g2 l2 B2 h2 σ2) {a1 b1 a2 b2 p q : Nat} (p1 : σ1.2.2 28 (a1 + 1) = nI p) (p2 : σ2.2.2 28 (a2 + 1) = nI p) (q1 : σ1.2.2 28 (b1 + 1) = nI q) (q2 : σ2.2.2 28 (b2 + 1) = nI q) (hp : p ≤ 3996) (hq : q ≤ 3996) (hp1 : 1 ≤ p) (hq1 : 1 ≤ q) (ha1 : a1 + 4 + p ≤ 1740000) (ha2 : a2 + 4 + p ≤ 1740000) (hb1 : b1 + 4 + q ≤ 1740000) (hb2 : b2 + 4 + q ≤ 1740000)
    (ca : ∀ i, i < p → σ2.2.2 28 (a2 + 4 + i) = σ1.2.2 28 (a1 + 4 + i)) (cb : ∀ i, i < q → σ2.2.2 28 (b2 + 4 + i) = σ1.2.2 28 (b1 + 4 + i)) {L1 L2 : Nat → Int32} (e1 : L1 1 = nI a1) (e2 : L1 2 = nI b1) (f1 : L2 1 = nI a2) (f2 : L2 2 = nI b2) : Pm n (fun k => x_compareWholes k 0 L1 σ1) (fun k => x_compareWholes k 0 L2 σ2) (fun r1 r2 => r1.1 = r2.1) := by
  have sa : ∀ (m : Nat) (N1 N2 : Nat → Int32), N1 1 = nI a1 → N2 1 = nI a2 → Pm m (fun k => x_signOf k 0 N1 σ1) (fun k => x_signOf k 0 N2 σ2) (fun r1 r2 => r1 = (σ1.2.2 28 (a1 + 4), σ1) ∧ r2 = (σ1.2.2 28 (a1 + 4), σ2)) := fun m N1 N2 m1 m2 => by
    have := Pm_t2 (n := m) (s_signOf hS1 (m := a1) (by omega) m1) (fun k => f_signOf k _ _ _) (s_signOf hS2 (m := a2) (by omega) m2) (fun k => f_signOf k _ _ _)
    have c0 := ca 0 (by omega)
    exact Pm_mono this (fun r1 r2 z => ⟨z.1, by rw [z.2, show a2 + 4 = a2 + 4 + 0 from rfl, c0]⟩)
  have sb : ∀ (m : Nat) (N1 N2 : Nat → Int32), N1 1 = nI b1 → N2 1 = nI b2 → Pm m (fun k => x_signOf k 0 N1 σ1) (fun k => x_signOf k 0 N2 σ2) (fun r1 r2 => r1 = (σ1.2.2 28 (b1 + 4), σ1) ∧ r2 = (σ1.2.2 28 (b1 + 4), σ2)) := fun m N1 N2 m1 m2 => by
    have := Pm_t2 (n := m) (s_signOf hS1 (m := b1) (by omega) m1) (fun k => f_signOf k _ _ _) (s_signOf hS2 (m := b2) (by omega) m2) (fun k => f_signOf k _ _ _)
    have c0 := cb 0 (by omega)
    exact Pm_mono this (fun r1 r2 z => ⟨z.1, by rw [z.2, show b2 + 4 = b2 + 4 + 0 from rfl, c0]⟩)
  have w5 : ∀ (m : Nat) (N1 N2 : Nat → Int32), N1 100 = N2 100 → Pm m (fun k => x_compareWholes k 5 N1 σ1) (fun k => x_compareWholes k 5 N2 σ2) (fun r1 r2 => r1.1 = r2.1) := fun m N1 N2 h => by
    refine Pm_suc rfl (fun k => by rw [x_compareWholes]) (fun k => by rw [x_compareWholes]) (fun m _ => ?_)
    exact Pm_some h
  have w3 : ∀ (m : Nat) (N1 N2 : Nat → Int32), N1 1 = nI a1 → N2 1 = nI a2 → N1 5 = N2 5 → Pm m (fun k => x_compareWholes k 3 N1 σ1) (fun k => x_compareWholes k 3 N2 σ2) (fun r1 r2 => r1.1 = r2.1) := fun m N1 N2 n1 n2 n5 => by
    refine Pm_suc rfl (fun k => by rw [x_compareWholes]) (fun k => by rw [x_compareWholes]) (fun m _ => ?_)
    refine Pm_ob (sa m _ _ (by exact n1) (by exact n2)) (fun r1 r2 hr => ?_)
    rw [hr.1, hr.2]
    refine Pm_ite Iff.rfl (fun _ _ => ?_) (fun _ _ => ?_)
    · refine Pm_suc rfl (fun k => by rw [x_compareWholes]) (fun k => by rw [x_compareWholes]) (fun m _ => ?_)
      exact w5 m _ _ (by show N1 5 = N2 5; exact n5)
    · exact w5 m _ _ (by show - N1 5 = - N2 5; rw [n5])
  have w2 : ∀ (m i : Nat) (N1 N2 : Nat → Int32), i < p → N1 1 = nI a1 → N2 1 = nI a2 → N1 2 = nI b1 → N2 2 = nI b2 → N1 6 = nI i → N2 6 = nI i → N1 5 = N2 5 → (N1 5 = 0 → p = q) → Pm m (fun k => x_compareWholes k 2 N1 σ1) (fun k => x_compareWholes k 2 N2 σ2) (fun r1 r2 => r1.1 = r2.1) := by
    intro m
    induction m with
    | zero =>
      intro i N1 N2 hi n1 m1 n2 m2 n6 m6 n5 h5
      exact Pm_suc rfl (fun k => by rw [x_compareWholes]) (fun k => by rw [x_compareWholes]) (fun m hm => by omega)
    | succ m ih =>
      intro i N1 N2 hi n1 m1 n2 m2 n6 m6 n5 h5
      refine Pm_suc rfl (fun k => by rw [x_compareWholes]) (fun k => by rw [x_compareWholes]) (fun m' hm' => ?_)
      have hm' : m' = m := by omega
      subst hm'
      rw [n1, m1, n2, m2, n6, m6, show nI a1 + 4 = nI (a1 + 4) from n_add (q := 4) (by omega), show nI a2 + 4 = nI (a2 + 4) from n_add (q := 4) (by omega), show nI b1 + 4 = nI (b1 + 4) from n_add (q := 4) (by omega), show nI b2 + 4 = nI (b2 + 4) from n_add (q := 4) (by omega), n_add (p := a1 + 4) (q := i) (by omega), n_add (p := a2 + 4) (q := i) (by omega), n_add (p := b1 + 4) (q := i) (by omega), n_add (p := b2 + 4) (q := i) (by omega)]
      refine Pm_ite Iff.rfl (fun _ _ => w3 m' _ _ n1 m1 n5) (fun z _ => ?_)
      refine Pm_ite (by rw [n5]) (fun z5 _ => ?_) (fun _ _ => w3 m' _ _ n1 m1 n5)
      have epq := h5 z5
      refine Pm_chk (fun _ _ => ?_)
      refine Pm_chk (fun _ _ => ?_)
      rw [n_cl (p := a1 + 4 + i) (by omega), n_cl (p := a2 + 4 + i) (by omega), n_cl (p := b1 + 4 + i) (by omega), n_cl (p := b2 + 4 + i) (by omega), ca i hi, cb i (by omega)]
      have hi1 : 1 ≤ i := by
        by_cases e : i = 0
        · exact absurd (by rw [e]; decide) z
        · omega
      obtain ⟨j, rfl⟩ : ∃ j, i = j + 1 := ⟨i - 1, by omega⟩
      rw [show nI (j + 1) + (-1) = nI j from n_pred j (by omega)]
      exact ih j _ _ (by omega) n1 m1 n2 m2 rfl rfl rfl (fun _ => epq)
  refine Pm_suc rfl (fun k => by rw [x_compareWholes]) (fun k => by rw [x_compareWholes]) (fun m _ => ?_)
  refine Pm_ob (sa m _ _ (by exact e1) (by exact f1)) (fun r1 r2 hr => ?_)
  rw [hr.1, hr.2]
  refine Pm_ob (sb m _ _ (by exact e2) (by exact f2)) (fun s1 s2 hs => ?_)
  rw [hs.1, hs.2]
  refine Pm_ite Iff.rfl (fun _ _ => ?_) (fun _ _ => ?_)
  · refine Pm_suc rfl (fun k => by rw [x_compareWholes]) (fun k => by rw [x_compareWholes]) (fun m _ => ?_)
    rw [e1, e2, f1, f2, n_add1, n_add1, n_add1, n_add1]
    refine Pm_chk (fun _ _ => ?_)
    refine Pm_chk (fun _ _ => ?_)
    rw [n_cl (p := a1 + 1) (by omega), n_cl (p := b1 + 1) (by omega), n_cl (p := a2 + 1) (by omega), n_cl (p := b2 + 1) (by omega), p1, p2, q1, q2]
    refine w2 m (p - 1) _ _ (by omega) e1 f1 e2 f2 ?_ ?_ rfl (fun z => (n_sub0 (by omega) (by omega)).mp z)
    · show nI p - 1 = _
      exact n_sub (p := p) (q := 1) (by omega) hp1
    · show nI p - 1 = _
      exact n_sub (p := p) (q := 1) (by omega) hp1
  · refine Pm_ob (sa m _ _ (by exact e1) (by exact f1)) (fun r1 r2 hr => ?_)
    rw [hr.1, hr.2]
    refine Pm_ob (sb m _ _ (by exact e2) (by exact f2)) (fun s1 s2 hs => ?_)
    rw [hs.1, hs.2]
    exact Pm_some rfl
end KCM
end JnS152
section JnS153
/-! Blocks of the groups, one row each (reference; made by eqs.py). -/
theorem e_compare_0 (k d : Nat) (L : Nat → Int32) (σ : MS) : x_GC (k + 1) d 0 0 L σ = (if ((L 1)) = ((L 2)) then (some (0, σ)) else (x_GC k d 0 1 L σ)) := rfl
theorem e_compare_1 (k d : Nat) (L : Nat → Int32) (σ : MS) : x_GC (k + 1) d 0 1 L σ = (ob (x_rank k 0 (upd (fun _ => 0) 1 ((L 1))) σ) (fun r1 => ob (x_rank k 0 (upd (fun _ => 0) 1 ((L 2))) r1.2) (fun r2 => if ((r1.1 - r2.1)) = 0 then (x_GC k d 0 2 (upd L 3 ((r1.1 - r2.1))) r2.2) else (some ((r1.1 - r2.1), r2.2))))) := rfl
theorem e_compare_2 (k d : Nat) (L : Nat → Int32) (σ : MS) : x_GC (k + 1) d 0 2 L σ = (if ¬ (((L 1)) < 0 ∨ 1740000 ≤ ((L 1)).toNatClampNeg) then (if ((σ.2.2 28 ((L 1)).toNatClampNeg)) = 2 then (ob (x_compareWholes k 0 (upd (upd (fun _ => 0) 1 ((L 1))) 2 ((L 2))) σ) (fun r3 => some (r3.1, r3.2))) else (x_GC k d 0 3 (upd L 4 ((σ.2.2 28 ((L 1)).toNatClampNeg))) σ)) else none) := rfl
theorem e_compare_3 (k d : Nat) (L : Nat → Int32) (σ : MS) : x_GC (k + 1) d 0 3 L σ = (if ¬ (((((L 1)) + 1)) < 0 ∨ 1740000 ≤ ((((L 1)) + 1)).toNatClampNeg) then (if ¬ (((((L 2)) + 1)) < 0 ∨ 1740000 ≤ ((((L 2)) + 1)).toNatClampNeg) then (x_GC k d 0 4 (upd (upd (upd L 5 ((σ.2.2 28 ((((L 1)) + 1)).toNatClampNeg))) 6 ((σ.2.2 28 ((((L 2)) + 1)).toNatClampNeg))) 7 0) σ) else none) else none) := rfl
theorem e_compare_4 (k d : Nat) (L : Nat → Int32) (σ : MS) : x_GC (k + 1) d 0 4 L σ = (if ((L 5)) ≤ ((L 7)) then (x_GC k d 0 9 L σ) else (if ((L 6)) ≤ ((L 7)) then (x_GC k d 0 9 L σ) else (if ((L 4)) = 5 then (x_GC k d 0 5 L σ) else (if ((L 4)) = 6 then (x_GC k d 0 5 L σ) else (x_GC k d 0 6 L σ))))) := rfl
theorem e_compare_5 (k d : Nat) (L : Nat → Int32) (σ : MS) : x_GC (k + 1) d 0 5 L σ = (if ¬ (((((((L 1)) + 4)) + ((L 7)))) < 0 ∨ 1740000 ≤ ((((((L 1)) + 4)) + ((L 7)))).toNatClampNeg) then (if ¬ (((((((L 2)) + 4)) + ((L 7)))) < 0 ∨ 1740000 ≤ ((((((L 2)) + 4)) + ((L 7)))).toNatClampNeg) then (od d (fun e3 => ob (x_GC k e3 0 0 (upd (upd (fun _ => 0) 1 ((σ.2.2 28 ((((((L 1)) + 4)) + ((L 7)))).toNatClampNeg))) 2 ((σ.2.2 28 ((((((L 2)) + 4)) + ((L 7)))).toNatClampNeg))) σ) (fun r3 => x_GC k d 0 7 (upd L 100 r3.1) r3.2))) else none) else none) := rfl
theorem e_compare_6 (k d : Nat) (L : Nat → Int32) (σ : MS) : x_GC (k + 1) d 0 6 L σ = (if ¬ (((((((L 1)) + 4)) + ((L 7)))) < 0 ∨ 1740000 ≤ ((((((L 1)) + 4)) + ((L 7)))).toNatClampNeg) then (if ¬ (((((((L 2)) + 4)) + ((L 7)))) < 0 ∨ 1740000 ≤ ((((((L 2)) + 4)) + ((L 7)))).toNatClampNeg) then (x_GC k d 0 7 (upd L 100 ((((σ.2.2 28 ((((((L 1)) + 4)) + ((L 7)))).toNatClampNeg)) - ((σ.2.2 28 ((((((L 2)) + 4)) + ((L 7)))).toNatClampNeg))))) σ) else none) else none) := rfl
theorem e_compare_7 (k d : Nat) (L : Nat → Int32) (σ : MS) : x_GC (k + 1) d 0 7 L σ = (if ((L 100)) = 0 then (x_GC k d 0 8 (upd L 8 ((L 100))) σ) else (some ((L 100), σ))) := rfl
theorem e_compare_8 (k d : Nat) (L : Nat → Int32) (σ : MS) : x_GC (k + 1) d 0 8 L σ = (x_GC k d 0 4 (upd L 7 (((L 7)) + 1)) σ) := rfl
theorem e_compare_9 (k d : Nat) (L : Nat → Int32) (σ : MS) : x_GC (k + 1) d 0 9 L σ = (some ((((L 5)) - ((L 6))), σ)) := rfl
theorem e_putNumber_0 (k d : Nat) (L : Nat → Int32) (σ : MS) : x_GN (k + 1) d 0 0 L σ = (if ((L 1)) ≤ 9 then (x_GN k d 0 1 L σ) else (if (10 : Int32) = 0 then none else (od d (fun e3 => ob (x_GN k e3 0 0 (upd (fun _ => 0) 1 ((((L 1)) / 10))) σ) (fun r3 => x_GN k d 0 1 L r3.2))))) := rfl
theorem e_putNumber_1 (k d : Nat) (L : Nat → Int32) (σ : MS) : x_GN (k + 1) d 0 1 L σ = (if (10 : Int32) = 0 then none else (ob (x_put k 0 (upd (fun _ => 0) 1 ((48 + ((((L 1)) - ((L 1)) / 10 * 10))))) σ) (fun r2 => some (0, r2.2)))) := rfl
theorem e_print_0 (k d : Nat) (L : Nat → Int32) (σ : MS) : x_GP (k + 1) d 0 0 L σ = (ob (x_kind k 0 (upd (fun _ => 0) 1 ((L 1))) σ) (fun r1 => if r1.1 = 0 then (ob (x_put k 0 (upd (fun _ => 0) 1 111) r1.2) (fun r3 => ob (x_put k 0 (upd (fun _ => 0) 1 109) r3.2) (fun r4 => x_GP k d 0 18 (upd L 3 r1.1) r4.2))) else (x_GP k d 0 1 (upd L 3 r1.1) r1.2))) := rfl
theorem e_print_1 (k d : Nat) (L : Nat → Int32) (σ : MS) : x_GP (k + 1) d 0 1 L σ = (if ((L 3)) = 1 then (if ((L 1)) = 2 then (x_GP k d 0 3 (upd L 100 1) σ) else (x_GP k d 0 2 L σ)) else (x_GP k d 0 4 L σ)) := rfl
theorem e_print_2 (k d : Nat) (L : Nat → Int32) (σ : MS) : x_GP (k + 1) d 0 2 L σ = (x_GP k d 0 3 (upd L 100 0) σ) := rfl
theorem e_print_3 (k d : Nat) (L : Nat → Int32) (σ : MS) : x_GP (k + 1) d 0 3 L σ = (ob (x_putTruth k 0 (upd (fun _ => 0) 1 ((L 100))) σ) (fun r1 => x_GP k d 0 18 L r1.2)) := rfl
theorem e_print_4 (k d : Nat) (L : Nat → Int32) (σ : MS) : x_GP (k + 1) d 0 4 L σ = (if ((L 3)) = 2 then (ob (x_putWhole k 0 (upd (fun _ => 0) 1 ((L 1))) σ) (fun r2 => x_GP k d 0 18 L r2.2)) else (x_GP k d 0 5 L σ)) := rfl
theorem e_print_5 (k d : Nat) (L : Nat → Int32) (σ : MS) : x_GP (k + 1) d 0 5 L σ = (if ((L 3)) = 3 then (ob (x_put k 0 (upd (fun _ => 0) 1 35) σ) (fun r2 => if ¬ (((((L 1)) + 4)) < 0 ∨ 1740000 ≤ ((((L 1)) + 4)).toNatClampNeg) then (ob (x_putNumber k 0 (upd (fun _ => 0) 1 ((r2.2.2.2 28 ((((L 1)) + 4)).toNatClampNeg))) r2.2) (fun r4 => x_GP k d 0 18 L r4.2)) else none)) else (x_GP k d 0 6 L σ)) := rfl
theorem e_print_6 (k d : Nat) (L : Nat → Int32) (σ : MS) : x_GP (k + 1) d 0 6 L σ = (if ((L 3)) = 4 then (if ((L 2)) = 0 then (ob (x_put k 0 (upd (fun _ => 0) 1 34) σ) (fun r3 => x_GP k d 0 7 L r3.2)) else (x_GP k d 0 7 L σ)) else (x_GP k d 0 10 L σ)) := rfl
theorem e_print_7 (k d : Nat) (L : Nat → Int32) (σ : MS) : x_GP (k + 1) d 0 7 L σ = (x_GP k d 0 8 (upd L 4 0) σ) := rfl
theorem e_print_8 (k d : Nat) (L : Nat → Int32) (σ : MS) : x_GP (k + 1) d 0 8 L σ = (if ¬ (((((L 1)) + 1)) < 0 ∨ 1740000 ≤ ((((L 1)) + 1)).toNatClampNeg) then (if ((σ.2.2 28 ((((L 1)) + 1)).toNatClampNeg)) ≤ ((L 4)) then (x_GP k d 0 9 L σ) else (if ¬ (((((((L 1)) + 4)) + ((L 4)))) < 0 ∨ 1740000 ≤ ((((((L 1)) + 4)) + ((L 4)))).toNatClampNeg) then (ob (x_put k 0 (upd (fun _ => 0) 1 ((σ.2.2 28 ((((((L 1)) + 4)) + ((L 4)))).toNatClampNeg))) σ) (fun r4 => x_GP k d 0 8 (upd L 4 (((L 4)) + 1)) r4.2)) else none)) else none) := rfl
theorem e_print_9 (k d : Nat) (L : Nat → Int32) (σ : MS) : x_GP (k + 1) d 0 9 L σ = (if ((L 2)) = 0 then (ob (x_put k 0 (upd (fun _ => 0) 1 34) σ) (fun r2 => x_GP k d 0 18 L r2.2)) else (x_GP k d 0 18 L σ)) := rfl
theorem e_print_10 (k d : Nat) (L : Nat → Int32) (σ : MS) : x_GP (k + 1) d 0 10 L σ = (if ((L 3)) = 6 then (x_GP k d 0 12 (upd L 100 123) σ) else (x_GP k d 0 11 L σ)) := rfl
theorem e_print_11 (k d : Nat) (L : Nat → Int32) (σ : MS) : x_GP (k + 1) d 0 11 L σ = (x_GP k d 0 12 (upd L 100 91) σ) := rfl
theorem e_print_12 (k d : Nat) (L : Nat → Int32) (σ : MS) : x_GP (k + 1) d 0 12 L σ = (ob (x_put k 0 (upd (fun _ => 0) 1 ((L 100))) σ) (fun r1 => x_GP k d 0 13 (upd L 4 0) r1.2)) := rfl
theorem e_print_13 (k d : Nat) (L : Nat → Int32) (σ : MS) : x_GP (k + 1) d 0 13 L σ = (if ¬ (((((L 1)) + 1)) < 0 ∨ 1740000 ≤ ((((L 1)) + 1)).toNatClampNeg) then (if ((σ.2.2 28 ((((L 1)) + 1)).toNatClampNeg)) ≤ ((L 4)) then (x_GP k d 0 15 L σ) else (if ((L 4)) ≤ 0 then (x_GP k d 0 14 L σ) else (ob (x_put k 0 (upd (fun _ => 0) 1 44) σ) (fun r4 => ob (x_put k 0 (upd (fun _ => 0) 1 32) r4.2) (fun r5 => x_GP k d 0 14 L r5.2))))) else none) := rfl
theorem e_print_14 (k d : Nat) (L : Nat → Int32) (σ : MS) : x_GP (k + 1) d 0 14 L σ = (if ¬ (((((((L 1)) + 4)) + ((L 4)))) < 0 ∨ 1740000 ≤ ((((((L 1)) + 4)) + ((L 4)))).toNatClampNeg) then (od d (fun e2 => ob (x_GP k e2 0 0 (upd (upd (fun _ => 0) 1 ((σ.2.2 28 ((((((L 1)) + 4)) + ((L 4)))).toNatClampNeg))) 2 0) σ) (fun r2 => x_GP k d 0 13 (upd L 4 (((L 4)) + 1)) r2.2))) else none) := rfl
theorem e_print_15 (k d : Nat) (L : Nat → Int32) (σ : MS) : x_GP (k + 1) d 0 15 L σ = (if ((L 3)) = 6 then (x_GP k d 0 17 (upd L 100 125) σ) else (x_GP k d 0 16 L σ)) := rfl
theorem e_print_16 (k d : Nat) (L : Nat → Int32) (σ : MS) : x_GP (k + 1) d 0 16 L σ = (x_GP k d 0 17 (upd L 100 93) σ) := rfl
theorem e_print_17 (k d : Nat) (L : Nat → Int32) (σ : MS) : x_GP (k + 1) d 0 17 L σ = (ob (x_put k 0 (upd (fun _ => 0) 1 ((L 100))) σ) (fun r1 => x_GP k d 0 18 L r1.2)) := rfl
theorem e_print_18 (k d : Nat) (L : Nat → Int32) (σ : MS) : x_GP (k + 1) d 0 18 L σ = (some (0, σ)) := rfl
theorem e_begins_0 (k d : Nat) (L : Nat → Int32) (σ : MS) : x_GV (k + 1) d 0 0 L σ = (if ((σ.1 56)) ≤ 0 then (x_GV k d 0 1 L σ) else (some (0, σ))) := rfl
theorem e_begins_1 (k d : Nat) (L : Nat → Int32) (σ : MS) : x_GV (k + 1) d 0 1 L σ = (if ¬ (((L 1)) < 0 ∨ 70000 ≤ ((L 1)).toNatClampNeg) then (if ((σ.2.2 4 ((L 1)).toNatClampNeg)) = (1 : Int32) then (x_GV k d 0 2 L σ) else (if ((σ.2.2 4 ((L 1)).toNatClampNeg)) = (2 : Int32) then (x_GV k d 0 3 L σ) else (if ((σ.2.2 4 ((L 1)).toNatClampNeg)) = (3 : Int32) then (x_GV k d 0 4 L σ) else (if ((σ.2.2 4 ((L 1)).toNatClampNeg)) = (4 : Int32) then (x_GV k d 0 5 L σ) else (if ((σ.2.2 4 ((L 1)).toNatClampNeg)) = (5 : Int32) then (x_GV k d 0 6 L σ) else (if ((σ.2.2 4 ((L 1)).toNatClampNeg)) = (6 : Int32) then (x_GV k d 0 7 L σ) else (if ((σ.2.2 4 ((L 1)).toNatClampNeg)) = (7 : Int32) then (x_GV k d 0 8 L σ) else (if ((σ.2.2 4 ((L 1)).toNatClampNeg)) = (8 : Int32) then (x_GV k d 0 9 L σ) else (if ((σ.2.2 4 ((L 1)).toNatClampNeg)) = (9 : Int32) then (x_GV k d 0 16 L σ) else (if ((σ.2.2 4 ((L 1)).toNatClampNeg)) = (10 : Int32) then (x_GV k d 0 10 L σ) else (if ((σ.2.2 4 ((L 1)).toNatClampNeg)) = (11 : Int32) then (x_GV k d 0 11 L σ) else (if ((σ.2.2 4 ((L 1)).toNatClampNeg)) = (12 : Int32) then (x_GV k d 0 15 L σ) else (if ((σ.2.2 4 ((L 1)).toNatClampNeg)) = (13 : Int32) then (x_GV k d 0 12 L σ) else (if ((σ.2.2 4 ((L 1)).toNatClampNeg)) = (14 : Int32) then (x_GV k d 0 13 L σ) else (if ((σ.2.2 4 ((L 1)).toNatClampNeg)) = (15 : Int32) then (x_GV k d 0 14 L σ) else (x_GV k d 0 16 L σ)))))))))))))))) else none) := rfl
theorem e_begins_2 (k d : Nat) (L : Nat → Int32) (σ : MS) : x_GV (k + 1) d 0 2 L σ = (ob (x_sweep k 0 (upd (fun _ => 0) 1 780000) σ) (fun r1 => if ¬ (((L 1)) < 0 ∨ 70000 ≤ ((L 1)).toNatClampNeg) then (if ¬ (((L 1)) < 0 ∨ 70000 ≤ ((L 1)).toNatClampNeg) then (ob (x_literal k 0 (upd (upd (fun _ => 0) 1 ((r1.2.2.2 5 ((L 1)).toNatClampNeg))) 2 ((r1.2.2.2 6 ((L 1)).toNatClampNeg))) r1.2) (fun r4 => ob (x_answer k 0 (upd (fun _ => 0) 1 r4.1) r4.2) (fun r5 => ob (x_push k 0 (upd (fun _ => 0) 1 r5.1) r5.2) (fun r6 => some (0, r6.2))))) else none) else none)) := rfl
theorem e_begins_3 (k d : Nat) (L : Nat → Int32) (σ : MS) : x_GV (k + 1) d 0 3 L σ = (ob (x_sweep k 0 (upd (fun _ => 0) 1 780000) σ) (fun r1 => if ¬ (((L 1)) < 0 ∨ 70000 ≤ ((L 1)).toNatClampNeg) then (if ¬ (((L 1)) < 0 ∨ 70000 ≤ ((L 1)).toNatClampNeg) then (ob (x_stringOf__12 k 0 (upd (upd (fun _ => 0) 2 ((r1.2.2.2 5 ((L 1)).toNatClampNeg))) 3 ((r1.2.2.2 6 ((L 1)).toNatClampNeg))) r1.2) (fun r4 => ob (x_answer k 0 (upd (fun _ => 0) 1 r4.1) r4.2) (fun r5 => ob (x_push k 0 (upd (fun _ => 0) 1 r5.1) r5.2) (fun r6 => some (0, r6.2))))) else none) else none)) := rfl
theorem e_begins_4 (k d : Nat) (L : Nat → Int32) (σ : MS) : x_GV (k + 1) d 0 4 L σ = (ob (x_push k 0 (upd (fun _ => 0) 1 0) σ) (fun r1 => some (0, r1.2))) := rfl
theorem e_begins_5 (k d : Nat) (L : Nat → Int32) (σ : MS) : x_GV (k + 1) d 0 5 L σ = (ob (x_push k 0 (upd (fun _ => 0) 1 2) σ) (fun r1 => some (0, r1.2))) := rfl
theorem e_begins_6 (k d : Nat) (L : Nat → Int32) (σ : MS) : x_GV (k + 1) d 0 6 L σ = (ob (x_push k 0 (upd (fun _ => 0) 1 1) σ) (fun r1 => some (0, r1.2))) := rfl
theorem e_begins_7 (k d : Nat) (L : Nat → Int32) (σ : MS) : x_GV (k + 1) d 0 7 L σ = (ob (x_sweep k 0 (upd (fun _ => 0) 1 780000) σ) (fun r1 => ob (x_newAtom k 0 (fun _ => 0) r1.2) (fun r2 => ob (x_answer k 0 (upd (fun _ => 0) 1 r2.1) r2.2) (fun r3 => ob (x_push k 0 (upd (fun _ => 0) 1 r3.1) r3.2) (fun r4 => some (0, r4.2)))))) := rfl
theorem e_begins_8 (k d : Nat) (L : Nat → Int32) (σ : MS) : x_GV (k + 1) d 0 8 L σ = (ob (x_valueOf k 0 (upd (fun _ => 0) 1 ((L 1))) σ) (fun r1 => ob (x_push k 0 (upd (fun _ => 0) 1 r1.1) r1.2) (fun r2 => some (0, r2.2)))) := rfl
theorem e_begins_9 (k d : Nat) (L : Nat → Int32) (σ : MS) : x_GV (k + 1) d 0 9 L σ = (od d (fun e1 => ob (x_GV k e1 2 0 (upd (fun _ => 0) 1 ((L 1))) σ) (fun r1 => some (0, r1.2)))) := rfl
theorem e_begins_10 (k d : Nat) (L : Nat → Int32) (σ : MS) : x_GV (k + 1) d 0 10 L σ = (od d (fun e1 => ob (x_GV k e1 11 0 (upd (fun _ => 0) 1 ((L 1))) σ) (fun r1 => some (0, r1.2)))) := rfl
theorem e_begins_11 (k d : Nat) (L : Nat → Int32) (σ : MS) : x_GV (k + 1) d 0 11 L σ = (od d (fun e1 => ob (x_GV k e1 12 0 (upd (fun _ => 0) 1 ((L 1))) σ) (fun r1 => some (0, r1.2)))) := rfl
theorem e_begins_12 (k d : Nat) (L : Nat → Int32) (σ : MS) : x_GV (k + 1) d 0 12 L σ = (od d (fun e1 => ob (x_GV k e1 5 0 (upd (fun _ => 0) 1 ((L 1))) σ) (fun r1 => some (0, r1.2)))) := rfl
theorem e_begins_13 (k d : Nat) (L : Nat → Int32) (σ : MS) : x_GV (k + 1) d 0 13 L σ = (od d (fun e1 => ob (x_GV k e1 10 0 (upd (fun _ => 0) 1 ((L 1))) σ) (fun r1 => some (0, r1.2)))) := rfl
theorem e_begins_14 (k d : Nat) (L : Nat → Int32) (σ : MS) : x_GV (k + 1) d 0 14 L σ = (od d (fun e1 => ob (x_GV k e1 3 0 (upd (fun _ => 0) 1 ((L 1))) σ) (fun r1 => some (0, r1.2)))) := rfl
theorem e_begins_15 (k d : Nat) (L : Nat → Int32) (σ : MS) : x_GV (k + 1) d 0 15 L σ = (od d (fun e1 => ob (x_GV k e1 1 0 (upd (fun _ => 0) 1 ((L 1))) σ) (fun r1 => some (0, r1.2)))) := rfl
theorem e_begins_16 (k d : Nat) (L : Nat → Int32) (σ : MS) : x_GV (k + 1) d 0 16 L σ = (if ¬ (((L 1)) < 0 ∨ 70000 ≤ ((L 1)).toNatClampNeg) then (od d (fun e2 => ob (x_GV k e2 4 0 (upd (fun _ => 0) 1 ((σ.2.2 6 ((L 1)).toNatClampNeg))) σ) (fun r2 => if ((r2.2.1 56)) = 0 then (ob (x_sweep k 0 (upd (fun _ => 0) 1 780000) r2.2) (fun r4 => ob (x_pop k 0 (fun _ => 0) r4.2) (fun r5 => ob (x_single k 0 (upd (upd (fun _ => 0) 1 ((L 1))) 2 r5.1) r5.2) (fun r6 => ob (x_answer k 0 (upd (fun _ => 0) 1 r6.1) r6.2) (fun r7 => ob (x_push k 0 (upd (fun _ => 0) 1 r7.1) r7.2) (fun r8 => x_GV k d 0 17 L r8.2)))))) else (x_GV k d 0 17 L r2.2)))) else none) := rfl
theorem e_begins_17 (k d : Nat) (L : Nat → Int32) (σ : MS) : x_GV (k + 1) d 0 17 L σ = (some (0, σ)) := rfl
theorem e_bounds_0 (k d : Nat) (L : Nat → Int32) (σ : MS) : x_GV (k + 1) d 1 0 L σ = (if ¬ (((L 1)) < 0 ∨ 70000 ≤ ((L 1)).toNatClampNeg) then (od d (fun e2 => ob (x_GV k e2 4 0 (upd (fun _ => 0) 1 ((σ.2.2 6 ((L 1)).toNatClampNeg))) σ) (fun r2 => if ¬ (((L 1)) < 0 ∨ 70000 ≤ ((L 1)).toNatClampNeg) then (if ((r2.2.2.2 7 ((L 1)).toNatClampNeg)) = ((-1)) then (x_GV k d 1 1 L r2.2) else (if ((r2.2.1 56)) = 0 then (if ¬ (((L 1)) < 0 ∨ 70000 ≤ ((L 1)).toNatClampNeg) then (od d (fun e7 => ob (x_GV k e7 4 0 (upd (fun _ => 0) 1 ((r2.2.2.2 7 ((L 1)).toNatClampNeg))) r2.2) (fun r7 => x_GV k d 1 1 L r7.2))) else none) else (x_GV k d 1 1 L r2.2))) else none))) else none) := rfl
theorem e_bounds_1 (k d : Nat) (L : Nat → Int32) (σ : MS) : x_GV (k + 1) d 1 1 L σ = (if ((σ.1 56)) = 0 then (if ¬ (((L 1)) < 0 ∨ 70000 ≤ ((L 1)).toNatClampNeg) then (od d (fun e3 => ob (x_GV k e3 4 0 (upd (fun _ => 0) 1 ((σ.2.2 8 ((L 1)).toNatClampNeg))) σ) (fun r3 => x_GV k d 1 2 L r3.2))) else none) else (x_GV k d 1 2 L σ)) := rfl
theorem e_bounds_2 (k d : Nat) (L : Nat → Int32) (σ : MS) : x_GV (k + 1) d 1 2 L σ = (if ((σ.1 56)) = 0 then (ob (x_sweep k 0 (upd (fun _ => 0) 1 780000) σ) (fun r2 => if ¬ (((L 1)) < 0 ∨ 70000 ≤ ((L 1)).toNatClampNeg) then (if ((r2.2.2.2 5 ((L 1)).toNatClampNeg)) = 1 then (x_GV k d 1 4 (upd L 100 1) r2.2) else (x_GV k d 1 3 L r2.2)) else none)) else (x_GV k d 1 7 L σ)) := rfl
theorem e_bounds_3 (k d : Nat) (L : Nat → Int32) (σ : MS) : x_GV (k + 1) d 1 3 L σ = (x_GV k d 1 4 (upd L 100 0) σ) := rfl
theorem e_bounds_4 (k d : Nat) (L : Nat → Int32) (σ : MS) : x_GV (k + 1) d 1 4 L σ = (if ¬ (((L 1)) < 0 ∨ 70000 ≤ ((L 1)).toNatClampNeg) then (if ((σ.2.2 7 ((L 1)).toNatClampNeg)) = ((-1)) then (x_GV k d 1 5 (upd L 100 ((L 100))) σ) else (x_GV k d 1 6 (upd (upd L 100 1) 101 ((L 100))) σ)) else none) := rfl
theorem e_bounds_5 (k d : Nat) (L : Nat → Int32) (σ : MS) : x_GV (k + 1) d 1 5 L σ = (x_GV k d 1 6 (upd (upd L 100 0) 101 ((L 100))) σ) := rfl
theorem e_bounds_6 (k d : Nat) (L : Nat → Int32) (σ : MS) : x_GV (k + 1) d 1 6 L σ = (ob (x_range k 0 (upd (upd (fun _ => 0) 1 ((L 101))) 2 ((L 100))) σ) (fun r1 => ob (x_answer k 0 (upd (fun _ => 0) 1 r1.1) r1.2) (fun r2 => ob (x_push k 0 (upd (fun _ => 0) 1 r2.1) r2.2) (fun r3 => x_GV k d 1 7 L r3.2)))) := rfl
theorem e_bounds_7 (k d : Nat) (L : Nat → Int32) (σ : MS) : x_GV (k + 1) d 1 7 L σ = (some (0, σ)) := rfl
theorem e_callFunc_0 (k d : Nat) (L : Nat → Int32) (σ : MS) : x_GV (k + 1) d 2 0 L σ = (if ¬ (((L 1)) < 0 ∨ 70000 ≤ ((L 1)).toNatClampNeg) then (x_GV k d 2 1 (upd (upd L 2 ((σ.1 59))) 3 ((σ.2.2 6 ((L 1)).toNatClampNeg))) σ) else none) := rfl
theorem e_callFunc_1 (k d : Nat) (L : Nat → Int32) (σ : MS) : x_GV (k + 1) d 2 1 L σ = (if ((L 3)) = ((-1)) then (x_GV k d 2 2 L σ) else (if ((σ.1 56)) = 0 then (od d (fun e3 => ob (x_GV k e3 4 0 (upd (fun _ => 0) 1 ((L 3))) σ) (fun r3 => if ¬ (((L 3)) < 0 ∨ 70000 ≤ ((L 3)).toNatClampNeg) then (x_GV k d 2 1 (upd L 3 ((r3.2.2.2 9 ((L 3)).toNatClampNeg))) r3.2) else none))) else (x_GV k d 2 2 L σ))) := rfl
theorem e_callFunc_2 (k d : Nat) (L : Nat → Int32) (σ : MS) : x_GV (k + 1) d 2 2 L σ = (if ((σ.1 56)) ≤ 0 then (x_GV k d 2 3 L σ) else (some (0, σ))) := rfl
theorem e_callFunc_3 (k d : Nat) (L : Nat → Int32) (σ : MS) : x_GV (k + 1) d 2 3 L σ = (if ((σ.1 67)) = 20 then (x_GV k d 2 4 L σ) else (if ¬ (((L 1)) < 0 ∨ 70000 ≤ ((L 1)).toNatClampNeg) then (if ((((σ.1 97)) + ((σ.2.2 8 ((L 1)).toNatClampNeg)))) ≤ 60 then (x_GV k d 2 5 L σ) else (x_GV k d 2 4 L σ)) else none)) := rfl
theorem e_callFunc_4 (k d : Nat) (L : Nat → Int32) (σ : MS) : x_GV (k + 1) d 2 4 L σ = (ob (x_fail k 0 (upd (fun _ => 0) 1 7) σ) (fun r1 => some (0, r1.2))) := rfl
theorem e_callFunc_5 (k d : Nat) (L : Nat → Int32) (σ : MS) : x_GV (k + 1) d 2 5 L σ = (ob (x_sweep k 0 (upd (fun _ => 0) 1 780000) σ) (fun r1 => if ¬ (((L 1)) < 0 ∨ 70000 ≤ ((L 1)).toNatClampNeg) then (x_GV k d 2 6 (upd (upd (upd L 3 ((r1.2.2.2 5 ((L 1)).toNatClampNeg))) 4 ((r1.2.1 68))) 5 ((r1.2.1 69))) (upd r1.2.1 67 ((((r1.2.1 67)) + 1)), r1.2.2.1, r1.2.2.2)) else none)) := rfl
theorem e_callFunc_6 (k d : Nat) (L : Nat → Int32) (σ : MS) : x_GV (k + 1) d 2 6 L σ = (if ¬ (((L 1)) < 0 ∨ 70000 ≤ ((L 1)).toNatClampNeg) then (x_GV k d 2 7 L (upd σ.1 97 ((((σ.1 97)) + ((σ.2.2 8 ((L 1)).toNatClampNeg)))), σ.2.1, σ.2.2)) else none) := rfl
theorem e_callFunc_7 (k d : Nat) (L : Nat → Int32) (σ : MS) : x_GV (k + 1) d 2 7 L σ = (x_GV k d 2 8 L (upd σ.1 68 ((60 * ((1 + ((σ.1 67)))))), σ.2.1, σ.2.2)) := rfl
theorem e_callFunc_8 (k d : Nat) (L : Nat → Int32) (σ : MS) : x_GV (k + 1) d 2 8 L σ = (x_GV k d 2 9 L (upd σ.1 69 1, σ.2.1, σ.2.2)) := rfl
theorem e_callFunc_9 (k d : Nat) (L : Nat → Int32) (σ : MS) : x_GV (k + 1) d 2 9 L σ = (x_GV k d 2 10 (upd L 6 0) σ) := rfl
theorem e_callFunc_10 (k d : Nat) (L : Nat → Int32) (σ : MS) : x_GV (k + 1) d 2 10 L σ = (if 60 ≤ ((L 6)) then (x_GV k d 2 14 L σ) else (if ¬ (((L 3)) < 0 ∨ 41 ≤ ((L 3)).toNatClampNeg) then (if ((σ.2.2 18 ((L 3)).toNatClampNeg)) ≤ ((L 6)) then (x_GV k d 2 11 (upd L 100 ((((σ.1 68)) + ((L 6))))) σ) else (if ¬ (((((L 2)) + ((L 6)))) < 0 ∨ 185000 ≤ ((((L 2)) + ((L 6)))).toNatClampNeg) then (x_GV k d 2 12 (upd (upd L 100 ((σ.2.2 29 ((((L 2)) + ((L 6)))).toNatClampNeg))) 101 ((((σ.1 68)) + ((L 6))))) σ) else none)) else none)) := rfl
theorem e_callFunc_11 (k d : Nat) (L : Nat → Int32) (σ : MS) : x_GV (k + 1) d 2 11 L σ = (x_GV k d 2 12 (upd (upd L 100 0) 101 ((L 100))) σ) := rfl
theorem e_callFunc_12 (k d : Nat) (L : Nat → Int32) (σ : MS) : x_GV (k + 1) d 2 12 L σ = (if ¬ (((L 101)) < 0 ∨ 1380 ≤ ((L 101)).toNatClampNeg) then (x_GV k d 2 13 L (σ.1, σ.2.1, updG σ.2.2 33 (upd (σ.2.2 33) ((L 101)).toNatClampNeg ((L 100))))) else none) := rfl
theorem e_callFunc_13 (k d : Nat) (L : Nat → Int32) (σ : MS) : x_GV (k + 1) d 2 13 L σ = (x_GV k d 2 10 (upd L 6 (((L 6)) + 1)) σ) := rfl
theorem e_callFunc_14 (k d : Nat) (L : Nat → Int32) (σ : MS) : x_GV (k + 1) d 2 14 L σ = (x_GV k d 2 15 L (upd σ.1 59 ((L 2)), σ.2.1, σ.2.2)) := rfl
theorem e_callFunc_15 (k d : Nat) (L : Nat → Int32) (σ : MS) : x_GV (k + 1) d 2 15 L σ = (if ¬ (((L 3)) < 0 ∨ 41 ≤ ((L 3)).toNatClampNeg) then (od d (fun e2 => ob (x_GV k e2 4 0 (upd (fun _ => 0) 1 ((σ.2.2 17 ((L 3)).toNatClampNeg))) σ) (fun r2 => x_GV k d 2 16 (upd L 6 0) r2.2))) else none) := rfl
theorem e_callFunc_16 (k d : Nat) (L : Nat → Int32) (σ : MS) : x_GV (k + 1) d 2 16 L σ = (if 60 ≤ ((L 6)) then (x_GV k d 2 18 L σ) else (if ¬ (((((σ.1 68)) + ((L 6)))) < 0 ∨ 1380 ≤ ((((σ.1 68)) + ((L 6)))).toNatClampNeg) then (x_GV k d 2 17 L (σ.1, σ.2.1, updG σ.2.2 33 (upd (σ.2.2 33) ((((σ.1 68)) + ((L 6)))).toNatClampNeg 0))) else none)) := rfl
theorem e_callFunc_17 (k d : Nat) (L : Nat → Int32) (σ : MS) : x_GV (k + 1) d 2 17 L σ = (x_GV k d 2 16 (upd L 6 (((L 6)) + 1)) σ) := rfl
theorem e_callFunc_18 (k d : Nat) (L : Nat → Int32) (σ : MS) : x_GV (k + 1) d 2 18 L σ = (x_GV k d 2 19 L (upd σ.1 67 ((((σ.1 67)) - 1)), σ.2.1, σ.2.2)) := rfl
theorem e_callFunc_19 (k d : Nat) (L : Nat → Int32) (σ : MS) : x_GV (k + 1) d 2 19 L σ = (if ¬ (((L 1)) < 0 ∨ 70000 ≤ ((L 1)).toNatClampNeg) then (x_GV k d 2 20 L (upd σ.1 97 ((((σ.1 97)) - ((σ.2.2 8 ((L 1)).toNatClampNeg)))), σ.2.1, σ.2.2)) else none) := rfl
theorem e_callFunc_20 (k d : Nat) (L : Nat → Int32) (σ : MS) : x_GV (k + 1) d 2 20 L σ = (x_GV k d 2 21 L (upd σ.1 68 ((L 4)), σ.2.1, σ.2.2)) := rfl
theorem e_callFunc_21 (k d : Nat) (L : Nat → Int32) (σ : MS) : x_GV (k + 1) d 2 21 L σ = (if ((L 5)) = 0 ∨ ((L 5)) = 1 then (x_GV k d 2 22 L (upd σ.1 69 ((L 5)), σ.2.1, σ.2.2)) else none) := rfl
theorem e_callFunc_22 (k d : Nat) (L : Nat → Int32) (σ : MS) : x_GV (k + 1) d 2 22 L σ = (if ((σ.1 56)) = 0 then (if ¬ (((((σ.1 59)) - 1)) < 0 ∨ 185000 ≤ ((((σ.1 59)) - 1)).toNatClampNeg) then (ob (x_answer k 0 (upd (fun _ => 0) 1 ((σ.2.2 29 ((((σ.1 59)) - 1)).toNatClampNeg))) σ) (fun r3 => x_GV k d 2 23 L r3.2)) else none) else (x_GV k d 2 23 L σ)) := rfl
theorem e_callFunc_23 (k d : Nat) (L : Nat → Int32) (σ : MS) : x_GV (k + 1) d 2 23 L σ = (some (0, σ)) := rfl
theorem e_choose_0 (k d : Nat) (L : Nat → Int32) (σ : MS) : x_GV (k + 1) d 3 0 L σ = (if ¬ (((L 1)) < 0 ∨ 70000 ≤ ((L 1)).toNatClampNeg) then (x_GV k d 3 1 (upd (upd L 2 ((σ.2.2 6 ((L 1)).toNatClampNeg))) 3 1) σ) else none) := rfl
theorem e_choose_1 (k d : Nat) (L : Nat → Int32) (σ : MS) : x_GV (k + 1) d 3 1 L σ = (if ((L 3)) = 0 then (x_GV k d 3 4 L σ) else (if ((σ.1 56)) = 0 then (if ¬ (((L 2)) < 0 ∨ 70000 ≤ ((L 2)).toNatClampNeg) then (if ((σ.2.2 5 ((L 2)).toNatClampNeg)) = ((-1)) then (x_GV k d 3 2 L σ) else (if ¬ (((L 2)) < 0 ∨ 70000 ≤ ((L 2)).toNatClampNeg) then (od d (fun e6 => ob (x_GV k e6 8 0 (upd (fun _ => 0) 1 ((σ.2.2 5 ((L 2)).toNatClampNeg))) σ) (fun r6 => if r6.1 = 0 then (x_GV k d 3 3 L r6.2) else (x_GV k d 3 2 L r6.2)))) else none)) else none) else (x_GV k d 3 4 L σ))) := rfl
theorem e_choose_2 (k d : Nat) (L : Nat → Int32) (σ : MS) : x_GV (k + 1) d 3 2 L σ = (x_GV k d 3 1 (upd L 3 0) σ) := rfl
theorem e_choose_3 (k d : Nat) (L : Nat → Int32) (σ : MS) : x_GV (k + 1) d 3 3 L σ = (if ¬ (((L 2)) < 0 ∨ 70000 ≤ ((L 2)).toNatClampNeg) then (x_GV k d 3 1 (upd L 2 ((σ.2.2 9 ((L 2)).toNatClampNeg))) σ) else none) := rfl
theorem e_choose_4 (k d : Nat) (L : Nat → Int32) (σ : MS) : x_GV (k + 1) d 3 4 L σ = (if ((σ.1 56)) = 0 then (if ¬ (((L 2)) < 0 ∨ 70000 ≤ ((L 2)).toNatClampNeg) then (od d (fun e3 => ob (x_GV k e3 4 0 (upd (fun _ => 0) 1 ((σ.2.2 6 ((L 2)).toNatClampNeg))) σ) (fun r3 => x_GV k d 3 5 L r3.2))) else none) else (x_GV k d 3 5 L σ)) := rfl
theorem e_choose_5 (k d : Nat) (L : Nat → Int32) (σ : MS) : x_GV (k + 1) d 3 5 L σ = (some (0, σ)) := rfl
theorem e_eval_0 (k d : Nat) (L : Nat → Int32) (σ : MS) : x_GV (k + 1) d 4 0 L σ = (x_GV k d 4 1 (upd L 2 ((L 1))) σ) := rfl
theorem e_eval_1 (k d : Nat) (L : Nat → Int32) (σ : MS) : x_GV (k + 1) d 4 1 L σ = (if ¬ (((L 2)) < 0 ∨ 70000 ≤ ((L 2)).toNatClampNeg) then (ob (x_isOver k 0 (upd (fun _ => 0) 0 ((σ.2.2 4 ((L 2)).toNatClampNeg))) σ) (fun r2 => if r2.1 = 0 then (x_GV k d 4 2 L r2.2) else (if ¬ (((L 2)) < 0 ∨ 70000 ≤ ((L 2)).toNatClampNeg) then (x_GV k d 4 1 (upd L 2 ((r2.2.2.2 6 ((L 2)).toNatClampNeg))) r2.2) else none))) else none) := rfl
theorem e_eval_2 (k d : Nat) (L : Nat → Int32) (σ : MS) : x_GV (k + 1) d 4 2 L σ = (od d (fun e1 => ob (x_GV k e1 0 0 (upd (fun _ => 0) 1 ((L 2))) σ) (fun r1 => x_GV k d 4 3 L r1.2))) := rfl
theorem e_eval_3 (k d : Nat) (L : Nat → Int32) (σ : MS) : x_GV (k + 1) d 4 3 L σ = (if ((L 2)) = ((L 1)) then (x_GV k d 4 4 L σ) else (if ((σ.1 56)) = 0 then (if ¬ (((L 2)) < 0 ∨ 70000 ≤ ((L 2)).toNatClampNeg) then (od d (fun e4 => ob (x_GV k e4 7 0 (upd (fun _ => 0) 1 ((σ.2.2 9 ((L 2)).toNatClampNeg))) σ) (fun r4 => x_GV k d 4 3 (upd L 2 ((σ.2.2 9 ((L 2)).toNatClampNeg))) r4.2))) else none) else (x_GV k d 4 4 L σ))) := rfl
theorem e_eval_4 (k d : Nat) (L : Nat → Int32) (σ : MS) : x_GV (k + 1) d 4 4 L σ = (some (0, σ)) := rfl
theorem e_former_0 (k d : Nat) (L : Nat → Int32) (σ : MS) : x_GV (k + 1) d 5 0 L σ = (if ¬ (((L 1)) < 0 ∨ 70000 ≤ ((L 1)).toNatClampNeg) then (od d (fun e2 => ob (x_GV k e2 6 0 (upd (upd (upd (fun _ => 0) 1 ((σ.1 72))) 2 ((σ.2.2 6 ((L 1)).toNatClampNeg))) 3 1) σ) (fun r2 => x_GV k d 5 1 (upd (upd (upd L 2 ((σ.1 59))) 3 ((σ.1 72))) 4 r2.1) r2.2))) else none) := rfl
theorem e_former_1 (k d : Nat) (L : Nat → Int32) (σ : MS) : x_GV (k + 1) d 5 1 L σ = (if ((L 4)) = 0 then (x_GV k d 5 6 L σ) else (if ((σ.1 56)) = 0 then (if ¬ (((L 1)) < 0 ∨ 70000 ≤ ((L 1)).toNatClampNeg) then (if ((σ.2.2 7 ((L 1)).toNatClampNeg)) = ((-1)) then (x_GV k d 5 2 L σ) else (if ¬ (((L 1)) < 0 ∨ 70000 ≤ ((L 1)).toNatClampNeg) then (od d (fun e6 => ob (x_GV k e6 8 0 (upd (fun _ => 0) 1 ((σ.2.2 7 ((L 1)).toNatClampNeg))) σ) (fun r6 => if r6.1 = 0 then (x_GV k d 5 3 L r6.2) else (x_GV k d 5 2 L r6.2)))) else none)) else none) else (x_GV k d 5 6 L σ))) := rfl
theorem e_former_2 (k d : Nat) (L : Nat → Int32) (σ : MS) : x_GV (k + 1) d 5 2 L σ = (if ¬ (((L 1)) < 0 ∨ 70000 ≤ ((L 1)).toNatClampNeg) then (od d (fun e2 => ob (x_GV k e2 4 0 (upd (fun _ => 0) 1 ((σ.2.2 8 ((L 1)).toNatClampNeg))) σ) (fun r2 => if ((r2.2.1 56)) = 0 then (if ¬ (((L 1)) < 0 ∨ 70000 ≤ ((L 1)).toNatClampNeg) then (if ((r2.2.2.2 5 ((L 1)).toNatClampNeg)) = 1 then (if ¬ (((((r2.2.1 59)) - 1)) < 0 ∨ 185000 ≤ ((((r2.2.1 59)) - 1)).toNatClampNeg) then (if ((r2.2.2.2 29 ((((r2.2.1 59)) - 1)).toNatClampNeg)) = 0 then (ob (x_fail k 0 (upd (fun _ => 0) 1 3) r2.2) (fun r8 => x_GV k d 5 3 L r8.2)) else (x_GV k d 5 3 L r2.2)) else none) else (x_GV k d 5 3 L r2.2)) else none) else (x_GV k d 5 3 L r2.2)))) else none) := rfl
theorem e_former_3 (k d : Nat) (L : Nat → Int32) (σ : MS) : x_GV (k + 1) d 5 3 L σ = (if ((σ.1 56)) = 0 then (if ¬ (((L 1)) < 0 ∨ 70000 ≤ ((L 1)).toNatClampNeg) then (od d (fun e3 => ob (x_GV k e3 6 0 (upd (upd (upd (fun _ => 0) 1 ((L 3))) 2 ((σ.2.2 6 ((L 1)).toNatClampNeg))) 3 0) σ) (fun r3 => if r3.1 = 0 then (x_GV k d 5 4 L r3.2) else (x_GV k d 5 5 (upd L 100 1) r3.2)))) else none) else (x_GV k d 5 4 L σ)) := rfl
theorem e_former_4 (k d : Nat) (L : Nat → Int32) (σ : MS) : x_GV (k + 1) d 5 4 L σ = (x_GV k d 5 5 (upd L 100 0) σ) := rfl
theorem e_former_5 (k d : Nat) (L : Nat → Int32) (σ : MS) : x_GV (k + 1) d 5 5 L σ = (x_GV k d 5 1 (upd L 4 ((L 100))) σ) := rfl
theorem e_former_6 (k d : Nat) (L : Nat → Int32) (σ : MS) : x_GV (k + 1) d 5 6 L σ = (x_GV k d 5 7 L (upd σ.1 72 ((L 3)), σ.2.1, σ.2.2)) := rfl
theorem e_former_7 (k d : Nat) (L : Nat → Int32) (σ : MS) : x_GV (k + 1) d 5 7 L σ = (if ¬ (((L 1)) < 0 ∨ 70000 ≤ ((L 1)).toNatClampNeg) then (ob (x_clear k 0 (upd (fun _ => 0) 1 ((σ.2.2 6 ((L 1)).toNatClampNeg))) σ) (fun r2 => if ((r2.2.1 56)) = 0 then (if ¬ (((L 1)) < 0 ∨ 70000 ≤ ((L 1)).toNatClampNeg) then (if ((r2.2.2.2 5 ((L 1)).toNatClampNeg)) = 1 then (ob (x_setOf k 0 (upd (fun _ => 0) 1 ((L 2))) r2.2) (fun r6 => x_GV k d 5 9 (upd L 100 r6.1) r6.2)) else (x_GV k d 5 8 L r2.2)) else none) else (x_GV k d 5 10 L r2.2))) else none) := rfl
theorem e_former_8 (k d : Nat) (L : Nat → Int32) (σ : MS) : x_GV (k + 1) d 5 8 L σ = (ob (x_tupleOf k 0 (upd (fun _ => 0) 1 ((L 2))) σ) (fun r1 => x_GV k d 5 9 (upd L 100 r1.1) r1.2)) := rfl
theorem e_former_9 (k d : Nat) (L : Nat → Int32) (σ : MS) : x_GV (k + 1) d 5 9 L σ = (ob (x_answer k 0 (upd (fun _ => 0) 1 ((L 100))) σ) (fun r1 => ob (x_push k 0 (upd (fun _ => 0) 1 r1.1) r1.2) (fun r2 => x_GV k d 5 10 L r2.2))) := rfl
theorem e_former_10 (k d : Nat) (L : Nat → Int32) (σ : MS) : x_GV (k + 1) d 5 10 L σ = (some (0, σ)) := rfl
theorem e_goOn_0 (k d : Nat) (L : Nat → Int32) (σ : MS) : x_GV (k + 1) d 6 0 L σ = (x_GV k d 6 1 (upd L 4 ((L 3))) σ) := rfl
theorem e_goOn_1 (k d : Nat) (L : Nat → Int32) (σ : MS) : x_GV (k + 1) d 6 1 L σ = (if ((σ.1 56)) = 0 then (ob (x_sweep k 0 (upd (fun _ => 0) 1 780000) σ) (fun r2 => if ((L 4)) = 0 then (x_GV k d 6 6 L r2.2) else (if ((r2.2.1 72)) = ((L 1)) then (x_GV k d 6 3 (upd L 100 ((L 2))) r2.2) else (x_GV k d 6 2 L r2.2)))) else (x_GV k d 6 9 L σ)) := rfl
theorem e_goOn_2 (k d : Nat) (L : Nat → Int32) (σ : MS) : x_GV (k + 1) d 6 2 L σ = (if ¬ (((((σ.1 72)) - 1)) < 0 ∨ 4000 ≤ ((((σ.1 72)) - 1)).toNatClampNeg) then (if ¬ (((σ.2.2 50 ((((σ.1 72)) - 1)).toNatClampNeg)) < 0 ∨ 70000 ≤ ((σ.2.2 50 ((((σ.1 72)) - 1)).toNatClampNeg)).toNatClampNeg) then (x_GV k d 6 3 (upd L 100 ((σ.2.2 9 ((σ.2.2 50 ((((σ.1 72)) - 1)).toNatClampNeg)).toNatClampNeg))) σ) else none) else none) := rfl
theorem e_goOn_3 (k d : Nat) (L : Nat → Int32) (σ : MS) : x_GV (k + 1) d 6 3 L σ = (if ((L 100)) = ((-1)) then (some (1, σ)) else (x_GV k d 6 4 (upd L 5 ((L 100))) σ)) := rfl
theorem e_goOn_4 (k d : Nat) (L : Nat → Int32) (σ : MS) : x_GV (k + 1) d 6 4 L σ = (od d (fun e1 => ob (x_GV k e1 9 0 (upd (fun _ => 0) 1 ((L 5))) σ) (fun r1 => if ((r1.2.1 56)) ≤ 0 then (x_GV k d 6 5 L r1.2) else (some (0, r1.2))))) := rfl
theorem e_goOn_5 (k d : Nat) (L : Nat → Int32) (σ : MS) : x_GV (k + 1) d 6 5 L σ = (if ¬ (((((σ.1 72)) - 1)) < 0 ∨ 4000 ≤ ((((σ.1 72)) - 1)).toNatClampNeg) then (x_GV k d 6 7 L (σ.1, σ.2.1, updG σ.2.2 50 (upd (σ.2.2 50) ((((σ.1 72)) - 1)).toNatClampNeg ((L 5))))) else none) := rfl
theorem e_goOn_6 (k d : Nat) (L : Nat → Int32) (σ : MS) : x_GV (k + 1) d 6 6 L σ = (if ((σ.1 72)) = ((L 1)) then (some (0, σ)) else (x_GV k d 6 7 L σ)) := rfl
theorem e_goOn_7 (k d : Nat) (L : Nat → Int32) (σ : MS) : x_GV (k + 1) d 6 7 L σ = (if ¬ (((((σ.1 72)) - 1)) < 0 ∨ 4000 ≤ ((((σ.1 72)) - 1)).toNatClampNeg) then (ob (x_stepIter k 0 (upd (fun _ => 0) 1 ((σ.2.2 50 ((((σ.1 72)) - 1)).toNatClampNeg))) σ) (fun r2 => if r2.1 = 0 then (if ((r2.2.1 56)) = 0 then (x_GV k d 6 8 (upd L 4 r2.1) (upd r2.2.1 72 ((((r2.2.1 72)) - 1)), r2.2.2.1, r2.2.2.2)) else (x_GV k d 6 8 (upd L 4 r2.1) r2.2)) else (x_GV k d 6 8 (upd L 4 r2.1) r2.2))) else none) := rfl
theorem e_goOn_8 (k d : Nat) (L : Nat → Int32) (σ : MS) : x_GV (k + 1) d 6 8 L σ = (if ((L 4)) = 0 then (x_GV k d 6 1 L σ) else (if ¬ (((((σ.1 72)) - 1)) < 0 ∨ 4000 ≤ ((((σ.1 72)) - 1)).toNatClampNeg) then (if ¬ (((σ.2.2 50 ((((σ.1 72)) - 1)).toNatClampNeg)) < 0 ∨ 70000 ≤ ((σ.2.2 50 ((((σ.1 72)) - 1)).toNatClampNeg)).toNatClampNeg) then (if ((σ.2.2 9 ((σ.2.2 50 ((((σ.1 72)) - 1)).toNatClampNeg)).toNatClampNeg)) = ((-1)) then (some (1, σ)) else (x_GV k d 6 1 L σ)) else none) else none)) := rfl
theorem e_goOn_9 (k d : Nat) (L : Nat → Int32) (σ : MS) : x_GV (k + 1) d 6 9 L σ = (some (0, σ)) := rfl
theorem e_goesOn_0 (k d : Nat) (L : Nat → Int32) (σ : MS) : x_GV (k + 1) d 7 0 L σ = (if ¬ (((L 1)) < 0 ∨ 70000 ≤ ((L 1)).toNatClampNeg) then (if ((σ.2.2 4 ((L 1)).toNatClampNeg)) = 26 then (some (0, σ)) else (x_GV k d 7 1 (upd L 2 ((σ.2.2 4 ((L 1)).toNatClampNeg))) σ)) else none) := rfl
theorem e_goesOn_1 (k d : Nat) (L : Nat → Int32) (σ : MS) : x_GV (k + 1) d 7 1 L σ = (if ((L 2)) = 24 then (x_GV k d 7 2 L σ) else (if ((L 2)) = 25 then (x_GV k d 7 2 L σ) else (x_GV k d 7 8 L σ))) := rfl
theorem e_goesOn_2 (k d : Nat) (L : Nat → Int32) (σ : MS) : x_GV (k + 1) d 7 2 L σ = (ob (x_isTrue k 0 (fun _ => 0) σ) (fun r1 => if ((r1.2.1 56)) = 0 then (if ((L 2)) = 24 then (x_GV k d 7 4 (upd (upd (upd L 3 r1.1) 100 1) 101 r1.1) r1.2) else (x_GV k d 7 3 (upd (upd L 3 r1.1) 100 r1.1) r1.2)) else (x_GV k d 7 7 (upd L 3 r1.1) r1.2))) := rfl
theorem e_goesOn_3 (k d : Nat) (L : Nat → Int32) (σ : MS) : x_GV (k + 1) d 7 3 L σ = (x_GV k d 7 4 (upd (upd L 100 0) 101 ((L 100))) σ) := rfl
theorem e_goesOn_4 (k d : Nat) (L : Nat → Int32) (σ : MS) : x_GV (k + 1) d 7 4 L σ = (if ((L 101)) = ((L 100)) then (if ¬ (((L 1)) < 0 ∨ 70000 ≤ ((L 1)).toNatClampNeg) then (od d (fun e3 => ob (x_GV k e3 4 0 (upd (fun _ => 0) 1 ((σ.2.2 7 ((L 1)).toNatClampNeg))) σ) (fun r3 => if ((r3.2.1 56)) = 0 then (ob (x_isTrue k 0 (fun _ => 0) r3.2) (fun r5 => if r5.1 = 0 then (x_GV k d 7 5 L r5.2) else (x_GV k d 7 6 (upd L 100 1) r5.2))) else (x_GV k d 7 5 L r3.2)))) else none) else (x_GV k d 7 7 L σ)) := rfl
theorem e_goesOn_5 (k d : Nat) (L : Nat → Int32) (σ : MS) : x_GV (k + 1) d 7 5 L σ = (x_GV k d 7 6 (upd L 100 0) σ) := rfl
theorem e_goesOn_6 (k d : Nat) (L : Nat → Int32) (σ : MS) : x_GV (k + 1) d 7 6 L σ = (x_GV k d 7 7 (upd L 3 ((L 100))) σ) := rfl
theorem e_goesOn_7 (k d : Nat) (L : Nat → Int32) (σ : MS) : x_GV (k + 1) d 7 7 L σ = (ob (x_truth k 0 (upd (fun _ => 0) 1 ((L 3))) σ) (fun r1 => ob (x_answer k 0 (upd (fun _ => 0) 1 r1.1) r1.2) (fun r2 => ob (x_push k 0 (upd (fun _ => 0) 1 r2.1) r2.2) (fun r3 => some (0, r3.2))))) := rfl
theorem e_goesOn_8 (k d : Nat) (L : Nat → Int32) (σ : MS) : x_GV (k + 1) d 7 8 L σ = (if ¬ (((L 1)) < 0 ∨ 70000 ≤ ((L 1)).toNatClampNeg) then (od d (fun e2 => ob (x_GV k e2 4 0 (upd (fun _ => 0) 1 ((σ.2.2 7 ((L 1)).toNatClampNeg))) σ) (fun r2 => if ((L 2)) = 22 then (if ((r2.2.1 56)) = 0 then (if ¬ (((L 1)) < 0 ∨ 70000 ≤ ((L 1)).toNatClampNeg) then (od d (fun e6 => ob (x_GV k e6 4 0 (upd (fun _ => 0) 1 ((r2.2.2.2 8 ((L 1)).toNatClampNeg))) r2.2) (fun r6 => x_GV k d 7 9 L r6.2))) else none) else (x_GV k d 7 9 L r2.2)) else (x_GV k d 7 9 L r2.2)))) else none) := rfl
theorem e_goesOn_9 (k d : Nat) (L : Nat → Int32) (σ : MS) : x_GV (k + 1) d 7 9 L σ = (if ((σ.1 56)) ≤ 0 then (x_GV k d 7 10 L σ) else (some (0, σ))) := rfl
theorem e_goesOn_10 (k d : Nat) (L : Nat → Int32) (σ : MS) : x_GV (k + 1) d 7 10 L σ = (ob (x_sweep k 0 (upd (fun _ => 0) 1 780000) σ) (fun r1 => if ((L 2)) = 22 then (x_GV k d 7 12 (upd (upd L 100 3) 101 ((r1.2.1 59))) r1.2) else (x_GV k d 7 11 (upd L 100 ((r1.2.1 59))) r1.2))) := rfl
theorem e_goesOn_11 (k d : Nat) (L : Nat → Int32) (σ : MS) : x_GV (k + 1) d 7 11 L σ = (x_GV k d 7 12 (upd (upd L 100 2) 101 ((L 100))) σ) := rfl
theorem e_goesOn_12 (k d : Nat) (L : Nat → Int32) (σ : MS) : x_GV (k + 1) d 7 12 L σ = (x_GV k d 7 13 L (upd σ.1 59 ((((L 101)) - ((L 100)))), σ.2.1, σ.2.2)) := rfl
theorem e_goesOn_13 (k d : Nat) (L : Nat → Int32) (σ : MS) : x_GV (k + 1) d 7 13 L σ = (if ¬ (((σ.1 59)) < 0 ∨ 185000 ≤ ((σ.1 59)).toNatClampNeg) then (if ¬ (((((σ.1 59)) + 1)) < 0 ∨ 185000 ≤ ((((σ.1 59)) + 1)).toNatClampNeg) then (if ((L 2)) = (21 : Int32) then (x_GV k d 7 15 (upd (upd (upd L 3 ((σ.2.2 29 ((σ.1 59)).toNatClampNeg))) 4 ((σ.2.2 29 ((((σ.1 59)) + 1)).toNatClampNeg))) 5 0) σ) else (if ((L 2)) = (22 : Int32) then (x_GV k d 7 14 (upd (upd (upd L 3 ((σ.2.2 29 ((σ.1 59)).toNatClampNeg))) 4 ((σ.2.2 29 ((((σ.1 59)) + 1)).toNatClampNeg))) 5 0) σ) else (if ((L 2)) = (23 : Int32) then (x_GV k d 7 16 (upd (upd (upd L 3 ((σ.2.2 29 ((σ.1 59)).toNatClampNeg))) 4 ((σ.2.2 29 ((((σ.1 59)) + 1)).toNatClampNeg))) 5 0) σ) else (x_GV k d 7 17 (upd (upd (upd L 3 ((σ.2.2 29 ((σ.1 59)).toNatClampNeg))) 4 ((σ.2.2 29 ((((σ.1 59)) + 1)).toNatClampNeg))) 5 0) σ)))) else none) else none) := rfl
theorem e_goesOn_14 (k d : Nat) (L : Nat → Int32) (σ : MS) : x_GV (k + 1) d 7 14 L σ = (if ¬ (((((σ.1 59)) + 2)) < 0 ∨ 185000 ≤ ((((σ.1 59)) + 2)).toNatClampNeg) then (ob (x_slice k 0 (upd (upd (upd (fun _ => 0) 1 ((L 3))) 2 ((L 4))) 3 ((σ.2.2 29 ((((σ.1 59)) + 2)).toNatClampNeg))) σ) (fun r2 => x_GV k d 7 18 (upd L 5 r2.1) r2.2)) else none) := rfl
theorem e_goesOn_15 (k d : Nat) (L : Nat → Int32) (σ : MS) : x_GV (k + 1) d 7 15 L σ = (ob (x_partAt k 0 (upd (upd (fun _ => 0) 1 ((L 3))) 2 ((L 4))) σ) (fun r1 => x_GV k d 7 18 (upd L 5 r1.1) r1.2)) := rfl
theorem e_goesOn_16 (k d : Nat) (L : Nat → Int32) (σ : MS) : x_GV (k + 1) d 7 16 L σ = (ob (x_image k 0 (upd (upd (fun _ => 0) 1 ((L 3))) 2 ((L 4))) σ) (fun r1 => x_GV k d 7 18 (upd L 5 r1.1) r1.2)) := rfl
theorem e_goesOn_17 (k d : Nat) (L : Nat → Int32) (σ : MS) : x_GV (k + 1) d 7 17 L σ = (if ¬ (((L 1)) < 0 ∨ 70000 ≤ ((L 1)).toNatClampNeg) then (ob (x_operate k 0 (upd (upd (upd (fun _ => 0) 1 ((σ.2.2 5 ((L 1)).toNatClampNeg))) 2 ((L 3))) 3 ((L 4))) σ) (fun r2 => x_GV k d 7 18 (upd L 5 r2.1) r2.2)) else none) := rfl
theorem e_goesOn_18 (k d : Nat) (L : Nat → Int32) (σ : MS) : x_GV (k + 1) d 7 18 L σ = (ob (x_answer k 0 (upd (fun _ => 0) 1 ((L 5))) σ) (fun r1 => ob (x_push k 0 (upd (fun _ => 0) 1 r1.1) r1.2) (fun r2 => some (0, r2.2)))) := rfl
theorem e_holds_0 (k d : Nat) (L : Nat → Int32) (σ : MS) : x_GV (k + 1) d 8 0 L σ = (od d (fun e1 => ob (x_GV k e1 4 0 (upd (fun _ => 0) 1 ((L 1))) σ) (fun r1 => if ((r1.2.1 56)) = 0 then (ob (x_isTrue k 0 (fun _ => 0) r1.2) (fun r3 => if r3.1 = 0 then (x_GV k d 8 1 L r3.2) else (x_GV k d 8 2 (upd L 100 1) r3.2))) else (x_GV k d 8 1 L r1.2)))) := rfl
theorem e_holds_1 (k d : Nat) (L : Nat → Int32) (σ : MS) : x_GV (k + 1) d 8 1 L σ = (x_GV k d 8 2 (upd L 100 0) σ) := rfl
theorem e_holds_2 (k d : Nat) (L : Nat → Int32) (σ : MS) : x_GV (k + 1) d 8 2 L σ = (if ((L 100)) = 0 ∨ ((L 100)) = 1 then some ((L 100), σ) else none) := rfl
theorem e_openIter_0 (k d : Nat) (L : Nat → Int32) (σ : MS) : x_GV (k + 1) d 9 0 L σ = (if ¬ (((L 1)) < 0 ∨ 70000 ≤ ((L 1)).toNatClampNeg) then (od d (fun e2 => ob (x_GV k e2 4 0 (upd (fun _ => 0) 1 ((σ.2.2 7 ((L 1)).toNatClampNeg))) σ) (fun r2 => if ((r2.2.1 56)) ≤ 0 then (x_GV k d 9 1 L r2.2) else (some (0, r2.2))))) else none) := rfl
theorem e_openIter_1 (k d : Nat) (L : Nat → Int32) (σ : MS) : x_GV (k + 1) d 9 1 L σ = (ob (x_pop k 0 (fun _ => 0) σ) (fun r1 => ob (x_isRow k 0 (upd (fun _ => 0) 1 r1.1) r1.2) (fun r2 => if r2.1 = 0 then (ob (x_fail k 0 (upd (fun _ => 0) 1 1) r2.2) (fun r4 => some (0, r4.2))) else (x_GV k d 9 2 (upd L 2 r1.1) r2.2)))) := rfl
theorem e_openIter_2 (k d : Nat) (L : Nat → Int32) (σ : MS) : x_GV (k + 1) d 9 2 L σ = (if ¬ (((σ.1 72)) < 0 ∨ 4000 ≤ ((σ.1 72)).toNatClampNeg) then (x_GV k d 9 3 L (σ.1, σ.2.1, updG σ.2.2 34 (upd (σ.2.2 34) ((σ.1 72)).toNatClampNeg ((L 2))))) else none) := rfl
theorem e_openIter_3 (k d : Nat) (L : Nat → Int32) (σ : MS) : x_GV (k + 1) d 9 3 L σ = (if ¬ (((σ.1 72)) < 0 ∨ 4000 ≤ ((σ.1 72)).toNatClampNeg) then (x_GV k d 9 4 L (σ.1, σ.2.1, updG σ.2.2 35 (upd (σ.2.2 35) ((σ.1 72)).toNatClampNeg 0))) else none) := rfl
theorem e_openIter_4 (k d : Nat) (L : Nat → Int32) (σ : MS) : x_GV (k + 1) d 9 4 L σ = (some (0, (upd σ.1 72 ((((σ.1 72)) + 1)), σ.2.1, σ.2.2))) := rfl
theorem e_quantify_0 (k d : Nat) (L : Nat → Int32) (σ : MS) : x_GV (k + 1) d 10 0 L σ = (if ¬ (((L 1)) < 0 ∨ 70000 ≤ ((L 1)).toNatClampNeg) then (if ((σ.2.2 5 ((L 1)).toNatClampNeg)) = 1 then (x_GV k d 10 2 (upd (upd L 2 ((σ.1 72))) 100 1) σ) else (x_GV k d 10 1 (upd L 2 ((σ.1 72))) σ)) else none) := rfl
theorem e_quantify_1 (k d : Nat) (L : Nat → Int32) (σ : MS) : x_GV (k + 1) d 10 1 L σ = (x_GV k d 10 2 (upd L 100 0) σ) := rfl
theorem e_quantify_2 (k d : Nat) (L : Nat → Int32) (σ : MS) : x_GV (k + 1) d 10 2 L σ = (if ¬ (((L 1)) < 0 ∨ 70000 ≤ ((L 1)).toNatClampNeg) then (od d (fun e2 => ob (x_GV k e2 6 0 (upd (upd (upd (fun _ => 0) 1 ((L 2))) 2 ((σ.2.2 6 ((L 1)).toNatClampNeg))) 3 1) σ) (fun r2 => x_GV k d 10 3 (upd (upd (upd L 3 ((L 100))) 4 0) 5 r2.1) r2.2))) else none) := rfl
theorem e_quantify_3 (k d : Nat) (L : Nat → Int32) (σ : MS) : x_GV (k + 1) d 10 3 L σ = (if ((L 5)) = 0 then (x_GV k d 10 8 L σ) else (if ((σ.1 56)) = 0 then (if ¬ (((L 1)) < 0 ∨ 70000 ≤ ((L 1)).toNatClampNeg) then (od d (fun e4 => ob (x_GV k e4 8 0 (upd (fun _ => 0) 1 ((σ.2.2 7 ((L 1)).toNatClampNeg))) σ) (fun r4 => if r4.1 = ((L 3)) then (if ((r4.2.1 56)) = 0 then (x_GV k d 10 5 (upd L 100 1) r4.2) else (x_GV k d 10 4 L r4.2)) else (x_GV k d 10 4 L r4.2)))) else none) else (x_GV k d 10 8 L σ))) := rfl
theorem e_quantify_4 (k d : Nat) (L : Nat → Int32) (σ : MS) : x_GV (k + 1) d 10 4 L σ = (x_GV k d 10 5 (upd L 100 0) σ) := rfl
theorem e_quantify_5 (k d : Nat) (L : Nat → Int32) (σ : MS) : x_GV (k + 1) d 10 5 L σ = (if ((σ.1 56)) = 0 then (if ((L 100)) = 0 then (if ¬ (((L 1)) < 0 ∨ 70000 ≤ ((L 1)).toNatClampNeg) then (od d (fun e4 => ob (x_GV k e4 6 0 (upd (upd (upd (fun _ => 0) 1 ((L 2))) 2 ((σ.2.2 6 ((L 1)).toNatClampNeg))) 3 0) σ) (fun r4 => if r4.1 = 0 then (x_GV k d 10 6 (upd L 4 ((L 100))) r4.2) else (x_GV k d 10 7 (upd (upd L 4 ((L 100))) 100 1) r4.2)))) else none) else (x_GV k d 10 6 (upd L 4 ((L 100))) σ)) else (x_GV k d 10 6 (upd L 4 ((L 100))) σ)) := rfl
theorem e_quantify_6 (k d : Nat) (L : Nat → Int32) (σ : MS) : x_GV (k + 1) d 10 6 L σ = (x_GV k d 10 7 (upd L 100 0) σ) := rfl
theorem e_quantify_7 (k d : Nat) (L : Nat → Int32) (σ : MS) : x_GV (k + 1) d 10 7 L σ = (x_GV k d 10 3 (upd L 5 ((L 100))) σ) := rfl
theorem e_quantify_8 (k d : Nat) (L : Nat → Int32) (σ : MS) : x_GV (k + 1) d 10 8 L σ = (x_GV k d 10 9 L (upd σ.1 72 ((L 2)), σ.2.1, σ.2.2)) := rfl
theorem e_quantify_9 (k d : Nat) (L : Nat → Int32) (σ : MS) : x_GV (k + 1) d 10 9 L σ = (if ¬ (((L 1)) < 0 ∨ 70000 ≤ ((L 1)).toNatClampNeg) then (ob (x_clear k 0 (upd (fun _ => 0) 1 ((σ.2.2 6 ((L 1)).toNatClampNeg))) σ) (fun r2 => if ((r2.2.1 56)) = 0 then (if ((L 4)) = ((L 3)) then (x_GV k d 10 11 (upd L 100 1) r2.2) else (x_GV k d 10 10 L r2.2)) else (x_GV k d 10 12 L r2.2))) else none) := rfl
theorem e_quantify_10 (k d : Nat) (L : Nat → Int32) (σ : MS) : x_GV (k + 1) d 10 10 L σ = (x_GV k d 10 11 (upd L 100 0) σ) := rfl
theorem e_quantify_11 (k d : Nat) (L : Nat → Int32) (σ : MS) : x_GV (k + 1) d 10 11 L σ = (ob (x_truth k 0 (upd (fun _ => 0) 1 ((L 100))) σ) (fun r1 => ob (x_answer k 0 (upd (fun _ => 0) 1 r1.1) r1.2) (fun r2 => ob (x_push k 0 (upd (fun _ => 0) 1 r2.1) r2.2) (fun r3 => x_GV k d 10 12 L r3.2)))) := rfl
theorem e_quantify_12 (k d : Nat) (L : Nat → Int32) (σ : MS) : x_GV (k + 1) d 10 12 L σ = (some (0, σ)) := rfl
theorem e_setBrackets_0 (k d : Nat) (L : Nat → Int32) (σ : MS) : x_GV (k + 1) d 11 0 L σ = (if ¬ (((L 1)) < 0 ∨ 70000 ≤ ((L 1)).toNatClampNeg) then (x_GV k d 11 1 (upd (upd (upd (upd L 2 ((σ.1 59))) 3 0) 4 0) 5 ((σ.2.2 6 ((L 1)).toNatClampNeg))) σ) else none) := rfl
theorem e_setBrackets_1 (k d : Nat) (L : Nat → Int32) (σ : MS) : x_GV (k + 1) d 11 1 L σ = (if ((L 5)) = ((-1)) then (x_GV k d 11 15 L σ) else (if ((σ.1 56)) = 0 then (od d (fun e3 => ob (x_GV k e3 4 0 (upd (fun _ => 0) 1 ((L 5))) σ) (fun r3 => if ((r3.2.1 56)) = 0 then (if ¬ (((((r3.2.1 59)) - 1)) < 0 ∨ 185000 ≤ ((((r3.2.1 59)) - 1)).toNatClampNeg) then (if ((r3.2.2.2 29 ((((r3.2.1 59)) - 1)).toNatClampNeg)) = 0 then (x_GV k d 11 3 L r3.2) else (x_GV k d 11 2 L r3.2)) else none) else (x_GV k d 11 2 L r3.2)))) else (x_GV k d 11 15 L σ))) := rfl
theorem e_setBrackets_2 (k d : Nat) (L : Nat → Int32) (σ : MS) : x_GV (k + 1) d 11 2 L σ = (if ((L 3)) = 0 then (x_GV k d 11 4 L σ) else (x_GV k d 11 3 L σ)) := rfl
theorem e_setBrackets_3 (k d : Nat) (L : Nat → Int32) (σ : MS) : x_GV (k + 1) d 11 3 L σ = (x_GV k d 11 5 (upd L 100 1) σ) := rfl
theorem e_setBrackets_4 (k d : Nat) (L : Nat → Int32) (σ : MS) : x_GV (k + 1) d 11 4 L σ = (x_GV k d 11 5 (upd L 100 0) σ) := rfl
theorem e_setBrackets_5 (k d : Nat) (L : Nat → Int32) (σ : MS) : x_GV (k + 1) d 11 5 L σ = (if ((σ.1 56)) = 0 then (if ((L 4)) = 0 then (if ((L 100)) = 0 then (x_GV k d 11 7 (upd L 3 ((L 100))) σ) else (x_GV k d 11 6 (upd L 3 ((L 100))) σ)) else (x_GV k d 11 6 (upd L 3 ((L 100))) σ)) else (x_GV k d 11 7 (upd L 3 ((L 100))) σ)) := rfl
theorem e_setBrackets_6 (k d : Nat) (L : Nat → Int32) (σ : MS) : x_GV (k + 1) d 11 6 L σ = (x_GV k d 11 14 L (upd σ.1 59 ((L 2)), σ.2.1, σ.2.2)) := rfl
theorem e_setBrackets_7 (k d : Nat) (L : Nat → Int32) (σ : MS) : x_GV (k + 1) d 11 7 L σ = (if ((((σ.1 59)) - ((L 2)))) = 1200 then (ob (x_distinct k 0 (upd (fun _ => 0) 1 ((L 2))) σ) (fun r2 => x_GV k d 11 8 (upd (upd L 6 1) 7 ((L 2))) r2.2)) else (x_GV k d 11 14 L σ)) := rfl
theorem e_setBrackets_8 (k d : Nat) (L : Nat → Int32) (σ : MS) : x_GV (k + 1) d 11 8 L σ = (if ((σ.1 59)) ≤ ((L 7)) then (x_GV k d 11 9 L σ) else (if ¬ (((L 7)) < 0 ∨ 185000 ≤ ((L 7)).toNatClampNeg) then (ob (x_size k 0 (upd (fun _ => 0) 1 ((σ.2.2 29 ((L 7)).toNatClampNeg))) σ) (fun r3 => x_GV k d 11 8 (upd (upd L 6 ((((L 6)) + r3.1))) 7 (((L 7)) + 1)) r3.2)) else none)) := rfl
theorem e_setBrackets_9 (k d : Nat) (L : Nat → Int32) (σ : MS) : x_GV (k + 1) d 11 9 L σ = (if ((L 6)) ≤ 1000 then (x_GV k d 11 10 L σ) else (x_GV k d 11 11 (upd L 100 1) σ)) := rfl
theorem e_setBrackets_10 (k d : Nat) (L : Nat → Int32) (σ : MS) : x_GV (k + 1) d 11 10 L σ = (x_GV k d 11 11 (upd L 100 0) σ) := rfl
theorem e_setBrackets_11 (k d : Nat) (L : Nat → Int32) (σ : MS) : x_GV (k + 1) d 11 11 L σ = (if ((L 100)) = 0 then (x_GV k d 11 12 (upd L 4 ((L 100))) σ) else (x_GV k d 11 13 (upd (upd L 4 ((L 100))) 100 ((L 2))) σ)) := rfl
theorem e_setBrackets_12 (k d : Nat) (L : Nat → Int32) (σ : MS) : x_GV (k + 1) d 11 12 L σ = (x_GV k d 11 13 (upd L 100 ((σ.1 59))) σ) := rfl
theorem e_setBrackets_13 (k d : Nat) (L : Nat → Int32) (σ : MS) : x_GV (k + 1) d 11 13 L σ = (x_GV k d 11 14 L (upd σ.1 59 ((L 100)), σ.2.1, σ.2.2)) := rfl
theorem e_setBrackets_14 (k d : Nat) (L : Nat → Int32) (σ : MS) : x_GV (k + 1) d 11 14 L σ = (if ¬ (((L 5)) < 0 ∨ 70000 ≤ ((L 5)).toNatClampNeg) then (x_GV k d 11 1 (upd L 5 ((σ.2.2 9 ((L 5)).toNatClampNeg))) σ) else none) := rfl
theorem e_setBrackets_15 (k d : Nat) (L : Nat → Int32) (σ : MS) : x_GV (k + 1) d 11 15 L σ = (if ((σ.1 56)) = 0 then (if ((L 3)) = 0 then (x_GV k d 11 16 L σ) else (ob (x_fail k 0 (upd (fun _ => 0) 1 3) σ) (fun r3 => x_GV k d 11 17 L r3.2))) else (x_GV k d 11 16 L σ)) := rfl
theorem e_setBrackets_16 (k d : Nat) (L : Nat → Int32) (σ : MS) : x_GV (k + 1) d 11 16 L σ = (if ((σ.1 56)) = 0 then (if ((L 4)) = 0 then (x_GV k d 11 17 L σ) else (ob (x_fail k 0 (upd (fun _ => 0) 1 5) σ) (fun r3 => x_GV k d 11 17 L r3.2))) else (x_GV k d 11 17 L σ)) := rfl
theorem e_setBrackets_17 (k d : Nat) (L : Nat → Int32) (σ : MS) : x_GV (k + 1) d 11 17 L σ = (if ((σ.1 56)) = 0 then (ob (x_sweep k 0 (upd (fun _ => 0) 1 780000) σ) (fun r2 => ob (x_setOf k 0 (upd (fun _ => 0) 1 ((L 2))) r2.2) (fun r3 => ob (x_answer k 0 (upd (fun _ => 0) 1 r3.1) r3.2) (fun r4 => ob (x_push k 0 (upd (fun _ => 0) 1 r4.1) r4.2) (fun r5 => x_GV k d 11 18 L r5.2))))) else (x_GV k d 11 18 L σ)) := rfl
theorem e_setBrackets_18 (k d : Nat) (L : Nat → Int32) (σ : MS) : x_GV (k + 1) d 11 18 L σ = (some (0, σ)) := rfl
theorem e_tupleBrackets_0 (k d : Nat) (L : Nat → Int32) (σ : MS) : x_GV (k + 1) d 12 0 L σ = (if ¬ (((L 1)) < 0 ∨ 70000 ≤ ((L 1)).toNatClampNeg) then (x_GV k d 12 1 (upd (upd (upd (upd L 2 ((σ.1 59))) 3 1) 4 0) 5 ((σ.2.2 6 ((L 1)).toNatClampNeg))) σ) else none) := rfl
theorem e_tupleBrackets_1 (k d : Nat) (L : Nat → Int32) (σ : MS) : x_GV (k + 1) d 12 1 L σ = (if ((L 5)) = ((-1)) then (x_GV k d 12 11 L σ) else (if ((σ.1 56)) = 0 then (od d (fun e3 => ob (x_GV k e3 4 0 (upd (fun _ => 0) 1 ((L 5))) σ) (fun r3 => if ((r3.2.1 56)) = 0 then (ob (x_pop k 0 (fun _ => 0) r3.2) (fun r5 => x_GV k d 12 3 (upd L 100 r5.1) r5.2)) else (x_GV k d 12 2 L r3.2)))) else (x_GV k d 12 11 L σ))) := rfl
theorem e_tupleBrackets_2 (k d : Nat) (L : Nat → Int32) (σ : MS) : x_GV (k + 1) d 12 2 L σ = (x_GV k d 12 3 (upd L 100 0) σ) := rfl
theorem e_tupleBrackets_3 (k d : Nat) (L : Nat → Int32) (σ : MS) : x_GV (k + 1) d 12 3 L σ = (if ((L 100)) = 0 then (x_GV k d 12 7 (upd (upd L 6 ((L 100))) 4 (((L 4)) + 1)) σ) else (x_GV k d 12 4 (upd L 6 ((L 100))) σ)) := rfl
theorem e_tupleBrackets_4 (k d : Nat) (L : Nat → Int32) (σ : MS) : x_GV (k + 1) d 12 4 L σ = (if 1000 < ((L 3)) then (x_GV k d 12 7 L σ) else (ob (x_size k 0 (upd (fun _ => 0) 1 ((L 6))) σ) (fun r2 => x_GV k d 12 5 (upd (upd L 3 ((((L 3)) + ((((L 4)) + r2.1))))) 7 0) r2.2))) := rfl
theorem e_tupleBrackets_5 (k d : Nat) (L : Nat → Int32) (σ : MS) : x_GV (k + 1) d 12 5 L σ = (if ((L 4)) ≤ ((L 7)) then (x_GV k d 12 6 L σ) else (if 1000 < ((L 3)) then (x_GV k d 12 6 L σ) else (ob (x_push k 0 (upd (fun _ => 0) 1 0) σ) (fun r3 => x_GV k d 12 5 (upd L 7 (((L 7)) + 1)) r3.2)))) := rfl
theorem e_tupleBrackets_6 (k d : Nat) (L : Nat → Int32) (σ : MS) : x_GV (k + 1) d 12 6 L σ = (ob (x_push k 0 (upd (fun _ => 0) 1 ((L 6))) σ) (fun r1 => x_GV k d 12 7 (upd L 4 0) r1.2)) := rfl
theorem e_tupleBrackets_7 (k d : Nat) (L : Nat → Int32) (σ : MS) : x_GV (k + 1) d 12 7 L σ = (if ((L 3)) ≤ 1000 then (x_GV k d 12 8 L σ) else (x_GV k d 12 9 (upd L 100 ((L 2))) σ)) := rfl
theorem e_tupleBrackets_8 (k d : Nat) (L : Nat → Int32) (σ : MS) : x_GV (k + 1) d 12 8 L σ = (x_GV k d 12 9 (upd L 100 ((σ.1 59))) σ) := rfl
theorem e_tupleBrackets_9 (k d : Nat) (L : Nat → Int32) (σ : MS) : x_GV (k + 1) d 12 9 L σ = (x_GV k d 12 10 L (upd σ.1 59 ((L 100)), σ.2.1, σ.2.2)) := rfl
theorem e_tupleBrackets_10 (k d : Nat) (L : Nat → Int32) (σ : MS) : x_GV (k + 1) d 12 10 L σ = (if ¬ (((L 5)) < 0 ∨ 70000 ≤ ((L 5)).toNatClampNeg) then (x_GV k d 12 1 (upd L 5 ((σ.2.2 9 ((L 5)).toNatClampNeg))) σ) else none) := rfl
theorem e_tupleBrackets_11 (k d : Nat) (L : Nat → Int32) (σ : MS) : x_GV (k + 1) d 12 11 L σ = (if ((σ.1 56)) = 0 then (if ((L 3)) ≤ 1000 then (x_GV k d 12 12 L σ) else (ob (x_fail k 0 (upd (fun _ => 0) 1 5) σ) (fun r3 => x_GV k d 12 12 L r3.2))) else (x_GV k d 12 12 L σ)) := rfl
theorem e_tupleBrackets_12 (k d : Nat) (L : Nat → Int32) (σ : MS) : x_GV (k + 1) d 12 12 L σ = (if ((σ.1 56)) = 0 then (ob (x_sweep k 0 (upd (fun _ => 0) 1 780000) σ) (fun r2 => ob (x_tupleOf k 0 (upd (fun _ => 0) 1 ((L 2))) r2.2) (fun r3 => ob (x_answer k 0 (upd (fun _ => 0) 1 r3.1) r3.2) (fun r4 => ob (x_push k 0 (upd (fun _ => 0) 1 r4.1) r4.2) (fun r5 => x_GV k d 12 13 L r5.2))))) else (x_GV k d 12 13 L σ)) := rfl
theorem e_tupleBrackets_13 (k d : Nat) (L : Nat → Int32) (σ : MS) : x_GV (k + 1) d 12 13 L σ = (some (0, σ)) := rfl
end JnS153
section JnS154
/-! Two runs side by side (reference): comparing values. -/
section KCV
variable {g1 g2 : Nat → Prop} {l1 l2 : List Nat} {B1 h1 B2 h2 n : Nat} {σ1 σ2 : MS}
theorem Pm_ite4 {Q : Int32 × MS → Int32 × MS → Prop} {c1 c2 : Prop} {d1 : Decidable c1} {d2 : Decidable c2} {a1 a2 b1 b2 : Nat → Option (Int32 × MS)} (t : c1 → c2 → Pm n a1 a2 Q) (t' : c1 → ¬ c2 → Pm n a1 b2 Q) (u' : ¬ c1 → c2 → Pm n b1 a2 Q) (u : ¬ c1 → ¬ c2 → Pm n b1 b2 Q) : Pm n (fun k => if c1 then a1 k else b1 k) (fun k => if c2 then a2 k else b2 k) Q := by
  intro k hk r1 r2 e1 e2
  have e1 : (if c1 then a1 k else b1 k) = some r1 := e1
  have e2 : (if c2 then a2 k else b2 k) = some r2 := e2
  by_cases h : c1
  · rw [if_pos h] at e1
    by_cases h' : c2
    · rw [if_pos h'] at e2; exact t h h' k hk r1 r2 e1 e2
    · rw [if_neg h'] at e2; exact t' h h' k hk r1 r2 e1 e2
  · rw [if_neg h] at e1
    by_cases h' : c2
    · rw [if_pos h'] at e2; exact u' h h' k hk r1 r2 e1 e2
    · rw [if_neg h'] at e2; exact u h h' k hk r1 r2 e1 e2
/-- wholes of the same limbs -/
theorem z_compareWholes (hS1 : HS g1 l1 B1 h1 σ1) {a b p : Nat} (p1 : σ1.2.2 28 (a + 1) = nI p) (q1 : σ1.2.2 28 (b + 1) = nI p) (hp : p ≤ 3996) (hp1 : 1 ≤ p) (ha1 : a + 4 + p ≤ 1740000) (hb1 : b + 4 + p ≤ 1740000) (cab : ∀ i, i < p → σ1.2.2 28 (b + 4 + i) = σ1.2.2 28 (a + 4 + i)) {L : Nat → Int32} (e1 : L 1 = nI a) (e2 : L 2 = nI b) : Pm n (fun k => x_compareWholes k 0 L σ1) (fun k => x_compareWholes k 0 L σ1) (fun r1 r2 => r1.1 = 0 ∧ r2.1 = 0) := by
  have sg : ∀ (m x : Nat) (N : Nat → Int32), x + 4 < 1740000 → N 1 = nI x → Pm m (fun k => x_signOf k 0 N σ1) (fun k => x_signOf k 0 N σ1) (fun r1 r2 => r1 = (σ1.2.2 28 (x + 4), σ1) ∧ r2 = (σ1.2.2 28 (x + 4), σ1)) := fun m x N hx m1 => Pm_t2 (s_signOf hS1 (m := x) hx m1) (fun k => f_signOf k _ _ _) (s_signOf hS1 (m := x) hx m1) (fun k => f_signOf k _ _ _)
  have w5 : ∀ (m : Nat) (N : Nat → Int32), N 100 = 0 → Pm m (fun k => x_compareWholes k 5 N σ1) (fun k => x_compareWholes k 5 N σ1) (fun r1 r2 => r1.1 = 0 ∧ r2.1 = 0) := fun m N h => by
    refine Pm_suc rfl (fun k => by rw [x_compareWholes]) (fun k => by rw [x_compareWholes]) (fun m _ => ?_)
    exact Pm_some ⟨h, h⟩
  have w3 : ∀ (m : Nat) (N : Nat → Int32), N 1 = nI a → N 5 = 0 → Pm m (fun k => x_compareWholes k 3 N σ1) (fun k => x_compareWholes k 3 N σ1) (fun r1 r2 => r1.1 = 0 ∧ r2.1 = 0) := fun m N n1 n5 => by
    refine Pm_suc rfl (fun k => by rw [x_compareWholes]) (fun k => by rw [x_compareWholes]) (fun m _ => ?_)
    refine Pm_ob (sg m a _ (by omega) (by exact n1)) (fun r1 r2 hr => ?_)
    rw [hr.1, hr.2]
    refine Pm_ite Iff.rfl (fun _ _ => ?_) (fun _ _ => ?_)
    · refine Pm_suc rfl (fun k => by rw [x_compareWholes]) (fun k => by rw [x_compareWholes]) (fun m _ => ?_)
      exact w5 m _ (by show N 5 = 0; exact n5)
    · exact w5 m _ (by show - N 5 = 0; rw [n5]; rfl)
  have w2 : ∀ (m i : Nat) (N : Nat → Int32), i < p → N 1 = nI a → N 2 = nI b → N 6 = nI i → N 5 = 0 → Pm m (fun k => x_compareWholes k 2 N σ1) (fun k => x_compareWholes k 2 N σ1) (fun r1 r2 => r1.1 = 0 ∧ r2.1 = 0) := by
    intro m
    induction m with
    | zero =>
      intro i N hi n1 n2 n6 n5
      exact Pm_suc rfl (fun k => by rw [x_compareWholes]) (fun k => by rw [x_compareWholes]) (fun m hm => by omega)
    | succ m ih =>
      intro i N hi n1 n2 n6 n5
      refine Pm_suc rfl (fun k => by rw [x_compareWholes]) (fun k => by rw [x_compareWholes]) (fun m' hm' => ?_)
      have hm' : m' = m := by omega
      subst hm'
      rw [n1, n2, n6, show nI a + 4 = nI (a + 4) from n_add (q := 4) (by omega), show nI b + 4 = nI (b + 4) from n_add (q := 4) (by omega), n_add (p := a + 4) (q := i) (by omega), n_add (p := b + 4) (q := i) (by omega)]
      refine Pm_ite Iff.rfl (fun _ _ => w3 m' _ n1 n5) (fun z _ => ?_)
      refine Pm_ite Iff.rfl (fun _ _ => ?_) (fun w _ => absurd n5 w)
      refine Pm_chk (fun _ _ => ?_)
      refine Pm_chk (fun _ _ => ?_)
      rw [n_cl (p := a + 4 + i) (by omega), n_cl (p := b + 4 + i) (by omega), cab i hi]
      have hi1 : 1 ≤ i := by
        by_cases e : i = 0
        · exact absurd (by rw [e]; decide) z
        · omega
      obtain ⟨j, rfl⟩ : ∃ j, i = j + 1 := ⟨i - 1, by omega⟩
      rw [show nI (j + 1) + (-1) = nI j from n_pred j (by omega), Int32.sub_self]
      exact ih j _ (by omega) n1 n2 rfl rfl
  have s4 : σ1.2.2 28 (b + 4) = σ1.2.2 28 (a + 4) := cab 0 (by omega)
  refine Pm_suc rfl (fun k => by rw [x_compareWholes]) (fun k => by rw [x_compareWholes]) (fun m _ => ?_)
  refine Pm_ob (sg m a _ (by omega) (by exact e1)) (fun r1 r2 hr => ?_)
  rw [hr.1, hr.2]
  refine Pm_ob (sg m b _ (by omega) (by exact e2)) (fun s1 s2 hs => ?_)
  rw [hs.1, hs.2]
  refine Pm_ite Iff.rfl (fun _ _ => ?_) (fun w _ => absurd s4.symm w)
  refine Pm_suc rfl (fun k => by rw [x_compareWholes]) (fun k => by rw [x_compareWholes]) (fun m _ => ?_)
  rw [e1, e2, n_add1, n_add1]
  refine Pm_chk (fun _ _ => ?_)
  refine Pm_chk (fun _ _ => ?_)
  rw [n_cl (p := a + 1) (by omega), n_cl (p := b + 1) (by omega), p1, q1]
  refine w2 m (p - 1) _ (by omega) e1 e2 ?_ ?_
  · show nI p - 1 = _
    exact n_sub (p := p) (q := 1) (by omega) hp1
  · show nI p - nI p = 0
    exact Int32.sub_self _
/-- what is known of two values of one rank -/
theorem EVb_ob (hS1 : HS g1 l1 B1 h1 σ1) (hS2 : HS g2 l2 B2 h2 σ2) {a1 a2 : Nat} (ha1 : g1 a1) (hv : EVb (σ1.2.2 28) (σ2.2.2 28) a1 a2) (ha2 : a2 < 3 ∨ g2 a2) : ∃ k p, g2 a2 ∧ 3 ≤ a1 ∧ 3 ≤ a2 ∧ (2 ≤ k ∧ k ≤ 6) ∧ p ≤ 3996 ∧ (k = 2 → 1 ≤ p) ∧ kdN (σ1.2.2 28) a1 = k ∧ σ1.2.2 28 a1 = nI k ∧ σ2.2.2 28 a2 = nI k ∧ σ1.2.2 28 (a1 + 1) = nI p ∧ σ2.2.2 28 (a2 + 1) = nI p ∧ a1 + 4 + p ≤ 1740000 ∧ a2 + 4 + p ≤ 1740000 := by
  obtain ⟨k, p, s, t, q1, q2, q3⟩ := HS_at hS1 ha1
  have hb1 := HS_b hS1
  have hb2 := HS_b hS2
  have c3 : 3 ≤ a1 := by omega
  have c4 : 3 ≤ a2 := by
    rcases EVb_3 hv with z | z
    · omega
    · exact z.2
  have ga2 : g2 a2 := ha2.resolve_left (by omega)
  obtain ⟨k', p', s', t', r1, r2, r3⟩ := HS_at hS2 ga2
  have k6 := q1.2.2.2.2.1
  have e0 : σ2.2.2 28 a2 = nI k := (EVb_hd hv c3 (i := 0) (by omega)).trans q1.1
  have e1 : σ2.2.2 28 (a2 + 1) = nI p := (EVb_hd hv c3 (i := 1) (by omega)).trans q1.2.1
  have hp := q1.2.2.2.2.2.2.2.1
  have hp' := r1.2.2.2.2.2.2.2.1
  have ep : p' = p := (n_eq (by omega) (by omega)).mp (r1.2.1.symm.trans e1)
  have hk : kdN (σ1.2.2 28) a1 = k := by
    unfold kdN
    rw [if_neg (by omega), if_neg (by omega), q1.1, n_cl (by omega)]
  have h2 : k = 2 → 1 ≤ p := fun e => (q1.2.2.2.2.2.2.2.2.1 e).1
  exact ⟨k, p, ga2, c3, c4, k6, hp, h2, hk, q1.1, e0, q1.2.1, e1, by omega, by omega⟩
theorem rkN_ev {a1 a2 : Nat} (hv : EVb (σ1.2.2 28) (σ2.2.2 28) a1 a2) : rkN (σ2.2.2 28) a2 = rkN (σ1.2.2 28) a1 := by
  unfold rkN
  rcases EVb_3 hv with ⟨z1, z2⟩ | ⟨z1, z2⟩
  · rw [z2, if_pos z1, if_pos z1]
  · rw [if_neg (by omega), if_neg (by omega), show σ2.2.2 28 a2 = σ1.2.2 28 a1 from EVb_hd hv z1 (i := 0) (by omega)]
theorem k56 {k : Nat} (h : k ≤ 6) : (nI k = (5 : Int32) ↔ k = 5) ∧ (nI k = (6 : Int32) ↔ k = 6) ∧ (nI k = (2 : Int32) ↔ k = 2) := ⟨n_eq (q := 5) (by omega) (by decide), n_eq (q := 6) (by omega) (by decide), n_eq (q := 2) (by omega) (by decide)⟩
theorem htN_ch (hS : HS g1 l1 B1 h1 σ1) {a p i m : Nat} (ga : g1 a) (hk : 5 ≤ kdN (σ1.2.2 28) a) (hp : σ1.2.2 28 (a + 1) = nI p) (hp2 : p ≤ 3996) (hi : i < p) (hm : σ1.2.2 28 (a + 4 + i) = nI m) (hmb : m < 1740000) : (m < 3 ∨ g1 m) ∧ htN (σ1.2.2 28) m < htN (σ1.2.2 28) a := by
  obtain ⟨k, n, s, t, q1, q2, q3⟩ := HS_at hS ga
  have k6 := q1.2.2.2.2.1
  have hn := q1.2.2.2.2.2.2.2.1
  have h7 := q1.2.2.2.2.2.2.1
  have hb := HS_b hS
  have en : n = p := (n_eq (by omega) (by omega)).mp (q1.2.1.symm.trans hp)
  subst en
  have hk2 : kdN (σ1.2.2 28) a = k := by
    unfold kdN
    rw [if_neg (by omega), if_neg (by omega), q1.1, n_cl (by omega)]
  have hta : htN (σ1.2.2 28) a = t := by
    unfold htN
    rw [if_neg (by omega), q1.2.2.2.1, n_cl (by omega)]
  obtain ⟨m', m1, m2, m3⟩ := (q1.2.2.2.2.2.2.2.2.2.2.2 (by omega)).2 i hi
  have hm' := HS_vb hS m2
  have e : m' = m := (n_eq (by omega) (by omega)).mp (m1.symm.trans hm)
  subst e
  exact ⟨m2, by omega⟩
/-- values that hold the same compare as 0 -/
theorem z_cmp (hS : HS g1 l1 B1 h1 σ1) : ∀ (n d a b : Nat) (L : Nat → Int32), (a < 3 ∨ g1 a) → (b < 3 ∨ g1 b) → EVb (σ1.2.2 28) (σ1.2.2 28) a b → htN (σ1.2.2 28) a ≤ d → L 1 = nI a → L 2 = nI b → Pm n (fun k => x_GC k d 0 0 L σ1) (fun k => x_GC k d 0 0 L σ1) (fun r1 r2 => r1.1 = 0 ∧ r2.1 = 0) := by
  intro n
  induction n using Nat.strongRecOn with
  | ind n ih =>
  intro d a b L ha hb hv hd e1 e2
  have ba := HS_vb hS ha
  have bb := HS_vb hS hb
  refine Pm_suc rfl (fun k => e_compare_0 k _ _ _) (fun k => e_compare_0 k _ _ _) (fun m1 hm1 => ?_)
  rw [e1, e2]
  refine Pm_ite Iff.rfl (fun _ _ => Pm_some ⟨rfl, rfl⟩) (fun hne _ => ?_)
  rw [n_eq (by omega) (by omega)] at hne
  refine Pm_suc rfl (fun k => e_compare_1 k _ _ _) (fun k => e_compare_1 k _ _ _) (fun m2 hm2 => ?_)
  refine Pm_ob (Pm_t2 (s_rank hS ha (by exact e1)) (fun k => f_rank k _ _ _) (s_rank hS ha (by exact e1)) (fun k => f_rank k _ _ _)) (fun r1 r2 hr => ?_)
  rw [hr.1, hr.2]
  refine Pm_ob (Pm_t2 (s_rank hS hb (by exact e2)) (fun k => f_rank k _ _ _) (s_rank hS hb (by exact e2)) (fun k => f_rank k _ _ _)) (fun s1 s2 hs => ?_)
  rw [hs.1, hs.2]
  have hrk : rkN (σ1.2.2 28) b = rkN (σ1.2.2 28) a := rkN_ev hv
  rw [hrk]
  refine Pm_ite Iff.rfl (fun _ _ => ?_) (fun w _ => absurd (Int32.sub_self _) w)
  have ga : g1 a := by
    rcases ha with z | z
    · rcases EVb_3 hv with y | y
      · exact absurd y.2.symm hne
      · omega
    · exact z
  obtain ⟨k, p, gb, a3, b3, k6, hp, k2, kk, ka, kb, pa, pb, qa, qb⟩ := EVb_ob hS hS ga hv hb
  generalize hM : upd L 3 (nI (rkN (σ1.2.2 28) a) - nI (rkN (σ1.2.2 28) a)) = M
  have q1 : M 1 = nI a := by rw [← hM]; exact e1
  have q2 : M 2 = nI b := by rw [← hM]; exact e2
  refine Pm_suc rfl (fun k => e_compare_2 k _ _ _) (fun k => e_compare_2 k _ _ _) (fun m3 hm3 => ?_)
  rw [q1, n_cl (p := a) (by omega), ka]
  refine Pm_chk (fun _ _ => ?_)
  obtain ⟨i5, i6, i2⟩ := k56 k6.2
  refine Pm_ite Iff.rfl (fun z _ => ?_) (fun z _ => ?_)
  · have z := i2.mp z
    have nr : ¬ (σ1.2.2 28 a = nI 5 ∨ σ1.2.2 28 a = nI 6) := by
      rw [ka]
      intro y
      rcases y with y | y
      · exact absurd (i5.mp y) (by omega)
      · exact absurd (i6.mp y) (by omega)
    refine Pm_ob (Pm_mono (z_compareWholes hS pa pb hp (k2 z) qa qb (fun i hi => EVb_raw hv a3 nr pa hp hi) rfl (by exact q2)) (fun r1 r2 h => h)) (fun r1 r2 hr => ?_)
    exact Pm_some hr
  refine Pm_suc rfl (fun k => e_compare_3 k _ _ _) (fun k => e_compare_3 k _ _ _) (fun m4 hm4 => ?_)
  rw [show upd M 4 (nI k) 1 = nI a from q1, show upd M 4 (nI k) 2 = nI b from q2, n_add1, n_add1, n_cl (p := a + 1) (by omega), n_cl (p := b + 1) (by omega), pa, pb]
  refine Pm_chk (fun _ _ => ?_)
  refine Pm_chk (fun _ _ => ?_)
  have lp : ∀ (m i : Nat) (N : Nat → Int32), m < n → i ≤ p → N 1 = nI a → N 2 = nI b → N 4 = nI k → N 5 = nI p → N 6 = nI p → N 7 = nI i → Pm m (fun k => x_GC k d 0 4 N σ1) (fun k => x_GC k d 0 4 N σ1) (fun r1 r2 => r1.1 = 0 ∧ r2.1 = 0) := by
    intro m
    induction m using Nat.strongRecOn with
    | ind m ihm =>
    intro i N hm hi n1 n2 n4 n5 n6 n7
    have b9 : ∀ m', Pm m' (fun k => x_GC k d 0 9 N σ1) (fun k => x_GC k d 0 9 N σ1) (fun r1 r2 => r1.1 = 0 ∧ r2.1 = 0) := fun m' => by
      refine Pm_suc rfl (fun k => e_compare_9 k _ _ _) (fun k => e_compare_9 k _ _ _) (fun m'' _ => ?_)
      rw [n5, n6, Int32.sub_self]
      exact Pm_some ⟨rfl, rfl⟩
    have b7 : ∀ (m' : Nat), m' < m → i < p → Pm m' (fun k => x_GC k d 0 7 (upd N 100 0) σ1) (fun k => x_GC k d 0 7 (upd N 100 0) σ1) (fun r1 r2 => r1.1 = 0 ∧ r2.1 = 0) := by
      intro m' hm' hip
      refine Pm_suc rfl (fun k => e_compare_7 k _ _ _) (fun k => e_compare_7 k _ _ _) (fun m1 h1 => ?_)
      refine Pm_ite Iff.rfl (fun _ _ => ?_) (fun w _ => absurd upd_same w)
      refine Pm_suc rfl (fun k => e_compare_8 k _ _ _) (fun k => e_compare_8 k _ _ _) (fun m2 h2 => ?_)
      exact ihm m2 (by omega) (i + 1) _ (by omega) (by omega) n1 n2 n4 n5 n6 (by show N 7 + 1 = _; rw [n7, n_add1])
    refine Pm_suc rfl (fun k => e_compare_4 k _ _ _) (fun k => e_compare_4 k _ _ _) (fun m1 hm1 => ?_)
    rw [n4, n5, n6, n7]
    refine Pm_ite Iff.rfl (fun _ _ => b9 m1) (fun w _ => ?_)
    have hip : i < p := by
      by_cases q : p ≤ i
      · exact absurd ((n_le (by omega) (by omega)).mpr q) w
      · omega
    refine Pm_ite Iff.rfl (fun _ _ => b9 m1) (fun _ _ => ?_)
    have ev5 : k = 5 ∨ k = 6 → Pm m1 (fun k => x_GC k d 0 5 N σ1) (fun k => x_GC k d 0 5 N σ1) (fun r1 r2 => r1.1 = 0 ∧ r2.1 = 0) := fun hk => by
      obtain ⟨c, e, c1, c2, d1, d2, cd⟩ := EVb_mem hv a3 (by rw [ka]; exact hk.imp (fun y => by rw [y]) (fun y => by rw [y])) pa hp hip
      refine Pm_suc rfl (fun k => e_compare_5 k _ _ _) (fun k => e_compare_5 k _ _ _) (fun m2 hm2 => ?_)
      rw [n1, n2, n7, show nI a + 4 = nI (a + 4) from n_add (q := 4) (by omega), show nI b + 4 = nI (b + 4) from n_add (q := 4) (by omega), n_add (p := a + 4) (q := i) (by omega), n_add (p := b + 4) (q := i) (by omega), n_cl (p := a + 4 + i) (by omega), n_cl (p := b + 4 + i) (by omega), c1, d1]
      refine Pm_chk (fun _ _ => ?_)
      refine Pm_chk (fun _ _ => ?_)
      have kb' : kdN (σ1.2.2 28) b = k := ((EVb_sz hv).2.2).trans kk
      obtain ⟨m52, hch⟩ := htN_ch hS ga (by rw [kk]; omega) pa hp hip c1 c2
      obtain ⟨m62, _⟩ := htN_ch hS gb (by rw [kb']; omega) pb hp hip d1 d2
      obtain ⟨e0, he0⟩ : ∃ e0, d = e0 + 1 := ⟨d - 1, by omega⟩
      subst he0
      show Pm m2 (fun k => ob (x_GC k e0 0 0 (upd (upd (fun _ => 0) 1 (nI c)) 2 (nI e)) σ1) (fun r3 => x_GC k (e0 + 1) 0 7 (upd N 100 r3.1) r3.2)) (fun k => ob (x_GC k e0 0 0 (upd (upd (fun _ => 0) 1 (nI c)) 2 (nI e)) σ1) (fun r3 => x_GC k (e0 + 1) 0 7 (upd N 100 r3.1) r3.2)) _
      have un := s_cmpd hS e0 c e (upd (upd (fun _ => 0) 1 (nI c)) 2 (nI e)) m52 m62 (by omega) rfl rfl
      have mn : Mn (fun k => x_GC k e0 0 0 (upd (upd (fun _ => 0) 1 (nI c)) 2 (nI e)) σ1) := fun k => f_GC k _ _ _ _ _
      refine Pm_ob (Pm_un un mn un mn (ih m2 (by omega) e0 c e _ m52 m62 cd (by omega) rfl rfl)) (fun r1 r2 hr => ?_)
      obtain ⟨⟨hr0, hr0'⟩, hr1, hr2⟩ := hr
      rw [hr0, hr0', hr1, hr2]
      exact b7 m2 (by omega) hip
    have ev6 : ¬ (k = 5 ∨ k = 6) → Pm m1 (fun k => x_GC k d 0 6 N σ1) (fun k => x_GC k d 0 6 N σ1) (fun r1 r2 => r1.1 = 0 ∧ r2.1 = 0) := fun hk => by
      have nr : ¬ (σ1.2.2 28 a = nI 5 ∨ σ1.2.2 28 a = nI 6) := by
        rw [ka]
        exact fun y => hk (y.imp i5.mp i6.mp)
      have cr := EVb_raw hv a3 nr pa hp hip
      refine Pm_suc rfl (fun k => e_compare_6 k _ _ _) (fun k => e_compare_6 k _ _ _) (fun m2 hm2 => ?_)
      rw [n1, n2, n7, show nI a + 4 = nI (a + 4) from n_add (q := 4) (by omega), show nI b + 4 = nI (b + 4) from n_add (q := 4) (by omega), n_add (p := a + 4) (q := i) (by omega), n_add (p := b + 4) (q := i) (by omega), n_cl (p := a + 4 + i) (by omega), n_cl (p := b + 4 + i) (by omega), cr, Int32.sub_self]
      refine Pm_chk (fun _ _ => ?_)
      refine Pm_chk (fun _ _ => ?_)
      exact b7 m2 (by omega) hip
    refine Pm_ite Iff.rfl (fun y _ => ev5 (Or.inl (i5.mp y))) (fun y5 _ => ?_)
    refine Pm_ite Iff.rfl (fun y _ => ev5 (Or.inr (i6.mp y))) (fun y6 _ => ?_)
    exact ev6 (fun y => y.elim (fun q => y5 (i5.mpr q)) (fun q => y6 (i6.mpr q)))
  exact lp m4 0 _ (by omega) (Nat.zero_le _) q1 q2 rfl rfl rfl rfl
end KCV
end JnS154
section JnS155
/-! Two runs side by side (reference): comparing goes alike. -/
section KCW
variable {g1 g2 : Nat → Prop} {l1 l2 : List Nat} {B1 h1 B2 h2 : Nat} {σ1 σ2 : MS}
theorem n_sb {p q p' q' : Nat} (h1 : p' = p) (h2 : q' = q) : nI p - nI q = nI p' - nI q' := by rw [h1, h2]
theorem k_cmp (hS1 : HS g1 l1 B1 h1 σ1) (hS2 : HS g2 l2 B2 h2 σ2) : ∀ (n d a1 b1 a2 b2 : Nat) (L1 L2 : Nat → Int32), (a1 < 3 ∨ g1 a1) → (b1 < 3 ∨ g1 b1) → (a2 < 3 ∨ g2 a2) → (b2 < 3 ∨ g2 b2) → EVb (σ1.2.2 28) (σ2.2.2 28) a1 a2 → EVb (σ1.2.2 28) (σ2.2.2 28) b1 b2 → htN (σ1.2.2 28) a1 ≤ d → L1 1 = nI a1 → L1 2 = nI b1 → L2 1 = nI a2 → L2 2 = nI b2 → Pm n (fun k => x_GC k d 0 0 L1 σ1) (fun k => x_GC k d 0 0 L2 σ2) (fun r1 r2 => r1.1 = r2.1) := by
  intro n
  induction n using Nat.strongRecOn with
  | ind n ih =>
  intro d a1 b1 a2 b2 L1 L2 ha1 hb1 ha2 hb2 va vb hd e1 e2 f1 f2
  have ba1 := HS_vb hS1 ha1
  have bb1 := HS_vb hS1 hb1
  have ba2 := HS_vb hS2 ha2
  have bb2 := HS_vb hS2 hb2
  have hd2 : htN (σ2.2.2 28) a2 ≤ d := by rw [(EVb_sz va).2.1]; exact hd
  by_cases c1 : a1 = b1
  · -- one place on the left
    subst c1
    have hv2 : EVb (σ2.2.2 28) (σ2.2.2 28) a2 b2 := EVb_tr (EVb_sy va) vb
    intro k hk r1 r2 q1 q2
    have z2 := z_cmp hS2 n d a2 b2 L2 ha2 hb2 hv2 hd2 f1 f2 k hk r2 r2 q2 q2
    have z1 := z_cmp hS1 n d a1 a1 L1 ha1 ha1 (EVb_gr hS1.2.2.2.2 (HS_b hS1).2 (fun _ _ _ => rfl) ha1) hd e1 e2 k hk r1 r1 q1 q1
    rw [z1.1, z2.1]
  by_cases c2 : a2 = b2
  · subst c2
    have hv1 : EVb (σ1.2.2 28) (σ1.2.2 28) a1 b1 := EVb_tr va (EVb_sy vb)
    intro k hk r1 r2 q1 q2
    have z1 := z_cmp hS1 n d a1 b1 L1 ha1 hb1 hv1 hd e1 e2 k hk r1 r1 q1 q1
    have z2 := z_cmp hS2 n d a2 a2 L2 ha2 ha2 (EVb_gr hS2.2.2.2.2 (HS_b hS2).2 (fun _ _ _ => rfl) ha2) hd2 f1 f2 k hk r2 r2 q2 q2
    rw [z1.1, z2.1]
  refine Pm_suc rfl (fun k => e_compare_0 k _ _ _) (fun k => e_compare_0 k _ _ _) (fun m1 hm1 => ?_)
  rw [e1, e2, f1, f2]
  refine Pm_ite ⟨fun z => absurd ((n_eq (by omega) (by omega)).mp z) c1, fun z => absurd ((n_eq (by omega) (by omega)).mp z) c2⟩ (fun z _ => absurd ((n_eq (by omega) (by omega)).mp z) c1) (fun _ _ => ?_)
  refine Pm_suc rfl (fun k => e_compare_1 k _ _ _) (fun k => e_compare_1 k _ _ _) (fun m2 hm2 => ?_)
  refine Pm_ob (Pm_t2 (s_rank hS1 ha1 (by exact e1)) (fun k => f_rank k _ _ _) (s_rank hS2 ha2 (by exact f1)) (fun k => f_rank k _ _ _)) (fun r1 r2 hr => ?_)
  rw [hr.1, hr.2]
  refine Pm_ob (Pm_t2 (s_rank hS1 hb1 (by exact e2)) (fun k => f_rank k _ _ _) (s_rank hS2 hb2 (by exact f2)) (fun k => f_rank k _ _ _)) (fun s1 s2 hs => ?_)
  rw [hs.1, hs.2]
  rw [rkN_ev va, rkN_ev vb]
  have rb : ∀ m, (m < 3 ∨ g1 m) → rkN (σ1.2.2 28) m ≤ 7 ∧ (m < 3 → rkN (σ1.2.2 28) m = m) ∧ (¬ m < 3 → 3 ≤ rkN (σ1.2.2 28) m) := fun m hm => by
    unfold rkN
    by_cases c : m < 3
    · rw [if_pos c]; exact ⟨by omega, fun _ => rfl, fun z => absurd c z⟩
    · rw [if_neg c]
      obtain ⟨k, _, _, _, q, _, _⟩ := HS_at hS1 (hm.resolve_left c)
      have hk := q.2.2.2.2.1
      rw [q.1, n_cl (by omega)]
      exact ⟨by omega, fun z => absurd z c, fun _ => by omega⟩
  obtain ⟨ra1, ra2, ra3⟩ := rb a1 ha1
  obtain ⟨rb1, rb2, rb3⟩ := rb b1 hb1
  refine Pm_ite Iff.rfl (fun z _ => ?_) (fun _ _ => Pm_some rfl)
  have z := (n_sub0 (by omega) (by omega)).mp z
  have ca : ¬ a1 < 3 := fun c => by
    have y1 := ra2 c
    by_cases c2 : b1 < 3
    · have y2 := rb2 c2; omega
    · have y2 := rb3 c2; omega
  have cb : ¬ b1 < 3 := fun c => by
    have y1 := rb2 c
    have y2 := ra3 ca
    omega
  obtain ⟨k, p, ga2, a13, a23, k6, hp, k2, kk, ka1, ka2, pa1, pa2, qa1, qa2⟩ := EVb_ob hS1 hS2 (ha1.resolve_left ca) va ha2
  obtain ⟨k', p', gb2, b13, b23, k6', hp', k2', kk', kb1, kb2, pb1, pb2, qb1, qb2⟩ := EVb_ob hS1 hS2 (hb1.resolve_left cb) vb hb2
  have ga1 := ha1.resolve_left ca
  have gb1 := hb1.resolve_left cb
  have ek : k' = k := by
    unfold rkN at z
    rw [if_neg ca, if_neg cb, ka1, kb1, n_cl (by omega), n_cl (by omega)] at z
    omega
  subst ek
  generalize hM1 : upd L1 3 (nI (rkN (σ1.2.2 28) a1) - nI (rkN (σ1.2.2 28) b1)) = M1
  generalize hM2 : upd L2 3 (nI (rkN (σ1.2.2 28) a1) - nI (rkN (σ1.2.2 28) b1)) = M2
  have q11 : M1 1 = nI a1 := by rw [← hM1]; exact e1
  have q12 : M1 2 = nI b1 := by rw [← hM1]; exact e2
  have q21 : M2 1 = nI a2 := by rw [← hM2]; exact f1
  have q22 : M2 2 = nI b2 := by rw [← hM2]; exact f2
  refine Pm_suc rfl (fun k => e_compare_2 k _ _ _) (fun k => e_compare_2 k _ _ _) (fun m3 hm3 => ?_)
  rw [q11, q21, n_cl (p := a1) (by omega), n_cl (p := a2) (by omega), ka1, ka2]
  refine Pm_chk (fun _ _ => ?_)
  obtain ⟨i5, i6, i2⟩ := k56 k6.2
  refine Pm_ite Iff.rfl (fun z _ => ?_) (fun z _ => ?_)
  · have z := i2.mp z
    have nra : ¬ (σ1.2.2 28 a1 = nI 5 ∨ σ1.2.2 28 a1 = nI 6) := by
      rw [ka1]
      intro y
      rcases y with y | y
      · exact absurd (i5.mp y) (by omega)
      · exact absurd (i6.mp y) (by omega)
    have nrb : ¬ (σ1.2.2 28 b1 = nI 5 ∨ σ1.2.2 28 b1 = nI 6) := by
      rw [kb1, ← ka1]; exact nra
    refine Pm_ob (k_compareWholes hS1 hS2 pa1 pa2 pb1 pb2 hp hp' (k2 z) (k2' z) qa1 qa2 qb1 qb2 (fun i hi => EVb_raw va a13 nra pa1 hp hi) (fun i hi => EVb_raw vb b13 nrb pb1 hp' hi) rfl (by exact q12) rfl (by exact q22)) (fun r1 r2 hr => ?_)
    exact Pm_some hr
  refine Pm_suc rfl (fun k => e_compare_3 k _ _ _) (fun k => e_compare_3 k _ _ _) (fun m4 hm4 => ?_)
  rw [show upd M1 4 (nI k') 1 = nI a1 from q11, show upd M1 4 (nI k') 2 = nI b1 from q12, show upd M2 4 (nI k') 1 = nI a2 from q21, show upd M2 4 (nI k') 2 = nI b2 from q22, n_add1, n_add1, n_add1, n_add1, n_cl (p := a1 + 1) (by omega), n_cl (p := b1 + 1) (by omega), n_cl (p := a2 + 1) (by omega), n_cl (p := b2 + 1) (by omega), pa1, pb1, pa2, pb2]
  refine Pm_chk (fun _ _ => ?_)
  refine Pm_chk (fun _ _ => ?_)
  have lp : ∀ (m i : Nat) (N1 N2 : Nat → Int32), m < n → i ≤ p → N1 1 = nI a1 → N1 2 = nI b1 → N1 4 = nI k' → N1 5 = nI p → N1 6 = nI p' → N1 7 = nI i → N2 1 = nI a2 → N2 2 = nI b2 → N2 4 = nI k' → N2 5 = nI p → N2 6 = nI p' → N2 7 = nI i → Pm m (fun k => x_GC k d 0 4 N1 σ1) (fun k => x_GC k d 0 4 N2 σ2) (fun r1 r2 => r1.1 = r2.1) := by
    intro m
    induction m using Nat.strongRecOn with
    | ind m ihm =>
    intro i N1 N2 hm hi n1 n2 n4 n5 n6 n7 o1 o2 o4 o5 o6 o7
    have b9 : ∀ m', Pm m' (fun k => x_GC k d 0 9 N1 σ1) (fun k => x_GC k d 0 9 N2 σ2) (fun r1 r2 => r1.1 = r2.1) := fun m' => by
      refine Pm_suc rfl (fun k => e_compare_9 k _ _ _) (fun k => e_compare_9 k _ _ _) (fun m'' _ => ?_)
      rw [n5, n6, o5, o6]
      exact Pm_some rfl
    have b7 : ∀ (m' : Nat) (x : Int32), m' < m → i < p → Pm m' (fun k => x_GC k d 0 7 (upd N1 100 x) σ1) (fun k => x_GC k d 0 7 (upd N2 100 x) σ2) (fun r1 r2 => r1.1 = r2.1) := by
      intro m' x hm' hip
      refine Pm_suc rfl (fun k => e_compare_7 k _ _ _) (fun k => e_compare_7 k _ _ _) (fun m1 h1 => ?_)
      refine Pm_ite Iff.rfl (fun _ _ => ?_) (fun _ _ => Pm_some rfl)
      refine Pm_suc rfl (fun k => e_compare_8 k _ _ _) (fun k => e_compare_8 k _ _ _) (fun m2 h2 => ?_)
      exact ihm m2 (by omega) (i + 1) _ _ (by omega) (by omega) n1 n2 n4 n5 n6 (by show N1 7 + 1 = _; rw [n7, n_add1]) o1 o2 o4 o5 o6 (by show N2 7 + 1 = _; rw [o7, n_add1])
    refine Pm_suc rfl (fun k => e_compare_4 k _ _ _) (fun k => e_compare_4 k _ _ _) (fun m1 hm1 => ?_)
    rw [n4, n5, n6, n7, o4, o5, o6, o7]
    refine Pm_ite Iff.rfl (fun _ _ => b9 m1) (fun w _ => ?_)
    have hip : i < p := by
      by_cases q : p ≤ i
      · exact absurd ((n_le (by omega) (by omega)).mpr q) w
      · omega
    refine Pm_ite Iff.rfl (fun _ _ => b9 m1) (fun w' _ => ?_)
    have hip' : i < p' := by
      by_cases q : p' ≤ i
      · exact absurd ((n_le (by omega) (by omega)).mpr q) w'
      · omega
    have ev5 : k' = 5 ∨ k' = 6 → Pm m1 (fun k => x_GC k d 0 5 N1 σ1) (fun k => x_GC k d 0 5 N2 σ2) (fun r1 r2 => r1.1 = r2.1) := fun hk => by
      obtain ⟨c, e, y1, y2, y3, y4, cd⟩ := EVb_mem va a13 (by rw [ka1]; exact hk.imp (fun y => by rw [y]) (fun y => by rw [y])) pa1 hp hip
      obtain ⟨c', e', x1, x2, x3, x4, cd'⟩ := EVb_mem vb b13 (by rw [kb1]; exact hk.imp (fun y => by rw [y]) (fun y => by rw [y])) pb1 hp' hip'
      refine Pm_suc rfl (fun k => e_compare_5 k _ _ _) (fun k => e_compare_5 k _ _ _) (fun m2 hm2 => ?_)
      rw [n1, n2, n7, o1, o2, o7, show nI a1 + 4 = nI (a1 + 4) from n_add (q := 4) (by omega), show nI b1 + 4 = nI (b1 + 4) from n_add (q := 4) (by omega), show nI a2 + 4 = nI (a2 + 4) from n_add (q := 4) (by omega), show nI b2 + 4 = nI (b2 + 4) from n_add (q := 4) (by omega), n_add (p := a1 + 4) (q := i) (by omega), n_add (p := b1 + 4) (q := i) (by omega), n_add (p := a2 + 4) (q := i) (by omega), n_add (p := b2 + 4) (q := i) (by omega), n_cl (p := a1 + 4 + i) (by omega), n_cl (p := b1 + 4 + i) (by omega), n_cl (p := a2 + 4 + i) (by omega), n_cl (p := b2 + 4 + i) (by omega), y1, y3, x1, x3]
      refine Pm_chk (fun _ _ => ?_)
      refine Pm_chk (fun _ _ => ?_)
      have ka' : kdN (σ2.2.2 28) a2 = k' := ((EVb_sz va).2.2).trans kk
      have kb' : kdN (σ2.2.2 28) b2 = k' := ((EVb_sz vb).2.2).trans kk'
      obtain ⟨u1, hch⟩ := htN_ch hS1 ga1 (by rw [kk]; omega) pa1 hp hip y1 y2
      obtain ⟨u2, _⟩ := htN_ch hS1 gb1 (by rw [kk']; omega) pb1 hp' hip' x1 x2
      obtain ⟨u3, _⟩ := htN_ch hS2 ga2 (by rw [ka']; omega) pa2 hp hip y3 y4
      obtain ⟨u4, _⟩ := htN_ch hS2 gb2 (by rw [kb']; omega) pb2 hp' hip' x3 x4
      obtain ⟨e0, he0⟩ : ∃ e0, d = e0 + 1 := ⟨d - 1, by omega⟩
      subst he0
      show Pm m2 (fun k => ob (x_GC k e0 0 0 (upd (upd (fun _ => 0) 1 (nI c)) 2 (nI c')) σ1) (fun r3 => x_GC k (e0 + 1) 0 7 (upd N1 100 r3.1) r3.2)) (fun k => ob (x_GC k e0 0 0 (upd (upd (fun _ => 0) 1 (nI e)) 2 (nI e')) σ2) (fun r3 => x_GC k (e0 + 1) 0 7 (upd N2 100 r3.1) r3.2)) _
      have un1 := s_cmpd hS1 e0 c c' (upd (upd (fun _ => 0) 1 (nI c)) 2 (nI c')) u1 u2 (by omega) rfl rfl
      have un2 := s_cmpd hS2 e0 e e' (upd (upd (fun _ => 0) 1 (nI e)) 2 (nI e')) u3 u4 (by rw [(EVb_sz cd).2.1]; omega) rfl rfl
      refine Pm_ob (Pm_un un1 (fun k => f_GC k _ _ _ _ _) un2 (fun k => f_GC k _ _ _ _ _) (ih m2 (by omega) e0 c c' e e' _ _ u1 u2 u3 u4 cd cd' (by omega) rfl rfl rfl rfl)) (fun r1 r2 hr => ?_)
      obtain ⟨hr0, hr1, hr2⟩ := hr
      rw [hr0, hr1, hr2]
      exact b7 m2 _ (by omega) hip
    have ev6 : ¬ (k' = 5 ∨ k' = 6) → Pm m1 (fun k => x_GC k d 0 6 N1 σ1) (fun k => x_GC k d 0 6 N2 σ2) (fun r1 r2 => r1.1 = r2.1) := fun hk => by
      have nra : ¬ (σ1.2.2 28 a1 = nI 5 ∨ σ1.2.2 28 a1 = nI 6) := by
        rw [ka1]
        exact fun y => hk (y.imp i5.mp i6.mp)
      have nrb : ¬ (σ1.2.2 28 b1 = nI 5 ∨ σ1.2.2 28 b1 = nI 6) := by
        rw [kb1, ← ka1]; exact nra
      have cra := EVb_raw va a13 nra pa1 hp hip
      have crb := EVb_raw vb b13 nrb pb1 hp' hip'
      refine Pm_suc rfl (fun k => e_compare_6 k _ _ _) (fun k => e_compare_6 k _ _ _) (fun m2 hm2 => ?_)
      rw [n1, n2, n7, o1, o2, o7, show nI a1 + 4 = nI (a1 + 4) from n_add (q := 4) (by omega), show nI b1 + 4 = nI (b1 + 4) from n_add (q := 4) (by omega), show nI a2 + 4 = nI (a2 + 4) from n_add (q := 4) (by omega), show nI b2 + 4 = nI (b2 + 4) from n_add (q := 4) (by omega), n_add (p := a1 + 4) (q := i) (by omega), n_add (p := b1 + 4) (q := i) (by omega), n_add (p := a2 + 4) (q := i) (by omega), n_add (p := b2 + 4) (q := i) (by omega), n_cl (p := a1 + 4 + i) (by omega), n_cl (p := b1 + 4 + i) (by omega), n_cl (p := a2 + 4 + i) (by omega), n_cl (p := b2 + 4 + i) (by omega), cra, crb]
      refine Pm_chk (fun _ _ => ?_)
      refine Pm_chk (fun _ _ => ?_)
      exact b7 m2 _ (by omega) hip
    refine Pm_ite Iff.rfl (fun y _ => ev5 (Or.inl (i5.mp y))) (fun y5 _ => ?_)
    refine Pm_ite Iff.rfl (fun y _ => ev5 (Or.inr (i6.mp y))) (fun y6 _ => ?_)
    exact ev6 (fun y => y.elim (fun q => y5 (i5.mpr q)) (fun q => y6 (i6.mpr q)))
  exact lp m4 0 _ _ (by omega) (Nat.zero_le _) q11 q12 rfl rfl rfl rfl q21 q22 rfl rfl rfl rfl
theorem k_compare (hS1 : HS g1 l1 B1 h1 σ1) (hS2 : HS g2 l2 B2 h2 σ2) {n a1 b1 a2 b2 : Nat} {L1 L2 : Nat → Int32} (ha1 : a1 < 3 ∨ g1 a1) (hb1 : b1 < 3 ∨ g1 b1) (ha2 : a2 < 3 ∨ g2 a2) (hb2 : b2 < 3 ∨ g2 b2) (va : EVb (σ1.2.2 28) (σ2.2.2 28) a1 a2) (vb : EVb (σ1.2.2 28) (σ2.2.2 28) b1 b2) (e1 : L1 1 = nI a1) (e2 : L1 2 = nI b1) (f1 : L2 1 = nI a2) (f2 : L2 2 = nI b2) : Pm n (fun k => x_compare k 0 L1 σ1) (fun k => x_compare k 0 L2 σ2) (fun r1 r2 => r1.1 = r2.1 ∧ r1.2 = σ1 ∧ r2.2 = σ2) :=
  Pm_un (s_compareV hS1 ha1 hb1 e1 e2) (fun k => f_compare k _ _ _) (s_compareV hS2 ha2 hb2 f1 f2) (fun k => f_compare k _ _ _) (k_cmp hS1 hS2 n 40 a1 b1 a2 b2 L1 L2 ha1 hb1 ha2 hb2 va vb (by have := (szN_b hS1 ha1).2.2; omega) e1 e2 f1 f2)
end KCW
end JnS155

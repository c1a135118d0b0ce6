/-! The sweep: what it leaves is a heap (reference). -/
/-- two values with the same head -/
def VR (H0 H : Nat → Int32) (m m' : Nat) : Prop := (m < 3 ∧ m' = m) ∨ (3 ≤ m ∧ 3 ≤ m' ∧ ∀ i, i < 4 → H (m' + i) = H0 (m + i))
/-- R ties values of two heaps that hold the same -/
def Bis (R : Nat → Nat → Prop) (H0 H : Nat → Int32) : Prop := ∀ a b, R a b → (a < 3 ∧ b = a) ∨ (3 ≤ a ∧ 3 ≤ b ∧ (∀ i, i < 4 → H (b + i) = H0 (a + i)) ∧ ∀ n, H0 (a + 1) = nI n → n ≤ 3996 → ∀ i, i < n → ((H0 a = nI 5 ∨ H0 a = nI 6) ∧ ∃ c d, H0 (a + 4 + i) = nI c ∧ c < 1740000 ∧ H (b + 4 + i) = nI d ∧ d < 1740000 ∧ R c d) ∨ (¬ (H0 a = nI 5 ∨ H0 a = nI 6) ∧ H (b + 4 + i) = H0 (a + 4 + i)))
/-- two values that hold the same -/
def EVb (H0 H : Nat → Int32) (m m' : Nat) : Prop := ∃ R, Bis R H0 H ∧ R m m'
/-- a value of one heap and what it has become in another -/
def VC (g g' : Nat → Prop) (H0 H : Nat → Int32) (x y : Int32) : Prop := ∃ m m', x = nI m ∧ (m < 3 ∨ g m) ∧ y = nI m' ∧ (m' < 3 ∨ g' m') ∧ EVb H0 H m m' ∧ m < 1740000 ∧ m' < 1740000
section SWH
variable {H0 H : Nat → Int32} {g : Nat → Prop} {l l' : List Nat} {B h B' h' s : Nat} {mv : Nat → Bool} {φ : Nat → Nat}
theorem VR_sz {m m' : Nat} (h : VR H0 H m m') : szN H m' = szN H0 m ∧ htN H m' = htN H0 m ∧ kdN H m' = kdN H0 m := by
  rcases h with ⟨h1, h2⟩ | ⟨h1, h2, h3⟩
  · subst h2
    unfold szN htN kdN
    rw [if_pos h1, if_pos h1, if_pos h1, if_pos h1, if_pos h1, if_pos h1]
    exact ⟨rfl, rfl, rfl⟩
  · unfold szN htN kdN
    rw [if_neg (by omega), if_neg (by omega), if_neg (by omega), if_neg (by omega), if_neg (by omega), if_neg (by omega), if_neg (by omega), if_neg (by omega), h3 2 (by omega), h3 3 (by omega), show H m' = H0 m from h3 0 (by omega)]
    exact ⟨rfl, rfl, rfl⟩
theorem VR_rf {m : Nat} : VR H H m m := by
  by_cases h : m < 3
  · exact Or.inl ⟨h, rfl⟩
  · exact Or.inr ⟨by omega, by omega, fun _ _ => rfl⟩
theorem VR_tr {H1 : Nat → Int32} {a b c : Nat} (p : VR H0 H1 a b) (q : VR H1 H b c) : VR H0 H a c := by
  rcases p with ⟨p1, p2⟩ | ⟨p1, p2, p3⟩
  · subst p2
    rcases q with q | ⟨q1, q2, q3⟩
    · exact Or.inl q
    · omega
  · rcases q with ⟨q1, q2⟩ | ⟨q1, q2, q3⟩
    · omega
    · exact Or.inr ⟨p1, q2, fun i hi => (q3 i hi).trans (p3 i hi)⟩
theorem EVb_VR {m m' : Nat} (h : EVb H0 H m m') : VR H0 H m m' := by
  obtain ⟨R, hR, h⟩ := h
  rcases hR m m' h with z | ⟨z1, z2, z3, _⟩
  · exact Or.inl z
  · exact Or.inr ⟨z1, z2, z3⟩
theorem EVb_tr {H1 : Nat → Int32} {a b c : Nat} (p : EVb H0 H1 a b) (q : EVb H1 H b c) : EVb H0 H a c := by
  obtain ⟨R, hR, p⟩ := p
  obtain ⟨S, hS, q⟩ := q
  refine ⟨fun x z => ∃ y, R x y ∧ S y z, ?_, b, p, q⟩
  intro x z hxz
  obtain ⟨y, h1, h2⟩ := hxz
  rcases hR x y h1 with ⟨a1, a2⟩ | ⟨a1, a2, a3, a4⟩
  · subst a2
    rcases hS y z h2 with b1 | ⟨b1, _⟩
    · exact Or.inl b1
    · omega
  · rcases hS y z h2 with ⟨b1, b2⟩ | ⟨b1, b2, b3, b4⟩
    · omega
    · have k0 : H1 y = H0 x := a3 0 (by omega)
      refine Or.inr ⟨a1, b2, fun i hi => (b3 i hi).trans (a3 i hi), fun n hn hn2 i hi => ?_⟩
      have c1 := a4 n hn hn2 i hi
      have c2 := b4 n ((a3 1 (by omega)).trans hn) hn2 i hi
      rw [k0] at c2
      rcases c1 with ⟨k, u, v, u1, u2, v1, v2, uv⟩ | ⟨k, e⟩
      · rcases c2 with ⟨_, v', w, v3, v4, w1, w2, vw⟩ | ⟨k', _⟩
        · have : v' = v := (n_eq (by omega) (by omega)).mp (v3.symm.trans v1)
          subst this
          exact Or.inl ⟨k, u, w, u1, u2, w1, w2, v', uv, vw⟩
        · exact absurd k k'
      · rcases c2 with ⟨k', _⟩ | ⟨_, e2⟩
        · exact absurd k' k
        · exact Or.inr ⟨k, e2.trans e⟩
theorem EVb_sy {m m' : Nat} (h : EVb H0 H m m') : EVb H H0 m' m := by
  obtain ⟨R, hR, h⟩ := h
  refine ⟨fun x y => R y x, fun x y hxy => ?_, h⟩
  rcases hR y x hxy with ⟨z1, z2⟩ | ⟨a1, a2, a3, a4⟩
  · exact Or.inl ⟨by omega, z2.symm⟩
  · have k0 : H x = H0 y := a3 0 (by omega)
    refine Or.inr ⟨a2, a1, fun i hi => (a3 i hi).symm, fun n hn hn2 i hi => ?_⟩
    rw [k0]
    rcases a4 n ((a3 1 (by omega)).symm.trans hn) hn2 i hi with ⟨k, u, v, u1, u2, v1, v2, uv⟩ | ⟨k, e⟩
    · exact Or.inl ⟨k, v, u, v1, v2, u1, u2, uv⟩
    · exact Or.inr ⟨k, e.symm⟩
/-- the heap grows, or only other cells change -/
theorem EVb_gr {a b : Nat} (hO : HO H0 g l a b) (hb : b ≤ 1740000) (he : ∀ i, a ≤ i → i < b → H i = H0 i) {m : Nat} (hm : m < 3 ∨ g m) : EVb H0 H m m := by
  refine ⟨fun x y => x = y ∧ (x < 3 ∨ g x), fun x y hxy => ?_, rfl, hm⟩
  obtain ⟨h1, h2⟩ := hxy
  subst h1
  by_cases c : x < 3
  · exact Or.inl ⟨c, rfl⟩
  have gx := h2.resolve_left c
  obtain ⟨k, n, s, t, q1, q2, q3⟩ := HO_at hO (by omega) gx
  refine Or.inr ⟨by omega, by omega, fun i hi => he _ (by omega) (by omega), fun n' hn hn2 i hi => ?_⟩
  have e : n = n' := (n_eq (by have := q1.2.2.2.2.2.2.2.1; omega) (by omega)).mp (q1.2.1.symm.trans hn)
  subst e
  by_cases k5 : H0 x = nI 5 ∨ H0 x = nI 6
  · have hk : 5 ≤ k := by
      have k6 := q1.2.2.2.2.1
      rcases k5 with z | z
      · have := (n_eq (p := k) (q := 5) (by omega) (by decide)).mp (q1.1.symm.trans z)
        omega
      · have := (n_eq (p := k) (q := 6) (by omega) (by decide)).mp (q1.1.symm.trans z)
        omega
    obtain ⟨c, c1, c2, _⟩ := (q1.2.2.2.2.2.2.2.2.2.2.2 hk).2 i hi
    have hc : c < 1740000 := by
      rcases c2 with z | z
      · omega
      · obtain ⟨_, _, _, _, _, _, y⟩ := HO_at hO (by omega) z
        omega
    exact Or.inl ⟨k5, c, c, c1, hc, (he _ (by omega) (by omega)).trans c1, hc, rfl, c2⟩
  · exact Or.inr ⟨k5, he _ (by omega) (by omega)⟩
/-- the head of what was moved -/
theorem SwI_hd (hI : SwI H0 g l B h B' h' s H mv φ l') {v : Nat} (hm : mv v = true) : φ v ∈ l' ∧ B' + 4 ≤ φ v ∧ φ v < h' ∧ ∀ i, i < 4 → H (φ v + i) = H0 (v + i) := by
  obtain ⟨i1, i2, i3, i4, i5, i6, i7⟩ := hI
  have hl := (i3 v hm).2
  obtain ⟨q1, n, q2, q3⟩ := Til_mem l' _ i1 _ hl
  obtain ⟨u, k, u1, u2, u3, u4, u5, u6, u7⟩ := i6 _ hl
  have e : u = v := i7 u v u1 hm u2
  subst e
  exact ⟨hl, q1, by omega, u6⟩
theorem SWV_VR (hO : HO H0 g l (B + 4) h) (hh : h ≤ B + 870000) (hBB : (B = 0 ∧ B' = 870000) ∨ (B = 870000 ∧ B' = 0)) (hI : SwI H0 g l B h B' h' s H mv φ l') {m : Nat} {x : Int32} (hm : m < 3 ∨ g m) (hx : SWV mv φ m x) : ∃ m', x = nI m' ∧ m' < 1740000 ∧ (m' < 3 ∨ ∃ v, mv v = true ∧ φ v = m') ∧ VR H0 H m m' := by
  rcases hx with ⟨x1, x2⟩ | ⟨x1, x2⟩
  · exact ⟨m, x2, by omega, Or.inl x1, Or.inl ⟨x1, rfl⟩⟩
  · obtain ⟨q1, q2, q3, q4⟩ := SwI_hd hI x1
    have gm := (hI.2.2.1 m x1).1
    obtain ⟨_, n, _, _, p1, p2, p3⟩ := HO_at hO (by omega) gm
    have hr : h' + rmS H0 mv l ≤ B' + (h - B) := hI.2.1
    exact ⟨φ m, x2, by omega, Or.inr ⟨m, x1, rfl⟩, Or.inr ⟨by omega, by omega, q4⟩⟩
theorem SwI_HO (hO : HO H0 g l (B + 4) h) (hh : h ≤ B + 870000) (hBB : (B = 0 ∧ B' = 870000) ∨ (B = 870000 ∧ B' = 0)) (hI : SwI H0 g l B h B' h' h' H mv φ l') : HO H (fun w => ∃ v, mv v = true ∧ φ v = w) l' (B' + 4) h' := by
  have hgb : ∀ m, m < 3 ∨ g m → m < 1740000 := fun m z => by
    rcases z with z | z
    · omega
    · obtain ⟨_, _, _, _, _, _, y⟩ := HO_at hO (by omega) z
      omega
  refine ⟨hI.1, fun w hw => ?_⟩
  obtain ⟨v, v1, v2⟩ := hw
  subst v2
  have hg := (hI.2.2.1 v v1).1
  obtain ⟨k, n, s0, t0, q1, q2, q3⟩ := HO_at hO (by omega) hg
  obtain ⟨c1, c2, c3, c4, c5, c6, c7, c8, c9, c10, c11, c12⟩ := q1
  obtain ⟨w1, w2, w3, w4⟩ := SwI_at hI v1 c2 c8
  have cell : ∀ i, i < n → SwC H0 mv φ v i (H (φ v + 4 + i)) := fun i hi => by
    rcases w4 i hi with z | z
    · omega
    · exact z.2
  have plain : k < 5 → ∀ i, i < n → H (φ v + 4 + i) = H0 (v + 4 + i) := fun hk i hi => by
    rcases cell i hi with z | z
    · exfalso
      rcases z.1 with y | y
      · have := (n_eq (p := k) (q := 5) (by omega) (by decide)).mp (c1.symm.trans y)
        omega
      · have := (n_eq (p := k) (q := 6) (by omega) (by decide)).mp (c1.symm.trans y)
        omega
    · exact z.2
  refine ⟨w1, k, n, s0, t0, (w3 0 (by omega)).trans c1, (w3 1 (by omega)).trans c2, (w3 2 (by omega)).trans c3, (w3 3 (by omega)).trans c4, c5, c6, c7, c8, fun e => ?_, fun e => ?_, c11, fun e => ?_⟩
  · obtain ⟨d1, d2, d3, d4⟩ := c9 e
    refine ⟨d1, d2, d3, fun i hi => ?_, ?_⟩
    · obtain ⟨d, y1, y2⟩ := d4.1 i hi
      refine ⟨d, y1, ?_⟩
      rw [show φ v + 5 + i = φ v + 4 + (i + 1) by omega, plain (by omega) (i + 1) (by omega), show v + 4 + (i + 1) = v + 5 + i by omega]
      exact y2
    · unfold SgOK
      have := plain (by omega) 0 (by omega)
      rw [show φ v + 4 = φ v + 4 + 0 from rfl, this]; exact d4.2
  · obtain ⟨d1, d2, a, d3, d4⟩ := c10 e
    refine ⟨d1, d2, a, d3, ?_⟩
    have := plain (by omega) 0 (by omega)
    rw [show φ v + 4 = φ v + 4 + 0 from rfl, this]; exact d4
  · obtain ⟨d1, d2⟩ := c12 e
    -- each member
    have mem : ∀ i, i < n → ∃ m m', H0 (v + 4 + i) = nI m ∧ m < 2147483648 ∧ htN H0 m < t0 ∧ H (φ v + 4 + i) = nI m' ∧ m' < 1740000 ∧ (m' < 3 ∨ ∃ v, mv v = true ∧ φ v = m') ∧ VR H0 H m m' := fun i hi => by
      obtain ⟨m, m1, m2, m3⟩ := d2 i hi
      have hmb : m < 2147483648 := Nat.lt_trans (hgb m m2) (by decide)
      rcases cell i hi with z | z
      · obtain ⟨u, u1, u2⟩ := z.2
        have hub : u < 2147483648 := Nat.lt_trans (hgb u (u2.imp (fun z => z.1) (fun z => (hI.2.2.1 u z.1).1))) (by decide)
        have e : u = m := (n_eq hub hmb).mp (u1.symm.trans m1)
        subst e
        obtain ⟨m', y1, y2, y3, y4⟩ := SWV_VR hO hh hBB hI m2 u2
        exact ⟨u, m', m1, hmb, m3, y1, y2, y3, y4⟩
      · exfalso
        refine z.1 ?_
        have : k = 5 ∨ k = 6 := by omega
        rcases this with y | y
        · exact Or.inl (by rw [← y]; exact c1)
        · exact Or.inr (by rw [← y]; exact c1)
    have hs : ∀ j, j ≤ n → smS H (φ v) j = smS H0 v j := by
      intro j
      induction j with
      | zero => intro _; rfl
      | succ j ih =>
        intro hj
        obtain ⟨m, m', m1, m2, m3, m4, m5, m6, m7⟩ := mem j (by omega)
        show smS H (φ v) j + szN H (H (φ v + 4 + j)).toNatClampNeg = smS H0 v j + szN H0 (H0 (v + 4 + j)).toNatClampNeg
        rw [ih (by omega), m1, m4, n_cl m2, n_cl (p := m') (by omega), (VR_sz m7).1]
    refine ⟨by rw [hs n (Nat.le_refl _)]; exact d1, fun i hi => ?_⟩
    obtain ⟨m, m', m1, m2, m3, m4, m5, m6, m7⟩ := mem i hi
    exact ⟨m', m4, m6, by rw [(VR_sz m7).2.1]; exact m3⟩
/-- what a sweep has moved holds the same -/
theorem SwI_bis (hO : HO H0 g l (B + 4) h) (hh : h ≤ B + 870000) (hBB : (B = 0 ∧ B' = 870000) ∨ (B = 870000 ∧ B' = 0)) (hI : SwI H0 g l B h B' h' h' H mv φ l') : Bis (fun a b => (a < 3 ∧ b = a) ∨ (mv a = true ∧ b = φ a)) H0 H := by
  have hb : h' ≤ B' + 870000 := by
    have hr : h' + rmS H0 mv l ≤ B' + (h - B) := hI.2.1
    omega
  have hgb : ∀ m, mv m = true → m < 1740000 ∧ φ m < 1740000 := fun m z => by
    have gm := (hI.2.2.1 m z).1
    obtain ⟨_, _, _, _, _, _, y⟩ := HO_at hO (by omega) gm
    obtain ⟨q1, q2, q3, q4⟩ := SwI_hd hI z
    omega
  intro x y hxy
  rcases hxy with z | ⟨hx, hy⟩
  · exact Or.inl z
  · subst hy
    obtain ⟨q1, q2, q3, q4⟩ := SwI_hd hI hx
    have gx := (hI.2.2.1 x hx).1
    obtain ⟨_, _, _, _, _, p2, _⟩ := HO_at hO (by omega) gx
    refine Or.inr ⟨by omega, by omega, q4, fun n hn hn2 i hi => ?_⟩
    have hc := (SwI_at hI hx hn hn2).2.2.2 i hi
    have hlt := (SwI_at hI hx hn hn2).2.1
    rcases hc with z | ⟨_, z⟩
    · omega
    · rcases z with ⟨k, m, m1, m2⟩ | z
      · rcases m2 with ⟨m3, m4⟩ | ⟨m3, m4⟩
        · exact Or.inl ⟨k, m, m, m1, by omega, m4, by omega, Or.inl ⟨m3, rfl⟩⟩
        · have := hgb m m3
          exact Or.inl ⟨k, m, φ m, m1, this.1, m4, this.2, Or.inr ⟨m3, rfl⟩⟩
      · exact Or.inr z
end SWH

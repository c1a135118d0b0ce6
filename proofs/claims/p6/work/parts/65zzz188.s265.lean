/-! What lives at a statement's begin (reference). -/
section LVR
variable {H : Nat → Int32} {g : Nat → Prop} {l : List Nat} {a b : Nat}
/-- a row of roots -/
theorem LVc_row (hO : HO H g l a b) (hb : b ≤ 1740000) {val c : Nat → Nat} {P : Nat → Prop} : ∀ (n : Nat) {S : Nat → Prop} {X : Nat}, (∀ i, i < n → P i → (val i < 3 ∨ g (val i)) ∧ (3 ≤ val i → szN H (val i) ≤ c i)) → LVc X H S → LVc (X + 6 * suN c n) H (fun v => S v ∨ ∃ i, i < n ∧ P i ∧ v = val i ∧ 3 ≤ v) := by
  intro n
  induction n with
  | zero =>
    intro S X h hL
    refine LVc_le (LVc_mo (fun v z => ?_) hL) (by omega)
    rcases z with z | ⟨i, hi, _⟩
    · exact Rch_b z
    · omega
  | succ n ih =>
    intro S X h hL
    have hI := ih (fun i hi => h i (by omega)) hL
    have es : suN c (n + 1) = suN c n + c n := rfl
    by_cases z : P n ∧ 3 ≤ val n
    · obtain ⟨h1, h2⟩ := h n (by omega) z.1
      have h2 := h2 z.2
      refine LVc_le (LVc_mo (fun v y => Rch_b ?_) (LVc_add hO hb h1 hI)) (by omega)
      rcases y with y | ⟨i, hi, p1, p2, p3⟩
      · exact Or.inl (Or.inl y)
      · by_cases e : i = n
        · subst e; exact Or.inr ⟨p2, z.2⟩
        · exact Or.inl (Or.inr ⟨i, by omega, p1, p2, p3⟩)
    · refine LVc_le (LVc_mo (fun v y => Rch_b ?_) hI) (by omega)
      rcases y with y | ⟨i, hi, p1, p2, p3⟩
      · exact Or.inl y
      · by_cases e : i = n
        · subst e; exact absurd ⟨p1, by omega⟩ z
        · exact Or.inr ⟨i, by omega, p1, p2, p3⟩
theorem LVc_rw (hO : HO H g l a b) (hb : b ≤ 1740000) {val c : Nat → Nat} {P : Nat → Prop} {n Y X : Nat} {S : Nat → Prop} (hY : suN c n = Y) (h : ∀ i, i < n → P i → (val i < 3 ∨ g (val i)) ∧ (3 ≤ val i → szN H (val i) ≤ c i)) (hL : LVc X H S) : LVc (X + 6 * Y) H (fun v => S v ∨ ∃ i, i < n ∧ P i ∧ v = val i ∧ 3 ≤ v) := by
  rw [← hY]; exact LVc_row hO hb n h hL
theorem suN_k {k : Nat} : ∀ (n : Nat), suN (fun _ => k) n = k * n
  | 0 => rfl
  | n + 1 => by
    show suN (fun _ => k) n + k = k * (n + 1)
    rw [suN_k n, Nat.mul_succ]
end LVR
section LVA
variable {g : Nat → Prop} {l : List Nat} {B h : Nat} {σ : MS}
/-- what lives, with nothing upon the pile and no iterators -/
theorem lv_all (hS : HS g l B h σ) (hQ : RtQ σ) (hV : ∀ a i, RtP 0 σ a i → Vd g (σ.2.2 a i)) (hU : UT σ) (h72 : σ.1 72 = 0) : LVc 400000 (σ.2.2 28) (RoS 0 σ) := by
  have hb := HS_b hS
  have hO := hS.2.2.2.2
  obtain ⟨P, e, q1, q2, q3, q4, ⟨c, n, b1, b2, b3, b4⟩, q6⟩ := hQ
  obtain ⟨h64, P', h63, hP', h65, h32, hl, o1, o2, o3, o4, o5⟩ := hU
  have eP : P' = P := (n_eq (by omega) (by omega)).mp (h63.symm.trans q1)
  subst eP
  have vv : ∀ a i, RtP 0 σ a i → ((σ.2.2 a i).toNatClampNeg < 3 ∨ g (σ.2.2 a i).toNatClampNeg) ∧ (σ.2.2 a i).toNatClampNeg < 1740000 ∧ σ.2.2 a i = nI (σ.2.2 a i).toNatClampNeg := fun a i z => by
    obtain ⟨m, m1, m2⟩ := hV a i z
    have bm := HS_vb hS m2
    rw [m1, n_cl (p := m) (by omega)]
    exact ⟨m2, bm, rfl⟩
  have sz1 : ∀ a i, RtP 0 σ a i → szN (σ.2.2 28) (σ.2.2 a i).toNatClampNeg ≤ 1000 := fun a i z => (szN_b hS (vv a i z).1).2.1
  have L0 : LVc 0 (σ.2.2 28) (fun _ => False) := fun N => by
    rw [lvN_no (fun v (z : Rch (σ.2.2 28) (fun _ => False) v) => z (fun _ => False) (fun _ y => y) (fun _ _ _ _ y _ _ _ _ _ _ _ => y))]
    exact Nat.le_refl _
  -- the state
  obtain ⟨N, hN⟩ : ∃ N, N = 11514 := ⟨_, rfl⟩
  have yS : suN (szP (σ.2.2 28) (kC σ) (σ.2.2 30) 0) N = StS σ := by rw [hN]; unfold StS SzS; rfl
  have yP : ∀ q, suN (szP (σ.2.2 28) (kC σ) (σ.2.2 31) (11514 * q)) N = PtS σ q := fun q => by rw [hN]; unfold PtS SzS; rfl
  have L1 := LVc_rw hO hb.2 (val := fun i => (σ.2.2 30 i).toNatClampNeg) (c := szP (σ.2.2 28) (kC σ) (σ.2.2 30) 0) (P := fun i => StI (σ.2.2 30) 0 i) yS (fun i hi st => by
    have r : RtP 0 σ 30 i := Or.inr (Or.inl ⟨rfl, st⟩)
    refine ⟨(vv 30 i r).1, fun h3 => ?_⟩
    by_cases z : NUa (kC σ) (σ.2.2 30) 0 i
    · exfalso
      have := o1 i st z
      rw [this] at h3
      exact absurd h3 (by decide)
    · have ct : CtA (kC σ) (σ.2.2 30) 0 i := ⟨by rw [Nat.zero_add]; exact st, z⟩
      unfold szP
      rw [if_pos ct, Nat.zero_add]; exact Nat.le_refl _) L0
  -- the points
  have L2 : ∀ q, q ≤ P' → LVc (0 + 6 * StS σ + 6 * suN (PtS σ) q) (σ.2.2 28) (fun v => (False ∨ ∃ i, i < N ∧ StI (σ.2.2 30) 0 i ∧ v = (σ.2.2 30 i).toNatClampNeg ∧ 3 ≤ v) ∨ ∃ p, p < q ∧ ∃ i, i < N ∧ StI (σ.2.2 31) (11514 * p) (11514 * p + i) ∧ v = (σ.2.2 31 (11514 * p + i)).toNatClampNeg ∧ 3 ≤ v) := by
    intro q
    induction q with
    | zero =>
      intro _
      refine LVc_le (LVc_mo (fun v z => ?_) L1) (Nat.le_add_right _ _)
      rcases z with z | ⟨p, hp, _⟩
      · exact Rch_b z
      · omega
    | succ q ih =>
      intro hq
      have hI := ih (by omega)
      have L := LVc_rw hO hb.2 (val := fun i => (σ.2.2 31 (11514 * q + i)).toNatClampNeg) (c := szP (σ.2.2 28) (kC σ) (σ.2.2 31) (11514 * q)) (P := fun i => StI (σ.2.2 31) (11514 * q) (11514 * q + i)) (yP q) (fun i hi st => by
        have r : RtP 0 σ 31 (11514 * q + i) := Or.inr (Or.inr (Or.inl ⟨rfl, q, by rw [h63, n_cl (p := P') (by omega)]; omega, st⟩))
        refine ⟨(vv 31 _ r).1, fun h3 => ?_⟩
        by_cases z : NUa (kC σ) (σ.2.2 31) (11514 * q) i
        · exfalso
          have := o2 q (by omega) i st z
          rw [this] at h3
          exact absurd h3 (by decide)
        · have ct : CtA (kC σ) (σ.2.2 31) (11514 * q) i := ⟨st, z⟩
          unfold szP
          rw [if_pos ct]; exact Nat.le_refl _) hI
      have es : suN (PtS σ) (q + 1) = suN (PtS σ) q + PtS σ q := rfl
      refine LVc_le (LVc_mo (fun v z => Rch_b ?_) L) (by rw [es]; omega)
      rcases z with z | ⟨p, hp, i, hi, z⟩
      · exact Or.inl (Or.inl z)
      · by_cases e : p = q
        · subst e; exact Or.inr ⟨i, hi, z⟩
        · exact Or.inl (Or.inr ⟨p, by omega, i, hi, z⟩)
  -- the views
  have vw : ∀ (x k : Nat) {S : Nat → Prop} {X : Nat}, (∀ i, i < k → RtP 0 σ x i) → LVc X (σ.2.2 28) S → LVc (X + 6 * (1000 * k)) (σ.2.2 28) (fun v => S v ∨ ∃ i, i < k ∧ True ∧ v = (σ.2.2 x i).toNatClampNeg ∧ 3 ≤ v) := fun x k S X hr hL => by
    have := LVc_row hO hb.2 (val := fun i => (σ.2.2 x i).toNatClampNeg) (c := fun _ => 1000) (P := fun _ => True) k (fun i hi _ => ⟨(vv x i (hr i hi)).1, fun _ => sz1 x i (hr i hi)⟩) hL
    rw [suN_k] at this; exact this
  have L3 := vw 40 2 (fun i hi => by unfold RtP; omega) (vw 38 8 (fun i hi => by unfold RtP; omega) (vw 37 8 (fun i hi => by unfold RtP; omega) (vw 36 8 (fun i hi => by unfold RtP; omega) (L2 P' (Nat.le_refl _)))))
  refine LVc_le (LVc_mo (fun v z => Rch_b ?_) L3) (by omega)
  obtain ⟨z1, z2, a, i, r, ev⟩ := z
  have e : v = (σ.2.2 a i).toNatClampNeg := by rw [ev, n_cl (p := v) (by omega)]
  have r0 := r
  unfold RtP at r
  rcases r with r | ⟨r, st⟩ | ⟨r, p, hp, st⟩ | ⟨r, hi⟩ | r | ⟨r, hi⟩ | ⟨r, hi⟩ | ⟨r, hi⟩ | ⟨r, hi⟩
  · omega
  · subst r
    refine Or.inl (Or.inl (Or.inl (Or.inl (Or.inl (Or.inr ⟨i, ?_, st, e, z1⟩)))))
    unfold StI at st
    rw [b1, b3, n_cl (p := c) (by omega), n_cl (p := n) (by omega)] at st
    omega
  · subst r
    rw [h63, n_cl (p := P') (by omega)] at hp
    have st0 := st
    obtain ⟨c', n', d1, d2, d3, d4⟩ := q6 p hp
    unfold StI at st
    rw [d1, d3, n_cl (p := c') (by omega), n_cl (p := n') (by omega)] at st
    obtain ⟨j, hj, ej⟩ : ∃ j, j < N ∧ i = 11514 * p + j := ⟨i - 11514 * p, by omega, by omega⟩
    rw [ej] at st0 e
    exact Or.inl (Or.inl (Or.inl (Or.inl (Or.inr ⟨p, hp, j, hj, st0, e, z1⟩))))
  · subst r
    rw [o3 i hi] at e
    exact absurd e (by intro e; rw [e] at z1; exact absurd z1 (by decide))
  · rw [h72, show (0 : Int32).toNatClampNeg = 0 from by decide] at r
    omega
  · subst r
    exact Or.inl (Or.inl (Or.inl (Or.inr ⟨i, hi, trivial, e, z1⟩)))
  · subst r
    exact Or.inl (Or.inl (Or.inr ⟨i, hi, trivial, e, z1⟩))
  · subst r
    exact Or.inl (Or.inr ⟨i, hi, trivial, e, z1⟩)
  · subst r
    exact Or.inr ⟨i, hi, trivial, e, z1⟩
end LVA

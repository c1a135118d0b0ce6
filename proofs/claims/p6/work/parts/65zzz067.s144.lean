/-! How much of the heap lives (reference). -/
/-- what can be reached from a set of objects -/
def Rch (H : Nat → Int32) (S : Nat → Prop) (w : Nat) : Prop := ∀ P : Nat → Prop, (∀ v, S v → P v) → (∀ v n i m, P v → (H v = nI 5 ∨ H v = nI 6) → H (v + 1) = nI n → n ≤ 3996 → i < n → H (v + 4 + i) = nI m → 3 ≤ m → m < 1740000 → P m) → P w
theorem Rch_b {H : Nat → Int32} {S : Nat → Prop} {v : Nat} (h : S v) : Rch H S v := fun P a b => a v h
theorem Rch_s {H : Nat → Int32} {S : Nat → Prop} {v n i m : Nat} (h : Rch H S v) (k1 : H v = nI 5 ∨ H v = nI 6) (k2 : H (v + 1) = nI n) (k3 : n ≤ 3996) (k4 : i < n) (k5 : H (v + 4 + i) = nI m) (k6 : 3 ≤ m) (k7 : m < 1740000) : Rch H S m := fun P a b => b v n i m (h P a b) k1 k2 k3 k4 k5 k6 k7
/-- cells of the objects of a set, below N -/
noncomputable def lvN (H : Nat → Int32) (S : Nat → Prop) : Nat → Nat
  | 0 => 0
  | n + 1 => lvN H S n + @ite Nat (S n) (Classical.propDecidable (S n)) (4 + (H (n + 1)).toNatClampNeg) 0
/-- no more than X cells can be reached -/
def LVc (X : Nat) (H : Nat → Int32) (S : Nat → Prop) : Prop := ∀ N, lvN H (Rch H S) N ≤ X
section LVS
variable {H H' : Nat → Int32} {g : Nat → Prop} {l : List Nat} {a b : Nat} {S T : Nat → Prop}
theorem Rch_mo (h : ∀ v, S v → Rch H T v) {v : Nat} (hv : Rch H S v) : Rch H T v := by
  exact hv (Rch H T) h (fun v n i m ih k1 k2 k3 k4 k5 k6 k7 => Rch_s ih k1 k2 k3 k4 k5 k6 k7)
theorem Rch_good (hO : HO H g l a b) (hb : b ≤ 1740000) (hS : ∀ v, S v → g v) {v : Nat} (hv : Rch H S v) : g v := by
  refine hv g hS (fun v n i m ih k1 k2 k3 k4 k5 k6 k7 => ?_)
  obtain ⟨k, n0, s0, t0, q1, q2, q3⟩ := HO_at hO (by omega) ih
  have e : n0 = n := (n_eq (by have := q1.2.2.2.2.2.2.2.1; omega) (by omega)).mp (q1.2.1.symm.trans k2)
  subst e
  have k6' := q1.2.2.2.2.1
  have hk : 5 ≤ k := by
    rcases k1 with z | z
    · have := (n_eq (p := k) (q := 5) (by omega) (by decide)).mp (q1.1.symm.trans z)
      omega
    · have := (n_eq (p := k) (q := 6) (by omega) (by decide)).mp (q1.1.symm.trans z)
      omega
  obtain ⟨m', m1, m2, _⟩ := (q1.2.2.2.2.2.2.2.2.2.2.2 hk).2 i k4
  have hm' : m' < 2147483648 := by
    rcases m2 with m2 | m2
    · omega
    · obtain ⟨_, _, _, _, _, _, z⟩ := HO_at hO (by omega) m2
      omega
  have e : m' = m := (n_eq hm' (by omega)).mp (m1.symm.trans k5)
  subst e
  rcases m2 with m2 | m2
  · omega
  · exact m2
/-- what can be reached is a heap of its own -/
theorem HO_rch (hO : HO H g l a b) (hb : b ≤ 1740000) (hS : ∀ v, S v → g v) : HO H (Rch H S) l a b := by
  refine ⟨hO.1, fun v hv => ?_⟩
  have gv := Rch_good hO hb hS hv
  obtain ⟨h1, k, n, s, t, q⟩ := hO.2 v gv
  obtain ⟨c1, c2, c3, c4, c5, c6, c7, c8, c9, c10, c11, c12⟩ := q
  refine ⟨h1, k, n, s, t, c1, c2, c3, c4, c5, c6, c7, c8, c9, c10, c11, fun e => ⟨(c12 e).1, fun i hi => ?_⟩⟩
  obtain ⟨m, m1, m2, m3⟩ := (c12 e).2 i hi
  refine ⟨m, m1, ?_, m3⟩
  by_cases c : m < 3
  · exact Or.inl c
  · have gm := m2.resolve_left c
    obtain ⟨_, _, _, _, _, _, z⟩ := HO_at hO (by omega) gm
    refine Or.inr (Rch_s hv ?_ c2 c8 hi m1 (by omega) (by omega))
    have : k = 5 ∨ k = 6 := by omega
    rcases this with y | y
    · exact Or.inl (by rw [← y]; exact c1)
    · exact Or.inr (by rw [← y]; exact c1)
theorem lvN_le (h : ∀ v, S v → T v ∧ H (v + 1) = H' (v + 1)) : ∀ N, lvN H S N ≤ lvN H' T N
  | 0 => Nat.le_refl _
  | n + 1 => by
    have ih := lvN_le h n
    unfold lvN
    by_cases z : S n
    · rw [if_pos z, if_pos (h n z).1, (h n z).2]; omega
    · rw [if_neg z]; omega
theorem lvN_or : ∀ N, lvN H (fun v => S v ∨ T v) N ≤ lvN H S N + lvN H T N
  | 0 => Nat.le_refl _
  | n + 1 => by
    have ih := lvN_or n
    unfold lvN
    by_cases z : S n
    · rw [if_pos (Or.inl z), if_pos z]; omega
    · by_cases y : T n
      · rw [if_pos (Or.inr y), if_pos y]; omega
      · rw [if_neg (fun w => w.elim z y)]; omega
theorem lvN_no (h : ∀ v, ¬ S v) : ∀ N, lvN H S N = 0
  | 0 => rfl
  | n + 1 => by
    unfold lvN
    rw [lvN_no h n, if_neg (h n)]
theorem lvN_one {v : Nat} : ∀ N, lvN H (fun w => w = v) N ≤ 4 + (H (v + 1)).toNatClampNeg ∧ (N ≤ v → lvN H (fun w => w = v) N = 0)
  | 0 => ⟨Nat.zero_le _, fun _ => rfl⟩
  | n + 1 => by
    have ih := lvN_one (v := v) n
    unfold lvN
    by_cases z : n = v
    · subst z
      rw [if_pos rfl, ih.2 (Nat.le_refl _)]
      exact ⟨by omega, fun y => by omega⟩
    · rw [if_neg z]
      exact ⟨by have := ih.1; omega, fun y => by have := ih.2 (by omega); omega⟩
theorem lvN_ex {N : Nat} {P : Nat → Nat → Prop} {w : Nat → Nat} : ∀ n, (∀ i, i < n → lvN H (P i) N ≤ w i) → ∀ s : Nat → Nat, s 0 = 0 → (∀ i, i < n → s (i + 1) = s i + w i) → lvN H (fun v => ∃ i, i < n ∧ P i v) N ≤ s n
  | 0, _, s, h0, _ => by rw [lvN_no (fun v z => by obtain ⟨i, y, _⟩ := z; omega)]; exact Nat.zero_le _
  | n + 1, hP, s, h0, hs => by
    have ih := lvN_ex n (fun i hi => hP i (by omega)) s h0 (fun i hi => hs i (by omega))
    have h1 : lvN H (fun v => ∃ i, i < n + 1 ∧ P i v) N ≤ lvN H (fun v => (∃ i, i < n ∧ P i v) ∨ P n v) N := lvN_le (fun v z => ⟨by
      obtain ⟨i, y1, y2⟩ := z
      by_cases e : i = n
      · subst e; exact Or.inr y2
      · exact Or.inl ⟨i, by omega, y2⟩, rfl⟩) N
    have h2 := lvN_or (H := H) (S := fun v => ∃ i, i < n ∧ P i v) (T := P n) N
    have h3 := hP n (by omega)
    have h4 := hs n (by omega)
    omega
theorem Rch_one {v n : Nat} (hn : H (v + 1) = nI n) (hn2 : n ≤ 3996) {w : Nat} (hw : Rch H (fun x => x = v) w) : w = v ∨ ((H v = nI 5 ∨ H v = nI 6) ∧ ∃ i, i < n ∧ ∃ m, H (v + 4 + i) = nI m ∧ 3 ≤ m ∧ m < 1740000 ∧ Rch H (fun x => x = m) w) := by
  refine hw (fun w => w = v ∨ ((H v = nI 5 ∨ H v = nI 6) ∧ ∃ i, i < n ∧ ∃ m, H (v + 4 + i) = nI m ∧ 3 ≤ m ∧ m < 1740000 ∧ Rch H (fun x => x = m) w)) (fun u z => Or.inl z) (fun u n1 i m ih k1 k2 k3 k4 k5 k6 k7 => ?_)
  rcases ih with z | ⟨z0, j, y1, m', y2, y3, y4, y5⟩
  · subst z
    have e : n1 = n := (n_eq (by omega) (by omega)).mp (k2.symm.trans hn)
    subst e
    exact Or.inr ⟨k1, i, k4, m, k5, k6, k7, Rch_b rfl⟩
  · exact Or.inr ⟨z0, j, y1, m', y2, y3, y4, Rch_s y5 k1 k2 k3 k4 k5 k6 k7⟩
theorem szN_1 (hO : HO H g l a b) (hb : b ≤ 1740000) {m : Nat} (hm : m < 3 ∨ g m) : 1 ≤ szN H m := by
  unfold szN
  by_cases c : m < 3
  · rw [if_pos c]; exact Nat.le_refl _
  · obtain ⟨k, n, s, t, q, q2, q3⟩ := HO_at hO (by omega) (hm.resolve_left c)
    have c6 := q.2.2.2.2.2.1
    rw [if_neg c, q.2.2.1, n_cl (by omega)]; exact c6.1
theorem smS_gn (hO : HO H g l a b) (hb : b ≤ 1740000) {v n t : Nat} (hn : H (v + 1) = nI n) (hn2 : n ≤ 3996) (d2 : ∀ i, i < n → ∃ m, H (v + 4 + i) = nI m ∧ (m < 3 ∨ g m) ∧ htN H m < t) : ∀ i, i ≤ n → i ≤ smS H v i := by
  intro i
  induction i with
  | zero => intro _; exact Nat.zero_le _
  | succ i ih =>
    intro hi
    obtain ⟨m, m1, m2, m3⟩ := d2 i (by omega)
    have hmb : m < 2147483648 := by
      rcases m2 with m2 | m2
      · omega
      · obtain ⟨_, _, _, _, _, _, z⟩ := HO_at hO (by omega) m2
        omega
    have := szN_1 hO hb m2
    have := ih (by omega)
    show i + 1 ≤ smS H v i + szN H (H (v + 4 + i)).toNatClampNeg
    rw [m1, n_cl hmb]; omega
theorem lvN_sz1 (hO : HO H g l a b) (hb : b ≤ 1740000) (d : Nat) (ih : ∀ e, e < d → ∀ m, g m → 3 ≤ m → htN H m ≤ e → ∀ N, lvN H (Rch H (fun x => x = m)) N + 1 ≤ 6 * szN H m) (v : Nat) (gv : g v) (h3 : 3 ≤ v) (hd : htN H v ≤ d) (N : Nat) : lvN H (Rch H (fun x => x = v)) N + 1 ≤ 6 * szN H v := by
  obtain ⟨k, n, s, t, q, q2, q3⟩ := HO_at hO (by omega) gv
  obtain ⟨c1, c2, c3, c4, c5, c6, c7, c8, c9, c10, c11, c12⟩ := q
  have hsz : szN H v = s := by
    unfold szN
    rw [if_neg (by omega), c3, n_cl (by omega)]
  have hht : htN H v = t := by
    unfold htN
    rw [if_neg (by omega), c4, n_cl (by omega)]
  rw [hsz]
  have h1 := (lvN_one (H := H) (v := v) N).1
  rw [c2, n_cl (by omega)] at h1
  by_cases hk : 5 ≤ k
  · obtain ⟨d1, d2⟩ := c12 hk
    have hch : ∀ i, i < n → lvN H (fun w => ∃ m, H (v + 4 + i) = nI m ∧ 3 ≤ m ∧ m < 1740000 ∧ Rch H (fun x => x = m) w) N ≤ 6 * szN H (H (v + 4 + i)).toNatClampNeg - 1 := by
      intro i hi
      obtain ⟨m, m1, m2, m3⟩ := d2 i hi
      rw [m1]
      have hmb : m < 2147483648 := by
        rcases m2 with m2 | m2
        · omega
        · obtain ⟨_, _, _, _, _, _, z⟩ := HO_at hO (by omega) m2
          omega
      rw [n_cl hmb]
      by_cases c : m < 3
      · rw [lvN_no (fun w z => by
          obtain ⟨m', y1, y2, y3, _⟩ := z
          have := (n_eq hmb (by omega)).mp y1
          omega)]
        exact Nat.zero_le _
      · have gm := m2.resolve_left c
        have hle : lvN H (fun w => ∃ m', nI m = nI m' ∧ 3 ≤ m' ∧ m' < 1740000 ∧ Rch H (fun x => x = m') w) N ≤ lvN H (Rch H (fun x => x = m)) N := lvN_le (fun w z => ⟨by
          obtain ⟨m', y1, y2, y3, y4⟩ := z
          have := (n_eq hmb (by omega)).mp y1
          rw [this]; exact y4, rfl⟩) N
        have := ih (htN H m) (by omega) m gm (by omega) (Nat.le_refl _) N
        omega
    have hsum := lvN_ex (H := H) (N := N) n hch (fun i => 6 * smS H v i - i) rfl (fun i hi => by
      obtain ⟨m, m1, m2, m3⟩ := d2 i hi
      have e : smS H v (i + 1) = smS H v i + szN H (H (v + 4 + i)).toNatClampNeg := rfl
      have p1 : i ≤ smS H v i := smS_gn hO hb c2 c8 d2 i (by omega)
      have p2 : 1 ≤ szN H (H (v + 4 + i)).toNatClampNeg := by
        have := smS_gn hO hb c2 c8 d2 (i + 1) (by omega)
        rw [m1]
        have hmb : m < 2147483648 := by
          rcases m2 with m2 | m2
          · omega
          · obtain ⟨_, _, _, _, _, _, z⟩ := HO_at hO (by omega) m2
            omega
        rw [n_cl hmb]
        exact szN_1 hO hb m2
      show 6 * smS H v (i + 1) - (i + 1) = 6 * smS H v i - i + _
      rw [e]; omega)
    have hall : lvN H (Rch H (fun x => x = v)) N ≤ lvN H (fun w => w = v ∨ ∃ i, i < n ∧ ∃ m, H (v + 4 + i) = nI m ∧ 3 ≤ m ∧ m < 1740000 ∧ Rch H (fun x => x = m) w) N := lvN_le (fun w z => ⟨(Rch_one c2 c8 z).imp id (fun y => y.2), rfl⟩) N
    have hor := lvN_or (H := H) (S := fun w => w = v) (T := fun w => ∃ i, i < n ∧ ∃ m, H (v + 4 + i) = nI m ∧ 3 ≤ m ∧ m < 1740000 ∧ Rch H (fun x => x = m) w) N
    have p1 : n ≤ smS H v n := smS_gn hO hb c2 c8 d2 n (Nat.le_refl _)
    omega
  · have hall : lvN H (Rch H (fun x => x = v)) N ≤ lvN H (fun w => w = v) N := lvN_le (fun w z => ⟨by
      rcases Rch_one c2 c8 z with y | ⟨y, _⟩
      · exact y
      · exfalso
        rcases y with y | y
        · have := (n_eq (p := k) (q := 5) (by omega) (by decide)).mp (c1.symm.trans y)
          omega
        · have := (n_eq (p := k) (q := 6) (by omega) (by decide)).mp (c1.symm.trans y)
          omega, rfl⟩) N
    have : k = 2 ∨ k = 3 ∨ k = 4 := by omega
    rcases this with y | y | y
    · have := c9 y; omega
    · have := c10 y; omega
    · have := c11 y; omega
/-- an object has no more than six cells for each of its size -/
theorem lvN_sz (hO : HO H g l a b) (hb : b ≤ 1740000) : ∀ (d v : Nat), g v → 3 ≤ v → htN H v ≤ d → ∀ N, lvN H (Rch H (fun x => x = v)) N + 1 ≤ 6 * szN H v := by
  intro d
  induction d with
  | zero =>
    intro v gv h3 hd N
    exact lvN_sz1 hO hb 0 (fun e hE => absurd hE (Nat.not_lt_zero _)) v gv h3 hd N
  | succ d ih =>
    intro v gv h3 hd N
    exact lvN_sz1 hO hb (d + 1) (fun e hE m gm hm3 hmd N => ih m gm hm3 (by omega) N) v gv h3 hd N
end LVS

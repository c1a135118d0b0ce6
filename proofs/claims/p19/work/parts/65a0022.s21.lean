section JnS21
/-! Names: the two numbers tell the bytes. -/
theorem keyH_8 (R : Nat → Int32) (a : Nat) : ∀ m : Nat, keyH R a (8 + m) = keyH R a 8
  | 0 => rfl
  | m + 1 => by
    show (if 8 + m < 8 then _ else keyH R a (8 + m)) = _
    rw [if_neg (by omega)]; exact keyH_8 R a m
theorem keyL_0 (R : Nat → Int32) (a : Nat) : ∀ m : Nat, m ≤ 8 → keyL R a m = 0
  | 0, _ => rfl
  | m + 1, h => by
    show (if m < 8 then keyL R a m else _) = _
    rw [if_pos (by omega)]; exact keyL_0 R a m (by omega)
theorem keyL_nat (R : Nat → Int32) (a : Nat) : ∀ m : Nat, m ≤ 8 → (∀ i, i < m → okB (R (a + (8 + i)))) → (keyL R a (8 + m)).toBitVec.toNat = kN (fun i => R (a + (8 + i))) m
  | 0, _, _ => by rw [keyL_0 R a 8 (by omega)]; rfl
  | m + 1, hm, h => by
    have ih := keyL_nat R a m (by omega) (fun i hi => h i (by omega))
    have hb := byte64 (h m (by omega))
    have hok := h m (by omega)
    have hlt := kN_lt (fun i => R (a + (8 + i))) m (fun i hi => h i (by omega))
    show (if 8 + m < 8 then keyL R a (8 + m) else keyL R a (8 + m) <<< ((8 : Int32).toInt64 &&& 63) ||| (R (a + (8 + m))).toInt64).toBitVec.toNat = kN (fun i => R (a + (8 + i))) m * 256 + (R (a + (8 + m))).toInt.toNat
    rw [if_neg (by omega), Int64.toBitVec_or, BitVec.toNat_or, hb]
    have e : (keyL R a (8 + m) <<< ((8 : Int32).toInt64 &&& 63)).toBitVec = (keyL R a (8 + m)).toBitVec <<< 8 := by
      rw [show keyL R a (8 + m) <<< ((8 : Int32).toInt64 &&& 63) = keyL R a (8 + m) <<< (8 : Int64) from rfl, Int64.toBitVec_shiftLeft]; rfl
    have hp : kN (fun i => R (a + (8 + i))) m * 256 < 2 ^ 64 := by
      rcases hlt with q | q
      · have : (256 : Nat) ^ m ≤ 256 ^ 7 := Nat.pow_le_pow_right (by decide) (by omega)
        have e7 : (256 : Nat) ^ 7 = 72057594037927936 := by decide
        omega
      · subst q; show 0 * 256 < _; decide
    rw [e, BitVec.toNat_shiftLeft, ih, Nat.shiftLeft_eq, Nat.mod_eq_of_lt (by omega), show (2 : Nat) ^ 8 = 256 from rfl, ← Nat.shiftLeft_eq _ 8, ← Nat.shiftLeft_add_eq_or_of_lt (by omega), Nat.shiftLeft_eq]
theorem n64 {x y : Int64} (h : x = y) : x.toBitVec.toNat = y.toBitVec.toNat := by rw [h]
theorem n64' {x y : Int64} (h : x.toBitVec.toNat = y.toBitVec.toNat) : x = y := Int64.toBitVec_inj.mp (BitVec.eq_of_toNat_eq h)
/-- the two numbers of two names are the same just where the names are -/
theorem key_inj {R S : Nat → Int32} {a b m l : Nat} (hm : m ≤ 16) (hl : l ≤ 16) (hR : ∀ i, i < m → okB (R (a + i))) (hS : ∀ i, i < l → okB (S (b + i))) : (keyH R a m = keyH S b l ∧ keyL R a m = keyL S b l) ↔ (m = l ∧ ∀ i, i < m → R (a + i) = S (b + i)) := by
  have ext : m = l → (∀ i, i < m → R (a + i) = S (b + i)) → keyH R a m = keyH S b l ∧ keyL R a m = keyL S b l := by
    intro e h
    subst e
    have aux : ∀ k : Nat, k ≤ m → keyH R a k = keyH S b k ∧ keyL R a k = keyL S b k := by
      intro k
      induction k with
      | zero => intro _; exact ⟨rfl, rfl⟩
      | succ k ih =>
        intro hk
        obtain ⟨h1, h2⟩ := ih (by omega)
        show (if k < 8 then keyH R a k <<< _ ||| (R (a + k)).toInt64 else keyH R a k) = (if k < 8 then keyH S b k <<< _ ||| (S (b + k)).toInt64 else keyH S b k) ∧ (if k < 8 then keyL R a k else keyL R a k <<< _ ||| (R (a + k)).toInt64) = (if k < 8 then keyL S b k else keyL S b k <<< _ ||| (S (b + k)).toInt64)
        rw [h1, h2, h k (by omega)]
        exact ⟨rfl, rfl⟩
    exact aux m (Nat.le_refl _)
  refine ⟨fun h => ?_, fun h => ext h.1 h.2⟩
  obtain ⟨h1, h2⟩ := h
  by_cases cm : m ≤ 8
  · by_cases cl : l ≤ 8
    · have e := n64 h1
      rw [keyH_nat R a m cm hR, keyH_nat S b l cl hS] at e
      exact kN_inj _ _ _ _ hR hS e
    · exfalso
      obtain ⟨k, rfl⟩ : ∃ k, l = 8 + (k + 1) := ⟨l - 9, by omega⟩
      have e := n64 h2
      rw [keyL_0 R a m cm, keyL_nat S b (k + 1) (by omega) (fun i hi => hS (8 + i) (by omega))] at e
      have := kN_pos (fun i => S (b + (8 + i))) k (hS (8 + k) (by omega))
      have z : (0 : Int64).toBitVec.toNat = 0 := rfl
      omega
  · obtain ⟨k, rfl⟩ : ∃ k, m = 8 + (k + 1) := ⟨m - 9, by omega⟩
    by_cases cl : l ≤ 8
    · exfalso
      have e := n64 h2
      rw [keyL_0 S b l cl, keyL_nat R a (k + 1) (by omega) (fun i hi => hR (8 + i) (by omega))] at e
      have := kN_pos (fun i => R (a + (8 + i))) k (hR (8 + k) (by omega))
      have z : (0 : Int64).toBitVec.toNat = 0 := rfl
      omega
    · obtain ⟨j, rfl⟩ : ∃ j, l = 8 + j := ⟨l - 8, by omega⟩
      have e1 := n64 h1
      rw [keyH_8, keyH_8, keyH_nat R a 8 (by omega) (fun i hi => hR i (by omega)), keyH_nat S b 8 (by omega) (fun i hi => hS i (by omega))] at e1
      obtain ⟨_, q1⟩ := kN_inj _ _ 8 8 (fun i hi => hR i (by omega)) (fun i hi => hS i (by omega)) e1
      have e2 := n64 h2
      rw [keyL_nat R a (k + 1) (by omega) (fun i hi => hR (8 + i) (by omega)), keyL_nat S b j (by omega) (fun i hi => hS (8 + i) (by omega))] at e2
      obtain ⟨p2, q2⟩ := kN_inj _ _ _ _ (fun i hi => hR (8 + i) (by omega)) (fun i hi => hS (8 + i) (by omega)) e2
      refine ⟨by omega, fun i hi => ?_⟩
      by_cases c : i < 8
      · exact q1 i c
      · have := q2 (i - 8) (by omega)
        rw [show 8 + (i - 8) = i by omega] at this
        exact this
/-! The reference looks a name up in its pool. -/
/-- the name that was read (from f, m bytes) is the one in the pool at p of l bytes -/
def mNm (σ : MS) (f m p l : Nat) : Prop := m = l ∧ ∀ i, i < l → σ.2.2 12 (p + i) = σ.2.2 3 (f + i)
theorem s_isNamed {σ : MS} {f e p l : Nat} (h8 : σ.1 8 = nI f) (h9 : σ.1 9 = nI e) (hfe : f ≤ e) (he : e ≤ 32768) (hpl : p + l ≤ 70000) (L : Nat → Int32) (h1 : L 1 = nI p) (h2 : L 2 = nI l) : Tm (fun k => x_isNamed k 0 L σ) (fun r => r.2 = σ ∧ (¬ r.1 = 0 ↔ mNm σ f (e - f) p l)) := by
  have no : ¬ mNm σ f (e - f) p l → Tm (fun k => some ((0 : Int32), σ)) (fun r => r.2 = σ ∧ (¬ r.1 = 0 ↔ mNm σ f (e - f) p l)) := fun h => Tm_some ⟨rfl, ⟨fun q => absurd rfl q, fun q => absurd q h⟩⟩
  refine Tm_suc (fun k => by rw [x_isNamed]) ?_
  rw [h8, h9, h2, n_sub (by omega) hfe]
  refine Tm_ite (fun c => ?_) (fun c => no (fun h => c (by rw [n_eq (by omega) (by omega)]; exact h.1)))
  rw [n_eq (by omega) (by omega)] at c
  refine Tm_suc (fun k => by rw [x_isNamed]) ?_
  have loop : ∀ (m i : Nat) (M : Nat → Int32), m + i = l → M 1 = nI p → M 2 = nI l → M 3 = nI i → (∀ j, j < i → σ.2.2 12 (p + j) = σ.2.2 3 (f + j)) → Tm (fun k => x_isNamed k 2 M σ) (fun r => r.2 = σ ∧ (¬ r.1 = 0 ↔ mNm σ f (e - f) p l)) := by
    intro m
    induction m with
    | zero =>
      intro i M hm m1 m2 m3 hall
      obtain rfl : i = l := by omega
      refine Tm_suc (fun k => by rw [x_isNamed]) ?_
      rw [m2, m3]
      refine Tm_ite (fun _ => ?_) (fun g => absurd (by rw [n_le (by omega) (by omega)]; exact Nat.le_refl _) g)
      refine Tm_suc (fun k => by rw [x_isNamed]) ?_
      exact Tm_some ⟨rfl, ⟨fun _ => ⟨c, hall⟩, fun _ => (by decide : ¬ (1 : Int32) = 0)⟩⟩
    | succ m ih =>
      intro i M hm m1 m2 m3 hall
      refine Tm_suc (fun k => by rw [x_isNamed]) ?_
      rw [m1, m2, m3, h8, show nI p + nI i = nI (p + i) from (Int32.ofNat_add p i).symm, show nI f + nI i = nI (f + i) from (Int32.ofNat_add f i).symm]
      refine Tm_ite (fun g => ?_) (fun _ => ?_)
      · rw [n_le (by omega) (by omega)] at g; omega
      refine Tm_chk (n_in (by omega) (by omega)) ?_
      refine Tm_chk (n_in (by omega) (by omega)) ?_
      rw [n_cl (p := p + i) (by omega), n_cl (p := f + i) (by omega)]
      refine Tm_ite (fun g => ?_) (fun g => no (fun h => g (h.2 i (by omega))))
      refine Tm_suc (fun k => by rw [x_isNamed]) ?_
      rw [m3, n_add1]
      exact ih (i + 1) _ (by omega) (by rw [upd_other (by decide)]; exact m1) (by rw [upd_other (by decide)]; exact m2) upd_same (fun j hj => by
        by_cases e : j = i
        · rw [e]; exact g
        · exact hall j (by omega))
  exact loop l 0 _ rfl (by rw [upd_other (by decide)]; exact h1) (by rw [upd_other (by decide)]; exact h2) upd_same (fun j hj => absurd hj (by omega))
/-- the pool with m bytes of the tape from f on behind it -/
def mPool (σ : MS) (f : Nat) : Nat → MS
  | 0 => σ
  | m + 1 => (upd (mPool σ f m).1 24 ((mPool σ f m).1 24 + 1), (mPool σ f m).2.1, updG (mPool σ f m).2.2 12 (upd ((mPool σ f m).2.2 12) ((mPool σ f m).1 24).toNatClampNeg (σ.2.2 3 (f + m))))
theorem mPool_is {σ : MS} {f p : Nat} (h : σ.1 24 = nI p) : ∀ m : Nat, p + m < 2147483648 → (mPool σ f m).1 24 = nI (p + m) ∧ (mPool σ f m).2.1 = σ.2.1 ∧ (∀ j, j ≠ 24 → (mPool σ f m).1 j = σ.1 j) ∧ (∀ j, j ≠ 12 → (mPool σ f m).2.2 j = σ.2.2 j) ∧ (∀ i, i < p → (mPool σ f m).2.2 12 i = σ.2.2 12 i) ∧ (∀ i, i < m → (mPool σ f m).2.2 12 (p + i) = σ.2.2 3 (f + i))
  | 0, _ => ⟨h, rfl, fun _ _ => rfl, fun _ _ => rfl, fun _ _ => rfl, fun i hi => absurd hi (by omega)⟩
  | m + 1, hm => by
    obtain ⟨a, b, c, d, e, g⟩ := mPool_is h m (by omega) (σ := σ) (f := f)
    refine ⟨?_, b, fun j hj => ?_, fun j hj => ?_, fun i hi => ?_, fun i hi => ?_⟩
    · show upd (mPool σ f m).1 24 ((mPool σ f m).1 24 + 1) 24 = _
      rw [upd_same, a, n_add1]; rfl
    · show upd (mPool σ f m).1 24 _ j = _
      rw [upd_other hj]; exact c j hj
    · show updG (mPool σ f m).2.2 12 _ j = _
      rw [updG_other hj]; exact d j hj
    · show updG (mPool σ f m).2.2 12 (upd ((mPool σ f m).2.2 12) ((mPool σ f m).1 24).toNatClampNeg (σ.2.2 3 (f + m))) 12 i = _
      rw [updG_same, a, n_cl (by omega), upd_other (by omega)]; exact e i hi
    · show updG (mPool σ f m).2.2 12 (upd ((mPool σ f m).2.2 12) ((mPool σ f m).1 24).toNatClampNeg (σ.2.2 3 (f + m))) 12 (p + i) = _
      rw [updG_same, a, n_cl (by omega)]
      by_cases q : i = m
      · subst q; rw [upd_same]
      · rw [upd_other (by omega)]; exact g i (by omega)
theorem s_keep {σ : MS} {f e p : Nat} (h24 : σ.1 24 = nI p) (hfe : f ≤ e) (he : e ≤ 32768) (hp : p + (e - f) ≤ 70000) (L : Nat → Int32) (h1 : L 1 = nI f) (h2 : L 2 = nI e) : Tm (fun k => x_keep k 0 L σ) (fun r => r = (nI p, mPool σ f (e - f))) := by
  refine Tm_suc (fun k => by rw [x_keep]) ?_
  rw [h24, h1]
  have loop : ∀ (m i : Nat) (M : Nat → Int32), m + i = e - f → M 2 = nI e → M 3 = nI p → M 4 = nI (f + i) → Tm (fun k => x_keep k 1 M (mPool σ f i)) (fun r => r = (nI p, mPool σ f (e - f))) := by
    intro m
    induction m with
    | zero =>
      intro i M hm m2 m3 m4
      obtain rfl : i = e - f := by omega
      refine Tm_suc (fun k => by rw [x_keep]) ?_
      rw [m2, m4]
      refine Tm_ite (fun _ => ?_) (fun g => absurd (by rw [n_le (by omega) (by omega)]; omega) g)
      refine Tm_suc (fun k => by rw [x_keep]) ?_
      exact Tm_some (by rw [m3])
    | succ m ih =>
      intro i M hm m2 m3 m4
      obtain ⟨a, b, c, d, _, _⟩ := mPool_is h24 i (by omega) (σ := σ) (f := f)
      refine Tm_suc (fun k => by rw [x_keep]) ?_
      rw [m2, m4, a]
      refine Tm_ite (fun g => ?_) (fun _ => ?_)
      · rw [n_le (by omega) (by omega)] at g; omega
      refine Tm_chk (n_in (by omega) (by omega)) ?_
      refine Tm_chk (n_in (by omega) (by omega)) ?_
      refine Tm_suc (fun k => by rw [x_keep]) ?_
      refine Tm_suc (fun k => by rw [x_keep]) ?_
      rw [n_cl (p := p + i) (by omega), n_cl (p := f + i) (by omega), m4, n_add1]
      have := ih (i + 1) (upd M 4 (nI (f + i + 1))) (by omega) (by rw [upd_other (by decide)]; exact m2) (by rw [upd_other (by decide)]; exact m3) (by rw [upd_same]; rfl)
      have e1 : mPool σ f (i + 1) = (upd (mPool σ f i).1 24 ((mPool σ f i).1 24 + 1), (mPool σ f i).2.1, updG (mPool σ f i).2.2 12 (upd ((mPool σ f i).2.2 12) (p + i) ((mPool σ f i).2.2 3 (f + i)))) := by
        show (upd (mPool σ f i).1 24 ((mPool σ f i).1 24 + 1), (mPool σ f i).2.1, updG (mPool σ f i).2.2 12 (upd ((mPool σ f i).2.2 12) ((mPool σ f i).1 24).toNatClampNeg (σ.2.2 3 (f + i)))) = _
        rw [a, n_cl (p := p + i) (by omega), d 3 (by decide)]
      rw [e1] at this
      exact this
  exact loop (e - f) 0 _ (by omega) (by rw [upd_other (by decide), upd_other (by decide)]; exact h2) (by rw [upd_other (by decide), upd_same]) (by rw [upd_same]; rfl)
end JnS21
section JnS22
/-! The reference looks a name up: those of iters and calls from the newest on, then the program's. -/
/-- row j of a table that has places in row a, sizes in row b: it lies in the pool -/
def mRow (σ : MS) (a b j p l : Nat) : Prop := σ.2.2 a j = nI p ∧ σ.2.2 b j = nI l ∧ p + l ≤ 70000
/-- the name that was read is row j's -/
def mIs (σ : MS) (f m a b j : Nat) : Prop := ∃ p l, mRow σ a b j p l ∧ mNm σ f m p l
theorem mIs_iff {σ : MS} {f m a b j p l : Nat} (h : mRow σ a b j p l) : mIs σ f m a b j ↔ mNm σ f m p l := by
  refine ⟨fun q => ?_, fun q => ⟨p, l, h, q⟩⟩
  obtain ⟨p', l', h', q⟩ := q
  have e1 : nI p' = nI p := h'.1.symm.trans h.1
  have e2 : nI l' = nI l := h'.2.1.symm.trans h.2.1
  have hp := h.2.2
  have hp' := h'.2.2
  rw [n_eq (by omega) (by omega)] at e1 e2
  subst e1
  subst e2
  exact q
/-- what find leaves -/
def mFound (σ : MS) (f m c d : Nat) (u : Nat → Int32) : Prop := (∀ j, j ≠ 46 → j ≠ 47 → j ≠ 48 → u j = σ.1 j) ∧
  ((∃ k, k < c ∧ mIs σ f m 22 23 k ∧ (∀ j, k < j → j < c → ¬ mIs σ f m 22 23 j) ∧ u 46 = 1 ∧ u 47 = σ.2.2 24 k ∧ u 48 = (if σ.1 37 ≤ 0 then 0 else 1)) ∨
   ((∀ j, j < c → ¬ mIs σ f m 22 23 j) ∧ ∃ k, k < d ∧ mIs σ f m 14 15 k ∧ (∀ j, j < k → ¬ mIs σ f m 14 15 j) ∧ u 46 = σ.2.2 13 k ∧ u 47 = σ.2.2 16 k ∧ u 48 = 0) ∨
   ((∀ j, j < c → ¬ mIs σ f m 22 23 j) ∧ (∀ j, j < d → ¬ mIs σ f m 14 15 j) ∧ u 46 = 0))
theorem s_find {σ : MS} {f e c d : Nat} (h8 : σ.1 8 = nI f) (h9 : σ.1 9 = nI e) (hfe : f ≤ e) (he : e ≤ 32768) (h38 : σ.1 38 = nI c) (hc : c ≤ 400) (h25 : σ.1 25 = nI d) (hd : d ≤ 200) (hS : ∀ j, j < c → ∃ p l, mRow σ 22 23 j p l) (hE : ∀ j, j < d → ∃ p l, mRow σ 14 15 j p l) (L : Nat → Int32) : Tm (fun k => x_find k 0 L σ) (fun r => r.2.2 = σ.2 ∧ mFound σ f (e - f) c d r.2.1) := by
  refine Tm_suc (fun k => by rw [x_find]) ?_
  generalize hs : ((upd σ.1 46 0, σ.2.1, σ.2.2) : MS) = s
  have so : ∀ j, j ≠ 46 → s.1 j = σ.1 j := fun j h => by rw [← hs]; exact (upd_other h : upd σ.1 46 0 j = σ.1 j)
  have s46 : s.1 46 = 0 := by rw [← hs]; exact (upd_same : upd σ.1 46 0 46 = 0)
  have s2 : s.2 = σ.2 := by rw [← hs]
  have s22 : s.2.2 = σ.2.2 := by rw [← hs]
  clear hs
  have t8 : s.1 8 = nI f := by rw [so 8 (by decide)]; exact h8
  have t9 : s.1 9 = nI e := by rw [so 9 (by decide)]; exact h9
  have nm : ∀ m p l, mNm s f m p l ↔ mNm σ f m p l := fun m p l => by unfold mNm; rw [s22]
  -- the second table
  have ents : (∀ j, j < c → ¬ mIs σ f (e - f) 22 23 j) → ∀ (m k : Nat) (M : Nat → Int32), m + k = d → M 1 = nI k → (∀ j, j < k → ¬ mIs σ f (e - f) 14 15 j) → Tm (fun q => x_find q 9 M s) (fun r => r.2.2 = σ.2 ∧ mFound σ f (e - f) c d r.2.1) := by
    intro hno m
    induction m with
    | zero =>
      intro k M hm m1 hk
      obtain rfl : k = d := by omega
      refine Tm_suc (fun q => by rw [x_find]) ?_
      rw [so 25 (by decide), h25, m1]
      refine Tm_ite (fun _ => ?_) (fun g => absurd (by rw [n_le (by omega) (by omega)]; exact Nat.le_refl _) g)
      refine Tm_suc (fun q => by rw [x_find]) ?_
      exact Tm_some ⟨s2, fun j a b c => so j a, Or.inr (Or.inr ⟨hno, hk, s46⟩)⟩
    | succ m ih =>
      intro k M hm m1 hk
      obtain ⟨p, l, hr⟩ := hE k (by omega)
      refine Tm_suc (fun q => by rw [x_find]) ?_
      rw [so 25 (by decide), h25, m1]
      refine Tm_ite (fun g => ?_) (fun _ => ?_)
      · rw [n_le (by omega) (by omega)] at g; omega
      refine Tm_chk (n_in (by omega) (by omega)) ?_
      refine Tm_chk (n_in (by omega) (by omega)) ?_
      rw [n_cl (p := k) (by omega), s22, hr.1, hr.2.1]
      refine Tm_ob (s_isNamed t8 t9 hfe he hr.2.2 _ (by rw [upd_other (by decide), upd_same]) upd_same) (fun r4 h4 => ?_)
      obtain ⟨e4, i4⟩ := h4
      rw [nm] at i4
      refine Tm_ite (fun g => ?_) (fun g => ?_)
      · rw [e4]
        refine Tm_suc (fun q => by rw [x_find]) ?_
        rw [m1, n_add1]
        exact ih (k + 1) _ (by omega) upd_same (fun j hj => by
          by_cases z : j = k
          · subst z; rw [mIs_iff hr]; exact fun w => i4.mpr w g
          · exact hk j (by omega))
      · refine Tm_chk (by rw [i_lt, n_int (p := k) (by omega), i_c0]; omega) ?_
        refine Tm_suc (fun q => by rw [x_find]) ?_
        rw [m1]
        refine Tm_chk (n_in (by omega) (by omega)) ?_
        refine Tm_suc (fun q => by rw [x_find]) ?_
        rw [e4, n_cl (p := k) (by omega)]
        refine Tm_some ⟨s2, fun j a b z => ?_, Or.inr (Or.inl ⟨hno, k, by omega, (mIs_iff hr).mpr (i4.mp g), hk, ?_, ?_, ?_⟩)⟩
        · show upd (upd (upd s.1 46 (s.2.2 13 k)) 47 (s.2.2 16 k)) 48 0 j = _
          rw [upd_other z, upd_other b, upd_other a]; exact so j a
        · show upd (upd (upd s.1 46 (s.2.2 13 k)) 47 (s.2.2 16 k)) 48 0 46 = _
          rw [upd_other (by decide), upd_other (by decide), upd_same, s22]
        · show upd (upd (upd s.1 46 (s.2.2 13 k)) 47 (s.2.2 16 k)) 48 0 47 = _
          rw [upd_other (by decide), upd_same, s22]
        · show upd (upd (upd s.1 46 (s.2.2 13 k)) 47 (s.2.2 16 k)) 48 0 48 = _
          rw [upd_same]
  -- the first table, from the newest on
  have seen : ∀ (k : Nat) (M : Nat → Int32), k ≤ c → M 1 = nI k - 1 → (∀ j, k ≤ j → j < c → ¬ mIs σ f (e - f) 22 23 j) → Tm (fun q => x_find q 2 M s) (fun r => r.2.2 = σ.2 ∧ mFound σ f (e - f) c d r.2.1) := by
    intro k
    induction k with
    | zero =>
      intro M hk m1 hno
      refine Tm_suc (fun q => by rw [x_find]) ?_
      rw [m1]
      refine Tm_ite (fun _ => ?_) (fun g => absurd (by decide) g)
      refine Tm_suc (fun q => by rw [x_find]) ?_
      exact ents (fun j hj => hno j (by omega) hj) d 0 _ (by omega) (by rw [upd_same]; rfl) (fun j hj => absurd hj (by omega))
    | succ k ih =>
      intro M hk m1 hno
      obtain ⟨p, l, hr⟩ := hS k (by omega)
      have m1 : M 1 = nI k := by rw [m1, show nI (k + 1) - 1 = nI (k + 1 - 1) from n_sub (q := 1) (by omega) (by omega)]; rfl
      refine Tm_suc (fun q => by rw [x_find]) ?_
      rw [m1]
      refine Tm_ite (fun g => ?_) (fun _ => ?_)
      · rw [i_lt, n_int (by omega), i_c0] at g; omega
      refine Tm_chk (n_in (by omega) (by omega)) ?_
      refine Tm_chk (n_in (by omega) (by omega)) ?_
      rw [n_cl (p := k) (by omega), s22, hr.1, hr.2.1]
      refine Tm_ob (s_isNamed t8 t9 hfe he hr.2.2 _ (by rw [upd_other (by decide), upd_same]) upd_same) (fun r4 h4 => ?_)
      obtain ⟨e4, i4⟩ := h4
      rw [nm] at i4
      refine Tm_ite (fun g => ?_) (fun g => ?_)
      · rw [e4]
        refine Tm_suc (fun q => by rw [x_find]) ?_
        rw [m1]
        refine ih (upd M 1 (nI k + -1)) (by omega) (by rw [upd_same]; exact (Int32.sub_eq_add_neg (nI k) 1).symm) (fun j hj hjc => ?_)
        by_cases z : j = k
        · subst z; rw [mIs_iff hr]; exact fun w => i4.mpr w g
        · exact hno j (by omega) hjc
      · rw [e4]
        refine Tm_suc (fun q => by rw [x_find]) ?_
        rw [m1]
        refine Tm_chk (n_in (by omega) (by omega)) ?_
        rw [n_cl (p := k) (by omega)]
        have fin : ∀ (x : Int32) (K : Nat → Int32), K 100 = x → (x = 0 ∨ x = 1) → x = (if σ.1 37 ≤ 0 then 0 else 1) → Tm (fun q => x_find q 6 K (upd (upd s.1 46 1) 47 (s.2.2 24 k), s.2.1, s.2.2)) (fun r => r.2.2 = σ.2 ∧ mFound σ f (e - f) c d r.2.1) := fun x K hx h01 hv => by
          refine Tm_suc (fun q => by rw [x_find]) ?_
          rw [hx]
          refine Tm_chk h01 ?_
          refine Tm_some ⟨s2, fun j a b z => ?_, Or.inl ⟨k, by omega, (mIs_iff hr).mpr (i4.mp g), fun j hj hjc => hno j (by omega) hjc, ?_, ?_, ?_⟩⟩
          · show upd (upd (upd s.1 46 1) 47 (s.2.2 24 k)) 48 x j = _
            rw [upd_other z, upd_other b, upd_other a]; exact so j a
          · show upd (upd (upd s.1 46 1) 47 (s.2.2 24 k)) 48 x 46 = _
            rw [upd_other (by decide), upd_other (by decide), upd_same]
          · show upd (upd (upd s.1 46 1) 47 (s.2.2 24 k)) 48 x 47 = _
            rw [upd_other (by decide), upd_same, s22]
          · show upd (upd (upd s.1 46 1) 47 (s.2.2 24 k)) 48 x 48 = _
            rw [upd_same]; exact hv
        refine Tm_suc (fun q => by rw [x_find]) ?_
        have e37 : upd (upd s.1 46 1) 47 (s.2.2 24 k) 37 = σ.1 37 := by rw [upd_other (by decide), upd_other (by decide)]; exact so 37 (by decide)
        show Tm (fun q => if upd (upd s.1 46 1) 47 (s.2.2 24 k) 37 ≤ 0 then _ else _) _
        rw [e37]
        refine Tm_ite (fun z => ?_) (fun z => ?_)
        · refine Tm_suc (fun q => by rw [x_find]) ?_
          exact fin 0 _ upd_same (Or.inl rfl) (by rw [if_pos z])
        · exact fin 1 _ upd_same (Or.inr rfl) (by rw [if_neg z])
  refine Tm_suc (fun k => by rw [x_find]) ?_
  exact seen c _ (Nat.le_refl _) (by rw [upd_same, so 38 (by decide), h38]) (fun j hj hjc => by omega)
end JnS22
section JnS23
/-! The house looks a name up, from the newest on. -/
/-- name j of program b is the one of these two numbers, and to be seen -/
abbrev cIs (σ : CS) (b : Bool) (hi lo : Int64) (j : Nat) : Prop := σ.2.2.2.1 (pR5 b) j = hi ∧ σ.2.2.2.1 (pR6 b) j = lo ∧ σ.2.2.1 (pR10 b) j = 0
theorem s_found {σ : CS} {b : Bool} {c : Nat} (hc : σ.1 (fP b 11) = nI c) (hc2 : c ≤ 256) (L : LV) (hb : L.2.2.1 0 = b) : Tm (fun k => y_X7_found__P k 0 L σ) (fun r => r.2 = σ ∧ ((∃ k, k < c ∧ r.1 = nI k ∧ cIs σ b (L.2.1 1) (L.2.1 3) k ∧ ∀ j, k < j → j < c → ¬ cIs σ b (L.2.1 1) (L.2.1 3) j) ∨ (r.1 = -1 ∧ ∀ j, j < c → ¬ cIs σ b (L.2.1 1) (L.2.1 3) j))) := by
  have loop : ∀ (k : Nat) (M : LV), k ≤ c → M.2.2.1 0 = b → M.2.1 1 = L.2.1 1 → M.2.1 3 = L.2.1 3 → M.1 5 = nI k - 1 → (∀ j, k ≤ j → j < c → ¬ cIs σ b (L.2.1 1) (L.2.1 3) j) → Tm (fun q => y_X7_found__P q 1 M σ) (fun r => r.2 = σ ∧ ((∃ k, k < c ∧ r.1 = nI k ∧ cIs σ b (L.2.1 1) (L.2.1 3) k ∧ ∀ j, k < j → j < c → ¬ cIs σ b (L.2.1 1) (L.2.1 3) j) ∨ (r.1 = -1 ∧ ∀ j, j < c → ¬ cIs σ b (L.2.1 1) (L.2.1 3) j))) := by
    intro k
    induction k with
    | zero =>
      intro M hk mb m1 m3 m5 hno
      refine Tm_suc (fun q => by rw [y_X7_found__P]) ?_
      rw [m5]
      refine Tm_ite (fun _ => ?_) (fun g => absurd (by decide) g)
      refine Tm_suc (fun q => by rw [y_X7_found__P]) ?_
      exact Tm_some ⟨rfl, Or.inr ⟨rfl, fun j hj => hno j (by omega) hj⟩⟩
    | succ k ih =>
      intro M hk mb m1 m3 m5 hno
      have m5 : M.1 5 = nI k := by rw [m5, show nI (k + 1) - 1 = nI (k + 1 - 1) from n_sub (q := 1) (by omega) (by omega)]; rfl
      have next : ¬ cIs σ b (L.2.1 1) (L.2.1 3) k → Tm (fun q => y_X7_found__P q 3 M σ) (fun r => r.2 = σ ∧ ((∃ k, k < c ∧ r.1 = nI k ∧ cIs σ b (L.2.1 1) (L.2.1 3) k ∧ ∀ j, k < j → j < c → ¬ cIs σ b (L.2.1 1) (L.2.1 3) j) ∨ (r.1 = -1 ∧ ∀ j, j < c → ¬ cIs σ b (L.2.1 1) (L.2.1 3) j))) := fun h => by
        refine Tm_suc (fun q => by rw [y_X7_found__P]) ?_
        rw [m5]
        refine ih (lI M 5 (nI k + -1)) (by omega) mb m1 m3 (by rw [lI_same]; exact (Int32.sub_eq_add_neg (nI k) 1).symm) (fun j hj hjc => ?_)
        by_cases e : j = k
        · rw [e]; exact h
        · exact hno j (by omega) hjc
      refine Tm_suc (fun q => by rw [y_X7_found__P]) ?_
      rw [m5, mb, m1, m3]
      refine Tm_ite (fun g => ?_) (fun _ => ?_)
      · rw [i_lt, n_int (by omega), i_c0] at g; omega
      refine Tm_chk (n_in (by omega) (by omega)) ?_
      rw [n_cl (p := k) (by omega)]
      refine Tm_ite (fun g1 => ?_) (fun g1 => next (fun h => g1 (nbCmp_0.mpr h.1)))
      refine Tm_chk (by rw [i_lt, n_int (p := k) (by omega), i_c0]; omega) ?_
      refine Tm_ite (fun g2 => ?_) (fun g2 => next (fun h => g2 (nbCmp_0.mpr h.2.1)))
      refine Tm_chk (by rw [i_lt, n_int (p := k) (by omega), i_c0]; omega) ?_
      refine Tm_ite (fun g3 => ?_) (fun g3 => next (fun h => g3 h.2.2))
      exact Tm_some ⟨rfl, Or.inl ⟨k, by omega, rfl, ⟨nbCmp_0.mp g1, nbCmp_0.mp g2, g3⟩, fun j hj hjc => hno j (by omega) hjc⟩⟩
  refine Tm_suc (fun k => by rw [y_X7_found__P]) ?_
  rw [hb, hc]
  exact loop c (lI L 5 (nI c - 1)) (Nat.le_refl _) hb rfl rfl (by rw [lI_same]) (fun j hj hjc => by omega)
end JnS23
section JnS24
/-! What a text is: the grammar as a function of its own, with the nodes that the reference lays. Tokens by the places where they begin; their kinds: 0 none, 1 to 24 signs, 25 the end, 26 a name, 27 a number, 28 a string, from 32 on words. -/
def tkc (km wm : Int32) : Nat := if km = 0 then 25 else if km = 1 then 26 else if km = 2 then 27 else if km = 3 then 28 else if km = 4 then wm.toNatClampNeg else if km = 5 then 32 + wm.toNatClampNeg else 0
def tkK (T : Nat → Int32) (n q : Nat) : Nat := tkc (tokM 0 T n q).1 (tokM 0 T n q).2.1
def tkE (T : Nat → Int32) (n q : Nat) : Nat := (tokM 0 T n q).2.2
def tkN (T : Nat → Int32) (n q : Nat) : Nat := sk T n (tkE T n q)
def tkS (T : Nat → Int32) (n q : Nat) : List Int32 := seg T q (tkE T n q)
/-- a name that is told within: bytes, place in the pool, slot -/
abbrev Nm := List Int32 × Nat × Nat
/-- a name of the program: bytes, place, kind, number -/
abbrev Gn := List Int32 × Nat × Nat × Nat
/-- what is laid: nodes, pooled, the six tables, the pool, which slots count -/
abbrev BT := Nat × Nat × (Nat → Nat → Int32) × (Nat → Int32) × (Nat → Int32)
/-- what is around: the program's names, those seen (the newest first), those of rows (likewise), the unit, whether newat and random may stand, how many params -/
abbrev En := List Gn × List Nm × List Nm × Nat × Bool × Bool × (Nat → Nat)
/-- the next token, variables, what it is (1 a variable, 2 with parts), node or list (0: none) or how many, what is laid, names told -/
abbrev Fl (α : Type) := Sum (Nat × Nat) α
abbrev RT := Nat × Nat × Nat × Nat × BT × List Nm
abbrev RG := Option (Fl RT)
def hd (e : Nat) : Int32 := if e = 0 then -1 else nI e
def bNode (b : BT) (k x y z : Int32) : BT := (b.1 + 1, b.2.1, updG (updG (updG (updG (updG (updG b.2.2.1 4 (upd (b.2.2.1 4) b.1 k)) 5 (upd (b.2.2.1 5) b.1 x)) 6 (upd (b.2.2.1 6) b.1 y)) 7 (upd (b.2.2.1 7) b.1 z)) 8 (upd (b.2.2.1 8) b.1 (-1))) 9 (upd (b.2.2.1 9) b.1 (-1)), b.2.2.2)
def bSet (b : BT) (j l : Nat) (x : Int32) : BT := (b.1, b.2.1, updG b.2.2.1 j (upd (b.2.2.1 j) l x), b.2.2.2)
def bOver (b : BT) (k x : Int32) (l : Nat) (z : Int32) : BT := bSet (bNode b k x (nI l) z) 9 l (nI b.1)
def bWrap (b : BT) (k x y z u : Int32) : BT := bSet (bNode b k x y z) 8 b.1 u
def bKeep (b : BT) (T : Nat → Int32) (f m : Nat) : BT := (b.1, b.2.1 + m, b.2.2.1, (fun i => if b.2.1 ≤ i ∧ i < b.2.1 + m then T (f + (i - b.2.1)) else b.2.2.2.1 i), b.2.2.2.2)
def bSlot (b : BT) (i : Nat) (x : Int32) : BT := (b.1, b.2.1, b.2.2.1, b.2.2.2.1, upd b.2.2.2.2 i x)
def gb (x : RG) (k : RT → RG) : RG := match x with
  | none => none
  | some (Sum.inl y) => some (Sum.inl y)
  | some (Sum.inr r) => k r
/-- the next token is taken -/
def gT (T : Nat → Int32) (n q : Nat) (k : Nat → RG) : RG := if tkK T n (tkN T n q) = 0 then some (Sum.inl (1, tkN T n q)) else k (tkN T n q)
/-- this token is wanted here -/
def gW (T : Nat → Int32) (n t q : Nat) (k : Nat → RG) : RG := if tkK T n q = t then gT T n q k else some (Sum.inl (2, q))
/-- the fault where a token is wanted -/
def wF (T : Nat → Int32) (n t q : Nat) : Nat × Nat := if tkK T n q = t then (1, tkN T n q) else (2, q)
theorem wF_y {T : Nat → Int32} {n t q : Nat} (h : tkK T n q = t) : wF T n t q = (1, tkN T n q) := if_pos h
theorem wF_n {T : Nat → Int32} {n t q : Nat} (h : ¬ tkK T n q = t) : wF T n t q = (2, q) := if_neg h
/-- one more is open -/
def gO (o q : Nat) (k : RG) : RG := if o = 20 then some (Sum.inl (3, q)) else k
def fd (E : En) (bs : List Int32) : Nat × Nat × Int32 := match E.2.1.find? (fun x => decide (x.1 = bs)) with
  | some x => (1, x.2.2, if E.2.2.2.1 = 0 then 0 else 1)
  | none => match E.1.find? (fun x => decide (x.1 = bs)) with
    | some x => (x.2.2.1, x.2.2.2, 0)
    | none => (0, 0, 0)
/-- a name of an iter is told: row names from c on -/
def gN (T : Nat → Int32) (n : Nat) (E : En) (c g q v : Nat) (b : BT) (k : Nat → Nat → Nat → BT → Nm → RG) : RG :=
  if tkK T n q = 26 then
    if ((E.2.2.1.take (E.2.2.1.length - c)).find? (fun x => decide (x.1 = tkS T n q))).isSome then some (Sum.inl (4, q))
    else if v = 60 then some (Sum.inl (8, q))
    else gT T n q (fun q1 => k q1 (v + 1) b.1 (bNode (bKeep (bSlot b (60 * E.2.2.2.1 + v) (nI g)) T q (tkE T n q - q)) 31 (if E.2.2.2.1 = 0 then 0 else 1) (nI v) 0) (tkS T n q, b.2.1, v))
  else some (Sum.inl (2, q))
abbrev isRl (k : Nat) : Prop := (17 ≤ k ∧ k ≤ 22) ∨ k = 46 ∨ k = 47 ∨ k = 48
def opr (k : Nat) : Int32 := if k ≤ 24 then nI k else 100 + nI (k - 32)
abbrev isFn (k : Nat) (dr : Bool) : Prop := (71 ≤ k ∧ k ≤ 79) ∨ k = 82 ∨ (k = 84 ∧ dr = true)
def seeN (E : En) (ns : List Nm) : En := (E.1, ns ++ E.2.1, E.2.2)
def rowN (E : En) (ns : List Nm) : En := (E.1, E.2.1, ns ++ E.2.2.1, E.2.2.2)
/-- exps: 0 exp, 1 behind an operand of or, 2 and, 3 likewise, 4 not, 5 rel, 6 sum, 7 likewise, 8 term, 9 likewise, 10 power, 11 prefix, 12 parts, 13 primary, 14 exps of a call, 15 members, 16 elseifs, 17 iters, 18 names of a pattern. o: open, q: the token, v: variables; i, e, c, g by the kind -/
def G (T : Nat → Int32) (n : Nat) : Nat → Nat → En → Nat → Nat → Nat → Nat → Nat → Nat → Nat → BT → RG
  | 0, _, _, _, _, _, _, _, _, _, _ => none
  | f + 1, nt, E, o, q, v, i, e, c, g, b => match nt with
    | 0 => gb (G T n f 2 E o q v 0 0 0 0 b) (fun r => G T n f 1 E o r.1 r.2.1 r.2.2.1 r.2.2.2.1 0 0 r.2.2.2.2.1)
    | 1 => if tkK T n q = 65 then gT T n q (fun q1 => gb (G T n f 2 E o q1 v 0 0 0 0 b) (fun r => G T n f 1 E o r.1 r.2.1 0 r.2.2.2.2.1.1 0 0 (bOver r.2.2.2.2.1 25 0 e (nI r.2.2.2.1)))) else some (Sum.inr (q, v, i, e, b, []))
    | 2 => gb (G T n f 4 E o q v 0 0 0 0 b) (fun r => G T n f 3 E o r.1 r.2.1 r.2.2.1 r.2.2.2.1 0 0 r.2.2.2.2.1)
    | 3 => if tkK T n q = 64 then gT T n q (fun q1 => gb (G T n f 4 E o q1 v 0 0 0 0 b) (fun r => G T n f 3 E o r.1 r.2.1 0 r.2.2.2.2.1.1 0 0 (bOver r.2.2.2.2.1 24 0 e (nI r.2.2.2.1)))) else some (Sum.inr (q, v, i, e, b, []))
    | 4 => if tkK T n q = 66 then gO o q (gT T n q (fun q1 => gb (G T n f 4 E (o + 1) q1 v 0 0 0 0 b) (fun r => some (Sum.inr (r.1, r.2.1, 0, r.2.2.2.2.1.1, bNode r.2.2.2.2.1 19 0 (nI r.2.2.2.1) 0, []))))) else G T n f 5 E o q v 0 0 0 0 b
    | 5 => gb (G T n f 6 E o q v 0 0 0 0 b) (fun r => if isRl (tkK T n r.1) then gT T n r.1 (fun q1 => gb (G T n f 6 E o q1 r.2.1 0 0 0 0 r.2.2.2.2.1) (fun s => some (Sum.inr (s.1, s.2.1, 0, s.2.2.2.2.1.1, bOver s.2.2.2.2.1 16 (opr (tkK T n r.1)) r.2.2.2.1 (nI s.2.2.2.1), [])))) else some (Sum.inr (r.1, r.2.1, r.2.2.1, r.2.2.2.1, r.2.2.2.2.1, [])))
    | 6 => gb (G T n f 8 E o q v 0 0 0 0 b) (fun r => G T n f 7 E o r.1 r.2.1 r.2.2.1 r.2.2.2.1 0 0 r.2.2.2.2.1)
    | 7 => if tkK T n q = 2 ∨ tkK T n q = 3 then gT T n q (fun q1 => gb (G T n f 8 E o q1 v 0 0 0 0 b) (fun r => G T n f 7 E o r.1 r.2.1 0 r.2.2.2.2.1.1 0 0 (bOver r.2.2.2.2.1 16 (opr (tkK T n q)) e (nI r.2.2.2.1)))) else some (Sum.inr (q, v, i, e, b, []))
    | 8 => gb (G T n f 10 E o q v 0 0 0 0 b) (fun r => G T n f 9 E o r.1 r.2.1 r.2.2.1 r.2.2.2.1 0 0 r.2.2.2.2.1)
    | 9 => if tkK T n q = 4 ∨ tkK T n q = 67 ∨ tkK T n q = 68 then gT T n q (fun q1 => gb (G T n f 10 E o q1 v 0 0 0 0 b) (fun r => G T n f 9 E o r.1 r.2.1 0 r.2.2.2.2.1.1 0 0 (bOver r.2.2.2.2.1 16 (opr (tkK T n q)) e (nI r.2.2.2.1)))) else some (Sum.inr (q, v, i, e, b, []))
    | 10 => gb (G T n f 11 E o q v 0 0 0 0 b) (fun r => if tkK T n r.1 = 5 then gO o r.1 (gT T n r.1 (fun q1 => gb (G T n f 10 E (o + 1) q1 r.2.1 0 0 0 0 r.2.2.2.2.1) (fun s => some (Sum.inr (s.1, s.2.1, 0, s.2.2.2.2.1.1, bOver s.2.2.2.2.1 16 5 r.2.2.2.1 (nI s.2.2.2.1), []))))) else some (Sum.inr (r.1, r.2.1, r.2.2.1, r.2.2.2.1, r.2.2.2.2.1, [])))
    | 11 => if tkK T n q = 3 ∨ tkK T n q = 23 then gO o q (gT T n q (fun q1 => gb (G T n f 11 E (o + 1) q1 v 0 0 0 0 b) (fun r => some (Sum.inr (r.1, r.2.1, 0, r.2.2.2.2.1.1, bNode r.2.2.2.2.1 (if tkK T n q = 3 then 17 else 18) 0 (nI r.2.2.2.1) 0, [])))))
      else if tkK T n q = 2 ∨ tkK T n q = 4 ∨ tkK T n q = 81 ∨ tkK T n q = 80 then gO o q (gT T n q (fun q1 => gW T n 24 q1 (fun q2 => gb (G T n f 11 E (o + 1) q2 v 0 0 0 0 b) (fun r => some (Sum.inr (r.1, r.2.1, 0, r.2.2.2.2.1.1, bNode r.2.2.2.2.1 20 (opr (tkK T n q)) (nI r.2.2.2.1) 0, []))))))
      else gb (G T n f 13 E o q v 0 0 0 0 b) (fun r => G T n f 12 E o r.1 r.2.1 r.2.2.1 r.2.2.2.1 0 0 r.2.2.2.2.1)
    | 12 => if tkK T n q = 6 ∨ tkK T n q = 8 then gO o q (gT T n q (fun q1 => gb (G T n f 0 E (o + 1) q1 v 0 0 0 0 b) (fun r =>
          if tkK T n q = 6 ∧ tkK T n r.1 = 16 then gT T n r.1 (fun q2 => gb (G T n f 0 E (o + 1) q2 r.2.1 0 0 0 0 r.2.2.2.2.1) (fun s => gW T n 7 s.1 (fun q3 => G T n f 12 E o q3 s.2.1 (if i = 0 then 0 else 2) s.2.2.2.2.1.1 0 0 (bSet (bOver s.2.2.2.2.1 22 0 e (nI r.2.2.2.1)) 8 s.2.2.2.2.1.1 (nI s.2.2.2.1)))))
          else gW T n (if tkK T n q = 8 then 9 else 7) r.1 (fun q2 => G T n f 12 E o q2 r.2.1 (if i = 0 then 0 else 2) r.2.2.2.2.1.1 0 0 (bOver r.2.2.2.2.1 (if tkK T n q = 8 then 23 else 21) 0 e (nI r.2.2.2.1))))))
      else some (Sum.inr (q, v, i, e, b, []))
    | 13 => if tkK T n q = 27 then gT T n q (fun q1 => some (Sum.inr (q1, v, 0, b.1, bNode (bKeep b T q (tkE T n q - q)) 1 (nI b.2.1) (nI (tkE T n q - q)) 0, [])))
      else if tkK T n q = 28 then gT T n q (fun q1 => some (Sum.inr (q1, v, 0, b.1, bNode (bKeep b T (q + 1) (tkE T n q - 2 - q)) 2 (nI b.2.1) (nI (tkE T n q - 2 - q)) 0, [])))
      else if tkK T n q = 26 then gT T n q (fun q1 =>
        if (fd E (tkS T n q)).1 = 1 then some (Sum.inr (q1, v, 1, b.1, bNode b 7 (fd E (tkS T n q)).2.2 (nI (fd E (tkS T n q)).2.1) 0, []))
        else if (fd E (tkS T n q)).1 = 2 ∧ tkK T n q1 = 6 then gO o q1 (gT T n q1 (fun q2 => gb (G T n f 14 E (o + 1) q2 v 0 0 0 0 b) (fun r =>
          if tkK T n r.1 = 7 ∧ r.2.2.1 = E.2.2.2.2.2.2 (fd E (tkS T n q)).2.1 then gT T n r.1 (fun q3 => some (Sum.inr (q3, r.2.1, 0, r.2.2.2.2.1.1, bWrap r.2.2.2.2.1 8 (nI (fd E (tkS T n q)).2.1) (hd r.2.2.2.1) (nI r.2.2.1) (nI (o + 1)), []))) else some (Sum.inl (if tkK T n r.1 = 7 then 6 else 2, r.1)))))
        else some (Sum.inl (5, q)))
      else if tkK T n q = 6 then gO o q (gT T n q (fun q1 => gb (G T n f 0 E (o + 1) q1 v 0 0 0 0 b) (fun r => gW T n 7 r.1 (fun q2 => some (Sum.inr (q2, r.2.1, 0, r.2.2.2.2.1.1, bOver r.2.2.2.2.1 26 0 r.2.2.2.1 0, []))))))
      else if tkK T n q = 8 ∨ tkK T n q = 10 then gO o q (gT T n q (fun q1 =>
        if tkK T n q1 = tkK T n q + 1 then gT T n q1 (fun q2 => some (Sum.inr (q2, v, 0, b.1, bNode b (if tkK T n q = 8 then 10 else 11) 0 (-1) 0, [])))
        else if tkK T n q1 = 45 then gT T n q1 (fun q2 => gb (G T n f 17 E (o + 1) q2 v 0 0 E.2.2.1.length 0 b) (fun r =>
          if tkK T n r.1 = 15 then gT T n r.1 (fun q3 => gb (G T n f 0 (seeN E r.2.2.2.2.2) (o + 1) q3 r.2.1 0 0 0 0 r.2.2.2.2.1) (fun s => gW T n 14 s.1 (fun q4 => gb (G T n f 0 (seeN E r.2.2.2.2.2) (o + 1) q4 s.2.1 0 0 0 0 s.2.2.2.2.1) (fun t => gW T n (tkK T n q + 1) t.1 (fun q5 => some (Sum.inr (q5, t.2.1, 0, t.2.2.2.2.1.1, bWrap t.2.2.2.2.1 13 (if tkK T n q = 8 then 1 else 0) (hd r.2.2.2.1) (nI s.2.2.2.1) (nI t.2.2.2.1), [])))))))
          else gW T n 14 r.1 (fun q4 => gb (G T n f 0 (seeN E r.2.2.2.2.2) (o + 1) q4 r.2.1 0 0 0 0 r.2.2.2.2.1) (fun t => gW T n (tkK T n q + 1) t.1 (fun q5 => some (Sum.inr (q5, t.2.1, 0, t.2.2.2.2.1.1, bWrap t.2.2.2.2.1 13 (if tkK T n q = 8 then 1 else 0) (hd r.2.2.2.1) (-1) (nI t.2.2.2.1), [])))))))
        else gb (G T n f 0 E (o + 1) q1 v 0 0 0 0 b) (fun r =>
          if tkK T n r.1 = 16 then gT T n r.1 (fun q2 => gb (G T n f 0 E (o + 1) q2 r.2.1 0 0 0 0 r.2.2.2.2.1) (fun s => gW T n (tkK T n q + 1) s.1 (fun q3 => some (Sum.inr (q3, s.2.1, 0, s.2.2.2.2.1.1, bWrap s.2.2.2.2.1 12 (if tkK T n q = 8 then 1 else 0) (nI r.2.2.2.1) (-1) (nI s.2.2.2.1), [])))))
          else gb (G T n f 15 E (o + 1) r.1 r.2.1 r.2.2.2.1 r.2.2.2.1 1 (if tkK T n q = 8 then 1 else 0) r.2.2.2.2.1) (fun s => gW T n (tkK T n q + 1) s.1 (fun q3 => some (Sum.inr (q3, s.2.1, 0, s.2.2.2.1, s.2.2.2.2.1, [])))))))
      else if tkK T n q = 60 ∨ tkK T n q = 61 ∨ tkK T n q = 62 then gT T n q (fun q1 => some (Sum.inr (q1, v, 0, b.1, bNode b (if tkK T n q = 60 then 3 else if tkK T n q = 61 then 4 else 5) 0 0 0, [])))
      else if tkK T n q = 69 ∨ tkK T n q = 70 then gO o q (gT T n q (fun q1 => gb (G T n f 17 E (o + 1) q1 v 0 0 E.2.2.1.length 0 b) (fun r => gW T n 15 r.1 (fun q2 => gb (G T n f 0 (seeN E r.2.2.2.2.2) (o + 1) q2 r.2.1 0 0 0 0 r.2.2.2.2.1) (fun s => some (Sum.inr (s.1, s.2.1, 0, s.2.2.2.2.1.1, bNode s.2.2.2.2.1 14 (if tkK T n q = 69 then 1 else 0) (hd r.2.2.2.1) (nI s.2.2.2.1), [])))))))
      else if tkK T n q = 39 then gO o q (gT T n q (fun q1 => gb (G T n f 0 E (o + 1) q1 v 0 0 0 0 b) (fun r => gW T n 40 r.1 (fun q2 => gb (G T n f 0 E (o + 1) q2 r.2.1 0 0 0 0 r.2.2.2.2.1) (fun s => gb (G T n f 16 E (o + 1) s.1 s.2.1 s.2.2.2.2.1.1 s.2.2.2.2.1.1 0 0 (bNode s.2.2.2.2.1 33 (nI r.2.2.2.1) (nI s.2.2.2.1) 0)) (fun t => gW T n 42 t.1 (fun q3 => gb (G T n f 0 E (o + 1) q3 t.2.1 0 0 0 0 t.2.2.2.2.1) (fun u => gW T n 38 u.1 (fun q4 => some (Sum.inr (q4, u.2.1, 0, u.2.2.2.2.1.1 + 1, bNode (bSet (bNode u.2.2.2.2.1 33 (-1) (nI u.2.2.2.1) 0) 9 t.2.2.2.1 (nI u.2.2.2.2.1.1)) 15 0 (nI s.2.2.2.2.1.1) 0, [])))))))))))
      else if tkK T n q = 83 ∧ E.2.2.2.2.1 = true then gT T n q (fun q1 => some (Sum.inr (q1, v, 0, b.1, bNode b 6 0 0 0, [])))
      else if isFn (tkK T n q) E.2.2.2.2.2.1 then gT T n q (fun q1 => if tkK T n q1 = 6 then gO o q1 (gT T n q1 (fun q2 => gb (G T n f 0 E (o + 1) q2 v 0 0 0 0 b) (fun r => gW T n 7 r.1 (fun q3 => some (Sum.inr (q3, r.2.1, 0, r.2.2.2.2.1.1, bNode r.2.2.2.2.1 9 (nI (tkK T n q - 32)) (nI r.2.2.2.1) 0, [])))))) else some (Sum.inl (2, q1)))
      else some (Sum.inl (2, q))
    | 14 => if c = 0 then (if tkK T n q = 7 then some (Sum.inr (q, v, 0, 0, b, [])) else gb (G T n f 0 E o q v 0 0 0 0 b) (fun r => G T n f 14 E o r.1 r.2.1 r.2.2.2.1 r.2.2.2.1 1 0 r.2.2.2.2.1))
      else if tkK T n q = 12 then gT T n q (fun q1 => gb (G T n f 0 E o q1 v 0 0 0 0 b) (fun r => G T n f 14 E o r.1 r.2.1 i r.2.2.2.1 (c + 1) 0 (bSet r.2.2.2.2.1 9 e (nI r.2.2.2.1))))
      else some (Sum.inr (q, v, c, i, b, []))
    | 15 => if tkK T n q = 12 then gT T n q (fun q1 => gb (G T n f 0 E o q1 v 0 0 0 0 b) (fun r =>
          if c = 1 ∧ tkK T n r.1 = 16 then gT T n r.1 (fun q2 => gb (G T n f 0 E o q2 r.2.1 0 0 0 0 r.2.2.2.2.1) (fun s => some (Sum.inr (s.1, s.2.1, 0, s.2.2.2.2.1.1, bWrap s.2.2.2.2.1 12 (nI g) (nI i) (nI r.2.2.2.1) (nI s.2.2.2.1), []))))
          else G T n f 15 E o r.1 r.2.1 i r.2.2.2.1 (c + 1) g (bSet r.2.2.2.2.1 9 e (nI r.2.2.2.1))))
      else some (Sum.inr (q, v, 0, b.1, bNode b (if g = 1 then 10 else 11) 0 (nI i) (nI c), []))
    | 16 => if tkK T n q = 41 then gT T n q (fun q1 => gb (G T n f 0 E o q1 v 0 0 0 0 b) (fun r => gW T n 40 r.1 (fun q2 => gb (G T n f 0 E o q2 r.2.1 0 0 0 0 r.2.2.2.2.1) (fun s => G T n f 16 E o s.1 s.2.1 i s.2.2.2.2.1.1 0 0 (bSet (bNode s.2.2.2.2.1 33 (nI r.2.2.2.1) (nI s.2.2.2.1) 0) 9 e (nI s.2.2.2.2.1.1))))))
      else some (Sum.inr (q, v, i, e, b, []))
    | 17 => if tkK T n q = 10 then gO o q (gT T n q (fun q1 => gN T n E c g q1 v b (fun q2 v2 e2 b2 nm => gb (G T n f 18 (rowN E [nm]) (o + 1) q2 v2 0 e2 c g b2) (fun r => gW T n 11 r.1 (fun q3 => gW T n 46 q3 (fun q4 => gb (G T n f 6 (rowN E (r.2.2.2.2.2 ++ [nm])) o q4 r.2.1 0 0 0 0 r.2.2.2.2.1) (fun s =>
          if tkK T n s.1 = 12 then gT T n s.1 (fun q5 => gb (G T n f 17 (rowN (seeN E (r.2.2.2.2.2 ++ [nm])) (r.2.2.2.2.2 ++ [nm])) o q5 s.2.1 (if i = 0 then s.2.2.2.2.1.1 else i) s.2.2.2.2.1.1 c g (if i = 0 then bNode s.2.2.2.2.1 30 1 (nI e2) (nI s.2.2.2.1) else bSet (bNode s.2.2.2.2.1 30 1 (nI e2) (nI s.2.2.2.1)) 9 e (nI s.2.2.2.2.1.1))) (fun t => some (Sum.inr (t.1, t.2.1, 0, t.2.2.2.1, t.2.2.2.2.1, t.2.2.2.2.2 ++ (r.2.2.2.2.2 ++ [nm])))))
          else some (Sum.inr (s.1, s.2.1, 0, (if i = 0 then s.2.2.2.2.1.1 else i), (if i = 0 then bNode s.2.2.2.2.1 30 1 (nI e2) (nI s.2.2.2.1) else bSet (bNode s.2.2.2.2.1 30 1 (nI e2) (nI s.2.2.2.1)) 9 e (nI s.2.2.2.2.1.1)), r.2.2.2.2.2 ++ [nm])))))))))
      else gN T n E c g q v b (fun q1 v1 e1 b1 nm => gW T n 46 q1 (fun q2 => gb (G T n f 6 (rowN E [nm]) o q2 v1 0 0 0 0 b1) (fun s =>
          if tkK T n s.1 = 12 then gT T n s.1 (fun q3 => gb (G T n f 17 (rowN (seeN E [nm]) [nm]) o q3 s.2.1 (if i = 0 then s.2.2.2.2.1.1 else i) s.2.2.2.2.1.1 c g (if i = 0 then bNode s.2.2.2.2.1 30 0 (nI e1) (nI s.2.2.2.1) else bSet (bNode s.2.2.2.2.1 30 0 (nI e1) (nI s.2.2.2.1)) 9 e (nI s.2.2.2.2.1.1))) (fun t => some (Sum.inr (t.1, t.2.1, 0, t.2.2.2.1, t.2.2.2.2.1, t.2.2.2.2.2 ++ [nm]))))
          else some (Sum.inr (s.1, s.2.1, 0, (if i = 0 then s.2.2.2.2.1.1 else i), (if i = 0 then bNode s.2.2.2.2.1 30 0 (nI e1) (nI s.2.2.2.1) else bSet (bNode s.2.2.2.2.1 30 0 (nI e1) (nI s.2.2.2.1)) 9 e (nI s.2.2.2.2.1.1)), [nm])))))
    | 18 => if tkK T n q = 12 then gT T n q (fun q1 => gN T n E c g q1 v b (fun q2 v2 e2 b2 nm => gb (G T n f 18 (rowN E [nm]) o q2 v2 0 e2 c g (bSet b2 9 e (nI e2))) (fun r => some (Sum.inr (r.1, r.2.1, 0, 0, r.2.2.2.2.1, r.2.2.2.2.2 ++ [nm])))))
      else some (Sum.inr (q, v, 0, 0, b, []))
    | _ => none
end JnS24
section JnS25
/-! Tokens: where they end, what they are. -/
def two61 (x : Int32) : Bool := decide (x = 1 ∨ x = 5 ∨ x = 16 ∨ x = 18 ∨ x = 20 ∨ x = 22)
theorem sign_two {c d : Int32} (h : signF c d = 1 ∨ signF c d = 5 ∨ signF c d = 16 ∨ signF c d = 18 ∨ signF c d = 20 ∨ signF c d = 22) : ¬ d = 0 := by
  intro e
  subst e
  have z1 : ¬ (0 : Int32) = 61 := by decide
  have z2 : ¬ (0 : Int32) = 42 := by decide
  have z3 : ¬ (0 : Int32) = 46 := by decide
  have key : two61 (signF c 0) = false := by
    unfold signF
    by_cases h35 : c = 35
    · rw [if_pos h35]; decide
    rw [if_neg h35]
    by_cases h40 : c = 40
    · rw [if_pos h40]; decide
    rw [if_neg h40]
    by_cases h41 : c = 41
    · rw [if_pos h41]; decide
    rw [if_neg h41]
    by_cases h42 : c = 42
    · rw [if_pos h42, if_neg z2]; decide
    rw [if_neg h42]
    by_cases h43 : c = 43
    · rw [if_pos h43]; decide
    rw [if_neg h43]
    by_cases h44 : c = 44
    · rw [if_pos h44]; decide
    rw [if_neg h44]
    by_cases h45 : c = 45
    · rw [if_pos h45]; decide
    rw [if_neg h45]
    by_cases h46 : c = 46
    · rw [if_pos h46, if_neg z3]; decide
    rw [if_neg h46]
    by_cases h47 : c = 47
    · rw [if_pos h47, if_neg z1]; decide
    rw [if_neg h47]
    by_cases h58 : c = 58
    · rw [if_pos h58, if_neg z1]; decide
    rw [if_neg h58]
    by_cases h59 : c = 59
    · rw [if_pos h59]; decide
    rw [if_neg h59]
    by_cases h60 : c = 60
    · rw [if_pos h60, if_neg z1]; decide
    rw [if_neg h60]
    by_cases h61 : c = 61
    · rw [if_pos h61]; decide
    rw [if_neg h61]
    by_cases h62 : c = 62
    · rw [if_pos h62, if_neg z1]; decide
    rw [if_neg h62]
    by_cases h91 : c = 91
    · rw [if_pos h91]; decide
    rw [if_neg h91]
    by_cases h93 : c = 93
    · rw [if_pos h93]; decide
    rw [if_neg h93]
    by_cases h123 : c = 123
    · rw [if_pos h123]; decide
    rw [if_neg h123]
    by_cases h124 : c = 124
    · rw [if_pos h124]; decide
    rw [if_neg h124]
    by_cases h125 : c = 125
    · rw [if_pos h125]; decide
    rw [if_neg h125]
    decide
  have : two61 (signF c 0) = true := decide_eq_true h
  rw [key] at this
  exact absurd this (by decide)
theorem sign_val (c d : Int32) : ∃ v : Nat, v ≤ 24 ∧ signF c d = nI v := by
  unfold signF
  by_cases h35 : c = 35
  · rw [if_pos h35]; exact ⟨23, by decide, rfl⟩
  rw [if_neg h35]
  by_cases h40 : c = 40
  · rw [if_pos h40]; exact ⟨6, by decide, rfl⟩
  rw [if_neg h40]
  by_cases h41 : c = 41
  · rw [if_pos h41]; exact ⟨7, by decide, rfl⟩
  rw [if_neg h41]
  by_cases h42 : c = 42
  · rw [if_pos h42]
    by_cases h : d = 42
    · rw [if_pos h]; exact ⟨5, by decide, rfl⟩
    · rw [if_neg h]; exact ⟨4, by decide, rfl⟩
  rw [if_neg h42]
  by_cases h43 : c = 43
  · rw [if_pos h43]; exact ⟨2, by decide, rfl⟩
  rw [if_neg h43]
  by_cases h44 : c = 44
  · rw [if_pos h44]; exact ⟨12, by decide, rfl⟩
  rw [if_neg h44]
  by_cases h45 : c = 45
  · rw [if_pos h45]; exact ⟨3, by decide, rfl⟩
  rw [if_neg h45]
  by_cases h46 : c = 46
  · rw [if_pos h46]
    by_cases h : d = 46
    · rw [if_pos h]; exact ⟨16, by decide, rfl⟩
    · rw [if_neg h]; exact ⟨0, by decide, rfl⟩
  rw [if_neg h46]
  by_cases h47 : c = 47
  · rw [if_pos h47]
    by_cases h : d = 61
    · rw [if_pos h]; exact ⟨18, by decide, rfl⟩
    · rw [if_neg h]; exact ⟨24, by decide, rfl⟩
  rw [if_neg h47]
  by_cases h58 : c = 58
  · rw [if_pos h58]
    by_cases h : d = 61
    · rw [if_pos h]; exact ⟨1, by decide, rfl⟩
    · rw [if_neg h]; exact ⟨14, by decide, rfl⟩
  rw [if_neg h58]
  by_cases h59 : c = 59
  · rw [if_pos h59]; exact ⟨13, by decide, rfl⟩
  rw [if_neg h59]
  by_cases h60 : c = 60
  · rw [if_pos h60]
    by_cases h : d = 61
    · rw [if_pos h]; exact ⟨20, by decide, rfl⟩
    · rw [if_neg h]; exact ⟨19, by decide, rfl⟩
  rw [if_neg h60]
  by_cases h61 : c = 61
  · rw [if_pos h61]; exact ⟨17, by decide, rfl⟩
  rw [if_neg h61]
  by_cases h62 : c = 62
  · rw [if_pos h62]
    by_cases h : d = 61
    · rw [if_pos h]; exact ⟨22, by decide, rfl⟩
    · rw [if_neg h]; exact ⟨21, by decide, rfl⟩
  rw [if_neg h62]
  by_cases h91 : c = 91
  · rw [if_pos h91]; exact ⟨10, by decide, rfl⟩
  rw [if_neg h91]
  by_cases h93 : c = 93
  · rw [if_pos h93]; exact ⟨11, by decide, rfl⟩
  rw [if_neg h93]
  by_cases h123 : c = 123
  · rw [if_pos h123]; exact ⟨8, by decide, rfl⟩
  rw [if_neg h123]
  by_cases h124 : c = 124
  · rw [if_pos h124]; exact ⟨15, by decide, rfl⟩
  rw [if_neg h124]
  by_cases h125 : c = 125
  · rw [if_pos h125]; exact ⟨9, by decide, rfl⟩
  rw [if_neg h125]
  exact ⟨0, by decide, rfl⟩
/-- what a token can be: t.1 its kind, t.2.1 which sign or word, t.2.2 its end -/
theorem tok_form (w : Int32) (T : Nat → Int32) (n q : Nat) (hq : q ≤ n) : q ≤ (tokM w T n q).2.2 ∧ (tokM w T n q).2.2 ≤ n ∧
    ((q = n ∧ (tokM w T n q).1 = 0 ∧ (tokM w T n q).2.2 = n) ∨ (q < n ∧ q < (tokM w T n q).2.2 ∧ ((tokM w T n q).1 = 1 ∨ (tokM w T n q).1 = 2 ∨ (tokM w T n q).1 = 3 ∨ ((tokM w T n q).1 = 4 ∧ ∃ v : Nat, 1 ≤ v ∧ v ≤ 24 ∧ (tokM w T n q).2.1 = nI v) ∨ ((tokM w T n q).1 = 5 ∧ ∃ v : Nat, v < 53 ∧ (tokM w T n q).2.1 = nI v) ∨ (tokM w T n q).1 = 6))) := by
  unfold tokM
  by_cases c : q = n
  · rw [if_pos c]
    exact ⟨Nat.le_refl _, hq, Or.inl ⟨c, rfl, c⟩⟩
  rw [if_neg c]
  have hlt : q < n := by omega
  by_cases c1 : isL (rB T n q)
  · rw [if_pos c1]
    have h1 := nameE_le T n n (q + 1) (by omega)
    have h2 := nameE_ge T n n (q + 1)
    have e1 : nameE T n (n + 1) q = nameE T n n (q + 1) := by rw [nameE_step, if_pos (Or.inl c1)]
    rw [e1]
    refine ⟨by show q ≤ nameE T n n (q + 1); omega, h1, Or.inr ⟨hlt, by show q < nameE T n n (q + 1); omega, ?_⟩⟩
    dsimp only
    by_cases c2 : nameE T n n (q + 1) - q ≤ 16
    · rw [if_pos c2]
      rcases wordF_val (seg T q (nameE T n n (q + 1))) 53 0 rfl with h | ⟨v, hv, h, _⟩
      · exact Or.inl (if_pos h)
      · refine Or.inr (Or.inr (Or.inr (Or.inr (Or.inl ⟨if_neg ?_, v, hv, h⟩))))
        intro h'
        have := h.symm.trans h'
        revert this
        have : ∀ v : Nat, v < 53 → ¬ nI v = -1 := by decide +kernel
        exact this v hv
    · rw [if_neg c2]
      exact Or.inr (Or.inr (Or.inr (Or.inr (Or.inr rfl))))
  rw [if_neg c1]
  by_cases c2 : isD (rB T n q)
  · rw [if_pos c2]
    have h1 := digE_le T n n (q + 1) (by omega)
    have h2 := digE_ge T n n (q + 1)
    have e1 : digE T n (n + 1) q = digE T n n (q + 1) := by rw [digE_step, if_pos c2]
    rw [e1]
    refine ⟨by show q ≤ digE T n n (q + 1); omega, h1, Or.inr ⟨hlt, by show q < digE T n n (q + 1); omega, ?_⟩⟩
    dsimp only
    split
    · exact Or.inr (Or.inl rfl)
    · exact Or.inr (Or.inr (Or.inr (Or.inr (Or.inr rfl))))
  rw [if_neg c2]
  by_cases c3 : rB T n q = 34
  · rw [if_pos c3]
    have h1 := strE_le T n (n + 1) (q + 1) (by omega)
    have h2 := strE_ge T n (n + 1) (q + 1)
    refine ⟨?_, ?_, Or.inr ⟨hlt, ?_, ?_⟩⟩
    · dsimp only; omega
    · dsimp only; split <;> omega
    · dsimp only; omega
    · dsimp only
      split
      · exact Or.inr (Or.inr (Or.inl rfl))
      · exact Or.inr (Or.inr (Or.inr (Or.inr (Or.inr rfl))))
  rw [if_neg c3]
  refine ⟨by dsimp only; omega, ?_, Or.inr ⟨hlt, ?_, ?_⟩⟩
  · dsimp only
    split
    · rename_i h
      have := sign_two h
      by_cases h3 : q + 1 < n
      · omega
      · exact absurd (rB_out (by omega)) this
    · omega
  · dsimp only; split <;> omega
  · dsimp only
    obtain ⟨v, hv, h⟩ := sign_val (rB T n q) (rB T n (q + 1))
    by_cases c4 : signF (rB T n q) (rB T n (q + 1)) = 0
    · rw [if_pos c4]; exact Or.inr (Or.inr (Or.inr (Or.inr (Or.inr rfl))))
    · rw [if_neg c4]
      refine Or.inr (Or.inr (Or.inr (Or.inl ⟨rfl, v, ?_, hv, h⟩)))
      cases v with
      | zero => exact absurd h c4
      | succ v => omega
/-- what was before tells nothing of a token's kind and end, and nothing of a sign or word -/
theorem tok_w (w : Int32) (T : Nat → Int32) (n q : Nat) : (tokM w T n q).1 = (tokM 0 T n q).1 ∧ (tokM w T n q).2.2 = (tokM 0 T n q).2.2 ∧ ((tokM 0 T n q).1 = 4 ∨ (tokM 0 T n q).1 = 5 → (tokM w T n q).2.1 = (tokM 0 T n q).2.1) := by
  have z4 : ¬ ((0 : Int32) = 4 ∨ (0 : Int32) = 5) := by decide
  have z5 : ¬ ((2 : Int32) = 4 ∨ (2 : Int32) = 5) := by decide
  have z6 : ¬ ((6 : Int32) = 4 ∨ (6 : Int32) = 5) := by decide
  have z7 : ¬ ((3 : Int32) = 4 ∨ (3 : Int32) = 5) := by decide
  unfold tokM
  by_cases c : q = n
  · rw [if_pos c, if_pos c]; exact ⟨rfl, rfl, fun h => absurd h z4⟩
  rw [if_neg c, if_neg c]
  by_cases c1 : isL (rB T n q)
  · rw [if_pos c1, if_pos c1]; exact ⟨rfl, rfl, fun _ => rfl⟩
  rw [if_neg c1, if_neg c1]
  by_cases c2 : isD (rB T n q)
  · rw [if_pos c2, if_pos c2]
    refine ⟨rfl, rfl, fun h => absurd h ?_⟩
    dsimp only
    split
    · exact z5
    · exact z6
  rw [if_neg c2, if_neg c2]
  by_cases c3 : rB T n q = 34
  · rw [if_pos c3, if_pos c3]
    refine ⟨rfl, rfl, fun h => absurd h ?_⟩
    dsimp only
    split
    · exact z7
    · exact z6
  rw [if_neg c3, if_neg c3]
  exact ⟨rfl, rfl, fun _ => rfl⟩
theorem kv_4 : ¬ (4 : Int32) = 0 ∧ ¬ (4 : Int32) = 1 ∧ ¬ (4 : Int32) = 2 ∧ ¬ (4 : Int32) = 3 := by decide
theorem kv_5 : ¬ (5 : Int32) = 0 ∧ ¬ (5 : Int32) = 1 ∧ ¬ (5 : Int32) = 2 ∧ ¬ (5 : Int32) = 3 ∧ ¬ (5 : Int32) = 4 := by decide
theorem tkc_4 {v : Nat} (hv : v ≤ 24) : tkc 4 (nI v) = v := by
  unfold tkc
  rw [if_neg kv_4.1, if_neg kv_4.2.1, if_neg kv_4.2.2.1, if_neg kv_4.2.2.2, if_pos rfl, n_cl (by omega)]
theorem tkc_5 {v : Nat} (hv : v < 53) : tkc 5 (nI v) = 32 + v := by
  unfold tkc
  rw [if_neg kv_5.1, if_neg kv_5.2.1, if_neg kv_5.2.2.1, if_neg kv_5.2.2.2.1, if_neg kv_5.2.2.2.2, if_pos rfl, n_cl (by omega)]
/-- the kinds as numbers -/
theorem tk_cases (T : Nat → Int32) (n q : Nat) (hq : q ≤ n) :
    (q = n ∧ (tokM 0 T n q).1 = 0 ∧ tkK T n q = 25) ∨ (q < n ∧ (((tokM 0 T n q).1 = 1 ∧ tkK T n q = 26) ∨ ((tokM 0 T n q).1 = 2 ∧ tkK T n q = 27) ∨ ((tokM 0 T n q).1 = 3 ∧ tkK T n q = 28) ∨ ((tokM 0 T n q).1 = 4 ∧ 1 ≤ tkK T n q ∧ tkK T n q ≤ 24 ∧ (tokM 0 T n q).2.1 = nI (tkK T n q)) ∨ ((tokM 0 T n q).1 = 5 ∧ 32 ≤ tkK T n q ∧ tkK T n q < 85 ∧ (tokM 0 T n q).2.1 = nI (tkK T n q - 32)) ∨ ((tokM 0 T n q).1 = 6 ∧ tkK T n q = 0))) := by
  obtain ⟨_, _, h⟩ := tok_form 0 T n q hq
  rcases h with ⟨h1, h2, _⟩ | ⟨h1, _, h2⟩
  · exact Or.inl ⟨h1, h2, by unfold tkK; rw [h2]; rfl⟩
  · refine Or.inr ⟨h1, ?_⟩
    rcases h2 with h | h | h | ⟨h, v, v1, v2, h3⟩ | ⟨h, v, v2, h3⟩ | h
    · exact Or.inl ⟨h, by unfold tkK; rw [h]; rfl⟩
    · exact Or.inr (Or.inl ⟨h, by unfold tkK; rw [h]; rfl⟩)
    · exact Or.inr (Or.inr (Or.inl ⟨h, by unfold tkK; rw [h]; rfl⟩))
    · have e : tkK T n q = v := by unfold tkK; rw [h, h3]; exact tkc_4 v2
      exact Or.inr (Or.inr (Or.inr (Or.inl ⟨h, by omega, by omega, by rw [e]; exact h3⟩)))
    · have e : tkK T n q = 32 + v := by unfold tkK; rw [h, h3]; exact tkc_5 v2
      exact Or.inr (Or.inr (Or.inr (Or.inr (Or.inl ⟨h, by omega, by omega, by rw [e, show 32 + v - 32 = v by omega]; exact h3⟩))))
    · exact Or.inr (Or.inr (Or.inr (Or.inr (Or.inr ⟨h, by unfold tkK; rw [h]; rfl⟩))))
theorem tkE_b (T : Nat → Int32) (n q : Nat) (hq : q ≤ n) : q ≤ tkE T n q ∧ tkE T n q ≤ n ∧ (¬ tkK T n q = 25 → q < tkE T n q) := by
  obtain ⟨h1, h2, h⟩ := tok_form 0 T n q hq
  refine ⟨h1, h2, fun h3 => ?_⟩
  rcases h with ⟨_, h4, _⟩ | ⟨_, h4, _⟩
  · exact absurd (by unfold tkK; rw [h4]; rfl) h3
  · exact h4
theorem tkN_b (T : Nat → Int32) (n q : Nat) (hq : q ≤ n) : q ≤ tkN T n q ∧ tkN T n q ≤ n ∧ tkE T n q ≤ tkN T n q ∧ (¬ tkK T n q = 25 → q < tkN T n q) := by
  have h := tkE_b T n q hq
  have h1 := skE_ge T n (n + 1) (tkE T n q)
  have h2 := skE_le T n (n + 1) (tkE T n q) h.2.1
  have h3 : tkE T n q ≤ tkN T n q := h1
  exact ⟨by omega, h2, h1, fun h4 => by have := h.2.2 h4; omega⟩
/-- the token that the reference stands at -/
def mCur (T : Nat → Int32) (n : Nat) (σ : MS) (q : Nat) : Prop := q ≤ n ∧ σ.1 8 = nI q ∧ σ.1 5 = nI (tkE T n q) ∧ σ.1 9 = nI (tkE T n q) ∧ σ.1 6 = (tokM 0 T n q).1 ∧ ∃ w : Int32, σ.1 7 = (tokM w T n q).2.1
section CUR
variable {T : Nat → Int32} {n q : Nat} {σ : MS}
theorem cur_sign (h : mCur T n σ q) {s : Nat} (h1 : 1 ≤ s) (h2 : s ≤ 24) : (σ.1 6 = 4 ∧ σ.1 7 = nI s) ↔ tkK T n q = s := by
  obtain ⟨hq, _, _, _, h6, w, h7⟩ := h
  have hw := tok_w w T n q
  rw [h6]
  rcases tk_cases T n q hq with ⟨_, a, b⟩ | ⟨_, ⟨a, b⟩ | ⟨a, b⟩ | ⟨a, b⟩ | ⟨a, b1, b2, b3⟩ | ⟨a, b1, b2, _⟩ | ⟨a, b⟩⟩
  · rw [a, b]; exact ⟨fun h => absurd h.1 (by decide), fun h => by omega⟩
  · rw [a, b]; exact ⟨fun h => absurd h.1 (by decide), fun h => by omega⟩
  · rw [a, b]; exact ⟨fun h => absurd h.1 (by decide), fun h => by omega⟩
  · rw [a, b]; exact ⟨fun h => absurd h.1 (by decide), fun h => by omega⟩
  · rw [h7, hw.2.2 (Or.inl a), b3, n_eq (by omega) (by omega), a]; exact ⟨fun h => h.2, fun h => ⟨rfl, h⟩⟩
  · rw [a]; exact ⟨fun h => absurd h.1 (by decide), fun h => by omega⟩
  · rw [a, b]; exact ⟨fun h => absurd h.1 (by decide), fun h => by omega⟩
theorem cur_word (h : mCur T n σ q) {s : Nat} (h1 : s < 53) : (σ.1 6 = 5 ∧ σ.1 7 = nI s) ↔ tkK T n q = 32 + s := by
  obtain ⟨hq, _, _, _, h6, w, h7⟩ := h
  have hw := tok_w w T n q
  rw [h6]
  rcases tk_cases T n q hq with ⟨_, a, b⟩ | ⟨_, ⟨a, b⟩ | ⟨a, b⟩ | ⟨a, b⟩ | ⟨a, b1, b2, b3⟩ | ⟨a, b1, b2, b3⟩ | ⟨a, b⟩⟩
  · rw [a, b]; exact ⟨fun h => absurd h.1 (by decide), fun h => by omega⟩
  · rw [a, b]; exact ⟨fun h => absurd h.1 (by decide), fun h => by omega⟩
  · rw [a, b]; exact ⟨fun h => absurd h.1 (by decide), fun h => by omega⟩
  · rw [a, b]; exact ⟨fun h => absurd h.1 (by decide), fun h => by omega⟩
  · rw [a]; exact ⟨fun h => absurd h.1 (by decide), fun h => by omega⟩
  · rw [h7, hw.2.2 (Or.inr a), b3, n_eq (by omega) (by omega), a]; exact ⟨fun h => by omega, fun h => ⟨rfl, by omega⟩⟩
  · rw [a, b]; exact ⟨fun h => absurd h.1 (by decide), fun h => by omega⟩
/-- other kinds, by their numbers -/
theorem cur_kind (h : mCur T n σ q) : (σ.1 6 = 0 ↔ tkK T n q = 25) ∧ (σ.1 6 = 1 ↔ tkK T n q = 26) ∧ (σ.1 6 = 2 ↔ tkK T n q = 27) ∧ (σ.1 6 = 3 ↔ tkK T n q = 28) ∧ (σ.1 6 = 4 ↔ 1 ≤ tkK T n q ∧ tkK T n q ≤ 24) ∧ (σ.1 6 = 5 ↔ 32 ≤ tkK T n q) := by
  obtain ⟨hq, _, _, _, h6, w, h7⟩ := h
  rw [h6]
  rcases tk_cases T n q hq with ⟨_, a, b⟩ | ⟨_, ⟨a, b⟩ | ⟨a, b⟩ | ⟨a, b⟩ | ⟨a, b1, b2, b3⟩ | ⟨a, b1, b2, b3⟩ | ⟨a, b⟩⟩ <;> rw [a]
  · rw [b]; decide
  · rw [b]; decide
  · rw [b]; decide
  · rw [b]; decide
  · exact ⟨⟨fun h => absurd h (by decide), fun h => by omega⟩, ⟨fun h => absurd h (by decide), fun h => by omega⟩, ⟨fun h => absurd h (by decide), fun h => by omega⟩, ⟨fun h => absurd h (by decide), fun h => by omega⟩, ⟨fun _ => ⟨b1, b2⟩, fun _ => rfl⟩, ⟨fun h => absurd h (by decide), fun h => by omega⟩⟩
  · exact ⟨⟨fun h => absurd h (by decide), fun h => by omega⟩, ⟨fun h => absurd h (by decide), fun h => by omega⟩, ⟨fun h => absurd h (by decide), fun h => by omega⟩, ⟨fun h => absurd h (by decide), fun h => by omega⟩, ⟨fun h => absurd h (by decide), fun h => by omega⟩, ⟨fun _ => b1, fun _ => rfl⟩⟩
  · rw [b]; decide
/-- which sign or word it is -/
theorem cur_what (h : mCur T n σ q) : (1 ≤ tkK T n q → tkK T n q ≤ 24 → σ.1 7 = nI (tkK T n q)) ∧ (32 ≤ tkK T n q → σ.1 7 = nI (tkK T n q - 32)) ∧ tkK T n q < 85 := by
  obtain ⟨hq, _, _, _, h6, w, h7⟩ := h
  have hw := tok_w w T n q
  rw [h7]
  rcases tk_cases T n q hq with ⟨_, a, b⟩ | ⟨_, ⟨a, b⟩ | ⟨a, b⟩ | ⟨a, b⟩ | ⟨a, b1, b2, b3⟩ | ⟨a, b1, b2, b3⟩ | ⟨a, b⟩⟩
  · exact ⟨fun h => by omega, fun h => by omega, by omega⟩
  · exact ⟨fun h => by omega, fun h => by omega, by omega⟩
  · exact ⟨fun h => by omega, fun h => by omega, by omega⟩
  · exact ⟨fun h => by omega, fun h => by omega, by omega⟩
  · rw [hw.2.2 (Or.inl a)]; exact ⟨fun _ _ => b3, fun h => by omega, by omega⟩
  · rw [hw.2.2 (Or.inr a)]; exact ⟨fun _ h => by omega, fun _ => b3, by omega⟩
  · exact ⟨fun h => by omega, fun h => by omega, by omega⟩
end CUR
end JnS25
section JnS26
variable {yf : Nat × Nat}
/-! How the reference holds what is read: PS. What stays: FrM. After a fault: Bb. -/
def rowsOK (A B C pool : Nat → Int32) (p : Nat) : List Nm → Prop
  | [] => True
  | x :: l => (A l.length = nI x.2.1 ∧ B l.length = nI x.1.length ∧ C l.length = nI x.2.2 ∧ x.2.1 + x.1.length ≤ p ∧ x.2.2 < 60 ∧ ∀ i, i < x.1.length → pool (x.2.1 + i) = x.1.getD i 0) ∧ rowsOK A B C pool p l
theorem rowsOK_mono {A B C A' B' C' pool pool' : Nat → Int32} {p p' : Nat} : ∀ l : List Nm, (∀ i, i < l.length → A' i = A i ∧ B' i = B i ∧ C' i = C i) → (∀ i, i < p → pool' i = pool i) → p ≤ p' → rowsOK A B C pool p l → rowsOK A' B' C' pool' p' l
  | [], _, _, _, _ => trivial
  | x :: l, h1, h2, h3, ⟨⟨a, b, c, d, d2, e⟩, h⟩ => by
    have hl := h1 l.length (by simp)
    refine ⟨⟨hl.1.trans a, hl.2.1.trans b, hl.2.2.trans c, by omega, d2, fun i hi => ?_⟩, rowsOK_mono l (fun i hi => h1 i (by simp; omega)) h2 h3 h⟩
    rw [h2 _ (by omega)]; exact e i hi
def glOK (A B C D pool : Nat → Int32) (p : Nat) (gl : List Gn) : Prop := ∀ (k : Nat) (x : Gn), gl[k]? = some x → A k = nI x.2.2.1 ∧ B k = nI x.2.1 ∧ C k = nI x.1.length ∧ D k = nI x.2.2.2 ∧ x.2.1 + x.1.length ≤ p ∧ x.2.2.1 ≤ 3 ∧ 1 ≤ x.2.2.1 ∧ x.2.2.2 < 60 ∧ ∀ i, i < x.1.length → pool (x.2.1 + i) = x.1.getD i 0
def PT (T : Nat → Int32) (n : Nat) (σ : MS) (q : Nat) : Prop := mN σ n ∧ σ.2.2 3 = T ∧ σ.2.2 1 = mT mWords 264 ∧ σ.1 10 = 0 ∧ mCur T n σ q ∧ ¬ tkK T n q = 0
def PO (σ : MS) (o : Nat) : Prop := σ.1 13 = nI o ∧ o ≤ 20
def PB (σ : MS) (b : BT) : Prop := σ.1 22 = nI b.1 ∧ 1 ≤ b.1 ∧ σ.1 24 = nI b.2.1 ∧ (∀ j, 4 ≤ j → j ≤ 9 → ∀ i, 1 ≤ i → i < b.1 → σ.2.2 j i = b.2.2.1 j i) ∧ (∀ i, i < b.2.1 → σ.2.2 12 i = b.2.2.2.1 i)
def PV (σ : MS) (w v : Nat) (b : BT) : Prop := σ.1 37 = nI w ∧ w ≤ 42 ∧ σ.2.2 21 w = nI v ∧ v ≤ 60 ∧ (∀ i, i < v → σ.2.2 20 (60 * w + i) = b.2.2.2.2 (60 * w + i))
def PN (σ : MS) (E : En) (b : BT) (v : Nat) : Prop :=
  (σ.1 38 = nI E.2.1.length ∧ E.2.1.length ≤ v ∧ rowsOK (σ.2.2 22) (σ.2.2 23) (σ.2.2 24) b.2.2.2.1 b.2.1 E.2.1) ∧
  (σ.1 52 = nI E.2.2.1.length ∧ E.2.2.1.length ≤ v ∧ rowsOK (σ.2.2 25) (σ.2.2 26) (σ.2.2 27) b.2.2.2.1 b.2.1 E.2.2.1) ∧
  (σ.1 25 = nI E.1.length ∧ E.1.length ≤ 200 ∧ glOK (σ.2.2 13) (σ.2.2 14) (σ.2.2 15) (σ.2.2 16) b.2.2.2.1 b.2.1 E.1)
def PF (σ : MS) (E : En) : Prop := (σ.1 43 = 0 ↔ E.2.2.2.2.1 = false) ∧ (σ.1 42 = 0 ↔ E.2.2.2.2.2.1 = false) ∧ (∀ x ∈ E.1, ¬ x.2.2.1 = 1 → x.2.2.2 < 41 ∧ σ.2.2 18 x.2.2.2 = nI (E.2.2.2.2.2.2 x.2.2.2) ∧ E.2.2.2.2.2.2 x.2.2.2 ≤ 8)
def PS (T : Nat → Int32) (n : Nat) (E : En) (o q v : Nat) (b : BT) (σ : MS) : Prop := PT T n σ q ∧ PO σ o ∧ PB σ b ∧ PV σ E.2.2.2.1 v b ∧ PN σ E b v ∧ PF σ E
/-- what a text's reading leaves: nodes below M, the pool below P, other units' variables, all that is not the parser's -/
def FrM (M P w : Nat) (σ σ' : MS) : Prop :=
  (∀ j, ¬ ((5 ≤ j ∧ j ≤ 13) ∨ j = 22 ∨ j = 24 ∨ j = 38 ∨ (46 ≤ j ∧ j ≤ 48) ∨ j = 52) → σ'.1 j = σ.1 j) ∧ σ'.2.1 = σ.2.1 ∧
  (∀ j, ¬ ((4 ≤ j ∧ j ≤ 9) ∨ j = 12 ∨ (20 ≤ j ∧ j ≤ 27)) → σ'.2.2 j = σ.2.2 j) ∧
  (∀ j, 4 ≤ j → j ≤ 9 → ∀ i, 1 ≤ i → i < M → σ'.2.2 j i = σ.2.2 j i) ∧
  (∀ i, i < P → σ'.2.2 12 i = σ.2.2 12 i) ∧ (∀ i, i ≠ w → σ'.2.2 21 i = σ.2.2 21 i) ∧ (∀ i, i < 60 * w ∨ 60 * w + 60 ≤ i → σ'.2.2 20 i = σ.2.2 20 i)
theorem FrM_rf {M P w : Nat} {σ : MS} : FrM M P w σ σ := ⟨fun _ _ => rfl, rfl, fun _ _ => rfl, fun _ _ _ _ _ _ => rfl, fun _ _ => rfl, fun _ _ => rfl, fun _ _ => rfl⟩
theorem FrM_tr {M P w : Nat} {σ τ υ : MS} (h : FrM M P w σ τ) (g : FrM M P w τ υ) : FrM M P w σ υ := by
  obtain ⟨a1, a2, a3, a4, a5, a6, a7⟩ := h
  obtain ⟨b1, b2, b3, b4, b5, b6, b7⟩ := g
  exact ⟨fun j hj => (b1 j hj).trans (a1 j hj), b2.trans a2, fun j hj => (b3 j hj).trans (a3 j hj), fun j x y i z u => (b4 j x y i z u).trans (a4 j x y i z u), fun i hi => (b5 i hi).trans (a5 i hi), fun i hi => (b6 i hi).trans (a6 i hi), fun i hi => (b7 i hi).trans (a7 i hi)⟩
/-- a change of the parser's own numbers alone -/
theorem FrM_sc {M P w : Nat} {σ : MS} {u : Nat → Int32} (h : ∀ j, ¬ ((5 ≤ j ∧ j ≤ 13) ∨ j = 22 ∨ j = 24 ∨ j = 38 ∨ (46 ≤ j ∧ j ≤ 48) ∨ j = 52) → u j = σ.1 j) : FrM M P w σ (u, σ.2.1, σ.2.2) := ⟨h, rfl, fun _ _ => rfl, fun _ _ _ _ _ _ => rfl, fun _ _ => rfl, fun _ _ => rfl, fun _ _ => rfl⟩
/-- after a fault: its code, its place -/
def Bb (yf : Nat × Nat) (m : Nat) (σ : MS) : Prop := ¬ σ.1 10 = 0 ∧ σ.1 22 = nI m ∧ σ.1 11 = nI yf.1 ∧ σ.1 12 = nI yf.2
/-- a fault, whatever was laid -/
def Fb (yf : Nat × Nat) (σ : MS) : Prop := ¬ σ.1 10 = 0 ∧ σ.1 11 = nI yf.1 ∧ σ.1 12 = nI yf.2
theorem Bb_Fb {yf : Nat × Nat} {m : Nat} {σ : MS} (h : Bb yf m σ) : Fb yf σ := ⟨h.1, h.2.2⟩
theorem Fb_f {yf : Nat × Nat} {σ τ : MS} (h : Fb yf σ) (e : ∀ j, j = 10 ∨ j = 11 ∨ j = 12 → τ.1 j = σ.1 j) : Fb yf τ := ⟨by rw [e 10 (by decide)]; exact h.1, (e 11 (by decide)).trans h.2.1, (e 12 (by decide)).trans h.2.2⟩
theorem tk_0 (T : Nat → Int32) (n q : Nat) (hq : q ≤ n) : tkK T n q = 0 ↔ (tokM 0 T n q).1 = 6 := by
  rcases tk_cases T n q hq with ⟨_, a, b⟩ | ⟨_, ⟨a, b⟩ | ⟨a, b⟩ | ⟨a, b⟩ | ⟨a, b1, b2, b3⟩ | ⟨a, b1, b2, b3⟩ | ⟨a, b⟩⟩
  · rw [a, b]; decide
  · rw [a, b]; decide
  · rw [a, b]; decide
  · rw [a, b]; decide
  · rw [a]; exact ⟨fun h => by omega, fun h => absurd h (by decide)⟩
  · rw [a]; exact ⟨fun h => by omega, fun h => absurd h (by decide)⟩
  · rw [a, b]; decide
section PSR
variable {T : Nat → Int32} {n : Nat} {E : En} {o q v M P w : Nat} {b : BT} {σ : MS}
/-- the same with other numbers of no matter -/
theorem PS_sc {u : Nat → Int32} (h : PS T n E o q v b σ) (hu : ∀ j, j = 4 ∨ (5 ≤ j ∧ j ≤ 10) ∨ j = 13 ∨ j = 22 ∨ j = 24 ∨ j = 25 ∨ j = 37 ∨ j = 38 ∨ j = 42 ∨ j = 43 ∨ j = 52 → u j = σ.1 j) : PS T n E o q v b (u, σ.2.1, σ.2.2) := by
  obtain ⟨⟨⟨a1, a2⟩, a3, a4, a5, ⟨c1, c2, c3, c4, c5, c6⟩, a6⟩, ⟨d1, d2⟩, ⟨e1, e2, e3, e4, e5⟩, ⟨f1, f2, f3, f4, f5⟩, ⟨⟨g1, g2, g3⟩, ⟨g4, g5, g6⟩, ⟨g7, g8, g9⟩⟩, ⟨i1, i2, i3⟩⟩ := h
  have r : ∀ j, j = 4 ∨ (5 ≤ j ∧ j ≤ 10) ∨ j = 13 ∨ j = 22 ∨ j = 24 ∨ j = 25 ∨ j = 37 ∨ j = 38 ∨ j = 42 ∨ j = 43 ∨ j = 52 → ((u, σ.2.1, σ.2.2) : MS).1 j = σ.1 j := hu
  refine ⟨⟨⟨(r 4 (by decide)).trans a1, a2⟩, a3, a4, (r 10 (by decide)).trans a5, ⟨c1, (r 8 (by decide)).trans c2, (r 5 (by decide)).trans c3, (r 9 (by decide)).trans c4, (r 6 (by decide)).trans c5, ?_⟩, a6⟩, ⟨(r 13 (by decide)).trans d1, d2⟩, ⟨(r 22 (by decide)).trans e1, e2, (r 24 (by decide)).trans e3, e4, e5⟩, ⟨(r 37 (by decide)).trans f1, f2, f3, f4, f5⟩, ⟨⟨(r 38 (by decide)).trans g1, g2, g3⟩, ⟨(r 52 (by decide)).trans g4, g5, g6⟩, ⟨(r 25 (by decide)).trans g7, g8, g9⟩⟩, ⟨?_, ?_, i3⟩⟩
  · obtain ⟨w, hw⟩ := c6
    exact ⟨w, (r 7 (by decide)).trans hw⟩
  · rw [r 43 (by decide)]; exact i1
  · rw [r 42 (by decide)]; exact i2
theorem p_take (h : PS T n E o q v b σ) (L : Nat → Int32) : Tm (fun k => x_take k 0 L σ) (fun r => FrM M P w σ r.2 ∧ ((tkK T n (tkN T n q) = 0 ∧ Bb (1, tkN T n q) b.1 r.2) ∨ (¬ tkK T n (tkN T n q) = 0 ∧ PS T n E o (tkN T n q) v b r.2))) := by
  obtain ⟨⟨hn, a3, a4, a5, ⟨c1, c2, c3, c4, c5, c6⟩, a6⟩, ⟨d1, d2⟩, ⟨e1, e2, e3, e4, e5⟩, ⟨f1, f2, f3, f4, f5⟩, ⟨⟨g1, g2, g3⟩, ⟨g4, g5, g6⟩, ⟨g7, g8, g9⟩⟩, ⟨i1, i2, i3⟩⟩ := h
  have hE := tkE_b T n q c1
  have hN := tkN_b T n q c1
  have ht := s_take hn a4 c3 hE.2.1 L
  rw [a3] at ht
  refine Tm_mono ht (fun r hr => ?_)
  obtain ⟨u, υ⟩ := r
  obtain ⟨uu, u2⟩ := υ
  obtain ⟨t1, t2, t3, t4, t5, t6, t7, t8⟩ := hr
  have t1 : u2 = σ.2 := t1
  subst t1
  have t7 : ∀ j, j < 5 ∨ 12 < j → uu j = σ.1 j := t7
  refine ⟨FrM_sc (fun j hj => t7 j (by omega)), ?_⟩
  have hw := tok_w (σ.1 7) T n (tkN T n q)
  have e0 : (sk T n (tkE T n q)) = tkN T n q := rfl
  rw [e0] at t2 t3 t4 t5 t6 t8
  rw [hw.1] at t3 t8
  rw [hw.2.1] at t2 t6
  have h0 := tk_0 T n (tkN T n q) hN.2.1
  by_cases h6 : (tokM 0 T n (tkN T n q)).1 = 6
  · refine Or.inl ⟨h0.mpr h6, ?_, ?_, ?_⟩
    · rw [if_pos ⟨h6, a5⟩] at t8
      have t81 : uu 10 = 1 := t8.1
      show ¬ uu 10 = 0
      rw [t81]; decide
    · exact (t7 22 (by decide)).trans e1
    · rw [if_pos ⟨h6, a5⟩] at t8
      exact t8.2
  · rw [if_neg (fun z => h6 z.1)] at t8
    refine Or.inr ⟨fun z => h6 (h0.mp z), ⟨⟨(t7 4 (by decide)).trans hn.1, hn.2⟩, a3, a4, t8.1.trans a5, ⟨hN.2.1, t5, t2, t6, t3, _, t4⟩, fun z => h6 (h0.mp z)⟩, ⟨(t7 13 (by decide)).trans d1, d2⟩, ⟨(t7 22 (by decide)).trans e1, e2, (t7 24 (by decide)).trans e3, e4, e5⟩, ⟨(t7 37 (by decide)).trans f1, f2, f3, f4, f5⟩, ⟨⟨(t7 38 (by decide)).trans g1, g2, g3⟩, ⟨(t7 52 (by decide)).trans g4, g5, g6⟩, ⟨(t7 25 (by decide)).trans g7, g8, g9⟩⟩, ⟨?_, ?_, i3⟩⟩
    · show uu 43 = 0 ↔ _
      rw [t7 43 (by decide)]; exact i1
    · show uu 42 = 0 ↔ _
      rw [t7 42 (by decide)]; exact i2
theorem PS_ok (h : PS T n E o q v b σ) : σ.1 10 = 0 := h.1.2.2.2.1
theorem PS_cur (h : PS T n E o q v b σ) : mCur T n σ q := h.1.2.2.2.2.1
theorem PS_q (h : PS T n E o q v b σ) : q ≤ n ∧ n ≤ 32768 := ⟨h.1.2.2.2.2.1.1, h.1.1.2⟩
theorem PS_m (h : PS T n E o q v b σ) : σ.1 22 = nI b.1 := h.2.2.1.1
theorem p_sign (h : PS T n E o q v b σ) {s : Nat} (h1 : 1 ≤ s) (h2 : s ≤ 24) {L : Nat → Int32} (hL : L 1 = nI s) : Tm (fun k => x_isSign k 0 L σ) (fun r => r.2 = σ ∧ (¬ r.1 = 0 ↔ tkK T n q = s)) :=
  Tm_mono (s_isSign L σ) (fun r hr => ⟨hr.1, by rw [hr.2, hL]; exact cur_sign (PS_cur h) h1 h2⟩)
theorem p_word (h : PS T n E o q v b σ) {s : Nat} (h1 : s < 53) {L : Nat → Int32} (hL : L 1 = nI s) : Tm (fun k => x_isWord k 0 L σ) (fun r => r.2 = σ ∧ (¬ r.1 = 0 ↔ tkK T n q = 32 + s)) :=
  Tm_mono (s_isWord L σ) (fun r hr => ⟨hr.1, by rw [hr.2, hL]; exact cur_word (PS_cur h) h1⟩)
/-- a fault where there was none -/
theorem flt_b {m : Nat} (h0 : σ.1 10 = 0) (h : σ.1 22 = nI m) {x y : Int32} (hx : x = nI yf.1) (hy : y = nI yf.2) : Bb yf m (mFlt σ x y) ∧ FrM M P w σ (mFlt σ x y) := by
  unfold mFlt
  rw [if_pos h0]
  refine ⟨⟨?_, ?_, ?_, ?_⟩, FrM_sc (fun j hj => ?_)⟩
  · show ¬ upd (upd (upd σ.1 10 1) 11 x) 12 y 10 = 0
    rw [upd_other (by decide), upd_other (by decide), upd_same]; decide
  · show upd (upd (upd σ.1 10 1) 11 x) 12 y 22 = nI m
    rw [upd_other (by decide), upd_other (by decide), upd_other (by decide)]; exact h
  · show upd (upd (upd σ.1 10 1) 11 x) 12 y 11 = _
    rw [upd_other (by decide), upd_same]; exact hx
  · show upd (upd (upd σ.1 10 1) 11 x) 12 y 12 = _
    rw [upd_same]; exact hy
  · rw [upd_other (by omega), upd_other (by omega), upd_other (by omega)]
theorem PS_8 (h : PS T n E o q v b σ) : σ.1 8 = nI q := h.1.2.2.2.2.1.2.1
theorem p_cannot (h : PS T n E o q v b σ) (L : Nat → Int32) : Tm (fun k => x_cannot k 0 L σ) (fun r => Bb (2, q) b.1 r.2 ∧ FrM M P w σ r.2) :=
  Tm_mono (s_cannot L σ) (fun r hr => by subst hr; exact flt_b (PS_ok h) (PS_m h) (by rfl) (by exact PS_8 h))
theorem p_fault (h : PS T n E o q v b σ) (L : Nat → Int32) (hx : L 1 = nI yf.1) (hy : L 2 = nI yf.2) : Tm (fun k => x_fault k 0 L σ) (fun r => Bb yf b.1 r.2 ∧ FrM M P w σ r.2) :=
  Tm_mono (s_fault L σ) (fun r hr => by subst hr; exact flt_b (PS_ok h) (PS_m h) hx hy)
theorem p_want (h : PS T n E o q v b σ) {s : Nat} (h1 : 1 ≤ s) (h2 : s ≤ 24) {L : Nat → Int32} (hL : L 1 = nI s) : Tm (fun k => x_want k 0 L σ) (fun r => FrM M P w σ r.2 ∧ ((¬ (tkK T n q = s ∧ ¬ tkK T n (tkN T n q) = 0) ∧ Bb (wF T n s q) b.1 r.2) ∨ ((tkK T n q = s ∧ ¬ tkK T n (tkN T n q) = 0) ∧ PS T n E o (tkN T n q) v b r.2))) := by
  refine Tm_suc (fun k => by rw [x_want]) ?_
  refine Tm_ite (fun _ => ?_) (fun c => absurd (PS_ok h) c)
  refine Tm_ob (p_sign h h1 h2 (by rw [upd_same]; exact hL)) (fun r hr => ?_)
  obtain ⟨u, τ⟩ := r
  obtain ⟨rfl, hr⟩ := hr
  refine Tm_ite (fun c => ?_) (fun c => ?_)
  · have hk : ¬ tkK T n q = s := fun z => hr.mpr z c
    refine Tm_ob (p_cannot (M := M) (P := P) (w := w) h _) (fun r hr => ?_)
    refine Tm_suc (fun k => by rw [x_want]) ?_
    refine Tm_ite (fun c => absurd c hr.1.1) (fun _ => ?_)
    refine Tm_suc (fun k => by rw [x_want]) ?_
    exact Tm_some ⟨hr.2, Or.inl ⟨fun z => hk z.1, by rw [wF_n hk]; exact hr.1⟩⟩
  · have hk := hr.mp c
    refine Tm_suc (fun k => by rw [x_want]) ?_
    refine Tm_ite (fun _ => ?_) (fun c => absurd (PS_ok h) c)
    refine Tm_ob (p_take (M := M) (P := P) (w := w) h _) (fun r hr => ?_)
    refine Tm_suc (fun k => by rw [x_want]) ?_
    refine Tm_some ⟨hr.1, ?_⟩
    rcases hr.2 with ⟨a, c⟩ | ⟨a, c⟩
    · exact Or.inl ⟨fun z => z.2 a, by rw [wF_y hk]; exact c⟩
    · exact Or.inr ⟨⟨hk, a⟩, c⟩
theorem p_wantWord (h : PS T n E o q v b σ) {s : Nat} (h1 : s < 53) {L : Nat → Int32} (hL : L 1 = nI s) : Tm (fun k => x_wantWord k 0 L σ) (fun r => FrM M P w σ r.2 ∧ ((¬ (tkK T n q = 32 + s ∧ ¬ tkK T n (tkN T n q) = 0) ∧ Bb (wF T n (32 + s) q) b.1 r.2) ∨ ((tkK T n q = 32 + s ∧ ¬ tkK T n (tkN T n q) = 0) ∧ PS T n E o (tkN T n q) v b r.2))) := by
  refine Tm_suc (fun k => by rw [x_wantWord]) ?_
  refine Tm_ite (fun _ => ?_) (fun c => absurd (PS_ok h) c)
  refine Tm_ob (p_word h h1 (by rw [upd_same]; exact hL)) (fun r hr => ?_)
  obtain ⟨u, τ⟩ := r
  obtain ⟨rfl, hr⟩ := hr
  refine Tm_ite (fun c => ?_) (fun c => ?_)
  · have hk : ¬ tkK T n q = 32 + s := fun z => hr.mpr z c
    refine Tm_ob (p_cannot (M := M) (P := P) (w := w) h _) (fun r hr => ?_)
    refine Tm_suc (fun k => by rw [x_wantWord]) ?_
    refine Tm_ite (fun c => absurd c hr.1.1) (fun _ => ?_)
    refine Tm_suc (fun k => by rw [x_wantWord]) ?_
    exact Tm_some ⟨hr.2, Or.inl ⟨fun z => hk z.1, by rw [wF_n hk]; exact hr.1⟩⟩
  · have hk := hr.mp c
    refine Tm_suc (fun k => by rw [x_wantWord]) ?_
    refine Tm_ite (fun _ => ?_) (fun c => absurd (PS_ok h) c)
    refine Tm_ob (p_take (M := M) (P := P) (w := w) h _) (fun r hr => ?_)
    refine Tm_suc (fun k => by rw [x_wantWord]) ?_
    refine Tm_some ⟨hr.1, ?_⟩
    rcases hr.2 with ⟨a, c⟩ | ⟨a, c⟩
    · exact Or.inl ⟨fun z => z.2 a, by rw [wF_y hk]; exact c⟩
    · exact Or.inr ⟨⟨hk, a⟩, c⟩
/-- after a fault nothing is wanted any more -/
theorem b_want (h : ¬ σ.1 10 = 0) (L : Nat → Int32) : Tm (fun k => x_want k 0 L σ) (fun r => r.2 = σ) := by
  refine Tm_suc (fun k => by rw [x_want]) ?_
  refine Tm_ite (fun c => absurd c h) (fun _ => ?_)
  refine Tm_suc (fun k => by rw [x_want]) ?_
  refine Tm_ite (fun c => absurd c h) (fun _ => ?_)
  refine Tm_suc (fun k => by rw [x_want]) ?_
  exact Tm_some rfl
theorem b_wantWord (h : ¬ σ.1 10 = 0) (L : Nat → Int32) : Tm (fun k => x_wantWord k 0 L σ) (fun r => r.2 = σ) := by
  refine Tm_suc (fun k => by rw [x_wantWord]) ?_
  refine Tm_ite (fun c => absurd c h) (fun _ => ?_)
  refine Tm_suc (fun k => by rw [x_wantWord]) ?_
  refine Tm_ite (fun c => absurd c h) (fun _ => ?_)
  refine Tm_suc (fun k => by rw [x_wantWord]) ?_
  exact Tm_some rfl
/-- one more, one fewer is open -/
def mOpn (σ : MS) (x : Int32) : MS := (upd σ.1 13 x, σ.2.1, σ.2.2)
theorem PS_opn (h : PS T n E o q v b σ) {o' : Nat} (ho : o' ≤ 20) : PS T n E o' q v b (mOpn σ (nI o')) := by
  obtain ⟨⟨⟨a1, a2⟩, a3, a4, a5, ⟨c1, c2, c3, c4, c5, c6⟩, a6⟩, ⟨d1, d2⟩, ⟨e1, e2, e3, e4, e5⟩, ⟨f1, f2, f3, f4, f5⟩, ⟨⟨g1, g2, g3⟩, ⟨g4, g5, g6⟩, ⟨g7, g8, g9⟩⟩, ⟨i1, i2, i3⟩⟩ := h
  have r : ∀ j, j ≠ 13 → (mOpn σ (nI o')).1 j = σ.1 j := fun j hj => upd_other hj
  refine ⟨⟨⟨(r 4 (by decide)).trans a1, a2⟩, a3, a4, (r 10 (by decide)).trans a5, ⟨c1, (r 8 (by decide)).trans c2, (r 5 (by decide)).trans c3, (r 9 (by decide)).trans c4, (r 6 (by decide)).trans c5, ?_⟩, a6⟩, ⟨(show upd σ.1 13 (nI o') 13 = nI o' from upd_same), ho⟩, ⟨(r 22 (by decide)).trans e1, e2, (r 24 (by decide)).trans e3, e4, e5⟩, ⟨(r 37 (by decide)).trans f1, f2, f3, f4, f5⟩, ⟨⟨(r 38 (by decide)).trans g1, g2, g3⟩, ⟨(r 52 (by decide)).trans g4, g5, g6⟩, ⟨(r 25 (by decide)).trans g7, g8, g9⟩⟩, ⟨?_, ?_, i3⟩⟩
  · obtain ⟨w, hw⟩ := c6
    exact ⟨w, (r 7 (by decide)).trans hw⟩
  · rw [r 43 (by decide)]; exact i1
  · rw [r 42 (by decide)]; exact i2
theorem FrM_opn (x : Int32) : FrM M P w σ (mOpn σ x) := FrM_sc (fun j hj => upd_other (by omega))
theorem Bb_f {m : Nat} {τ : MS} (h : Bb yf m σ) (e : ∀ j, j = 10 ∨ j = 11 ∨ j = 12 ∨ j = 22 → τ.1 j = σ.1 j) : Bb yf m τ := ⟨by rw [e 10 (by decide)]; exact h.1, (e 22 (by decide)).trans h.2.1, (e 11 (by decide)).trans h.2.2.1, (e 12 (by decide)).trans h.2.2.2⟩
theorem Bb_opn {m : Nat} (h : Bb yf m σ) (x : Int32) : Bb yf m (mOpn σ x) := Bb_f h (fun j hj => upd_other (by omega))
theorem p_open (h : PS T n E o q v b σ) (L : Nat → Int32) : Tm (fun k => x_open k 0 L σ) (fun r => FrM M P w σ r.2 ∧ ((o = 20 ∧ Bb (3, q) b.1 r.2) ∨ (o < 20 ∧ PS T n E (o + 1) q v b r.2 ∧ r.2.1 13 = nI (o + 1)))) := by
  have h13 : σ.1 13 = nI o := h.2.1.1
  have ho : o ≤ 20 := h.2.1.2
  refine Tm_suc (fun k => by rw [x_open]) ?_
  rw [h13]
  refine Tm_ite (fun c => ?_) (fun c => ?_)
  · have c : nI o = nI 20 := c
    rw [n_eq (by omega) (by omega)] at c
    refine Tm_ob (p_fault (M := M) (P := P) (w := w) (yf := (3, q)) h _ (by rfl) (by exact PS_8 h)) (fun r hr => ?_)
    refine Tm_suc (fun k => by rw [x_open]) ?_
    exact Tm_some ⟨FrM_tr hr.2 (FrM_opn _), Or.inl ⟨c, Bb_opn hr.1 _⟩⟩
  · have c : ¬ nI o = nI 20 := c
    rw [n_eq (by omega) (by omega)] at c
    refine Tm_suc (fun k => by rw [x_open]) ?_
    refine Tm_some ⟨FrM_opn _, Or.inr ⟨by omega, ?_, ?_⟩⟩
    · have := PS_opn h (o' := o + 1) (by omega)
      show PS T n E (o + 1) q v b (mOpn σ (σ.1 13 + 1))
      rw [h13, n_add1]; exact this
    · show upd σ.1 13 (σ.1 13 + 1) 13 = _
      rw [upd_same, h13, n_add1]
theorem PS_clo (h : PS T n E (o + 1) q v b σ) : PS T n E o q v b (mOpn σ (σ.1 13 - 1)) := by
  have h13 : σ.1 13 = nI (o + 1) := h.2.1.1
  have ho : o + 1 ≤ 20 := h.2.1.2
  rw [h13, show (nI (o + 1) - 1 : Int32) = nI (o + 1) - nI 1 from rfl, n_sub (by omega) (by omega)]
  exact PS_opn h (by omega)
end PSR
end JnS26
section JnS27
variable {yf : Nat × Nat}
/-! Nodes. -/
def mNode (σ : MS) (m : Nat) (k x y z : Int32) : MS := (upd σ.1 22 (nI (m + 1)), σ.2.1, updG (updG (updG (updG (updG (updG σ.2.2 4 (upd (σ.2.2 4) m k)) 5 (upd (σ.2.2 5) m x)) 6 (upd (σ.2.2 6) m y)) 7 (upd (σ.2.2 7) m z)) 8 (upd (σ.2.2 8) m (-1))) 9 (upd (σ.2.2 9) m (-1)))
def mSet (σ : MS) (j l : Nat) (x : Int32) : MS := (σ.1, σ.2.1, updG σ.2.2 j (upd (σ.2.2 j) l x))
theorem s_node {σ : MS} {m : Nat} (h : σ.1 22 = nI m) (hm : m < 70000) (L : Nat → Int32) : Tm (fun k => x_node k 0 L σ) (fun r => r = (nI m, mNode σ m (L 1) (L 2) (L 3) (L 4))) := by
  refine Tm_suc (fun k => by rw [x_node]) ?_
  rw [h, n_add1]
  have h5 : upd L 5 (nI m) 5 = nI m := upd_same
  have h1 : upd L 5 (nI m) 1 = L 1 := upd_other (by decide)
  have h2 : upd L 5 (nI m) 2 = L 2 := upd_other (by decide)
  have h3 : upd L 5 (nI m) 3 = L 3 := upd_other (by decide)
  have h4 : upd L 5 (nI m) 4 = L 4 := upd_other (by decide)
  generalize upd L 5 (nI m) = N at h5 h1 h2 h3 h4
  have hi : ¬ (nI m < 0 ∨ 70000 ≤ (nI m).toNatClampNeg) := n_in (by omega) hm
  have hc : (nI m).toNatClampNeg = m := n_cl (by omega)
  refine Tm_suc (fun k => by rw [x_node]) ?_
  rw [h5, h1]
  refine Tm_chk hi ?_
  refine Tm_suc (fun k => by rw [x_node]) ?_
  rw [h5, h2]
  refine Tm_chk hi ?_
  refine Tm_suc (fun k => by rw [x_node]) ?_
  rw [h5, h3]
  refine Tm_chk hi ?_
  refine Tm_suc (fun k => by rw [x_node]) ?_
  rw [h5, h4]
  refine Tm_chk hi ?_
  refine Tm_suc (fun k => by rw [x_node]) ?_
  rw [h5]
  refine Tm_chk hi ?_
  refine Tm_suc (fun k => by rw [x_node]) ?_
  rw [h5]
  refine Tm_chk hi ?_
  refine Tm_suc (fun k => by rw [x_node]) ?_
  rw [h5, hc]
  exact Tm_some rfl
theorem s_over {σ : MS} {m l : Nat} (h : σ.1 22 = nI m) (hm : m < 70000) (L : Nat → Int32) (hl : L 3 = nI l) (hl2 : l < 70000) : Tm (fun k => x_over k 0 L σ) (fun r => r = (nI m, mSet (mNode σ m (L 1) (L 2) (nI l) (L 4)) 9 l (nI m))) := by
  refine Tm_suc (fun k => by rw [x_over]) ?_
  refine Tm_ob (s_node h hm _) (fun r hr => ?_)
  subst hr
  rw [hl]
  refine Tm_chk (n_in (by omega) hl2) ?_
  refine Tm_suc (fun k => by rw [x_over]) ?_
  rw [n_cl (p := l) (by omega)]
  exact Tm_some rfl
theorem s_wrapped {σ : MS} {m : Nat} (h : σ.1 22 = nI m) (hm : m < 70000) (L : Nat → Int32) : Tm (fun k => x_wrapped k 0 L σ) (fun r => r = (nI m, mSet (mNode σ m (L 1) (L 2) (L 3) (L 4)) 8 m (L 5))) := by
  refine Tm_suc (fun k => by rw [x_wrapped]) ?_
  refine Tm_ob (s_node h hm _) (fun r hr => ?_)
  subst hr
  refine Tm_chk (n_in (by omega) hm) ?_
  refine Tm_suc (fun k => by rw [x_wrapped]) ?_
  show Tm (fun k => some (upd L 6 (nI m) 6, mSet (mNode σ m (L 1) (L 2) (L 3) (L 4)) 8 (nI m).toNatClampNeg (L 5))) _
  rw [n_cl (p := m) (by omega)]
  exact Tm_some rfl
section NODES
variable {T : Nat → Int32} {n : Nat} {E : En} {o q v M P w m : Nat} {b : BT} {σ : MS}
theorem tab6 {g : Nat → Nat → Int32} {f4 f5 f6 f7 f8 f9 : Nat → Int32} : ∀ j, ¬ (4 ≤ j ∧ j ≤ 9) → updG (updG (updG (updG (updG (updG g 4 f4) 5 f5) 6 f6) 7 f7) 8 f8) 9 f9 j = g j := fun j hj => by
  rw [updG_other (by omega), updG_other (by omega), updG_other (by omega), updG_other (by omega), updG_other (by omega), updG_other (by omega)]
theorem mNode_o {k x y z : Int32} {j : Nat} (hj : ¬ (4 ≤ j ∧ j ≤ 9)) : (mNode σ m k x y z).2.2 j = σ.2.2 j := tab6 j hj
theorem mNode_s {k x y z : Int32} {j : Nat} (hj : j ≠ 22) : (mNode σ m k x y z).1 j = σ.1 j := upd_other hj
/-- the six tables, of the state and of what is laid: the same row is written -/
theorem node_tab (g g' : Nat → Nat → Int32) (m i : Nat) (k x y z : Int32) (j : Nat) (h4 : 4 ≤ j) (h9 : j ≤ 9) (h : i ≠ m → g j i = g' j i) :
    updG (updG (updG (updG (updG (updG g 4 (upd (g 4) m k)) 5 (upd (g 5) m x)) 6 (upd (g 6) m y)) 7 (upd (g 7) m z)) 8 (upd (g 8) m (-1))) 9 (upd (g 9) m (-1)) j i = updG (updG (updG (updG (updG (updG g' 4 (upd (g' 4) m k)) 5 (upd (g' 5) m x)) 6 (upd (g' 6) m y)) 7 (upd (g' 7) m z)) 8 (upd (g' 8) m (-1))) 9 (upd (g' 9) m (-1)) j i := by
  have key : ∀ (c : Int32) (j' : Nat), j = j' → upd (g j') m c i = upd (g' j') m c i := fun c j' e => by
    subst e
    by_cases hi : i = m
    · subst hi; rw [upd_same, upd_same]
    · rw [upd_other hi, upd_other hi]; exact h hi
  unfold updG
  by_cases e9 : j = 9
  · rw [if_pos e9, if_pos e9]; exact key _ _ e9
  rw [if_neg e9, if_neg e9]
  by_cases e8 : j = 8
  · rw [if_pos e8, if_pos e8]; exact key _ _ e8
  rw [if_neg e8, if_neg e8]
  by_cases e7 : j = 7
  · rw [if_pos e7, if_pos e7]; exact key _ _ e7
  rw [if_neg e7, if_neg e7]
  by_cases e6 : j = 6
  · rw [if_pos e6, if_pos e6]; exact key _ _ e6
  rw [if_neg e6, if_neg e6]
  by_cases e5 : j = 5
  · rw [if_pos e5, if_pos e5]; exact key _ _ e5
  rw [if_neg e5, if_neg e5]
  have e4 : j = 4 := by omega
  rw [if_pos e4, if_pos e4]; exact key _ _ e4
theorem node_old (g : Nat → Nat → Int32) (m i : Nat) (k x y z : Int32) (j : Nat) (h : i ≠ m) :
    updG (updG (updG (updG (updG (updG g 4 (upd (g 4) m k)) 5 (upd (g 5) m x)) 6 (upd (g 6) m y)) 7 (upd (g 7) m z)) 8 (upd (g 8) m (-1))) 9 (upd (g 9) m (-1)) j i = g j i := by
  unfold updG
  by_cases e9 : j = 9
  · rw [if_pos e9, upd_other h, e9]
  rw [if_neg e9]
  by_cases e8 : j = 8
  · rw [if_pos e8, upd_other h, e8]
  rw [if_neg e8]
  by_cases e7 : j = 7
  · rw [if_pos e7, upd_other h, e7]
  rw [if_neg e7]
  by_cases e6 : j = 6
  · rw [if_pos e6, upd_other h, e6]
  rw [if_neg e6]
  by_cases e5 : j = 5
  · rw [if_pos e5, upd_other h, e5]
  rw [if_neg e5]
  by_cases e4 : j = 4
  · rw [if_pos e4, upd_other h, e4]
  rw [if_neg e4]
/-- the parts of PS that a change of nodes leaves -/
theorem PS_tab {b' : BT} {τ : MS} (h : PS T n E o q v b σ) (hs : ∀ j, j ≠ 22 → τ.1 j = σ.1 j) (hg : ∀ j, ¬ (4 ≤ j ∧ j ≤ 9) → τ.2.2 j = σ.2.2 j) (hb : b'.2.1 = b.2.1 ∧ b'.2.2.2 = b.2.2.2) (h22 : τ.1 22 = nI b'.1) (h1 : 1 ≤ b'.1) (ht : ∀ j, 4 ≤ j → j ≤ 9 → ∀ i, 1 ≤ i → i < b'.1 → τ.2.2 j i = b'.2.2.1 j i) : PS T n E o q v b' τ := by
  obtain ⟨⟨⟨a1, a2⟩, a3, a4, a5, ⟨c1, c2, c3, c4, c5, c6⟩, a6⟩, ⟨d1, d2⟩, ⟨e1, e2, e3, e4, e5⟩, ⟨f1, f2, f3, f4, f5⟩, ⟨⟨g1, g2, g3⟩, ⟨g4, g5, g6⟩, ⟨g7, g8, g9⟩⟩, ⟨i1, i2, i3⟩⟩ := h
  obtain ⟨b1, b2, b3, b4, b5⟩ := b
  obtain ⟨b1', b2', b3', b4', b5'⟩ := b'
  obtain ⟨hb1, hb2⟩ := hb
  have hb1 : b2' = b2 := hb1
  have hb2 : (b4', b5') = (b4, b5) := hb2
  have hb3 : b4' = b4 := congrArg Prod.fst hb2
  have hb4 : b5' = b5 := congrArg Prod.snd hb2
  subst hb1 hb3 hb4
  have gg : ∀ j, ¬ (4 ≤ j ∧ j ≤ 9) → ∀ i, τ.2.2 j i = σ.2.2 j i := fun j hj i => by rw [hg j hj]
  refine ⟨⟨⟨(hs 4 (by decide)).trans a1, a2⟩, (hg 3 (by decide)).trans a3, (hg 1 (by decide)).trans a4, (hs 10 (by decide)).trans a5, ⟨c1, (hs 8 (by decide)).trans c2, (hs 5 (by decide)).trans c3, (hs 9 (by decide)).trans c4, (hs 6 (by decide)).trans c5, ?_⟩, a6⟩, ⟨(hs 13 (by decide)).trans d1, d2⟩, ⟨h22, h1, (hs 24 (by decide)).trans e3, ht, fun i hi => (gg 12 (by decide) i).trans (e5 i hi)⟩, ⟨(hs 37 (by decide)).trans f1, f2, (gg 21 (by decide) _).trans f3, f4, fun i hi => (gg 20 (by decide) _).trans (f5 i hi)⟩, ⟨⟨(hs 38 (by decide)).trans g1, g2, ?_⟩, ⟨(hs 52 (by decide)).trans g4, g5, ?_⟩, ⟨(hs 25 (by decide)).trans g7, g8, ?_⟩⟩, ⟨?_, ?_, ?_⟩⟩
  · obtain ⟨w, hw⟩ := c6
    exact ⟨w, (hs 7 (by decide)).trans hw⟩
  · rw [hg 22 (by decide), hg 23 (by decide), hg 24 (by decide)]; exact g3
  · rw [hg 25 (by decide), hg 26 (by decide), hg 27 (by decide)]; exact g6
  · rw [hg 13 (by decide), hg 14 (by decide), hg 15 (by decide), hg 16 (by decide)]; exact g9
  · rw [hs 43 (by decide)]; exact i1
  · rw [hs 42 (by decide)]; exact i2
  · rw [hg 18 (by decide)]; exact i3
theorem PS_node (h : PS T n E o q v b σ) (k x y z : Int32) : PS T n E o q v (bNode b k x y z) (mNode σ b.1 k x y z) := by
  have e4 := h.2.2.1.2.2.2.1
  refine PS_tab h (fun j hj => mNode_s hj) (fun j hj => mNode_o hj) ⟨rfl, rfl⟩ ?_ ?_ (fun j h4 h9 i hi hi2 => ?_)
  · exact (upd_same : upd σ.1 22 (nI (b.1 + 1)) 22 = nI (b.1 + 1))
  · show 1 ≤ b.1 + 1; omega
  · have hi2 : i < b.1 + 1 := hi2
    exact node_tab σ.2.2 b.2.2.1 b.1 i k x y z j h4 h9 (fun hne => e4 j h4 h9 i hi (by omega))
theorem PS_set (h : PS T n E o q v b σ) {j l : Nat} (h4 : 4 ≤ j) (h9 : j ≤ 9) (x : Int32) : PS T n E o q v (bSet b j l x) (mSet σ j l x) := by
  have e4 := h.2.2.1.2.2.2.1
  refine PS_tab h (fun j hj => rfl) (fun j' hj => ?_) ⟨rfl, rfl⟩ h.2.2.1.1 h.2.2.1.2.1 (fun j' h4' h9' i hi hi2 => ?_)
  · exact updG_other (by omega)
  · show updG σ.2.2 j (upd (σ.2.2 j) l x) j' i = updG b.2.2.1 j (upd (b.2.2.1 j) l x) j' i
    have hi2 : i < b.1 := hi2
    by_cases e : j' = j
    · subst e
      rw [updG_same, updG_same]
      by_cases hl : i = l
      · subst hl; rw [upd_same, upd_same]
      · rw [upd_other hl, upd_other hl]; exact e4 j' h4 h9 i hi hi2
    · rw [updG_other e, updG_other e]; exact e4 j' h4' h9' i hi hi2
theorem Bb_node (h : Bb yf m σ) (k x y z : Int32) : Bb yf (m + 1) (mNode σ m k x y z) := ⟨by rw [mNode_s (by decide)]; exact h.1, (upd_same : upd σ.1 22 (nI (m + 1)) 22 = nI (m + 1)), (mNode_s (by decide)).trans h.2.2.1, (mNode_s (by decide)).trans h.2.2.2⟩
theorem Bb_set {j l : Nat} {x : Int32} (h : Bb yf m σ) : Bb yf m (mSet σ j l x) := h
theorem FrM_node (hM : M ≤ m) (k x y z : Int32) : FrM M P w σ (mNode σ m k x y z) := by
  refine ⟨fun j hj => mNode_s (by omega), rfl, fun j hj => mNode_o (by omega), fun j h4 h9 i hi hi2 => ?_, fun i hi => by rw [mNode_o (by decide)], fun i hi => by rw [mNode_o (by decide)], fun i hi => by rw [mNode_o (by decide)]⟩
  exact node_old σ.2.2 m i k x y z j (by omega)
theorem FrM_set {j l : Nat} (h4 : 4 ≤ j) (h9 : j ≤ 9) (hl : l = 0 ∨ M ≤ l) (x : Int32) : FrM M P w σ (mSet σ j l x) := by
  refine ⟨fun j hj => rfl, rfl, fun j' hj => updG_other (by omega), fun j' h4' h9' i hi hi2 => ?_, fun i hi => ?_, fun i hi => ?_, fun i hi => ?_⟩
  · show updG σ.2.2 j (upd (σ.2.2 j) l x) j' i = σ.2.2 j' i
    by_cases e : j' = j
    · subst e
      rw [updG_same, upd_other (by omega)]
    · rw [updG_other e]
  · show updG σ.2.2 j (upd (σ.2.2 j) l x) 12 i = _
    rw [updG_other (by omega)]
  · show updG σ.2.2 j (upd (σ.2.2 j) l x) 21 i = _
    rw [updG_other (by omega)]
  · show updG σ.2.2 j (upd (σ.2.2 j) l x) 20 i = _
    rw [updG_other (by omega)]
theorem p_node (h : PS T n E o q v b σ) (hm : b.1 < 70000) (hM : M ≤ b.1) (L : Nat → Int32) : Tm (fun k => x_node k 0 L σ) (fun r => r.1 = nI b.1 ∧ PS T n E o q v (bNode b (L 1) (L 2) (L 3) (L 4)) r.2 ∧ FrM M P w σ r.2) :=
  Tm_mono (s_node (PS_m h) hm L) (fun r hr => by subst hr; exact ⟨rfl, PS_node h _ _ _ _, FrM_node hM _ _ _ _⟩)
theorem p_over (h : PS T n E o q v b σ) (hm : b.1 < 70000) (hM : M ≤ b.1) (L : Nat → Int32) {l : Nat} (hl : L 3 = nI l) (hl2 : M ≤ l) (hl3 : l < 70000) : Tm (fun k => x_over k 0 L σ) (fun r => r.1 = nI b.1 ∧ PS T n E o q v (bOver b (L 1) (L 2) l (L 4)) r.2 ∧ FrM M P w σ r.2) :=
  Tm_mono (s_over (PS_m h) hm L hl hl3) (fun r hr => by subst hr; exact ⟨rfl, PS_set (PS_node h _ _ _ _) (by decide) (by decide) _, FrM_tr (FrM_node hM _ _ _ _) (FrM_set (by decide) (by decide) (Or.inr hl2) _)⟩)
theorem p_wrapped (h : PS T n E o q v b σ) (hm : b.1 < 70000) (hM : M ≤ b.1) (L : Nat → Int32) : Tm (fun k => x_wrapped k 0 L σ) (fun r => r.1 = nI b.1 ∧ PS T n E o q v (bWrap b (L 1) (L 2) (L 3) (L 4) (L 5)) r.2 ∧ FrM M P w σ r.2) :=
  Tm_mono (s_wrapped (PS_m h) hm L) (fun r hr => by subst hr; exact ⟨rfl, PS_set (PS_node h _ _ _ _) (by decide) (by decide) _, FrM_tr (FrM_node hM _ _ _ _) (FrM_set (by decide) (by decide) (Or.inr hM) _)⟩)
theorem b_node (h : Bb yf m σ) (hm : m < 70000) (hM : M ≤ m) (L : Nat → Int32) : Tm (fun k => x_node k 0 L σ) (fun r => r.1 = nI m ∧ Bb yf (m + 1) r.2 ∧ FrM M P w σ r.2) :=
  Tm_mono (s_node h.2.1 hm L) (fun r hr => by subst hr; exact ⟨rfl, Bb_node h _ _ _ _, FrM_node hM _ _ _ _⟩)
theorem b_over (h : Bb yf m σ) (hm : m < 70000) (hM : M ≤ m) (L : Nat → Int32) {l : Nat} (hl : L 3 = nI l) (hl2 : l = 0 ∨ M ≤ l) (hl3 : l < 70000) : Tm (fun k => x_over k 0 L σ) (fun r => r.1 = nI m ∧ Bb yf (m + 1) r.2 ∧ FrM M P w σ r.2) :=
  Tm_mono (s_over h.2.1 hm L hl hl3) (fun r hr => by subst hr; exact ⟨rfl, Bb_set (Bb_node h _ _ _ _), FrM_tr (FrM_node hM _ _ _ _) (FrM_set (by decide) (by decide) hl2 _)⟩)
theorem b_wrapped (h : Bb yf m σ) (hm : m < 70000) (hM : M ≤ m) (L : Nat → Int32) : Tm (fun k => x_wrapped k 0 L σ) (fun r => r.1 = nI m ∧ Bb yf (m + 1) r.2 ∧ FrM M P w σ r.2) :=
  Tm_mono (s_wrapped h.2.1 hm L) (fun r hr => by subst hr; exact ⟨rfl, Bb_set (Bb_node h _ _ _ _), FrM_tr (FrM_node hM _ _ _ _) (FrM_set (by decide) (by decide) (Or.inr hM) _)⟩)
end NODES
end JnS27
section JnS28
variable {yf : Nat × Nat}
/-! The grammar: it goes on, and lays no more nodes and names than there are bytes. -/
theorem gb_any {x : RG} {k : RT → RG} {y : Fl RT} (h : gb x k = some y) : (∃ e, x = some (Sum.inl e) ∧ y = Sum.inl e) ∨ ∃ s, x = some (Sum.inr s) ∧ k s = some y := by
  cases x with
  | none => exact absurd h (by intro h; cases h)
  | some z => cases z with
    | inl e => exact Or.inl ⟨e, rfl, (Option.some.inj h).symm⟩
    | inr s => exact Or.inr ⟨s, rfl, h⟩
theorem gT_any {T : Nat → Int32} {n q : Nat} {k : Nat → RG} {y : Fl RT} (h : gT T n q k = some y) : (tkK T n (tkN T n q) = 0 ∧ y = Sum.inl (1, tkN T n q)) ∨ (¬ tkK T n (tkN T n q) = 0 ∧ k (tkN T n q) = some y) := by
  unfold gT at h
  by_cases c : tkK T n (tkN T n q) = 0
  · rw [if_pos c] at h; exact Or.inl ⟨c, (Option.some.inj h).symm⟩
  · rw [if_neg c] at h; exact Or.inr ⟨c, h⟩
theorem gW_any {T : Nat → Int32} {n t q : Nat} {k : Nat → RG} {y : Fl RT} (h : gW T n t q k = some y) : (¬ (tkK T n q = t ∧ ¬ tkK T n (tkN T n q) = 0) ∧ y = Sum.inl (wF T n t q)) ∨ ((tkK T n q = t ∧ ¬ tkK T n (tkN T n q) = 0) ∧ k (tkN T n q) = some y) := by
  unfold gW at h
  by_cases c : tkK T n q = t
  · rw [if_pos c] at h
    rcases gT_any h with ⟨a, b⟩ | ⟨a, b⟩
    · exact Or.inl ⟨fun z => z.2 a, by rw [wF_y c]; exact b⟩
    · exact Or.inr ⟨⟨c, a⟩, b⟩
  · rw [if_neg c] at h; exact Or.inl ⟨fun z => c z.1, by rw [wF_n c]; exact (Option.some.inj h).symm⟩
theorem gO_any {o q : Nat} {k : RG} {y : Fl RT} (h : gO o q k = some y) : (o = 20 ∧ y = Sum.inl (3, q)) ∨ (¬ o = 20 ∧ k = some y) := by
  unfold gO at h
  by_cases c : o = 20
  · rw [if_pos c] at h; exact Or.inl ⟨c, (Option.some.inj h).symm⟩
  · rw [if_neg c] at h; exact Or.inr ⟨c, h⟩
theorem gb_s {x : RG} {k : RT → RG} {r : RT} (h : gb x k = some (Sum.inr r)) : ∃ s, x = some (Sum.inr s) ∧ k s = some (Sum.inr r) := by
  rcases gb_any h with ⟨yf, _, h2⟩ | h
  · cases h2
  · exact h
theorem gT_s {T : Nat → Int32} {n q : Nat} {k : Nat → RG} {r : RT} (h : gT T n q k = some (Sum.inr r)) : ¬ tkK T n (tkN T n q) = 0 ∧ k (tkN T n q) = some (Sum.inr r) := by
  rcases gT_any h with ⟨_, h2⟩ | h
  · cases h2
  · exact h
theorem gW_s {T : Nat → Int32} {n t q : Nat} {k : Nat → RG} {r : RT} (h : gW T n t q k = some (Sum.inr r)) : tkK T n q = t ∧ ¬ tkK T n (tkN T n q) = 0 ∧ k (tkN T n q) = some (Sum.inr r) := by
  rcases gW_any h with ⟨_, h2⟩ | ⟨⟨a, b⟩, h⟩
  · cases h2
  · exact ⟨a, b, h⟩
theorem gO_s {o q : Nat} {k : RG} {r : RT} (h : gO o q k = some (Sum.inr r)) : ¬ o = 20 ∧ k = some (Sum.inr r) := by
  rcases gO_any h with ⟨_, h2⟩ | h
  · cases h2
  · exact h
/-- the fault where a name of a row is told -/
def tlF (T : Nat → Int32) (n : Nat) (E : En) (c q v : Nat) : Nat × Nat := if tkK T n q = 26 then (if ((E.2.2.1.take (E.2.2.1.length - c)).find? (fun x => decide (x.1 = tkS T n q))).isSome = true then (4, q) else if v = 60 then (8, q) else (1, tkN T n q)) else (2, q)
theorem tlF_2 {T : Nat → Int32} {n : Nat} {E : En} {c q v : Nat} (h : ¬ tkK T n q = 26) : tlF T n E c q v = (2, q) := if_neg h
theorem tlF_4 {T : Nat → Int32} {n : Nat} {E : En} {c q v : Nat} (h : tkK T n q = 26) (h2 : ((E.2.2.1.take (E.2.2.1.length - c)).find? (fun x => decide (x.1 = tkS T n q))).isSome = true) : tlF T n E c q v = (4, q) := by unfold tlF; rw [if_pos h, if_pos h2]
theorem tlF_8 {T : Nat → Int32} {n : Nat} {E : En} {c q v : Nat} (h : tkK T n q = 26) (h2 : ((E.2.2.1.take (E.2.2.1.length - c)).find? (fun x => decide (x.1 = tkS T n q))).isSome = false) (h3 : v = 60) : tlF T n E c q v = (8, q) := by unfold tlF; rw [if_pos h, if_neg (by rw [h2]; decide), if_pos h3]
theorem tlF_1 {T : Nat → Int32} {n : Nat} {E : En} {c q v : Nat} (h : tkK T n q = 26) (h2 : ((E.2.2.1.take (E.2.2.1.length - c)).find? (fun x => decide (x.1 = tkS T n q))).isSome = false) (h3 : ¬ v = 60) : tlF T n E c q v = (1, tkN T n q) := by unfold tlF; rw [if_pos h, if_neg (by rw [h2]; decide), if_neg h3]
/-- a name that is told -/
theorem gN_any {T : Nat → Int32} {n : Nat} {E : En} {c g q v : Nat} {b : BT} {k : Nat → Nat → Nat → BT → Nm → RG} {y : Fl RT} (h : gN T n E c g q v b k = some y) :
    (¬ (tkK T n q = 26 ∧ ((E.2.2.1.take (E.2.2.1.length - c)).find? (fun x => decide (x.1 = tkS T n q))).isSome = false ∧ ¬ v = 60 ∧ ¬ tkK T n (tkN T n q) = 0) ∧ y = Sum.inl (tlF T n E c q v)) ∨ ((tkK T n q = 26 ∧ ((E.2.2.1.take (E.2.2.1.length - c)).find? (fun x => decide (x.1 = tkS T n q))).isSome = false ∧ ¬ v = 60 ∧ ¬ tkK T n (tkN T n q) = 0) ∧ k (tkN T n q) (v + 1) b.1 (bNode (bKeep (bSlot b (60 * E.2.2.2.1 + v) (nI g)) T q (tkE T n q - q)) 31 (if E.2.2.2.1 = 0 then 0 else 1) (nI v) 0) (tkS T n q, b.2.1, v) = some y) := by
  unfold gN at h
  by_cases c1 : tkK T n q = 26
  · rw [if_pos c1] at h
    by_cases c2 : ((E.2.2.1.take (E.2.2.1.length - c)).find? (fun x => decide (x.1 = tkS T n q))).isSome = true
    · rw [if_pos c2] at h
      exact Or.inl ⟨fun z => by rw [c2] at z; exact absurd z.2.1 (by decide), by unfold tlF; rw [if_pos c1, if_pos c2]; exact (Option.some.inj h).symm⟩
    · rw [if_neg c2] at h
      have c2 := eq_false_of_ne_true c2
      by_cases c3 : v = 60
      · rw [if_pos c3] at h
        exact Or.inl ⟨fun z => z.2.2.1 c3, by unfold tlF; rw [if_pos c1, if_neg (fun w => by rw [c2] at w; exact absurd w (by decide)), if_pos c3]; exact (Option.some.inj h).symm⟩
      · rw [if_neg c3] at h
        rcases gT_any h with ⟨a, d⟩ | ⟨a, d⟩
        · exact Or.inl ⟨fun z => z.2.2.2 a, by unfold tlF; rw [if_pos c1, if_neg (fun w => by rw [c2] at w; exact absurd w (by decide)), if_neg c3]; exact d⟩
        · exact Or.inr ⟨⟨c1, c2, c3, a⟩, d⟩
  · rw [if_neg c1] at h
    exact Or.inl ⟨fun z => c1 z.1, by unfold tlF; rw [if_neg c1]; exact (Option.some.inj h).symm⟩
theorem gN_s {T : Nat → Int32} {n : Nat} {E : En} {c g q v : Nat} {b : BT} {k : Nat → Nat → Nat → BT → Nm → RG} {r : RT} (h : gN T n E c g q v b k = some (Sum.inr r)) : tkK T n q = 26 ∧ ¬ v = 60 ∧ k (tkN T n q) (v + 1) b.1 (bNode (bKeep (bSlot b (60 * E.2.2.2.1 + v) (nI g)) T q (tkE T n q - q)) 31 (if E.2.2.2.1 = 0 then 0 else 1) (nI v) 0) (tkS T n q, b.2.1, v) = some (Sum.inr r) := by
  rcases gN_any h with ⟨_, h2⟩ | ⟨⟨a, _, c, _⟩, h⟩
  · cases h2
  · exact ⟨a, c, h⟩
section BSZ
variable {b : BT} {k x y z u : Int32} {l j i m f : Nat} {T : Nat → Int32}
theorem bNode_1 : (bNode b k x y z).1 = b.1 + 1 := rfl
theorem bNode_p : (bNode b k x y z).2.1 = b.2.1 := rfl
theorem bSet_1 : (bSet b j l x).1 = b.1 := rfl
theorem bSet_p : (bSet b j l x).2.1 = b.2.1 := rfl
theorem bOver_1 : (bOver b k x l z).1 = b.1 + 1 := rfl
theorem bOver_p : (bOver b k x l z).2.1 = b.2.1 := rfl
theorem bWrap_1 : (bWrap b k x y z u).1 = b.1 + 1 := rfl
theorem bWrap_p : (bWrap b k x y z u).2.1 = b.2.1 := rfl
theorem bKeep_1 : (bKeep b T f m).1 = b.1 := rfl
theorem bKeep_p : (bKeep b T f m).2.1 = b.2.1 + m := rfl
theorem bSlot_1 : (bSlot b i x).1 = b.1 := rfl
theorem bSlot_p : (bSlot b i x).2.1 = b.2.1 := rfl
end BSZ
def Mo (n : Nat) (b : BT) (q v : Nat) (r : RT) : Prop := q ≤ r.1 ∧ r.1 ≤ n ∧ v ≤ r.2.1 ∧ r.2.1 ≤ max v 60 ∧ b.1 ≤ r.2.2.2.2.1.1 ∧ r.2.2.2.2.1.1 + q ≤ b.1 + r.1 ∧ b.2.1 ≤ r.2.2.2.2.1.2.1 ∧ r.2.2.2.2.1.2.1 + q ≤ b.2.1 + r.1
def Mo1 (n : Nat) (b : BT) (q v : Nat) (r : RT) : Prop := q ≤ r.1 ∧ r.1 ≤ n ∧ v ≤ r.2.1 ∧ r.2.1 ≤ max v 60 ∧ b.1 ≤ r.2.2.2.2.1.1 ∧ r.2.2.2.2.1.1 + q ≤ b.1 + r.1 + 1 ∧ b.2.1 ≤ r.2.2.2.2.1.2.1 ∧ r.2.2.2.2.1.2.1 + q ≤ b.2.1 + r.1
def MoN (nt n : Nat) (b : BT) (q v : Nat) (r : RT) : Prop := if nt = 15 then Mo1 n b q v r else Mo n b q v r
abbrev isLp (nt : Nat) : Prop := nt = 1 ∨ nt = 3 ∨ nt = 7 ∨ nt = 9 ∨ nt = 12 ∨ nt = 16
/-- what a loop has when it is begun: its node, its list -/
def Nd0 (nt M : Nat) (b : BT) (i e c : Nat) : Prop := if isLp nt then M ≤ e ∧ e < b.1 else if nt = 14 then c = 0 ∨ (M ≤ i ∧ i < b.1 ∧ M ≤ e ∧ e < b.1) else if nt = 15 then M ≤ i ∧ i < b.1 ∧ M ≤ e ∧ e < b.1 else if nt = 17 then i = 0 ∨ (M ≤ i ∧ i < b.1 ∧ M ≤ e ∧ e < b.1) else True
def Nd1 (nt M : Nat) (r : RT) : Prop := if nt = 14 then (r.2.2.1 = 0 ∧ r.2.2.2.1 = 0) ∨ (M ≤ r.2.2.2.1 ∧ r.2.2.2.1 < r.2.2.2.2.1.1) else if nt = 18 then True else M ≤ r.2.2.2.1 ∧ r.2.2.2.1 < r.2.2.2.2.1.1
end JnS28

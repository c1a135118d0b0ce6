/-! Names: the two numbers tell the bytes. -/
theorem keyH_8 (R : Nat → Int32) (a : Nat) : ∀ m : Nat, keyH R a (8 + m) = keyH R a 8
  | 0 => rfl
  | m + 1 => by
    show (if 8 + m < 8 then _ else keyH R a (8 + m)) = _
    rw [if_neg (by omega)]; exact keyH_8 R a m
theorem keyL_0 (R : Nat → Int32) (a : Nat) : ∀ m : Nat, m ≤ 8 → keyL R a m = 0
  | 0, _ => rfl
  | m + 1, h => by
    show (if m < 8 then keyL R a m else _) = _
    rw [if_pos (by omega)]; exact keyL_0 R a m (by omega)
theorem keyL_nat (R : Nat → Int32) (a : Nat) : ∀ m : Nat, m ≤ 8 → (∀ i, i < m → okB (R (a + (8 + i)))) → (keyL R a (8 + m)).toBitVec.toNat = kN (fun i => R (a + (8 + i))) m
  | 0, _, _ => by rw [keyL_0 R a 8 (by omega)]; rfl
  | m + 1, hm, h => by
    have ih := keyL_nat R a m (by omega) (fun i hi => h i (by omega))
    have hb := byte64 (h m (by omega))
    have hok := h m (by omega)
    have hlt := kN_lt (fun i => R (a + (8 + i))) m (fun i hi => h i (by omega))
    show (if 8 + m < 8 then keyL R a (8 + m) else keyL R a (8 + m) <<< ((8 : Int32).toInt64 &&& 63) ||| (R (a + (8 + m))).toInt64).toBitVec.toNat = kN (fun i => R (a + (8 + i))) m * 256 + (R (a + (8 + m))).toInt.toNat
    rw [if_neg (by omega), Int64.toBitVec_or, BitVec.toNat_or, hb]
    have e : (keyL R a (8 + m) <<< ((8 : Int32).toInt64 &&& 63)).toBitVec = (keyL R a (8 + m)).toBitVec <<< 8 := by
      rw [show keyL R a (8 + m) <<< ((8 : Int32).toInt64 &&& 63) = keyL R a (8 + m) <<< (8 : Int64) from rfl, Int64.toBitVec_shiftLeft]; rfl
    have hp : kN (fun i => R (a + (8 + i))) m * 256 < 2 ^ 64 := by
      rcases hlt with q | q
      · have : (256 : Nat) ^ m ≤ 256 ^ 7 := Nat.pow_le_pow_right (by decide) (by omega)
        have e7 : (256 : Nat) ^ 7 = 72057594037927936 := by decide
        omega
      · subst q; show 0 * 256 < _; decide
    rw [e, BitVec.toNat_shiftLeft, ih, Nat.shiftLeft_eq, Nat.mod_eq_of_lt (by omega), show (2 : Nat) ^ 8 = 256 from rfl, ← Nat.shiftLeft_eq _ 8, ← Nat.shiftLeft_add_eq_or_of_lt (by omega), Nat.shiftLeft_eq]
theorem n64 {x y : Int64} (h : x = y) : x.toBitVec.toNat = y.toBitVec.toNat := by rw [h]
theorem n64' {x y : Int64} (h : x.toBitVec.toNat = y.toBitVec.toNat) : x = y := Int64.toBitVec_inj.mp (BitVec.eq_of_toNat_eq h)
/-- the two numbers of two names are the same just where the names are -/
theorem key_inj {R S : Nat → Int32} {a b m l : Nat} (hm : m ≤ 16) (hl : l ≤ 16) (hR : ∀ i, i < m → okB (R (a + i))) (hS : ∀ i, i < l → okB (S (b + i))) : (keyH R a m = keyH S b l ∧ keyL R a m = keyL S b l) ↔ (m = l ∧ ∀ i, i < m → R (a + i) = S (b + i)) := by
  have ext : m = l → (∀ i, i < m → R (a + i) = S (b + i)) → keyH R a m = keyH S b l ∧ keyL R a m = keyL S b l := by
    intro e h
    subst e
    have aux : ∀ k : Nat, k ≤ m → keyH R a k = keyH S b k ∧ keyL R a k = keyL S b k := by
      intro k
      induction k with
      | zero => intro _; exact ⟨rfl, rfl⟩
      | succ k ih =>
        intro hk
        obtain ⟨h1, h2⟩ := ih (by omega)
        show (if k < 8 then keyH R a k <<< _ ||| (R (a + k)).toInt64 else keyH R a k) = (if k < 8 then keyH S b k <<< _ ||| (S (b + k)).toInt64 else keyH S b k) ∧ (if k < 8 then keyL R a k else keyL R a k <<< _ ||| (R (a + k)).toInt64) = (if k < 8 then keyL S b k else keyL S b k <<< _ ||| (S (b + k)).toInt64)
        rw [h1, h2, h k (by omega)]
        exact ⟨rfl, rfl⟩
    exact aux m (Nat.le_refl _)
  refine ⟨fun h => ?_, fun h => ext h.1 h.2⟩
  obtain ⟨h1, h2⟩ := h
  by_cases cm : m ≤ 8
  · by_cases cl : l ≤ 8
    · have e := n64 h1
      rw [keyH_nat R a m cm hR, keyH_nat S b l cl hS] at e
      exact kN_inj _ _ _ _ hR hS e
    · exfalso
      obtain ⟨k, rfl⟩ : ∃ k, l = 8 + (k + 1) := ⟨l - 9, by omega⟩
      have e := n64 h2
      rw [keyL_0 R a m cm, keyL_nat S b (k + 1) (by omega) (fun i hi => hS (8 + i) (by omega))] at e
      have := kN_pos (fun i => S (b + (8 + i))) k (hS (8 + k) (by omega))
      have z : (0 : Int64).toBitVec.toNat = 0 := rfl
      omega
  · obtain ⟨k, rfl⟩ : ∃ k, m = 8 + (k + 1) := ⟨m - 9, by omega⟩
    by_cases cl : l ≤ 8
    · exfalso
      have e := n64 h2
      rw [keyL_0 S b l cl, keyL_nat R a (k + 1) (by omega) (fun i hi => hR (8 + i) (by omega))] at e
      have := kN_pos (fun i => R (a + (8 + i))) k (hR (8 + k) (by omega))
      have z : (0 : Int64).toBitVec.toNat = 0 := rfl
      omega
    · obtain ⟨j, rfl⟩ : ∃ j, l = 8 + j := ⟨l - 8, by omega⟩
      have e1 := n64 h1
      rw [keyH_8, keyH_8, keyH_nat R a 8 (by omega) (fun i hi => hR i (by omega)), keyH_nat S b 8 (by omega) (fun i hi => hS i (by omega))] at e1
      obtain ⟨_, q1⟩ := kN_inj _ _ 8 8 (fun i hi => hR i (by omega)) (fun i hi => hS i (by omega)) e1
      have e2 := n64 h2
      rw [keyL_nat R a (k + 1) (by omega) (fun i hi => hR (8 + i) (by omega)), keyL_nat S b j (by omega) (fun i hi => hS (8 + i) (by omega))] at e2
      obtain ⟨p2, q2⟩ := kN_inj _ _ _ _ (fun i hi => hR (8 + i) (by omega)) (fun i hi => hS (8 + i) (by omega)) e2
      refine ⟨by omega, fun i hi => ?_⟩
      by_cases c : i < 8
      · exact q1 i c
      · have := q2 (i - 8) (by omega)
        rw [show 8 + (i - 8) = i by omega] at this
        exact this
/-! The reference looks a name up in its pool. -/
/-- the name that was read (from f, m bytes) is the one in the pool at p of l bytes -/
def mNm (σ : MS) (f m p l : Nat) : Prop := m = l ∧ ∀ i, i < l → σ.2.2 12 (p + i) = σ.2.2 3 (f + i)
theorem s_isNamed {σ : MS} {f e p l : Nat} (h8 : σ.1 8 = nI f) (h9 : σ.1 9 = nI e) (hfe : f ≤ e) (he : e ≤ 32768) (hpl : p + l ≤ 70000) (L : Nat → Int32) (h1 : L 1 = nI p) (h2 : L 2 = nI l) : Tm (fun k => x_isNamed k 0 L σ) (fun r => r.2 = σ ∧ (¬ r.1 = 0 ↔ mNm σ f (e - f) p l)) := by
  have no : ¬ mNm σ f (e - f) p l → Tm (fun k => some ((0 : Int32), σ)) (fun r => r.2 = σ ∧ (¬ r.1 = 0 ↔ mNm σ f (e - f) p l)) := fun h => Tm_some ⟨rfl, ⟨fun q => absurd rfl q, fun q => absurd q h⟩⟩
  refine Tm_suc (fun k => by rw [x_isNamed]) ?_
  rw [h8, h9, h2, n_sub (by omega) hfe]
  refine Tm_ite (fun c => ?_) (fun c => no (fun h => c (by rw [n_eq (by omega) (by omega)]; exact h.1)))
  rw [n_eq (by omega) (by omega)] at c
  refine Tm_suc (fun k => by rw [x_isNamed]) ?_
  have loop : ∀ (m i : Nat) (M : Nat → Int32), m + i = l → M 1 = nI p → M 2 = nI l → M 3 = nI i → (∀ j, j < i → σ.2.2 12 (p + j) = σ.2.2 3 (f + j)) → Tm (fun k => x_isNamed k 2 M σ) (fun r => r.2 = σ ∧ (¬ r.1 = 0 ↔ mNm σ f (e - f) p l)) := by
    intro m
    induction m with
    | zero =>
      intro i M hm m1 m2 m3 hall
      obtain rfl : i = l := by omega
      refine Tm_suc (fun k => by rw [x_isNamed]) ?_
      rw [m2, m3]
      refine Tm_ite (fun _ => ?_) (fun g => absurd (by rw [n_le (by omega) (by omega)]; exact Nat.le_refl _) g)
      refine Tm_suc (fun k => by rw [x_isNamed]) ?_
      exact Tm_some ⟨rfl, ⟨fun _ => ⟨c, hall⟩, fun _ => (by decide : ¬ (1 : Int32) = 0)⟩⟩
    | succ m ih =>
      intro i M hm m1 m2 m3 hall
      refine Tm_suc (fun k => by rw [x_isNamed]) ?_
      rw [m1, m2, m3, h8, show nI p + nI i = nI (p + i) from (Int32.ofNat_add p i).symm, show nI f + nI i = nI (f + i) from (Int32.ofNat_add f i).symm]
      refine Tm_ite (fun g => ?_) (fun _ => ?_)
      · rw [n_le (by omega) (by omega)] at g; omega
      refine Tm_chk (n_in (by omega) (by omega)) ?_
      refine Tm_chk (n_in (by omega) (by omega)) ?_
      rw [n_cl (p := p + i) (by omega), n_cl (p := f + i) (by omega)]
      refine Tm_ite (fun g => ?_) (fun g => no (fun h => g (h.2 i (by omega))))
      refine Tm_suc (fun k => by rw [x_isNamed]) ?_
      rw [m3, n_add1]
      exact ih (i + 1) _ (by omega) (by rw [upd_other (by decide)]; exact m1) (by rw [upd_other (by decide)]; exact m2) upd_same (fun j hj => by
        by_cases e : j = i
        · rw [e]; exact g
        · exact hall j (by omega))
  exact loop l 0 _ rfl (by rw [upd_other (by decide)]; exact h1) (by rw [upd_other (by decide)]; exact h2) upd_same (fun j hj => absurd hj (by omega))
/-- the pool with m bytes of the tape from f on behind it -/
def mPool (σ : MS) (f : Nat) : Nat → MS
  | 0 => σ
  | m + 1 => (upd (mPool σ f m).1 24 ((mPool σ f m).1 24 + 1), (mPool σ f m).2.1, updG (mPool σ f m).2.2 12 (upd ((mPool σ f m).2.2 12) ((mPool σ f m).1 24).toNatClampNeg (σ.2.2 3 (f + m))))
theorem mPool_is {σ : MS} {f p : Nat} (h : σ.1 24 = nI p) : ∀ m : Nat, p + m < 2147483648 → (mPool σ f m).1 24 = nI (p + m) ∧ (mPool σ f m).2.1 = σ.2.1 ∧ (∀ j, j ≠ 24 → (mPool σ f m).1 j = σ.1 j) ∧ (∀ j, j ≠ 12 → (mPool σ f m).2.2 j = σ.2.2 j) ∧ (∀ i, i < p → (mPool σ f m).2.2 12 i = σ.2.2 12 i) ∧ (∀ i, i < m → (mPool σ f m).2.2 12 (p + i) = σ.2.2 3 (f + i))
  | 0, _ => ⟨h, rfl, fun _ _ => rfl, fun _ _ => rfl, fun _ _ => rfl, fun i hi => absurd hi (by omega)⟩
  | m + 1, hm => by
    obtain ⟨a, b, c, d, e, g⟩ := mPool_is h m (by omega) (σ := σ) (f := f)
    refine ⟨?_, b, fun j hj => ?_, fun j hj => ?_, fun i hi => ?_, fun i hi => ?_⟩
    · show upd (mPool σ f m).1 24 ((mPool σ f m).1 24 + 1) 24 = _
      rw [upd_same, a, n_add1]; rfl
    · show upd (mPool σ f m).1 24 _ j = _
      rw [upd_other hj]; exact c j hj
    · show updG (mPool σ f m).2.2 12 _ j = _
      rw [updG_other hj]; exact d j hj
    · show updG (mPool σ f m).2.2 12 (upd ((mPool σ f m).2.2 12) ((mPool σ f m).1 24).toNatClampNeg (σ.2.2 3 (f + m))) 12 i = _
      rw [updG_same, a, n_cl (by omega), upd_other (by omega)]; exact e i hi
    · show updG (mPool σ f m).2.2 12 (upd ((mPool σ f m).2.2 12) ((mPool σ f m).1 24).toNatClampNeg (σ.2.2 3 (f + m))) 12 (p + i) = _
      rw [updG_same, a, n_cl (by omega)]
      by_cases q : i = m
      · subst q; rw [upd_same]
      · rw [upd_other (by omega)]; exact g i (by omega)
theorem s_keep {σ : MS} {f e p : Nat} (h24 : σ.1 24 = nI p) (hfe : f ≤ e) (he : e ≤ 32768) (hp : p + (e - f) ≤ 70000) (L : Nat → Int32) (h1 : L 1 = nI f) (h2 : L 2 = nI e) : Tm (fun k => x_keep k 0 L σ) (fun r => r = (nI p, mPool σ f (e - f))) := by
  refine Tm_suc (fun k => by rw [x_keep]) ?_
  rw [h24, h1]
  have loop : ∀ (m i : Nat) (M : Nat → Int32), m + i = e - f → M 2 = nI e → M 3 = nI p → M 4 = nI (f + i) → Tm (fun k => x_keep k 1 M (mPool σ f i)) (fun r => r = (nI p, mPool σ f (e - f))) := by
    intro m
    induction m with
    | zero =>
      intro i M hm m2 m3 m4
      obtain rfl : i = e - f := by omega
      refine Tm_suc (fun k => by rw [x_keep]) ?_
      rw [m2, m4]
      refine Tm_ite (fun _ => ?_) (fun g => absurd (by rw [n_le (by omega) (by omega)]; omega) g)
      refine Tm_suc (fun k => by rw [x_keep]) ?_
      exact Tm_some (by rw [m3])
    | succ m ih =>
      intro i M hm m2 m3 m4
      obtain ⟨a, b, c, d, _, _⟩ := mPool_is h24 i (by omega) (σ := σ) (f := f)
      refine Tm_suc (fun k => by rw [x_keep]) ?_
      rw [m2, m4, a]
      refine Tm_ite (fun g => ?_) (fun _ => ?_)
      · rw [n_le (by omega) (by omega)] at g; omega
      refine Tm_chk (n_in (by omega) (by omega)) ?_
      refine Tm_chk (n_in (by omega) (by omega)) ?_
      refine Tm_suc (fun k => by rw [x_keep]) ?_
      refine Tm_suc (fun k => by rw [x_keep]) ?_
      rw [n_cl (p := p + i) (by omega), n_cl (p := f + i) (by omega), m4, n_add1]
      have := ih (i + 1) (upd M 4 (nI (f + i + 1))) (by omega) (by rw [upd_other (by decide)]; exact m2) (by rw [upd_other (by decide)]; exact m3) (by rw [upd_same]; rfl)
      have e1 : mPool σ f (i + 1) = (upd (mPool σ f i).1 24 ((mPool σ f i).1 24 + 1), (mPool σ f i).2.1, updG (mPool σ f i).2.2 12 (upd ((mPool σ f i).2.2 12) (p + i) ((mPool σ f i).2.2 3 (f + i)))) := by
        show (upd (mPool σ f i).1 24 ((mPool σ f i).1 24 + 1), (mPool σ f i).2.1, updG (mPool σ f i).2.2 12 (upd ((mPool σ f i).2.2 12) ((mPool σ f i).1 24).toNatClampNeg (σ.2.2 3 (f + i)))) = _
        rw [a, n_cl (p := p + i) (by omega), d 3 (by decide)]
      rw [e1] at this
      exact this
  exact loop (e - f) 0 _ (by omega) (by rw [upd_other (by decide), upd_other (by decide)]; exact h2) (by rw [upd_other (by decide), upd_same]) (by rw [upd_same]; rfl)

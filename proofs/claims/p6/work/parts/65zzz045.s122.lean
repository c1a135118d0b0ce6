/-! Drawing; parts; pairs (reference). -/
section DRA
variable {g : Nat → Prop} {l : List Nat} {B h t : Nat} {σ : MS}
theorem dw_up (u : UInt64) : ∃ m : Nat, m < 2147483648 ∧ ((u >>> ((33 : Int32).toInt64.toUInt64 &&& Int64.toUInt64 63)).toInt64).toInt = (m : Int) := by
  have e : ((33 : Int32).toInt64.toUInt64 &&& Int64.toUInt64 63) = 33 := by decide
  rw [e]
  have hn : (u >>> 33).toNat = u.toNat / 2 ^ 33 := by
    rw [UInt64.toNat_shiftRight, Nat.shiftRight_eq_div_pow]; rfl
  have hu : u.toNat < 18446744073709551616 := u.toNat_lt
  have hb : (u >>> 33).toNat < 2147483648 := by rw [hn]; omega
  refine ⟨(u >>> 33).toNat, hb, ?_⟩
  generalize u >>> 33 = w at hb
  show w.toBitVec.toInt = _
  have hb2 : w.toBitVec.toNat < 2147483648 := hb
  rw [BitVec.toInt_eq_toNat_of_lt (by omega)]
  rfl
theorem dw_mod {x : Int64} {m n : Nat} (hx : x.toInt = (m : Int)) (hm : m < 2147483648) (h1 : 1 ≤ n) (h2 : n < 2147483648) : ∃ i, i < n ∧ (x - x / (nI n).toInt64 * (nI n).toInt64).toInt32 = nI i := by
  have hle : m / n ≤ m := Nat.div_le_self m n
  have hml : m / n * n ≤ m := Nat.div_mul_le_self m n
  have hmod := Nat.div_add_mod m n
  have hlt : m % n < n := Nat.mod_lt m (by omega)
  rw [Nat.mul_comm] at hmod
  have e1 : (x / (nI n).toInt64).toInt = ((m / n : Nat) : Int) := by
    rw [Int64.toInt_div, hx, w_int h2, Int.tdiv_eq_ediv_of_nonneg (by omega), ← Int.natCast_ediv]
    generalize m / n = z at hle
    exact Int.bmod_eq_of_le (by omega) (by omega)
  have e2 : (x / (nI n).toInt64 * (nI n).toInt64).toInt = ((m / n * n : Nat) : Int) := by
    rw [Int64.toInt_mul, e1, w_int h2, ← Int.natCast_mul]
    generalize m / n * n = z at hml
    exact Int.bmod_eq_of_le (by omega) (by omega)
  have e3 : (x - x / (nI n).toInt64 * (nI n).toInt64).toInt = ((m % n : Nat) : Int) := by
    rw [Int64.toInt_sub, e2, hx]
    generalize m / n * n = z at hml hmod
    generalize m % n = y at hmod hlt
    rw [show (m : Int) - (z : Int) = (y : Int) by omega]
    exact Int.bmod_eq_of_le (by omega) (by omega)
  refine ⟨m % n, hlt, ?_⟩
  rw [i_eq, Int64.toInt_toInt32, e3, n_int (by omega)]
  generalize m % n = y at hlt
  exact Int.bmod_eq_of_le (by omega) (by omega)
theorem s_draw {n : Nat} (h1 : 1 ≤ n) (h2 : n < 2147483648) {L : Nat → Int32} (hL : L 1 = nI n) : Tm (fun k => x_draw k 0 L σ) (fun r => (∃ w, r.2 = (σ.1, w, σ.2.2)) ∧ ∃ i, i < n ∧ r.1 = nI i) := by
  refine Tm_suc (fun k => by rw [x_draw]) ?_
  generalize updW σ.2.1 96 (((σ.2.1 96) * 6364136223846793005) + 1442695040888963407) = w
  refine Tm_suc (fun k => by rw [x_draw]) ?_
  rw [hL]
  refine Tm_chk0 (fun z => ?_) ?_
  · have := congrArg Int64.toInt z
    rw [w_int h2] at this
    have e0 : (0 : Int64).toInt = 0 := rfl
    rw [e0] at this
    omega
  obtain ⟨m, m1, m2⟩ := dw_up (w 96).toUInt64
  obtain ⟨i, i1, i2⟩ := dw_mod m2 m1 h1 h2
  exact Tm_some ⟨⟨w, rfl⟩, i, i1, i2⟩
theorem W_VP {w : Nat → Int64} (hP : VP g l B h t σ) : VP g l B h t (σ.1, w, σ.2.2) := ⟨HS_c hP.1 rfl rfl rfl, hP.2.1, hP.2.2.1, ErB_c rfl hP.2.2.2⟩
theorem W_VO {w : Nat → Int64} {r : Int32 × MS} (hP : VP g l B h t σ) (b : VO g B h t (σ.1, w, σ.2.2) r) : VO g B h t σ r :=
  VO_tr (τ := (σ.1, w, σ.2.2)) (g1 := g) (l1 := l) (h1 := h) ⟨(W_VP hP).1, fun _ z => z, Nat.le_refl _, fun i _ _ => rfl⟩ ⟨fun j _ => rfl, fun j _ => rfl, fun i _ => rfl⟩ (fun z => z) b
theorem s_pair (hP : VP g l B h t σ) {v x : Nat} (hv : v < 3 ∨ g v) (hx : x < 3 ∨ g x) {L : Nat → Int32} (h1 : L 1 = nI v) (h2 : L 2 = nI x) : Tm (fun k => x_pair k 0 L σ) (VO g B h t σ) := by
  have ht := hP.2.2.1
  refine Tm_suc (fun k => by rw [x_pair]) ?_
  refine Tm_ob (PuS_push (PuS_0 hP.2.1) (by omega) hv (by exact h1)) (fun r hr => ?_)
  refine Tm_ob (PuS_push hr (by omega) hx (by exact h2)) (fun s hs => ?_)
  exact Tm_ob (PuS_tup hs hP.1 hP.2.2.2 (by omega) (by exact hP.2.1)) (fun u hu => Tm_some hu)
theorem s_partAt (hP : VP g l B h t σ) {v x : Nat} (hv : v < 3 ∨ g v) (hx : x < 3 ∨ g x) {L : Nat → Int32} (h1 : L 1 = nI v) (h2 : L 2 = nI x) : Tm (fun k => x_partAt k 0 L σ) (VO g B h t σ) := by
  have hS := hP.1
  have hb := HS_b hS
  have hB := hS.2.1
  have kv := kdN_6 hS hv
  have kx := kdN_6 hS hx
  refine Tm_suc (fun k => by rw [x_partAt]) ?_
  refine Tm_ob (s_kind hS hv (by exact h1)) (fun r hr => ?_)
  rw [hr]
  have b1 : (4 ≤ kdN (σ.2.2 28) v) → ∀ N : Nat → Int32, N 1 = nI v → N 2 = nI x → Tm (fun k => x_partAt k 1 N σ) (VO g B h t σ) := by
    intro hk N n1 n2
    obtain ⟨n, v1, v2, v3, v4, v5, v6, v7⟩ := ob_at hS (kdN_ge hS hv (by omega))
    have b5 : ∀ (N : Nat → Int32) (r : Int32 × MS), N 100 = r.1 → VO g B h t σ r → Tm (fun k => x_partAt k 5 N r.2) (VO g B h t σ) := fun N r hN hr => by
      refine Tm_suc (fun k => by rw [x_partAt]) ?_
      rw [hN]; exact Tm_some hr
    refine Tm_suc (fun k => by rw [x_partAt]) ?_
    refine Tm_ob (s_kind hS hx (by exact n2)) (fun r hr => ?_)
    rw [hr]
    refine Tm_ite (fun w => ?_) (fun _ => Tm_ob (s_wrongKind _) (fun r hr => Tm_some (VO_wk hP hr)))
    have w := (n_eq (q := 2) (by omega) (by decide)).mp w
    obtain ⟨m, hm⟩ := Wh_of hS hx w
    refine Tm_suc (fun k => by rw [x_partAt]) ?_
    refine Tm_ob (s_intOf hS hm (b := 100000) (by decide) (by exact n2) rfl) (fun r hr => ?_)
    obtain ⟨r1, y, y1, y2, y3⟩ := hr
    rw [r1]
    refine Tm_ite (fun z => ?_) (fun _ => ?_)
    · have ey : r.1 = nI y ∧ 1 ≤ y := by
        rcases y2 with y2 | y2
        · refine ⟨y2, ?_⟩
          rw [y2] at z
          exact (n_le (p := 1) (by decide) (by omega)).mp z
        · rw [y2, i_le, Int32.toInt_neg, n_int (by omega)] at z
          have e1 : (1 : Int32).toInt = 1 := rfl
          rw [e1, Int.bmod_eq_of_le (by omega) (by omega)] at z
          omega
      refine Tm_suc (fun k => by rw [x_partAt]) ?_
      show Tm (fun k => if ¬ (N 1 + 1 < 0 ∨ 1740000 ≤ (N 1 + 1).toNatClampNeg) then (if r.1 ≤ σ.2.2 28 (N 1 + 1).toNatClampNeg then x_partAt k 4 (upd N 4 r.1) σ else x_partAt k 5 (upd (upd N 4 r.1) 100 0) σ) else none) _
      rw [n1, show nI v + 1 = nI (v + 1) from n_add1 v]
      refine Tm_chk (n_in (by omega) (by omega)) ?_
      rw [n_cl (p := v + 1) (by omega), v1, ey.1]
      refine Tm_ite (fun z2 => ?_) (fun _ => b5 _ (0, σ) rfl (VO_id hP Vd_0))
      have z2 := (n_le (by omega) (by omega)).mp z2
      refine Tm_suc (fun k => by rw [x_partAt]) ?_
      refine Tm_ob (s_memberAt hP (kdN_ge hS hv (by omega)) hk v1 (i := y - 1) (by omega) v2 (by exact n1) (n_sub (p := y) (q := 1) (by omega) (by omega))) (fun s hs => b5 _ s rfl hs)
    · refine Tm_ob (s_fail _ σ) (fun r hr => ?_)
      rw [hr]
      exact Tm_some (VO_er hP (e := 4) (by decide))
  refine Tm_ite (fun w => b1 (by rw [(n_eq (q := 4) (by omega) (by decide)).mp w]; omega) _ h1 h2) (fun _ => ?_)
  refine Tm_ite (fun w => b1 (by rw [(n_eq (q := 5) (by omega) (by decide)).mp w]; omega) _ h1 h2) (fun _ => ?_)
  refine Tm_suc (fun k => by rw [x_partAt]) ?_
  refine Tm_ob (s_isMap hS hv (by exact h1)) (fun r hr => ?_)
  obtain ⟨hr1, hr2⟩ := hr
  rw [hr1]
  rcases hr2 with hr2 | ⟨hr2, gv, kv, n, hn, v1, hM⟩
  · refine Tm_ite (fun _ => ?_) (fun w => absurd hr2 w)
    exact Tm_ob (s_wrongKind _) (fun r hr => Tm_some (VO_wk hP hr))
  refine Tm_ite (fun w => absurd (hr2.symm.trans w) (by decide)) (fun _ => ?_)
  obtain ⟨n', w1, w2, w3, w4, -, -, -⟩ := ob_at hS gv
  have e : n' = n := (n_eq (by omega) (by omega)).mp (w1.symm.trans v1)
  subst e
  have b10 : ∀ N : Nat → Int32, Vd g (N 4) → Tm (fun k => x_partAt k 10 N σ) (VO g B h t σ) := fun N hN => by
    refine Tm_suc (fun k => by rw [x_partAt]) ?_
    refine Tm_ite (fun _ => ?_) (fun _ => ?_)
    · refine Tm_suc (fun k => by rw [x_partAt]) ?_
      exact Tm_some (VO_id hP hN)
    · refine Tm_suc (fun k => by rw [x_partAt]) ?_
      refine Tm_suc (fun k => by rw [x_partAt]) ?_
      exact Tm_some (VO_id hP Vd_0)
  have b8 : ∀ (q i : Nat) (N : Nat → Int32), q + i = n' → N 1 = nI v → N 2 = nI x → Vd g (N 4) → N 6 = nI i → Tm (fun k => x_partAt k 8 N σ) (VO g B h t σ) := by
    intro q
    induction q with
    | zero =>
      intro i N hi n1 n2 n4 n6
      refine Tm_suc (fun k => by rw [x_partAt]) ?_
      rw [n1, n6, show nI v + 1 = nI (v + 1) from n_add1 v]
      refine Tm_chk (n_in (by omega) (by omega)) ?_
      rw [n_cl (p := v + 1) (by omega), v1]
      exact Tm_ite (fun _ => b10 N n4) (fun w => absurd ((n_le (by omega) (by omega)).mpr (by omega)) w)
    | succ q ih =>
      intro i N hi n1 n2 n4 n6
      have b9 : ∀ M : Nat → Int32, M 1 = nI v → M 2 = nI x → Vd g (M 4) → M 6 = nI i → Tm (fun k => x_partAt k 9 M σ) (VO g B h t σ) := fun M m1 m2 m4 m6 => by
        refine Tm_suc (fun k => by rw [x_partAt]) ?_
        exact ih (i + 1) _ (by omega) m1 m2 m4 (by show M 6 + 1 = _; rw [m6, n_add1])
      obtain ⟨c, c1, c2, c3, c4⟩ := hM i (by omega)
      obtain ⟨d1, d2, ⟨a, a1, a2⟩, b, bb1, bb2⟩ := pr_at hS c2 c3 c4
      refine Tm_suc (fun k => by rw [x_partAt]) ?_
      rw [n1, n6, show nI v + 1 = nI (v + 1) from n_add1 v, show nI v + 4 = nI (v + 4) from n_add (q := 4) (by omega), n_add (by omega)]
      refine Tm_chk (n_in (by omega) (by omega)) ?_
      rw [n_cl (p := v + 1) (by omega), v1]
      refine Tm_ite (fun w => absurd ((n_le (by omega) (by omega)).mp w) (by omega)) (fun _ => ?_)
      refine Tm_chk (n_in (by omega) (by omega)) ?_
      rw [n_cl (p := v + 4 + i) (by omega), c1, show nI c + 4 = nI (c + 4) from n_add (q := 4) (by omega), show nI c + 5 = nI (c + 5) from n_add (q := 5) (by omega)]
      refine Tm_chk (n_in (by omega) (by omega)) ?_
      rw [n_cl (p := c + 4) (by omega), a1]
      refine Tm_ob (s_compareV hS a2 hx rfl (by exact n2)) (fun r hr => ?_)
      rw [hr]
      refine Tm_ite (fun _ => ?_) (fun _ => b9 _ n1 n2 n4 n6)
      refine Tm_chk (n_in (by omega) (by omega)) ?_
      rw [n_cl (p := c + 5) (by omega), bb1]
      exact b9 _ n1 n2 ⟨b, rfl, bb2⟩ n6
  refine Tm_suc (fun k => by rw [x_partAt]) ?_
  exact b8 n' 0 _ (by omega) h1 h2 Vd_0 rfl
end DRA

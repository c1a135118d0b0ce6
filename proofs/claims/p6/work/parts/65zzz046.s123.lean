/-! Slices (reference). -/
section SLI
variable {g : Nat → Prop} {l : List Nat} {B h t : Nat} {σ : MS}
theorem sg_int {x : Int32} {y : Nat} (hy : y ≤ 100001) (hx : x = nI y ∨ x = - nI y) : x.toInt = (y : Int) ∨ x.toInt = -(y : Int) := by
  rcases hx with hx | hx
  · rw [hx, n_int (by omega)]; exact Or.inl rfl
  · rw [hx, Int32.toInt_neg, n_int (by omega), Int.bmod_eq_of_le (by omega) (by omega)]; exact Or.inr rfl
theorem sg_pos {x : Int32} {y : Nat} (hy : y ≤ 100001) (hx : x = nI y ∨ x = - nI y) (h0 : 0 ≤ x.toInt) : x = nI y := by
  rw [i_eq, n_int (by omega)]
  rcases sg_int hy hx with e | e <;> omega
theorem n_len {a b : Nat} (hb : b < 2147483000) (hab : a ≤ b + 1) : nI b - nI a + 1 = nI (b + 1 - a) := by
  by_cases e : a ≤ b
  · rw [n_sub (by omega) e, n_add1]
    congr 1
    omega
  · have : a = b + 1 := by omega
    subst this
    rw [← Int32.neg_sub, n_sub (by omega) (by omega), show b + 1 - b = 1 by omega, show b + 1 - (b + 1) = 0 by omega]
    decide
/-- bounds of a slice are read -/
def SlR (g : Nat → Prop) (σ : MS) (v : Nat) (r : Int32 × MS) : Prop := (r = (0, mEr σ (nI 1))) ∨ (r.1 = 1 ∧ g v ∧ (kdN (σ.2.2 28) v = 4 ∨ kdN (σ.2.2 28) v = 5) ∧ ∃ x z : Int32, ∃ y w : Nat, y ≤ 100001 ∧ w ≤ 100001 ∧ (x = nI y ∨ x = - nI y) ∧ (z = nI w ∨ z = - nI w) ∧ r.2 = mSc (mSc σ 100 x) 101 z)
theorem s_isSlice (hS : HS g l B h σ) {v a b : Nat} (hv : v < 3 ∨ g v) (ha : a < 3 ∨ g a) (hb : b < 3 ∨ g b) {L : Nat → Int32} (h1 : L 1 = nI v) (h2 : L 2 = nI a) (h3 : L 3 = nI b) : Tm (fun k => x_isSlice k 0 L σ) (SlR g σ v) := by
  have kv := kdN_6 hS hv
  have ka := kdN_6 hS ha
  have kb := kdN_6 hS hb
  have b2 : ∀ N : Nat → Int32, Tm (fun k => x_isSlice k 2 N σ) (SlR g σ v) := fun N => by
    refine Tm_suc (fun k => by rw [x_isSlice]) ?_
    refine Tm_ob (s_fail _ σ) (fun r hr => ?_)
    rw [hr]
    exact Tm_some (Or.inl rfl)
  have b1 : (kdN (σ.2.2 28) v = 4 ∨ kdN (σ.2.2 28) v = 5) → ∀ N : Nat → Int32, N 1 = nI v → N 2 = nI a → N 3 = nI b → Tm (fun k => x_isSlice k 1 N σ) (SlR g σ v) := by
    intro hk N n1 n2 n3
    refine Tm_suc (fun k => by rw [x_isSlice]) ?_
    refine Tm_ob (s_kind hS ha (by exact n2)) (fun r hr => ?_)
    rw [hr]
    refine Tm_ite (fun w => ?_) (fun _ => b2 _)
    have w := (n_eq (q := 2) (by omega) (by decide)).mp w
    refine Tm_ob (s_kind hS hb (by exact n3)) (fun r hr => ?_)
    rw [hr]
    refine Tm_ite (fun w2 => ?_) (fun _ => b2 _)
    have w2 := (n_eq (q := 2) (by omega) (by decide)).mp w2
    obtain ⟨n, hn⟩ := Wh_of hS ha w
    obtain ⟨m, hm⟩ := Wh_of hS hb w2
    refine Tm_suc (fun k => by rw [x_isSlice]) ?_
    refine Tm_ob (s_intOf hS hn (b := 100000) (by decide) (by exact n2) rfl) (fun r hr => ?_)
    obtain ⟨r1, y, y1, y2, y3⟩ := hr
    rw [r1]
    show Tm (fun k => x_isSlice k 4 N (mSc σ 100 r.1)) _
    refine Tm_suc (fun k => by rw [x_isSlice]) ?_
    have hS1 : HS g l B h (mSc σ 100 r.1) := HS_c hS rfl rfl rfl
    have hm1 : Wh (mSc σ 100 r.1) b m := hm
    refine Tm_ob (s_intOf hS1 hm1 (b := 100000) (by decide) (by exact n3) rfl) (fun s hs => ?_)
    obtain ⟨s1, z, z1, z2, z3⟩ := hs
    rw [s1]
    show Tm (fun k => x_isSlice k 5 N (mSc (mSc σ 100 r.1) 101 s.1)) _
    refine Tm_suc (fun k => by rw [x_isSlice]) ?_
    exact Tm_some (Or.inr ⟨rfl, kdN_ge hS hv (by omega), hk, r.1, s.1, y, z, y1, z1, y2, z2, rfl⟩)
  refine Tm_suc (fun k => by rw [x_isSlice]) ?_
  refine Tm_ob (s_kind hS hv (by exact h1)) (fun r hr => ?_)
  rw [hr]
  refine Tm_ite (fun w => b1 (Or.inl ((n_eq (q := 4) (by omega) (by decide)).mp w)) _ h1 h2 h3) (fun _ => ?_)
  exact Tm_ite (fun w => b1 (Or.inr ((n_eq (q := 5) (by omega) (by decide)).mp w)) _ h1 h2 h3) (fun _ => b2 _)
def SlI (σ : MS) (y w n : Nat) (r : Int32 × MS) : Prop := r = (0, mEr σ (nI 4)) ∨ (r = (1, σ) ∧ σ.1 100 = nI y ∧ σ.1 101 = nI w ∧ 1 ≤ y ∧ y ≤ w + 1 ∧ w ≤ n)
theorem s_isSliceIn (hS : HS g l B h σ) {v n y w : Nat} (hv : σ.2.2 28 (v + 1) = nI n) (hn : n ≤ 3996) (hvb : v + 4 + n ≤ 1740000) (hy : y ≤ 100001) (hw : w ≤ 100001) (h100 : σ.1 100 = nI y ∨ σ.1 100 = - nI y) (h101 : σ.1 101 = nI w ∨ σ.1 101 = - nI w) {L : Nat → Int32} (h1 : L 1 = nI v) : Tm (fun k => x_isSliceIn k 0 L σ) (SlI σ y w n) := by
  have b1 : ∀ N : Nat → Int32, Tm (fun k => x_isSliceIn k 1 N σ) (SlI σ y w n) := fun N => by
    refine Tm_suc (fun k => by rw [x_isSliceIn]) ?_
    refine Tm_ob (s_fail _ σ) (fun r hr => ?_)
    rw [hr]
    exact Tm_some (Or.inl rfl)
  have e1 : (1 : Int32).toInt = 1 := rfl
  refine Tm_suc (fun k => by rw [x_isSliceIn]) ?_
  refine Tm_ite (fun _ => b1 _) (fun z1 => ?_)
  have z1 : 1 ≤ (σ.1 100).toInt := by rw [i_lt, e1] at z1; omega
  have y1 := sg_pos hy h100 (by omega)
  have y2 : 1 ≤ y := by rw [y1, n_int (by omega)] at z1; omega
  rw [y1, h1, show nI v + 1 = nI (v + 1) from n_add1 v, show nI y - 1 = nI (y - 1) from n_sub (p := y) (q := 1) (by omega) (by omega)]
  refine Tm_ite (fun _ => b1 _) (fun z2 => ?_)
  have z2 : ((y - 1 : Nat) : Int) ≤ (σ.1 101).toInt := by rw [i_lt, n_int (by omega)] at z2; omega
  have w1 := sg_pos hw h101 (by omega)
  have w2 : y ≤ w + 1 := by rw [w1, n_int (by omega)] at z2; omega
  refine Tm_chk (n_in (by omega) (by omega)) ?_
  rw [n_cl (p := v + 1) (by omega), hv, w1]
  refine Tm_ite (fun z3 => ?_) (fun _ => b1 _)
  have z3 := (n_le (by omega) (by omega)).mp z3
  refine Tm_suc (fun k => by rw [x_isSliceIn]) ?_
  exact Tm_some (Or.inr ⟨rfl, y1, w1, y2, w2, z3⟩)
theorem Sl_VP {x z : Int32} (hP : VP g l B h t σ) : VP g l B h t (mSc (mSc σ 100 x) 101 z) := ⟨HS_c hP.1 rfl rfl rfl, hP.2.1, hP.2.2.1, ErB_c rfl hP.2.2.2⟩
theorem Sl_VO {x z : Int32} {r : Int32 × MS} (hP : VP g l B h t σ) (b : VO g B h t (mSc (mSc σ 100 x) 101 z) r) : VO g B h t σ r :=
  VO_tr (τ := mSc (mSc σ 100 x) 101 z) (g1 := g) (l1 := l) (h1 := h) ⟨(Sl_VP hP).1, fun _ z => z, Nat.le_refl _, fun i _ _ => rfl⟩ (FW_tr (FW_sc (by omega)) (FW_sc (by omega))) (fun z => z) b
theorem s_slice (hP : VP g l B h t σ) {v a b : Nat} (hv : v < 3 ∨ g v) (ha : a < 3 ∨ g a) (hb : b < 3 ∨ g b) {L : Nat → Int32} (h1 : L 1 = nI v) (h2 : L 2 = nI a) (h3 : L 3 = nI b) : Tm (fun k => x_slice k 0 L σ) (VO g B h t σ) := by
  have ht := hP.2.2.1
  have b1 : ∀ (N : Nat → Int32) (e : Int32) (τ : MS), VO g B h t σ (e, τ) → Tm (fun k => x_slice k 1 N τ) (VO g B h t σ) := fun N e τ hr => by
    refine Tm_suc (fun k => by rw [x_slice]) ?_
    obtain ⟨g', l', h', a1, a2, a3, a4, a5, a6⟩ := hr
    exact Tm_some ⟨g', l', h', a1, a2, a3, a4, a5, Vd_0⟩
  refine Tm_suc (fun k => by rw [x_slice]) ?_
  refine Tm_ob (s_isSlice hP.1 hv ha hb (by exact h1) (by exact h2) (by exact h3)) (fun r hr => ?_)
  rcases hr with hr | ⟨r1, gv, hk, x, z, y, w, hy, hw, hx, hz, r2⟩
  · rw [hr]
    refine Tm_ite (fun _ => b1 _ 0 _ (VO_er hP (e := 1) (by decide))) (fun w => absurd rfl w)
  refine Tm_ite (fun w => absurd (r1.symm.trans w) (by decide)) (fun _ => ?_)
  rw [r2]
  have hP1 := Sl_VP (x := x) (z := z) hP
  have b2 : ∀ N τ, VO g B h t (mSc (mSc σ 100 x) 101 z) ((0 : Int32), τ) → Tm (fun k => x_slice k 1 N τ) (VO g B h t σ) := fun N τ hr => b1 N 0 τ (Sl_VO hP hr)
  refine Tm_mono (Q := VO g B h t σ) ?_ (fun r hr => hr)
  have cl : ∀ r, VO g B h t (mSc (mSc σ 100 x) 101 z) r → VO g B h t σ r := fun r hr => Sl_VO hP hr
  have hk1 : kdN ((mSc (mSc σ 100 x) 101 z).2.2 28) v = 4 ∨ kdN ((mSc (mSc σ 100 x) 101 z).2.2 28) v = 5 := hk
  have x1 : (mSc (mSc σ 100 x) 101 z).1 100 = nI y ∨ (mSc (mSc σ 100 x) 101 z).1 100 = - nI y := hx
  have z1 : (mSc (mSc σ 100 x) 101 z).1 101 = nI w ∨ (mSc (mSc σ 100 x) 101 z).1 101 = - nI w := hz
  generalize mSc (mSc σ 100 x) 101 z = ρ at hP1 b2 cl hk1 x1 z1
  have hS1 := hP1.1
  have hb1 := HS_b hS1
  obtain ⟨n, v1, v2, v3, v4, v5, v6, v7⟩ := ob_at hS1 gv
  refine Tm_ob (s_isSliceIn hS1 v1 v2 (by omega) hy hw x1 z1 (by exact h1)) (fun s hs => ?_)
  rcases hs with hs | ⟨hs, s1, s2, s3, s4, s5⟩
  · rw [hs]
    refine Tm_ite (fun _ => b2 _ _ (VO_er hP1 (e := 4) (by decide))) (fun w => absurd rfl w)
  rw [hs]
  refine Tm_ite (fun w => absurd (show (1 : Int32) = 0 from w) (by decide)) (fun _ => ?_)
  refine Tm_suc (fun k => by rw [x_slice]) ?_
  show Tm (fun k => if ¬ (L 1 < 0 ∨ 1740000 ≤ (L 1).toNatClampNeg) then (if ρ.2.2 28 (L 1).toNatClampNeg = 4 then ob (x_stringOf__28 k 0 (upd (upd (fun _ => 0) 2 ((L 1 + 3) + ρ.1 100)) 3 ((ρ.1 101 - ρ.1 100) + 1)) ρ) (fun r3 => some (r3.1, r3.2)) else x_slice k 3 (upd L 4 ((ρ.1 101 - ρ.1 100) + 1)) ρ) else none) _
  rw [h1, s1, s2, n_len (by omega) s4, show nI v + 3 = nI (v + 3) from n_add (q := 3) (by omega), n_add (by omega)]
  refine Tm_chk (n_in (by omega) (by omega)) ?_
  rw [n_cl (p := v) (by omega), v5]
  refine Tm_ite (fun _ => ?_) (fun z => ?_)
  · exact Tm_ob (s_stringOf28 hP1 (f := v + 3 + y) (n := w + 1 - y) (by omega) (fun _ => by omega) rfl rfl) (fun r hr => Tm_some (cl r hr))
  have hk5 : 5 ≤ kdN (ρ.2.2 28) v := by
    rcases hk1 with e | e
    · exact absurd (by rw [e]; rfl) z
    · omega
  have v7 := v7 hk5
  refine Tm_mono (Q := VO g B h t ρ) ?_ cl
  have b4 : ∀ (q i : Nat) (N : Nat → Int32) (τ : MS), q + i = w + 1 - y → N 1 = nI v → N 4 = nI (w + 1 - y) → N 5 = nI t → N 6 = nI i → PuS g t i ρ τ → Tm (fun k => x_slice k 4 N τ) (VO g B h t ρ) := by
    intro q
    induction q with
    | zero =>
      intro i N τ hi n1 n4 n5 n6 hU
      refine Tm_suc (fun k => by rw [x_slice]) ?_
      rw [n4, n6]
      refine Tm_ite (fun _ => ?_) (fun w => absurd ((n_le (by omega) (by omega)).mpr (by omega)) w)
      refine Tm_suc (fun k => by rw [x_slice]) ?_
      exact Tm_ob (PuS_tup hU hS1 hP1.2.2.2 (by omega) (by exact n5)) (fun r hr => Tm_some hr)
    | succ q ih =>
      intro i N τ hi n1 n4 n5 n6 hU
      obtain ⟨m, m1, m2⟩ := v7 (y - 1 + i) (by omega)
      refine Tm_suc (fun k => by rw [x_slice]) ?_
      rw [n4, n6, n1, hU.1 100 (by decide), s1, show nI v + 3 = nI (v + 3) from n_add (q := 3) (by omega), n_add (p := v + 3) (by omega), n_add (by omega)]
      refine Tm_ite (fun w => absurd ((n_le (by omega) (by omega)).mp w) (by omega)) (fun _ => ?_)
      refine Tm_chk (n_in (by omega) (by omega)) ?_
      rw [n_cl (p := v + 3 + y + i) (by omega), hU.2.1 28 (by decide), show v + 3 + y + i = v + 4 + (y - 1 + i) by omega, m1]
      exact Tm_ob (PuS_push hU (by omega) m2 rfl) (fun r hr => ih (i + 1) _ _ (by omega) n1 n4 n5 (n_add1 i) hr)
  refine Tm_suc (fun k => by rw [x_slice]) ?_
  rw [hP1.2.1]
  exact b4 (w + 1 - y) 0 _ _ (by omega) h1 rfl rfl rfl (PuS_0 hP1.2.1)
end SLI

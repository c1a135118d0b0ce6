/-! In; repeat (reference). -/
section ISI
variable {g : Nat → Prop} {l : List Nat} {B h t : Nat} {σ : MS}
theorem kdN_6 (hS : HS g l B h σ) {v : Nat} (hv : v < 3 ∨ g v) : kdN (σ.2.2 28) v ≤ 6 := by
  by_cases e : 2 ≤ kdN (σ.2.2 28) v
  · obtain ⟨_, _, _, _, _, _, z, _⟩ := ob_at hS (kdN_ge hS hv e)
    exact z.2
  · omega
theorem Vd_12 {x : Int32} (hx : x = 1 ∨ x = 2) : Vd g x := by
  rcases hx with hx | hx
  · rw [hx]; exact Vd_1
  · rw [hx]; exact Vd_2
/-- in a string -/
theorem s_isIn12 (hS : HS g l B h σ) {v x : Nat} (hv : g v) (hx : g x) : ∀ (N : Nat → Int32), N 1 = nI x → N 2 = nI v → N 5 = nI 0 → Tm (fun k => x_isIn k 12 N σ) (fun r => r.2 = σ ∧ (r.1 = 1 ∨ r.1 = 2)) := by
  have hb := HS_b hS
  have hB := hS.2.1
  obtain ⟨m, v1, v2, v3, v4, -, -, -⟩ := ob_at hS hv
  obtain ⟨n, x1, x2, x3, x4, -, -, -⟩ := ob_at hS hx
  have b17 : ∀ N : Nat → Int32, Tm (fun k => x_isIn k 17 N σ) (fun r => r.2 = σ ∧ (r.1 = 1 ∨ r.1 = 2)) := fun N => by
    refine Tm_suc (fun k => by rw [x_isIn]) ?_
    exact Tm_ob (s_truth _) (fun r hr => Tm_some hr)
  have b12 : ∀ (q i : Nat) (N : Nat → Int32), m + 1 ≤ q + i → i ≤ m + 1 → N 1 = nI x → N 2 = nI v → N 5 = nI i → Tm (fun k => x_isIn k 12 N σ) (fun r => r.2 = σ ∧ (r.1 = 1 ∨ r.1 = 2)) := by
    intro q
    induction q with
    | zero =>
      intro i N hi hi2 n1 n2 n5
      refine Tm_suc (fun k => by rw [x_isIn]) ?_
      rw [n1, n2, n5, show nI v + 1 = nI (v + 1) from n_add1 v, show nI x + 1 = nI (x + 1) from n_add1 x]
      refine Tm_chk (n_in (by omega) (by omega)) ?_
      refine Tm_chk (n_in (by omega) (by omega)) ?_
      rw [n_cl (p := v + 1) (by omega), n_cl (p := x + 1) (by omega), v1, x1, n_add (by omega)]
      exact Tm_ite (fun _ => b17 N) (fun w => absurd ((n_lt (by omega) (by omega)).mpr (by omega)) w)
    | succ q ih =>
      intro i N hi hi2 n1 n2 n5
      refine Tm_suc (fun k => by rw [x_isIn]) ?_
      rw [n1, n2, n5, show nI v + 1 = nI (v + 1) from n_add1 v, show nI x + 1 = nI (x + 1) from n_add1 x]
      refine Tm_chk (n_in (by omega) (by omega)) ?_
      refine Tm_chk (n_in (by omega) (by omega)) ?_
      rw [n_cl (p := v + 1) (by omega), n_cl (p := x + 1) (by omega), v1, x1, n_add (by omega)]
      refine Tm_ite (fun _ => b17 N) (fun w => ?_)
      have hle : i + n ≤ m := by
        by_cases e : m < i + n
        · exact absurd ((n_lt (by omega) (by omega)).mpr e) w
        · omega
      refine Tm_ite (fun _ => ?_) (fun _ => b17 N)
      have b16 : ∀ (M : Nat → Int32), M 1 = nI x → M 2 = nI v → M 5 = nI i → Tm (fun k => x_isIn k 16 M σ) (fun r => r.2 = σ ∧ (r.1 = 1 ∨ r.1 = 2)) := fun M m1 m2 m5 => by
        refine Tm_suc (fun k => by rw [x_isIn]) ?_
        exact ih (i + 1) _ (by omega) (by omega) m1 m2 (by show M 5 + 1 = _; rw [m5, n_add1])
      have b13 : ∀ (p j : Nat) (M : Nat → Int32), p + j = n → M 1 = nI x → M 2 = nI v → M 5 = nI i → M 7 = nI j → Tm (fun k => x_isIn k 13 M σ) (fun r => r.2 = σ ∧ (r.1 = 1 ∨ r.1 = 2)) := by
        intro p
        induction p with
        | zero =>
          intro j M hj m1 m2 m5 m7
          refine Tm_suc (fun k => by rw [x_isIn]) ?_
          rw [m1, m7, show nI x + 1 = nI (x + 1) from n_add1 x]
          refine Tm_chk (n_in (by omega) (by omega)) ?_
          rw [n_cl (p := x + 1) (by omega), x1]
          exact Tm_ite (fun _ => b16 M m1 m2 m5) (fun w => absurd ((n_le (by omega) (by omega)).mpr (by omega)) w)
        | succ p ihp =>
          intro j M hj m1 m2 m5 m7
          refine Tm_suc (fun k => by rw [x_isIn]) ?_
          rw [m1, m7, m2, m5, show nI x + 1 = nI (x + 1) from n_add1 x, show nI v + 4 = nI (v + 4) from n_add (q := 4) (by omega), show nI x + 4 = nI (x + 4) from n_add (q := 4) (by omega), n_add (p := v + 4) (by omega), n_add (p := v + 4 + i) (by omega), n_add (p := x + 4) (by omega)]
          refine Tm_chk (n_in (by omega) (by omega)) ?_
          rw [n_cl (p := x + 1) (by omega), x1]
          refine Tm_ite (fun _ => b16 M m1 m2 m5) (fun _ => ?_)
          refine Tm_ite (fun _ => b16 M m1 m2 m5) (fun _ => ?_)
          refine Tm_chk (n_in (by omega) (by omega)) ?_
          refine Tm_chk (n_in (by omega) (by omega)) ?_
          have b15 : ∀ (O : Nat → Int32), O 1 = nI x → O 2 = nI v → O 5 = nI i → O 7 = nI j → Tm (fun k => x_isIn k 15 O σ) (fun r => r.2 = σ ∧ (r.1 = 1 ∨ r.1 = 2)) := fun O o1 o2 o5 o7 => by
            refine Tm_suc (fun k => by rw [x_isIn]) ?_
            exact ihp (j + 1) _ (by omega) o1 o2 o5 (by show O 7 + 1 = _; rw [o7, n_add1])
          refine Tm_ite (fun _ => b15 _ m1 m2 m5 m7) (fun _ => ?_)
          refine Tm_suc (fun k => by rw [x_isIn]) ?_
          exact b15 _ m1 m2 m5 m7
      exact b13 n 0 _ (by omega) n1 n2 n5 rfl
  intro N n1 n2 n5
  exact b12 (m + 1) 0 N (by omega) (by omega) n1 n2 n5
theorem s_isIn (hP : VP g l B h t σ) {v x : Nat} (hv : v < 3 ∨ g v) (hx : x < 3 ∨ g x) {L : Nat → Int32} (h1 : L 1 = nI x) (h2 : L 2 = nI v) : Tm (fun k => x_isIn k 0 L σ) (VO g B h t σ) := by
  have hS := hP.1
  have hb := HS_b hS
  have hB := hS.2.1
  have kv := kdN_6 hS hv
  have kx := kdN_6 hS hx
  have fin : ∀ r : Int32 × MS, r.2 = σ ∧ (r.1 = 1 ∨ r.1 = 2) → VO g B h t σ r := fun r hr => by
    obtain ⟨r1, r2⟩ := r
    obtain ⟨e, f⟩ := hr
    have e : r2 = σ := e
    subst e
    exact VO_id hP (Vd_12 f)
  have b10 : ∀ N : Nat → Int32, Tm (fun k => x_isIn k 10 N σ) (VO g B h t σ) := fun N => by
    refine Tm_suc (fun k => by rw [x_isIn]) ?_
    refine Tm_ob (s_wrongKind _) (fun r hr => ?_)
    rw [hr]
    exact Tm_some (VO_er hP (e := 1) (by decide))
  have b2 : ∀ N : Nat → Int32, Tm (fun k => x_isIn k 2 N σ) (VO g B h t σ) := fun N => by
    refine Tm_suc (fun k => by rw [x_isIn]) ?_
    exact Tm_ob (s_truth _) (fun r hr => Tm_some (fin r hr))
  have b1 : ∀ N : Nat → Int32, Tm (fun k => x_isIn k 1 N σ) (VO g B h t σ) := fun N => by
    refine Tm_suc (fun k => by rw [x_isIn]) ?_
    exact b2 _
  have b8 : ∀ N : Nat → Int32, Tm (fun k => x_isIn k 8 N σ) (VO g B h t σ) := fun N => by
    refine Tm_suc (fun k => by rw [x_isIn]) ?_
    exact Tm_ob (s_truth _) (fun r hr => Tm_some (fin r hr))
  refine Tm_suc (fun k => by rw [x_isIn]) ?_
  refine Tm_ob (s_kind hS hv (by exact h2)) (fun r hr => ?_)
  rw [hr]
  refine Tm_ite (fun w => ?_) (fun w => ?_)
  · have w := (n_eq (q := 6) (by omega) (by decide)).mp w
    refine Tm_ite (fun _ => b1 _) (fun _ => ?_)
    refine Tm_ob (s_has hS (kdN_ge hS hv (by omega)) (by omega) hx (by exact h2) (by exact h1)) (fun r hr => ?_)
    rw [hr.1]
    exact Tm_ite (fun _ => b1 _) (fun _ => b2 _)
  refine Tm_suc (fun k => by rw [x_isIn]) ?_
  show Tm (fun k => if nI (kdN (σ.2.2 28) v) = 5 then x_isIn k 4 (upd (upd (upd L 3 (nI (kdN (σ.2.2 28) v))) 4 0) 5 0) σ else x_isIn k 9 (upd L 3 (nI (kdN (σ.2.2 28) v))) σ) _
  refine Tm_ite (fun w => ?_) (fun w => ?_)
  · have w := (n_eq (q := 5) (by omega) (by decide)).mp w
    obtain ⟨n, v1, v2, v3, v4, v5, v6, v7⟩ := ob_at hS (kdN_ge hS hv (by omega))
    have v7 := v7 (by omega)
    have b4 : ∀ (q i : Nat) (N : Nat → Int32), q + i = n → N 1 = nI x → N 2 = nI v → N 5 = nI i → Tm (fun k => x_isIn k 4 N σ) (VO g B h t σ) := by
      intro q
      induction q with
      | zero =>
        intro i N hi n1 n2 n5
        refine Tm_suc (fun k => by rw [x_isIn]) ?_
        rw [n2, n5, show nI v + 1 = nI (v + 1) from n_add1 v]
        refine Tm_chk (n_in (by omega) (by omega)) ?_
        rw [n_cl (p := v + 1) (by omega), v1]
        exact Tm_ite (fun _ => b8 N) (fun w => absurd ((n_le (by omega) (by omega)).mpr (by omega)) w)
      | succ q ih =>
        intro i N hi n1 n2 n5
        have b7 : ∀ M : Nat → Int32, M 1 = nI x → M 2 = nI v → M 5 = nI i → Tm (fun k => x_isIn k 7 M σ) (VO g B h t σ) := fun M m1 m2 m5 => by
          refine Tm_suc (fun k => by rw [x_isIn]) ?_
          exact ih (i + 1) _ (by omega) m1 m2 (by show M 5 + 1 = _; rw [m5, n_add1])
        have b5 : Tm (fun k => x_isIn k 5 N σ) (VO g B h t σ) := by
          refine Tm_suc (fun k => by rw [x_isIn]) ?_
          exact b7 _ n1 n2 n5
        have b6 : Tm (fun k => x_isIn k 6 N σ) (VO g B h t σ) := by
          refine Tm_suc (fun k => by rw [x_isIn]) ?_
          exact b7 _ n1 n2 n5
        refine Tm_suc (fun k => by rw [x_isIn]) ?_
        rw [n2, n5, show nI v + 1 = nI (v + 1) from n_add1 v, show nI v + 4 = nI (v + 4) from n_add (q := 4) (by omega), n_add (by omega)]
        refine Tm_chk (n_in (by omega) (by omega)) ?_
        rw [n_cl (p := v + 1) (by omega), v1]
        refine Tm_ite (fun _ => b8 N) (fun _ => ?_)
        refine Tm_ite (fun _ => b8 N) (fun _ => ?_)
        refine Tm_ite (fun _ => ?_) (fun _ => b5)
        refine Tm_chk (n_in (by omega) (by omega)) ?_
        obtain ⟨y, y1, y2⟩ := v7 i (by omega)
        rw [n_cl (p := v + 4 + i) (by omega), y1]
        refine Tm_ob (s_compareV hS y2 hx rfl (by exact n1)) (fun r hr => ?_)
        rw [hr]
        exact Tm_ite (fun _ => b5) (fun _ => b6)
    exact b4 n 0 _ (by omega) h1 h2 rfl
  refine Tm_suc (fun k => by rw [x_isIn]) ?_
  show Tm (fun k => if nI (kdN (σ.2.2 28) v) = 4 then ob (x_kind k 0 (upd (fun _ => 0) 1 (L 1)) σ) (fun r2 => if r2.1 = 4 then (x_isIn k 11 (upd L 3 (nI (kdN (σ.2.2 28) v))) r2.2) else (x_isIn k 10 (upd L 3 (nI (kdN (σ.2.2 28) v))) r2.2)) else x_isIn k 10 (upd L 3 (nI (kdN (σ.2.2 28) v))) σ) _
  refine Tm_ite (fun w => ?_) (fun _ => b10 _)
  have w := (n_eq (q := 4) (by omega) (by decide)).mp w
  refine Tm_ob (s_kind hS hx (by exact h1)) (fun r hr => ?_)
  rw [hr]
  refine Tm_ite (fun w2 => ?_) (fun _ => b10 _)
  have w2 := (n_eq (q := 4) (by omega) (by decide)).mp w2
  refine Tm_suc (fun k => by rw [x_isIn]) ?_
  exact Tm_mono (s_isIn12 hS (kdN_ge hS hv (by omega)) (kdN_ge hS hx (by omega)) _ h1 h2 rfl) (fun r hr => fin r hr)
end ISI

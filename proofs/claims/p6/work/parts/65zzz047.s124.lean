/-! Reversed, drawn (reference). -/
section REV
variable {g : Nat → Prop} {l : List Nat} {B h t : Nat} {σ : MS}
theorem smS_ge {H : Nat → Int32} {v : Nat} : ∀ n, (∀ i, i < n → 1 ≤ szN H (H (v + 4 + i)).toNatClampNeg) → n ≤ smS H v n
  | 0, _ => Nat.zero_le _
  | n + 1, hh => by
    have a := smS_ge n (fun i hi => hh i (by omega))
    have b := hh n (by omega)
    have e : smS H v (n + 1) = smS H v n + szN H (H (v + 4 + n)).toNatClampNeg := rfl
    omega
/-- tuples and sets have at most 999 members -/
theorem ob_n (hS : HS g l B h σ) {v n : Nat} (hv : g v) (hk : 5 ≤ kdN (σ.2.2 28) v) (hn : σ.2.2 28 (v + 1) = nI n) (hn2 : n ≤ 3996) : n ≤ 999 := by
  obtain ⟨k, m, s, u, ⟨g1, g2, g3, g4, g5, g6, g7, g8, g9, g10, g11, g12⟩, hv1, hv2⟩ := HS_at hS hv
  have hb := HS_b hS
  have e : kdN (σ.2.2 28) v = k := by
    unfold kdN
    rw [if_neg (by omega), if_neg (by omega), g1, n_cl (by omega)]
  have em : m = n := (n_eq (by omega) (by omega)).mp (g2.symm.trans hn)
  subst em
  obtain ⟨q1, q2⟩ := g12 (by omega)
  have := smS_ge (H := σ.2.2 28) (v := v) m (fun i hi => by
    obtain ⟨w, w1, w2, _⟩ := q2 i hi
    have hw := HS_vb hS w2
    rw [w1, n_cl (by omega)]
    exact (szN_b hS w2).1)
  omega
theorem s_reversed (hP : VP g l B h t σ) {v : Nat} (hv : v < 3 ∨ g v) {L : Nat → Int32} (h1 : L 1 = nI v) : Tm (fun k => x_reversed k 0 L σ) (VO g B h t σ) := by
  have hS := hP.1
  have hb := HS_b hS
  have hB := hS.2.1
  have ht := hP.2.2.1
  have kv := kdN_6 hS hv
  refine Tm_suc (fun k => by rw [x_reversed]) ?_
  refine Tm_ob (s_kind hS hv (by exact h1)) (fun r hr => ?_)
  rw [hr]
  have b1 : (kdN (σ.2.2 28) v = 4 ∨ kdN (σ.2.2 28) v = 5) → ∀ N : Nat → Int32, N 1 = nI v → N 2 = nI (kdN (σ.2.2 28) v) → Tm (fun k => x_reversed k 1 N σ) (VO g B h t σ) := by
    intro hk N n1 n2
    obtain ⟨n, v1, v2, v3, v4, v5, v6, v7⟩ := ob_at hS (kdN_ge hS hv (by omega))
    refine Tm_suc (fun k => by rw [x_reversed]) ?_
    rw [n1, n2, show nI v + 1 = nI (v + 1) from n_add1 v]
    refine Tm_chk (n_in (by omega) (by omega)) ?_
    rw [n_cl (p := v + 1) (by omega), v1]
    refine Tm_ite (fun _ => ?_) (fun z => ?_)
    · have l2 : ∀ (q i : Nat) (N : Nat → Int32) (τ : MS), q + i = n → N 1 = nI v → N 3 = nI n → N 4 = nI i → BF σ τ → Tm (fun k => x_reversed k 2 N τ) (VO g B h t σ) := by
        intro q
        induction q with
        | zero =>
          intro i N τ hi n1 n3 n4 hF
          refine Tm_suc (fun k => by rw [x_reversed]) ?_
          rw [n3, n4]
          refine Tm_ite (fun _ => ?_) (fun w => absurd ((n_le (by omega) (by omega)).mpr (by omega)) w)
          refine Tm_suc (fun k => by rw [x_reversed]) ?_
          exact Tm_ob (s_stringOf51 (BF_VP hF hP) (f := 0) (n := n) (by omega) (fun _ => by omega) rfl (by exact n3)) (fun r hr => Tm_some (BF_VO hF hP hr))
        | succ q ih =>
          intro i N τ hi n1 n3 n4 hF
          refine Tm_suc (fun k => by rw [x_reversed]) ?_
          rw [n3, n4, n1, show nI v + 4 = nI (v + 4) from n_add (q := 4) (by omega), n_add (by omega), show nI (v + 4 + n) - 1 = nI (v + 4 + n - 1) from n_sub (p := v + 4 + n) (q := 1) (by omega) (by omega), n_sub (by omega) (by omega)]
          refine Tm_ite (fun w => absurd ((n_le (by omega) (by omega)).mp w) (by omega)) (fun _ => ?_)
          refine Tm_chk (n_in (by omega) (by omega)) ?_
          refine Tm_chk (n_in (by omega) (by omega)) ?_
          rw [n_cl (p := i) (by omega)]
          show Tm (fun k => x_reversed k 3 N (mAr τ 51 i (τ.2.2 28 (nI (v + 4 + n - 1 - i)).toNatClampNeg))) _
          refine Tm_suc (fun k => by rw [x_reversed]) ?_
          exact ih (i + 1) _ _ (by omega) n1 n3 (by show N 4 + 1 = _; rw [n4, n_add1]) (BF_51 hF)
      exact l2 n 0 _ _ (by omega) n1 rfl rfl BF_rf
    · have hk5 : 5 ≤ kdN (σ.2.2 28) v := by
        rcases hk with e | e
        · exact absurd (by rw [e]; rfl) z
        · omega
      have v7 := v7 hk5
      have l6 : ∀ (b p : Nat) (N : Nat → Int32) (τ : MS), b + p = n → N 1 = nI v → N 4 = nI t → N 5 = nI b - 1 → PuS g t p σ τ → Tm (fun k => x_reversed k 6 N τ) (VO g B h t σ) := by
        intro b
        induction b with
        | zero =>
          intro p N τ hp n1 n4 n5 hU
          refine Tm_suc (fun k => by rw [x_reversed]) ?_
          rw [n5]
          refine Tm_ite (fun _ => ?_) (fun w => absurd (by decide) w)
          refine Tm_suc (fun k => by rw [x_reversed]) ?_
          exact Tm_ob (PuS_tup hU hS hP.2.2.2 (by omega) (by exact n4)) (fun r hr => Tm_some hr)
        | succ b ih =>
          intro p N τ hp n1 n4 n5 hU
          obtain ⟨m, m1, m2⟩ := v7 b (by omega)
          have n5 : N 5 = nI b := by rw [n5]; exact n_sub (p := b + 1) (q := 1) (by omega) (by omega)
          refine Tm_suc (fun k => by rw [x_reversed]) ?_
          rw [n5, n1, show nI v + 4 = nI (v + 4) from n_add (q := 4) (by omega), n_add (by omega)]
          refine Tm_ite (fun w => absurd ((n_lt (q := 0) (by omega) (by decide)).mp w) (by omega)) (fun _ => ?_)
          refine Tm_chk (n_in (by omega) (by omega)) ?_
          rw [n_cl (p := v + 4 + b) (by omega), hU.2.1 28 (by decide), m1]
          refine Tm_ob (PuS_push hU (by omega) m2 rfl) (fun r hr => ih (p + 1) _ _ (by omega) n1 n4 ?_ hr)
          show nI b + (-1) = nI b - 1
          rw [Int32.sub_eq_add_neg]
      refine Tm_suc (fun k => by rw [x_reversed]) ?_
      rw [hP.2.1]
      exact l6 n 0 _ _ (by omega) n1 rfl rfl (PuS_0 hP.2.1)
  refine Tm_ite (fun w => b1 (Or.inl ((n_eq (q := 4) (by omega) (by decide)).mp w)) _ h1 rfl) (fun _ => ?_)
  refine Tm_ite (fun w => b1 (Or.inr ((n_eq (q := 5) (by omega) (by decide)).mp w)) _ h1 rfl) (fun _ => ?_)
  exact Tm_ob (s_wrongKind _) (fun r hr => Tm_some (VO_wk hP hr))
theorem s_drawn (hP : VP g l B h t σ) {v : Nat} (hv : v < 3 ∨ g v) {L : Nat → Int32} (h1 : L 1 = nI v) : Tm (fun k => x_drawn k 0 L σ) (VO g B h t σ) := by
  have hS := hP.1
  have hb := HS_b hS
  have hB := hS.2.1
  have kv := kdN_6 hS hv
  -- from a whole
  have b8 : ∀ (n : Nat) (N : Nat → Int32), 1 ≤ n → n < 2147483648 → N 100 = nI n → Tm (fun k => x_drawn k 8 N σ) (VO g B h t σ) := fun n N hn1 hn2 n100 => by
    refine Tm_suc (fun k => by rw [x_drawn]) ?_
    refine Tm_ob (s_draw hn1 hn2 (by exact n100)) (fun r hr => ?_)
    obtain ⟨⟨w, hw⟩, _⟩ := hr
    rw [hw]
    exact Tm_ob (s_small (W_VP hP) _) (fun s hs => Tm_some (W_VO hP hs))
  have b5 : ∀ N : Nat → Int32, Tm (fun k => x_drawn k 5 N σ) (VO g B h t σ) := fun N => by
    refine Tm_suc (fun k => by rw [x_drawn]) ?_
    refine Tm_ob (s_fail _ σ) (fun r hr => ?_)
    rw [hr]
    exact Tm_some (VO_er hP (e := 4) (by decide))
  have b6 : ∀ (n : Nat) (N : Nat → Int32), 1 ≤ n → n < 2147483648 → N 3 = nI n → Tm (fun k => x_drawn k 6 N σ) (VO g B h t σ) := fun n N hn1 hn2 n3 => by
    refine Tm_suc (fun k => by rw [x_drawn]) ?_
    refine Tm_ite (fun _ => ?_) (fun _ => b8 2147483647 _ (by decide) (by decide) rfl)
    refine Tm_suc (fun k => by rw [x_drawn]) ?_
    exact b8 n _ hn1 hn2 n3
  have b4 : ∀ N : Nat → Int32, Tm (fun k => x_drawn k 4 N σ) (VO g B h t σ) := fun N => by
    refine Tm_suc (fun k => by rw [x_drawn]) ?_
    refine Tm_ite (fun _ => b5 _) (fun w => ?_)
    have e1 : (1 : Int32).toInt = 1 := rfl
    rw [i_lt, e1] at w
    have hlt : (N 3).toInt < 2147483648 := by
      have := Int32.toInt_lt (N 3)
      omega
    have hN : N 3 = nI (N 3).toInt.toNat := by
      rw [i_eq, n_int (by omega)]; omega
    have q1 : 1 ≤ (N 3).toInt.toNat := by omega
    have q2 : (N 3).toInt.toNat < 2147483648 := by omega
    refine Tm_ite (fun _ => Tm_ite (fun _ => b5 _) (fun _ => b6 _ _ q1 q2 ?_)) (fun _ => b6 _ _ q1 q2 ?_)
    · exact hN
    · exact hN
  have b3 : ∀ N : Nat → Int32, Tm (fun k => x_drawn k 3 N σ) (VO g B h t σ) := fun N => by
    refine Tm_suc (fun k => by rw [x_drawn]) ?_
    exact b4 _
  have b2 : (kdN (σ.2.2 28) v = 2) → ∀ N : Nat → Int32, N 1 = nI v → Tm (fun k => x_drawn k 2 N σ) (VO g B h t σ) := fun hk N n1 => by
    obtain ⟨n, v1, v2, v3, v4, v5, v6, v7⟩ := ob_at hS (kdN_ge hS hv (by omega))
    refine Tm_suc (fun k => by rw [x_drawn]) ?_
    rw [n1, show nI v + 1 = nI (v + 1) from n_add1 v, show nI v + 5 = nI (v + 5) from n_add (q := 5) (by omega), show nI v + 6 = nI (v + 6) from n_add (q := 6) (by omega)]
    refine Tm_chk (n_in (by omega) (by omega)) ?_
    rw [n_cl (p := v + 1) (by omega), v1]
    refine Tm_ite (fun z => ?_) (fun _ => b3 _)
    have z := (n_eq (q := 3) (by omega) (by decide)).mp z
    refine Tm_ob (s_signOf hS (m := v) (by omega) rfl) (fun r hr => ?_)
    rw [hr]
    refine Tm_ite (fun _ => b3 _) (fun _ => ?_)
    refine Tm_chk (n_in (by omega) (by omega)) ?_
    refine Tm_ite (fun _ => ?_) (fun _ => b3 _)
    refine Tm_chk (n_in (by omega) (by omega)) ?_
    exact Tm_ite (fun _ => b4 _) (fun _ => b3 _)
  refine Tm_suc (fun k => by rw [x_drawn]) ?_
  refine Tm_ob (s_kind hS hv (by exact h1)) (fun r hr => ?_)
  rw [hr]
  refine Tm_ite (fun w => ?_) (fun _ => ?_)
  · have w := (n_eq (q := 2) (by omega) (by decide)).mp w
    obtain ⟨n, v1, v2, v3, v4, v5, v6, v7⟩ := ob_at hS (kdN_ge hS hv (by omega))
    obtain ⟨m, hm⟩ := Wh_of hS hv w
    rw [h1, show nI v + 1 = nI (v + 1) from n_add1 v]
    refine Tm_chk (n_in (by omega) (by omega)) ?_
    refine Tm_ite (fun _ => ?_) (fun _ => b2 w _ h1)
    refine Tm_suc (fun k => by rw [x_drawn]) ?_
    refine Tm_ob (s_intOf hS hm (b := 2147483646) (by decide) (by exact h1) rfl) (fun r hr => ?_)
    rw [hr.1]
    exact b2 w _ h1
  have b12 : ∀ (N : Nat → Int32) (r : Int32 × MS), N 100 = r.1 → VO g B h t σ r → Tm (fun k => x_drawn k 12 N r.2) (VO g B h t σ) := fun N r hN hr => by
    refine Tm_suc (fun k => by rw [x_drawn]) ?_
    rw [hN]; exact Tm_some hr
  refine Tm_suc (fun k => by rw [x_drawn]) ?_
  show Tm (fun k => if 4 ≤ nI (kdN (σ.2.2 28) v) then x_drawn k 10 (upd L 2 (nI (kdN (σ.2.2 28) v))) σ else ob (x_wrongKind k 0 (fun _ => 0) σ) (fun r2 => some (r2.1, r2.2))) _
  refine Tm_ite (fun w => ?_) (fun _ => Tm_ob (s_wrongKind _) (fun r hr => Tm_some (VO_wk hP hr)))
  have w := (n_le (p := 4) (by decide) (by omega)).mp w
  have gv := kdN_ge hS hv (by omega)
  obtain ⟨n, v1, v2, v3, v4, v5, v6, v7⟩ := ob_at hS gv
  have m1 : upd L 2 (nI (kdN (σ.2.2 28) v)) 1 = nI v := h1
  generalize upd L 2 (nI (kdN (σ.2.2 28) v)) = M at m1
  refine Tm_suc (fun k => by rw [x_drawn]) ?_
  rw [m1, show nI v + 1 = nI (v + 1) from n_add1 v]
  refine Tm_chk (n_in (by omega) (by omega)) ?_
  rw [n_cl (p := v + 1) (by omega), v1]
  refine Tm_ite (fun _ => b12 _ (0, σ) rfl (VO_id hP Vd_0)) (fun z => ?_)
  have hn0 : 1 ≤ n := by
    by_cases e : n = 0
    · exact absurd (by rw [e]; rfl) z
    · omega
  refine Tm_suc (fun k => by rw [x_drawn]) ?_
  rw [m1, show nI v + 1 = nI (v + 1) from n_add1 v]
  refine Tm_chk (n_in (by omega) (by omega)) ?_
  rw [n_cl (p := v + 1) (by omega), v1]
  refine Tm_ob (s_draw hn0 (by omega) rfl) (fun r hr => ?_)
  obtain ⟨⟨u, hu⟩, i, i1, i2⟩ := hr
  rw [hu, i2]
  exact Tm_ob (s_memberAt (W_VP (w := u) hP) gv w (by exact v1) i1 v2 rfl rfl) (fun s hs => b12 _ s rfl (W_VO (w := u) hP hs))
end REV

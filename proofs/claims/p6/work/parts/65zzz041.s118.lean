/-! Operate (reference). -/
section OPE
variable {g : Nat → Prop} {l : List Nat} {B h t : Nat} {σ : MS}
theorem VO_tru (hP : VP g l B h t σ) {r : Int32 × MS} (hr : r.2 = σ ∧ (r.1 = 1 ∨ r.1 = 2)) : VO g B h t σ r := by
  obtain ⟨r1, r2⟩ := r
  obtain ⟨e, f⟩ := hr
  have e : r2 = σ := e
  subst e
  exact VO_id hP (Vd_12 f)
theorem VO_wk (hP : VP g l B h t σ) {r : Int32 × MS} (hr : r = (0, mEr σ (nI 1))) : VO g B h t σ r := by
  rw [hr]; exact VO_er hP (e := 1) (by decide)
/-- truth of what is at the end of an operation -/
theorem VO_tru2 {r s : Int32 × MS} (hr : VO g B h t σ r) (hs : s.2 = r.2 ∧ (s.1 = 1 ∨ s.1 = 2)) : VO g B h t σ s := by
  obtain ⟨g', l', h', a1, a2, a3, a4, a5, a6⟩ := hr
  obtain ⟨e, f⟩ := hs
  refine ⟨g', l', h', ?_, ?_, ?_, ?_, ?_, Vd_12 f⟩
  · rw [e]; exact a1
  · rw [e]; exact a2
  · rw [e]; exact a3
  · rw [e]; exact a4
  · rw [e]; exact a5
theorem s_operate (hP : VP g l B h t σ) {v x : Nat} (hv : v < 3 ∨ g v) (hx : x < 3 ∨ g x) {L : Nat → Int32} (h2 : L 2 = nI v) (h3 : L 3 = nI x) : Tm (fun k => x_operate k 0 L σ) (VO g B h t σ) := by
  have hS := hP.1
  have kv := kdN_6 hS hv
  have kx := kdN_6 hS hx
  -- what the head brings
  have body : ∀ N : Nat → Int32, N 2 = nI v → N 3 = nI x → N 4 = nI (kdN (σ.2.2 28) v) → N 5 = nI (kdN (σ.2.2 28) x) → (¬ N 100 = 0 → kdN (σ.2.2 28) v = 2 ∧ kdN (σ.2.2 28) x = 2) → Tm (fun k => x_operate k 2 N σ) (VO g B h t σ) := by
    intro N n2 n3 n4 n5 n6
    -- ends
    have e7 : ∀ (M : Nat → Int32) (r : Int32 × MS), M 100 = r.1 → VO g B h t σ r → Tm (fun k => x_operate k 7 M r.2) (VO g B h t σ) := fun M r hM hr => by
      refine Tm_suc (fun k => by rw [x_operate]) ?_
      rw [hM]; exact Tm_some hr
    have e13 : ∀ (M : Nat → Int32) (r : Int32 × MS), M 100 = r.1 → VO g B h t σ r → Tm (fun k => x_operate k 13 M r.2) (VO g B h t σ) := fun M r hM hr => by
      refine Tm_suc (fun k => by rw [x_operate]) ?_
      rw [hM]; exact Tm_some hr
    have e16 : ∀ (M : Nat → Int32) (r : Int32 × MS), M 100 = r.1 → VO g B h t σ r → Tm (fun k => x_operate k 16 M r.2) (VO g B h t σ) := fun M r hM hr => by
      refine Tm_suc (fun k => by rw [x_operate]) ?_
      rw [hM]; exact Tm_some hr
    have e25 : ∀ (M : Nat → Int32) (r : Int32 × MS), M 100 = r.1 → VO g B h t σ r → Tm (fun k => x_operate k 25 M r.2) (VO g B h t σ) := fun M r hM hr => by
      refine Tm_suc (fun k => by rw [x_operate]) ?_
      rw [hM]; exact Tm_some hr
    have e28 : ∀ (M : Nat → Int32) (r : Int32 × MS), M 100 = r.1 → VO g B h t σ r → Tm (fun k => x_operate k 28 M r.2) (VO g B h t σ) := fun M r hM hr => by
      refine Tm_suc (fun k => by rw [x_operate]) ?_
      rw [hM]; exact Tm_some hr
    have e35 : ∀ (M : Nat → Int32) (r : Int32 × MS), M 100 = r.1 → VO g B h t σ r → Tm (fun k => x_operate k 35 M r.2) (VO g B h t σ) := fun M r hM hr => by
      refine Tm_suc (fun k => by rw [x_operate]) ?_
      rw [hM]; exact Tm_some hr
    have wh : kdN (σ.2.2 28) v = 2 ∧ kdN (σ.2.2 28) x = 2 → (∃ n, Wh σ v n) ∧ ∃ m, Wh σ x m := fun z => ⟨Wh_of hS hv z.1, Wh_of hS hx z.2⟩
    refine Tm_suc (fun k => by rw [x_operate]) ?_
    have m2 : upd N 6 (N 100) 2 = nI v := n2
    have m3 : upd N 6 (N 100) 3 = nI x := n3
    have m4 : upd N 6 (N 100) 4 = nI (kdN (σ.2.2 28) v) := n4
    have m5 : upd N 6 (N 100) 5 = nI (kdN (σ.2.2 28) x) := n5
    have m6 : ¬ upd N 6 (N 100) 6 = 0 → kdN (σ.2.2 28) v = 2 ∧ kdN (σ.2.2 28) x = 2 := n6
    generalize upd N 6 (N 100) = M at m2 m3 m4 m5 m6
    -- +
    refine Tm_ite (fun _ => ?_) (fun _ => ?_)
    · refine Tm_suc (fun k => by rw [x_operate]) ?_
      exact Tm_ob (s_plus hP hv hx (by exact m2) (by exact m3)) (fun r hr => Tm_some hr)
    -- -
    refine Tm_ite (fun _ => ?_) (fun _ => ?_)
    · refine Tm_suc (fun k => by rw [x_operate]) ?_
      refine Tm_ite (fun _ => ?_) (fun z => ?_)
      · have b6 : Tm (fun k => x_operate k 6 M σ) (VO g B h t σ) := by
          refine Tm_suc (fun k => by rw [x_operate]) ?_
          exact Tm_ob (s_wrongKind _) (fun r hr => e7 _ r rfl (VO_wk hP hr))
        refine Tm_suc (fun k => by rw [x_operate]) ?_
        rw [m4, m5]
        refine Tm_ite (fun z1 => ?_) (fun _ => b6)
        refine Tm_ite (fun z2 => ?_) (fun _ => b6)
        have z1 := (n_eq (q := 6) (by omega) (by decide)).mp z1
        have z2 := (n_eq (q := 6) (by omega) (by decide)).mp z2
        exact Tm_ob (s_sift hP (kdN_ge hS hv (by omega)) (by omega) (kdN_ge hS hx (by omega)) (by omega) (by exact m2) (by exact m3)) (fun r hr => e7 _ r rfl hr)
      · obtain ⟨⟨n, hn⟩, m, hm⟩ := wh (m6 z)
        exact Tm_ob (s_add hP hn hm (by exact m2) (by exact m3) (Or.inr rfl)) (fun r hr => Tm_some hr)
    -- *
    refine Tm_ite (fun _ => ?_) (fun _ => ?_)
    · refine Tm_suc (fun k => by rw [x_operate]) ?_
      refine Tm_ite (fun _ => ?_) (fun z => ?_)
      · have b12 : Tm (fun k => x_operate k 12 M σ) (VO g B h t σ) := by
          refine Tm_suc (fun k => by rw [x_operate]) ?_
          exact Tm_ob (s_wrongKind _) (fun r hr => e13 _ r rfl (VO_wk hP hr))
        have b11 : (kdN (σ.2.2 28) v = 4 ∨ kdN (σ.2.2 28) v = 5) → Tm (fun k => x_operate k 11 M σ) (VO g B h t σ) := fun hk => by
          refine Tm_suc (fun k => by rw [x_operate]) ?_
          rw [m5]
          refine Tm_ite (fun z2 => ?_) (fun _ => b12)
          have z2 := (n_eq (q := 2) (by omega) (by decide)).mp z2
          exact Tm_ob (s_repeat hP (kdN_ge hS hv (by omega)) hk (kdN_ge hS hx (by omega)) z2 (by exact m2) (by exact m3)) (fun r hr => e13 _ r rfl hr)
        have b10 : Tm (fun k => x_operate k 10 M σ) (VO g B h t σ) := by
          refine Tm_suc (fun k => by rw [x_operate]) ?_
          rw [m4]
          refine Tm_ite (fun z2 => b11 (Or.inl ((n_eq (q := 4) (by omega) (by decide)).mp z2))) (fun _ => ?_)
          exact Tm_ite (fun z2 => b11 (Or.inr ((n_eq (q := 5) (by omega) (by decide)).mp z2))) (fun _ => b12)
        refine Tm_suc (fun k => by rw [x_operate]) ?_
        rw [m4, m5]
        refine Tm_ite (fun z1 => ?_) (fun _ => b10)
        refine Tm_ite (fun z2 => ?_) (fun _ => b10)
        have z1 := (n_eq (q := 6) (by omega) (by decide)).mp z1
        have z2 := (n_eq (q := 6) (by omega) (by decide)).mp z2
        exact Tm_ob (s_sift hP (kdN_ge hS hv (by omega)) (by omega) (kdN_ge hS hx (by omega)) (by omega) (by exact m2) (by exact m3)) (fun r hr => Tm_some hr)
      · obtain ⟨⟨n, hn⟩, m, hm⟩ := wh (m6 z)
        exact Tm_ob (s_multiply hP hn hm (by exact m2) (by exact m3)) (fun r hr => Tm_some hr)
    -- **
    refine Tm_ite (fun _ => ?_) (fun _ => ?_)
    · refine Tm_suc (fun k => by rw [x_operate]) ?_
      refine Tm_ite (fun _ => ?_) (fun z => ?_)
      · refine Tm_suc (fun k => by rw [x_operate]) ?_
        exact Tm_ob (s_wrongKind _) (fun r hr => e16 _ r rfl (VO_wk hP hr))
      · obtain ⟨⟨n, hn⟩, m, hm⟩ := wh (m6 z)
        exact Tm_ob (s_raise hP hv hn hm (by exact m2) (by exact m3)) (fun r hr => e16 _ r rfl hr)
    -- =
    refine Tm_ite (fun _ => ?_) (fun _ => ?_)
    · have b19 : ∀ M : Nat → Int32, Tm (fun k => x_operate k 19 M σ) (VO g B h t σ) := fun M => by
        refine Tm_suc (fun k => by rw [x_operate]) ?_
        exact Tm_ob (s_truth _) (fun r hr => Tm_some (VO_tru hP hr))
      refine Tm_suc (fun k => by rw [x_operate]) ?_
      refine Tm_ob (s_compareV hS hv hx (by exact m2) (by exact m3)) (fun r hr => ?_)
      rw [hr]
      refine Tm_ite (fun _ => b19 _) (fun _ => ?_)
      refine Tm_suc (fun k => by rw [x_operate]) ?_
      exact b19 _
    -- /=
    refine Tm_ite (fun _ => ?_) (fun _ => ?_)
    · have b22 : ∀ M : Nat → Int32, Tm (fun k => x_operate k 22 M σ) (VO g B h t σ) := fun M => by
        refine Tm_suc (fun k => by rw [x_operate]) ?_
        exact Tm_ob (s_truth _) (fun r hr => Tm_some (VO_tru hP hr))
      refine Tm_suc (fun k => by rw [x_operate]) ?_
      refine Tm_ob (s_compareV hS hv hx (by exact m2) (by exact m3)) (fun r hr => ?_)
      rw [hr]
      refine Tm_ite (fun _ => ?_) (fun _ => b22 _)
      refine Tm_suc (fun k => by rw [x_operate]) ?_
      exact b22 _
    -- in
    refine Tm_ite (fun _ => ?_) (fun _ => ?_)
    · refine Tm_suc (fun k => by rw [x_operate]) ?_
      exact Tm_ob (s_isIn hP hx hv (by exact m2) (by exact m3)) (fun r hr => Tm_some hr)
    -- notin
    refine Tm_ite (fun _ => ?_) (fun _ => ?_)
    · refine Tm_suc (fun k => by rw [x_operate]) ?_
      refine Tm_ob (s_isIn hP hx hv (by exact m2) (by exact m3)) (fun r hr => ?_)
      have b32 : ∀ M : Nat → Int32, Tm (fun k => x_operate k 32 M r.2) (VO g B h t σ) := fun M => by
        refine Tm_suc (fun k => by rw [x_operate]) ?_
        exact Tm_ob (s_truth _) (fun s hs => Tm_some (VO_tru2 hr hs))
      refine Tm_ite (fun _ => b32 _) (fun _ => ?_)
      refine Tm_suc (fun k => by rw [x_operate]) ?_
      exact b32 _
    -- subset
    refine Tm_ite (fun _ => ?_) (fun _ => ?_)
    · have b34 : Tm (fun k => x_operate k 34 M σ) (VO g B h t σ) := by
        refine Tm_suc (fun k => by rw [x_operate]) ?_
        exact Tm_ob (s_wrongKind _) (fun r hr => e35 _ r rfl (VO_wk hP hr))
      refine Tm_suc (fun k => by rw [x_operate]) ?_
      rw [m4, m5]
      refine Tm_ite (fun z1 => ?_) (fun _ => b34)
      refine Tm_ite (fun z2 => ?_) (fun _ => b34)
      have z1 := (n_eq (q := 6) (by omega) (by decide)).mp z1
      have z2 := (n_eq (q := 6) (by omega) (by decide)).mp z2
      refine Tm_ob (s_isSubset hS (kdN_ge hS hv (by omega)) (by omega) (kdN_ge hS hx (by omega)) (by omega) (by exact m2) (by exact m3)) (fun r hr => ?_)
      rw [hr.1]
      exact Tm_ob (s_truth _) (fun s hs => e35 _ s rfl (VO_tru hP hs))
    -- div
    refine Tm_ite (fun _ => ?_) (fun _ => ?_)
    · refine Tm_suc (fun k => by rw [x_operate]) ?_
      refine Tm_ite (fun _ => ?_) (fun z => ?_)
      · refine Tm_suc (fun k => by rw [x_operate]) ?_
        exact Tm_ob (s_wrongKind _) (fun r hr => e25 _ r rfl (VO_wk hP hr))
      · obtain ⟨⟨n, hn⟩, m, hm⟩ := wh (m6 z)
        exact Tm_ob (s_divide hP hn hm (by exact m2) (by exact m3)) (fun r hr => e25 _ r rfl hr)
    -- mod
    refine Tm_ite (fun _ => ?_) (fun _ => ?_)
    · refine Tm_suc (fun k => by rw [x_operate]) ?_
      refine Tm_ite (fun _ => ?_) (fun z => ?_)
      · refine Tm_suc (fun k => by rw [x_operate]) ?_
        exact Tm_ob (s_wrongKind _) (fun r hr => e28 _ r rfl (VO_wk hP hr))
      · obtain ⟨⟨n, hn⟩, m, hm⟩ := wh (m6 z)
        exact Tm_ob (s_divide hP hn hm (by exact m2) (by exact m3)) (fun r hr => e28 _ r rfl hr)
    -- less, more
    have b46 : ∀ M : Nat → Int32, Tm (fun k => x_operate k 46 M σ) (VO g B h t σ) := fun M => by
      refine Tm_suc (fun k => by rw [x_operate]) ?_
      exact Tm_ob (s_truth _) (fun r hr => Tm_some (VO_tru hP hr))
    have b45 : ∀ M : Nat → Int32, Tm (fun k => x_operate k 45 M σ) (VO g B h t σ) := fun M => by
      refine Tm_suc (fun k => by rw [x_operate]) ?_
      exact b46 _
    have b44 : ∀ M : Nat → Int32, Tm (fun k => x_operate k 44 M σ) (VO g B h t σ) := fun M => by
      refine Tm_suc (fun k => by rw [x_operate]) ?_
      exact Tm_ite (fun _ => b45 _) (fun _ => b46 _)
    have b43 : ∀ M : Nat → Int32, Tm (fun k => x_operate k 43 M σ) (VO g B h t σ) := fun M => by
      refine Tm_suc (fun k => by rw [x_operate]) ?_
      exact b46 _
    have b42 : ∀ M : Nat → Int32, Tm (fun k => x_operate k 42 M σ) (VO g B h t σ) := fun M => by
      refine Tm_suc (fun k => by rw [x_operate]) ?_
      exact Tm_ite (fun _ => Tm_ite (fun _ => b43 _) (fun _ => b46 _)) (fun _ => b44 _)
    have b41 : ∀ M : Nat → Int32, Tm (fun k => x_operate k 41 M σ) (VO g B h t σ) := fun M => by
      refine Tm_suc (fun k => by rw [x_operate]) ?_
      exact b46 _
    have b40 : ∀ M : Nat → Int32, Tm (fun k => x_operate k 40 M σ) (VO g B h t σ) := fun M => by
      refine Tm_suc (fun k => by rw [x_operate]) ?_
      exact Tm_ite (fun _ => Tm_ite (fun _ => b41 _) (fun _ => b46 _)) (fun _ => b42 _)
    have b39 : ∀ M : Nat → Int32, Tm (fun k => x_operate k 39 M σ) (VO g B h t σ) := fun M => by
      refine Tm_suc (fun k => by rw [x_operate]) ?_
      exact b46 _
    have b38 : Tm (fun k => x_operate k 38 M σ) (VO g B h t σ) := by
      refine Tm_suc (fun k => by rw [x_operate]) ?_
      refine Tm_ob (s_compareV hS hv hx (by exact m2) (by exact m3)) (fun r hr => ?_)
      rw [hr]
      exact Tm_ite (fun _ => Tm_ite (fun _ => b39 _) (fun _ => b46 _)) (fun _ => b40 _)
    have b37 : Tm (fun k => x_operate k 37 M σ) (VO g B h t σ) := by
      refine Tm_suc (fun k => by rw [x_operate]) ?_
      exact Tm_ob (s_wrongKind _) (fun r hr => Tm_some (VO_wk hP hr))
    refine Tm_suc (fun k => by rw [x_operate]) ?_
    exact Tm_ite (fun _ => Tm_ite (fun _ => Tm_ite (fun _ => b38) (fun _ => b37)) (fun _ => b37)) (fun _ => b38)
  refine Tm_suc (fun k => by rw [x_operate]) ?_
  refine Tm_ob (s_kind hS hv (by exact h2)) (fun r hr => ?_)
  rw [hr]
  refine Tm_ob (s_kind hS hx (by exact h3)) (fun r hr => ?_)
  rw [hr]
  have b1 : ∀ N : Nat → Int32, N 2 = nI v → N 3 = nI x → N 4 = nI (kdN (σ.2.2 28) v) → N 5 = nI (kdN (σ.2.2 28) x) → Tm (fun k => x_operate k 1 N σ) (VO g B h t σ) := fun N n2 n3 n4 n5 => by
    refine Tm_suc (fun k => by rw [x_operate]) ?_
    exact body _ n2 n3 n4 n5 (fun z => absurd rfl z)
  refine Tm_ite (fun z1 => ?_) (fun _ => b1 _ h2 h3 rfl rfl)
  refine Tm_ite (fun z2 => ?_) (fun _ => b1 _ h2 h3 rfl rfl)
  exact body _ h2 h3 rfl rfl (fun _ => ⟨(n_eq (q := 2) (by omega) (by decide)).mp z1, (n_eq (q := 2) (by omega) (by decide)).mp z2⟩)
end OPE

/-! Ranges, from their start (reference). -/
section RNS
variable {g : Nat → Prop} {l : List Nat} {B h t : Nat} {σ : MS}
theorem s_rng9 (h56 : σ.1 56 = 0) (ht : t ≤ 175990) (N : Nat → Int32) (τ : MS) (g1 : Nat → Prop) (l1 : List Nat) (h1 : Nat) (hU : PuH g B h t 0 σ τ g1 l1 h1) (r3 : RgW g1 τ (N 3)) (r5 : RgW g1 τ (N 5)) (r67 : (N 7 = 0 ∧ RgW g1 τ (N 6)) ∨ (¬ N 7 = 0 ∧ RgZ g1 τ (N 4))) : Tm (fun k => x_range k 9 N τ) (VQ g B h t 1001 σ) := by
  have b14 : ∀ M : Nat → Int32, M 3 = N 3 → M 10 = N 5 → M 7 = N 7 → M 6 = N 6 → M 4 = N 4 → M 9 = nI t → Tm (fun k => x_range k 14 M τ) (VQ g B h t 1001 σ) := by
    intro M m3 m10 m7 m6 m4 m9
    refine Tm_suc (fun k => by rw [x_range]) ?_
    refine s_rng15 h56 ht 1001 0 _ τ g1 l1 h1 (by omega) (by omega) hU ?_ m9 (fun _ => ?_) ?_
    · show RgW g1 τ (M 3)
      rw [m3]; exact r3
    · have y : RgW g1 τ (M 10) := by rw [m10]; exact r5
      exact ⟨Or.inl y, fun _ => y⟩
    · show (M 7 = 0 ∧ RgW g1 τ (M 6)) ∨ (¬ M 7 = 0 ∧ RgZ g1 τ (M 4))
      rw [m7, m6, m4]; exact r67
  have b12 : ∀ M : Nat → Int32, M 3 = N 3 → M 5 = N 5 → M 7 = N 7 → M 6 = N 6 → M 4 = N 4 → Tm (fun k => x_range k 12 M τ) (VQ g B h t 1001 σ) := by
    intro M m3 m5 m7 m6 m4
    have h59 : τ.1 59 = nI t := hU.2.2.1
    refine Tm_suc (fun k => by rw [x_range]) ?_
    refine Tm_ite (fun _ => ?_) (fun _ => b14 _ m3 m5 m7 m6 m4 h59)
    refine Tm_suc (fun k => by rw [x_range]) ?_
    exact b14 _ m3 m5 m7 m6 m4 h59
  refine Tm_suc (fun k => by rw [x_range]) ?_
  refine Tm_ite (fun z => ?_) (fun z => ?_)
  · rcases r67 with r67 | r67
    · obtain ⟨v, n, e, gv, w1, w2, w3, w4, w5⟩ := r67.2
      refine Tm_suc (fun k => by rw [x_range]) ?_
      refine Tm_ob (s_signOf hU.1.1 (m := v) (by omega) (by exact e)) (fun r hr => ?_)
      rw [hr]
      exact b12 _ rfl rfl rfl rfl rfl
    · exact absurd z r67.1
  · rcases r67 with r67 | r67
    · exact absurd r67.1 z
    · refine Tm_ob (RgZ_cmp hU.1.1 r67.2 r5 rfl rfl) (fun r hr => ?_)
      rw [hr]
      refine Tm_ite (fun _ => ?_) (fun _ => b12 _ rfl rfl rfl rfl rfl)
      refine Tm_suc (fun k => by rw [x_range]) ?_
      exact b12 _ rfl rfl rfl rfl rfl
theorem s_rng4 (hP : VP g l B h t σ) (h56 : σ.1 56 = 0) (ht : t ≤ 175990) (N : Nat → Int32) (r3 : RgW g σ (N 3)) (r5 : RgW g σ (N 5)) (r4 : ¬ N 2 = 0 → RgW g σ (N 4)) (r40 : N 2 = 0 → N 4 = 0) : Tm (fun k => x_range k 4 N σ) (VQ g B h t 1001 σ) := by
  have hS := hP.1
  have hU0 := PuH_0 hS hP.2.1 hP.2.2.2
  -- the step is known, or it is too large
  have b6 : ∀ (ok : Prop) (M : Nat → Int32) (r : Int32 × MS), VW ok g B h t σ r → (ok ∨ ¬ N 2 = 0) → M 100 = r.1 → M 3 = N 3 → M 5 = N 5 → M 4 = N 4 → Tm (fun k => x_range k 6 M r.2) (VQ g B h t 1001 σ) := by
    intro ok M r hr hor m100 m3 m5 m4
    obtain ⟨g1, l1, h1, c1, c2, c3, c4, c5, c6, c7, c8⟩ := hr
    have tr : ∀ x, RgW g σ x → RgW g1 r.2 x := fun x hx => RgW_HG hS c1 hx
    have d28 : (mSc r.2 56 0).2.2 28 = r.2.2.2 28 := rfl
    have hU : PuH g B h t 0 σ (mSc r.2 56 0) g1 l1 h1 := PuH_st hU0 ⟨HS_c c1.1 rfl rfl rfl, c1.2.1, c1.2.2.1, c1.2.2.2⟩ (FW_tr c2 (FW_sc (Or.inr (Or.inl rfl)))) c3 ⟨0, rfl, by decide⟩ (fun z => absurd h56 z)
    have b8 : ∀ O : Nat → Int32, O 3 = N 3 → O 5 = N 5 → ((O 100 = 0 ∧ RgW g1 r.2 (O 6)) ∨ (¬ O 100 = 0 ∧ RgZ g1 r.2 (O 4))) → Tm (fun k => x_range k 8 O r.2) (VQ g B h t 1001 σ) := by
      intro O o3 o5 oo
      refine Tm_suc (fun k => by rw [x_range]) ?_
      show Tm (fun k => x_range k 9 (upd O 7 (O 100)) (mSc r.2 56 0)) _
      refine s_rng9 h56 ht _ _ g1 l1 h1 hU ?_ ?_ ?_
      · show RgW g1 (mSc r.2 56 0) (O 3)
        rw [o3]; exact RgW_c (tr _ r3) (fun _ z => z) d28
      · show RgW g1 (mSc r.2 56 0) (O 5)
        rw [o5]; exact RgW_c (tr _ r5) (fun _ z => z) d28
      · show (O 100 = 0 ∧ RgW g1 (mSc r.2 56 0) (O 6)) ∨ (¬ O 100 = 0 ∧ RgZ g1 (mSc r.2 56 0) (O 4))
        exact oo.imp (fun z => ⟨z.1, RgW_c z.2 (fun _ z => z) d28⟩) (fun z => ⟨z.1, z.2.imp (fun y => RgW_c y (fun _ z => z) d28) id⟩)
    refine Tm_suc (fun k => by rw [x_range]) ?_
    refine Tm_ite (fun w => ?_) (fun w => ?_)
    · have e0 := er_le0 c4 w
      refine Tm_suc (fun k => by rw [x_range]) ?_
      refine b8 _ m3 m5 (Or.inl ⟨rfl, ?_⟩)
      show RgW g1 r.2 (M 100)
      rw [m100]; exact c7 e0
    · refine b8 _ m3 m5 (Or.inr ⟨show ¬ (1 : Int32) = 0 by decide, ?_⟩)
      show RgZ g1 r.2 (M 4)
      rw [m4]
      by_cases h2 : N 2 = 0
      · exact Or.inr (r40 h2)
      · exact Or.inl (tr _ (r4 h2))
  refine Tm_suc (fun k => by rw [x_range]) ?_
  refine Tm_ite (fun _ => ?_) (fun z => ?_)
  · refine Tm_suc (fun k => by rw [x_range]) ?_
    exact Tm_ob (s_smallW hP _) (fun r hr => b6 True _ r hr (Or.inl trivial) rfl rfl rfl rfl)
  · obtain ⟨va, na, ea, ga, wa⟩ := r4 z
    obtain ⟨vb, nb, eb, gb, wb⟩ := r5
    exact Tm_ob (s_addW hP wa wb (by exact ea) (by exact eb) (Or.inr rfl)) (fun r hr => b6 False _ r hr (Or.inr z) rfl rfl rfl rfl)
/-- what was popped -/
theorem VQ_59 {w : Nat} {τ : MS} {r : Int32 × MS} (hS : HS g l B h σ) (e1 : ∀ j, j ≠ 59 → τ.1 j = σ.1 j) (e2 : τ.2.2 = σ.2.2) (b : VQ g B h t w τ r) : VQ g B h t w σ r := by
  obtain ⟨g', l', h', a1, a2, a3, a4, a5, a6⟩ := b
  refine ⟨g', l', h', ⟨a1.1, a1.2.1, a1.2.2.1, fun i h1 h2 => ?_⟩, FW_tr ⟨fun j hj => e1 j (by omega), fun j _ => by rw [e2], fun i _ => by rw [e2]⟩ a2, a3, a4, fun z => a5 (by rw [e1 56 (by decide)]; exact z), a6⟩
  rw [a1.2.2.2 i h1 h2, e2]
theorem s_range {c : Nat} (hS : HS g l B h σ) (h56 : σ.1 56 = 0) (ht : t ≤ 175990) {L : Nat → Int32} (hc : (L 2 = 0 ∧ c = 2) ∨ (¬ L 2 = 0 ∧ c = 3)) (h59 : σ.1 59 = nI (t + c)) (hV : PLv g (σ.2.2 29) t c) : Tm (fun k => x_range k 0 L σ) (VQ g B h t 1001 σ) := by
  have b2 : ∀ (d : Nat) (N : Nat → Int32) (τ : MS), (∀ j, j ≠ 59 → τ.1 j = σ.1 j) → τ.2.2 = σ.2.2 → τ.1 59 = nI (t + 1) → (d < 3 ∨ g d) → N 2 = L 2 → N 3 = nI d → (¬ L 2 = 0 → Vd g (N 100)) → (L 2 = 0 → N 100 = 0) → Tm (fun k => x_range k 2 N τ) (VQ g B h t 1001 σ) := by
    intro d N τ e1 e2 e59 hd n2 n3 n100 n1z
    obtain ⟨a, a1, a2⟩ := hV 0 (by omega)
    have a1 : τ.2.2 29 t = nI a := by rw [e2]; exact a1
    refine Tm_suc (fun k => by rw [x_range]) ?_
    refine Tm_ob (s_pop e59 (by omega) _) (fun r hr => ?_)
    rw [hr, a1]
    have hP1 : VP g l B h t (mSc τ 59 (nI t)) := ⟨HS_c hS (show τ.1 54 = _ from e1 54 (by decide)) (show τ.1 55 = _ from e1 55 (by decide)) (by show τ.2.2 28 = _; rw [e2]), rfl, by omega, ⟨0, (show τ.1 56 = σ.1 56 from e1 56 (by decide)).trans h56, by decide⟩⟩
    have q56 : (mSc τ 59 (nI t)).1 56 = 0 := (show τ.1 56 = σ.1 56 from e1 56 (by decide)).trans h56
    have e3 : ∀ j, j ≠ 59 → (mSc τ 59 (nI t)).1 j = σ.1 j := fun j hj => (upd_other hj).trans (e1 j hj)
    have e4 : (mSc τ 59 (nI t)).2.2 = σ.2.2 := e2
    refine Tm_mono (Q := VQ g B h t 1001 (mSc τ 59 (nI t))) ?_ (fun r hr => VQ_59 hS e3 e4 hr)
    generalize mSc τ 59 (nI t) = ρ at hP1 q56 e3 e4
    have hS1 := hP1.1
    have b3 : ∀ M : Nat → Int32, Tm (fun k => x_range k 3 M ρ) (VQ g B h t 1001 ρ) := fun M => by
      refine Tm_suc (fun k => by rw [x_range]) ?_
      exact Tm_ob (s_wrongKind _) (fun r hr => Tm_some (VQ_of (VO_wk hP1 hr)))
    have ka := kdN_6 hS1 a2
    have kd := kdN_6 hS1 hd
    refine Tm_ob (s_kind hS1 a2 rfl) (fun r hr => ?_)
    rw [hr]
    refine Tm_ite (fun w => ?_) (fun _ => b3 _)
    have w := (n_eq (q := 2) (by omega) (by decide)).mp w
    refine Tm_ob (s_kind hS1 hd (by exact n3)) (fun r hr => ?_)
    rw [hr]
    refine Tm_ite (fun w2 => ?_) (fun _ => b3 _)
    have w2 := (n_eq (q := 2) (by omega) (by decide)).mp w2
    have R3 : RgW g ρ (N 3) := by rw [n3]; exact RgW_of hS1 hd w2
    refine Tm_ite (fun z => ?_) (fun z => ?_)
    · exact s_rng4 hP1 q56 ht _ R3 (RgW_of hS1 a2 w) (fun q => absurd z q) (fun _ => n1z (n2.symm.trans z))
    · obtain ⟨b, bb1, bb2⟩ := n100 (by rw [← n2]; exact z)
      have kb := kdN_6 hS1 bb2
      refine Tm_ob (s_kind hS1 bb2 (by exact bb1)) (fun r hr => ?_)
      rw [hr]
      refine Tm_ite (fun w3 => ?_) (fun _ => b3 _)
      have w3 := (n_eq (q := 2) (by omega) (by decide)).mp w3
      refine s_rng4 hP1 q56 ht _ R3 (RgW_of hS1 a2 w) (fun _ => ?_) (fun q => absurd q z)
      show RgW g ρ (N 100)
      rw [bb1]; exact RgW_of hS1 bb2 w3
  refine Tm_suc (fun k => by rw [x_range]) ?_
  rcases hc with ⟨z, rfl⟩ | ⟨z, rfl⟩
  · obtain ⟨d, d1, d2⟩ := hV 1 (by omega)
    refine Tm_ob (s_pop (u := t + 1) h59 (by omega) _) (fun r hr => ?_)
    rw [hr, d1]
    refine Tm_ite (fun _ => ?_) (fun w => absurd z w)
    refine Tm_suc (fun k => by rw [x_range]) ?_
    exact b2 d _ _ (fun j hj => upd_other hj) rfl rfl d2 rfl rfl (fun q => absurd z q) (fun _ => rfl)
  · obtain ⟨d, d1, d2⟩ := hV 2 (by omega)
    obtain ⟨b, bb1, bb2⟩ := hV 1 (by omega)
    refine Tm_ob (s_pop (u := t + 2) h59 (by omega) _) (fun r hr => ?_)
    rw [hr, d1]
    refine Tm_ite (fun w => absurd w z) (fun _ => ?_)
    refine Tm_ob (s_pop (σ := mSc σ 59 (nI (t + 2))) (u := t + 1) rfl (by omega) _) (fun r hr => ?_)
    rw [hr]
    exact b2 d _ _ (fun j hj => (upd_other hj).trans (upd_other hj)) rfl rfl d2 rfl rfl (fun _ => ⟨b, bb1, bb2⟩) (fun q => absurd q z)
end RNS

/-! A view is told (reference). -/
/-- the views: their texts are exps of the program -/
def VwO (gl : List Gn) (pr : Nat → Nat) (b : BT) (σ : MS) : Prop := ∃ V, σ.1 73 = nI V ∧ V ≤ 8 ∧ ∀ v, v < V → ∃ nv, σ.2.2 55 v = nI nv ∧ nv ≤ 32768 ∧ (∀ i, i < nv → ∃ d, d ≤ 300 ∧ σ.2.2 54 (32768 * v + i) = nI d) ∧ ∃ f t, gX (fun i => σ.2.2 54 (32768 * v + i)) nv f (gl, [], [], 42, false, false, pr) b = some (some t)
section VWS
variable {T : Nat → Nat → Int32} {FN : Nat → Nat → Prop} {S : Nat → Nat → Nat → Nat → Prop} {gl : List Gn} {pr : Nat → Nat} {b : BT} {ns n f : Nat} {Tp : Nat → Int32} {σ σa ρ ω : MS} {C K : Nat → Int32} {e0 z0 x66 : Int32} {sd : Int64} {m : Nat} {t X B h : Nat} {g : Nat → Prop} {l : List Nat}
theorem VwO_c (h73 : ω.1 73 = σ.1 73) (h54 : ω.2.2 54 = σ.2.2 54) (h55 : ω.2.2 55 = σ.2.2 55) (h : VwO gl pr b σ) : VwO gl pr b ω := by
  unfold VwO at h ⊢
  rw [h73, h54, h55]; exact h
/-- nothing was worked -/
theorem vw_ae (h68 : σ.1 68 = 0) (h33 : ∀ i, i < 1380 → σ.2.2 33 i = 0) (hg : PG gl pr b σ) (hb : b.1 ≤ 70000 ∧ b.2.1 ≤ 70000) (ha : ∀ j, ¬ (j = 2 ∨ j = 11) → σa.1 j = σ.1 j) (ha2 : σa.2 = σ.2) (hX : FrX b.1 b.2.1 σa ρ) (wn : ∀ j, ¬ (j = 2 ∨ j = 4 ∨ j = 11 ∨ j = 22 ∨ j = 24 ∨ j = 73) → ω.1 j = ρ.1 j) (wr : ∀ a, ¬ ((36 ≤ a ∧ a ≤ 39) ∨ a = 54 ∨ a = 55) → ω.2.2 a = ρ.2.2 a) (wl : ω.2.1 = ρ.2.1) (w22 : ω.1 22 = σ.1 22) (w24 : ω.1 24 = σ.1 24) : AEq σ ω ∧ PG gl pr b ω := by
  obtain ⟨x1, x2, x3, x4, x5, x6, x7⟩ := hX
  have q22 : (σ.1 22).toNatClampNeg = b.1 := by rw [hg.2.1.1, n_cl (p := b.1) (by omega)]
  have q24 : (σ.1 24).toNatClampNeg = b.2.1 := by rw [hg.2.1.2.2.1, n_cl (p := b.2.1) (by omega)]
  have sa : ∀ a, σa.2.2 a = σ.2.2 a := fun a => by rw [ha2]
  have nn : ∀ j, ¬ ((2 ≤ j ∧ j ≤ 13) ∨ j = 22 ∨ j = 24 ∨ j = 37 ∨ j = 38 ∨ j = 42 ∨ j = 43 ∨ (45 ≤ j ∧ j ≤ 48) ∨ j = 52 ∨ j = 73) → ω.1 j = σ.1 j := fun j hj => (wn j (by omega)).trans ((x1 j (by omega)).trans (ha j (by omega)))
  have h3 : ∀ j, ¬ ((4 ≤ j ∧ j ≤ 9) ∨ j = 12 ∨ (20 ≤ j ∧ j ≤ 27) ∨ (36 ≤ j ∧ j ≤ 39) ∨ j = 54 ∨ j = 55) → ω.2.2 j = σ.2.2 j := fun j hj => (wr j (by omega)).trans ((x3 j (by omega)).trans (sa j))
  have tb : ∀ a i, ((a = 10 ∨ a = 11 ∨ (17 ≤ a ∧ a ≤ 21)) ∧ ¬ StU (σ.1 30) (σ.1 44) (σ.2.2 21) a i) ∨ (4 ≤ a ∧ a ≤ 9 ∧ (1 ≤ i ∧ i < (σ.1 22).toNatClampNeg)) ∨ (a = 12 ∧ i < (σ.1 24).toNatClampNeg) ∨ (a = 19 ∧ i < 8 * (σ.1 30).toNatClampNeg ∧ i % 8 < (σ.2.2 18 (i / 8)).toNatClampNeg) → ω.2.2 a i = σ.2.2 a i := fun a i hi => by
    unfold StU at hi
    by_cases c1 : 4 ≤ a ∧ a ≤ 9
    · rw [wr a (by omega), x4 a c1.1 c1.2 i (by omega) (by omega), sa a]
    by_cases c2 : a = 12
    · subst c2; rw [wr 12 (by omega), x5 i (by omega), sa 12]
    by_cases c3 : a = 20
    · subst c3; rw [wr 20 (by omega), x7 i (by omega), sa 20]
    by_cases c4 : a = 21
    · subst c4; rw [wr 21 (by omega), x6 i (by omega), sa 21]
    rw [h3 a (by omega)]
  refine ⟨⟨fun j hj => ?_, (nn 68 (by decide)).trans h68, fun a i h1 h2 hz => by rw [h3 a (by omega)], tb, h3 2 (by decide), fun a i z => ?_, fun i hi => by rw [h3 33 (by decide)]; exact h33 i hi, by rw [wl, x2, ha2], by rw [wl, x2, ha2]⟩, ?_⟩
  · by_cases c : j = 22
    · rw [c]; exact w22
    by_cases c' : j = 24
    · rw [c']; exact w24
    exact nn j (by omega)
  · have wa : ω.2.2 a = σ.2.2 a := by
      rcases z with z | z
      · exact h3 a (by omega)
      · exact h3 a (by omega)
    have w28 : ω.2.2 28 = σ.2.2 28 := h3 28 (by decide)
    refine ⟨?_, Or.inr ⟨w28, by rw [wa]⟩⟩
    unfold szV
    rw [w28, wa]
  · obtain ⟨p1, ⟨q1, q2, q3, q4, q5⟩, ⟨g1, g2, g3⟩, p4⟩ := hg
    refine ⟨(h3 1 (by decide)).trans p1, ⟨w22.trans q1, q2, w24.trans q3, fun j h4 h9 i hi hi2 => ?_, fun i hi => ?_⟩, ⟨(nn 25 (by decide)).trans g1, g2, ?_⟩, ?_⟩
    · rw [tb j i (by omega)]; exact q4 j h4 h9 i hi hi2
    · rw [tb 12 i (by omega)]; exact q5 i hi
    · rw [h3 13 (by decide), h3 14 (by decide), h3 15 (by decide), h3 16 (by decide)]; exact g3
    · rw [h3 18 (by decide)]; exact p4
/-- views may be om -/
theorem MI_vw (hM : MI 0 X g l B h σ) (h54 : ω.1 54 = σ.1 54) (h55 : ω.1 55 = σ.1 55) (h63 : ω.1 63 = σ.1 63) (h72 : ω.1 72 = σ.1 72) (hr : ∀ a, (28 ≤ a ∧ a ≤ 35) ∨ a = 40 → ω.2.2 a = σ.2.2 a) (hv : ∀ a i, 36 ≤ a → a ≤ 38 → ω.2.2 a i = σ.2.2 a i ∨ ω.2.2 a i = 0) : MI 0 870000 g l B h ω := by
  obtain ⟨m1, m2, m3, m4⟩ := hM
  have rp : ∀ a i, RtP 0 ω a i ↔ RtP 0 σ a i := RtP_x h63 h72 (hr 30 (by omega)) (hr 31 (by omega))
  refine MI_any (HS_c m1 h54 h55 (hr 28 (by omega))) (RtQ_c h63 h72 (hr 30 (by omega)) (hr 31 (by omega)) m2) (fun a i z => ?_)
  have c := RtP_r z
  have v := m3 a i ((rp a i).mp z)
  by_cases e : 36 ≤ a ∧ a ≤ 38
  · rcases hv a i e.1 e.2 with y | y
    · rw [y]; exact v
    · rw [y]; exact ⟨0, rfl, Or.inl (by decide)⟩
  · rw [hr a (by omega)]; exact v
end VWS

/-! A run is left alone (reference): rows that are not its own, an operation on values. -/
/-- what a round leaves besides the run -/
def OR (σ ω : MS) : Prop := (∀ j, j = 22 ∨ j = 24 ∨ j = 25 ∨ j = 31 ∨ j = 44 ∨ j = 73 ∨ j = 111 ∨ j = 112 ∨ j = 115 ∨ j = 120 → ω.1 j = σ.1 j) ∧ (∀ a, a = 1 ∨ (13 ≤ a ∧ a ≤ 19) ∨ (52 ≤ a ∧ a ≤ 57) → ω.2.2 a = σ.2.2 a) ∧ (∀ a i, 4 ≤ a → a ≤ 9 → 1 ≤ i → i < (σ.1 22).toNatClampNeg → ω.2.2 a i = σ.2.2 a i) ∧ ∀ i, i < (σ.1 24).toNatClampNeg → ω.2.2 12 i = σ.2.2 12 i
section ORS
variable {T : Nat → Nat → Int32} {FN : Nat → Nat → Prop} {S : Nat → Nat → Nat → Nat → Prop} {gl : List Gn} {pr : Nat → Nat} {b : BT} {σ τ ω : MS} {C K : Nat → Int32} {e0 z0 x66 : Int32} {sd : Int64} {m t X B h u : Nat} {g g' : Nat → Prop} {l l' : List Nat}
theorem OR_rf : OR σ σ := ⟨fun _ _ => rfl, fun _ _ => rfl, fun _ _ _ _ _ _ => rfl, fun _ _ => rfl⟩
theorem OR_tr (a : OR σ τ) (c : OR τ ω) : OR σ ω := by
  obtain ⟨a1, a2, a3, a4⟩ := a
  obtain ⟨c1, c2, c3, c4⟩ := c
  refine ⟨fun j hj => (c1 j hj).trans (a1 j hj), fun x hx => (c2 x hx).trans (a2 x hx), fun x i h1 h2 h3 h4 => ?_, fun i hi => ?_⟩
  · rw [c3 x i h1 h2 h3 (by rw [a1 22 (by omega)]; exact h4)]; exact a3 x i h1 h2 h3 h4
  · rw [c4 i (by rw [a1 24 (by omega)]; exact hi)]; exact a4 i hi
theorem PG_or (h : OR σ ω) (hb : b.1 ≤ 70000 ∧ b.2.1 ≤ 70000) (hp : PG gl pr b σ) : PG gl pr b ω := by
  obtain ⟨o1, o2, o3, o4⟩ := h
  obtain ⟨p1, ⟨q1, q2, q3, q4, q5⟩, ⟨g1, g2, g3⟩, p4⟩ := hp
  rw [q1, n_cl (p := b.1) (by omega)] at o3
  rw [q3, n_cl (p := b.2.1) (by omega)] at o4
  refine ⟨(o2 1 (by omega)).trans p1, ⟨(o1 22 (by omega)).trans q1, q2, (o1 24 (by omega)).trans q3, fun j h4 h9 i hi hi2 => ?_, fun i hi => ?_⟩, ⟨(o1 25 (by omega)).trans g1, g2, ?_⟩, ?_⟩
  · rw [o3 j i h4 h9 hi hi2]; exact q4 j h4 h9 i hi hi2
  · rw [o4 i hi]; exact q5 i hi
  · rw [o2 13 (by omega), o2 14 (by omega), o2 15 (by omega), o2 16 (by omega)]; exact g3
  · rw [o2 18 (by omega)]; exact p4
theorem VwO_or (h : OR σ ω) (hv : VwO gl pr b σ) : VwO gl pr b ω := VwO_c (h.1 73 (by omega)) (h.2.1 54 (by omega)) (h.2.1 55 (by omega)) hv
/-- rows and numbers of a run are the same -/
def SmR (σ ω : MS) : Prop := (∀ j, j = 22 ∨ j = 24 ∨ (63 ≤ j ∧ j ≤ 66) ∨ j = 68 ∨ j = 95 ∨ (102 ≤ j ∧ j ≤ 106) ∨ j = 110 ∨ j = 112 ∨ j = 30 ∨ j = 44 → ω.1 j = σ.1 j) ∧ (∀ a, a = 2 ∨ (4 ≤ a ∧ a ≤ 12) ∨ (17 ≤ a ∧ a ≤ 21) ∨ a = 28 ∨ (30 ≤ a ∧ a ≤ 33) → ω.2.2 a = σ.2.2 a) ∧ ω.2.1 = σ.2.1
theorem AE_sm (h68 : σ.1 68 = 0) (h33 : ∀ i, i < 1380 → σ.2.2 33 i = 0) (h : SmR σ ω) : AEq σ ω := by
  obtain ⟨s1, s2, s3⟩ := h
  refine ⟨fun j hj => s1 j (by omega), (s1 68 (by omega)).trans h68, fun a i h1 h2 _ => by rw [s2 a (by omega)], fun a i hi => by rw [s2 a (by omega)], s2 2 (by omega), fun a i z => ?_, fun i hi => by rw [s2 33 (by omega)]; exact h33 i hi, by rw [s3], by rw [s3]⟩
  have wa : ω.2.2 a = σ.2.2 a := by
    rcases z with z | z
    · exact s2 a (by omega)
    · exact s2 a (by omega)
  refine ⟨?_, Or.inr ⟨s2 28 (by omega), by rw [wa]⟩⟩
  unfold szV
  rw [s2 28 (by omega), wa]
theorem PSt_sm (hW : SWf T FN S) (h : SmR σ ω) (hM : ∃ (g : Nat → Prop) (l : List Nat) (B h X : Nat), MI 0 X g l B h ω) (hP : PSt T FN S C K e0 z0 x66 0 sd m σ) : PSt T FN S C K e0 z0 x66 0 sd m ω := by
  have hU := (PSt_UT hP).1
  have ae := AE_sm hP.1.2.2.2.2.2.2.2.2.1 hP.1.2.2.1 h
  obtain ⟨s1, s2, s3⟩ := h
  exact PSt_ae hW ae hM (UT_k hU (s1 63 (by omega)) (s1 64 (by omega)) (s1 65 (by omega)) (s2 28 (by omega)) (fun a h1 h2 => s2 a (by omega)) (kC_ae ae)) hP
/-- an operation on values -/
theorem AE_vo (h68 : σ.1 68 = 0) (h33 : ∀ i, i < 1380 → σ.2.2 33 i = 0) (hM : MI t X g l B h σ) (a : HG g B h σ ω g' l' u) (hF : FW t σ ω) (wl : ω.2.1 = σ.2.1) : AEq σ ω := by
  have hE := (MI_gr hM a hF).2
  obtain ⟨f1, f2, f3⟩ := hF
  refine ⟨fun j hj => f1 j (by omega), (f1 68 (by decide)).trans h68, fun x i h1 h2 _ => by rw [f2 x (by omega)], fun x i hi => by rw [f2 x (by omega)], f2 2 (by decide), fun x i z => ?_, fun i hi => by rw [f2 33 (by decide)]; exact h33 i hi, by rw [wl], by rw [wl]⟩
  have hr : RtP t σ x i := by
    rcases z with z | z
    · exact Or.inr (Or.inl z)
    · exact Or.inr (Or.inr (Or.inl z))
  obtain ⟨k, k', q1, q2, q3, q4, q5, q6, q7⟩ := hE.1 x i hr
  constructor
  · unfold szV
    rw [q1, q3, n_cl (p := k) (by omega), n_cl (p := k') (by omega)]; exact szV_ev q5
  · refine Or.inl ?_
    rw [q1, q3, n_cl (p := k) (by omega), n_cl (p := k') (by omega)]; exact q5
theorem PSt_vo (hW : SWf T FN S) (hM : MI 0 X g l B h σ) (a : HG g B h σ ω g' l' u) (hF : FW 0 σ ω) (wl : ω.2.1 = σ.2.1) (hP : PSt T FN S C K e0 z0 x66 0 sd m σ) : PSt T FN S C K e0 z0 x66 0 sd m ω ∧ MI 0 X g' l' B u ω ∧ OR σ ω := by
  have hU := (PSt_UT hP).1
  have ae := AE_vo hP.1.2.2.2.2.2.2.2.2.1 hP.1.2.2.1 hM a hF wl
  obtain ⟨m1, m2⟩ := MI_gr hM a hF
  exact ⟨PSt_ae hW ae ⟨g', l', B, u, X, m1⟩ (UT_fe (FE_eo hM.2.1 m2) hU) hP, m1, fun j hj => hF.1 j (by omega), fun a ha => hF.2.1 a (by omega), fun a i h1 h2 _ _ => by rw [hF.2.1 a (by omega)], fun i _ => by rw [hF.2.1 12 (by decide)]⟩
/-- kinds stay -/
theorem kd_gr (hS : HS g l B h σ) (a : HG g B h σ ω g' l' u) {k : Nat} (hk : k < 3 ∨ g k) : (k < 3 ∨ g' k) ∧ kdN (ω.2.2 28) k = kdN (σ.2.2 28) k := by
  have v := VC_gr hS a (x := nI k) ⟨k, rfl, hk⟩
  have kb := HS_vb hS hk
  obtain ⟨c, c', q1, q2, q3, q4, q5, q6, q7⟩ := v
  have e1 : k = c := (n_eq (by omega) (by omega)).mp q1
  have e2 : k = c' := (n_eq (by omega) (by omega)).mp q3
  subst e1
  subst e2
  exact ⟨q4, (EVb_sz q5).2.2⟩
end ORS

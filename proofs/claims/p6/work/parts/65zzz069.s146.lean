/-! The state with all its values, and how it goes on (reference). -/
section MIS
variable {g g' : Nat → Prop} {l l' : List Nat} {B h t u X : Nat} {σ τ ρ : MS}
theorem RtP_mo (hu : u ≤ t) {a i : Nat} (h : RtP u σ a i) : RtP t σ a i := by
  unfold RtP at h ⊢
  rcases h with h | h
  · exact Or.inl ⟨h.1, by omega⟩
  · exact Or.inr h
theorem RtP_up {a i : Nat} (h : RtP (t + 1) σ a i) : RtP t σ a i ∨ (a = 29 ∧ i = t) := by
  unfold RtP at h ⊢
  rcases h with h | h
  · by_cases e : i = t
    · exact Or.inr ⟨h.1, e⟩
    · exact Or.inl (Or.inl ⟨h.1, by omega⟩)
  · exact Or.inl (Or.inr h)
theorem RoS_good (hS : HS g l B h σ) (hV : ∀ a i, RtP t σ a i → Vd g (σ.2.2 a i)) {v : Nat} (hv : RoS t σ v) : g v := by
  obtain ⟨v1, v2, a, i, hR, e⟩ := hv
  obtain ⟨m, m1, m2⟩ := hV a i hR
  have hm := HS_vb hS m2
  have : v = m := (n_eq (by omega) (by omega)).mp (e.symm.trans m1)
  subst this
  exact m2.resolve_left (by omega)
theorem MI_mo (hM : MI t X g l B h σ) (hu : u ≤ t) : MI u X g l B h σ := by
  obtain ⟨m1, m2, m3, m4⟩ := hM
  refine ⟨m1, m2, fun a i z => m3 a i (RtP_mo hu z), LVc_mo (fun v z => Rch_b ?_) m4⟩
  obtain ⟨z1, z2, a, i, z3, z4⟩ := z
  exact ⟨z1, z2, a, i, RtP_mo hu z3, z4⟩
theorem MI_X {Y : Nat} (hM : MI t X g l B h σ) (hXY : X ≤ Y) : MI t Y g l B h σ := ⟨hM.1, hM.2.1, hM.2.2.1, LVc_le hM.2.2.2 hXY⟩
theorem RtP_c (h63 : τ.1 63 = σ.1 63) (h72 : τ.1 72 = σ.1 72) (h30 : τ.2.2 30 = σ.2.2 30) (h31 : τ.2.2 31 = σ.2.2 31) (a i : Nat) : RtP t τ a i ↔ RtP t σ a i := by
  unfold RtP
  rw [h63, h72, h30, h31]
theorem RtQ_c (h63 : τ.1 63 = σ.1 63) (h72 : τ.1 72 = σ.1 72) (h30 : τ.2.2 30 = σ.2.2 30) (h31 : τ.2.2 31 = σ.2.2 31) (hQ : RtQ σ) : RtQ τ := by
  unfold RtQ at hQ ⊢
  rw [h63, h72, h30, h31]; exact hQ
/-- the same values -/
theorem MI_c (hM : MI t X g l B h σ) (h54 : τ.1 54 = σ.1 54) (h55 : τ.1 55 = σ.1 55) (h63 : τ.1 63 = σ.1 63) (h72 : τ.1 72 = σ.1 72) (ha : τ.2.2 = σ.2.2) : MI t X g l B h τ := by
  obtain ⟨m1, m2, m3, m4⟩ := hM
  have hR := RtP_c (t := t) h63 h72 (congrFun ha 30) (congrFun ha 31)
  refine ⟨HS_c m1 h54 h55 (congrFun ha 28), RtQ_c h63 h72 (congrFun ha 30) (congrFun ha 31) m2, fun a i z => ?_, ?_⟩
  · rw [ha]; exact m3 a i ((hR a i).mp z)
  · rw [ha]
    refine LVc_mo (fun v z => Rch_b ?_) m4
    obtain ⟨z1, z2, a, i, z3, z4⟩ := z
    exact ⟨z1, z2, a, i, (hR a i).mp z3, by rw [← ha]; exact z4⟩
theorem VC_gr (hS : HS g l B h σ) (a : HG g B h σ ρ g' l' u) {x : Int32} (hx : Vd g x) : VC g g' (σ.2.2 28) (ρ.2.2 28) x x := by
  obtain ⟨m, m1, m2⟩ := hx
  have hmb := HS_vb hS m2
  exact ⟨m, m, m1, m2, m1, m2.imp id (a.2.1 m), EVb_gr hS.2.2.2.2 (HS_b hS).2 a.2.2.2 m2, hmb, hmb⟩
/-- an operation on values -/
theorem MI_gr (hM : MI t X g l B h σ) (a : HG g B h σ ρ g' l' u) (hF : FW t σ ρ) : MI t X g' l' B u ρ ∧ EO t g σ g' ρ := by
  obtain ⟨m1, m2, m3, m4⟩ := hM
  have h63 : ρ.1 63 = σ.1 63 := hF.1 63 (by decide)
  have h72 : ρ.1 72 = σ.1 72 := hF.1 72 (by decide)
  have h30 : ρ.2.2 30 = σ.2.2 30 := hF.2.1 30 (by decide)
  have h31 : ρ.2.2 31 = σ.2.2 31 := hF.2.1 31 (by decide)
  have hR := RtP_c (t := t) h63 h72 h30 h31
  have same : ∀ b i, RtP t σ b i → ρ.2.2 b i = σ.2.2 b i := fun b i z => by
    unfold RtP at z
    by_cases e : b = 29
    · subst e
      have hi : i < t := by omega
      exact hF.2.2 i hi
    · exact congrFun (hF.2.1 b (by omega)) i
  refine ⟨⟨a.1, RtQ_c h63 h72 h30 h31 m2, fun b i z => ?_, ?_⟩, fun b i z => ?_, fun b i hb _ => congrFun (hF.2.1 b hb) i, fun j hj => hF.1 j (by omega)⟩
  · rw [same b i ((hR b i).mp z)]
    exact Vd_mo (m3 b i ((hR b i).mp z)) a.2.1
  · have hb := HS_b m1
    have hg := fun v => RoS_good (v := v) m1 m3
    refine LVc_mo (fun v z => Rch_b ?_) (LVc_gr m1.2.2.2.2 hb.2 hg a.2.2.2 m4)
    obtain ⟨z1, z2, b, i, z3, z4⟩ := z
    have z3 := (hR b i).mp z3
    exact ⟨z1, z2, b, i, z3, by rw [← same b i z3]; exact z4⟩
  · rw [same b i z]; exact VC_gr m1 a (m3 b i z)
/-- a sweep -/
theorem MI_sw {T : Nat} (hM : MI t X g l B h σ) (h59 : σ.1 59 = nI t) (ht : t ≤ 185000) {L : Nat → Int32} (hL : L 1 = nI T) (hT : T ≤ 870000) : Tm (fun k => x_sweep k 0 L σ) (fun r => ∃ g' l' B' h', MI t X g' l' B' h' r.2 ∧ EO t g σ g' r.2 ∧ (∀ j, j ≠ 54 → j ≠ 55 → r.2.1 j = σ.1 j) ∧ (h' < B' + T ∨ h' ≤ B' + 4 + X)) := by
  obtain ⟨m1, m2, m3, m4⟩ := hM
  have hb := HS_b m1
  have hg := fun v => RoS_good (v := v) m1 m3
  have hS0 : HS (Rch (σ.2.2 28) (RoS t σ)) l B h σ := ⟨m1.1, m1.2.1, m1.2.2.1, m1.2.2.2.1, HO_rch m1.2.2.2.2 hb.2 hg⟩
  have hsub : ∀ v, Rch (σ.2.2 28) (RoS t σ) v → g v := fun v z => Rch_good m1.2.2.2.2 hb.2 hg z
  have htop : (σ.1 59).toNatClampNeg = t := by rw [h59, n_cl (by omega)]
  have hI : ∀ a i, RtI σ a i ↔ RtP t σ a i := fun a i => by unfold RtI; rw [htop]
  have hB : RtB σ := by
    obtain ⟨P, e, q⟩ := m2
    exact ⟨t, P, e, h59, ht, q⟩
  have hV : RtV (Rch (σ.2.2 28) (RoS t σ)) σ := fun a i z => by
    have z := (hI a i).mp z
    obtain ⟨m, k1, k2⟩ := m3 a i z
    refine ⟨m, k1, ?_⟩
    by_cases c : m < 3
    · exact Or.inl c
    · exact Or.inr (Rch_b ⟨by omega, HS_vb m1 k2, a, i, z, k1⟩)
  refine Tm_mono (s_sweep hS0 hB hV hL hT) (fun r hr => ?_)
  rcases hr with ⟨hlt, e⟩ | hr
  · refine ⟨g, l, B, h, ?_, ?_, ?_, Or.inl hlt⟩
    · rw [e]; exact ⟨m1, m2, m3, m4⟩
    · rw [e]; exact ⟨fun a i z => Vd_VC m1 (m3 a i z), fun _ _ _ _ => rfl, fun _ _ => rfl⟩
    · rw [e]; exact fun _ _ _ => rfl
  · obtain ⟨g', l', B', h', k1, k2, k3, k4, k5⟩ := hr
    have hE : EO t g σ g' r.2 := by
      refine ⟨fun a i z => ?_, fun a i ha z => k4 a i (by omega) (fun y => z ((hI a i).mp y)), fun j hj => k5 j (by omega) (by omega)⟩
      obtain ⟨m, m', q1, q2, q3, q4, q5⟩ := k3 a i ((hI a i).mpr z)
      exact ⟨m, m', q1, q2.imp id (hsub m), q3, q4, q5⟩
    obtain ⟨c1, c2⟩ := EO_rt m2 hE
    have hlv : lvs (σ.2.2 28) (Rch (σ.2.2 28) (RoS t σ)) l ≤ X := by
      have h1 := lvs_N (H := σ.2.2 28) (S := Rch (σ.2.2 28) (RoS t σ)) (b := h) (by omega) l _ m1.2.2.2.2.1
      have h2 := m4 h
      omega
    have hb' := HS_b k1
    refine ⟨g', l', B', h', ⟨k1, c1, fun a i z => ?_, fun N => ?_⟩, hE, k5, Or.inr (by omega)⟩
    · obtain ⟨m, m', q1, q2, q3, q4, q5⟩ := hE.1 a i ((c2 t a i).mp z)
      exact ⟨m', q3, q4⟩
    · have hV' : ∀ a i, RtP t r.2 a i → Vd g' (r.2.2.2 a i) := fun a i z => by
        obtain ⟨m, m', q1, q2, q3, q4, q5⟩ := hE.1 a i ((c2 t a i).mp z)
        exact ⟨m', q3, q4⟩
      have hg' := fun v => RoS_good (v := v) k1 hV'
      have h1 := lvN_til (H := r.2.2.2 28) (b := h') (by omega) N l' _ (Rch (r.2.2.2 28) (RoS t r.2)) k1.2.2.2.2.1 (fun v z => (k1.2.2.2.2.2 v (Rch_good k1.2.2.2.2 hb'.2 hg' z)).1)
      omega
/-- one after another -/
theorem EO_tr (hQ : RtQ σ) {g1 g2 : Nat → Prop} (a : EO t g σ g1 τ) (b : EO t g1 τ g2 ρ) : EO t g σ g2 ρ := by
  obtain ⟨c1, c2⟩ := EO_rt hQ a
  refine ⟨fun x i z => ?_, fun x i hx z => ?_, fun j hj => (b.2.2 j hj).trans (a.2.2 j hj)⟩
  · obtain ⟨m, m', q1, q2, q3, q4, q5, q6, q7⟩ := a.1 x i z
    obtain ⟨p, p', r1, r2, r3, r4, r5, r6, r7⟩ := b.1 x i ((c2 t x i).mpr z)
    have e : p = m' := (n_eq (by omega) (by omega)).mp (r1.symm.trans q3)
    subst e
    exact ⟨m, p', q1, q2, r3, r4, EVb_tr q5 r5, q6, r7⟩
  · rw [b.2.1 x i hx (fun y => z ((c2 t x i).mp y))]; exact a.2.1 x i hx z
theorem EO_mo (hu : u ≤ t) (a : EO t g σ g' ρ) (h : ∀ x i, RtP t σ x i → ¬ RtP u σ x i → x = 29) : EO u g σ g' ρ := by
  refine ⟨fun x i z => a.1 x i (RtP_mo hu z), fun x i hx z => ?_, a.2.2⟩
  exact a.2.1 x i hx (fun y => hx (Or.inr (Or.inl (h x i y z))))
end MIS

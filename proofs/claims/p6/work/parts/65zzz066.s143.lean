/-! The sweep itself (reference). -/
/-- where values lie -/
def RtP (t : Nat) (σ : MS) (a i : Nat) : Prop :=
  (a = 29 ∧ i < t) ∨ (a = 30 ∧ StI (σ.2.2 30) 0 i) ∨ (a = 31 ∧ ∃ p, p < (σ.1 63).toNatClampNeg ∧ StI (σ.2.2 31) (11514 * p) i) ∨ (a = 33 ∧ i < 1380) ∨ (a = 34 ∧ i < (σ.1 72).toNatClampNeg) ∨ (a = 36 ∧ i < 8) ∨ (a = 37 ∧ i < 8) ∨ (a = 38 ∧ i < 8) ∨ (a = 40 ∧ i < 2)
def RtI (σ : MS) (a i : Nat) : Prop := RtP (σ.1 59).toNatClampNeg σ a i
def RtB (σ : MS) : Prop := ∃ t P e, σ.1 59 = nI t ∧ t ≤ 185000 ∧ σ.1 63 = nI P ∧ P ≤ 20 ∧ σ.1 72 = nI e ∧ e ≤ 4000 ∧ StB (σ.2.2 30) 0 ∧ ∀ p, p < P → StB (σ.2.2 31) (11514 * p)
def RtV (g : Nat → Prop) (σ : MS) : Prop := ∀ a i, RtI σ a i → Vd g (σ.2.2 a i)
/-- cells of the objects of a set -/
noncomputable def lvs (H : Nat → Int32) (S : Nat → Prop) : List Nat → Nat
  | [] => 0
  | v :: l => @ite Nat (S v) (Classical.propDecidable (S v)) (4 + (H (v + 1)).toNatClampNeg) 0 + lvs H S l
/-- what a sweep leaves -/
def SwO (g : Nat → Prop) (l : List Nat) (σ ρ : MS) : Prop := ∃ g' l' B' h', HS g' l' B' h' ρ ∧ h' ≤ B' + 4 + lvs (σ.2.2 28) g l ∧ (∀ a i, RtI σ a i → VC g g' (σ.2.2 28) (ρ.2.2 28) (σ.2.2 a i) (ρ.2.2 a i)) ∧ (∀ a i, a ≠ 28 → ¬ RtI σ a i → ρ.2.2 a i = σ.2.2 a i) ∧ (∀ j, j ≠ 54 → j ≠ 55 → ρ.1 j = σ.1 j)
section SWE
variable {g : Nat → Prop} {l : List Nat} {B h : Nat} {σ : MS}
theorem Vd_VC (hS : HS g l B h σ) {x : Int32} (hx : Vd g x) : VC g g (σ.2.2 28) (σ.2.2 28) x x := by
  obtain ⟨m, m1, m2⟩ := hx
  have := HS_vb hS m2
  exact ⟨m, m, m1, m2, m1, m2, EVb_gr hS.2.2.2.2 (HS_b hS).2 (fun _ _ _ => rfl) m2, this, this⟩
theorem lvs_mo {H : Nat → Int32} {S T : Nat → Prop} (h : ∀ v, S v → T v) : ∀ l : List Nat, lvs H S l ≤ lvs H T l
  | [] => Nat.le_refl _
  | v :: l => by
    have ih := lvs_mo (H := H) h l
    unfold lvs
    by_cases a : S v
    · rw [if_pos a, if_pos (h v a)]; omega
    · rw [if_neg a]; omega
theorem lvs_rm {H : Nat → Int32} {mv : Nat → Bool} : ∀ l : List Nat, rmS H mv l + lvs H (fun v => mv v = true) l = rmS H (fun _ => false) l
  | [] => rfl
  | v :: l => by
    have ih := lvs_rm (H := H) (mv := mv) l
    have e1 : rmS H mv (v :: l) = (if mv v then 0 else 4 + (H (v + 1)).toNatClampNeg) + rmS H mv l := rfl
    have e2 : rmS H (fun _ => false) (v :: l) = (4 + (H (v + 1)).toNatClampNeg) + rmS H (fun _ => false) l := rfl
    unfold lvs
    rw [e1, e2]
    by_cases a : mv v = true
    · rw [if_pos a, if_pos a]; omega
    · rw [if_neg a, if_neg a]; omega
theorem s_swp8 {B' : Nat} {υ : MS} {L : Nat → Int32} (h54 : B = 0 ∨ B = 870000) (hM : SwM (σ.2.2 28) g l B h B' σ (RtI σ) υ) (hL : L 2 = nI (B' + 4)) : Tm (fun k => x_sweep k 8 L υ) (fun r => SwO g l σ r.2) := by
  obtain ⟨h', mv, φ, l', m1, m2, m3, m4, m5⟩ := hM
  have hbd : B' + 4 ∈ l' ∨ B' + 4 = h' := by
    have hT : Til (υ.2.2 28) h' (B' + 4) l' := m1.2.2.2.2.2.1
    cases l' with
    | nil => exact Or.inr hT
    | cons x l' => exact Or.inl (by rw [← hT.1]; exact List.mem_cons_self)
  refine Tm_mono (s_scan 1740000 (B' + 4) L υ h' mv φ l' (by have := m1.2.2.1; omega) hL m1 hbd) (fun r hr => ?_)
  obtain ⟨s2, ⟨h2, mv2, φ2, l2, b1, b2, b3, b4, b5⟩, b6⟩ := hr
  have hb := SWS_b b1
  have hBB := b1.2.2.1
  have e : s2 = h2 := (n_eq (by have := b1.2.2.2.1; omega) (by omega)).mp (b6.symm.trans b1.2.2.2.2.1)
  subst e
  have hI := b1.2.2.2.2.2
  refine ⟨fun w => ∃ v, mv2 v = true ∧ φ2 v = w, l2, B', s2, ⟨(b4 54 (by decide)).trans m5, by omega, b6, hb.2.1, SwI_HO b1.1 b1.2.1 hBB hI⟩, ?_, fun a i hR => ?_, fun a i h28 hR => ?_, fun j q1 q2 => (b4 j q2).trans (m4 j q1 q2)⟩
  · have hr := rmS_all (b := h) (by have := b1.2.1; omega) l _ b1.1.1
    have hm := lvs_rm (H := σ.2.2 28) (mv := mv2) l
    have hg := lvs_mo (H := σ.2.2 28) (fun v z => (hI.2.2.1 v z).1) l
    have hq := hb.2.2
    have hle := Til_le _ _ b1.1.1
    omega
  · obtain ⟨h28, m, k1, k2, k3⟩ := m2 a i hR
    obtain ⟨m', y1, y2, y3, y4⟩ := SWV_VR b1.1 b1.2.1 hBB hI k2 (SWV_mo b3 k3)
    rw [← b5 a h28] at y1
    have hev : EVb (σ.2.2 28) (r.2.2.2 28) m m' := by
      refine ⟨_, SwI_bis b1.1 b1.2.1 hBB hI, ?_⟩
      have hlt : ∀ v, mv2 v = true → φ2 v < 1740000 := fun v z => by
        have := (SwI_hd hI z).2.2.1
        omega
      rcases SWV_mo b3 k3 with ⟨z1, z2⟩ | ⟨z1, z2⟩
      · exact Or.inl ⟨z1, (n_eq (by omega) (by omega)).mp (y1.symm.trans ((congrFun (b5 a h28) i).trans z2))⟩
      · exact Or.inr ⟨z1, (n_eq (by omega) (by have := hlt m z1; omega)).mp (y1.symm.trans ((congrFun (b5 a h28) i).trans z2))⟩
    refine ⟨m, m', k1, k2, y1, y3, hev, ?_, y2⟩
    rcases k2 with z | z
    · omega
    · obtain ⟨_, n, _, _, _, _, q⟩ := HO_at b1.1 (by have := b1.2.1; omega) z
      have := b1.2.1
      omega
  · rw [b5 a h28]; exact m3 a i h28 hR
theorem s_sweep {T : Nat} (hS : HS g l B h σ) (hB : RtB σ) (hV : RtV g σ) {L : Nat → Int32} (hL : L 1 = nI T) (hT : T ≤ 870000) : Tm (fun k => x_sweep k 0 L σ) (fun r => (h < B + T ∧ r.2 = σ) ∨ SwO g l σ r.2) := by
  obtain ⟨t, P, e, t1, t2, p1, p2, e1, e2, s30, s31⟩ := hB
  have hRt : ∀ a i, RtI σ a i ↔ (a = 29 ∧ i < t) ∨ (a = 30 ∧ StI (σ.2.2 30) 0 i) ∨ (a = 31 ∧ ∃ p, p < P ∧ StI (σ.2.2 31) (11514 * p) i) ∨ (a = 33 ∧ i < 1380) ∨ (a = 34 ∧ i < e) ∨ (a = 36 ∧ i < 8) ∨ (a = 37 ∧ i < 8) ∨ (a = 38 ∧ i < 8) ∨ (a = 40 ∧ i < 2) := fun a i => by
    unfold RtI RtP
    rw [t1, p1, e1, n_cl (p := t) (by omega), n_cl (p := P) (by omega), n_cl (p := e) (by omega)]
  have hV2 := fun a i z => hV a i ((hRt a i).mpr z)
  have main : ∀ (B' : Nat) (N : Nat → Int32), ((B = 0 ∧ B' = 870000) ∨ (B = 870000 ∧ B' = 0)) → N 100 = nI B' → Tm (fun k => x_sweep k 3 N σ) (fun r => SwO g l σ r.2) := by
    intro B' N hBB hN
    refine Tm_suc (fun k => by rw [x_sweep]) ?_
    rw [hN]
    show Tm (fun k => x_sweep k 4 N (mSc σ 54 (nI B'))) _
    refine Tm_suc (fun k => by rw [x_sweep]) ?_
    rw [show (mSc σ 54 (nI B')).1 54 + 4 = nI (B' + 4) from n_add (q := 4) (by omega)]
    show Tm (fun k => x_sweep k 5 N (mSc (mSc σ 54 (nI B')) 55 (nI (B' + 4)))) _
    have h0 : SwM (σ.2.2 28) g l B h B' σ (fun _ _ => False) (mSc (mSc σ 54 (nI B')) 55 (nI (B' + 4))) := by
      obtain ⟨c1, c2, c3, c4, c5⟩ := hS
      have hle := Til_le _ _ c5.1
      have hr := rmS_all (b := h) (by omega) l _ c5.1
      refine ⟨B' + 4, fun _ => false, fun _ => 0, [], ⟨c5, c4, hBB, Nat.le_refl _, rfl, ⟨rfl, by omega, fun v z => absurd z Bool.false_ne_true, fun v n _ _ _ _ i _ => rfl, fun v z => absurd z Bool.false_ne_true, fun w hw => absurd hw (List.not_mem_nil), fun u v z => absurd z Bool.false_ne_true⟩⟩, fun a i z => absurd z id, fun a i _ _ => rfl, fun j q1 q2 => (upd_other q2).trans (upd_other q1), rfl⟩
    have h59 : (mSc (mSc σ 54 (nI B')) 55 (nI (B' + 4))).1 59 = nI t := t1
    generalize mSc (mSc σ 54 (nI B')) 55 (nI (B' + 4)) = υ at h0 h59
    refine Tm_suc (fun k => by rw [x_sweep]) ?_
    rw [h59]
    refine Tm_ob (SwM_ob (a := 29) (f := 0) (c := t) h0 (by decide) (fun i q1 q2 z => z) (fun i q1 q2 => hV2 29 i (Or.inl ⟨rfl, by omega⟩)) (fun h' mv φ l' hS hv => s_cpR29 hS (by omega) hv rfl rfl)) (fun r1 m1 => ?_)
    refine Tm_ob (s_cpS30 (b := 0) (by omega) m1 (fun i q1 q2 z => z.elim id (fun z => by omega)) s30 (fun i hi => hV2 30 i (Or.inr (Or.inl ⟨rfl, hi⟩))) rfl) (fun r2 m2 => ?_)
    refine s_swp6 p2 (fun i z => z.elim (fun z => z.elim id (fun z => by omega)) (fun z => by omega)) s31 (fun p hp i hi => hV2 31 i (Or.inr (Or.inr (Or.inl ⟨rfl, p, hp, hi⟩)))) p1 ?_ P 0 _ _ (by omega) rfl (SwM_iff m2 (fun a i => ⟨Or.inl, fun z => z.elim id (fun z => by obtain ⟨_, p', y, _⟩ := z; omega)⟩))
    intro M τ m3
    have c72 : τ.1 72 = nI e := by
      obtain ⟨_, _, _, _, _, _, _, m4, _⟩ := m3
      exact (m4 72 (by decide) (by decide)).trans e1
    -- what is done so far, in short
    have m3 := SwM_iff (D2 := fun a i => (a < 33 ∧ RtI σ a i)) m3 (fun a i => by
      rw [hRt a i]
      constructor
      · rintro (((z | z) | z) | z)
        · exact absurd z id
        · exact ⟨by omega, Or.inl ⟨z.1, by omega⟩⟩
        · exact ⟨by omega, Or.inr (Or.inl z)⟩
        · exact ⟨by omega, Or.inr (Or.inr (Or.inl z))⟩
      · rintro ⟨z, (y | y | y | y)⟩
        · exact Or.inl (Or.inl (Or.inr ⟨y.1, by omega⟩))
        · exact Or.inl (Or.inr y)
        · exact Or.inr y
        · omega)
    refine Tm_suc (fun k => by rw [x_sweep]) ?_
    refine Tm_ob (SwM_ob (a := 33) (f := 0) (c := 1380) m3 (by decide) (fun i q1 q2 z => by omega) (fun i q1 q2 => hV2 33 i (by omega)) (fun h' mv φ l' hS hv => s_cpR33 hS (by omega) hv rfl rfl)) (fun r3 m4 => ?_)
    have d72 : r3.2.1 72 = nI e := by
      obtain ⟨_, _, _, _, _, _, _, k4, _⟩ := m4
      exact (k4 72 (by decide) (by decide)).trans e1
    rw [d72]
    refine Tm_ob (SwM_ob (a := 34) (f := 0) (c := e) m4 (by decide) (fun i q1 q2 z => by omega) (fun i q1 q2 => hV2 34 i (by omega)) (fun h' mv φ l' hS hv => s_cpR34 hS (by omega) hv rfl rfl)) (fun r4 m5 => ?_)
    refine Tm_ob (SwM_ob (a := 36) (f := 0) (c := 8) m5 (by decide) (fun i q1 q2 z => by omega) (fun i q1 q2 => hV2 36 i (by omega)) (fun h' mv φ l' hS hv => s_cpR36 hS (by omega) hv rfl rfl)) (fun r5 m6 => ?_)
    refine Tm_ob (SwM_ob (a := 37) (f := 0) (c := 8) m6 (by decide) (fun i q1 q2 z => by omega) (fun i q1 q2 => hV2 37 i (by omega)) (fun h' mv φ l' hS hv => s_cpR37 hS (by omega) hv rfl rfl)) (fun r6 m7 => ?_)
    refine Tm_ob (SwM_ob (a := 38) (f := 0) (c := 8) m7 (by decide) (fun i q1 q2 z => by omega) (fun i q1 q2 => hV2 38 i (by omega)) (fun h' mv φ l' hS hv => s_cpR38 hS (by omega) hv rfl rfl)) (fun r7 m8 => ?_)
    refine Tm_ob (SwM_ob (a := 40) (f := 0) (c := 2) m8 (by decide) (fun i q1 q2 z => by omega) (fun i q1 q2 => hV2 40 i (by omega)) (fun h' mv φ l' hS hv => s_cpR40 hS (by omega) hv rfl rfl)) (fun r8 m9 => ?_)
    have m9 := SwM_iff (D2 := RtI σ) m9 (fun a i => by
      constructor
      · rintro ((((((z | z) | z) | z) | z) | z) | z)
        · exact z.2
        all_goals (refine (hRt a i).mpr ?_; omega)
      · intro z
        by_cases y : a < 33
        · exact Or.inl (Or.inl (Or.inl (Or.inl (Or.inl (Or.inl ⟨y, z⟩)))))
        · have z := (hRt a i).mp z
          have : (a = 33 ∧ i < 1380) ∨ (a = 34 ∧ i < e) ∨ (a = 36 ∧ i < 8) ∨ (a = 37 ∧ i < 8) ∨ (a = 38 ∧ i < 8) ∨ (a = 40 ∧ i < 2) := by omega
          clear z
          rcases this with q | q | q | q | q | q
          · exact Or.inl (Or.inl (Or.inl (Or.inl (Or.inl (Or.inr ⟨q.1, by omega, by omega⟩)))))
          · exact Or.inl (Or.inl (Or.inl (Or.inl (Or.inr ⟨q.1, by omega, by omega⟩))))
          · exact Or.inl (Or.inl (Or.inl (Or.inr ⟨q.1, by omega, by omega⟩)))
          · exact Or.inl (Or.inl (Or.inr ⟨q.1, by omega, by omega⟩))
          · exact Or.inl (Or.inr ⟨q.1, by omega, by omega⟩)
          · exact Or.inr ⟨q.1, by omega, by omega⟩)
    have d54 : r8.2.1 54 = nI B' := by
      obtain ⟨_, _, _, _, _, _, _, _, k5⟩ := m9
      exact k5
    rw [d54, show nI B' + 4 = nI (B' + 4) from n_add (q := 4) (by omega)]
    exact s_swp8 hS.2.1 m9 rfl
  refine Tm_suc (fun k => by rw [x_sweep]) ?_
  have hb := HS_b hS
  have hB3 := hS.2.1
  have hh := hS.2.2.2.1
  rw [hL, hS.1, hS.2.2.1, n_sub (by omega) (by omega)]
  refine Tm_ite (fun _ => ?_) (fun w => Tm_some (Or.inl ⟨?_, rfl⟩))
  case refine_2 =>
    by_cases e : T ≤ h - B
    · exact absurd ((n_le (by omega) (by omega)).mpr e) w
    · omega
  refine Tm_suc (fun k => by rw [x_sweep]) ?_
  rw [hS.1]
  have hB2 := hS.2.1
  refine Tm_ite (fun z => ?_) (fun z => ?_)
  · have z := (n_eq0 (by omega)).mp z
    exact Tm_mono (main 870000 _ (Or.inl ⟨z, rfl⟩) rfl) (fun _ => Or.inr)
  · refine Tm_suc (fun k => by rw [x_sweep]) ?_
    refine Tm_mono (main 0 _ (Or.inr ⟨?_, rfl⟩) rfl) (fun _ => Or.inr)
    rcases hB2 with y | y
    · exact absurd (by rw [y]; rfl) z
    · exact y
end SWE

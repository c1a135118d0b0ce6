/-! Evaluation on both sides (reference): sets in brackets. -/
section ESZ
variable {t b c e : Nat}
/-- one side, with an error: out of the loop -/
theorem z_set15 {τ : MS} (hz : ¬ τ.1 56 = 0) (N : Nat → Int32) : Tm (fun k => x_GV k (e + 1) 11 15 N τ) (fun r => r.2 = τ) := by
  refine Tm_suc (fun k => e_setBrackets_15 k _ _ _) ?_
  refine Tm_ite (fun z => absurd z hz) (fun _ => ?_)
  refine Tm_suc (fun k => e_setBrackets_16 k _ _ _) ?_
  refine Tm_ite (fun z => absurd z hz) (fun _ => ?_)
  refine Tm_suc (fun k => e_setBrackets_17 k _ _ _) ?_
  refine Tm_ite (fun z => absurd z hz) (fun _ => ?_)
  refine Tm_suc (fun k => e_setBrackets_18 k _ _ _) ?_
  exact Tm_some rfl
theorem z_set14 {τ : MS} (hz : ¬ τ.1 56 = 0) (hc : c < 70000) {N : Nat → Int32} (h5 : N 5 = nI c) : Tm (fun k => x_GV k (e + 1) 11 14 N τ) (fun r => r.2 = τ) := by
  refine Tm_suc (fun k => e_setBrackets_14 k _ _ _) ?_
  rw [h5]
  refine Tm_chk (n_in (by omega) (by omega)) ?_
  refine Tm_suc (fun k => e_setBrackets_1 k _ _ _) ?_
  refine Tm_ite (fun _ => z_set15 hz _) (fun _ => ?_)
  exact Tm_ite (fun z => absurd z hz) (fun _ => z_set15 hz _)
theorem z_set8 {τ : MS} {v : Nat} (hZ : EZ t b τ) (hb : b ≤ 185000) (htb : t ≤ b) (hc : c < 70000) (hv9 : v ≤ 60100) (h59 : τ.1 59 = nI (t + v)) : ∀ (q i : Nat) (N : Nat → Int32), q + i = v → N 2 = nI t → N 5 = nI c → N 7 = nI (t + i) → Tm (fun k => x_GV k (e + 1) 11 8 N τ) (fun r => FE τ r.2 ∧ EZ t b r.2) := by
  have f59 : ∀ (x : Int32), FE τ (mSc τ 59 x) := fun x => FE_sc (Or.inr (Or.inr (Or.inl rfl)))
  have hv : t + v ≤ 185000 ∧ ∃ (g : Nat → Prop) (l : List Nat) (B h : Nat), MI (t + v) 870000 g l B h τ := by
    obtain ⟨g, l, B, h, t', m, c1, c2, c3, _⟩ := hZ
    have et : t' = t + v := (n_eq (by omega) (by omega)).mp (c1.symm.trans h59)
    subst et
    exact ⟨by omega, g, l, B, h, m⟩
  intro q
  induction q with
  | zero =>
    intro i N hi n2 n5 n7
    refine Tm_suc (fun k => e_setBrackets_8 k _ _ _) ?_
    rw [h59, n7]
    refine Tm_ite (fun _ => ?_) (fun z => absurd ((n_le (by omega) (by omega)).mpr (by omega)) z)
    refine Tm_suc (fun k => e_setBrackets_9 k _ _ _) ?_
    refine Tm_ite (fun _ => ?_) (fun _ => ?_)
    · refine Tm_suc (fun k => e_setBrackets_10 k _ _ _) ?_
      refine Tm_suc (fun k => e_setBrackets_11 k _ _ _) ?_
      refine Tm_ite (c := (0 : Int32) = 0) (fun _ => ?_) (fun z => absurd rfl z)
      refine Tm_suc (fun k => e_setBrackets_12 k _ _ _) ?_
      refine Tm_suc (fun k => e_setBrackets_13 k _ _ _) ?_
      refine Tm_mono (z_set14 (τ := mSc τ 59 (τ.1 59)) (EZ_e (EZ_59 hZ)) hc (by exact n5)) (fun r hr => ?_)
      rw [hr]; exact ⟨f59 _, EZ_59 hZ⟩
    · refine Tm_suc (fun k => e_setBrackets_11 k _ _ _) ?_
      refine Tm_ite (c := (1 : Int32) = 0) (fun z => absurd z (by decide)) (fun _ => ?_)
      refine Tm_suc (fun k => e_setBrackets_13 k _ _ _) ?_
      have hd : EZ t b (mSc τ 59 (nI t)) := EZ_dn hZ (Nat.le_refl _) htb
      refine Tm_mono (z_set14 (τ := mSc τ 59 (N 2)) (by rw [n2]; exact EZ_e hd) hc (by exact n5)) (fun r hr => ?_)
      rw [hr, n2]; exact ⟨f59 _, hd⟩
  | succ q ih =>
    intro i N hi n2 n5 n7
    obtain ⟨hv1, g, l, B, h, m⟩ := hv
    refine Tm_suc (fun k => e_setBrackets_8 k _ _ _) ?_
    rw [h59, n7]
    refine Tm_ite (fun z => absurd ((n_le (by omega) (by omega)).mp z) (by omega)) (fun _ => ?_)
    refine Tm_chk (n_in (by omega) (by omega)) ?_
    rw [n_cl (p := t + i) (by omega)]
    obtain ⟨x, x1, x2⟩ := m.2.2.1 29 (t + i) (Or.inl ⟨rfl, by omega⟩)
    refine Tm_ob (s_size m.1 x2 (by exact x1)) (fun r hr => ?_)
    rw [hr]
    exact ih (i + 1) _ (by omega) n2 n5 (by show nI (t + i) + 1 = _; rw [n_add1]; rfl)
theorem z_set7 {τ : MS} (hZ : EZ t b τ) (hb : b ≤ 185000) (htb : t ≤ b) (hc : c < 70000) {N : Nat → Int32} (n2 : N 2 = nI t) (n5 : N 5 = nI c) : Tm (fun k => x_GV k (e + 1) 11 7 N τ) (fun r => FE τ r.2 ∧ EZ t b r.2) := by
  have hZ0 := hZ
  obtain ⟨g, l, B, h, t', m, c1, c2, c3, _⟩ := hZ
  refine Tm_suc (fun k => e_setBrackets_7 k _ _ _) ?_
  rw [c1, n2, n_sub (by omega) c2]
  refine Tm_ite (fun z => ?_) (fun _ => ?_)
  · have z : t' - t = 1200 := (n_eq (q := 1200) (by omega) (by decide)).mp z
    have et : t' = t + 1200 := by omega
    refine Tm_ob (Z_dis hZ0 hb (by rw [c1, et]) (by decide) rfl) (fun r hr => ?_)
    obtain ⟨f1, v, hv, q1, hz⟩ := hr
    refine Tm_mono (z_set8 hz hb htb hc (by omega) q1 v 0 _ (by omega) n2 n5 rfl) (fun r' hr' => ?_)
    exact ⟨FE_tr f1 hr'.1, hr'.2⟩
  · refine Tm_mono (z_set14 (EZ_e hZ0) hc n5) (fun r hr => ?_)
    rw [hr]; exact ⟨FE_rf, hZ0⟩
theorem z_set5 {τ : MS} (hZ : EZ t b τ) (hb : b ≤ 185000) (htb : t ≤ b) (hc : c < 70000) {N : Nat → Int32} (n2 : N 2 = nI t) (n5 : N 5 = nI c) : Tm (fun k => x_GV k (e + 1) 11 5 N τ) (fun r => FE τ r.2 ∧ EZ t b r.2) := by
  refine Tm_suc (fun k => e_setBrackets_5 k _ _ _) ?_
  refine Tm_ite (fun z => absurd z (EZ_e hZ)) (fun _ => ?_)
  exact z_set7 hZ hb htb hc n2 n5
theorem z_set2 {τ : MS} (hZ : EZ t b τ) (hb : b ≤ 185000) (htb : t ≤ b) (hc : c < 70000) {N : Nat → Int32} (n2 : N 2 = nI t) (n5 : N 5 = nI c) : Tm (fun k => x_GV k (e + 1) 11 2 N τ) (fun r => FE τ r.2 ∧ EZ t b r.2) := by
  refine Tm_suc (fun k => e_setBrackets_2 k _ _ _) ?_
  refine Tm_ite (fun _ => ?_) (fun _ => ?_)
  · refine Tm_suc (fun k => e_setBrackets_4 k _ _ _) ?_
    exact z_set5 hZ hb htb hc n2 n5
  · refine Tm_suc (fun k => e_setBrackets_3 k _ _ _) ?_
    exact z_set5 hZ hb htb hc n2 n5
end ESZ

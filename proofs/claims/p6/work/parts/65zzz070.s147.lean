/-! Values upon the pile, with what lives (reference). -/
section MIP
variable {g g' : Nat → Prop} {l l' : List Nat} {B h t u X : Nat} {σ τ ρ : MS}
theorem RoS_set {m : Nat} {x : Int32} (hx : x = nI m) (hm : m < 1740000) {v : Nat} (hv : RoS (t + 1) (mAr σ 29 t x) v) : RoS t σ v ∨ (v = m ∧ 3 ≤ m) := by
  obtain ⟨z1, z2, a, i, z3, z4⟩ := hv
  have hR := RtP_c (t := t + 1) (τ := mAr σ 29 t x) (σ := σ) rfl rfl (mAr_o (by decide)) (mAr_o (by decide))
  rcases RtP_up ((hR a i).mp z3) with y | ⟨y1, y2⟩
  · by_cases e : a = 29
    · subst e
      by_cases e2 : i = t
      · subst e2
        rw [mAr_s, upd_same, hx] at z4
        have := (n_eq (by omega) (by omega)).mp z4
        exact Or.inr ⟨this.symm, by omega⟩
      · rw [mAr_s, upd_other e2] at z4
        exact Or.inl ⟨z1, z2, 29, i, y, z4⟩
    · rw [mAr_o e] at z4
      exact Or.inl ⟨z1, z2, a, i, y, z4⟩
  · subst y1; subst y2
    rw [mAr_s, upd_same, hx] at z4
    have := (n_eq (by omega) (by omega)).mp z4
    exact Or.inr ⟨this.symm, by omega⟩
theorem Vd_set {x : Int32} (hM : ∀ a i, RtP t σ a i → Vd g (σ.2.2 a i)) (hx : Vd g x) : ∀ a i, RtP (t + 1) (mAr σ 29 t x) a i → Vd g ((mAr σ 29 t x).2.2 a i) := by
  intro a i z
  have hR := RtP_c (t := t + 1) (τ := mAr σ 29 t x) (σ := σ) rfl rfl (mAr_o (by decide)) (mAr_o (by decide))
  by_cases e : a = 29
  · subst e
    by_cases e2 : i = t
    · subst e2; rw [mAr_s, upd_same]; exact hx
    · rw [mAr_s, upd_other e2]
      rcases RtP_up ((hR 29 i).mp z) with y | y
      · exact hM 29 i y
      · exact absurd y.2 e2
  · rw [mAr_o e]
    rcases RtP_up ((hR a i).mp z) with y | y
    · exact hM a i y
    · exact absurd y.1 e
/-- a value is put upon the pile -/
theorem MI_set (hM : MI t X g l B h σ) {m : Nat} (hm : m < 3 ∨ g m) : MI (t + 1) (X + 6 * szN (σ.2.2 28) m) g l B h (mAr σ 29 t (nI m)) := by
  obtain ⟨m1, m2, m3, m4⟩ := hM
  have hmb := HS_vb m1 hm
  have hb := HS_b m1
  refine ⟨HS_c m1 rfl rfl (mAr_o (by decide)), RtQ_c (τ := mAr σ 29 t (nI m)) rfl rfl (mAr_o (by decide)) (mAr_o (by decide)) m2, Vd_set m3 ⟨m, rfl, hm⟩, ?_⟩
  rw [show (mAr σ 29 t (nI m)).2.2 28 = σ.2.2 28 from mAr_o (by decide)]
  exact LVc_mo (fun v z => Rch_b (RoS_set rfl hmb z)) (LVc_add m1.2.2.2.2 hb.2 hm m4)
/-- one that can be reached already -/
theorem MI_str (hM : MI t X g l B h σ) {m : Nat} (hm : m < 3 ∨ Rch (σ.2.2 28) (RoS t σ) m) : MI (t + 1) X g l B h (mAr σ 29 t (nI m)) := by
  obtain ⟨m1, m2, m3, m4⟩ := hM
  have hb := HS_b m1
  have hgm : m < 3 ∨ g m := hm.imp id (fun z => Rch_good m1.2.2.2.2 hb.2 (fun v => RoS_good m1 m3) z)
  have hmb := HS_vb m1 hgm
  refine ⟨HS_c m1 rfl rfl (mAr_o (by decide)), RtQ_c (τ := mAr σ 29 t (nI m)) rfl rfl (mAr_o (by decide)) (mAr_o (by decide)) m2, Vd_set m3 ⟨m, rfl, hgm⟩, ?_⟩
  rw [show (mAr σ 29 t (nI m)).2.2 28 = σ.2.2 28 from mAr_o (by decide)]
  refine LVc_mo (fun v z => ?_) m4
  rcases RoS_set rfl hmb z with y | ⟨y1, y2⟩
  · exact Rch_b y
  · rw [y1]; exact hm.resolve_left (by omega)
theorem mAr_same {a i : Nat} {x : Int32} (h : σ.2.2 a i = x) : (mAr σ a i x).2.2 = σ.2.2 := by
  funext b
  by_cases e : b = a
  · subst e
    rw [mAr_s]
    funext j
    by_cases e2 : j = i
    · subst e2; rw [upd_same]; exact h.symm
    · rw [upd_other e2]
  · rw [mAr_o e]
theorem MI_59 {x : Int32} (hM : MI t X g l B h σ) : MI t X g l B h (mSc σ 59 x) := MI_c hM rfl rfl rfl rfl rfl
theorem MI_pu (hM : MI t X g l B h σ) {m : Nat} (hm : m < 3 ∨ g m) : MI (t + 1) (X + 6 * szN (σ.2.2 28) m) g l B h (mPu σ t (nI m)) := MI_59 (MI_set hM hm)
theorem MI_pur (hM : MI t X g l B h σ) {m : Nat} (hm : m < 3 ∨ Rch (σ.2.2 28) (RoS t σ) m) : MI (t + 1) X g l B h (mPu σ t (nI m)) := MI_59 (MI_str hM hm)
/-- the same arrays, other numbers -/
theorem EO_c (hM : MI t X g l B h σ) (ha : τ.2.2 = σ.2.2) (hs : ∀ j, ¬ ((54 ≤ j ∧ j ≤ 57) ∨ j = 59 ∨ (84 ≤ j ∧ j ≤ 90) ∨ j = 93 ∨ j = 100 ∨ j = 101) → τ.1 j = σ.1 j) : EO t g σ g τ := by
  refine ⟨fun a i z => ?_, fun a i _ _ => by rw [ha], hs⟩
  rw [ha]; exact Vd_VC hM.1 (hM.2.2.1 a i z)
theorem EO_set {x : Int32} (hu : t ≤ u) (hM : MI t X g l B h σ) : EO t g σ g (mAr σ 29 u x) := by
  refine ⟨fun a i z => ?_, fun a i ha _ => by rw [mAr_o (by omega)], fun _ _ => rfl⟩
  rw [show (mAr σ 29 u x).2.2 28 = σ.2.2 28 from mAr_o (by decide)]
  have e : (mAr σ 29 u x).2.2 a i = σ.2.2 a i := by
    by_cases e : a = 29
    · subst e
      have hi : i < t := by unfold RtP at z; omega
      rw [mAr_s, upd_other (by omega)]
    · rw [mAr_o e]
  rw [e]; exact Vd_VC hM.1 (hM.2.2.1 a i z)
theorem EO_pu {x : Int32} (hu : t ≤ u) (hM : MI t X g l B h σ) : EO t g σ g (mPu σ u x) := ⟨(EO_set hu hM).1, (EO_set hu hM).2.1, fun j hj => mPu_s (by omega)⟩
/-- no more lives than there is -/
theorem MI_any (hS : HS g l B h σ) (hQ : RtQ σ) (hV : ∀ a i, RtP t σ a i → Vd g (σ.2.2 a i)) : MI t 870000 g l B h σ := by
  have hb := HS_b hS
  have hh := hS.2.2.2.1
  refine ⟨hS, hQ, hV, fun N => ?_⟩
  have := lvN_til (H := σ.2.2 28) (b := h) (by omega) N l _ (Rch (σ.2.2 28) (RoS t σ)) hS.2.2.2.2.1 (fun v z => (hS.2.2.2.2.2 v (Rch_good hS.2.2.2.2 hb.2 (fun v => RoS_good hS hV) z)).1)
  omega
/-- more of the pile are values -/
theorem MI_pl {n : Nat} (hM : MI t X g l B h σ) (hP : PLv g (σ.2.2 29) t n) : MI (t + n) 870000 g l B h σ := by
  refine MI_any hM.1 hM.2.1 (fun a i z => ?_)
  by_cases e : RtP t σ a i
  · exact hM.2.2.1 a i e
  · unfold RtP at z e
    rcases z with z | z
    · obtain ⟨z1, z2⟩ := z
      subst z1
      have : t ≤ i := by
        by_cases q : i < t
        · exact absurd (Or.inl ⟨rfl, q⟩) e
        · omega
      have := hP (i - t) (by omega)
      rw [show t + (i - t) = i by omega] at this
      exact this
    · exact absurd (Or.inr z) e
/-- what is upon the pile is a value -/
theorem MI_at (hM : MI t X g l B h σ) {i : Nat} (hi : i < t) : ∃ m, σ.2.2 29 i = nI m ∧ (m < 3 ∨ g m) ∧ (m < 3 ∨ RoS t σ m) := by
  have hR : RtP t σ 29 i := Or.inl ⟨rfl, hi⟩
  obtain ⟨m, m1, m2⟩ := hM.2.2.1 29 i hR
  refine ⟨m, m1, m2, ?_⟩
  by_cases c : m < 3
  · exact Or.inl c
  · exact Or.inr ⟨by omega, HS_vb hM.1 m2, 29, i, hR, m1⟩
theorem EO_dn (hu : u ≤ t) (a : EO t g σ g' ρ) : EO u g σ g' ρ := EO_mo hu a (fun x i y z => by
  unfold RtP at y z
  by_cases e : x = 29
  · exact e
  · rcases y with y | y
    · exact y.1
    · exact absurd (Or.inr y) z)
/-- a member of what can be reached -/
theorem Rch_mem (hS : HS g l B h σ) {S : Nat → Prop} {v n i m : Nat} (hv : Rch (σ.2.2 28) S v) (hk : 5 ≤ kdN (σ.2.2 28) v) (gv : g v) (hn : σ.2.2 28 (v + 1) = nI n) (hn2 : n ≤ 3996) (hi : i < n) (hm : σ.2.2 28 (v + 4 + i) = nI m) (hm2 : m < 3 ∨ g m) : m < 3 ∨ Rch (σ.2.2 28) S m := by
  by_cases c : m < 3
  · exact Or.inl c
  · obtain ⟨n', q1, q2, q3, q4, q5, q6, q7⟩ := ob_at hS gv
    have hb := HS_b hS
    have e : n' = n := (n_eq (by omega) (by omega)).mp (q1.symm.trans hn)
    subst e
    refine Or.inr (Rch_s hv ?_ q1 q2 hi hm (by omega) (HS_vb hS hm2))
    have : kdN (σ.2.2 28) v = 5 ∨ kdN (σ.2.2 28) v = 6 := by omega
    rcases this with y | y
    · exact Or.inl (by rw [q5, y])
    · exact Or.inr (by rw [q5, y])
end MIP

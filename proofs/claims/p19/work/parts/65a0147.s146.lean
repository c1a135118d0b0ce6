section JnS146
/-! The state with all its values, and how it goes on (reference). -/
section MIS
variable {g g' : Nat → Prop} {l l' : List Nat} {B h t u X : Nat} {σ τ ρ : MS}
theorem RtP_mo (hu : u ≤ t) {a i : Nat} (h : RtP u σ a i) : RtP t σ a i := by
  unfold RtP at h ⊢
  rcases h with h | h
  · exact Or.inl ⟨h.1, by omega⟩
  · exact Or.inr h
theorem RtP_up {a i : Nat} (h : RtP (t + 1) σ a i) : RtP t σ a i ∨ (a = 29 ∧ i = t) := by
  unfold RtP at h ⊢
  rcases h with h | h
  · by_cases e : i = t
    · exact Or.inr ⟨h.1, e⟩
    · exact Or.inl (Or.inl ⟨h.1, by omega⟩)
  · exact Or.inl (Or.inr h)
theorem RoS_good (hS : HS g l B h σ) (hV : ∀ a i, RtP t σ a i → Vd g (σ.2.2 a i)) {v : Nat} (hv : RoS t σ v) : g v := by
  obtain ⟨v1, v2, a, i, hR, e⟩ := hv
  obtain ⟨m, m1, m2⟩ := hV a i hR
  have hm := HS_vb hS m2
  have : v = m := (n_eq (by omega) (by omega)).mp (e.symm.trans m1)
  subst this
  exact m2.resolve_left (by omega)
theorem MI_mo (hM : MI t X g l B h σ) (hu : u ≤ t) : MI u X g l B h σ := by
  obtain ⟨m1, m2, m3, m4⟩ := hM
  refine ⟨m1, m2, fun a i z => m3 a i (RtP_mo hu z), LVc_mo (fun v z => Rch_b ?_) m4⟩
  obtain ⟨z1, z2, a, i, z3, z4⟩ := z
  exact ⟨z1, z2, a, i, RtP_mo hu z3, z4⟩
theorem MI_X {Y : Nat} (hM : MI t X g l B h σ) (hXY : X ≤ Y) : MI t Y g l B h σ := ⟨hM.1, hM.2.1, hM.2.2.1, LVc_le hM.2.2.2 hXY⟩
theorem RtP_c (h63 : τ.1 63 = σ.1 63) (h72 : τ.1 72 = σ.1 72) (h30 : τ.2.2 30 = σ.2.2 30) (h31 : τ.2.2 31 = σ.2.2 31) (a i : Nat) : RtP t τ a i ↔ RtP t σ a i := by
  unfold RtP
  rw [h63, h72, h30, h31]
theorem RtQ_c (h63 : τ.1 63 = σ.1 63) (h72 : τ.1 72 = σ.1 72) (h30 : τ.2.2 30 = σ.2.2 30) (h31 : τ.2.2 31 = σ.2.2 31) (hQ : RtQ σ) : RtQ τ := by
  unfold RtQ at hQ ⊢
  rw [h63, h72, h30, h31]; exact hQ
/-- the same values -/
theorem MI_c (hM : MI t X g l B h σ) (h54 : τ.1 54 = σ.1 54) (h55 : τ.1 55 = σ.1 55) (h63 : τ.1 63 = σ.1 63) (h72 : τ.1 72 = σ.1 72) (ha : τ.2.2 = σ.2.2) : MI t X g l B h τ := by
  obtain ⟨m1, m2, m3, m4⟩ := hM
  have hR := RtP_c (t := t) h63 h72 (congrFun ha 30) (congrFun ha 31)
  refine ⟨HS_c m1 h54 h55 (congrFun ha 28), RtQ_c h63 h72 (congrFun ha 30) (congrFun ha 31) m2, fun a i z => ?_, ?_⟩
  · rw [ha]; exact m3 a i ((hR a i).mp z)
  · rw [ha]
    refine LVc_mo (fun v z => Rch_b ?_) m4
    obtain ⟨z1, z2, a, i, z3, z4⟩ := z
    exact ⟨z1, z2, a, i, (hR a i).mp z3, by rw [← ha]; exact z4⟩
theorem VC_gr (hS : HS g l B h σ) (a : HG g B h σ ρ g' l' u) {x : Int32} (hx : Vd g x) : VC g g' (σ.2.2 28) (ρ.2.2 28) x x := by
  obtain ⟨m, m1, m2⟩ := hx
  have hmb := HS_vb hS m2
  exact ⟨m, m, m1, m2, m1, m2.imp id (a.2.1 m), EVb_gr hS.2.2.2.2 (HS_b hS).2 a.2.2.2 m2, hmb, hmb⟩
/-- an operation on values -/
theorem MI_gr (hM : MI t X g l B h σ) (a : HG g B h σ ρ g' l' u) (hF : FW t σ ρ) : MI t X g' l' B u ρ ∧ EO t g σ g' ρ := by
  obtain ⟨m1, m2, m3, m4⟩ := hM
  have h63 : ρ.1 63 = σ.1 63 := hF.1 63 (by decide)
  have h72 : ρ.1 72 = σ.1 72 := hF.1 72 (by decide)
  have h30 : ρ.2.2 30 = σ.2.2 30 := hF.2.1 30 (by decide)
  have h31 : ρ.2.2 31 = σ.2.2 31 := hF.2.1 31 (by decide)
  have hR := RtP_c (t := t) h63 h72 h30 h31
  have same : ∀ b i, RtP t σ b i → ρ.2.2 b i = σ.2.2 b i := fun b i z => by
    unfold RtP at z
    by_cases e : b = 29
    · subst e
      have hi : i < t := by omega
      exact hF.2.2 i hi
    · exact congrFun (hF.2.1 b (by omega)) i
  refine ⟨⟨a.1, RtQ_c h63 h72 h30 h31 m2, fun b i z => ?_, ?_⟩, fun b i z => ?_, fun b i hb _ => congrFun (hF.2.1 b hb) i, fun j hj => hF.1 j (by omega)⟩
  · rw [same b i ((hR b i).mp z)]
    exact Vd_mo (m3 b i ((hR b i).mp z)) a.2.1
  · have hb := HS_b m1
    have hg := fun v => RoS_good (v := v) m1 m3
    refine LVc_mo (fun v z => Rch_b ?_) (LVc_gr m1.2.2.2.2 hb.2 hg a.2.2.2 m4)
    obtain ⟨z1, z2, b, i, z3, z4⟩ := z
    have z3 := (hR b i).mp z3
    exact ⟨z1, z2, b, i, z3, by rw [← same b i z3]; exact z4⟩
  · rw [same b i z]; exact VC_gr m1 a (m3 b i z)
/-- a sweep -/
theorem MI_sw {T : Nat} (hM : MI t X g l B h σ) (h59 : σ.1 59 = nI t) (ht : t ≤ 185000) {L : Nat → Int32} (hL : L 1 = nI T) (hT : T ≤ 870000) : Tm (fun k => x_sweep k 0 L σ) (fun r => ∃ g' l' B' h', MI t X g' l' B' h' r.2 ∧ EO t g σ g' r.2 ∧ (∀ j, j ≠ 54 → j ≠ 55 → r.2.1 j = σ.1 j) ∧ (h' < B' + T ∨ h' ≤ B' + 4 + X)) := by
  obtain ⟨m1, m2, m3, m4⟩ := hM
  have hb := HS_b m1
  have hg := fun v => RoS_good (v := v) m1 m3
  have hS0 : HS (Rch (σ.2.2 28) (RoS t σ)) l B h σ := ⟨m1.1, m1.2.1, m1.2.2.1, m1.2.2.2.1, HO_rch m1.2.2.2.2 hb.2 hg⟩
  have hsub : ∀ v, Rch (σ.2.2 28) (RoS t σ) v → g v := fun v z => Rch_good m1.2.2.2.2 hb.2 hg z
  have htop : (σ.1 59).toNatClampNeg = t := by rw [h59, n_cl (by omega)]
  have hI : ∀ a i, RtI σ a i ↔ RtP t σ a i := fun a i => by unfold RtI; rw [htop]
  have hB : RtB σ := by
    obtain ⟨P, e, q⟩ := m2
    exact ⟨t, P, e, h59, ht, q⟩
  have hV : RtV (Rch (σ.2.2 28) (RoS t σ)) σ := fun a i z => by
    have z := (hI a i).mp z
    obtain ⟨m, k1, k2⟩ := m3 a i z
    refine ⟨m, k1, ?_⟩
    by_cases c : m < 3
    · exact Or.inl c
    · exact Or.inr (Rch_b ⟨by omega, HS_vb m1 k2, a, i, z, k1⟩)
  refine Tm_mono (s_sweep hS0 hB hV hL hT) (fun r hr => ?_)
  rcases hr with ⟨hlt, e⟩ | hr
  · refine ⟨g, l, B, h, ?_, ?_, ?_, Or.inl hlt⟩
    · rw [e]; exact ⟨m1, m2, m3, m4⟩
    · rw [e]; exact ⟨fun a i z => Vd_VC m1 (m3 a i z), fun _ _ _ _ => rfl, fun _ _ => rfl⟩
    · rw [e]; exact fun _ _ _ => rfl
  · obtain ⟨g', l', B', h', k1, k2, k3, k4, k5⟩ := hr
    have hE : EO t g σ g' r.2 := by
      refine ⟨fun a i z => ?_, fun a i ha z => k4 a i (by omega) (fun y => z ((hI a i).mp y)), fun j hj => k5 j (by omega) (by omega)⟩
      obtain ⟨m, m', q1, q2, q3, q4, q5⟩ := k3 a i ((hI a i).mpr z)
      exact ⟨m, m', q1, q2.imp id (hsub m), q3, q4, q5⟩
    obtain ⟨c1, c2⟩ := EO_rt m2 hE
    have hlv : lvs (σ.2.2 28) (Rch (σ.2.2 28) (RoS t σ)) l ≤ X := by
      have h1 := lvs_N (H := σ.2.2 28) (S := Rch (σ.2.2 28) (RoS t σ)) (b := h) (by omega) l _ m1.2.2.2.2.1
      have h2 := m4 h
      omega
    have hb' := HS_b k1
    refine ⟨g', l', B', h', ⟨k1, c1, fun a i z => ?_, fun N => ?_⟩, hE, k5, Or.inr (by omega)⟩
    · obtain ⟨m, m', q1, q2, q3, q4, q5⟩ := hE.1 a i ((c2 t a i).mp z)
      exact ⟨m', q3, q4⟩
    · have hV' : ∀ a i, RtP t r.2 a i → Vd g' (r.2.2.2 a i) := fun a i z => by
        obtain ⟨m, m', q1, q2, q3, q4, q5⟩ := hE.1 a i ((c2 t a i).mp z)
        exact ⟨m', q3, q4⟩
      have hg' := fun v => RoS_good (v := v) k1 hV'
      have h1 := lvN_til (H := r.2.2.2 28) (b := h') (by omega) N l' _ (Rch (r.2.2.2 28) (RoS t r.2)) k1.2.2.2.2.1 (fun v z => (k1.2.2.2.2.2 v (Rch_good k1.2.2.2.2 hb'.2 hg' z)).1)
      omega
/-- one after another -/
theorem EO_tr (hQ : RtQ σ) {g1 g2 : Nat → Prop} (a : EO t g σ g1 τ) (b : EO t g1 τ g2 ρ) : EO t g σ g2 ρ := by
  obtain ⟨c1, c2⟩ := EO_rt hQ a
  refine ⟨fun x i z => ?_, fun x i hx z => ?_, fun j hj => (b.2.2 j hj).trans (a.2.2 j hj)⟩
  · obtain ⟨m, m', q1, q2, q3, q4, q5, q6, q7⟩ := a.1 x i z
    obtain ⟨p, p', r1, r2, r3, r4, r5, r6, r7⟩ := b.1 x i ((c2 t x i).mpr z)
    have e : p = m' := (n_eq (by omega) (by omega)).mp (r1.symm.trans q3)
    subst e
    exact ⟨m, p', q1, q2, r3, r4, EVb_tr q5 r5, q6, r7⟩
  · rw [b.2.1 x i hx (fun y => z ((c2 t x i).mp y))]; exact a.2.1 x i hx z
theorem EO_mo (hu : u ≤ t) (a : EO t g σ g' ρ) (h : ∀ x i, RtP t σ x i → ¬ RtP u σ x i → x = 29) : EO u g σ g' ρ := by
  refine ⟨fun x i z => a.1 x i (RtP_mo hu z), fun x i hx z => ?_, a.2.2⟩
  exact a.2.1 x i hx (fun y => hx (Or.inr (Or.inl (h x i y z))))
end MIS
end JnS146
section JnS147
/-! Values upon the pile, with what lives (reference). -/
section MIP
variable {g g' : Nat → Prop} {l l' : List Nat} {B h t u X : Nat} {σ τ ρ : MS}
theorem RoS_set {m : Nat} {x : Int32} (hx : x = nI m) (hm : m < 1740000) {v : Nat} (hv : RoS (t + 1) (mAr σ 29 t x) v) : RoS t σ v ∨ (v = m ∧ 3 ≤ m) := by
  obtain ⟨z1, z2, a, i, z3, z4⟩ := hv
  have hR := RtP_c (t := t + 1) (τ := mAr σ 29 t x) (σ := σ) rfl rfl (mAr_o (by decide)) (mAr_o (by decide))
  rcases RtP_up ((hR a i).mp z3) with y | ⟨y1, y2⟩
  · by_cases e : a = 29
    · subst e
      by_cases e2 : i = t
      · subst e2
        rw [mAr_s, upd_same, hx] at z4
        have := (n_eq (by omega) (by omega)).mp z4
        exact Or.inr ⟨this.symm, by omega⟩
      · rw [mAr_s, upd_other e2] at z4
        exact Or.inl ⟨z1, z2, 29, i, y, z4⟩
    · rw [mAr_o e] at z4
      exact Or.inl ⟨z1, z2, a, i, y, z4⟩
  · subst y1; subst y2
    rw [mAr_s, upd_same, hx] at z4
    have := (n_eq (by omega) (by omega)).mp z4
    exact Or.inr ⟨this.symm, by omega⟩
theorem Vd_set {x : Int32} (hM : ∀ a i, RtP t σ a i → Vd g (σ.2.2 a i)) (hx : Vd g x) : ∀ a i, RtP (t + 1) (mAr σ 29 t x) a i → Vd g ((mAr σ 29 t x).2.2 a i) := by
  intro a i z
  have hR := RtP_c (t := t + 1) (τ := mAr σ 29 t x) (σ := σ) rfl rfl (mAr_o (by decide)) (mAr_o (by decide))
  by_cases e : a = 29
  · subst e
    by_cases e2 : i = t
    · subst e2; rw [mAr_s, upd_same]; exact hx
    · rw [mAr_s, upd_other e2]
      rcases RtP_up ((hR 29 i).mp z) with y | y
      · exact hM 29 i y
      · exact absurd y.2 e2
  · rw [mAr_o e]
    rcases RtP_up ((hR a i).mp z) with y | y
    · exact hM a i y
    · exact absurd y.1 e
/-- a value is put upon the pile -/
theorem MI_set (hM : MI t X g l B h σ) {m : Nat} (hm : m < 3 ∨ g m) : MI (t + 1) (X + 6 * szN (σ.2.2 28) m) g l B h (mAr σ 29 t (nI m)) := by
  obtain ⟨m1, m2, m3, m4⟩ := hM
  have hmb := HS_vb m1 hm
  have hb := HS_b m1
  refine ⟨HS_c m1 rfl rfl (mAr_o (by decide)), RtQ_c (τ := mAr σ 29 t (nI m)) rfl rfl (mAr_o (by decide)) (mAr_o (by decide)) m2, Vd_set m3 ⟨m, rfl, hm⟩, ?_⟩
  rw [show (mAr σ 29 t (nI m)).2.2 28 = σ.2.2 28 from mAr_o (by decide)]
  exact LVc_mo (fun v z => Rch_b (RoS_set rfl hmb z)) (LVc_add m1.2.2.2.2 hb.2 hm m4)
/-- one that can be reached already -/
theorem MI_str (hM : MI t X g l B h σ) {m : Nat} (hm : m < 3 ∨ Rch (σ.2.2 28) (RoS t σ) m) : MI (t + 1) X g l B h (mAr σ 29 t (nI m)) := by
  obtain ⟨m1, m2, m3, m4⟩ := hM
  have hb := HS_b m1
  have hgm : m < 3 ∨ g m := hm.imp id (fun z => Rch_good m1.2.2.2.2 hb.2 (fun v => RoS_good m1 m3) z)
  have hmb := HS_vb m1 hgm
  refine ⟨HS_c m1 rfl rfl (mAr_o (by decide)), RtQ_c (τ := mAr σ 29 t (nI m)) rfl rfl (mAr_o (by decide)) (mAr_o (by decide)) m2, Vd_set m3 ⟨m, rfl, hgm⟩, ?_⟩
  rw [show (mAr σ 29 t (nI m)).2.2 28 = σ.2.2 28 from mAr_o (by decide)]
  refine LVc_mo (fun v z => ?_) m4
  rcases RoS_set rfl hmb z with y | ⟨y1, y2⟩
  · exact Rch_b y
  · rw [y1]; exact hm.resolve_left (by omega)
theorem mAr_same {a i : Nat} {x : Int32} (h : σ.2.2 a i = x) : (mAr σ a i x).2.2 = σ.2.2 := by
  funext b
  by_cases e : b = a
  · subst e
    rw [mAr_s]
    funext j
    by_cases e2 : j = i
    · subst e2; rw [upd_same]; exact h.symm
    · rw [upd_other e2]
  · rw [mAr_o e]
theorem MI_59 {x : Int32} (hM : MI t X g l B h σ) : MI t X g l B h (mSc σ 59 x) := MI_c hM rfl rfl rfl rfl rfl
theorem MI_pu (hM : MI t X g l B h σ) {m : Nat} (hm : m < 3 ∨ g m) : MI (t + 1) (X + 6 * szN (σ.2.2 28) m) g l B h (mPu σ t (nI m)) := MI_59 (MI_set hM hm)
theorem MI_pur (hM : MI t X g l B h σ) {m : Nat} (hm : m < 3 ∨ Rch (σ.2.2 28) (RoS t σ) m) : MI (t + 1) X g l B h (mPu σ t (nI m)) := MI_59 (MI_str hM hm)
/-- the same arrays, other numbers -/
theorem EO_c (hM : MI t X g l B h σ) (ha : τ.2.2 = σ.2.2) (hs : ∀ j, ¬ ((54 ≤ j ∧ j ≤ 57) ∨ j = 59 ∨ (84 ≤ j ∧ j ≤ 90) ∨ j = 93 ∨ j = 100 ∨ j = 101) → τ.1 j = σ.1 j) : EO t g σ g τ := by
  refine ⟨fun a i z => ?_, fun a i _ _ => by rw [ha], hs⟩
  rw [ha]; exact Vd_VC hM.1 (hM.2.2.1 a i z)
theorem EO_set {x : Int32} (hu : t ≤ u) (hM : MI t X g l B h σ) : EO t g σ g (mAr σ 29 u x) := by
  refine ⟨fun a i z => ?_, fun a i ha _ => by rw [mAr_o (by omega)], fun _ _ => rfl⟩
  rw [show (mAr σ 29 u x).2.2 28 = σ.2.2 28 from mAr_o (by decide)]
  have e : (mAr σ 29 u x).2.2 a i = σ.2.2 a i := by
    by_cases e : a = 29
    · subst e
      have hi : i < t := by unfold RtP at z; omega
      rw [mAr_s, upd_other (by omega)]
    · rw [mAr_o e]
  rw [e]; exact Vd_VC hM.1 (hM.2.2.1 a i z)
theorem EO_pu {x : Int32} (hu : t ≤ u) (hM : MI t X g l B h σ) : EO t g σ g (mPu σ u x) := ⟨(EO_set hu hM).1, (EO_set hu hM).2.1, fun j hj => mPu_s (by omega)⟩
/-- no more lives than there is -/
theorem MI_any (hS : HS g l B h σ) (hQ : RtQ σ) (hV : ∀ a i, RtP t σ a i → Vd g (σ.2.2 a i)) : MI t 870000 g l B h σ := by
  have hb := HS_b hS
  have hh := hS.2.2.2.1
  refine ⟨hS, hQ, hV, fun N => ?_⟩
  have := lvN_til (H := σ.2.2 28) (b := h) (by omega) N l _ (Rch (σ.2.2 28) (RoS t σ)) hS.2.2.2.2.1 (fun v z => (hS.2.2.2.2.2 v (Rch_good hS.2.2.2.2 hb.2 (fun v => RoS_good hS hV) z)).1)
  omega
/-- more of the pile are values -/
theorem MI_pl {n : Nat} (hM : MI t X g l B h σ) (hP : PLv g (σ.2.2 29) t n) : MI (t + n) 870000 g l B h σ := by
  refine MI_any hM.1 hM.2.1 (fun a i z => ?_)
  by_cases e : RtP t σ a i
  · exact hM.2.2.1 a i e
  · unfold RtP at z e
    rcases z with z | z
    · obtain ⟨z1, z2⟩ := z
      subst z1
      have : t ≤ i := by
        by_cases q : i < t
        · exact absurd (Or.inl ⟨rfl, q⟩) e
        · omega
      have := hP (i - t) (by omega)
      rw [show t + (i - t) = i by omega] at this
      exact this
    · exact absurd (Or.inr z) e
/-- what is upon the pile is a value -/
theorem MI_at (hM : MI t X g l B h σ) {i : Nat} (hi : i < t) : ∃ m, σ.2.2 29 i = nI m ∧ (m < 3 ∨ g m) ∧ (m < 3 ∨ RoS t σ m) := by
  have hR : RtP t σ 29 i := Or.inl ⟨rfl, hi⟩
  obtain ⟨m, m1, m2⟩ := hM.2.2.1 29 i hR
  refine ⟨m, m1, m2, ?_⟩
  by_cases c : m < 3
  · exact Or.inl c
  · exact Or.inr ⟨by omega, HS_vb hM.1 m2, 29, i, hR, m1⟩
theorem EO_dn (hu : u ≤ t) (a : EO t g σ g' ρ) : EO u g σ g' ρ := EO_mo hu a (fun x i y z => by
  unfold RtP at y z
  by_cases e : x = 29
  · exact e
  · rcases y with y | y
    · exact y.1
    · exact absurd (Or.inr y) z)
/-- a member of what can be reached -/
theorem Rch_mem (hS : HS g l B h σ) {S : Nat → Prop} {v n i m : Nat} (hv : Rch (σ.2.2 28) S v) (hk : 5 ≤ kdN (σ.2.2 28) v) (gv : g v) (hn : σ.2.2 28 (v + 1) = nI n) (hn2 : n ≤ 3996) (hi : i < n) (hm : σ.2.2 28 (v + 4 + i) = nI m) (hm2 : m < 3 ∨ g m) : m < 3 ∨ Rch (σ.2.2 28) S m := by
  by_cases c : m < 3
  · exact Or.inl c
  · obtain ⟨n', q1, q2, q3, q4, q5, q6, q7⟩ := ob_at hS gv
    have hb := HS_b hS
    have e : n' = n := (n_eq (by omega) (by omega)).mp (q1.symm.trans hn)
    subst e
    refine Or.inr (Rch_s hv ?_ q1 q2 hi hm (by omega) (HS_vb hS hm2))
    have : kdN (σ.2.2 28) v = 5 ∨ kdN (σ.2.2 28) v = 6 := by omega
    rcases this with y | y
    · exact Or.inl (by rw [q5, y])
    · exact Or.inr (by rw [q5, y])
end MIP
end JnS147
section JnS148
/-! Reductions (reference). -/
/-- what a single operation leaves (with sweeps): w the work, XB + 6 * w what may live -/
def SO (t w XB : Nat) (g : Nat → Prop) (σ : MS) (r : Int32 × MS) : Prop := ∃ g' l' B' h' X' w' t', MI t' X' g' l' B' h' r.2 ∧ EO t g σ g' r.2 ∧ Vd g' r.1 ∧ ErB r.2 ∧ r.2.1 57 = nI w' ∧ w ≤ w' ∧ w' ≤ 70000 ∧ (r.2.1 59 = nI t' ∧ t ≤ t' ∧ t' ≤ t + 2000 ∧ (t' = t ∨ ¬ r.2.1 56 = 0)) ∧ (r.2.1 56 = 0 → X' ≤ XB + 6 * w' ∧ w' ≤ 60000)
/-- midway in a reduction -/
def RdX (t w XB n : Nat) (g : Nat → Prop) (σ τ : MS) (g1 : Nat → Prop) (l1 : List Nat) (B1 h1 X1 w1 : Nat) : Prop := MI (t + 2) X1 g1 l1 B1 h1 τ ∧ EO t g σ g1 τ ∧ (∃ v1, τ.2.2 29 t = nI v1 ∧ g1 v1 ∧ 5 ≤ kdN (τ.2.2 28) v1 ∧ τ.2.2 28 (v1 + 1) = nI n) ∧ τ.1 59 = nI (t + 2) ∧ ErB τ ∧ τ.1 57 = nI w1 ∧ w ≤ w1 ∧ w1 ≤ 70000 ∧ (τ.1 56 = 0 → X1 ≤ XB + 6 * w1 ∧ w1 ≤ 60000)
section RED
variable {g : Nat → Prop} {l : List Nat} {B h t w X XB n : Nat} {σ : MS}
theorem SO_of {W : Nat} {r : Int32 × MS} (hW : W ≤ 2000) (hM : MI t X g l B h σ) (h57 : σ.1 57 = nI w) (hw : w ≤ 60000) (hX : X ≤ XB + 6 * w) (hr : VQ g B h t W σ r) : SO t w XB g σ r := by
  obtain ⟨g', l', h', a1, a2, ⟨t', a3, a4, a5, a6, a6'⟩, a7, a8, a9⟩ := hr
  obtain ⟨k1, k2⟩ := MI_gr hM a1 a2
  by_cases e : r.2.1 56 = 0
  · have et : t' = t := a6.resolve_right (fun z => z e)
    subst et
    exact ⟨g', l', B, h', X, w, t', k1, k2, a9, a7, (a2.1 57 (by decide)).trans h57, Nat.le_refl _, by omega, ⟨a3, a4, by omega, a6⟩, fun _ => ⟨hX, hw⟩⟩
  · have k3 := MI_pl k1 a6'
    rw [show t + (t' - t) = t' by omega] at k3
    exact ⟨g', l', B, h', 870000, w, t', k3, k2, a9, a7, (a2.1 57 (by decide)).trans h57, Nat.le_refl _, by omega, ⟨a3, a4, by omega, a6⟩, fun z => absurd z e⟩
theorem RdX_op {τ υ : MS} {g1 g2 : Nat → Prop} {l1 l2 : List Nat} {B1 h1 h2 X1 w1 : Nat} (hQ : RtQ σ) (hR : RdX t w XB n g σ τ g1 l1 B1 h1 X1 w1) (a : HG g1 B1 h1 τ υ g2 l2 h2) (hF : FW (t + 2) τ υ) (h59 : υ.1 59 = nI (t + 2)) (hE : ErB υ) (he : ¬ τ.1 56 = 0 → ¬ υ.1 56 = 0) : RdX t w XB n g σ υ g2 l2 B1 h2 X1 w1 := by
  obtain ⟨r1, r2, ⟨v1, c1, c2, c3, c4⟩, r4, r5, r6, r7, r8, r9⟩ := hR
  obtain ⟨k1, k2⟩ := MI_gr r1 a hF
  obtain ⟨n', o1, o2, o3, o4, o5, o6, o7⟩ := ob_at r1.1 c2
  refine ⟨k1, EO_tr hQ r2 (EO_dn (by omega) k2), ⟨v1, (hF.2.2 t (by omega)).trans c1, a.2.1 v1 c2, ?_, ?_⟩, h59, hE, (hF.1 57 (by decide)).trans r6, r7, r8, fun z => ?_⟩
  · have : kdN (υ.2.2 28) v1 = kdN (τ.2.2 28) v1 := by
      unfold kdN
      rw [a.2.2.2 v1 (by omega) (by omega)]
    rw [this]; exact c3
  · rw [a.2.2.2 (v1 + 1) (by omega) (by omega)]; exact c4
  · refine r9 ?_
    by_cases e : τ.1 56 = 0
    · exact e
    · exact absurd z (he e)
/-- the end -/
theorem RdX_end {τ : MS} {g1 : Nat → Prop} {l1 : List Nat} {B1 h1 X1 w1 : Nat} (ht : t ≤ 176000) (hR : RdX t w XB n g σ τ g1 l1 B1 h1 X1 w1) {N : Nat → Int32} (n5 : N 5 = nI t) (hQ : RtQ σ) : Tm (fun k => x_reduce k 14 N τ) (SO t w XB g σ) := by
  obtain ⟨r1, r2, r3, r4, r5, r6, r7, r8, r9⟩ := hR
  have fin : ∀ x : Int32, Vd g1 x → SO t w XB g σ (x, mSc τ 59 (nI t)) := fun x hx => by
    refine ⟨g1, l1, B1, h1, X1, w1, t, MI_mo (MI_59 r1) (by omega), EO_tr hQ r2 (EO_c (MI_mo r1 (by omega)) rfl (fun j hj => upd_other (by omega))), hx, ErB_c rfl r5, r6, r7, r8, ⟨rfl, Nat.le_refl _, by omega, Or.inl rfl⟩, r9⟩
  refine Tm_suc (fun k => by rw [x_reduce]) ?_
  rw [n5]
  show Tm (fun k => x_reduce k 15 N (mSc τ 59 (nI t))) _
  refine Tm_suc (fun k => by rw [x_reduce]) ?_
  rw [n5, n_add1]
  refine Tm_ite (fun _ => ?_) (fun _ => ?_)
  · refine Tm_chk (n_in (by omega) (by omega)) ?_
    rw [n_cl (p := t + 1) (by omega)]
    obtain ⟨m, m1, m2, _⟩ := MI_at r1 (i := t + 1) (by omega)
    refine Tm_suc (fun k => by rw [x_reduce]) ?_
    exact Tm_some (fin _ ⟨m, m1, m2⟩)
  · refine Tm_suc (fun k => by rw [x_reduce]) ?_
    refine Tm_suc (fun k => by rw [x_reduce]) ?_
    exact Tm_some (fin _ Vd_0)
theorem s_red3 (hQ : RtQ σ) (ht : t ≤ 176000) (hn : n ≤ 3996) : ∀ (q i : Nat) (N : Nat → Int32) (τ : MS) (g1 : Nat → Prop) (l1 : List Nat) (B1 h1 X1 w1 : Nat), q + i = n → N 4 = nI n → N 5 = nI t → N 6 = nI i → RdX t w XB n g σ τ g1 l1 B1 h1 X1 w1 → Tm (fun k => x_reduce k 3 N τ) (SO t w XB g σ) := by
  intro q
  induction q with
  | zero =>
    intro i N τ g1 l1 B1 h1 X1 w1 hi n4 n5 n6 hR
    refine Tm_suc (fun k => by rw [x_reduce]) ?_
    rw [n4, n6]
    refine Tm_ite (fun _ => RdX_end ht hR n5 hQ) (fun w => absurd ((n_le (by omega) (by omega)).mpr (by omega)) w)
  | succ q ih =>
    intro i N τ g1 l1 B1 h1 X1 w1 hi n4 n5 n6 hR
    have hEnd := RdX_end ht hR n5 hQ
    refine Tm_suc (fun k => by rw [x_reduce]) ?_
    rw [n4, n6, n5]
    refine Tm_ite (fun _ => hEnd) (fun _ => ?_)
    refine Tm_ite (fun e56 => ?_) (fun _ => hEnd)
    obtain ⟨r1, r2, ⟨v1, c1, c2, c3, c4⟩, r4, r5, r6, r7, r8, r9⟩ := hR
    refine Tm_ob (MI_sw (T := 780000) r1 r4 (by omega) rfl (by decide)) (fun r hr => ?_)
    obtain ⟨g2, l2, B2, h2, a1, a2, a3, a4⟩ := hr
    -- the state behind the sweep
    have hS2 := a1.1
    have hc2 : ∃ v2, r.2.2.2 29 t = nI v2 ∧ g2 v2 ∧ 5 ≤ kdN (r.2.2.2 28) v2 ∧ r.2.2.2 28 (v2 + 1) = nI n := by
      obtain ⟨m, m', p1, p2, p3, p4, p5, p6, p7⟩ := a2.1 29 t (Or.inl ⟨rfl, by omega⟩)
      have hv1 := HS_vb r1.1 (Or.inr c2)
      have e : m = v1 := (n_eq (by omega) (by omega)).mp (p1.symm.trans c1)
      subst e
      have hk := VR_sz (EVb_VR p5)
      have k5 : 5 ≤ kdN (r.2.2.2 28) m' := by rw [hk.2.2]; exact c3
      have gm' : g2 m' := kdN_ge hS2 p4 (by omega)
      refine ⟨m', p3, gm', k5, ?_⟩
      rcases EVb_VR p5 with ⟨y1, y2⟩ | ⟨y1, y2, y3⟩
      · have := (HS_at r1.1 c2)
        obtain ⟨_, _, _, _, _, z, _⟩ := this
        omega
      · exact (y3 1 (by omega)).trans c4
    have hR2 : RdX t w XB n g σ r.2 g2 l2 B2 h2 X1 w1 := ⟨a1, EO_tr hQ r2 (EO_dn (by omega) a2), hc2, (a3 59 (by decide) (by decide)).trans r4, ErB_c (a3 56 (by decide) (by decide)) r5, (a3 57 (by decide) (by decide)).trans r6, r7, r8, fun _ => r9 e56⟩
    have d56 : r.2.1 56 = 0 := (a3 56 (by decide) (by decide)).trans e56
    obtain ⟨hX1, hw1⟩ := r9 e56
    obtain ⟨v2, f1, f2, f3, f4⟩ := hc2
    obtain ⟨n', o1, o2, o3, o4, o5, o6, o7⟩ := ob_at hS2 f2
    have en : n' = n := (n_eq (by omega) (by omega)).mp (o1.symm.trans f4)
    subst en
    obtain ⟨m, mm1, mm2⟩ := o7 f3 i (by omega)
    obtain ⟨b, bb1, bb2, bb3⟩ := MI_at a1 (i := t + 1) (by omega)
    have hb2 := HS_b hS2
    rw [n_add1]
    refine Tm_chk (n_in (by omega) (by omega)) ?_
    refine Tm_chk (n_in (by omega) (by omega)) ?_
    rw [n_cl (p := t) (by omega), n_cl (p := t + 1) (by omega), f1, show nI v2 + 4 = nI (v2 + 4) from n_add (q := 4) (by omega), n_add (by omega)]
    refine Tm_chk (n_in (by omega) (by omega)) ?_
    rw [n_cl (p := v2 + 4 + i) (by omega), mm1, bb1]
    -- what is put back
    have p12 : ∀ (M : Nat → Int32) (υ : MS) (g3 : Nat → Prop) (l3 : List Nat) (B3 h3 X3 w3 : Nat), M 4 = nI n' → M 5 = nI t → M 6 = nI i → RdX t w XB n' g σ (mAr υ 29 (t + 1) (M 7)) g3 l3 B3 h3 X3 w3 → Tm (fun k => x_reduce k 12 M υ) (SO t w XB g σ) := by
      intro M υ g3 l3 B3 h3 X3 w3 m4 m5 m6 hR3
      refine Tm_suc (fun k => by rw [x_reduce]) ?_
      rw [m5, n_add1]
      refine Tm_chk (n_in (by omega) (by omega)) ?_
      rw [n_cl (p := t + 1) (by omega)]
      show Tm (fun k => x_reduce k 13 M (mAr υ 29 (t + 1) (M 7))) _
      refine Tm_suc (fun k => by rw [x_reduce]) ?_
      exact ih (i + 1) _ _ g3 l3 B3 h3 X3 w3 (by omega) m4 m5 (by show M 6 + 1 = _; rw [m6, n_add1]) hR3
    have hP2 : VP g2 l2 B2 h2 (t + 2) r.2 := ⟨hS2, hR2.2.2.2.1, by omega, hR2.2.2.2.2.1⟩
    -- a sum, a product
    have b4 : ∀ M : Nat → Int32, M 4 = nI n' → M 5 = nI t → M 6 = nI i → M 7 = nI b → M 8 = nI m → Tm (fun k => x_reduce k 4 M r.2) (SO t w XB g σ) := by
      intro M m4 m5 m6 m7 m8
      refine Tm_suc (fun k => by rw [x_reduce]) ?_
      refine Tm_ob (s_operate hP2 bb2 mm2 (by exact m7) (by exact m8)) (fun s hs => ?_)
      obtain ⟨g3, l3, h3, d1, d2, d3, d4, d5, d6⟩ := hs
      have hR3 := RdX_op hQ hR2 d1 d2 d3 d4 d5
      obtain ⟨c, cc1, cc2⟩ := d6
      have h57 : s.2.1 57 = nI w1 := hR3.2.2.2.2.2.1
      refine Tm_ob (s_answer d1.1 cc2 h57 (by omega) (by exact cc1)) (fun u hu => ?_)
      obtain ⟨u1, u2⟩ := hu
      have hsz := szN_b d1.1 cc2
      have mono : MI (t + 1) X1 g3 l3 B2 h3 s.2 := MI_mo hR3.1 (by omega)
      have hset := MI_set mono cc2
      obtain ⟨s1, s2, ⟨v3, x1, x2, x3, x4⟩, s4, s5, s6, s7, s8, s9⟩ := hR3
      -- the state with the answer put back
      have mk : ∀ (υ : MS) (w3 : Nat), υ.2.2 = s.2.2.2 → (∀ j, j ≠ 56 → j ≠ 57 → υ.1 j = s.2.1 j) → ErB υ → υ.1 57 = nI w3 → w1 ≤ w3 → w3 ≤ 70000 → (υ.1 56 = 0 → X1 + 6 * szN (s.2.2.2 28) c ≤ XB + 6 * w3 ∧ w3 ≤ 60000) → RdX t w XB n' g σ (mAr υ 29 (t + 1) (nI c)) g3 l3 B2 h3 (X1 + 6 * szN (s.2.2.2 28) c) w3 := by
        intro υ w3 y1 y2 y3 y4 y5 y6 y7
        have ea : (mAr υ 29 (t + 1) (nI c)).2.2 = (mAr s.2 29 (t + 1) (nI c)).2.2 := by
          show updG υ.2.2 29 (upd (υ.2.2 29) (t + 1) (nI c)) = updG s.2.2.2 29 (upd (s.2.2.2 29) (t + 1) (nI c))
          rw [y1]
        refine ⟨MI_c hset (y2 54 (by decide) (by decide)) (y2 55 (by decide) (by decide)) (y2 63 (by decide) (by decide)) (y2 72 (by decide) (by decide)) ea, EO_tr hQ s2 ?_, ⟨v3, ?_, x2, ?_, ?_⟩, (y2 59 (by decide) (by decide)).trans s4, y3, y4, by omega, y6, y7⟩
        · have e0 : EO t g3 s.2 g3 (mAr s.2 29 (t + 1) (nI c)) := EO_set (by omega) (MI_mo s1 (by omega))
          refine ⟨fun a i z => ?_, fun a i z1 z2 => ?_, fun j hj => y2 j (by omega) (by omega)⟩
          · rw [ea]; exact e0.1 a i z
          · rw [ea]; exact e0.2.1 a i z1 z2
        · rw [mAr_s, upd_other (by omega), y1]; exact x1
        · rw [mAr_o (by decide), y1]; exact x3
        · rw [mAr_o (by decide), y1]; exact x4
      have u1 : u.1 = nI c := u1
      rcases u2 with ⟨z, e⟩ | ⟨z, hW⟩
      · refine p12 _ _ g3 l3 B2 h3 (X1 + 6 * szN (s.2.2.2 28) c) w1 m4 m5 m6 ?_
        show RdX t w XB n' g σ (mAr u.2 29 (t + 1) u.1) _ _ _ _ _ _
        rw [u1, e]
        exact mk s.2 w1 rfl (fun _ _ _ => rfl) s5 h57 (Nat.le_refl _) s8 (fun y => absurd y z)
      · refine p12 _ _ g3 l3 B2 h3 (X1 + 6 * szN (s.2.2.2 28) c) (w1 + szN (s.2.2.2 28) c) m4 m5 m6 ?_
        show RdX t w XB n' g σ (mAr u.2 29 (t + 1) u.1) _ _ _ _ _ _
        rw [u1]
        exact mk u.2 _ (WkO_a hW) (fun j q1 q2 => WkO_s hW q1 q2) (WkO_E hW s5) (WkO_57 hW) (by omega) (by omega) (fun y => ⟨by omega, (WkO_le hW y).1⟩)
    -- the larger, the smaller
    have q12 : ∀ (M : Nat → Int32) (υ : MS) (g3 : Nat → Prop) (l3 : List Nat) (h3 : Nat), RdX t w XB n' g σ υ g3 l3 B2 h3 X1 w1 → υ.2.2 29 t = nI v2 → υ.2.2 28 (v2 + 4 + i) = nI m → υ.2.2 29 (t + 1) = nI b → (∀ v, g2 v → g3 v) → M 4 = nI n' → M 5 = nI t → M 6 = nI i → (M 7 = nI b ∨ M 7 = nI m) → Tm (fun k => x_reduce k 12 M υ) (SO t w XB g σ) := by
      intro M υ g3 l3 h3 hR3 y1 y2 y3 hsub m4 m5 m6 m7
      refine p12 M υ g3 l3 B2 h3 X1 w1 m4 m5 m6 ?_
      obtain ⟨s1, s2, ⟨v3, x1, x2, x3, x4⟩, s4, s5, s6, s7, s8, s9⟩ := hR3
      have ev : v3 = v2 := (n_eq (by have := HS_vb s1.1 (Or.inr x2); omega) (by omega)).mp (x1.symm.trans y1)
      subst ev
      have hEO : EO t g σ g3 (mAr υ 29 (t + 1) (M 7)) := EO_tr hQ s2 (EO_set (by omega) (MI_mo s1 (by omega)))
      refine ⟨?_, hEO, ⟨v3, by rw [mAr_s, upd_other (by omega)]; exact x1, x2, by rw [mAr_o (by decide)]; exact x3, by rw [mAr_o (by decide)]; exact x4⟩, s4, ErB_c rfl s5, s6, s7, s8, s9⟩
      rcases m7 with m7 | m7
      · rw [m7]
        exact MI_c s1 rfl rfl rfl rfl (mAr_same y3)
      · rw [m7]
        refine MI_str (MI_mo s1 (by omega)) ?_
        have hv3 : RoS (t + 1) υ v3 := by
          obtain ⟨_, _, _, _, _, z, _⟩ := HS_at s1.1 x2
          exact ⟨by omega, HS_vb s1.1 (Or.inr x2), 29, t, Or.inl ⟨rfl, by omega⟩, x1⟩
        exact Rch_mem s1.1 (Rch_b hv3) x3 x2 x4 hn (by omega) y2 (mm2.imp id (hsub m))
    have b5 : ∀ M : Nat → Int32, M 4 = nI n' → M 5 = nI t → M 6 = nI i → M 7 = nI b → M 8 = nI m → Tm (fun k => x_reduce k 5 M r.2) (SO t w XB g σ) := by
      intro M m4 m5 m6 m7 m8
      -- behind the comparisons
      have bb : ∀ (υ : MS) (g3 : Nat → Prop) (l3 : List Nat) (h3 : Nat), RdX t w XB n' g σ υ g3 l3 B2 h3 X1 w1 → υ.2.2 29 t = nI v2 → υ.2.2 28 (v2 + 4 + i) = nI m → υ.2.2 29 (t + 1) = nI b → (∀ v, g2 v → g3 v) → ∀ O : Nat → Int32, O 4 = nI n' → O 5 = nI t → O 6 = nI i → O 7 = nI b → O 8 = nI m → Tm (fun k => x_reduce k 9 O υ) (SO t w XB g σ) ∧ Tm (fun k => x_reduce k 10 O υ) (SO t w XB g σ) := by
        intro υ g3 l3 h3 y0 y1 y2 y3 y4 O o4 o5 o6 o7 o8
        constructor
        · refine Tm_suc (fun k => by rw [x_reduce]) ?_
          refine Tm_suc (fun k => by rw [x_reduce]) ?_
          exact q12 _ _ g3 l3 h3 y0 y1 y2 y3 y4 o4 o5 o6 (Or.inr o8)
        · refine Tm_suc (fun k => by rw [x_reduce]) ?_
          refine Tm_suc (fun k => by rw [x_reduce]) ?_
          exact q12 _ _ g3 l3 h3 y0 y1 y2 y3 y4 o4 o5 o6 (Or.inl o7)
      refine Tm_suc (fun k => by rw [x_reduce]) ?_
      refine Tm_ob (s_operate hP2 bb2 mm2 (by exact m7) (by exact m8)) (fun s hs => ?_)
      obtain ⟨g3, l3, h3, d1, d2, d3, d4, d5, d6⟩ := hs
      have hR3 := RdX_op hQ hR2 d1 d2 d3 d4 d5
      have z1 : s.2.2.2 29 t = nI v2 := (d2.2.2 t (by omega)).trans f1
      have z2 : s.2.2.2 28 (v2 + 4 + i) = nI m := (d1.2.2.2 _ (by omega) (by omega)).trans mm1
      have z3 : s.2.2.2 29 (t + 1) = nI b := (d2.2.2 (t + 1) (by omega)).trans bb1
      have hbb := bb s.2 g3 l3 h3 hR3 z1 z2 z3 d1.2.1
      have b7 : ∀ O : Nat → Int32, O 4 = nI n' → O 5 = nI t → O 6 = nI i → O 7 = nI b → O 8 = nI m → Tm (fun k => x_reduce k 7 O s.2) (SO t w XB g σ) := by
        intro O o4 o5 o6 o7 o8
        refine Tm_suc (fun k => by rw [x_reduce]) ?_
        refine Tm_ite (fun _ => ?_) (fun _ => (hbb (upd O 10 (O 100)) o4 o5 o6 o7 o8).2)
        refine Tm_ite (fun _ => ?_) (fun _ => ?_)
        · have hP3 : VP g3 l3 B2 h3 (t + 2) s.2 := ⟨d1.1, d3, by omega, d4⟩
          refine Tm_suc (fun k => by rw [x_reduce]) ?_
          refine Tm_ob (s_operate hP3 (mm2.imp id (d1.2.1 m)) (bb2.imp id (d1.2.1 b)) (by exact o8) (by exact o7)) (fun s' hs' => ?_)
          obtain ⟨g4, l4, h4, e1, e2, e3, e4, e5, e6⟩ := hs'
          have hR4 := RdX_op hQ hR3 e1 e2 e3 e4 e5
          have hle := d1.2.2.1
          have hb4 := bb s'.2 g4 l4 h4 hR4 ((e2.2.2 t (by omega)).trans z1) ((e1.2.2.2 _ (by omega) (by omega)).trans z2) ((e2.2.2 (t + 1) (by omega)).trans z3) (fun v z => e1.2.1 v (d1.2.1 v z)) (upd O 10 (O 100)) o4 o5 o6 o7 o8
          exact Tm_ite (fun _ => hb4.1) (fun _ => hb4.2)
        · exact Tm_ite (fun _ => (hbb (upd O 10 (O 100)) o4 o5 o6 o7 o8).1) (fun _ => (hbb (upd O 10 (O 100)) o4 o5 o6 o7 o8).2)
      refine Tm_ite (fun _ => b7 _ m4 m5 m6 m7 m8) (fun _ => ?_)
      refine Tm_suc (fun k => by rw [x_reduce]) ?_
      exact b7 _ m4 m5 m6 m7 m8
    refine Tm_ite (fun _ => b4 _ n4 n5 n6 rfl rfl) (fun _ => ?_)
    exact Tm_ite (fun _ => b4 _ n4 n5 n6 rfl rfl) (fun _ => b5 _ n4 n5 n6 rfl rfl)
end RED
end JnS148
section JnS149
/-! Reductions from their start; single operations (reference). -/
section SNG
variable {g : Nat → Prop} {l : List Nat} {B h t w X XB v : Nat} {σ : MS}
theorem s_reduce (hM : MI (t + 1) X g l B h σ) (h29 : σ.2.2 29 t = nI v) (hv : v < 3 ∨ g v) (h59 : σ.1 59 = nI t) (ht : t ≤ 176000) (h56 : σ.1 56 = 0) (h57 : σ.1 57 = nI w) (hw : w ≤ 60000) (hX : X ≤ XB + 6 * w) {L : Nat → Int32} (hL : L 2 = nI v) : Tm (fun k => x_reduce k 0 L σ) (SO t w XB g σ) := by
  have hS := hM.1
  have hM0 : MI t X g l B h σ := MI_mo hM (by omega)
  have hE : ErB σ := ⟨0, h56, by decide⟩
  have hP : VP g l B h t σ := ⟨hS, h59, by omega, hE⟩
  have kv := kdN_6 hS hv
  have b1 : 5 ≤ kdN (σ.2.2 28) v → ∀ N : Nat → Int32, N 2 = nI v → Tm (fun k => x_reduce k 1 N σ) (SO t w XB g σ) := by
    intro k5 N n2
    have gv := kdN_ge hS hv (by omega)
    obtain ⟨n, o1, o2, o3, o4, o5, o6, o7⟩ := ob_at hS gv
    have hb := HS_b hS
    refine Tm_suc (fun k => by rw [x_reduce]) ?_
    rw [n2, n_add1]
    refine Tm_chk (n_in (by omega) (by omega)) ?_
    rw [n_cl (p := v + 1) (by omega), o1]
    refine Tm_ite (fun _ => Tm_some (SO_of (W := 0) (by omega) hM0 h57 hw hX (VQ_of (VO_id hP Vd_0)))) (fun z => ?_)
    have hn1 : 1 ≤ n := by
      by_cases e : n = 0
      · exact absurd (by rw [e]; rfl) z
      · omega
    obtain ⟨m, m1, m2⟩ := o7 k5 0 (by omega)
    refine Tm_suc (fun k => by rw [x_reduce]) ?_
    refine Tm_ob (s_push h59 (by omega) _) (fun r hr => ?_)
    rw [hr]
    show Tm (fun k => if ¬ (N 2 + 4 < 0 ∨ 1740000 ≤ (N 2 + 4).toNatClampNeg) then ob (x_push k 0 (upd (fun _ => 0) 1 ((mPu σ t (N 2)).2.2 28 (N 2 + 4).toNatClampNeg)) (mPu σ t (N 2))) (fun r3 => x_reduce k 3 (upd (upd (upd N 4 (nI n)) 5 (σ.1 59)) 6 1) r3.2) else none) _
    rw [n2, show nI v + 4 = nI (v + 4) from n_add (q := 4) (by omega)]
    refine Tm_chk (n_in (by omega) (by omega)) ?_
    rw [n_cl (p := v + 4) (by omega), show (mPu σ t (nI v)).2.2 28 (v + 4) = nI m from (congrFun (mPu_o (by decide)) _).trans m1, h59]
    -- v lies upon the pile again
    have e1 : (mPu σ t (nI v)).2.2 = σ.2.2 := mAr_same h29
    have hM1 : MI (t + 1) X g l B h (mPu σ t (nI v)) := MI_c hM rfl rfl rfl rfl e1
    refine Tm_ob (s_push (σ := mPu σ t (nI v)) (t := t + 1) rfl (by omega) _) (fun r hr => ?_)
    rw [hr]
    show Tm (fun k => x_reduce k 3 _ (mPu (mPu σ t (nI v)) (t + 1) (nI m))) _
    have hRS : RoS (t + 1) (mPu σ t (nI v)) v := ⟨by omega, by omega, 29, t, Or.inl ⟨rfl, by omega⟩, by rw [e1]; exact h29⟩
    have e28 : (mPu σ t (nI v)).2.2 28 = σ.2.2 28 := congrFun e1 28
    have hM2 : MI (t + 2) X g l B h (mPu (mPu σ t (nI v)) (t + 1) (nI m)) := MI_pur hM1 (Rch_mem hM1.1 (Rch_b hRS) (by rw [e28]; exact k5) gv (by rw [e28]; exact o1) o2 (i := 0) (by omega) (by rw [e28]; exact m1) m2)
    have f28 : (mPu (mPu σ t (nI v)) (t + 1) (nI m)).2.2 28 = σ.2.2 28 := (mPu_o (by decide)).trans e28
    refine s_red3 hM.2.1 ht o2 (n - 1) 1 _ _ g l B h X w (by omega) rfl rfl rfl ⟨hM2, ?_, ⟨v, ?_, gv, by rw [f28]; exact k5, by rw [f28]; exact o1⟩, rfl, ⟨0, h56, by decide⟩, h57, Nat.le_refl _, by omega, fun _ => ⟨hX, hw⟩⟩
    · exact EO_tr hM.2.1 (EO_pu (Nat.le_refl _) hM0) (EO_pu (by omega) (MI_mo hM1 (by omega)))
    · rw [mPu_29, upd_other (by omega), e1]; exact h29
  refine Tm_suc (fun k => by rw [x_reduce]) ?_
  refine Tm_ob (s_kind hS hv (by exact hL)) (fun r hr => ?_)
  rw [hr]
  refine Tm_ite (fun z => b1 ?_ _ hL) (fun _ => ?_)
  · have := (n_eq (q := 6) (by omega) (by decide)).mp z
    omega
  refine Tm_ite (fun z => b1 ?_ _ hL) (fun _ => ?_)
  · have := (n_eq (q := 5) (by omega) (by decide)).mp z
    omega
  exact Tm_ob (s_wrongKind _) (fun r hr => Tm_some (SO_of (W := 0) (by omega) hM0 h57 hw hX (VQ_of (VO_wk hP hr))))
theorem s_single (hM : MI (t + 1) X g l B h σ) (hT : TyT (σ.2.2 2)) (h29 : σ.2.2 29 t = nI v) (hv : v < 3 ∨ g v) (h59 : σ.1 59 = nI t) (ht : t ≤ 176000) (h56 : σ.1 56 = 0) (h57 : σ.1 57 = nI w) (hw : w ≤ 60000) (hX : X ≤ XB + 6 * w) {L : Nat → Int32} {n : Nat} (h1 : L 1 = nI n) (hn : n < 70000) (h2 : L 2 = nI v) : Tm (fun k => x_single k 0 L σ) (SO t w XB g σ) := by
  have hS := hM.1
  have hM0 : MI t X g l B h σ := MI_mo hM (by omega)
  have hE : ErB σ := ⟨0, h56, by decide⟩
  have hP : VP g l B h t σ := ⟨hS, h59, by omega, hE⟩
  have o1 : ∀ (W : Nat) (r : Int32 × MS), W ≤ 2000 → VQ g B h t W σ r → SO t w XB g σ r := fun W r hW hr => SO_of hW hM0 h57 hw hX hr
  refine Tm_suc (fun k => by rw [x_single]) ?_
  rw [h1]
  refine Tm_chk (n_in (by omega) (by omega)) ?_
  refine Tm_ite (fun _ => ?_) (fun _ => ?_)
  · refine Tm_suc (fun k => by rw [x_single]) ?_
    rw [h1]
    refine Tm_chk (n_in (by omega) (by omega)) ?_
    exact Tm_ob (s_function hP hT hv (by exact h2)) (fun r hr => Tm_some (o1 256 r (by omega) hr))
  refine Tm_ite (fun _ => ?_) (fun _ => ?_)
  · refine Tm_suc (fun k => by rw [x_single]) ?_
    exact Tm_ob (s_negative hP hv (by exact h2)) (fun r hr => Tm_some (o1 0 r (by omega) (VQ_of hr)))
  refine Tm_ite (fun _ => ?_) (fun _ => ?_)
  · refine Tm_suc (fun k => by rw [x_single]) ?_
    exact Tm_ob (s_many hP hv (by exact h2)) (fun r hr => Tm_some (o1 0 r (by omega) (VQ_of hr)))
  refine Tm_ite (fun _ => ?_) (fun _ => ?_)
  · refine Tm_suc (fun k => by rw [x_single]) ?_
    exact Tm_ob (s_turned hP _) (fun r hr => Tm_some (o1 0 r (by omega) (VQ_of hr)))
  · refine Tm_suc (fun k => by rw [x_single]) ?_
    rw [h1]
    refine Tm_chk (n_in (by omega) (by omega)) ?_
    exact Tm_ob (s_reduce hM h29 hv h59 ht h56 h57 hw hX (by exact h2)) (fun r hr => Tm_some hr)
end SNG
end JnS149

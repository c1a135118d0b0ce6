/-! The sweep: the scan (reference). -/
/-- the scan has come to s -/
def ScO (H0 : Nat → Int32) (g : Nat → Prop) (l : List Nat) (B h B' s : Nat) (τ : MS) (h' : Nat) (mv : Nat → Bool) (φ : Nat → Nat) (ρ : MS) : Prop :=
  ∃ h2 mv2 φ2 l2, SWS H0 g l B h B' s ρ h2 mv2 φ2 l2 ∧ h' ≤ h2 ∧ SWG mv mv2 φ φ2 ∧ (∀ j, j ≠ 55 → ρ.1 j = τ.1 j) ∧ (∀ j, j ≠ 28 → ρ.2.2 j = τ.2.2 j)
section SCL
variable {H0 : Nat → Int32} {g : Nat → Prop} {l l' : List Nat} {B h B' h' s : Nat} {mv : Nat → Bool} {φ : Nat → Nat} {τ : MS}
theorem s_cpR28 {v n : Nat} (hW : SWS H0 g l B h B' (φ v + 4) τ h' mv φ l') (hm : mv v = true) (hn : H0 (v + 1) = nI n) (hn2 : n ≤ 3996) (hk : H0 v = nI 5 ∨ H0 v = nI 6) {L : Nat → Int32} (h2 : L 2 = nI (φ v + 4)) (h3 : L 3 = nI n) : Tm (fun k => x_copyRow__28 k 0 L τ) (fun r => ScO H0 g l B h B' (φ v + 4 + n) τ h' mv φ r.2) := by
  have hb := SWS_b hW
  have hend : φ v + 4 + n ≤ h' := (SwI_at hW.2.2.2.2.2 hm hn hn2).2.1
  have hBB := hW.2.2.1
  have hgv := (hW.2.2.2.2.2.2.2.1 v hm).1
  obtain ⟨k0, n0, s0, t0, q1, q2, q3⟩ := HO_at hW.1 (by have := hW.2.1; omega) hgv
  have hn0 : n0 = n := (n_eq (by have := q1.2.2.2.2.2.2.2.1; omega) (by omega)).mp (q1.2.1.symm.trans hn)
  subst hn0
  have hk5 : 5 ≤ k0 := by
    have k6 := q1.2.2.2.2.1
    rcases hk with hk | hk
    · have := (n_eq (p := k0) (q := 5) (by omega) (by decide)).mp (q1.1.symm.trans hk)
      omega
    · have := (n_eq (p := k0) (q := 6) (by omega) (by decide)).mp (q1.1.symm.trans hk)
      omega
  have hch := (q1.2.2.2.2.2.2.2.2.2.2.2 hk5).2
  have l1 : ∀ (q i : Nat) (N : Nat → Int32) (υ : MS) (h2 : Nat) (mv2 : Nat → Bool) (φ2 : Nat → Nat) (l2 : List Nat), q + i = n0 → N 2 = nI (φ v + 4) → N 3 = nI n0 → N 4 = nI (φ v + 4 + i) → SWS H0 g l B h B' (φ v + 4 + i) υ h2 mv2 φ2 l2 → h' ≤ h2 → SWG mv mv2 φ φ2 → (∀ j, j ≠ 55 → υ.1 j = τ.1 j) → (∀ j, j ≠ 28 → υ.2.2 j = τ.2.2 j) → Tm (fun k => x_copyRow__28 k 1 N υ) (fun r => ScO H0 g l B h B' (φ v + 4 + n0) τ h' mv φ r.2) := by
    intro q
    induction q with
    | zero =>
      intro i N υ h2 mv2 φ2 l2 hi n2 n3 n4 hS hle hG a3 a4
      have hi : i = n0 := by omega
      subst hi
      refine Tm_suc (fun k => by rw [x_copyRow__28]) ?_
      rw [n2, n3, n4, n_add (by omega)]
      refine Tm_ite (fun _ => ?_) (fun w => absurd ((n_le (by omega) (by omega)).mpr (by omega)) w)
      refine Tm_suc (fun k => by rw [x_copyRow__28]) ?_
      exact Tm_some ⟨h2, mv2, φ2, l2, hS, hle, hG, a3, a4⟩
    | succ q ih =>
      intro i N υ h2 mv2 φ2 l2 hi n2 n3 n4 hS hle hG a3 a4
      obtain ⟨m, m1, m2, m3⟩ := hch i (by omega)
      obtain ⟨g1, g2⟩ := hG v hm
      have hcell : υ.2.2 28 (φ v + 4 + i) = nI m := by
        have := (SwI_at hS.2.2.2.2.2 g1 hn hn2).2.2.2 i (by omega)
        rw [g2] at this
        rcases this with z | z
        · exact z.2.trans m1
        · omega
      refine Tm_suc (fun k => by rw [x_copyRow__28]) ?_
      rw [n2, n3, n4, n_add (by omega)]
      refine Tm_ite (fun w => absurd ((n_le (by omega) (by omega)).mp w) (by omega)) (fun _ => ?_)
      refine Tm_chk (n_in (by omega) (by omega)) ?_
      rw [n_cl (p := φ v + 4 + i) (by omega), hcell]
      refine Tm_ob (s_copied hS m2 rfl) (fun r hr => ?_)
      obtain ⟨h3, mv3, φ3, l3, b1, b2, b3, b4, b5, b6⟩ := hr
      refine Tm_chk (n_in2 (by omega) (by omega)) ?_
      show Tm (fun k => x_copyRow__28 k 2 N (mAr r.2 28 (φ v + 4 + i) r.1)) _
      refine Tm_suc (fun k => by rw [x_copyRow__28]) ?_
      have hG3 := SWG_tr hG b3
      obtain ⟨c1, c2⟩ := hG3 v hm
      refine ih (i + 1) _ _ h3 mv3 φ3 l3 (by omega) n2 n3 (by show N 4 + 1 = _; rw [n4, n_add1, Nat.add_assoc]) ?_ (by omega) hG3 (fun j hj => (b5 j hj).trans (a3 j hj)) (fun j q2 => ?_)
      · obtain ⟨w1, w2, w3, w4, w5, w6⟩ := b1
        refine ⟨w1, w2, w3, by omega, w5, ?_⟩
        rw [mAr_s]
        exact SwI_cell w1 w2 w3 w6 c1 hn hn2 (by omega) (by rw [c2]; rfl) hk m1 b4
      · rw [mAr_o q2, b6 j q2]; exact a4 j q2
  refine Tm_suc (fun k => by rw [x_copyRow__28]) ?_
  exact l1 n0 0 _ _ h' mv φ l' (by omega) h2 h3 h2 hW (Nat.le_refl _) (fun x hx => ⟨hx, rfl⟩) (fun _ _ => rfl) (fun _ _ => rfl)
theorem Til_nx {H : Nat → Int32} {b : Nat} : ∀ (l : List Nat) (a : Nat), Til H b a l → ∀ w n, w ∈ l → H (w + 1) = nI n → n ≤ 3996 → b < 2147483648 → w + 4 + n ∈ l ∨ w + 4 + n = b
  | [], _, _, _, _, h, _, _, _ => absurd h (List.not_mem_nil)
  | u :: l, a, hT, w, n, hw, hn, hn2, hb => by
    obtain ⟨e, m, m1, m2, m3⟩ := hT
    rcases List.mem_cons.mp hw with z | z
    · subst z
      have em : m = n := (n_eq (by omega) (by omega)).mp (m1.symm.trans hn)
      subst em
      cases l with
      | nil => exact Or.inr m3
      | cons x l =>
        have ex : x = w + 4 + m := m3.1
        exact Or.inl (by rw [← ex]; exact List.mem_cons_of_mem _ List.mem_cons_self)
    · rcases Til_nx l _ m3 w n z hn hn2 hb with y | y
      · exact Or.inl (List.mem_cons_of_mem _ y)
      · exact Or.inr y
theorem s_scan : ∀ (q s : Nat) (N : Nat → Int32) (υ : MS) (h' : Nat) (mv : Nat → Bool) (φ : Nat → Nat) (l' : List Nat), B' + 870000 ≤ q + s → N 2 = nI s → SWS H0 g l B h B' s υ h' mv φ l' → (s ∈ l' ∨ s = h') → Tm (fun k => x_sweep k 8 N υ) (fun r => ∃ s2, ScO H0 g l B h B' s2 υ h' mv φ r.2 ∧ r.2.1 55 = nI s2) := by
  intro q
  induction q with
  | zero =>
    intro s N υ h' mv φ l' hq n2 hW hs
    have hb := SWS_b hW
    have hsh := hW.2.2.2.1
    have hBB := hW.2.2.1
    have e : s = h' := by omega
    refine Tm_suc (fun k => by rw [x_sweep]) ?_
    rw [n2, hW.2.2.2.2.1]
    refine Tm_ite (fun _ => ?_) (fun w => absurd ((n_le (by omega) (by omega)).mpr (by omega)) w)
    refine Tm_suc (fun k => by rw [x_sweep]) ?_
    exact Tm_some ⟨s, ⟨h', mv, φ, l', hW, Nat.le_refl _, fun x hx => ⟨hx, rfl⟩, fun _ _ => rfl, fun _ _ => rfl⟩, by rw [e]; exact hW.2.2.2.2.1⟩
  | succ q ih =>
    intro s N υ h' mv φ l' hq n2 hW hs
    have hb := SWS_b hW
    have hsh := hW.2.2.2.1
    have hBB := hW.2.2.1
    refine Tm_suc (fun k => by rw [x_sweep]) ?_
    rw [n2, hW.2.2.2.2.1]
    refine Tm_ite (fun w => ?_) (fun w => ?_)
    · have e := (n_le (by omega) (by omega)).mp w
      have e : s = h' := by omega
      refine Tm_suc (fun k => by rw [x_sweep]) ?_
      exact Tm_some ⟨s, ⟨h', mv, φ, l', hW, Nat.le_refl _, fun x hx => ⟨hx, rfl⟩, fun _ _ => rfl, fun _ _ => rfl⟩, by rw [e]; exact hW.2.2.2.2.1⟩
    have hlt : s < h' := by
      by_cases e : h' ≤ s
      · exact absurd ((n_le (by omega) (by omega)).mpr e) w
      · omega
    have hsl : s ∈ l' := hs.resolve_right (by omega)
    have hI := hW.2.2.2.2.2
    obtain ⟨v, n, u1, u2, u3, u4, u5, u6, u7⟩ := hI.2.2.2.2.2.1 s hsl
    have hH0 : υ.2.2 28 s = H0 v := u6 0 (by omega)
    have hH1 : υ.2.2 28 (s + 1) = nI n := (u6 1 (by omega)).trans u3
    -- behind this object
    have go : ∀ (M : Nat → Int32) (ρ : MS), M 2 = nI s → M 4 = nI n → ScO H0 g l B h B' (s + 4 + n) υ h' mv φ ρ → Tm (fun k => x_sweep k 10 M ρ) (fun r => ∃ s2, ScO H0 g l B h B' s2 υ h' mv φ r.2 ∧ r.2.1 55 = nI s2) := by
      intro M ρ m2 m4 hr
      obtain ⟨h3, mv3, φ3, l3, b1, b2, b3, b4, b5⟩ := hr
      have hb3 := SWS_b b1
      refine Tm_suc (fun k => by rw [x_sweep]) ?_
      rw [m2, m4, show (4 : Int32) + nI n = nI (4 + n) from n_add (p := 4) (by omega), n_add (by omega), ← Nat.add_assoc]
      obtain ⟨c1, c2⟩ := b3 v u1
      have hat := SwI_at b1.2.2.2.2.2 c1 u3 u4
      rw [c2, u2] at hat
      have hnx := Til_nx l3 _ b1.2.2.2.2.2.1 s n hat.1 ((hat.2.2.1 1 (by omega)).trans u3) u4 (by omega)
      refine Tm_mono (ih (s + 4 + n) _ ρ h3 mv3 φ3 l3 (by omega) rfl b1 hnx) (fun r hr => ?_)
      obtain ⟨s2, ⟨h4, mv4, φ4, l4, d1, d2, d3, d4, d5⟩, d6⟩ := hr
      exact ⟨s2, ⟨h4, mv4, φ4, l4, d1, by omega, SWG_tr b3 d3, fun j hj => (d4 j hj).trans (b4 j hj), fun j hj => (d5 j hj).trans (b5 j hj)⟩, d6⟩
    have hG0 : SWG mv mv φ φ := fun x hx => ⟨hx, rfl⟩
    rw [← u2] at hI
    have hsk := SwI_head hI u1 u3 u4
    rw [u2] at hsk
    have p9 : (H0 v = nI 5 ∨ H0 v = nI 6) → ∀ M : Nat → Int32, M 2 = nI s → M 4 = nI n → Tm (fun k => x_sweep k 9 M υ) (fun r => ∃ s2, ScO H0 g l B h B' s2 υ h' mv φ r.2 ∧ r.2.1 55 = nI s2) := by
      intro hk M m2 m4
      refine Tm_suc (fun k => by rw [x_sweep]) ?_
      rw [m2, m4, show nI s + 4 = nI (s + 4) from n_add (q := 4) (by omega)]
      have hW4 : SWS H0 g l B h B' (φ v + 4) υ h' mv φ l' := by
        rw [u2]
        exact ⟨hW.1, hW.2.1, hW.2.2.1, by omega, hW.2.2.2.2.1, hsk.1⟩
      refine Tm_ob (s_cpR28 hW4 u1 u3 u4 hk (by rw [u2]; rfl) rfl) (fun r hr => ?_)
      rw [u2] at hr
      exact go _ _ m2 m4 hr
    have p10 : ¬ (H0 v = nI 5 ∨ H0 v = nI 6) → ∀ M : Nat → Int32, M 2 = nI s → M 4 = nI n → Tm (fun k => x_sweep k 10 M υ) (fun r => ∃ s2, ScO H0 g l B h B' s2 υ h' mv φ r.2 ∧ r.2.1 55 = nI s2) := by
      intro hk M m2 m4
      exact go _ _ m2 m4 ⟨h', mv, φ, l', ⟨hW.1, hW.2.1, hW.2.2.1, by omega, hW.2.2.2.2.1, hsk.2 hk⟩, Nat.le_refl _, hG0, fun _ _ => rfl, fun _ _ => rfl⟩
    rw [n_add1]
    refine Tm_chk (n_in (by omega) (by omega)) ?_
    refine Tm_chk (n_in (by omega) (by omega)) ?_
    rw [n_cl (p := s) (by omega), n_cl (p := s + 1) (by omega), hH0, hH1]
    refine Tm_ite (fun k5 => p9 (Or.inl k5) _ n2 rfl) (fun k5 => ?_)
    refine Tm_ite (fun k6 => p9 (Or.inr k6) _ n2 rfl) (fun k6 => ?_)
    exact p10 (fun z => z.elim k5 k6) _ n2 rfl
end SCL

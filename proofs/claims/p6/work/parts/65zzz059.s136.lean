/-! The sweep: copied (reference). -/
/-- the state midway in a sweep -/
def SWS (H0 : Nat → Int32) (g : Nat → Prop) (l : List Nat) (B h B' s : Nat) (τ : MS) (h' : Nat) (mv : Nat → Bool) (φ : Nat → Nat) (l' : List Nat) : Prop :=
  HO H0 g l (B + 4) h ∧ h ≤ B + 870000 ∧ ((B = 0 ∧ B' = 870000) ∨ (B = 870000 ∧ B' = 0)) ∧ s ≤ h' ∧ τ.1 55 = nI h' ∧ SwI H0 g l B h B' h' s (τ.2.2 28) mv φ l'
/-- more is moved; what was moved stays -/
def SWG (mv mv2 : Nat → Bool) (φ φ2 : Nat → Nat) : Prop := ∀ x, mv x = true → mv2 x = true ∧ φ2 x = φ x
/-- a value and what it has become -/
def SWV (mv : Nat → Bool) (φ : Nat → Nat) (m : Nat) (x : Int32) : Prop := (m < 3 ∧ x = nI m) ∨ (mv m = true ∧ x = nI (φ m))
def CpO (H0 : Nat → Int32) (g : Nat → Prop) (l : List Nat) (B h B' s : Nat) (τ : MS) (h' : Nat) (mv : Nat → Bool) (φ : Nat → Nat) (m : Nat) (r : Int32 × MS) : Prop :=
  ∃ h2 mv2 φ2 l2, SWS H0 g l B h B' s r.2 h2 mv2 φ2 l2 ∧ h' ≤ h2 ∧ SWG mv mv2 φ φ2 ∧ SWV mv2 φ2 m r.1 ∧ (∀ j, j ≠ 55 → r.2.1 j = τ.1 j) ∧ (∀ j, j ≠ 28 → r.2.2.2 j = τ.2.2 j)
section CPD
variable {H0 : Nat → Int32} {g : Nat → Prop} {l l' : List Nat} {B h B' h' s : Nat} {mv : Nat → Bool} {φ : Nat → Nat} {τ : MS}
theorem SWS_b (hW : SWS H0 g l B h B' s τ h' mv φ l') : B' + 4 ≤ h' ∧ h' ≤ B' + 870000 ∧ h' + rmS H0 mv l ≤ B' + (h - B) := by
  obtain ⟨w1, w2, w3, w4, w5, i1, i2, _⟩ := hW
  have := Til_le _ _ i1
  exact ⟨this, by omega, i2⟩
theorem n_nm1 {k : Nat} (hk : k ≤ 6) : ¬ nI k = -1 := by
  have : k = 0 ∨ k = 1 ∨ k = 2 ∨ k = 3 ∨ k = 4 ∨ k = 5 ∨ k = 6 := by omega
  rcases this with rfl | rfl | rfl | rfl | rfl | rfl | rfl <;> decide
theorem s_copied (hW : SWS H0 g l B h B' s τ h' mv φ l') {m : Nat} (hm : m < 3 ∨ g m) {L : Nat → Int32} (hL : L 1 = nI m) : Tm (fun k => x_copied k 0 L τ) (CpO H0 g l B h B' s τ h' mv φ m) := by
  have hb := SWS_b hW
  have hW0 := hW
  obtain ⟨w1, w2, w3, w4, w5, hI⟩ := hW
  have hI0 := hI
  obtain ⟨i1, i2, i3, i4, i5, i6⟩ := hI
  have hG0 : SWG mv mv φ φ := fun x hx => ⟨hx, rfl⟩
  have hold : 3 ≤ m → g m := fun q => by
    rcases hm with z | z
    · omega
    · exact z
  have hmb : m < 1740000 := by
    rcases hm with z | z
    · omega
    · obtain ⟨_, n, _, _, _, _, q⟩ := HO_at w1 (by omega) z
      omega
  refine Tm_suc (fun k => by rw [x_copied]) ?_
  rw [hL]
  refine Tm_ite (fun z => ?_) (fun z => ?_)
  case refine_2 =>
    have hm3 : m < 3 := by
      by_cases e : 3 ≤ m
      · exact absurd ((n_le (p := 3) (by decide) (by omega)).mpr e) z
      · omega
    exact Tm_some ⟨h', mv, φ, l', hW0, Nat.le_refl _, hG0, Or.inl ⟨hm3, rfl⟩, fun _ _ => rfl, fun _ _ => rfl⟩
  have gm := hold ((n_le (p := 3) (by decide) (by omega)).mp z)
  obtain ⟨k0, n, s0, t0, q1, q2, q3⟩ := HO_at w1 (by omega) gm
  have hn := q1.2.1
  have hn2 := q1.2.2.2.2.2.2.2.1
  have hk6 := q1.2.2.2.2.1
  refine Tm_suc (fun k => by rw [x_copied]) ?_
  rw [hL, show nI m + 1 = nI (m + 1) from n_add1 m]
  refine Tm_chk (n_in (by omega) (by omega)) ?_
  rw [n_cl (p := m) (by omega)]
  cases hmv : mv m with
  | true =>
    obtain ⟨c1, c2⟩ := i5 m hmv
    refine Tm_ite (fun _ => ?_) (fun w => absurd c1 w)
    refine Tm_chk (n_in (by omega) (by omega)) ?_
    rw [n_cl (p := m + 1) (by omega), c2]
    exact Tm_some ⟨h', mv, φ, l', hW0, Nat.le_refl _, hG0, Or.inr ⟨hmv, rfl⟩, fun _ _ => rfl, fun _ _ => rfl⟩
  | false =>
    have hcell := i4 m n gm hmv hn hn2
    have hrm := rmS_mv l _ w1.1 (w1.2 m gm).1 hmv
    rw [hn, n_cl (by omega)] at hrm
    have c0 : τ.2.2 28 m = H0 m := hcell 0 (by omega)
    have c1 : τ.2.2 28 (m + 1) = nI n := (hcell 1 (by omega)).trans hn
    refine Tm_ite (fun w => absurd (by rw [← q1.1, ← c0]; exact w) (n_nm1 hk6.2)) (fun _ => ?_)
    refine Tm_suc (fun k => by rw [x_copied]) ?_
    rw [hL, show nI m + 1 = nI (m + 1) from n_add1 m]
    refine Tm_chk (n_in (by omega) (by omega)) ?_
    rw [n_cl (p := m + 1) (by omega), c1, w5, show (4 : Int32) + nI n = nI (4 + n) from n_add (p := 4) (by omega), n_add (by omega)]
    show Tm (fun k => x_copied k 3 (upd (upd L 2 (nI (4 + n))) 3 (nI h')) (mSc τ 55 (nI (h' + (4 + n))))) _
    refine Tm_suc (fun k => by rw [x_copied]) ?_
    have l4 : ∀ (q i : Nat) (N : Nat → Int32) (υ : MS), q + i = 4 + n → N 1 = nI m → N 2 = nI (4 + n) → N 3 = nI h' → N 4 = nI i → (∀ j, j ≠ 55 → υ.1 j = τ.1 j) → υ.1 55 = nI (h' + (4 + n)) → (∀ j, j ≠ 28 → υ.2.2 j = τ.2.2 j) → (∀ j, ¬ (h' ≤ j ∧ j < h' + i) → υ.2.2 28 j = τ.2.2 28 j) → (∀ j, j < i → υ.2.2 28 (h' + j) = τ.2.2 28 (m + j)) → Tm (fun k => x_copied k 4 N υ) (CpO H0 g l B h B' s τ h' mv φ m) := by
      intro q
      induction q with
      | zero =>
        intro i N υ hi n1 n2 n3 n4 u1 u55 u2 u3 u4
        have hi : i = 4 + n := by omega
        subst hi
        refine Tm_suc (fun k => by rw [x_copied]) ?_
        rw [n2, n4]
        refine Tm_ite (fun _ => ?_) (fun w => absurd ((n_le (by omega) (by omega)).mpr (by omega)) w)
        refine Tm_suc (fun k => by rw [x_copied]) ?_
        rw [n1]
        refine Tm_chk (n_in (by omega) (by omega)) ?_
        rw [n_cl (p := m) (by omega)]
        show Tm (fun k => x_copied k 7 N (mAr υ 28 m (-1))) _
        refine Tm_suc (fun k => by rw [x_copied]) ?_
        rw [n1, show nI m + 1 = nI (m + 1) from n_add1 m]
        refine Tm_chk (n_in (by omega) (by omega)) ?_
        rw [n_cl (p := m + 1) (by omega), n3]
        show Tm (fun k => x_copied k 8 N (mAr (mAr υ 28 m (-1)) 28 (m + 1) (nI h'))) _
        refine Tm_suc (fun k => by rw [x_copied]) ?_
        rw [n3]
        have e28 : (mAr (mAr υ 28 m (-1)) 28 (m + 1) (nI h')).2.2 28 = upd (upd (υ.2.2 28) m (-1)) (m + 1) (nI h') := by rw [mAr_s, mAr_s]
        refine Tm_some ⟨h' + 4 + n, mvA mv m, fun x => if x = m then h' else φ x, l' ++ [h'], ⟨w1, w2, w3, by omega, ?_, ?_⟩, by omega, fun x hx => ?_, Or.inr ⟨if_pos rfl, ?_⟩, fun j hj => u1 j hj, fun j hj => ?_⟩
        · show υ.1 55 = _
          rw [u55, Nat.add_assoc]
        · refine SwI_add (H := τ.2.2 28) w1 w2 w3 w4 hI0 gm hmv hn hn2 q2 q3 (fun j a1 a2 a3 => ?_) (fun j hj => ?_) ?_ ?_
          · rw [e28, upd_other a2, upd_other a1]; exact u3 j a3
          · rw [e28, upd_other (by omega), upd_other (by omega)]; exact u4 j hj
          · rw [e28, upd_other (by omega), upd_same]
          · rw [e28, upd_same]
        · have : x ≠ m := fun e => by rw [e, hmv] at hx; exact absurd hx (by decide)
          exact ⟨(if_neg this).trans hx, if_neg this⟩
        · show nI h' = nI (if m = m then h' else φ m)
          rw [if_pos rfl]
        · rw [mAr_o hj, mAr_o hj]; exact u2 j hj
      | succ q ih =>
        intro i N υ hi n1 n2 n3 n4 u1 u55 u2 u3 u4
        refine Tm_suc (fun k => by rw [x_copied]) ?_
        rw [n2, n4, n1, n3, n_add (by omega), n_add (by omega)]
        refine Tm_ite (fun w => absurd ((n_le (by omega) (by omega)).mp w) (by omega)) (fun _ => ?_)
        refine Tm_chk (n_in (by omega) (by omega)) ?_
        refine Tm_chk (n_in (by omega) (by omega)) ?_
        rw [n_cl (p := m + i) (by omega), n_cl (p := h' + i) (by omega), u3 (m + i) (by omega)]
        show Tm (fun k => x_copied k 5 N (mAr υ 28 (h' + i) (τ.2.2 28 (m + i)))) _
        refine Tm_suc (fun k => by rw [x_copied]) ?_
        refine ih (i + 1) _ _ (by omega) n1 n2 n3 (by show N 4 + 1 = _; rw [n4, n_add1]) u1 u55 (fun j hj => (mAr_o hj).trans (u2 j hj)) (fun j hj => ?_) (fun j hj => ?_)
        · rw [mAr_s, upd_other (by omega)]; exact u3 j (by omega)
        · by_cases e : j = i
          · rw [e, mAr_s, upd_same]
          · rw [mAr_s, upd_other (by omega)]; exact u4 j (by omega)
    exact l4 (4 + n) 0 _ _ (by omega) hL rfl rfl rfl (fun j hj => upd_other hj) rfl (fun _ _ => rfl) (fun _ _ => rfl) (fun j hj => absurd hj (Nat.not_lt_zero j))
end CPD

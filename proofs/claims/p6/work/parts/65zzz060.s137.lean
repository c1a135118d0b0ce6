/-! The sweep: rows of roots (reference; made by cpr.py). -/
/-- a row of roots has been copied -/
def RwO (H0 : Nat → Int32) (g : Nat → Prop) (l : List Nat) (B h B' s a f c : Nat) (τ : MS) (h' : Nat) (mv : Nat → Bool) (φ : Nat → Nat) (ρ : MS) : Prop :=
  ∃ h2 mv2 φ2 l2, SWS H0 g l B h B' s ρ h2 mv2 φ2 l2 ∧ h' ≤ h2 ∧ SWG mv mv2 φ φ2 ∧ (∀ i, i < c → ∃ m, τ.2.2 a (f + i) = nI m ∧ (m < 3 ∨ g m) ∧ SWV mv2 φ2 m (ρ.2.2 a (f + i))) ∧ (∀ i, ¬ (f ≤ i ∧ i < f + c) → ρ.2.2 a i = τ.2.2 a i) ∧ (∀ j, j ≠ 55 → ρ.1 j = τ.1 j) ∧ (∀ j, j ≠ 28 → j ≠ a → ρ.2.2 j = τ.2.2 j)
section CPR
variable {H0 : Nat → Int32} {g : Nat → Prop} {l l' : List Nat} {B h B' h' s : Nat} {mv : Nat → Bool} {φ : Nat → Nat} {τ : MS}
theorem SWG_tr {mv2 mv3 : Nat → Bool} {φ2 φ3 : Nat → Nat} (a : SWG mv mv2 φ φ2) (b : SWG mv2 mv3 φ2 φ3) : SWG mv mv3 φ φ3 := fun x hx => ⟨(b x (a x hx).1).1, ((b x (a x hx).1).2).trans (a x hx).2⟩
theorem SWV_mo {mv2 : Nat → Bool} {φ2 : Nat → Nat} {m : Nat} {x : Int32} (a : SWG mv mv2 φ φ2) (b : SWV mv φ m x) : SWV mv2 φ2 m x := b.imp id (fun z => ⟨(a m z.1).1, by rw [(a m z.1).2]; exact z.2⟩)
theorem SWS_c {ρ : MS} (hW : SWS H0 g l B h B' s τ h' mv φ l') (h55 : ρ.1 55 = τ.1 55) (h28 : ρ.2.2 28 = τ.2.2 28) : SWS H0 g l B h B' s ρ h' mv φ l' := by
  obtain ⟨w1, w2, w3, w4, w5, w6⟩ := hW
  exact ⟨w1, w2, w3, w4, h55.trans w5, by rw [h28]; exact w6⟩
theorem s_cpR29 (hW : SWS H0 g l B h B' s τ h' mv φ l') {f c : Nat} (hfc : f + c ≤ 185000) (hV : ∀ i, i < c → ∃ m, τ.2.2 29 (f + i) = nI m ∧ (m < 3 ∨ g m)) {L : Nat → Int32} (h2 : L 2 = nI f) (h3 : L 3 = nI c) : Tm (fun k => x_copyRow__29 k 0 L τ) (fun r => RwO H0 g l B h B' s 29 f c τ h' mv φ r.2) := by
  have l1 : ∀ (q i : Nat) (N : Nat → Int32) (υ : MS) (h2 : Nat) (mv2 : Nat → Bool) (φ2 : Nat → Nat) (l2 : List Nat), q + i = c → N 2 = nI f → N 3 = nI c → N 4 = nI (f + i) → SWS H0 g l B h B' s υ h2 mv2 φ2 l2 → h' ≤ h2 → SWG mv mv2 φ φ2 → (∀ j, j < i → ∃ m, τ.2.2 29 (f + j) = nI m ∧ (m < 3 ∨ g m) ∧ SWV mv2 φ2 m (υ.2.2 29 (f + j))) → (∀ j, ¬ (f ≤ j ∧ j < f + i) → υ.2.2 29 j = τ.2.2 29 j) → (∀ j, j ≠ 55 → υ.1 j = τ.1 j) → (∀ j, j ≠ 28 → j ≠ 29 → υ.2.2 j = τ.2.2 j) → Tm (fun k => x_copyRow__29 k 1 N υ) (fun r => RwO H0 g l B h B' s 29 f c τ h' mv φ r.2) := by
    intro q
    induction q with
    | zero =>
      intro i N υ h2 mv2 φ2 l2 hi n2 n3 n4 hS hle hG a1 a2 a3 a4
      have hi : i = c := by omega
      subst hi
      refine Tm_suc (fun k => by rw [x_copyRow__29]) ?_
      rw [n2, n3, n4, n_add (by omega)]
      refine Tm_ite (fun _ => ?_) (fun w => absurd ((n_le (by omega) (by omega)).mpr (by omega)) w)
      refine Tm_suc (fun k => by rw [x_copyRow__29]) ?_
      exact Tm_some ⟨h2, mv2, φ2, l2, hS, hle, hG, a1, a2, a3, a4⟩
    | succ q ih =>
      intro i N υ h2 mv2 φ2 l2 hi n2 n3 n4 hS hle hG a1 a2 a3 a4
      obtain ⟨m, m1, m2⟩ := hV i (by omega)
      refine Tm_suc (fun k => by rw [x_copyRow__29]) ?_
      rw [n2, n3, n4, n_add (by omega)]
      refine Tm_ite (fun w => absurd ((n_le (by omega) (by omega)).mp w) (by omega)) (fun _ => ?_)
      refine Tm_chk (n_in (by omega) (by omega)) ?_
      rw [n_cl (p := f + i) (by omega), a2 (f + i) (by omega), m1]
      refine Tm_ob (s_copied hS m2 rfl) (fun r hr => ?_)
      obtain ⟨h3, mv3, φ3, l3, b1, b2, b3, b4, b5, b6⟩ := hr
      refine Tm_chk (n_in2 (by omega) (by omega)) ?_
      show Tm (fun k => x_copyRow__29 k 2 N (mAr r.2 29 (f + i) r.1)) _
      refine Tm_suc (fun k => by rw [x_copyRow__29]) ?_
      refine ih (i + 1) _ _ h3 mv3 φ3 l3 (by omega) n2 n3 (by show N 4 + 1 = _; rw [n4, n_add1, Nat.add_assoc]) (SWS_c b1 rfl (mAr_o (by decide))) (by omega) (SWG_tr hG b3) (fun j hj => ?_) (fun j hj => ?_) (fun j hj => (b5 j hj).trans (a3 j hj)) (fun j q1 q2 => ?_)
      · by_cases e : j = i
        · rw [e, mAr_s, upd_same]; exact ⟨m, m1, m2, b4⟩
        · rw [mAr_s, upd_other (by omega), b6 29 (by decide)]
          obtain ⟨u, u1, u2, u3⟩ := a1 j (by omega)
          exact ⟨u, u1, u2, SWV_mo b3 u3⟩
      · rw [mAr_s, upd_other (by omega), b6 29 (by decide)]; exact a2 j (by omega)
      · rw [mAr_o q2, b6 j q1]; exact a4 j q1 q2
  refine Tm_suc (fun k => by rw [x_copyRow__29]) ?_
  exact l1 c 0 _ _ h' mv φ l' (by omega) h2 h3 h2 hW (Nat.le_refl _) (fun x hx => ⟨hx, rfl⟩) (fun j hj => absurd hj (Nat.not_lt_zero j)) (fun _ _ => rfl) (fun _ _ => rfl) (fun _ _ _ => rfl)
theorem s_cpR30 (hW : SWS H0 g l B h B' s τ h' mv φ l') {f c : Nat} (hfc : f + c ≤ 11514) (hV : ∀ i, i < c → ∃ m, τ.2.2 30 (f + i) = nI m ∧ (m < 3 ∨ g m)) {L : Nat → Int32} (h2 : L 2 = nI f) (h3 : L 3 = nI c) : Tm (fun k => x_copyRow__30 k 0 L τ) (fun r => RwO H0 g l B h B' s 30 f c τ h' mv φ r.2) := by
  have l1 : ∀ (q i : Nat) (N : Nat → Int32) (υ : MS) (h2 : Nat) (mv2 : Nat → Bool) (φ2 : Nat → Nat) (l2 : List Nat), q + i = c → N 2 = nI f → N 3 = nI c → N 4 = nI (f + i) → SWS H0 g l B h B' s υ h2 mv2 φ2 l2 → h' ≤ h2 → SWG mv mv2 φ φ2 → (∀ j, j < i → ∃ m, τ.2.2 30 (f + j) = nI m ∧ (m < 3 ∨ g m) ∧ SWV mv2 φ2 m (υ.2.2 30 (f + j))) → (∀ j, ¬ (f ≤ j ∧ j < f + i) → υ.2.2 30 j = τ.2.2 30 j) → (∀ j, j ≠ 55 → υ.1 j = τ.1 j) → (∀ j, j ≠ 28 → j ≠ 30 → υ.2.2 j = τ.2.2 j) → Tm (fun k => x_copyRow__30 k 1 N υ) (fun r => RwO H0 g l B h B' s 30 f c τ h' mv φ r.2) := by
    intro q
    induction q with
    | zero =>
      intro i N υ h2 mv2 φ2 l2 hi n2 n3 n4 hS hle hG a1 a2 a3 a4
      have hi : i = c := by omega
      subst hi
      refine Tm_suc (fun k => by rw [x_copyRow__30]) ?_
      rw [n2, n3, n4, n_add (by omega)]
      refine Tm_ite (fun _ => ?_) (fun w => absurd ((n_le (by omega) (by omega)).mpr (by omega)) w)
      refine Tm_suc (fun k => by rw [x_copyRow__30]) ?_
      exact Tm_some ⟨h2, mv2, φ2, l2, hS, hle, hG, a1, a2, a3, a4⟩
    | succ q ih =>
      intro i N υ h2 mv2 φ2 l2 hi n2 n3 n4 hS hle hG a1 a2 a3 a4
      obtain ⟨m, m1, m2⟩ := hV i (by omega)
      refine Tm_suc (fun k => by rw [x_copyRow__30]) ?_
      rw [n2, n3, n4, n_add (by omega)]
      refine Tm_ite (fun w => absurd ((n_le (by omega) (by omega)).mp w) (by omega)) (fun _ => ?_)
      refine Tm_chk (n_in (by omega) (by omega)) ?_
      rw [n_cl (p := f + i) (by omega), a2 (f + i) (by omega), m1]
      refine Tm_ob (s_copied hS m2 rfl) (fun r hr => ?_)
      obtain ⟨h3, mv3, φ3, l3, b1, b2, b3, b4, b5, b6⟩ := hr
      refine Tm_chk (n_in2 (by omega) (by omega)) ?_
      show Tm (fun k => x_copyRow__30 k 2 N (mAr r.2 30 (f + i) r.1)) _
      refine Tm_suc (fun k => by rw [x_copyRow__30]) ?_
      refine ih (i + 1) _ _ h3 mv3 φ3 l3 (by omega) n2 n3 (by show N 4 + 1 = _; rw [n4, n_add1, Nat.add_assoc]) (SWS_c b1 rfl (mAr_o (by decide))) (by omega) (SWG_tr hG b3) (fun j hj => ?_) (fun j hj => ?_) (fun j hj => (b5 j hj).trans (a3 j hj)) (fun j q1 q2 => ?_)
      · by_cases e : j = i
        · rw [e, mAr_s, upd_same]; exact ⟨m, m1, m2, b4⟩
        · rw [mAr_s, upd_other (by omega), b6 30 (by decide)]
          obtain ⟨u, u1, u2, u3⟩ := a1 j (by omega)
          exact ⟨u, u1, u2, SWV_mo b3 u3⟩
      · rw [mAr_s, upd_other (by omega), b6 30 (by decide)]; exact a2 j (by omega)
      · rw [mAr_o q2, b6 j q1]; exact a4 j q1 q2
  refine Tm_suc (fun k => by rw [x_copyRow__30]) ?_
  exact l1 c 0 _ _ h' mv φ l' (by omega) h2 h3 h2 hW (Nat.le_refl _) (fun x hx => ⟨hx, rfl⟩) (fun j hj => absurd hj (Nat.not_lt_zero j)) (fun _ _ => rfl) (fun _ _ => rfl) (fun _ _ _ => rfl)
theorem s_cpR31 (hW : SWS H0 g l B h B' s τ h' mv φ l') {f c : Nat} (hfc : f + c ≤ 230280) (hV : ∀ i, i < c → ∃ m, τ.2.2 31 (f + i) = nI m ∧ (m < 3 ∨ g m)) {L : Nat → Int32} (h2 : L 2 = nI f) (h3 : L 3 = nI c) : Tm (fun k => x_copyRow__31 k 0 L τ) (fun r => RwO H0 g l B h B' s 31 f c τ h' mv φ r.2) := by
  have l1 : ∀ (q i : Nat) (N : Nat → Int32) (υ : MS) (h2 : Nat) (mv2 : Nat → Bool) (φ2 : Nat → Nat) (l2 : List Nat), q + i = c → N 2 = nI f → N 3 = nI c → N 4 = nI (f + i) → SWS H0 g l B h B' s υ h2 mv2 φ2 l2 → h' ≤ h2 → SWG mv mv2 φ φ2 → (∀ j, j < i → ∃ m, τ.2.2 31 (f + j) = nI m ∧ (m < 3 ∨ g m) ∧ SWV mv2 φ2 m (υ.2.2 31 (f + j))) → (∀ j, ¬ (f ≤ j ∧ j < f + i) → υ.2.2 31 j = τ.2.2 31 j) → (∀ j, j ≠ 55 → υ.1 j = τ.1 j) → (∀ j, j ≠ 28 → j ≠ 31 → υ.2.2 j = τ.2.2 j) → Tm (fun k => x_copyRow__31 k 1 N υ) (fun r => RwO H0 g l B h B' s 31 f c τ h' mv φ r.2) := by
    intro q
    induction q with
    | zero =>
      intro i N υ h2 mv2 φ2 l2 hi n2 n3 n4 hS hle hG a1 a2 a3 a4
      have hi : i = c := by omega
      subst hi
      refine Tm_suc (fun k => by rw [x_copyRow__31]) ?_
      rw [n2, n3, n4, n_add (by omega)]
      refine Tm_ite (fun _ => ?_) (fun w => absurd ((n_le (by omega) (by omega)).mpr (by omega)) w)
      refine Tm_suc (fun k => by rw [x_copyRow__31]) ?_
      exact Tm_some ⟨h2, mv2, φ2, l2, hS, hle, hG, a1, a2, a3, a4⟩
    | succ q ih =>
      intro i N υ h2 mv2 φ2 l2 hi n2 n3 n4 hS hle hG a1 a2 a3 a4
      obtain ⟨m, m1, m2⟩ := hV i (by omega)
      refine Tm_suc (fun k => by rw [x_copyRow__31]) ?_
      rw [n2, n3, n4, n_add (by omega)]
      refine Tm_ite (fun w => absurd ((n_le (by omega) (by omega)).mp w) (by omega)) (fun _ => ?_)
      refine Tm_chk (n_in (by omega) (by omega)) ?_
      rw [n_cl (p := f + i) (by omega), a2 (f + i) (by omega), m1]
      refine Tm_ob (s_copied hS m2 rfl) (fun r hr => ?_)
      obtain ⟨h3, mv3, φ3, l3, b1, b2, b3, b4, b5, b6⟩ := hr
      refine Tm_chk (n_in2 (by omega) (by omega)) ?_
      show Tm (fun k => x_copyRow__31 k 2 N (mAr r.2 31 (f + i) r.1)) _
      refine Tm_suc (fun k => by rw [x_copyRow__31]) ?_
      refine ih (i + 1) _ _ h3 mv3 φ3 l3 (by omega) n2 n3 (by show N 4 + 1 = _; rw [n4, n_add1, Nat.add_assoc]) (SWS_c b1 rfl (mAr_o (by decide))) (by omega) (SWG_tr hG b3) (fun j hj => ?_) (fun j hj => ?_) (fun j hj => (b5 j hj).trans (a3 j hj)) (fun j q1 q2 => ?_)
      · by_cases e : j = i
        · rw [e, mAr_s, upd_same]; exact ⟨m, m1, m2, b4⟩
        · rw [mAr_s, upd_other (by omega), b6 31 (by decide)]
          obtain ⟨u, u1, u2, u3⟩ := a1 j (by omega)
          exact ⟨u, u1, u2, SWV_mo b3 u3⟩
      · rw [mAr_s, upd_other (by omega), b6 31 (by decide)]; exact a2 j (by omega)
      · rw [mAr_o q2, b6 j q1]; exact a4 j q1 q2
  refine Tm_suc (fun k => by rw [x_copyRow__31]) ?_
  exact l1 c 0 _ _ h' mv φ l' (by omega) h2 h3 h2 hW (Nat.le_refl _) (fun x hx => ⟨hx, rfl⟩) (fun j hj => absurd hj (Nat.not_lt_zero j)) (fun _ _ => rfl) (fun _ _ => rfl) (fun _ _ _ => rfl)
theorem s_cpR33 (hW : SWS H0 g l B h B' s τ h' mv φ l') {f c : Nat} (hfc : f + c ≤ 1380) (hV : ∀ i, i < c → ∃ m, τ.2.2 33 (f + i) = nI m ∧ (m < 3 ∨ g m)) {L : Nat → Int32} (h2 : L 2 = nI f) (h3 : L 3 = nI c) : Tm (fun k => x_copyRow__33 k 0 L τ) (fun r => RwO H0 g l B h B' s 33 f c τ h' mv φ r.2) := by
  have l1 : ∀ (q i : Nat) (N : Nat → Int32) (υ : MS) (h2 : Nat) (mv2 : Nat → Bool) (φ2 : Nat → Nat) (l2 : List Nat), q + i = c → N 2 = nI f → N 3 = nI c → N 4 = nI (f + i) → SWS H0 g l B h B' s υ h2 mv2 φ2 l2 → h' ≤ h2 → SWG mv mv2 φ φ2 → (∀ j, j < i → ∃ m, τ.2.2 33 (f + j) = nI m ∧ (m < 3 ∨ g m) ∧ SWV mv2 φ2 m (υ.2.2 33 (f + j))) → (∀ j, ¬ (f ≤ j ∧ j < f + i) → υ.2.2 33 j = τ.2.2 33 j) → (∀ j, j ≠ 55 → υ.1 j = τ.1 j) → (∀ j, j ≠ 28 → j ≠ 33 → υ.2.2 j = τ.2.2 j) → Tm (fun k => x_copyRow__33 k 1 N υ) (fun r => RwO H0 g l B h B' s 33 f c τ h' mv φ r.2) := by
    intro q
    induction q with
    | zero =>
      intro i N υ h2 mv2 φ2 l2 hi n2 n3 n4 hS hle hG a1 a2 a3 a4
      have hi : i = c := by omega
      subst hi
      refine Tm_suc (fun k => by rw [x_copyRow__33]) ?_
      rw [n2, n3, n4, n_add (by omega)]
      refine Tm_ite (fun _ => ?_) (fun w => absurd ((n_le (by omega) (by omega)).mpr (by omega)) w)
      refine Tm_suc (fun k => by rw [x_copyRow__33]) ?_
      exact Tm_some ⟨h2, mv2, φ2, l2, hS, hle, hG, a1, a2, a3, a4⟩
    | succ q ih =>
      intro i N υ h2 mv2 φ2 l2 hi n2 n3 n4 hS hle hG a1 a2 a3 a4
      obtain ⟨m, m1, m2⟩ := hV i (by omega)
      refine Tm_suc (fun k => by rw [x_copyRow__33]) ?_
      rw [n2, n3, n4, n_add (by omega)]
      refine Tm_ite (fun w => absurd ((n_le (by omega) (by omega)).mp w) (by omega)) (fun _ => ?_)
      refine Tm_chk (n_in (by omega) (by omega)) ?_
      rw [n_cl (p := f + i) (by omega), a2 (f + i) (by omega), m1]
      refine Tm_ob (s_copied hS m2 rfl) (fun r hr => ?_)
      obtain ⟨h3, mv3, φ3, l3, b1, b2, b3, b4, b5, b6⟩ := hr
      refine Tm_chk (n_in2 (by omega) (by omega)) ?_
      show Tm (fun k => x_copyRow__33 k 2 N (mAr r.2 33 (f + i) r.1)) _
      refine Tm_suc (fun k => by rw [x_copyRow__33]) ?_
      refine ih (i + 1) _ _ h3 mv3 φ3 l3 (by omega) n2 n3 (by show N 4 + 1 = _; rw [n4, n_add1, Nat.add_assoc]) (SWS_c b1 rfl (mAr_o (by decide))) (by omega) (SWG_tr hG b3) (fun j hj => ?_) (fun j hj => ?_) (fun j hj => (b5 j hj).trans (a3 j hj)) (fun j q1 q2 => ?_)
      · by_cases e : j = i
        · rw [e, mAr_s, upd_same]; exact ⟨m, m1, m2, b4⟩
        · rw [mAr_s, upd_other (by omega), b6 33 (by decide)]
          obtain ⟨u, u1, u2, u3⟩ := a1 j (by omega)
          exact ⟨u, u1, u2, SWV_mo b3 u3⟩
      · rw [mAr_s, upd_other (by omega), b6 33 (by decide)]; exact a2 j (by omega)
      · rw [mAr_o q2, b6 j q1]; exact a4 j q1 q2
  refine Tm_suc (fun k => by rw [x_copyRow__33]) ?_
  exact l1 c 0 _ _ h' mv φ l' (by omega) h2 h3 h2 hW (Nat.le_refl _) (fun x hx => ⟨hx, rfl⟩) (fun j hj => absurd hj (Nat.not_lt_zero j)) (fun _ _ => rfl) (fun _ _ => rfl) (fun _ _ _ => rfl)
theorem s_cpR34 (hW : SWS H0 g l B h B' s τ h' mv φ l') {f c : Nat} (hfc : f + c ≤ 4000) (hV : ∀ i, i < c → ∃ m, τ.2.2 34 (f + i) = nI m ∧ (m < 3 ∨ g m)) {L : Nat → Int32} (h2 : L 2 = nI f) (h3 : L 3 = nI c) : Tm (fun k => x_copyRow__34 k 0 L τ) (fun r => RwO H0 g l B h B' s 34 f c τ h' mv φ r.2) := by
  have l1 : ∀ (q i : Nat) (N : Nat → Int32) (υ : MS) (h2 : Nat) (mv2 : Nat → Bool) (φ2 : Nat → Nat) (l2 : List Nat), q + i = c → N 2 = nI f → N 3 = nI c → N 4 = nI (f + i) → SWS H0 g l B h B' s υ h2 mv2 φ2 l2 → h' ≤ h2 → SWG mv mv2 φ φ2 → (∀ j, j < i → ∃ m, τ.2.2 34 (f + j) = nI m ∧ (m < 3 ∨ g m) ∧ SWV mv2 φ2 m (υ.2.2 34 (f + j))) → (∀ j, ¬ (f ≤ j ∧ j < f + i) → υ.2.2 34 j = τ.2.2 34 j) → (∀ j, j ≠ 55 → υ.1 j = τ.1 j) → (∀ j, j ≠ 28 → j ≠ 34 → υ.2.2 j = τ.2.2 j) → Tm (fun k => x_copyRow__34 k 1 N υ) (fun r => RwO H0 g l B h B' s 34 f c τ h' mv φ r.2) := by
    intro q
    induction q with
    | zero =>
      intro i N υ h2 mv2 φ2 l2 hi n2 n3 n4 hS hle hG a1 a2 a3 a4
      have hi : i = c := by omega
      subst hi
      refine Tm_suc (fun k => by rw [x_copyRow__34]) ?_
      rw [n2, n3, n4, n_add (by omega)]
      refine Tm_ite (fun _ => ?_) (fun w => absurd ((n_le (by omega) (by omega)).mpr (by omega)) w)
      refine Tm_suc (fun k => by rw [x_copyRow__34]) ?_
      exact Tm_some ⟨h2, mv2, φ2, l2, hS, hle, hG, a1, a2, a3, a4⟩
    | succ q ih =>
      intro i N υ h2 mv2 φ2 l2 hi n2 n3 n4 hS hle hG a1 a2 a3 a4
      obtain ⟨m, m1, m2⟩ := hV i (by omega)
      refine Tm_suc (fun k => by rw [x_copyRow__34]) ?_
      rw [n2, n3, n4, n_add (by omega)]
      refine Tm_ite (fun w => absurd ((n_le (by omega) (by omega)).mp w) (by omega)) (fun _ => ?_)
      refine Tm_chk (n_in (by omega) (by omega)) ?_
      rw [n_cl (p := f + i) (by omega), a2 (f + i) (by omega), m1]
      refine Tm_ob (s_copied hS m2 rfl) (fun r hr => ?_)
      obtain ⟨h3, mv3, φ3, l3, b1, b2, b3, b4, b5, b6⟩ := hr
      refine Tm_chk (n_in2 (by omega) (by omega)) ?_
      show Tm (fun k => x_copyRow__34 k 2 N (mAr r.2 34 (f + i) r.1)) _
      refine Tm_suc (fun k => by rw [x_copyRow__34]) ?_
      refine ih (i + 1) _ _ h3 mv3 φ3 l3 (by omega) n2 n3 (by show N 4 + 1 = _; rw [n4, n_add1, Nat.add_assoc]) (SWS_c b1 rfl (mAr_o (by decide))) (by omega) (SWG_tr hG b3) (fun j hj => ?_) (fun j hj => ?_) (fun j hj => (b5 j hj).trans (a3 j hj)) (fun j q1 q2 => ?_)
      · by_cases e : j = i
        · rw [e, mAr_s, upd_same]; exact ⟨m, m1, m2, b4⟩
        · rw [mAr_s, upd_other (by omega), b6 34 (by decide)]
          obtain ⟨u, u1, u2, u3⟩ := a1 j (by omega)
          exact ⟨u, u1, u2, SWV_mo b3 u3⟩
      · rw [mAr_s, upd_other (by omega), b6 34 (by decide)]; exact a2 j (by omega)
      · rw [mAr_o q2, b6 j q1]; exact a4 j q1 q2
  refine Tm_suc (fun k => by rw [x_copyRow__34]) ?_
  exact l1 c 0 _ _ h' mv φ l' (by omega) h2 h3 h2 hW (Nat.le_refl _) (fun x hx => ⟨hx, rfl⟩) (fun j hj => absurd hj (Nat.not_lt_zero j)) (fun _ _ => rfl) (fun _ _ => rfl) (fun _ _ _ => rfl)
theorem s_cpR36 (hW : SWS H0 g l B h B' s τ h' mv φ l') {f c : Nat} (hfc : f + c ≤ 8) (hV : ∀ i, i < c → ∃ m, τ.2.2 36 (f + i) = nI m ∧ (m < 3 ∨ g m)) {L : Nat → Int32} (h2 : L 2 = nI f) (h3 : L 3 = nI c) : Tm (fun k => x_copyRow__36 k 0 L τ) (fun r => RwO H0 g l B h B' s 36 f c τ h' mv φ r.2) := by
  have l1 : ∀ (q i : Nat) (N : Nat → Int32) (υ : MS) (h2 : Nat) (mv2 : Nat → Bool) (φ2 : Nat → Nat) (l2 : List Nat), q + i = c → N 2 = nI f → N 3 = nI c → N 4 = nI (f + i) → SWS H0 g l B h B' s υ h2 mv2 φ2 l2 → h' ≤ h2 → SWG mv mv2 φ φ2 → (∀ j, j < i → ∃ m, τ.2.2 36 (f + j) = nI m ∧ (m < 3 ∨ g m) ∧ SWV mv2 φ2 m (υ.2.2 36 (f + j))) → (∀ j, ¬ (f ≤ j ∧ j < f + i) → υ.2.2 36 j = τ.2.2 36 j) → (∀ j, j ≠ 55 → υ.1 j = τ.1 j) → (∀ j, j ≠ 28 → j ≠ 36 → υ.2.2 j = τ.2.2 j) → Tm (fun k => x_copyRow__36 k 1 N υ) (fun r => RwO H0 g l B h B' s 36 f c τ h' mv φ r.2) := by
    intro q
    induction q with
    | zero =>
      intro i N υ h2 mv2 φ2 l2 hi n2 n3 n4 hS hle hG a1 a2 a3 a4
      have hi : i = c := by omega
      subst hi
      refine Tm_suc (fun k => by rw [x_copyRow__36]) ?_
      rw [n2, n3, n4, n_add (by omega)]
      refine Tm_ite (fun _ => ?_) (fun w => absurd ((n_le (by omega) (by omega)).mpr (by omega)) w)
      refine Tm_suc (fun k => by rw [x_copyRow__36]) ?_
      exact Tm_some ⟨h2, mv2, φ2, l2, hS, hle, hG, a1, a2, a3, a4⟩
    | succ q ih =>
      intro i N υ h2 mv2 φ2 l2 hi n2 n3 n4 hS hle hG a1 a2 a3 a4
      obtain ⟨m, m1, m2⟩ := hV i (by omega)
      refine Tm_suc (fun k => by rw [x_copyRow__36]) ?_
      rw [n2, n3, n4, n_add (by omega)]
      refine Tm_ite (fun w => absurd ((n_le (by omega) (by omega)).mp w) (by omega)) (fun _ => ?_)
      refine Tm_chk (n_in (by omega) (by omega)) ?_
      rw [n_cl (p := f + i) (by omega), a2 (f + i) (by omega), m1]
      refine Tm_ob (s_copied hS m2 rfl) (fun r hr => ?_)
      obtain ⟨h3, mv3, φ3, l3, b1, b2, b3, b4, b5, b6⟩ := hr
      refine Tm_chk (n_in2 (by omega) (by omega)) ?_
      show Tm (fun k => x_copyRow__36 k 2 N (mAr r.2 36 (f + i) r.1)) _
      refine Tm_suc (fun k => by rw [x_copyRow__36]) ?_
      refine ih (i + 1) _ _ h3 mv3 φ3 l3 (by omega) n2 n3 (by show N 4 + 1 = _; rw [n4, n_add1, Nat.add_assoc]) (SWS_c b1 rfl (mAr_o (by decide))) (by omega) (SWG_tr hG b3) (fun j hj => ?_) (fun j hj => ?_) (fun j hj => (b5 j hj).trans (a3 j hj)) (fun j q1 q2 => ?_)
      · by_cases e : j = i
        · rw [e, mAr_s, upd_same]; exact ⟨m, m1, m2, b4⟩
        · rw [mAr_s, upd_other (by omega), b6 36 (by decide)]
          obtain ⟨u, u1, u2, u3⟩ := a1 j (by omega)
          exact ⟨u, u1, u2, SWV_mo b3 u3⟩
      · rw [mAr_s, upd_other (by omega), b6 36 (by decide)]; exact a2 j (by omega)
      · rw [mAr_o q2, b6 j q1]; exact a4 j q1 q2
  refine Tm_suc (fun k => by rw [x_copyRow__36]) ?_
  exact l1 c 0 _ _ h' mv φ l' (by omega) h2 h3 h2 hW (Nat.le_refl _) (fun x hx => ⟨hx, rfl⟩) (fun j hj => absurd hj (Nat.not_lt_zero j)) (fun _ _ => rfl) (fun _ _ => rfl) (fun _ _ _ => rfl)
theorem s_cpR37 (hW : SWS H0 g l B h B' s τ h' mv φ l') {f c : Nat} (hfc : f + c ≤ 8) (hV : ∀ i, i < c → ∃ m, τ.2.2 37 (f + i) = nI m ∧ (m < 3 ∨ g m)) {L : Nat → Int32} (h2 : L 2 = nI f) (h3 : L 3 = nI c) : Tm (fun k => x_copyRow__37 k 0 L τ) (fun r => RwO H0 g l B h B' s 37 f c τ h' mv φ r.2) := by
  have l1 : ∀ (q i : Nat) (N : Nat → Int32) (υ : MS) (h2 : Nat) (mv2 : Nat → Bool) (φ2 : Nat → Nat) (l2 : List Nat), q + i = c → N 2 = nI f → N 3 = nI c → N 4 = nI (f + i) → SWS H0 g l B h B' s υ h2 mv2 φ2 l2 → h' ≤ h2 → SWG mv mv2 φ φ2 → (∀ j, j < i → ∃ m, τ.2.2 37 (f + j) = nI m ∧ (m < 3 ∨ g m) ∧ SWV mv2 φ2 m (υ.2.2 37 (f + j))) → (∀ j, ¬ (f ≤ j ∧ j < f + i) → υ.2.2 37 j = τ.2.2 37 j) → (∀ j, j ≠ 55 → υ.1 j = τ.1 j) → (∀ j, j ≠ 28 → j ≠ 37 → υ.2.2 j = τ.2.2 j) → Tm (fun k => x_copyRow__37 k 1 N υ) (fun r => RwO H0 g l B h B' s 37 f c τ h' mv φ r.2) := by
    intro q
    induction q with
    | zero =>
      intro i N υ h2 mv2 φ2 l2 hi n2 n3 n4 hS hle hG a1 a2 a3 a4
      have hi : i = c := by omega
      subst hi
      refine Tm_suc (fun k => by rw [x_copyRow__37]) ?_
      rw [n2, n3, n4, n_add (by omega)]
      refine Tm_ite (fun _ => ?_) (fun w => absurd ((n_le (by omega) (by omega)).mpr (by omega)) w)
      refine Tm_suc (fun k => by rw [x_copyRow__37]) ?_
      exact Tm_some ⟨h2, mv2, φ2, l2, hS, hle, hG, a1, a2, a3, a4⟩
    | succ q ih =>
      intro i N υ h2 mv2 φ2 l2 hi n2 n3 n4 hS hle hG a1 a2 a3 a4
      obtain ⟨m, m1, m2⟩ := hV i (by omega)
      refine Tm_suc (fun k => by rw [x_copyRow__37]) ?_
      rw [n2, n3, n4, n_add (by omega)]
      refine Tm_ite (fun w => absurd ((n_le (by omega) (by omega)).mp w) (by omega)) (fun _ => ?_)
      refine Tm_chk (n_in (by omega) (by omega)) ?_
      rw [n_cl (p := f + i) (by omega), a2 (f + i) (by omega), m1]
      refine Tm_ob (s_copied hS m2 rfl) (fun r hr => ?_)
      obtain ⟨h3, mv3, φ3, l3, b1, b2, b3, b4, b5, b6⟩ := hr
      refine Tm_chk (n_in2 (by omega) (by omega)) ?_
      show Tm (fun k => x_copyRow__37 k 2 N (mAr r.2 37 (f + i) r.1)) _
      refine Tm_suc (fun k => by rw [x_copyRow__37]) ?_
      refine ih (i + 1) _ _ h3 mv3 φ3 l3 (by omega) n2 n3 (by show N 4 + 1 = _; rw [n4, n_add1, Nat.add_assoc]) (SWS_c b1 rfl (mAr_o (by decide))) (by omega) (SWG_tr hG b3) (fun j hj => ?_) (fun j hj => ?_) (fun j hj => (b5 j hj).trans (a3 j hj)) (fun j q1 q2 => ?_)
      · by_cases e : j = i
        · rw [e, mAr_s, upd_same]; exact ⟨m, m1, m2, b4⟩
        · rw [mAr_s, upd_other (by omega), b6 37 (by decide)]
          obtain ⟨u, u1, u2, u3⟩ := a1 j (by omega)
          exact ⟨u, u1, u2, SWV_mo b3 u3⟩
      · rw [mAr_s, upd_other (by omega), b6 37 (by decide)]; exact a2 j (by omega)
      · rw [mAr_o q2, b6 j q1]; exact a4 j q1 q2
  refine Tm_suc (fun k => by rw [x_copyRow__37]) ?_
  exact l1 c 0 _ _ h' mv φ l' (by omega) h2 h3 h2 hW (Nat.le_refl _) (fun x hx => ⟨hx, rfl⟩) (fun j hj => absurd hj (Nat.not_lt_zero j)) (fun _ _ => rfl) (fun _ _ => rfl) (fun _ _ _ => rfl)
theorem s_cpR38 (hW : SWS H0 g l B h B' s τ h' mv φ l') {f c : Nat} (hfc : f + c ≤ 8) (hV : ∀ i, i < c → ∃ m, τ.2.2 38 (f + i) = nI m ∧ (m < 3 ∨ g m)) {L : Nat → Int32} (h2 : L 2 = nI f) (h3 : L 3 = nI c) : Tm (fun k => x_copyRow__38 k 0 L τ) (fun r => RwO H0 g l B h B' s 38 f c τ h' mv φ r.2) := by
  have l1 : ∀ (q i : Nat) (N : Nat → Int32) (υ : MS) (h2 : Nat) (mv2 : Nat → Bool) (φ2 : Nat → Nat) (l2 : List Nat), q + i = c → N 2 = nI f → N 3 = nI c → N 4 = nI (f + i) → SWS H0 g l B h B' s υ h2 mv2 φ2 l2 → h' ≤ h2 → SWG mv mv2 φ φ2 → (∀ j, j < i → ∃ m, τ.2.2 38 (f + j) = nI m ∧ (m < 3 ∨ g m) ∧ SWV mv2 φ2 m (υ.2.2 38 (f + j))) → (∀ j, ¬ (f ≤ j ∧ j < f + i) → υ.2.2 38 j = τ.2.2 38 j) → (∀ j, j ≠ 55 → υ.1 j = τ.1 j) → (∀ j, j ≠ 28 → j ≠ 38 → υ.2.2 j = τ.2.2 j) → Tm (fun k => x_copyRow__38 k 1 N υ) (fun r => RwO H0 g l B h B' s 38 f c τ h' mv φ r.2) := by
    intro q
    induction q with
    | zero =>
      intro i N υ h2 mv2 φ2 l2 hi n2 n3 n4 hS hle hG a1 a2 a3 a4
      have hi : i = c := by omega
      subst hi
      refine Tm_suc (fun k => by rw [x_copyRow__38]) ?_
      rw [n2, n3, n4, n_add (by omega)]
      refine Tm_ite (fun _ => ?_) (fun w => absurd ((n_le (by omega) (by omega)).mpr (by omega)) w)
      refine Tm_suc (fun k => by rw [x_copyRow__38]) ?_
      exact Tm_some ⟨h2, mv2, φ2, l2, hS, hle, hG, a1, a2, a3, a4⟩
    | succ q ih =>
      intro i N υ h2 mv2 φ2 l2 hi n2 n3 n4 hS hle hG a1 a2 a3 a4
      obtain ⟨m, m1, m2⟩ := hV i (by omega)
      refine Tm_suc (fun k => by rw [x_copyRow__38]) ?_
      rw [n2, n3, n4, n_add (by omega)]
      refine Tm_ite (fun w => absurd ((n_le (by omega) (by omega)).mp w) (by omega)) (fun _ => ?_)
      refine Tm_chk (n_in (by omega) (by omega)) ?_
      rw [n_cl (p := f + i) (by omega), a2 (f + i) (by omega), m1]
      refine Tm_ob (s_copied hS m2 rfl) (fun r hr => ?_)
      obtain ⟨h3, mv3, φ3, l3, b1, b2, b3, b4, b5, b6⟩ := hr
      refine Tm_chk (n_in2 (by omega) (by omega)) ?_
      show Tm (fun k => x_copyRow__38 k 2 N (mAr r.2 38 (f + i) r.1)) _
      refine Tm_suc (fun k => by rw [x_copyRow__38]) ?_
      refine ih (i + 1) _ _ h3 mv3 φ3 l3 (by omega) n2 n3 (by show N 4 + 1 = _; rw [n4, n_add1, Nat.add_assoc]) (SWS_c b1 rfl (mAr_o (by decide))) (by omega) (SWG_tr hG b3) (fun j hj => ?_) (fun j hj => ?_) (fun j hj => (b5 j hj).trans (a3 j hj)) (fun j q1 q2 => ?_)
      · by_cases e : j = i
        · rw [e, mAr_s, upd_same]; exact ⟨m, m1, m2, b4⟩
        · rw [mAr_s, upd_other (by omega), b6 38 (by decide)]
          obtain ⟨u, u1, u2, u3⟩ := a1 j (by omega)
          exact ⟨u, u1, u2, SWV_mo b3 u3⟩
      · rw [mAr_s, upd_other (by omega), b6 38 (by decide)]; exact a2 j (by omega)
      · rw [mAr_o q2, b6 j q1]; exact a4 j q1 q2
  refine Tm_suc (fun k => by rw [x_copyRow__38]) ?_
  exact l1 c 0 _ _ h' mv φ l' (by omega) h2 h3 h2 hW (Nat.le_refl _) (fun x hx => ⟨hx, rfl⟩) (fun j hj => absurd hj (Nat.not_lt_zero j)) (fun _ _ => rfl) (fun _ _ => rfl) (fun _ _ _ => rfl)
theorem s_cpR40 (hW : SWS H0 g l B h B' s τ h' mv φ l') {f c : Nat} (hfc : f + c ≤ 2) (hV : ∀ i, i < c → ∃ m, τ.2.2 40 (f + i) = nI m ∧ (m < 3 ∨ g m)) {L : Nat → Int32} (h2 : L 2 = nI f) (h3 : L 3 = nI c) : Tm (fun k => x_copyRow__40 k 0 L τ) (fun r => RwO H0 g l B h B' s 40 f c τ h' mv φ r.2) := by
  have l1 : ∀ (q i : Nat) (N : Nat → Int32) (υ : MS) (h2 : Nat) (mv2 : Nat → Bool) (φ2 : Nat → Nat) (l2 : List Nat), q + i = c → N 2 = nI f → N 3 = nI c → N 4 = nI (f + i) → SWS H0 g l B h B' s υ h2 mv2 φ2 l2 → h' ≤ h2 → SWG mv mv2 φ φ2 → (∀ j, j < i → ∃ m, τ.2.2 40 (f + j) = nI m ∧ (m < 3 ∨ g m) ∧ SWV mv2 φ2 m (υ.2.2 40 (f + j))) → (∀ j, ¬ (f ≤ j ∧ j < f + i) → υ.2.2 40 j = τ.2.2 40 j) → (∀ j, j ≠ 55 → υ.1 j = τ.1 j) → (∀ j, j ≠ 28 → j ≠ 40 → υ.2.2 j = τ.2.2 j) → Tm (fun k => x_copyRow__40 k 1 N υ) (fun r => RwO H0 g l B h B' s 40 f c τ h' mv φ r.2) := by
    intro q
    induction q with
    | zero =>
      intro i N υ h2 mv2 φ2 l2 hi n2 n3 n4 hS hle hG a1 a2 a3 a4
      have hi : i = c := by omega
      subst hi
      refine Tm_suc (fun k => by rw [x_copyRow__40]) ?_
      rw [n2, n3, n4, n_add (by omega)]
      refine Tm_ite (fun _ => ?_) (fun w => absurd ((n_le (by omega) (by omega)).mpr (by omega)) w)
      refine Tm_suc (fun k => by rw [x_copyRow__40]) ?_
      exact Tm_some ⟨h2, mv2, φ2, l2, hS, hle, hG, a1, a2, a3, a4⟩
    | succ q ih =>
      intro i N υ h2 mv2 φ2 l2 hi n2 n3 n4 hS hle hG a1 a2 a3 a4
      obtain ⟨m, m1, m2⟩ := hV i (by omega)
      refine Tm_suc (fun k => by rw [x_copyRow__40]) ?_
      rw [n2, n3, n4, n_add (by omega)]
      refine Tm_ite (fun w => absurd ((n_le (by omega) (by omega)).mp w) (by omega)) (fun _ => ?_)
      refine Tm_chk (n_in (by omega) (by omega)) ?_
      rw [n_cl (p := f + i) (by omega), a2 (f + i) (by omega), m1]
      refine Tm_ob (s_copied hS m2 rfl) (fun r hr => ?_)
      obtain ⟨h3, mv3, φ3, l3, b1, b2, b3, b4, b5, b6⟩ := hr
      refine Tm_chk (n_in2 (by omega) (by omega)) ?_
      show Tm (fun k => x_copyRow__40 k 2 N (mAr r.2 40 (f + i) r.1)) _
      refine Tm_suc (fun k => by rw [x_copyRow__40]) ?_
      refine ih (i + 1) _ _ h3 mv3 φ3 l3 (by omega) n2 n3 (by show N 4 + 1 = _; rw [n4, n_add1, Nat.add_assoc]) (SWS_c b1 rfl (mAr_o (by decide))) (by omega) (SWG_tr hG b3) (fun j hj => ?_) (fun j hj => ?_) (fun j hj => (b5 j hj).trans (a3 j hj)) (fun j q1 q2 => ?_)
      · by_cases e : j = i
        · rw [e, mAr_s, upd_same]; exact ⟨m, m1, m2, b4⟩
        · rw [mAr_s, upd_other (by omega), b6 40 (by decide)]
          obtain ⟨u, u1, u2, u3⟩ := a1 j (by omega)
          exact ⟨u, u1, u2, SWV_mo b3 u3⟩
      · rw [mAr_s, upd_other (by omega), b6 40 (by decide)]; exact a2 j (by omega)
      · rw [mAr_o q2, b6 j q1]; exact a4 j q1 q2
  refine Tm_suc (fun k => by rw [x_copyRow__40]) ?_
  exact l1 c 0 _ _ h' mv φ l' (by omega) h2 h3 h2 hW (Nat.le_refl _) (fun x hx => ⟨hx, rfl⟩) (fun j hj => absurd hj (Nat.not_lt_zero j)) (fun _ _ => rfl) (fun _ _ => rfl) (fun _ _ _ => rfl)
end CPR

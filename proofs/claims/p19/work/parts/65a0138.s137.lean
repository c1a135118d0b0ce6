section JnS137
/-! The sweep: rows of roots (reference; made by cpr.py). -/
/-- a row of roots has been copied -/
def RwO (H0 : Nat → Int32) (g : Nat → Prop) (l : List Nat) (B h B' s a f c : Nat) (τ : MS) (h' : Nat) (mv : Nat → Bool) (φ : Nat → Nat) (ρ : MS) : Prop :=
  ∃ h2 mv2 φ2 l2, SWS H0 g l B h B' s ρ h2 mv2 φ2 l2 ∧ h' ≤ h2 ∧ SWG mv mv2 φ φ2 ∧ (∀ i, i < c → ∃ m, τ.2.2 a (f + i) = nI m ∧ (m < 3 ∨ g m) ∧ SWV mv2 φ2 m (ρ.2.2 a (f + i))) ∧ (∀ i, ¬ (f ≤ i ∧ i < f + c) → ρ.2.2 a i = τ.2.2 a i) ∧ (∀ j, j ≠ 55 → ρ.1 j = τ.1 j) ∧ (∀ j, j ≠ 28 → j ≠ a → ρ.2.2 j = τ.2.2 j)
section CPR
variable {H0 : Nat → Int32} {g : Nat → Prop} {l l' : List Nat} {B h B' h' s : Nat} {mv : Nat → Bool} {φ : Nat → Nat} {τ : MS}
theorem SWG_tr {mv2 mv3 : Nat → Bool} {φ2 φ3 : Nat → Nat} (a : SWG mv mv2 φ φ2) (b : SWG mv2 mv3 φ2 φ3) : SWG mv mv3 φ φ3 := fun x hx => ⟨(b x (a x hx).1).1, ((b x (a x hx).1).2).trans (a x hx).2⟩
theorem SWV_mo {mv2 : Nat → Bool} {φ2 : Nat → Nat} {m : Nat} {x : Int32} (a : SWG mv mv2 φ φ2) (b : SWV mv φ m x) : SWV mv2 φ2 m x := b.imp id (fun z => ⟨(a m z.1).1, by rw [(a m z.1).2]; exact z.2⟩)
theorem SWS_c {ρ : MS} (hW : SWS H0 g l B h B' s τ h' mv φ l') (h55 : ρ.1 55 = τ.1 55) (h28 : ρ.2.2 28 = τ.2.2 28) : SWS H0 g l B h B' s ρ h' mv φ l' := by
  obtain ⟨w1, w2, w3, w4, w5, w6⟩ := hW
  exact ⟨w1, w2, w3, w4, h55.trans w5, by rw [h28]; exact w6⟩
theorem s_cpR29 (hW : SWS H0 g l B h B' s τ h' mv φ l') {f c : Nat} (hfc : f + c ≤ 185000) (hV : ∀ i, i < c → ∃ m, τ.2.2 29 (f + i) = nI m ∧ (m < 3 ∨ g m)) {L : Nat → Int32} (h2 : L 2 = nI f) (h3 : L 3 = nI c) : Tm (fun k => x_copyRow__29 k 0 L τ) (fun r => RwO H0 g l B h B' s 29 f c τ h' mv φ r.2) := by
  have l1 : ∀ (q i : Nat) (N : Nat → Int32) (υ : MS) (h2 : Nat) (mv2 : Nat → Bool) (φ2 : Nat → Nat) (l2 : List Nat), q + i = c → N 2 = nI f → N 3 = nI c → N 4 = nI (f + i) → SWS H0 g l B h B' s υ h2 mv2 φ2 l2 → h' ≤ h2 → SWG mv mv2 φ φ2 → (∀ j, j < i → ∃ m, τ.2.2 29 (f + j) = nI m ∧ (m < 3 ∨ g m) ∧ SWV mv2 φ2 m (υ.2.2 29 (f + j))) → (∀ j, ¬ (f ≤ j ∧ j < f + i) → υ.2.2 29 j = τ.2.2 29 j) → (∀ j, j ≠ 55 → υ.1 j = τ.1 j) → (∀ j, j ≠ 28 → j ≠ 29 → υ.2.2 j = τ.2.2 j) → Tm (fun k => x_copyRow__29 k 1 N υ) (fun r => RwO H0 g l B h B' s 29 f c τ h' mv φ r.2) := by
    intro q
    induction q with
    | zero =>
      intro i N υ h2 mv2 φ2 l2 hi n2 n3 n4 hS hle hG a1 a2 a3 a4
      have hi : i = c := by omega
      subst hi
      refine Tm_suc (fun k => by rw [x_copyRow__29]) ?_
      rw [n2, n3, n4, n_add (by omega)]
      refine Tm_ite (fun _ => ?_) (fun w => absurd ((n_le (by omega) (by omega)).mpr (by omega)) w)
      refine Tm_suc (fun k => by rw [x_copyRow__29]) ?_
      exact Tm_some ⟨h2, mv2, φ2, l2, hS, hle, hG, a1, a2, a3, a4⟩
    | succ q ih =>
      intro i N υ h2 mv2 φ2 l2 hi n2 n3 n4 hS hle hG a1 a2 a3 a4
      obtain ⟨m, m1, m2⟩ := hV i (by omega)
      refine Tm_suc (fun k => by rw [x_copyRow__29]) ?_
      rw [n2, n3, n4, n_add (by omega)]
      refine Tm_ite (fun w => absurd ((n_le (by omega) (by omega)).mp w) (by omega)) (fun _ => ?_)
      refine Tm_chk (n_in (by omega) (by omega)) ?_
      rw [n_cl (p := f + i) (by omega), a2 (f + i) (by omega), m1]
      refine Tm_ob (s_copied hS m2 rfl) (fun r hr => ?_)
      obtain ⟨h3, mv3, φ3, l3, b1, b2, b3, b4, b5, b6⟩ := hr
      refine Tm_chk (n_in2 (by omega) (by omega)) ?_
      show Tm (fun k => x_copyRow__29 k 2 N (mAr r.2 29 (f + i) r.1)) _
      refine Tm_suc (fun k => by rw [x_copyRow__29]) ?_
      refine ih (i + 1) _ _ h3 mv3 φ3 l3 (by omega) n2 n3 (by show N 4 + 1 = _; rw [n4, n_add1, Nat.add_assoc]) (SWS_c b1 rfl (mAr_o (by decide))) (by omega) (SWG_tr hG b3) (fun j hj => ?_) (fun j hj => ?_) (fun j hj => (b5 j hj).trans (a3 j hj)) (fun j q1 q2 => ?_)
      · by_cases e : j = i
        · rw [e, mAr_s, upd_same]; exact ⟨m, m1, m2, b4⟩
        · rw [mAr_s, upd_other (by omega), b6 29 (by decide)]
          obtain ⟨u, u1, u2, u3⟩ := a1 j (by omega)
          exact ⟨u, u1, u2, SWV_mo b3 u3⟩
      · rw [mAr_s, upd_other (by omega), b6 29 (by decide)]; exact a2 j (by omega)
      · rw [mAr_o q2, b6 j q1]; exact a4 j q1 q2
  refine Tm_suc (fun k => by rw [x_copyRow__29]) ?_
  exact l1 c 0 _ _ h' mv φ l' (by omega) h2 h3 h2 hW (Nat.le_refl _) (fun x hx => ⟨hx, rfl⟩) (fun j hj => absurd hj (Nat.not_lt_zero j)) (fun _ _ => rfl) (fun _ _ => rfl) (fun _ _ _ => rfl)
theorem s_cpR30 (hW : SWS H0 g l B h B' s τ h' mv φ l') {f c : Nat} (hfc : f + c ≤ 11514) (hV : ∀ i, i < c → ∃ m, τ.2.2 30 (f + i) = nI m ∧ (m < 3 ∨ g m)) {L : Nat → Int32} (h2 : L 2 = nI f) (h3 : L 3 = nI c) : Tm (fun k => x_copyRow__30 k 0 L τ) (fun r => RwO H0 g l B h B' s 30 f c τ h' mv φ r.2) := by
  have l1 : ∀ (q i : Nat) (N : Nat → Int32) (υ : MS) (h2 : Nat) (mv2 : Nat → Bool) (φ2 : Nat → Nat) (l2 : List Nat), q + i = c → N 2 = nI f → N 3 = nI c → N 4 = nI (f + i) → SWS H0 g l B h B' s υ h2 mv2 φ2 l2 → h' ≤ h2 → SWG mv mv2 φ φ2 → (∀ j, j < i → ∃ m, τ.2.2 30 (f + j) = nI m ∧ (m < 3 ∨ g m) ∧ SWV mv2 φ2 m (υ.2.2 30 (f + j))) → (∀ j, ¬ (f ≤ j ∧ j < f + i) → υ.2.2 30 j = τ.2.2 30 j) → (∀ j, j ≠ 55 → υ.1 j = τ.1 j) → (∀ j, j ≠ 28 → j ≠ 30 → υ.2.2 j = τ.2.2 j) → Tm (fun k => x_copyRow__30 k 1 N υ) (fun r => RwO H0 g l B h B' s 30 f c τ h' mv φ r.2) := by
    intro q
    induction q with
    | zero =>
      intro i N υ h2 mv2 φ2 l2 hi n2 n3 n4 hS hle hG a1 a2 a3 a4
      have hi : i = c := by omega
      subst hi
      refine Tm_suc (fun k => by rw [x_copyRow__30]) ?_
      rw [n2, n3, n4, n_add (by omega)]
      refine Tm_ite (fun _ => ?_) (fun w => absurd ((n_le (by omega) (by omega)).mpr (by omega)) w)
      refine Tm_suc (fun k => by rw [x_copyRow__30]) ?_
      exact Tm_some ⟨h2, mv2, φ2, l2, hS, hle, hG, a1, a2, a3, a4⟩
    | succ q ih =>
      intro i N υ h2 mv2 φ2 l2 hi n2 n3 n4 hS hle hG a1 a2 a3 a4
      obtain ⟨m, m1, m2⟩ := hV i (by omega)
      refine Tm_suc (fun k => by rw [x_copyRow__30]) ?_
      rw [n2, n3, n4, n_add (by omega)]
      refine Tm_ite (fun w => absurd ((n_le (by omega) (by omega)).mp w) (by omega)) (fun _ => ?_)
      refine Tm_chk (n_in (by omega) (by omega)) ?_
      rw [n_cl (p := f + i) (by omega), a2 (f + i) (by omega), m1]
      refine Tm_ob (s_copied hS m2 rfl) (fun r hr => ?_)
      obtain ⟨h3, mv3, φ3, l3, b1, b2, b3, b4, b5, b6⟩ := hr
      refine Tm_chk (n_in2 (by omega) (by omega)) ?_
      show Tm (fun k => x_copyRow__30 k 2 N (mAr r.2 30 (f + i) r.1)) _
      refine Tm_suc (fun k => by rw [x_copyRow__30]) ?_
      refine ih (i + 1) _ _ h3 mv3 φ3 l3 (by omega) n2 n3 (by show N 4 + 1 = _; rw [n4, n_add1, Nat.add_assoc]) (SWS_c b1 rfl (mAr_o (by decide))) (by omega) (SWG_tr hG b3) (fun j hj => ?_) (fun j hj => ?_) (fun j hj => (b5 j hj).trans (a3 j hj)) (fun j q1 q2 => ?_)
      · by_cases e : j = i
        · rw [e, mAr_s, upd_same]; exact ⟨m, m1, m2, b4⟩
        · rw [mAr_s, upd_other (by omega), b6 30 (by decide)]
          obtain ⟨u, u1, u2, u3⟩ := a1 j (by omega)
          exact ⟨u, u1, u2, SWV_mo b3 u3⟩
      · rw [mAr_s, upd_other (by omega), b6 30 (by decide)]; exact a2 j (by omega)
      · rw [mAr_o q2, b6 j q1]; exact a4 j q1 q2
  refine Tm_suc (fun k => by rw [x_copyRow__30]) ?_
  exact l1 c 0 _ _ h' mv φ l' (by omega) h2 h3 h2 hW (Nat.le_refl _) (fun x hx => ⟨hx, rfl⟩) (fun j hj => absurd hj (Nat.not_lt_zero j)) (fun _ _ => rfl) (fun _ _ => rfl) (fun _ _ _ => rfl)
theorem s_cpR31 (hW : SWS H0 g l B h B' s τ h' mv φ l') {f c : Nat} (hfc : f + c ≤ 230280) (hV : ∀ i, i < c → ∃ m, τ.2.2 31 (f + i) = nI m ∧ (m < 3 ∨ g m)) {L : Nat → Int32} (h2 : L 2 = nI f) (h3 : L 3 = nI c) : Tm (fun k => x_copyRow__31 k 0 L τ) (fun r => RwO H0 g l B h B' s 31 f c τ h' mv φ r.2) := by
  have l1 : ∀ (q i : Nat) (N : Nat → Int32) (υ : MS) (h2 : Nat) (mv2 : Nat → Bool) (φ2 : Nat → Nat) (l2 : List Nat), q + i = c → N 2 = nI f → N 3 = nI c → N 4 = nI (f + i) → SWS H0 g l B h B' s υ h2 mv2 φ2 l2 → h' ≤ h2 → SWG mv mv2 φ φ2 → (∀ j, j < i → ∃ m, τ.2.2 31 (f + j) = nI m ∧ (m < 3 ∨ g m) ∧ SWV mv2 φ2 m (υ.2.2 31 (f + j))) → (∀ j, ¬ (f ≤ j ∧ j < f + i) → υ.2.2 31 j = τ.2.2 31 j) → (∀ j, j ≠ 55 → υ.1 j = τ.1 j) → (∀ j, j ≠ 28 → j ≠ 31 → υ.2.2 j = τ.2.2 j) → Tm (fun k => x_copyRow__31 k 1 N υ) (fun r => RwO H0 g l B h B' s 31 f c τ h' mv φ r.2) := by
    intro q
    induction q with
    | zero =>
      intro i N υ h2 mv2 φ2 l2 hi n2 n3 n4 hS hle hG a1 a2 a3 a4
      have hi : i = c := by omega
      subst hi
      refine Tm_suc (fun k => by rw [x_copyRow__31]) ?_
      rw [n2, n3, n4, n_add (by omega)]
      refine Tm_ite (fun _ => ?_) (fun w => absurd ((n_le (by omega) (by omega)).mpr (by omega)) w)
      refine Tm_suc (fun k => by rw [x_copyRow__31]) ?_
      exact Tm_some ⟨h2, mv2, φ2, l2, hS, hle, hG, a1, a2, a3, a4⟩
    | succ q ih =>
      intro i N υ h2 mv2 φ2 l2 hi n2 n3 n4 hS hle hG a1 a2 a3 a4
      obtain ⟨m, m1, m2⟩ := hV i (by omega)
      refine Tm_suc (fun k => by rw [x_copyRow__31]) ?_
      rw [n2, n3, n4, n_add (by omega)]
      refine Tm_ite (fun w => absurd ((n_le (by omega) (by omega)).mp w) (by omega)) (fun _ => ?_)
      refine Tm_chk (n_in (by omega) (by omega)) ?_
      rw [n_cl (p := f + i) (by omega), a2 (f + i) (by omega), m1]
      refine Tm_ob (s_copied hS m2 rfl) (fun r hr => ?_)
      obtain ⟨h3, mv3, φ3, l3, b1, b2, b3, b4, b5, b6⟩ := hr
      refine Tm_chk (n_in2 (by omega) (by omega)) ?_
      show Tm (fun k => x_copyRow__31 k 2 N (mAr r.2 31 (f + i) r.1)) _
      refine Tm_suc (fun k => by rw [x_copyRow__31]) ?_
      refine ih (i + 1) _ _ h3 mv3 φ3 l3 (by omega) n2 n3 (by show N 4 + 1 = _; rw [n4, n_add1, Nat.add_assoc]) (SWS_c b1 rfl (mAr_o (by decide))) (by omega) (SWG_tr hG b3) (fun j hj => ?_) (fun j hj => ?_) (fun j hj => (b5 j hj).trans (a3 j hj)) (fun j q1 q2 => ?_)
      · by_cases e : j = i
        · rw [e, mAr_s, upd_same]; exact ⟨m, m1, m2, b4⟩
        · rw [mAr_s, upd_other (by omega), b6 31 (by decide)]
          obtain ⟨u, u1, u2, u3⟩ := a1 j (by omega)
          exact ⟨u, u1, u2, SWV_mo b3 u3⟩
      · rw [mAr_s, upd_other (by omega), b6 31 (by decide)]; exact a2 j (by omega)
      · rw [mAr_o q2, b6 j q1]; exact a4 j q1 q2
  refine Tm_suc (fun k => by rw [x_copyRow__31]) ?_
  exact l1 c 0 _ _ h' mv φ l' (by omega) h2 h3 h2 hW (Nat.le_refl _) (fun x hx => ⟨hx, rfl⟩) (fun j hj => absurd hj (Nat.not_lt_zero j)) (fun _ _ => rfl) (fun _ _ => rfl) (fun _ _ _ => rfl)
theorem s_cpR33 (hW : SWS H0 g l B h B' s τ h' mv φ l') {f c : Nat} (hfc : f + c ≤ 1380) (hV : ∀ i, i < c → ∃ m, τ.2.2 33 (f + i) = nI m ∧ (m < 3 ∨ g m)) {L : Nat → Int32} (h2 : L 2 = nI f) (h3 : L 3 = nI c) : Tm (fun k => x_copyRow__33 k 0 L τ) (fun r => RwO H0 g l B h B' s 33 f c τ h' mv φ r.2) := by
  have l1 : ∀ (q i : Nat) (N : Nat → Int32) (υ : MS) (h2 : Nat) (mv2 : Nat → Bool) (φ2 : Nat → Nat) (l2 : List Nat), q + i = c → N 2 = nI f → N 3 = nI c → N 4 = nI (f + i) → SWS H0 g l B h B' s υ h2 mv2 φ2 l2 → h' ≤ h2 → SWG mv mv2 φ φ2 → (∀ j, j < i → ∃ m, τ.2.2 33 (f + j) = nI m ∧ (m < 3 ∨ g m) ∧ SWV mv2 φ2 m (υ.2.2 33 (f + j))) → (∀ j, ¬ (f ≤ j ∧ j < f + i) → υ.2.2 33 j = τ.2.2 33 j) → (∀ j, j ≠ 55 → υ.1 j = τ.1 j) → (∀ j, j ≠ 28 → j ≠ 33 → υ.2.2 j = τ.2.2 j) → Tm (fun k => x_copyRow__33 k 1 N υ) (fun r => RwO H0 g l B h B' s 33 f c τ h' mv φ r.2) := by
    intro q
    induction q with
    | zero =>
      intro i N υ h2 mv2 φ2 l2 hi n2 n3 n4 hS hle hG a1 a2 a3 a4
      have hi : i = c := by omega
      subst hi
      refine Tm_suc (fun k => by rw [x_copyRow__33]) ?_
      rw [n2, n3, n4, n_add (by omega)]
      refine Tm_ite (fun _ => ?_) (fun w => absurd ((n_le (by omega) (by omega)).mpr (by omega)) w)
      refine Tm_suc (fun k => by rw [x_copyRow__33]) ?_
      exact Tm_some ⟨h2, mv2, φ2, l2, hS, hle, hG, a1, a2, a3, a4⟩
    | succ q ih =>
      intro i N υ h2 mv2 φ2 l2 hi n2 n3 n4 hS hle hG a1 a2 a3 a4
      obtain ⟨m, m1, m2⟩ := hV i (by omega)
      refine Tm_suc (fun k => by rw [x_copyRow__33]) ?_
      rw [n2, n3, n4, n_add (by omega)]
      refine Tm_ite (fun w => absurd ((n_le (by omega) (by omega)).mp w) (by omega)) (fun _ => ?_)
      refine Tm_chk (n_in (by omega) (by omega)) ?_
      rw [n_cl (p := f + i) (by omega), a2 (f + i) (by omega), m1]
      refine Tm_ob (s_copied hS m2 rfl) (fun r hr => ?_)
      obtain ⟨h3, mv3, φ3, l3, b1, b2, b3, b4, b5, b6⟩ := hr
      refine Tm_chk (n_in2 (by omega) (by omega)) ?_
      show Tm (fun k => x_copyRow__33 k 2 N (mAr r.2 33 (f + i) r.1)) _
      refine Tm_suc (fun k => by rw [x_copyRow__33]) ?_
      refine ih (i + 1) _ _ h3 mv3 φ3 l3 (by omega) n2 n3 (by show N 4 + 1 = _; rw [n4, n_add1, Nat.add_assoc]) (SWS_c b1 rfl (mAr_o (by decide))) (by omega) (SWG_tr hG b3) (fun j hj => ?_) (fun j hj => ?_) (fun j hj => (b5 j hj).trans (a3 j hj)) (fun j q1 q2 => ?_)
      · by_cases e : j = i
        · rw [e, mAr_s, upd_same]; exact ⟨m, m1, m2, b4⟩
        · rw [mAr_s, upd_other (by omega), b6 33 (by decide)]
          obtain ⟨u, u1, u2, u3⟩ := a1 j (by omega)
          exact ⟨u, u1, u2, SWV_mo b3 u3⟩
      · rw [mAr_s, upd_other (by omega), b6 33 (by decide)]; exact a2 j (by omega)
      · rw [mAr_o q2, b6 j q1]; exact a4 j q1 q2
  refine Tm_suc (fun k => by rw [x_copyRow__33]) ?_
  exact l1 c 0 _ _ h' mv φ l' (by omega) h2 h3 h2 hW (Nat.le_refl _) (fun x hx => ⟨hx, rfl⟩) (fun j hj => absurd hj (Nat.not_lt_zero j)) (fun _ _ => rfl) (fun _ _ => rfl) (fun _ _ _ => rfl)
theorem s_cpR34 (hW : SWS H0 g l B h B' s τ h' mv φ l') {f c : Nat} (hfc : f + c ≤ 4000) (hV : ∀ i, i < c → ∃ m, τ.2.2 34 (f + i) = nI m ∧ (m < 3 ∨ g m)) {L : Nat → Int32} (h2 : L 2 = nI f) (h3 : L 3 = nI c) : Tm (fun k => x_copyRow__34 k 0 L τ) (fun r => RwO H0 g l B h B' s 34 f c τ h' mv φ r.2) := by
  have l1 : ∀ (q i : Nat) (N : Nat → Int32) (υ : MS) (h2 : Nat) (mv2 : Nat → Bool) (φ2 : Nat → Nat) (l2 : List Nat), q + i = c → N 2 = nI f → N 3 = nI c → N 4 = nI (f + i) → SWS H0 g l B h B' s υ h2 mv2 φ2 l2 → h' ≤ h2 → SWG mv mv2 φ φ2 → (∀ j, j < i → ∃ m, τ.2.2 34 (f + j) = nI m ∧ (m < 3 ∨ g m) ∧ SWV mv2 φ2 m (υ.2.2 34 (f + j))) → (∀ j, ¬ (f ≤ j ∧ j < f + i) → υ.2.2 34 j = τ.2.2 34 j) → (∀ j, j ≠ 55 → υ.1 j = τ.1 j) → (∀ j, j ≠ 28 → j ≠ 34 → υ.2.2 j = τ.2.2 j) → Tm (fun k => x_copyRow__34 k 1 N υ) (fun r => RwO H0 g l B h B' s 34 f c τ h' mv φ r.2) := by
    intro q
    induction q with
    | zero =>
      intro i N υ h2 mv2 φ2 l2 hi n2 n3 n4 hS hle hG a1 a2 a3 a4
      have hi : i = c := by omega
      subst hi
      refine Tm_suc (fun k => by rw [x_copyRow__34]) ?_
      rw [n2, n3, n4, n_add (by omega)]
      refine Tm_ite (fun _ => ?_) (fun w => absurd ((n_le (by omega) (by omega)).mpr (by omega)) w)
      refine Tm_suc (fun k => by rw [x_copyRow__34]) ?_
      exact Tm_some ⟨h2, mv2, φ2, l2, hS, hle, hG, a1, a2, a3, a4⟩
    | succ q ih =>
      intro i N υ h2 mv2 φ2 l2 hi n2 n3 n4 hS hle hG a1 a2 a3 a4
      obtain ⟨m, m1, m2⟩ := hV i (by omega)
      refine Tm_suc (fun k => by rw [x_copyRow__34]) ?_
      rw [n2, n3, n4, n_add (by omega)]
      refine Tm_ite (fun w => absurd ((n_le (by omega) (by omega)).mp w) (by omega)) (fun _ => ?_)
      refine Tm_chk (n_in (by omega) (by omega)) ?_
      rw [n_cl (p := f + i) (by omega), a2 (f + i) (by omega), m1]
      refine Tm_ob (s_copied hS m2 rfl) (fun r hr => ?_)
      obtain ⟨h3, mv3, φ3, l3, b1, b2, b3, b4, b5, b6⟩ := hr
      refine Tm_chk (n_in2 (by omega) (by omega)) ?_
      show Tm (fun k => x_copyRow__34 k 2 N (mAr r.2 34 (f + i) r.1)) _
      refine Tm_suc (fun k => by rw [x_copyRow__34]) ?_
      refine ih (i + 1) _ _ h3 mv3 φ3 l3 (by omega) n2 n3 (by show N 4 + 1 = _; rw [n4, n_add1, Nat.add_assoc]) (SWS_c b1 rfl (mAr_o (by decide))) (by omega) (SWG_tr hG b3) (fun j hj => ?_) (fun j hj => ?_) (fun j hj => (b5 j hj).trans (a3 j hj)) (fun j q1 q2 => ?_)
      · by_cases e : j = i
        · rw [e, mAr_s, upd_same]; exact ⟨m, m1, m2, b4⟩
        · rw [mAr_s, upd_other (by omega), b6 34 (by decide)]
          obtain ⟨u, u1, u2, u3⟩ := a1 j (by omega)
          exact ⟨u, u1, u2, SWV_mo b3 u3⟩
      · rw [mAr_s, upd_other (by omega), b6 34 (by decide)]; exact a2 j (by omega)
      · rw [mAr_o q2, b6 j q1]; exact a4 j q1 q2
  refine Tm_suc (fun k => by rw [x_copyRow__34]) ?_
  exact l1 c 0 _ _ h' mv φ l' (by omega) h2 h3 h2 hW (Nat.le_refl _) (fun x hx => ⟨hx, rfl⟩) (fun j hj => absurd hj (Nat.not_lt_zero j)) (fun _ _ => rfl) (fun _ _ => rfl) (fun _ _ _ => rfl)
theorem s_cpR36 (hW : SWS H0 g l B h B' s τ h' mv φ l') {f c : Nat} (hfc : f + c ≤ 8) (hV : ∀ i, i < c → ∃ m, τ.2.2 36 (f + i) = nI m ∧ (m < 3 ∨ g m)) {L : Nat → Int32} (h2 : L 2 = nI f) (h3 : L 3 = nI c) : Tm (fun k => x_copyRow__36 k 0 L τ) (fun r => RwO H0 g l B h B' s 36 f c τ h' mv φ r.2) := by
  have l1 : ∀ (q i : Nat) (N : Nat → Int32) (υ : MS) (h2 : Nat) (mv2 : Nat → Bool) (φ2 : Nat → Nat) (l2 : List Nat), q + i = c → N 2 = nI f → N 3 = nI c → N 4 = nI (f + i) → SWS H0 g l B h B' s υ h2 mv2 φ2 l2 → h' ≤ h2 → SWG mv mv2 φ φ2 → (∀ j, j < i → ∃ m, τ.2.2 36 (f + j) = nI m ∧ (m < 3 ∨ g m) ∧ SWV mv2 φ2 m (υ.2.2 36 (f + j))) → (∀ j, ¬ (f ≤ j ∧ j < f + i) → υ.2.2 36 j = τ.2.2 36 j) → (∀ j, j ≠ 55 → υ.1 j = τ.1 j) → (∀ j, j ≠ 28 → j ≠ 36 → υ.2.2 j = τ.2.2 j) → Tm (fun k => x_copyRow__36 k 1 N υ) (fun r => RwO H0 g l B h B' s 36 f c τ h' mv φ r.2) := by
    intro q
    induction q with
    | zero =>
      intro i N υ h2 mv2 φ2 l2 hi n2 n3 n4 hS hle hG a1 a2 a3 a4
      have hi : i = c := by omega
      subst hi
      refine Tm_suc (fun k => by rw [x_copyRow__36]) ?_
      rw [n2, n3, n4, n_add (by omega)]
      refine Tm_ite (fun _ => ?_) (fun w => absurd ((n_le (by omega) (by omega)).mpr (by omega)) w)
      refine Tm_suc (fun k => by rw [x_copyRow__36]) ?_
      exact Tm_some ⟨h2, mv2, φ2, l2, hS, hle, hG, a1, a2, a3, a4⟩
    | succ q ih =>
      intro i N υ h2 mv2 φ2 l2 hi n2 n3 n4 hS hle hG a1 a2 a3 a4
      obtain ⟨m, m1, m2⟩ := hV i (by omega)
      refine Tm_suc (fun k => by rw [x_copyRow__36]) ?_
      rw [n2, n3, n4, n_add (by omega)]
      refine Tm_ite (fun w => absurd ((n_le (by omega) (by omega)).mp w) (by omega)) (fun _ => ?_)
      refine Tm_chk (n_in (by omega) (by omega)) ?_
      rw [n_cl (p := f + i) (by omega), a2 (f + i) (by omega), m1]
      refine Tm_ob (s_copied hS m2 rfl) (fun r hr => ?_)
      obtain ⟨h3, mv3, φ3, l3, b1, b2, b3, b4, b5, b6⟩ := hr
      refine Tm_chk (n_in2 (by omega) (by omega)) ?_
      show Tm (fun k => x_copyRow__36 k 2 N (mAr r.2 36 (f + i) r.1)) _
      refine Tm_suc (fun k => by rw [x_copyRow__36]) ?_
      refine ih (i + 1) _ _ h3 mv3 φ3 l3 (by omega) n2 n3 (by show N 4 + 1 = _; rw [n4, n_add1, Nat.add_assoc]) (SWS_c b1 rfl (mAr_o (by decide))) (by omega) (SWG_tr hG b3) (fun j hj => ?_) (fun j hj => ?_) (fun j hj => (b5 j hj).trans (a3 j hj)) (fun j q1 q2 => ?_)
      · by_cases e : j = i
        · rw [e, mAr_s, upd_same]; exact ⟨m, m1, m2, b4⟩
        · rw [mAr_s, upd_other (by omega), b6 36 (by decide)]
          obtain ⟨u, u1, u2, u3⟩ := a1 j (by omega)
          exact ⟨u, u1, u2, SWV_mo b3 u3⟩
      · rw [mAr_s, upd_other (by omega), b6 36 (by decide)]; exact a2 j (by omega)
      · rw [mAr_o q2, b6 j q1]; exact a4 j q1 q2
  refine Tm_suc (fun k => by rw [x_copyRow__36]) ?_
  exact l1 c 0 _ _ h' mv φ l' (by omega) h2 h3 h2 hW (Nat.le_refl _) (fun x hx => ⟨hx, rfl⟩) (fun j hj => absurd hj (Nat.not_lt_zero j)) (fun _ _ => rfl) (fun _ _ => rfl) (fun _ _ _ => rfl)
theorem s_cpR37 (hW : SWS H0 g l B h B' s τ h' mv φ l') {f c : Nat} (hfc : f + c ≤ 8) (hV : ∀ i, i < c → ∃ m, τ.2.2 37 (f + i) = nI m ∧ (m < 3 ∨ g m)) {L : Nat → Int32} (h2 : L 2 = nI f) (h3 : L 3 = nI c) : Tm (fun k => x_copyRow__37 k 0 L τ) (fun r => RwO H0 g l B h B' s 37 f c τ h' mv φ r.2) := by
  have l1 : ∀ (q i : Nat) (N : Nat → Int32) (υ : MS) (h2 : Nat) (mv2 : Nat → Bool) (φ2 : Nat → Nat) (l2 : List Nat), q + i = c → N 2 = nI f → N 3 = nI c → N 4 = nI (f + i) → SWS H0 g l B h B' s υ h2 mv2 φ2 l2 → h' ≤ h2 → SWG mv mv2 φ φ2 → (∀ j, j < i → ∃ m, τ.2.2 37 (f + j) = nI m ∧ (m < 3 ∨ g m) ∧ SWV mv2 φ2 m (υ.2.2 37 (f + j))) → (∀ j, ¬ (f ≤ j ∧ j < f + i) → υ.2.2 37 j = τ.2.2 37 j) → (∀ j, j ≠ 55 → υ.1 j = τ.1 j) → (∀ j, j ≠ 28 → j ≠ 37 → υ.2.2 j = τ.2.2 j) → Tm (fun k => x_copyRow__37 k 1 N υ) (fun r => RwO H0 g l B h B' s 37 f c τ h' mv φ r.2) := by
    intro q
    induction q with
    | zero =>
      intro i N υ h2 mv2 φ2 l2 hi n2 n3 n4 hS hle hG a1 a2 a3 a4
      have hi : i = c := by omega
      subst hi
      refine Tm_suc (fun k => by rw [x_copyRow__37]) ?_
      rw [n2, n3, n4, n_add (by omega)]
      refine Tm_ite (fun _ => ?_) (fun w => absurd ((n_le (by omega) (by omega)).mpr (by omega)) w)
      refine Tm_suc (fun k => by rw [x_copyRow__37]) ?_
      exact Tm_some ⟨h2, mv2, φ2, l2, hS, hle, hG, a1, a2, a3, a4⟩
    | succ q ih =>
      intro i N υ h2 mv2 φ2 l2 hi n2 n3 n4 hS hle hG a1 a2 a3 a4
      obtain ⟨m, m1, m2⟩ := hV i (by omega)
      refine Tm_suc (fun k => by rw [x_copyRow__37]) ?_
      rw [n2, n3, n4, n_add (by omega)]
      refine Tm_ite (fun w => absurd ((n_le (by omega) (by omega)).mp w) (by omega)) (fun _ => ?_)
      refine Tm_chk (n_in (by omega) (by omega)) ?_
      rw [n_cl (p := f + i) (by omega), a2 (f + i) (by omega), m1]
      refine Tm_ob (s_copied hS m2 rfl) (fun r hr => ?_)
      obtain ⟨h3, mv3, φ3, l3, b1, b2, b3, b4, b5, b6⟩ := hr
      refine Tm_chk (n_in2 (by omega) (by omega)) ?_
      show Tm (fun k => x_copyRow__37 k 2 N (mAr r.2 37 (f + i) r.1)) _
      refine Tm_suc (fun k => by rw [x_copyRow__37]) ?_
      refine ih (i + 1) _ _ h3 mv3 φ3 l3 (by omega) n2 n3 (by show N 4 + 1 = _; rw [n4, n_add1, Nat.add_assoc]) (SWS_c b1 rfl (mAr_o (by decide))) (by omega) (SWG_tr hG b3) (fun j hj => ?_) (fun j hj => ?_) (fun j hj => (b5 j hj).trans (a3 j hj)) (fun j q1 q2 => ?_)
      · by_cases e : j = i
        · rw [e, mAr_s, upd_same]; exact ⟨m, m1, m2, b4⟩
        · rw [mAr_s, upd_other (by omega), b6 37 (by decide)]
          obtain ⟨u, u1, u2, u3⟩ := a1 j (by omega)
          exact ⟨u, u1, u2, SWV_mo b3 u3⟩
      · rw [mAr_s, upd_other (by omega), b6 37 (by decide)]; exact a2 j (by omega)
      · rw [mAr_o q2, b6 j q1]; exact a4 j q1 q2
  refine Tm_suc (fun k => by rw [x_copyRow__37]) ?_
  exact l1 c 0 _ _ h' mv φ l' (by omega) h2 h3 h2 hW (Nat.le_refl _) (fun x hx => ⟨hx, rfl⟩) (fun j hj => absurd hj (Nat.not_lt_zero j)) (fun _ _ => rfl) (fun _ _ => rfl) (fun _ _ _ => rfl)
theorem s_cpR38 (hW : SWS H0 g l B h B' s τ h' mv φ l') {f c : Nat} (hfc : f + c ≤ 8) (hV : ∀ i, i < c → ∃ m, τ.2.2 38 (f + i) = nI m ∧ (m < 3 ∨ g m)) {L : Nat → Int32} (h2 : L 2 = nI f) (h3 : L 3 = nI c) : Tm (fun k => x_copyRow__38 k 0 L τ) (fun r => RwO H0 g l B h B' s 38 f c τ h' mv φ r.2) := by
  have l1 : ∀ (q i : Nat) (N : Nat → Int32) (υ : MS) (h2 : Nat) (mv2 : Nat → Bool) (φ2 : Nat → Nat) (l2 : List Nat), q + i = c → N 2 = nI f → N 3 = nI c → N 4 = nI (f + i) → SWS H0 g l B h B' s υ h2 mv2 φ2 l2 → h' ≤ h2 → SWG mv mv2 φ φ2 → (∀ j, j < i → ∃ m, τ.2.2 38 (f + j) = nI m ∧ (m < 3 ∨ g m) ∧ SWV mv2 φ2 m (υ.2.2 38 (f + j))) → (∀ j, ¬ (f ≤ j ∧ j < f + i) → υ.2.2 38 j = τ.2.2 38 j) → (∀ j, j ≠ 55 → υ.1 j = τ.1 j) → (∀ j, j ≠ 28 → j ≠ 38 → υ.2.2 j = τ.2.2 j) → Tm (fun k => x_copyRow__38 k 1 N υ) (fun r => RwO H0 g l B h B' s 38 f c τ h' mv φ r.2) := by
    intro q
    induction q with
    | zero =>
      intro i N υ h2 mv2 φ2 l2 hi n2 n3 n4 hS hle hG a1 a2 a3 a4
      have hi : i = c := by omega
      subst hi
      refine Tm_suc (fun k => by rw [x_copyRow__38]) ?_
      rw [n2, n3, n4, n_add (by omega)]
      refine Tm_ite (fun _ => ?_) (fun w => absurd ((n_le (by omega) (by omega)).mpr (by omega)) w)
      refine Tm_suc (fun k => by rw [x_copyRow__38]) ?_
      exact Tm_some ⟨h2, mv2, φ2, l2, hS, hle, hG, a1, a2, a3, a4⟩
    | succ q ih =>
      intro i N υ h2 mv2 φ2 l2 hi n2 n3 n4 hS hle hG a1 a2 a3 a4
      obtain ⟨m, m1, m2⟩ := hV i (by omega)
      refine Tm_suc (fun k => by rw [x_copyRow__38]) ?_
      rw [n2, n3, n4, n_add (by omega)]
      refine Tm_ite (fun w => absurd ((n_le (by omega) (by omega)).mp w) (by omega)) (fun _ => ?_)
      refine Tm_chk (n_in (by omega) (by omega)) ?_
      rw [n_cl (p := f + i) (by omega), a2 (f + i) (by omega), m1]
      refine Tm_ob (s_copied hS m2 rfl) (fun r hr => ?_)
      obtain ⟨h3, mv3, φ3, l3, b1, b2, b3, b4, b5, b6⟩ := hr
      refine Tm_chk (n_in2 (by omega) (by omega)) ?_
      show Tm (fun k => x_copyRow__38 k 2 N (mAr r.2 38 (f + i) r.1)) _
      refine Tm_suc (fun k => by rw [x_copyRow__38]) ?_
      refine ih (i + 1) _ _ h3 mv3 φ3 l3 (by omega) n2 n3 (by show N 4 + 1 = _; rw [n4, n_add1, Nat.add_assoc]) (SWS_c b1 rfl (mAr_o (by decide))) (by omega) (SWG_tr hG b3) (fun j hj => ?_) (fun j hj => ?_) (fun j hj => (b5 j hj).trans (a3 j hj)) (fun j q1 q2 => ?_)
      · by_cases e : j = i
        · rw [e, mAr_s, upd_same]; exact ⟨m, m1, m2, b4⟩
        · rw [mAr_s, upd_other (by omega), b6 38 (by decide)]
          obtain ⟨u, u1, u2, u3⟩ := a1 j (by omega)
          exact ⟨u, u1, u2, SWV_mo b3 u3⟩
      · rw [mAr_s, upd_other (by omega), b6 38 (by decide)]; exact a2 j (by omega)
      · rw [mAr_o q2, b6 j q1]; exact a4 j q1 q2
  refine Tm_suc (fun k => by rw [x_copyRow__38]) ?_
  exact l1 c 0 _ _ h' mv φ l' (by omega) h2 h3 h2 hW (Nat.le_refl _) (fun x hx => ⟨hx, rfl⟩) (fun j hj => absurd hj (Nat.not_lt_zero j)) (fun _ _ => rfl) (fun _ _ => rfl) (fun _ _ _ => rfl)
theorem s_cpR40 (hW : SWS H0 g l B h B' s τ h' mv φ l') {f c : Nat} (hfc : f + c ≤ 2) (hV : ∀ i, i < c → ∃ m, τ.2.2 40 (f + i) = nI m ∧ (m < 3 ∨ g m)) {L : Nat → Int32} (h2 : L 2 = nI f) (h3 : L 3 = nI c) : Tm (fun k => x_copyRow__40 k 0 L τ) (fun r => RwO H0 g l B h B' s 40 f c τ h' mv φ r.2) := by
  have l1 : ∀ (q i : Nat) (N : Nat → Int32) (υ : MS) (h2 : Nat) (mv2 : Nat → Bool) (φ2 : Nat → Nat) (l2 : List Nat), q + i = c → N 2 = nI f → N 3 = nI c → N 4 = nI (f + i) → SWS H0 g l B h B' s υ h2 mv2 φ2 l2 → h' ≤ h2 → SWG mv mv2 φ φ2 → (∀ j, j < i → ∃ m, τ.2.2 40 (f + j) = nI m ∧ (m < 3 ∨ g m) ∧ SWV mv2 φ2 m (υ.2.2 40 (f + j))) → (∀ j, ¬ (f ≤ j ∧ j < f + i) → υ.2.2 40 j = τ.2.2 40 j) → (∀ j, j ≠ 55 → υ.1 j = τ.1 j) → (∀ j, j ≠ 28 → j ≠ 40 → υ.2.2 j = τ.2.2 j) → Tm (fun k => x_copyRow__40 k 1 N υ) (fun r => RwO H0 g l B h B' s 40 f c τ h' mv φ r.2) := by
    intro q
    induction q with
    | zero =>
      intro i N υ h2 mv2 φ2 l2 hi n2 n3 n4 hS hle hG a1 a2 a3 a4
      have hi : i = c := by omega
      subst hi
      refine Tm_suc (fun k => by rw [x_copyRow__40]) ?_
      rw [n2, n3, n4, n_add (by omega)]
      refine Tm_ite (fun _ => ?_) (fun w => absurd ((n_le (by omega) (by omega)).mpr (by omega)) w)
      refine Tm_suc (fun k => by rw [x_copyRow__40]) ?_
      exact Tm_some ⟨h2, mv2, φ2, l2, hS, hle, hG, a1, a2, a3, a4⟩
    | succ q ih =>
      intro i N υ h2 mv2 φ2 l2 hi n2 n3 n4 hS hle hG a1 a2 a3 a4
      obtain ⟨m, m1, m2⟩ := hV i (by omega)
      refine Tm_suc (fun k => by rw [x_copyRow__40]) ?_
      rw [n2, n3, n4, n_add (by omega)]
      refine Tm_ite (fun w => absurd ((n_le (by omega) (by omega)).mp w) (by omega)) (fun _ => ?_)
      refine Tm_chk (n_in (by omega) (by omega)) ?_
      rw [n_cl (p := f + i) (by omega), a2 (f + i) (by omega), m1]
      refine Tm_ob (s_copied hS m2 rfl) (fun r hr => ?_)
      obtain ⟨h3, mv3, φ3, l3, b1, b2, b3, b4, b5, b6⟩ := hr
      refine Tm_chk (n_in2 (by omega) (by omega)) ?_
      show Tm (fun k => x_copyRow__40 k 2 N (mAr r.2 40 (f + i) r.1)) _
      refine Tm_suc (fun k => by rw [x_copyRow__40]) ?_
      refine ih (i + 1) _ _ h3 mv3 φ3 l3 (by omega) n2 n3 (by show N 4 + 1 = _; rw [n4, n_add1, Nat.add_assoc]) (SWS_c b1 rfl (mAr_o (by decide))) (by omega) (SWG_tr hG b3) (fun j hj => ?_) (fun j hj => ?_) (fun j hj => (b5 j hj).trans (a3 j hj)) (fun j q1 q2 => ?_)
      · by_cases e : j = i
        · rw [e, mAr_s, upd_same]; exact ⟨m, m1, m2, b4⟩
        · rw [mAr_s, upd_other (by omega), b6 40 (by decide)]
          obtain ⟨u, u1, u2, u3⟩ := a1 j (by omega)
          exact ⟨u, u1, u2, SWV_mo b3 u3⟩
      · rw [mAr_s, upd_other (by omega), b6 40 (by decide)]; exact a2 j (by omega)
      · rw [mAr_o q2, b6 j q1]; exact a4 j q1 q2
  refine Tm_suc (fun k => by rw [x_copyRow__40]) ?_
  exact l1 c 0 _ _ h' mv φ l' (by omega) h2 h3 h2 hW (Nat.le_refl _) (fun x hx => ⟨hx, rfl⟩) (fun j hj => absurd hj (Nat.not_lt_zero j)) (fun _ _ => rfl) (fun _ _ => rfl) (fun _ _ _ => rfl)
end CPR
end JnS137
section JnS138
/-! The sweep: one cell is scanned (reference). -/
section SCN
variable {H0 H : Nat → Int32} {g : Nat → Prop} {l l' : List Nat} {B h B' h' s : Nat} {mv : Nat → Bool} {φ : Nat → Nat}
theorem Til_hd {b : Nat} {H' : Nat → Int32} : ∀ (l : List Nat) (a : Nat), (∀ u, u ∈ l → H' (u + 1) = H (u + 1)) → Til H b a l → Til H' b a l
  | [], _, _, h => h
  | v :: l, a, he, ⟨e, n, n1, n2, n3⟩ => ⟨e, n, (he v List.mem_cons_self).trans n1, n2, Til_hd l _ (fun u hu => he u (List.mem_cons_of_mem v hu)) n3⟩
/-- what is known of the object that has gone to a place -/
theorem SwI_at {v n : Nat} (hI : SwI H0 g l B h B' h' s H mv φ l') (hm : mv v = true) (hn : H0 (v + 1) = nI n) (hn2 : n ≤ 3996) : φ v ∈ l' ∧ φ v + 4 + n ≤ h' ∧ (∀ i, i < 4 → H (φ v + i) = H0 (v + i)) ∧ ∀ i, i < n → (s ≤ φ v + 4 + i ∧ H (φ v + 4 + i) = H0 (v + 4 + i)) ∨ (φ v + 4 + i < s ∧ SwC H0 mv φ v i (H (φ v + 4 + i))) := by
  obtain ⟨i1, i2, i3, i4, i5, i6, i7⟩ := hI
  have hl := (i3 v hm).2
  obtain ⟨u, k, u1, u2, u3, u4, u5, u6, u7⟩ := i6 _ hl
  have e : u = v := i7 u v u1 hm u2
  subst e
  have ek : k = n := (n_eq (by omega) (by omega)).mp (u3.symm.trans hn)
  subst ek
  exact ⟨hl, u5, u6, u7⟩
theorem SwI_cell {v i n m : Nat} {x : Int32} (hO : HO H0 g l (B + 4) h) (hh : h ≤ B + 870000) (hBB : (B = 0 ∧ B' = 870000) ∨ (B = 870000 ∧ B' = 0)) (hI : SwI H0 g l B h B' h' s H mv φ l') (hm : mv v = true) (hn : H0 (v + 1) = nI n) (hn2 : n ≤ 3996) (hi : i < n) (hs : s = φ v + 4 + i) (hk : H0 v = nI 5 ∨ H0 v = nI 6) (hc : H0 (v + 4 + i) = nI m) (hx : SWV mv φ m x) : SwI H0 g l B h B' h' (s + 1) (upd H s x) mv φ l' := by
  obtain ⟨wl, w5, w6, w7⟩ := SwI_at hI hm hn hn2
  obtain ⟨i1, i2, i3, i4, i5, i6, i7⟩ := hI
  have hw1 : H (φ v + 1) = nI n := (w6 1 (by omega)).trans hn
  have hwT := (Til_mem l' _ i1 _ wl).1
  -- no head of another lies there
  have far : ∀ u k, u ∈ l' → u ≠ φ v → H (u + 1) = nI k → k ≤ 3996 → u + 4 + k ≤ φ v ∨ φ v + 4 + n ≤ u := fun u k hu hne hk1 hk2 => by
    by_cases q : u < φ v
    · exact Or.inl (Til_disj l' _ i1 u (φ v) k hu wl q hk1 hk2)
    · exact Or.inr (Til_disj l' _ i1 (φ v) u n wl hu (by omega) hw1 hn2)
  have hd : ∀ u j, u ∈ l' → j < 4 → u + j ≠ s := fun u j hu hj => by
    by_cases e : u = φ v
    · omega
    · obtain ⟨_, k, _, _, k3, k4, _, k6, _⟩ := i6 u hu
      have := far u k hu e ((k6 1 (by omega)).trans k3) k4
      omega
  have old : ∀ j, B + 4 ≤ j → j < h → upd H s x j = H j := fun j q1 q2 => upd_other (by omega)
  refine ⟨Til_hd l' _ (fun u hu => upd_other (hd u 1 hu (by omega))) i1, i2, i3, fun u k gu hu hk1 hk2 j hj => ?_, fun u hu => ?_, fun u hu => ?_, i7⟩
  · obtain ⟨_, n3, _, _, q1, q2, q3⟩ := HO_at hO (by omega) gu
    have : n3 = k := (n_eq (by have := q1.2.2.2.2.2.2.2.1; omega) (by omega)).mp (q1.2.1.symm.trans hk1)
    rw [old _ (by omega) (by omega)]
    exact i4 u k gu hu hk1 hk2 j hj
  · obtain ⟨_, n3, _, _, q1, q2, q3⟩ := HO_at hO (by omega) (i3 u hu).1
    rw [old _ (by omega) (by omega), old _ (by omega) (by omega)]
    exact i5 u hu
  · obtain ⟨vu, nu, u1, u2, u3, u4, u5, u6, u7⟩ := i6 u hu
    refine ⟨vu, nu, u1, u2, u3, u4, u5, fun j hj => ?_, fun j hj => ?_⟩
    · rw [upd_other (hd u j hu hj)]; exact u6 j hj
    · by_cases e : u + 4 + j = s
      · have eu : u = φ v := by
          by_cases e2 : u = φ v
          · exact e2
          · have := far u nu hu e2 ((u6 1 (by omega)).trans u3) u4
            omega
        have ev : vu = v := i7 vu v u1 hm (u2.trans eu)
        subst ev
        have ej : j = i := by omega
        subst ej
        refine Or.inr ⟨by omega, ?_⟩
        rw [e, upd_same]
        exact Or.inl ⟨hk, m, hc, hx⟩
      · rw [upd_other e]
        rcases u7 j hj with q | q
        · exact Or.inl ⟨by omega, q.2⟩
        · exact Or.inr ⟨by omega, q.2⟩
end SCN
end JnS138
section JnS139
/-! The sweep: cells that hold no values are skipped (reference). -/
section SKP
variable {H0 H : Nat → Int32} {g : Nat → Prop} {l l' : List Nat} {B h B' h' s : Nat} {mv : Nat → Bool} {φ : Nat → Nat}
theorem SwI_skip {s2 : Nat} (hI : SwI H0 g l B h B' h' s H mv φ l') (hs : s ≤ s2) (hf : ∀ v n i, mv v = true → H0 (v + 1) = nI n → n ≤ 3996 → i < n → s ≤ φ v + 4 + i → φ v + 4 + i < s2 → ¬ (H0 v = nI 5 ∨ H0 v = nI 6)) : SwI H0 g l B h B' h' s2 H mv φ l' := by
  obtain ⟨i1, i2, i3, i4, i5, i6, i7⟩ := hI
  refine ⟨i1, i2, i3, i4, i5, fun w hw => ?_, i7⟩
  obtain ⟨v, n, u1, u2, u3, u4, u5, u6, u7⟩ := i6 w hw
  refine ⟨v, n, u1, u2, u3, u4, u5, u6, fun i hi => ?_⟩
  rcases u7 i hi with q | q
  · by_cases e : w + 4 + i < s2
    · refine Or.inr ⟨e, Or.inr ⟨?_, q.2⟩⟩
      exact hf v n i u1 u3 u4 hi (by rw [u2]; exact q.1) (by rw [u2]; exact e)
    · exact Or.inl ⟨by omega, q.2⟩
  · exact Or.inr ⟨by omega, q.2⟩
/-- the head of an object is skipped; its body too, unless it holds values -/
theorem SwI_head {v n : Nat} (hI : SwI H0 g l B h B' h' (φ v) H mv φ l') (hm : mv v = true) (hn : H0 (v + 1) = nI n) (hn2 : n ≤ 3996) : SwI H0 g l B h B' h' (φ v + 4) H mv φ l' ∧ (¬ (H0 v = nI 5 ∨ H0 v = nI 6) → SwI H0 g l B h B' h' (φ v + 4 + n) H mv φ l') := by
  obtain ⟨wl, w5, w6, w7⟩ := SwI_at hI hm hn hn2
  have hI0 := hI
  obtain ⟨i1, i2, i3, i4, i5, i6, i7⟩ := hI
  have hw1 : H (φ v + 1) = nI n := (w6 1 (by omega)).trans hn
  have own : ∀ u k i, mv u = true → H0 (u + 1) = nI k → k ≤ 3996 → i < k → φ v ≤ φ u + 4 + i → φ u + 4 + i < φ v + 4 + n → u = v := fun u k i hu hk1 hk2 hi q1 q2 => by
    obtain ⟨ul, u5, u6, _⟩ := SwI_at hI0 hu hk1 hk2
    have hu1 : H (φ u + 1) = nI k := (u6 1 (by omega)).trans hk1
    by_cases e : φ u = φ v
    · exact i7 u v hu hm e
    · by_cases q : φ u < φ v
      · have := Til_disj l' _ i1 (φ u) (φ v) k ul wl q hu1 hk2
        omega
      · have := Til_disj l' _ i1 (φ v) (φ u) n wl ul (by omega) hw1 hn2
        omega
  refine ⟨SwI_skip hI0 (by omega) (fun u k i hu hk1 hk2 hi q1 q2 => ?_), fun hk => SwI_skip hI0 (by omega) (fun u k i hu hk1 hk2 hi q1 q2 => ?_)⟩
  · have e := own u k i hu hk1 hk2 hi q1 (by omega)
    subst e
    omega
  · have e := own u k i hu hk1 hk2 hi q1 q2
    subst e
    exact hk
end SKP
end JnS139
section JnS140
/-! The sweep: the scan (reference). -/
/-- the scan has come to s -/
def ScO (H0 : Nat → Int32) (g : Nat → Prop) (l : List Nat) (B h B' s : Nat) (τ : MS) (h' : Nat) (mv : Nat → Bool) (φ : Nat → Nat) (ρ : MS) : Prop :=
  ∃ h2 mv2 φ2 l2, SWS H0 g l B h B' s ρ h2 mv2 φ2 l2 ∧ h' ≤ h2 ∧ SWG mv mv2 φ φ2 ∧ (∀ j, j ≠ 55 → ρ.1 j = τ.1 j) ∧ (∀ j, j ≠ 28 → ρ.2.2 j = τ.2.2 j)
section SCL
variable {H0 : Nat → Int32} {g : Nat → Prop} {l l' : List Nat} {B h B' h' s : Nat} {mv : Nat → Bool} {φ : Nat → Nat} {τ : MS}
theorem s_cpR28 {v n : Nat} (hW : SWS H0 g l B h B' (φ v + 4) τ h' mv φ l') (hm : mv v = true) (hn : H0 (v + 1) = nI n) (hn2 : n ≤ 3996) (hk : H0 v = nI 5 ∨ H0 v = nI 6) {L : Nat → Int32} (h2 : L 2 = nI (φ v + 4)) (h3 : L 3 = nI n) : Tm (fun k => x_copyRow__28 k 0 L τ) (fun r => ScO H0 g l B h B' (φ v + 4 + n) τ h' mv φ r.2) := by
  have hb := SWS_b hW
  have hend : φ v + 4 + n ≤ h' := (SwI_at hW.2.2.2.2.2 hm hn hn2).2.1
  have hBB := hW.2.2.1
  have hgv := (hW.2.2.2.2.2.2.2.1 v hm).1
  obtain ⟨k0, n0, s0, t0, q1, q2, q3⟩ := HO_at hW.1 (by have := hW.2.1; omega) hgv
  have hn0 : n0 = n := (n_eq (by have := q1.2.2.2.2.2.2.2.1; omega) (by omega)).mp (q1.2.1.symm.trans hn)
  subst hn0
  have hk5 : 5 ≤ k0 := by
    have k6 := q1.2.2.2.2.1
    rcases hk with hk | hk
    · have := (n_eq (p := k0) (q := 5) (by omega) (by decide)).mp (q1.1.symm.trans hk)
      omega
    · have := (n_eq (p := k0) (q := 6) (by omega) (by decide)).mp (q1.1.symm.trans hk)
      omega
  have hch := (q1.2.2.2.2.2.2.2.2.2.2.2 hk5).2
  have l1 : ∀ (q i : Nat) (N : Nat → Int32) (υ : MS) (h2 : Nat) (mv2 : Nat → Bool) (φ2 : Nat → Nat) (l2 : List Nat), q + i = n0 → N 2 = nI (φ v + 4) → N 3 = nI n0 → N 4 = nI (φ v + 4 + i) → SWS H0 g l B h B' (φ v + 4 + i) υ h2 mv2 φ2 l2 → h' ≤ h2 → SWG mv mv2 φ φ2 → (∀ j, j ≠ 55 → υ.1 j = τ.1 j) → (∀ j, j ≠ 28 → υ.2.2 j = τ.2.2 j) → Tm (fun k => x_copyRow__28 k 1 N υ) (fun r => ScO H0 g l B h B' (φ v + 4 + n0) τ h' mv φ r.2) := by
    intro q
    induction q with
    | zero =>
      intro i N υ h2 mv2 φ2 l2 hi n2 n3 n4 hS hle hG a3 a4
      have hi : i = n0 := by omega
      subst hi
      refine Tm_suc (fun k => by rw [x_copyRow__28]) ?_
      rw [n2, n3, n4, n_add (by omega)]
      refine Tm_ite (fun _ => ?_) (fun w => absurd ((n_le (by omega) (by omega)).mpr (by omega)) w)
      refine Tm_suc (fun k => by rw [x_copyRow__28]) ?_
      exact Tm_some ⟨h2, mv2, φ2, l2, hS, hle, hG, a3, a4⟩
    | succ q ih =>
      intro i N υ h2 mv2 φ2 l2 hi n2 n3 n4 hS hle hG a3 a4
      obtain ⟨m, m1, m2, m3⟩ := hch i (by omega)
      obtain ⟨g1, g2⟩ := hG v hm
      have hcell : υ.2.2 28 (φ v + 4 + i) = nI m := by
        have := (SwI_at hS.2.2.2.2.2 g1 hn hn2).2.2.2 i (by omega)
        rw [g2] at this
        rcases this with z | z
        · exact z.2.trans m1
        · omega
      refine Tm_suc (fun k => by rw [x_copyRow__28]) ?_
      rw [n2, n3, n4, n_add (by omega)]
      refine Tm_ite (fun w => absurd ((n_le (by omega) (by omega)).mp w) (by omega)) (fun _ => ?_)
      refine Tm_chk (n_in (by omega) (by omega)) ?_
      rw [n_cl (p := φ v + 4 + i) (by omega), hcell]
      refine Tm_ob (s_copied hS m2 rfl) (fun r hr => ?_)
      obtain ⟨h3, mv3, φ3, l3, b1, b2, b3, b4, b5, b6⟩ := hr
      refine Tm_chk (n_in2 (by omega) (by omega)) ?_
      show Tm (fun k => x_copyRow__28 k 2 N (mAr r.2 28 (φ v + 4 + i) r.1)) _
      refine Tm_suc (fun k => by rw [x_copyRow__28]) ?_
      have hG3 := SWG_tr hG b3
      obtain ⟨c1, c2⟩ := hG3 v hm
      refine ih (i + 1) _ _ h3 mv3 φ3 l3 (by omega) n2 n3 (by show N 4 + 1 = _; rw [n4, n_add1, Nat.add_assoc]) ?_ (by omega) hG3 (fun j hj => (b5 j hj).trans (a3 j hj)) (fun j q2 => ?_)
      · obtain ⟨w1, w2, w3, w4, w5, w6⟩ := b1
        refine ⟨w1, w2, w3, by omega, w5, ?_⟩
        rw [mAr_s]
        exact SwI_cell w1 w2 w3 w6 c1 hn hn2 (by omega) (by rw [c2]; rfl) hk m1 b4
      · rw [mAr_o q2, b6 j q2]; exact a4 j q2
  refine Tm_suc (fun k => by rw [x_copyRow__28]) ?_
  exact l1 n0 0 _ _ h' mv φ l' (by omega) h2 h3 h2 hW (Nat.le_refl _) (fun x hx => ⟨hx, rfl⟩) (fun _ _ => rfl) (fun _ _ => rfl)
theorem Til_nx {H : Nat → Int32} {b : Nat} : ∀ (l : List Nat) (a : Nat), Til H b a l → ∀ w n, w ∈ l → H (w + 1) = nI n → n ≤ 3996 → b < 2147483648 → w + 4 + n ∈ l ∨ w + 4 + n = b
  | [], _, _, _, _, h, _, _, _ => absurd h (List.not_mem_nil)
  | u :: l, a, hT, w, n, hw, hn, hn2, hb => by
    obtain ⟨e, m, m1, m2, m3⟩ := hT
    rcases List.mem_cons.mp hw with z | z
    · subst z
      have em : m = n := (n_eq (by omega) (by omega)).mp (m1.symm.trans hn)
      subst em
      cases l with
      | nil => exact Or.inr m3
      | cons x l =>
        have ex : x = w + 4 + m := m3.1
        exact Or.inl (by rw [← ex]; exact List.mem_cons_of_mem _ List.mem_cons_self)
    · rcases Til_nx l _ m3 w n z hn hn2 hb with y | y
      · exact Or.inl (List.mem_cons_of_mem _ y)
      · exact Or.inr y
theorem s_scan : ∀ (q s : Nat) (N : Nat → Int32) (υ : MS) (h' : Nat) (mv : Nat → Bool) (φ : Nat → Nat) (l' : List Nat), B' + 870000 ≤ q + s → N 2 = nI s → SWS H0 g l B h B' s υ h' mv φ l' → (s ∈ l' ∨ s = h') → Tm (fun k => x_sweep k 8 N υ) (fun r => ∃ s2, ScO H0 g l B h B' s2 υ h' mv φ r.2 ∧ r.2.1 55 = nI s2) := by
  intro q
  induction q with
  | zero =>
    intro s N υ h' mv φ l' hq n2 hW hs
    have hb := SWS_b hW
    have hsh := hW.2.2.2.1
    have hBB := hW.2.2.1
    have e : s = h' := by omega
    refine Tm_suc (fun k => by rw [x_sweep]) ?_
    rw [n2, hW.2.2.2.2.1]
    refine Tm_ite (fun _ => ?_) (fun w => absurd ((n_le (by omega) (by omega)).mpr (by omega)) w)
    refine Tm_suc (fun k => by rw [x_sweep]) ?_
    exact Tm_some ⟨s, ⟨h', mv, φ, l', hW, Nat.le_refl _, fun x hx => ⟨hx, rfl⟩, fun _ _ => rfl, fun _ _ => rfl⟩, by rw [e]; exact hW.2.2.2.2.1⟩
  | succ q ih =>
    intro s N υ h' mv φ l' hq n2 hW hs
    have hb := SWS_b hW
    have hsh := hW.2.2.2.1
    have hBB := hW.2.2.1
    refine Tm_suc (fun k => by rw [x_sweep]) ?_
    rw [n2, hW.2.2.2.2.1]
    refine Tm_ite (fun w => ?_) (fun w => ?_)
    · have e := (n_le (by omega) (by omega)).mp w
      have e : s = h' := by omega
      refine Tm_suc (fun k => by rw [x_sweep]) ?_
      exact Tm_some ⟨s, ⟨h', mv, φ, l', hW, Nat.le_refl _, fun x hx => ⟨hx, rfl⟩, fun _ _ => rfl, fun _ _ => rfl⟩, by rw [e]; exact hW.2.2.2.2.1⟩
    have hlt : s < h' := by
      by_cases e : h' ≤ s
      · exact absurd ((n_le (by omega) (by omega)).mpr e) w
      · omega
    have hsl : s ∈ l' := hs.resolve_right (by omega)
    have hI := hW.2.2.2.2.2
    obtain ⟨v, n, u1, u2, u3, u4, u5, u6, u7⟩ := hI.2.2.2.2.2.1 s hsl
    have hH0 : υ.2.2 28 s = H0 v := u6 0 (by omega)
    have hH1 : υ.2.2 28 (s + 1) = nI n := (u6 1 (by omega)).trans u3
    -- behind this object
    have go : ∀ (M : Nat → Int32) (ρ : MS), M 2 = nI s → M 4 = nI n → ScO H0 g l B h B' (s + 4 + n) υ h' mv φ ρ → Tm (fun k => x_sweep k 10 M ρ) (fun r => ∃ s2, ScO H0 g l B h B' s2 υ h' mv φ r.2 ∧ r.2.1 55 = nI s2) := by
      intro M ρ m2 m4 hr
      obtain ⟨h3, mv3, φ3, l3, b1, b2, b3, b4, b5⟩ := hr
      have hb3 := SWS_b b1
      refine Tm_suc (fun k => by rw [x_sweep]) ?_
      rw [m2, m4, show (4 : Int32) + nI n = nI (4 + n) from n_add (p := 4) (by omega), n_add (by omega), ← Nat.add_assoc]
      obtain ⟨c1, c2⟩ := b3 v u1
      have hat := SwI_at b1.2.2.2.2.2 c1 u3 u4
      rw [c2, u2] at hat
      have hnx := Til_nx l3 _ b1.2.2.2.2.2.1 s n hat.1 ((hat.2.2.1 1 (by omega)).trans u3) u4 (by omega)
      refine Tm_mono (ih (s + 4 + n) _ ρ h3 mv3 φ3 l3 (by omega) rfl b1 hnx) (fun r hr => ?_)
      obtain ⟨s2, ⟨h4, mv4, φ4, l4, d1, d2, d3, d4, d5⟩, d6⟩ := hr
      exact ⟨s2, ⟨h4, mv4, φ4, l4, d1, by omega, SWG_tr b3 d3, fun j hj => (d4 j hj).trans (b4 j hj), fun j hj => (d5 j hj).trans (b5 j hj)⟩, d6⟩
    have hG0 : SWG mv mv φ φ := fun x hx => ⟨hx, rfl⟩
    rw [← u2] at hI
    have hsk := SwI_head hI u1 u3 u4
    rw [u2] at hsk
    have p9 : (H0 v = nI 5 ∨ H0 v = nI 6) → ∀ M : Nat → Int32, M 2 = nI s → M 4 = nI n → Tm (fun k => x_sweep k 9 M υ) (fun r => ∃ s2, ScO H0 g l B h B' s2 υ h' mv φ r.2 ∧ r.2.1 55 = nI s2) := by
      intro hk M m2 m4
      refine Tm_suc (fun k => by rw [x_sweep]) ?_
      rw [m2, m4, show nI s + 4 = nI (s + 4) from n_add (q := 4) (by omega)]
      have hW4 : SWS H0 g l B h B' (φ v + 4) υ h' mv φ l' := by
        rw [u2]
        exact ⟨hW.1, hW.2.1, hW.2.2.1, by omega, hW.2.2.2.2.1, hsk.1⟩
      refine Tm_ob (s_cpR28 hW4 u1 u3 u4 hk (by rw [u2]; rfl) rfl) (fun r hr => ?_)
      rw [u2] at hr
      exact go _ _ m2 m4 hr
    have p10 : ¬ (H0 v = nI 5 ∨ H0 v = nI 6) → ∀ M : Nat → Int32, M 2 = nI s → M 4 = nI n → Tm (fun k => x_sweep k 10 M υ) (fun r => ∃ s2, ScO H0 g l B h B' s2 υ h' mv φ r.2 ∧ r.2.1 55 = nI s2) := by
      intro hk M m2 m4
      exact go _ _ m2 m4 ⟨h', mv, φ, l', ⟨hW.1, hW.2.1, hW.2.2.1, by omega, hW.2.2.2.2.1, hsk.2 hk⟩, Nat.le_refl _, hG0, fun _ _ => rfl, fun _ _ => rfl⟩
    rw [n_add1]
    refine Tm_chk (n_in (by omega) (by omega)) ?_
    refine Tm_chk (n_in (by omega) (by omega)) ?_
    rw [n_cl (p := s) (by omega), n_cl (p := s + 1) (by omega), hH0, hH1]
    refine Tm_ite (fun k5 => p9 (Or.inl k5) _ n2 rfl) (fun k5 => ?_)
    refine Tm_ite (fun k6 => p9 (Or.inr k6) _ n2 rfl) (fun k6 => ?_)
    exact p10 (fun z => z.elim k5 k6) _ n2 rfl
end SCL
end JnS140
section JnS141
/-! The sweep: what it leaves is a heap (reference). -/
/-- two values with the same head -/
def VR (H0 H : Nat → Int32) (m m' : Nat) : Prop := (m < 3 ∧ m' = m) ∨ (3 ≤ m ∧ 3 ≤ m' ∧ ∀ i, i < 4 → H (m' + i) = H0 (m + i))
/-- R ties values of two heaps that hold the same -/
def Bis (R : Nat → Nat → Prop) (H0 H : Nat → Int32) : Prop := ∀ a b, R a b → (a < 3 ∧ b = a) ∨ (3 ≤ a ∧ 3 ≤ b ∧ (∀ i, i < 4 → H (b + i) = H0 (a + i)) ∧ ∀ n, H0 (a + 1) = nI n → n ≤ 3996 → ∀ i, i < n → ((H0 a = nI 5 ∨ H0 a = nI 6) ∧ ∃ c d, H0 (a + 4 + i) = nI c ∧ c < 1740000 ∧ H (b + 4 + i) = nI d ∧ d < 1740000 ∧ R c d) ∨ (¬ (H0 a = nI 5 ∨ H0 a = nI 6) ∧ H (b + 4 + i) = H0 (a + 4 + i)))
/-- two values that hold the same -/
def EVb (H0 H : Nat → Int32) (m m' : Nat) : Prop := ∃ R, Bis R H0 H ∧ R m m'
/-- a value of one heap and what it has become in another -/
def VC (g g' : Nat → Prop) (H0 H : Nat → Int32) (x y : Int32) : Prop := ∃ m m', x = nI m ∧ (m < 3 ∨ g m) ∧ y = nI m' ∧ (m' < 3 ∨ g' m') ∧ EVb H0 H m m' ∧ m < 1740000 ∧ m' < 1740000
section SWH
variable {H0 H : Nat → Int32} {g : Nat → Prop} {l l' : List Nat} {B h B' h' s : Nat} {mv : Nat → Bool} {φ : Nat → Nat}
theorem VR_sz {m m' : Nat} (h : VR H0 H m m') : szN H m' = szN H0 m ∧ htN H m' = htN H0 m ∧ kdN H m' = kdN H0 m := by
  rcases h with ⟨h1, h2⟩ | ⟨h1, h2, h3⟩
  · subst h2
    unfold szN htN kdN
    rw [if_pos h1, if_pos h1, if_pos h1, if_pos h1, if_pos h1, if_pos h1]
    exact ⟨rfl, rfl, rfl⟩
  · unfold szN htN kdN
    rw [if_neg (by omega), if_neg (by omega), if_neg (by omega), if_neg (by omega), if_neg (by omega), if_neg (by omega), if_neg (by omega), if_neg (by omega), h3 2 (by omega), h3 3 (by omega), show H m' = H0 m from h3 0 (by omega)]
    exact ⟨rfl, rfl, rfl⟩
theorem VR_rf {m : Nat} : VR H H m m := by
  by_cases h : m < 3
  · exact Or.inl ⟨h, rfl⟩
  · exact Or.inr ⟨by omega, by omega, fun _ _ => rfl⟩
theorem VR_tr {H1 : Nat → Int32} {a b c : Nat} (p : VR H0 H1 a b) (q : VR H1 H b c) : VR H0 H a c := by
  rcases p with ⟨p1, p2⟩ | ⟨p1, p2, p3⟩
  · subst p2
    rcases q with q | ⟨q1, q2, q3⟩
    · exact Or.inl q
    · omega
  · rcases q with ⟨q1, q2⟩ | ⟨q1, q2, q3⟩
    · omega
    · exact Or.inr ⟨p1, q2, fun i hi => (q3 i hi).trans (p3 i hi)⟩
theorem EVb_VR {m m' : Nat} (h : EVb H0 H m m') : VR H0 H m m' := by
  obtain ⟨R, hR, h⟩ := h
  rcases hR m m' h with z | ⟨z1, z2, z3, _⟩
  · exact Or.inl z
  · exact Or.inr ⟨z1, z2, z3⟩
theorem EVb_tr {H1 : Nat → Int32} {a b c : Nat} (p : EVb H0 H1 a b) (q : EVb H1 H b c) : EVb H0 H a c := by
  obtain ⟨R, hR, p⟩ := p
  obtain ⟨S, hS, q⟩ := q
  refine ⟨fun x z => ∃ y, R x y ∧ S y z, ?_, b, p, q⟩
  intro x z hxz
  obtain ⟨y, h1, h2⟩ := hxz
  rcases hR x y h1 with ⟨a1, a2⟩ | ⟨a1, a2, a3, a4⟩
  · subst a2
    rcases hS y z h2 with b1 | ⟨b1, _⟩
    · exact Or.inl b1
    · omega
  · rcases hS y z h2 with ⟨b1, b2⟩ | ⟨b1, b2, b3, b4⟩
    · omega
    · have k0 : H1 y = H0 x := a3 0 (by omega)
      refine Or.inr ⟨a1, b2, fun i hi => (b3 i hi).trans (a3 i hi), fun n hn hn2 i hi => ?_⟩
      have c1 := a4 n hn hn2 i hi
      have c2 := b4 n ((a3 1 (by omega)).trans hn) hn2 i hi
      rw [k0] at c2
      rcases c1 with ⟨k, u, v, u1, u2, v1, v2, uv⟩ | ⟨k, e⟩
      · rcases c2 with ⟨_, v', w, v3, v4, w1, w2, vw⟩ | ⟨k', _⟩
        · have : v' = v := (n_eq (by omega) (by omega)).mp (v3.symm.trans v1)
          subst this
          exact Or.inl ⟨k, u, w, u1, u2, w1, w2, v', uv, vw⟩
        · exact absurd k k'
      · rcases c2 with ⟨k', _⟩ | ⟨_, e2⟩
        · exact absurd k' k
        · exact Or.inr ⟨k, e2.trans e⟩
theorem EVb_sy {m m' : Nat} (h : EVb H0 H m m') : EVb H H0 m' m := by
  obtain ⟨R, hR, h⟩ := h
  refine ⟨fun x y => R y x, fun x y hxy => ?_, h⟩
  rcases hR y x hxy with ⟨z1, z2⟩ | ⟨a1, a2, a3, a4⟩
  · exact Or.inl ⟨by omega, z2.symm⟩
  · have k0 : H x = H0 y := a3 0 (by omega)
    refine Or.inr ⟨a2, a1, fun i hi => (a3 i hi).symm, fun n hn hn2 i hi => ?_⟩
    rw [k0]
    rcases a4 n ((a3 1 (by omega)).symm.trans hn) hn2 i hi with ⟨k, u, v, u1, u2, v1, v2, uv⟩ | ⟨k, e⟩
    · exact Or.inl ⟨k, v, u, v1, v2, u1, u2, uv⟩
    · exact Or.inr ⟨k, e.symm⟩
/-- the heap grows, or only other cells change -/
theorem EVb_gr {a b : Nat} (hO : HO H0 g l a b) (hb : b ≤ 1740000) (he : ∀ i, a ≤ i → i < b → H i = H0 i) {m : Nat} (hm : m < 3 ∨ g m) : EVb H0 H m m := by
  refine ⟨fun x y => x = y ∧ (x < 3 ∨ g x), fun x y hxy => ?_, rfl, hm⟩
  obtain ⟨h1, h2⟩ := hxy
  subst h1
  by_cases c : x < 3
  · exact Or.inl ⟨c, rfl⟩
  have gx := h2.resolve_left c
  obtain ⟨k, n, s, t, q1, q2, q3⟩ := HO_at hO (by omega) gx
  refine Or.inr ⟨by omega, by omega, fun i hi => he _ (by omega) (by omega), fun n' hn hn2 i hi => ?_⟩
  have e : n = n' := (n_eq (by have := q1.2.2.2.2.2.2.2.1; omega) (by omega)).mp (q1.2.1.symm.trans hn)
  subst e
  by_cases k5 : H0 x = nI 5 ∨ H0 x = nI 6
  · have hk : 5 ≤ k := by
      have k6 := q1.2.2.2.2.1
      rcases k5 with z | z
      · have := (n_eq (p := k) (q := 5) (by omega) (by decide)).mp (q1.1.symm.trans z)
        omega
      · have := (n_eq (p := k) (q := 6) (by omega) (by decide)).mp (q1.1.symm.trans z)
        omega
    obtain ⟨c, c1, c2, _⟩ := (q1.2.2.2.2.2.2.2.2.2.2.2 hk).2 i hi
    have hc : c < 1740000 := by
      rcases c2 with z | z
      · omega
      · obtain ⟨_, _, _, _, _, _, y⟩ := HO_at hO (by omega) z
        omega
    exact Or.inl ⟨k5, c, c, c1, hc, (he _ (by omega) (by omega)).trans c1, hc, rfl, c2⟩
  · exact Or.inr ⟨k5, he _ (by omega) (by omega)⟩
/-- the head of what was moved -/
theorem SwI_hd (hI : SwI H0 g l B h B' h' s H mv φ l') {v : Nat} (hm : mv v = true) : φ v ∈ l' ∧ B' + 4 ≤ φ v ∧ φ v < h' ∧ ∀ i, i < 4 → H (φ v + i) = H0 (v + i) := by
  obtain ⟨i1, i2, i3, i4, i5, i6, i7⟩ := hI
  have hl := (i3 v hm).2
  obtain ⟨q1, n, q2, q3⟩ := Til_mem l' _ i1 _ hl
  obtain ⟨u, k, u1, u2, u3, u4, u5, u6, u7⟩ := i6 _ hl
  have e : u = v := i7 u v u1 hm u2
  subst e
  exact ⟨hl, q1, by omega, u6⟩
theorem SWV_VR (hO : HO H0 g l (B + 4) h) (hh : h ≤ B + 870000) (hBB : (B = 0 ∧ B' = 870000) ∨ (B = 870000 ∧ B' = 0)) (hI : SwI H0 g l B h B' h' s H mv φ l') {m : Nat} {x : Int32} (hm : m < 3 ∨ g m) (hx : SWV mv φ m x) : ∃ m', x = nI m' ∧ m' < 1740000 ∧ (m' < 3 ∨ ∃ v, mv v = true ∧ φ v = m') ∧ VR H0 H m m' := by
  rcases hx with ⟨x1, x2⟩ | ⟨x1, x2⟩
  · exact ⟨m, x2, by omega, Or.inl x1, Or.inl ⟨x1, rfl⟩⟩
  · obtain ⟨q1, q2, q3, q4⟩ := SwI_hd hI x1
    have gm := (hI.2.2.1 m x1).1
    obtain ⟨_, n, _, _, p1, p2, p3⟩ := HO_at hO (by omega) gm
    have hr : h' + rmS H0 mv l ≤ B' + (h - B) := hI.2.1
    exact ⟨φ m, x2, by omega, Or.inr ⟨m, x1, rfl⟩, Or.inr ⟨by omega, by omega, q4⟩⟩
theorem SwI_HO (hO : HO H0 g l (B + 4) h) (hh : h ≤ B + 870000) (hBB : (B = 0 ∧ B' = 870000) ∨ (B = 870000 ∧ B' = 0)) (hI : SwI H0 g l B h B' h' h' H mv φ l') : HO H (fun w => ∃ v, mv v = true ∧ φ v = w) l' (B' + 4) h' := by
  have hgb : ∀ m, m < 3 ∨ g m → m < 1740000 := fun m z => by
    rcases z with z | z
    · omega
    · obtain ⟨_, _, _, _, _, _, y⟩ := HO_at hO (by omega) z
      omega
  refine ⟨hI.1, fun w hw => ?_⟩
  obtain ⟨v, v1, v2⟩ := hw
  subst v2
  have hg := (hI.2.2.1 v v1).1
  obtain ⟨k, n, s0, t0, q1, q2, q3⟩ := HO_at hO (by omega) hg
  obtain ⟨c1, c2, c3, c4, c5, c6, c7, c8, c9, c10, c11, c12⟩ := q1
  obtain ⟨w1, w2, w3, w4⟩ := SwI_at hI v1 c2 c8
  have cell : ∀ i, i < n → SwC H0 mv φ v i (H (φ v + 4 + i)) := fun i hi => by
    rcases w4 i hi with z | z
    · omega
    · exact z.2
  have plain : k < 5 → ∀ i, i < n → H (φ v + 4 + i) = H0 (v + 4 + i) := fun hk i hi => by
    rcases cell i hi with z | z
    · exfalso
      rcases z.1 with y | y
      · have := (n_eq (p := k) (q := 5) (by omega) (by decide)).mp (c1.symm.trans y)
        omega
      · have := (n_eq (p := k) (q := 6) (by omega) (by decide)).mp (c1.symm.trans y)
        omega
    · exact z.2
  refine ⟨w1, k, n, s0, t0, (w3 0 (by omega)).trans c1, (w3 1 (by omega)).trans c2, (w3 2 (by omega)).trans c3, (w3 3 (by omega)).trans c4, c5, c6, c7, c8, fun e => ?_, fun e => ?_, c11, fun e => ?_⟩
  · obtain ⟨d1, d2, d3, d4⟩ := c9 e
    refine ⟨d1, d2, d3, fun i hi => ?_, ?_⟩
    · obtain ⟨d, y1, y2⟩ := d4.1 i hi
      refine ⟨d, y1, ?_⟩
      rw [show φ v + 5 + i = φ v + 4 + (i + 1) by omega, plain (by omega) (i + 1) (by omega), show v + 4 + (i + 1) = v + 5 + i by omega]
      exact y2
    · unfold SgOK
      have := plain (by omega) 0 (by omega)
      rw [show φ v + 4 = φ v + 4 + 0 from rfl, this]; exact d4.2
  · obtain ⟨d1, d2, a, d3, d4⟩ := c10 e
    refine ⟨d1, d2, a, d3, ?_⟩
    have := plain (by omega) 0 (by omega)
    rw [show φ v + 4 = φ v + 4 + 0 from rfl, this]; exact d4
  · obtain ⟨d1, d2⟩ := c12 e
    -- each member
    have mem : ∀ i, i < n → ∃ m m', H0 (v + 4 + i) = nI m ∧ m < 2147483648 ∧ htN H0 m < t0 ∧ H (φ v + 4 + i) = nI m' ∧ m' < 1740000 ∧ (m' < 3 ∨ ∃ v, mv v = true ∧ φ v = m') ∧ VR H0 H m m' := fun i hi => by
      obtain ⟨m, m1, m2, m3⟩ := d2 i hi
      have hmb : m < 2147483648 := Nat.lt_trans (hgb m m2) (by decide)
      rcases cell i hi with z | z
      · obtain ⟨u, u1, u2⟩ := z.2
        have hub : u < 2147483648 := Nat.lt_trans (hgb u (u2.imp (fun z => z.1) (fun z => (hI.2.2.1 u z.1).1))) (by decide)
        have e : u = m := (n_eq hub hmb).mp (u1.symm.trans m1)
        subst e
        obtain ⟨m', y1, y2, y3, y4⟩ := SWV_VR hO hh hBB hI m2 u2
        exact ⟨u, m', m1, hmb, m3, y1, y2, y3, y4⟩
      · exfalso
        refine z.1 ?_
        have : k = 5 ∨ k = 6 := by omega
        rcases this with y | y
        · exact Or.inl (by rw [← y]; exact c1)
        · exact Or.inr (by rw [← y]; exact c1)
    have hs : ∀ j, j ≤ n → smS H (φ v) j = smS H0 v j := by
      intro j
      induction j with
      | zero => intro _; rfl
      | succ j ih =>
        intro hj
        obtain ⟨m, m', m1, m2, m3, m4, m5, m6, m7⟩ := mem j (by omega)
        show smS H (φ v) j + szN H (H (φ v + 4 + j)).toNatClampNeg = smS H0 v j + szN H0 (H0 (v + 4 + j)).toNatClampNeg
        rw [ih (by omega), m1, m4, n_cl m2, n_cl (p := m') (by omega), (VR_sz m7).1]
    refine ⟨by rw [hs n (Nat.le_refl _)]; exact d1, fun i hi => ?_⟩
    obtain ⟨m, m', m1, m2, m3, m4, m5, m6, m7⟩ := mem i hi
    exact ⟨m', m4, m6, by rw [(VR_sz m7).2.1]; exact m3⟩
/-- what a sweep has moved holds the same -/
theorem SwI_bis (hO : HO H0 g l (B + 4) h) (hh : h ≤ B + 870000) (hBB : (B = 0 ∧ B' = 870000) ∨ (B = 870000 ∧ B' = 0)) (hI : SwI H0 g l B h B' h' h' H mv φ l') : Bis (fun a b => (a < 3 ∧ b = a) ∨ (mv a = true ∧ b = φ a)) H0 H := by
  have hb : h' ≤ B' + 870000 := by
    have hr : h' + rmS H0 mv l ≤ B' + (h - B) := hI.2.1
    omega
  have hgb : ∀ m, mv m = true → m < 1740000 ∧ φ m < 1740000 := fun m z => by
    have gm := (hI.2.2.1 m z).1
    obtain ⟨_, _, _, _, _, _, y⟩ := HO_at hO (by omega) gm
    obtain ⟨q1, q2, q3, q4⟩ := SwI_hd hI z
    omega
  intro x y hxy
  rcases hxy with z | ⟨hx, hy⟩
  · exact Or.inl z
  · subst hy
    obtain ⟨q1, q2, q3, q4⟩ := SwI_hd hI hx
    have gx := (hI.2.2.1 x hx).1
    obtain ⟨_, _, _, _, _, p2, _⟩ := HO_at hO (by omega) gx
    refine Or.inr ⟨by omega, by omega, q4, fun n hn hn2 i hi => ?_⟩
    have hc := (SwI_at hI hx hn hn2).2.2.2 i hi
    have hlt := (SwI_at hI hx hn hn2).2.1
    rcases hc with z | ⟨_, z⟩
    · omega
    · rcases z with ⟨k, m, m1, m2⟩ | z
      · rcases m2 with ⟨m3, m4⟩ | ⟨m3, m4⟩
        · exact Or.inl ⟨k, m, m, m1, by omega, m4, by omega, Or.inl ⟨m3, rfl⟩⟩
        · have := hgb m m3
          exact Or.inl ⟨k, m, φ m, m1, this.1, m4, this.2, Or.inr ⟨m3, rfl⟩⟩
      · exact Or.inr z
end SWH
end JnS141
section JnS142
/-! The sweep: all roots (reference; made by swp.py). -/
/-- the places of a state that hold values -/
def StI (A : Nat → Int32) (b i : Nat) : Prop := (b + 4 ≤ i ∧ i < b + 64) ∨ (b + 214 ≤ i ∧ i < b + 214 + 60 * (A (b + 1)).toNatClampNeg) ∨ (b + 5314 ≤ i ∧ i < b + 5314 + (A (b + 3)).toNatClampNeg)
def StB (A : Nat → Int32) (b : Nat) : Prop := ∃ c n, A (b + 1) = nI c ∧ c ≤ 50 ∧ A (b + 3) = nI n ∧ n ≤ 3100
/-- midway among the roots: those of D are done -/
def SwM (H0 : Nat → Int32) (g : Nat → Prop) (l : List Nat) (B h B' : Nat) (σ : MS) (D : Nat → Nat → Prop) (υ : MS) : Prop :=
  ∃ h' mv φ l', SWS H0 g l B h B' (B' + 4) υ h' mv φ l' ∧ (∀ a i, D a i → a ≠ 28 ∧ ∃ m, σ.2.2 a i = nI m ∧ (m < 3 ∨ g m) ∧ SWV mv φ m (υ.2.2 a i)) ∧ (∀ a i, a ≠ 28 → ¬ D a i → υ.2.2 a i = σ.2.2 a i) ∧ (∀ j, j ≠ 54 → j ≠ 55 → υ.1 j = σ.1 j) ∧ υ.1 54 = nI B'
section SWM
variable {H0 : Nat → Int32} {g : Nat → Prop} {l : List Nat} {B h B' : Nat} {σ υ : MS} {D : Nat → Nat → Prop}
theorem SwM_iff {D2 : Nat → Nat → Prop} (hM : SwM H0 g l B h B' σ D υ) (hi : ∀ a i, D a i ↔ D2 a i) : SwM H0 g l B h B' σ D2 υ := by
  obtain ⟨h', mv, φ, l', m1, m2, m3, m4, m5⟩ := hM
  exact ⟨h', mv, φ, l', m1, fun a i z => m2 a i ((hi a i).mpr z), fun a i z y => m3 a i z (fun w => y ((hi a i).mp w)), m4, m5⟩
theorem SwM_ob {x : Nat → Option (Int32 × MS)} {a f c : Nat} (hM : SwM H0 g l B h B' σ D υ) (ha : a ≠ 28) (hD : ∀ i, f ≤ i → i < f + c → ¬ D a i) (hV : ∀ i, f ≤ i → i < f + c → Vd g (σ.2.2 a i)) (hx : ∀ h' mv φ l', SWS H0 g l B h B' (B' + 4) υ h' mv φ l' → (∀ i, i < c → ∃ m, υ.2.2 a (f + i) = nI m ∧ (m < 3 ∨ g m)) → Tm x (fun r => RwO H0 g l B h B' (B' + 4) a f c υ h' mv φ r.2)) : Tm x (fun r => SwM H0 g l B h B' σ (fun b i => D b i ∨ (b = a ∧ f ≤ i ∧ i < f + c)) r.2) := by
  obtain ⟨h', mv, φ, l', m1, m2, m3, m4, m5⟩ := hM
  refine Tm_mono (hx h' mv φ l' m1 (fun i hi => ?_)) (fun r hr => ?_)
  · rw [m3 a (f + i) ha (hD _ (by omega) (by omega))]
    exact hV _ (by omega) (by omega)
  · obtain ⟨h2, mv2, φ2, l2, r1, r2, r3, r4, r5, r6, r7⟩ := hr
    refine ⟨h2, mv2, φ2, l2, r1, fun b i hb => ?_, fun b i hb hn => ?_, fun j q1 q2 => (r6 j q2).trans (m4 j q1 q2), (r6 54 (by decide)).trans m5⟩
    · by_cases e : b = a ∧ f ≤ i ∧ i < f + c
      · obtain ⟨e1, e2, e3⟩ := e
        subst e1
        obtain ⟨m, k1, k2, k3⟩ := r4 (i - f) (by omega)
        rw [show f + (i - f) = i by omega] at k1 k3
        exact ⟨ha, m, (m3 b i ha (hD i e2 e3)).symm.trans k1, k2, k3⟩
      · obtain ⟨h28, m, k1, k2, k3⟩ := m2 b i (hb.resolve_right e)
        refine ⟨h28, m, k1, k2, ?_⟩
        by_cases ea : b = a
        · subst ea
          rw [r5 i (fun z => e ⟨rfl, z⟩)]; exact SWV_mo r3 k3
        · rw [r7 b h28 ea]; exact SWV_mo r3 k3
    · by_cases ea : b = a
      · subst ea
        rw [r5 i (fun z => hn (Or.inr ⟨rfl, z⟩))]
        exact m3 b i hb (fun z => hn (Or.inl z))
      · rw [r7 b hb ea]
        exact m3 b i hb (fun z => hn (Or.inl z))
theorem s_cpS30 {b : Nat} (hb : b + 11514 ≤ 11514) (hM : SwM H0 g l B h B' σ D υ) (hD : ∀ i, b ≤ i → i < b + 11514 → ¬ D 30 i) (hB : StB (σ.2.2 30) b) (hV : ∀ i, StI (σ.2.2 30) b i → Vd g (σ.2.2 30 i)) {L : Nat → Int32} (h2 : L 2 = nI b) : Tm (fun k => x_copyState__30 k 0 L υ) (fun r => SwM H0 g l B h B' σ (fun a i => D a i ∨ (a = 30 ∧ StI (σ.2.2 30) b i)) r.2) := by
  obtain ⟨c, n, c1, c2, n1, n2⟩ := hB
  have hSt : ∀ i, StI (σ.2.2 30) b i ↔ (b + 4 ≤ i ∧ i < b + 64) ∨ (b + 214 ≤ i ∧ i < b + 214 + 60 * c) ∨ (b + 5314 ≤ i ∧ i < b + 5314 + n) := fun i => by
    unfold StI
    rw [c1, n1, n_cl (p := c) (by omega), n_cl (p := n) (by omega)]
  refine Tm_suc (fun k => by rw [x_copyState__30]) ?_
  rw [h2, show nI b + 4 = nI (b + 4) from n_add (q := 4) (by omega), show nI b + 1 = nI (b + 1) from n_add1 b, show nI b + 214 = nI (b + 214) from n_add (q := 214) (by omega), show nI b + 3 = nI (b + 3) from n_add (q := 3) (by omega), show nI b + 5314 = nI (b + 5314) from n_add (q := 5314) (by omega)]
  refine Tm_ob (SwM_ob (a := 30) (f := b + 4) (c := 60) hM (by decide) (fun i q1 q2 => hD i (by omega) (by omega)) (fun i q1 q2 => hV i ((hSt i).mpr (by omega))) (fun h' mv φ l' hS hv => s_cpR30 hS (by omega) hv rfl rfl)) (fun r1 m1 => ?_)
  have e1 : r1.2.2.2 30 (b + 1) = nI c := by
    obtain ⟨_, _, _, _, _, _, m3, _⟩ := m1
    rw [m3 30 (b + 1) (by decide) (fun z => z.elim (hD _ (by omega) (by omega)) (fun z => by omega))]
    exact c1
  refine Tm_chk (n_in (by omega) (by omega)) ?_
  rw [n_cl (p := b + 1) (by omega), e1, show (60 : Int32) * nI c = nI (60 * c) from n_mulN 60 c]
  refine Tm_ob (SwM_ob (a := 30) (f := b + 214) (c := 60 * c) m1 (by decide) (fun i q1 q2 z => z.elim (hD i (by omega) (by omega)) (fun z => by omega)) (fun i q1 q2 => hV i ((hSt i).mpr (by omega))) (fun h' mv φ l' hS hv => s_cpR30 hS (by omega) hv rfl rfl)) (fun r2 m2 => ?_)
  have e2 : r2.2.2.2 30 (b + 3) = nI n := by
    obtain ⟨_, _, _, _, _, _, m3, _⟩ := m2
    rw [m3 30 (b + 3) (by decide) (fun z => z.elim (fun z => z.elim (hD _ (by omega) (by omega)) (fun z => by omega)) (fun z => by omega))]
    exact n1
  refine Tm_chk (n_in (by omega) (by omega)) ?_
  rw [n_cl (p := b + 3) (by omega), e2]
  refine Tm_ob (SwM_ob (a := 30) (f := b + 5314) (c := n) m2 (by decide) (fun i q1 q2 z => z.elim (fun z => z.elim (hD i (by omega) (by omega)) (fun z => by omega)) (fun z => by omega)) (fun i q1 q2 => hV i ((hSt i).mpr (by omega))) (fun h' mv φ l' hS hv => s_cpR30 hS (by omega) hv rfl rfl)) (fun r3 m3 => ?_)
  refine Tm_some (SwM_iff m3 (fun a i => ?_))
  rw [hSt i]
  constructor
  · rintro (((z | z) | z) | z)
    · exact Or.inl z
    · exact Or.inr ⟨z.1, Or.inl z.2⟩
    · exact Or.inr ⟨z.1, Or.inr (Or.inl z.2)⟩
    · exact Or.inr ⟨z.1, Or.inr (Or.inr z.2)⟩
  · rintro (z | ⟨z, (y | y | y)⟩)
    · exact Or.inl (Or.inl (Or.inl z))
    · exact Or.inl (Or.inl (Or.inr ⟨z, y⟩))
    · exact Or.inl (Or.inr ⟨z, y⟩)
    · exact Or.inr ⟨z, y⟩
theorem s_cpS31 {b : Nat} (hb : b + 11514 ≤ 230280) (hM : SwM H0 g l B h B' σ D υ) (hD : ∀ i, b ≤ i → i < b + 11514 → ¬ D 31 i) (hB : StB (σ.2.2 31) b) (hV : ∀ i, StI (σ.2.2 31) b i → Vd g (σ.2.2 31 i)) {L : Nat → Int32} (h2 : L 2 = nI b) : Tm (fun k => x_copyState__31 k 0 L υ) (fun r => SwM H0 g l B h B' σ (fun a i => D a i ∨ (a = 31 ∧ StI (σ.2.2 31) b i)) r.2) := by
  obtain ⟨c, n, c1, c2, n1, n2⟩ := hB
  have hSt : ∀ i, StI (σ.2.2 31) b i ↔ (b + 4 ≤ i ∧ i < b + 64) ∨ (b + 214 ≤ i ∧ i < b + 214 + 60 * c) ∨ (b + 5314 ≤ i ∧ i < b + 5314 + n) := fun i => by
    unfold StI
    rw [c1, n1, n_cl (p := c) (by omega), n_cl (p := n) (by omega)]
  refine Tm_suc (fun k => by rw [x_copyState__31]) ?_
  rw [h2, show nI b + 4 = nI (b + 4) from n_add (q := 4) (by omega), show nI b + 1 = nI (b + 1) from n_add1 b, show nI b + 214 = nI (b + 214) from n_add (q := 214) (by omega), show nI b + 3 = nI (b + 3) from n_add (q := 3) (by omega), show nI b + 5314 = nI (b + 5314) from n_add (q := 5314) (by omega)]
  refine Tm_ob (SwM_ob (a := 31) (f := b + 4) (c := 60) hM (by decide) (fun i q1 q2 => hD i (by omega) (by omega)) (fun i q1 q2 => hV i ((hSt i).mpr (by omega))) (fun h' mv φ l' hS hv => s_cpR31 hS (by omega) hv rfl rfl)) (fun r1 m1 => ?_)
  have e1 : r1.2.2.2 31 (b + 1) = nI c := by
    obtain ⟨_, _, _, _, _, _, m3, _⟩ := m1
    rw [m3 31 (b + 1) (by decide) (fun z => z.elim (hD _ (by omega) (by omega)) (fun z => by omega))]
    exact c1
  refine Tm_chk (n_in (by omega) (by omega)) ?_
  rw [n_cl (p := b + 1) (by omega), e1, show (60 : Int32) * nI c = nI (60 * c) from n_mulN 60 c]
  refine Tm_ob (SwM_ob (a := 31) (f := b + 214) (c := 60 * c) m1 (by decide) (fun i q1 q2 z => z.elim (hD i (by omega) (by omega)) (fun z => by omega)) (fun i q1 q2 => hV i ((hSt i).mpr (by omega))) (fun h' mv φ l' hS hv => s_cpR31 hS (by omega) hv rfl rfl)) (fun r2 m2 => ?_)
  have e2 : r2.2.2.2 31 (b + 3) = nI n := by
    obtain ⟨_, _, _, _, _, _, m3, _⟩ := m2
    rw [m3 31 (b + 3) (by decide) (fun z => z.elim (fun z => z.elim (hD _ (by omega) (by omega)) (fun z => by omega)) (fun z => by omega))]
    exact n1
  refine Tm_chk (n_in (by omega) (by omega)) ?_
  rw [n_cl (p := b + 3) (by omega), e2]
  refine Tm_ob (SwM_ob (a := 31) (f := b + 5314) (c := n) m2 (by decide) (fun i q1 q2 z => z.elim (fun z => z.elim (hD i (by omega) (by omega)) (fun z => by omega)) (fun z => by omega)) (fun i q1 q2 => hV i ((hSt i).mpr (by omega))) (fun h' mv φ l' hS hv => s_cpR31 hS (by omega) hv rfl rfl)) (fun r3 m3 => ?_)
  refine Tm_some (SwM_iff m3 (fun a i => ?_))
  rw [hSt i]
  constructor
  · rintro (((z | z) | z) | z)
    · exact Or.inl z
    · exact Or.inr ⟨z.1, Or.inl z.2⟩
    · exact Or.inr ⟨z.1, Or.inr (Or.inl z.2)⟩
    · exact Or.inr ⟨z.1, Or.inr (Or.inr z.2)⟩
  · rintro (z | ⟨z, (y | y | y)⟩)
    · exact Or.inl (Or.inl (Or.inl z))
    · exact Or.inl (Or.inl (Or.inr ⟨z, y⟩))
    · exact Or.inl (Or.inr ⟨z, y⟩)
    · exact Or.inr ⟨z, y⟩
/-- all points -/
theorem s_swp6 {P : Nat} (hP : P ≤ 20) (hD : ∀ i, ¬ D 31 i) (hB : ∀ p, p < P → StB (σ.2.2 31) (11514 * p)) (hV : ∀ p, p < P → ∀ i, StI (σ.2.2 31) (11514 * p) i → Vd g (σ.2.2 31 i)) (h63 : σ.1 63 = nI P) {Q : Int32 × MS → Prop} (hQ : ∀ (L : Nat → Int32) (τ : MS), SwM H0 g l B h B' σ (fun a i => D a i ∨ (a = 31 ∧ ∃ p, p < P ∧ StI (σ.2.2 31) (11514 * p) i)) τ → Tm (fun k => x_sweep k 7 L τ) Q) : ∀ (q p : Nat) (L : Nat → Int32) (υ : MS), q + p = P → L 2 = nI p → SwM H0 g l B h B' σ (fun a i => D a i ∨ (a = 31 ∧ ∃ p', p' < p ∧ StI (σ.2.2 31) (11514 * p') i)) υ → Tm (fun k => x_sweep k 6 L υ) Q := by
  have e63 : ∀ (D2 : Nat → Nat → Prop) (τ : MS), SwM H0 g l B h B' σ D2 τ → τ.1 63 = nI P := fun D2 τ hM => by
    obtain ⟨_, _, _, _, _, _, _, m4, _⟩ := hM
    exact (m4 63 (by decide) (by decide)).trans h63
  intro q
  induction q with
  | zero =>
    intro p L υ hp l2 hM
    have e : p = P := by omega
    subst e
    refine Tm_suc (fun k => by rw [x_sweep]) ?_
    rw [e63 _ _ hM, l2]
    refine Tm_ite (fun _ => hQ _ _ hM) (fun w => absurd ((n_le (by omega) (by omega)).mpr (Nat.le_refl _)) w)
  | succ q ih =>
    intro p L υ hp l2 hM
    refine Tm_suc (fun k => by rw [x_sweep]) ?_
    rw [e63 _ _ hM, l2, show (11514 : Int32) * nI p = nI (11514 * p) from n_mulN 11514 p]
    refine Tm_ite (fun w => absurd ((n_le (by omega) (by omega)).mp w) (by omega)) (fun _ => ?_)
    refine Tm_ob (s_cpS31 (b := 11514 * p) (by omega) hM (fun i q1 q2 z => ?_) (hB p (by omega)) (hV p (by omega)) rfl) (fun r hr => ?_)
    · rcases z with z | ⟨_, p', y1, y2⟩
      · exact hD i z
      · obtain ⟨c, n, c1, c2, n1, n2⟩ := hB p' (by omega)
        unfold StI at y2
        rw [c1, n1, n_cl (p := c) (by omega), n_cl (p := n) (by omega)] at y2
        have : 11514 * p' + 11514 ≤ 11514 * p := by omega
        omega
    · refine ih (p + 1) _ _ (by omega) (by rw [upd_same, n_add1]) (SwM_iff hr (fun a i => ?_))
      constructor
      · rintro ((z | ⟨z, p', y1, y2⟩) | ⟨z, y⟩)
        · exact Or.inl z
        · exact Or.inr ⟨z, p', by omega, y2⟩
        · exact Or.inr ⟨z, p, by omega, y⟩
      · rintro (z | ⟨z, p', y1, y2⟩)
        · exact Or.inl (Or.inl z)
        · by_cases e : p' = p
          · subst e; exact Or.inr ⟨z, y2⟩
          · exact Or.inl (Or.inr ⟨z, p', by omega, y2⟩)
end SWM
end JnS142
section JnS143
/-! The sweep itself (reference). -/
/-- where values lie -/
def RtP (t : Nat) (σ : MS) (a i : Nat) : Prop :=
  (a = 29 ∧ i < t) ∨ (a = 30 ∧ StI (σ.2.2 30) 0 i) ∨ (a = 31 ∧ ∃ p, p < (σ.1 63).toNatClampNeg ∧ StI (σ.2.2 31) (11514 * p) i) ∨ (a = 33 ∧ i < 1380) ∨ (a = 34 ∧ i < (σ.1 72).toNatClampNeg) ∨ (a = 36 ∧ i < 8) ∨ (a = 37 ∧ i < 8) ∨ (a = 38 ∧ i < 8) ∨ (a = 40 ∧ i < 2)
def RtI (σ : MS) (a i : Nat) : Prop := RtP (σ.1 59).toNatClampNeg σ a i
def RtB (σ : MS) : Prop := ∃ t P e, σ.1 59 = nI t ∧ t ≤ 185000 ∧ σ.1 63 = nI P ∧ P ≤ 20 ∧ σ.1 72 = nI e ∧ e ≤ 4000 ∧ StB (σ.2.2 30) 0 ∧ ∀ p, p < P → StB (σ.2.2 31) (11514 * p)
def RtV (g : Nat → Prop) (σ : MS) : Prop := ∀ a i, RtI σ a i → Vd g (σ.2.2 a i)
/-- cells of the objects of a set -/
noncomputable def lvs (H : Nat → Int32) (S : Nat → Prop) : List Nat → Nat
  | [] => 0
  | v :: l => @ite Nat (S v) (Classical.propDecidable (S v)) (4 + (H (v + 1)).toNatClampNeg) 0 + lvs H S l
/-- what a sweep leaves -/
def SwO (g : Nat → Prop) (l : List Nat) (σ ρ : MS) : Prop := ∃ g' l' B' h', HS g' l' B' h' ρ ∧ h' ≤ B' + 4 + lvs (σ.2.2 28) g l ∧ (∀ a i, RtI σ a i → VC g g' (σ.2.2 28) (ρ.2.2 28) (σ.2.2 a i) (ρ.2.2 a i)) ∧ (∀ a i, a ≠ 28 → ¬ RtI σ a i → ρ.2.2 a i = σ.2.2 a i) ∧ (∀ j, j ≠ 54 → j ≠ 55 → ρ.1 j = σ.1 j)
section SWE
variable {g : Nat → Prop} {l : List Nat} {B h : Nat} {σ : MS}
theorem Vd_VC (hS : HS g l B h σ) {x : Int32} (hx : Vd g x) : VC g g (σ.2.2 28) (σ.2.2 28) x x := by
  obtain ⟨m, m1, m2⟩ := hx
  have := HS_vb hS m2
  exact ⟨m, m, m1, m2, m1, m2, EVb_gr hS.2.2.2.2 (HS_b hS).2 (fun _ _ _ => rfl) m2, this, this⟩
theorem lvs_mo {H : Nat → Int32} {S T : Nat → Prop} (h : ∀ v, S v → T v) : ∀ l : List Nat, lvs H S l ≤ lvs H T l
  | [] => Nat.le_refl _
  | v :: l => by
    have ih := lvs_mo (H := H) h l
    unfold lvs
    by_cases a : S v
    · rw [if_pos a, if_pos (h v a)]; omega
    · rw [if_neg a]; omega
theorem lvs_rm {H : Nat → Int32} {mv : Nat → Bool} : ∀ l : List Nat, rmS H mv l + lvs H (fun v => mv v = true) l = rmS H (fun _ => false) l
  | [] => rfl
  | v :: l => by
    have ih := lvs_rm (H := H) (mv := mv) l
    have e1 : rmS H mv (v :: l) = (if mv v then 0 else 4 + (H (v + 1)).toNatClampNeg) + rmS H mv l := rfl
    have e2 : rmS H (fun _ => false) (v :: l) = (4 + (H (v + 1)).toNatClampNeg) + rmS H (fun _ => false) l := rfl
    unfold lvs
    rw [e1, e2]
    by_cases a : mv v = true
    · rw [if_pos a, if_pos a]; omega
    · rw [if_neg a, if_neg a]; omega
theorem s_swp8 {B' : Nat} {υ : MS} {L : Nat → Int32} (h54 : B = 0 ∨ B = 870000) (hM : SwM (σ.2.2 28) g l B h B' σ (RtI σ) υ) (hL : L 2 = nI (B' + 4)) : Tm (fun k => x_sweep k 8 L υ) (fun r => SwO g l σ r.2) := by
  obtain ⟨h', mv, φ, l', m1, m2, m3, m4, m5⟩ := hM
  have hbd : B' + 4 ∈ l' ∨ B' + 4 = h' := by
    have hT : Til (υ.2.2 28) h' (B' + 4) l' := m1.2.2.2.2.2.1
    cases l' with
    | nil => exact Or.inr hT
    | cons x l' => exact Or.inl (by rw [← hT.1]; exact List.mem_cons_self)
  refine Tm_mono (s_scan 1740000 (B' + 4) L υ h' mv φ l' (by have := m1.2.2.1; omega) hL m1 hbd) (fun r hr => ?_)
  obtain ⟨s2, ⟨h2, mv2, φ2, l2, b1, b2, b3, b4, b5⟩, b6⟩ := hr
  have hb := SWS_b b1
  have hBB := b1.2.2.1
  have e : s2 = h2 := (n_eq (by have := b1.2.2.2.1; omega) (by omega)).mp (b6.symm.trans b1.2.2.2.2.1)
  subst e
  have hI := b1.2.2.2.2.2
  refine ⟨fun w => ∃ v, mv2 v = true ∧ φ2 v = w, l2, B', s2, ⟨(b4 54 (by decide)).trans m5, by omega, b6, hb.2.1, SwI_HO b1.1 b1.2.1 hBB hI⟩, ?_, fun a i hR => ?_, fun a i h28 hR => ?_, fun j q1 q2 => (b4 j q2).trans (m4 j q1 q2)⟩
  · have hr := rmS_all (b := h) (by have := b1.2.1; omega) l _ b1.1.1
    have hm := lvs_rm (H := σ.2.2 28) (mv := mv2) l
    have hg := lvs_mo (H := σ.2.2 28) (fun v z => (hI.2.2.1 v z).1) l
    have hq := hb.2.2
    have hle := Til_le _ _ b1.1.1
    omega
  · obtain ⟨h28, m, k1, k2, k3⟩ := m2 a i hR
    obtain ⟨m', y1, y2, y3, y4⟩ := SWV_VR b1.1 b1.2.1 hBB hI k2 (SWV_mo b3 k3)
    rw [← b5 a h28] at y1
    have hev : EVb (σ.2.2 28) (r.2.2.2 28) m m' := by
      refine ⟨_, SwI_bis b1.1 b1.2.1 hBB hI, ?_⟩
      have hlt : ∀ v, mv2 v = true → φ2 v < 1740000 := fun v z => by
        have := (SwI_hd hI z).2.2.1
        omega
      rcases SWV_mo b3 k3 with ⟨z1, z2⟩ | ⟨z1, z2⟩
      · exact Or.inl ⟨z1, (n_eq (by omega) (by omega)).mp (y1.symm.trans ((congrFun (b5 a h28) i).trans z2))⟩
      · exact Or.inr ⟨z1, (n_eq (by omega) (by have := hlt m z1; omega)).mp (y1.symm.trans ((congrFun (b5 a h28) i).trans z2))⟩
    refine ⟨m, m', k1, k2, y1, y3, hev, ?_, y2⟩
    rcases k2 with z | z
    · omega
    · obtain ⟨_, n, _, _, _, _, q⟩ := HO_at b1.1 (by have := b1.2.1; omega) z
      have := b1.2.1
      omega
  · rw [b5 a h28]; exact m3 a i h28 hR
theorem s_sweep {T : Nat} (hS : HS g l B h σ) (hB : RtB σ) (hV : RtV g σ) {L : Nat → Int32} (hL : L 1 = nI T) (hT : T ≤ 870000) : Tm (fun k => x_sweep k 0 L σ) (fun r => (h < B + T ∧ r.2 = σ) ∨ SwO g l σ r.2) := by
  obtain ⟨t, P, e, t1, t2, p1, p2, e1, e2, s30, s31⟩ := hB
  have hRt : ∀ a i, RtI σ a i ↔ (a = 29 ∧ i < t) ∨ (a = 30 ∧ StI (σ.2.2 30) 0 i) ∨ (a = 31 ∧ ∃ p, p < P ∧ StI (σ.2.2 31) (11514 * p) i) ∨ (a = 33 ∧ i < 1380) ∨ (a = 34 ∧ i < e) ∨ (a = 36 ∧ i < 8) ∨ (a = 37 ∧ i < 8) ∨ (a = 38 ∧ i < 8) ∨ (a = 40 ∧ i < 2) := fun a i => by
    unfold RtI RtP
    rw [t1, p1, e1, n_cl (p := t) (by omega), n_cl (p := P) (by omega), n_cl (p := e) (by omega)]
  have hV2 := fun a i z => hV a i ((hRt a i).mpr z)
  have main : ∀ (B' : Nat) (N : Nat → Int32), ((B = 0 ∧ B' = 870000) ∨ (B = 870000 ∧ B' = 0)) → N 100 = nI B' → Tm (fun k => x_sweep k 3 N σ) (fun r => SwO g l σ r.2) := by
    intro B' N hBB hN
    refine Tm_suc (fun k => by rw [x_sweep]) ?_
    rw [hN]
    show Tm (fun k => x_sweep k 4 N (mSc σ 54 (nI B'))) _
    refine Tm_suc (fun k => by rw [x_sweep]) ?_
    rw [show (mSc σ 54 (nI B')).1 54 + 4 = nI (B' + 4) from n_add (q := 4) (by omega)]
    show Tm (fun k => x_sweep k 5 N (mSc (mSc σ 54 (nI B')) 55 (nI (B' + 4)))) _
    have h0 : SwM (σ.2.2 28) g l B h B' σ (fun _ _ => False) (mSc (mSc σ 54 (nI B')) 55 (nI (B' + 4))) := by
      obtain ⟨c1, c2, c3, c4, c5⟩ := hS
      have hle := Til_le _ _ c5.1
      have hr := rmS_all (b := h) (by omega) l _ c5.1
      refine ⟨B' + 4, fun _ => false, fun _ => 0, [], ⟨c5, c4, hBB, Nat.le_refl _, rfl, ⟨rfl, by omega, fun v z => absurd z Bool.false_ne_true, fun v n _ _ _ _ i _ => rfl, fun v z => absurd z Bool.false_ne_true, fun w hw => absurd hw (List.not_mem_nil), fun u v z => absurd z Bool.false_ne_true⟩⟩, fun a i z => absurd z id, fun a i _ _ => rfl, fun j q1 q2 => (upd_other q2).trans (upd_other q1), rfl⟩
    have h59 : (mSc (mSc σ 54 (nI B')) 55 (nI (B' + 4))).1 59 = nI t := t1
    generalize mSc (mSc σ 54 (nI B')) 55 (nI (B' + 4)) = υ at h0 h59
    refine Tm_suc (fun k => by rw [x_sweep]) ?_
    rw [h59]
    refine Tm_ob (SwM_ob (a := 29) (f := 0) (c := t) h0 (by decide) (fun i q1 q2 z => z) (fun i q1 q2 => hV2 29 i (Or.inl ⟨rfl, by omega⟩)) (fun h' mv φ l' hS hv => s_cpR29 hS (by omega) hv rfl rfl)) (fun r1 m1 => ?_)
    refine Tm_ob (s_cpS30 (b := 0) (by omega) m1 (fun i q1 q2 z => z.elim id (fun z => by omega)) s30 (fun i hi => hV2 30 i (Or.inr (Or.inl ⟨rfl, hi⟩))) rfl) (fun r2 m2 => ?_)
    refine s_swp6 p2 (fun i z => z.elim (fun z => z.elim id (fun z => by omega)) (fun z => by omega)) s31 (fun p hp i hi => hV2 31 i (Or.inr (Or.inr (Or.inl ⟨rfl, p, hp, hi⟩)))) p1 ?_ P 0 _ _ (by omega) rfl (SwM_iff m2 (fun a i => ⟨Or.inl, fun z => z.elim id (fun z => by obtain ⟨_, p', y, _⟩ := z; omega)⟩))
    intro M τ m3
    have c72 : τ.1 72 = nI e := by
      obtain ⟨_, _, _, _, _, _, _, m4, _⟩ := m3
      exact (m4 72 (by decide) (by decide)).trans e1
    -- what is done so far, in short
    have m3 := SwM_iff (D2 := fun a i => (a < 33 ∧ RtI σ a i)) m3 (fun a i => by
      rw [hRt a i]
      constructor
      · rintro (((z | z) | z) | z)
        · exact absurd z id
        · exact ⟨by omega, Or.inl ⟨z.1, by omega⟩⟩
        · exact ⟨by omega, Or.inr (Or.inl z)⟩
        · exact ⟨by omega, Or.inr (Or.inr (Or.inl z))⟩
      · rintro ⟨z, (y | y | y | y)⟩
        · exact Or.inl (Or.inl (Or.inr ⟨y.1, by omega⟩))
        · exact Or.inl (Or.inr y)
        · exact Or.inr y
        · omega)
    refine Tm_suc (fun k => by rw [x_sweep]) ?_
    refine Tm_ob (SwM_ob (a := 33) (f := 0) (c := 1380) m3 (by decide) (fun i q1 q2 z => by omega) (fun i q1 q2 => hV2 33 i (by omega)) (fun h' mv φ l' hS hv => s_cpR33 hS (by omega) hv rfl rfl)) (fun r3 m4 => ?_)
    have d72 : r3.2.1 72 = nI e := by
      obtain ⟨_, _, _, _, _, _, _, k4, _⟩ := m4
      exact (k4 72 (by decide) (by decide)).trans e1
    rw [d72]
    refine Tm_ob (SwM_ob (a := 34) (f := 0) (c := e) m4 (by decide) (fun i q1 q2 z => by omega) (fun i q1 q2 => hV2 34 i (by omega)) (fun h' mv φ l' hS hv => s_cpR34 hS (by omega) hv rfl rfl)) (fun r4 m5 => ?_)
    refine Tm_ob (SwM_ob (a := 36) (f := 0) (c := 8) m5 (by decide) (fun i q1 q2 z => by omega) (fun i q1 q2 => hV2 36 i (by omega)) (fun h' mv φ l' hS hv => s_cpR36 hS (by omega) hv rfl rfl)) (fun r5 m6 => ?_)
    refine Tm_ob (SwM_ob (a := 37) (f := 0) (c := 8) m6 (by decide) (fun i q1 q2 z => by omega) (fun i q1 q2 => hV2 37 i (by omega)) (fun h' mv φ l' hS hv => s_cpR37 hS (by omega) hv rfl rfl)) (fun r6 m7 => ?_)
    refine Tm_ob (SwM_ob (a := 38) (f := 0) (c := 8) m7 (by decide) (fun i q1 q2 z => by omega) (fun i q1 q2 => hV2 38 i (by omega)) (fun h' mv φ l' hS hv => s_cpR38 hS (by omega) hv rfl rfl)) (fun r7 m8 => ?_)
    refine Tm_ob (SwM_ob (a := 40) (f := 0) (c := 2) m8 (by decide) (fun i q1 q2 z => by omega) (fun i q1 q2 => hV2 40 i (by omega)) (fun h' mv φ l' hS hv => s_cpR40 hS (by omega) hv rfl rfl)) (fun r8 m9 => ?_)
    have m9 := SwM_iff (D2 := RtI σ) m9 (fun a i => by
      constructor
      · rintro ((((((z | z) | z) | z) | z) | z) | z)
        · exact z.2
        all_goals (refine (hRt a i).mpr ?_; omega)
      · intro z
        by_cases y : a < 33
        · exact Or.inl (Or.inl (Or.inl (Or.inl (Or.inl (Or.inl ⟨y, z⟩)))))
        · have z := (hRt a i).mp z
          have : (a = 33 ∧ i < 1380) ∨ (a = 34 ∧ i < e) ∨ (a = 36 ∧ i < 8) ∨ (a = 37 ∧ i < 8) ∨ (a = 38 ∧ i < 8) ∨ (a = 40 ∧ i < 2) := by omega
          clear z
          rcases this with q | q | q | q | q | q
          · exact Or.inl (Or.inl (Or.inl (Or.inl (Or.inl (Or.inr ⟨q.1, by omega, by omega⟩)))))
          · exact Or.inl (Or.inl (Or.inl (Or.inl (Or.inr ⟨q.1, by omega, by omega⟩))))
          · exact Or.inl (Or.inl (Or.inl (Or.inr ⟨q.1, by omega, by omega⟩)))
          · exact Or.inl (Or.inl (Or.inr ⟨q.1, by omega, by omega⟩))
          · exact Or.inl (Or.inr ⟨q.1, by omega, by omega⟩)
          · exact Or.inr ⟨q.1, by omega, by omega⟩)
    have d54 : r8.2.1 54 = nI B' := by
      obtain ⟨_, _, _, _, _, _, _, _, k5⟩ := m9
      exact k5
    rw [d54, show nI B' + 4 = nI (B' + 4) from n_add (q := 4) (by omega)]
    exact s_swp8 hS.2.1 m9 rfl
  refine Tm_suc (fun k => by rw [x_sweep]) ?_
  have hb := HS_b hS
  have hB3 := hS.2.1
  have hh := hS.2.2.2.1
  rw [hL, hS.1, hS.2.2.1, n_sub (by omega) (by omega)]
  refine Tm_ite (fun _ => ?_) (fun w => Tm_some (Or.inl ⟨?_, rfl⟩))
  case refine_2 =>
    by_cases e : T ≤ h - B
    · exact absurd ((n_le (by omega) (by omega)).mpr e) w
    · omega
  refine Tm_suc (fun k => by rw [x_sweep]) ?_
  rw [hS.1]
  have hB2 := hS.2.1
  refine Tm_ite (fun z => ?_) (fun z => ?_)
  · have z := (n_eq0 (by omega)).mp z
    exact Tm_mono (main 870000 _ (Or.inl ⟨z, rfl⟩) rfl) (fun _ => Or.inr)
  · refine Tm_suc (fun k => by rw [x_sweep]) ?_
    refine Tm_mono (main 0 _ (Or.inr ⟨?_, rfl⟩) rfl) (fun _ => Or.inr)
    rcases hB2 with y | y
    · exact absurd (by rw [y]; rfl) z
    · exact y
end SWE
end JnS143
section JnS144
/-! How much of the heap lives (reference). -/
/-- what can be reached from a set of objects -/
def Rch (H : Nat → Int32) (S : Nat → Prop) (w : Nat) : Prop := ∀ P : Nat → Prop, (∀ v, S v → P v) → (∀ v n i m, P v → (H v = nI 5 ∨ H v = nI 6) → H (v + 1) = nI n → n ≤ 3996 → i < n → H (v + 4 + i) = nI m → 3 ≤ m → m < 1740000 → P m) → P w
theorem Rch_b {H : Nat → Int32} {S : Nat → Prop} {v : Nat} (h : S v) : Rch H S v := fun P a b => a v h
theorem Rch_s {H : Nat → Int32} {S : Nat → Prop} {v n i m : Nat} (h : Rch H S v) (k1 : H v = nI 5 ∨ H v = nI 6) (k2 : H (v + 1) = nI n) (k3 : n ≤ 3996) (k4 : i < n) (k5 : H (v + 4 + i) = nI m) (k6 : 3 ≤ m) (k7 : m < 1740000) : Rch H S m := fun P a b => b v n i m (h P a b) k1 k2 k3 k4 k5 k6 k7
/-- cells of the objects of a set, below N -/
noncomputable def lvN (H : Nat → Int32) (S : Nat → Prop) : Nat → Nat
  | 0 => 0
  | n + 1 => lvN H S n + @ite Nat (S n) (Classical.propDecidable (S n)) (4 + (H (n + 1)).toNatClampNeg) 0
/-- no more than X cells can be reached -/
def LVc (X : Nat) (H : Nat → Int32) (S : Nat → Prop) : Prop := ∀ N, lvN H (Rch H S) N ≤ X
section LVS
variable {H H' : Nat → Int32} {g : Nat → Prop} {l : List Nat} {a b : Nat} {S T : Nat → Prop}
theorem Rch_mo (h : ∀ v, S v → Rch H T v) {v : Nat} (hv : Rch H S v) : Rch H T v := by
  exact hv (Rch H T) h (fun v n i m ih k1 k2 k3 k4 k5 k6 k7 => Rch_s ih k1 k2 k3 k4 k5 k6 k7)
theorem Rch_good (hO : HO H g l a b) (hb : b ≤ 1740000) (hS : ∀ v, S v → g v) {v : Nat} (hv : Rch H S v) : g v := by
  refine hv g hS (fun v n i m ih k1 k2 k3 k4 k5 k6 k7 => ?_)
  obtain ⟨k, n0, s0, t0, q1, q2, q3⟩ := HO_at hO (by omega) ih
  have e : n0 = n := (n_eq (by have := q1.2.2.2.2.2.2.2.1; omega) (by omega)).mp (q1.2.1.symm.trans k2)
  subst e
  have k6' := q1.2.2.2.2.1
  have hk : 5 ≤ k := by
    rcases k1 with z | z
    · have := (n_eq (p := k) (q := 5) (by omega) (by decide)).mp (q1.1.symm.trans z)
      omega
    · have := (n_eq (p := k) (q := 6) (by omega) (by decide)).mp (q1.1.symm.trans z)
      omega
  obtain ⟨m', m1, m2, _⟩ := (q1.2.2.2.2.2.2.2.2.2.2.2 hk).2 i k4
  have hm' : m' < 2147483648 := by
    rcases m2 with m2 | m2
    · omega
    · obtain ⟨_, _, _, _, _, _, z⟩ := HO_at hO (by omega) m2
      omega
  have e : m' = m := (n_eq hm' (by omega)).mp (m1.symm.trans k5)
  subst e
  rcases m2 with m2 | m2
  · omega
  · exact m2
/-- what can be reached is a heap of its own -/
theorem HO_rch (hO : HO H g l a b) (hb : b ≤ 1740000) (hS : ∀ v, S v → g v) : HO H (Rch H S) l a b := by
  refine ⟨hO.1, fun v hv => ?_⟩
  have gv := Rch_good hO hb hS hv
  obtain ⟨h1, k, n, s, t, q⟩ := hO.2 v gv
  obtain ⟨c1, c2, c3, c4, c5, c6, c7, c8, c9, c10, c11, c12⟩ := q
  refine ⟨h1, k, n, s, t, c1, c2, c3, c4, c5, c6, c7, c8, c9, c10, c11, fun e => ⟨(c12 e).1, fun i hi => ?_⟩⟩
  obtain ⟨m, m1, m2, m3⟩ := (c12 e).2 i hi
  refine ⟨m, m1, ?_, m3⟩
  by_cases c : m < 3
  · exact Or.inl c
  · have gm := m2.resolve_left c
    obtain ⟨_, _, _, _, _, _, z⟩ := HO_at hO (by omega) gm
    refine Or.inr (Rch_s hv ?_ c2 c8 hi m1 (by omega) (by omega))
    have : k = 5 ∨ k = 6 := by omega
    rcases this with y | y
    · exact Or.inl (by rw [← y]; exact c1)
    · exact Or.inr (by rw [← y]; exact c1)
theorem lvN_le (h : ∀ v, S v → T v ∧ H (v + 1) = H' (v + 1)) : ∀ N, lvN H S N ≤ lvN H' T N
  | 0 => Nat.le_refl _
  | n + 1 => by
    have ih := lvN_le h n
    unfold lvN
    by_cases z : S n
    · rw [if_pos z, if_pos (h n z).1, (h n z).2]; omega
    · rw [if_neg z]; omega
theorem lvN_or : ∀ N, lvN H (fun v => S v ∨ T v) N ≤ lvN H S N + lvN H T N
  | 0 => Nat.le_refl _
  | n + 1 => by
    have ih := lvN_or n
    unfold lvN
    by_cases z : S n
    · rw [if_pos (Or.inl z), if_pos z]; omega
    · by_cases y : T n
      · rw [if_pos (Or.inr y), if_pos y]; omega
      · rw [if_neg (fun w => w.elim z y)]; omega
theorem lvN_no (h : ∀ v, ¬ S v) : ∀ N, lvN H S N = 0
  | 0 => rfl
  | n + 1 => by
    unfold lvN
    rw [lvN_no h n, if_neg (h n)]
theorem lvN_one {v : Nat} : ∀ N, lvN H (fun w => w = v) N ≤ 4 + (H (v + 1)).toNatClampNeg ∧ (N ≤ v → lvN H (fun w => w = v) N = 0)
  | 0 => ⟨Nat.zero_le _, fun _ => rfl⟩
  | n + 1 => by
    have ih := lvN_one (v := v) n
    unfold lvN
    by_cases z : n = v
    · subst z
      rw [if_pos rfl, ih.2 (Nat.le_refl _)]
      exact ⟨by omega, fun y => by omega⟩
    · rw [if_neg z]
      exact ⟨by have := ih.1; omega, fun y => by have := ih.2 (by omega); omega⟩
theorem lvN_ex {N : Nat} {P : Nat → Nat → Prop} {w : Nat → Nat} : ∀ n, (∀ i, i < n → lvN H (P i) N ≤ w i) → ∀ s : Nat → Nat, s 0 = 0 → (∀ i, i < n → s (i + 1) = s i + w i) → lvN H (fun v => ∃ i, i < n ∧ P i v) N ≤ s n
  | 0, _, s, h0, _ => by rw [lvN_no (fun v z => by obtain ⟨i, y, _⟩ := z; omega)]; exact Nat.zero_le _
  | n + 1, hP, s, h0, hs => by
    have ih := lvN_ex n (fun i hi => hP i (by omega)) s h0 (fun i hi => hs i (by omega))
    have h1 : lvN H (fun v => ∃ i, i < n + 1 ∧ P i v) N ≤ lvN H (fun v => (∃ i, i < n ∧ P i v) ∨ P n v) N := lvN_le (fun v z => ⟨by
      obtain ⟨i, y1, y2⟩ := z
      by_cases e : i = n
      · subst e; exact Or.inr y2
      · exact Or.inl ⟨i, by omega, y2⟩, rfl⟩) N
    have h2 := lvN_or (H := H) (S := fun v => ∃ i, i < n ∧ P i v) (T := P n) N
    have h3 := hP n (by omega)
    have h4 := hs n (by omega)
    omega
theorem Rch_one {v n : Nat} (hn : H (v + 1) = nI n) (hn2 : n ≤ 3996) {w : Nat} (hw : Rch H (fun x => x = v) w) : w = v ∨ ((H v = nI 5 ∨ H v = nI 6) ∧ ∃ i, i < n ∧ ∃ m, H (v + 4 + i) = nI m ∧ 3 ≤ m ∧ m < 1740000 ∧ Rch H (fun x => x = m) w) := by
  refine hw (fun w => w = v ∨ ((H v = nI 5 ∨ H v = nI 6) ∧ ∃ i, i < n ∧ ∃ m, H (v + 4 + i) = nI m ∧ 3 ≤ m ∧ m < 1740000 ∧ Rch H (fun x => x = m) w)) (fun u z => Or.inl z) (fun u n1 i m ih k1 k2 k3 k4 k5 k6 k7 => ?_)
  rcases ih with z | ⟨z0, j, y1, m', y2, y3, y4, y5⟩
  · subst z
    have e : n1 = n := (n_eq (by omega) (by omega)).mp (k2.symm.trans hn)
    subst e
    exact Or.inr ⟨k1, i, k4, m, k5, k6, k7, Rch_b rfl⟩
  · exact Or.inr ⟨z0, j, y1, m', y2, y3, y4, Rch_s y5 k1 k2 k3 k4 k5 k6 k7⟩
theorem szN_1 (hO : HO H g l a b) (hb : b ≤ 1740000) {m : Nat} (hm : m < 3 ∨ g m) : 1 ≤ szN H m := by
  unfold szN
  by_cases c : m < 3
  · rw [if_pos c]; exact Nat.le_refl _
  · obtain ⟨k, n, s, t, q, q2, q3⟩ := HO_at hO (by omega) (hm.resolve_left c)
    have c6 := q.2.2.2.2.2.1
    rw [if_neg c, q.2.2.1, n_cl (by omega)]; exact c6.1
theorem smS_gn (hO : HO H g l a b) (hb : b ≤ 1740000) {v n t : Nat} (hn : H (v + 1) = nI n) (hn2 : n ≤ 3996) (d2 : ∀ i, i < n → ∃ m, H (v + 4 + i) = nI m ∧ (m < 3 ∨ g m) ∧ htN H m < t) : ∀ i, i ≤ n → i ≤ smS H v i := by
  intro i
  induction i with
  | zero => intro _; exact Nat.zero_le _
  | succ i ih =>
    intro hi
    obtain ⟨m, m1, m2, m3⟩ := d2 i (by omega)
    have hmb : m < 2147483648 := by
      rcases m2 with m2 | m2
      · omega
      · obtain ⟨_, _, _, _, _, _, z⟩ := HO_at hO (by omega) m2
        omega
    have := szN_1 hO hb m2
    have := ih (by omega)
    show i + 1 ≤ smS H v i + szN H (H (v + 4 + i)).toNatClampNeg
    rw [m1, n_cl hmb]; omega
theorem lvN_sz1 (hO : HO H g l a b) (hb : b ≤ 1740000) (d : Nat) (ih : ∀ e, e < d → ∀ m, g m → 3 ≤ m → htN H m ≤ e → ∀ N, lvN H (Rch H (fun x => x = m)) N + 1 ≤ 6 * szN H m) (v : Nat) (gv : g v) (h3 : 3 ≤ v) (hd : htN H v ≤ d) (N : Nat) : lvN H (Rch H (fun x => x = v)) N + 1 ≤ 6 * szN H v := by
  obtain ⟨k, n, s, t, q, q2, q3⟩ := HO_at hO (by omega) gv
  obtain ⟨c1, c2, c3, c4, c5, c6, c7, c8, c9, c10, c11, c12⟩ := q
  have hsz : szN H v = s := by
    unfold szN
    rw [if_neg (by omega), c3, n_cl (by omega)]
  have hht : htN H v = t := by
    unfold htN
    rw [if_neg (by omega), c4, n_cl (by omega)]
  rw [hsz]
  have h1 := (lvN_one (H := H) (v := v) N).1
  rw [c2, n_cl (by omega)] at h1
  by_cases hk : 5 ≤ k
  · obtain ⟨d1, d2⟩ := c12 hk
    have hch : ∀ i, i < n → lvN H (fun w => ∃ m, H (v + 4 + i) = nI m ∧ 3 ≤ m ∧ m < 1740000 ∧ Rch H (fun x => x = m) w) N ≤ 6 * szN H (H (v + 4 + i)).toNatClampNeg - 1 := by
      intro i hi
      obtain ⟨m, m1, m2, m3⟩ := d2 i hi
      rw [m1]
      have hmb : m < 2147483648 := by
        rcases m2 with m2 | m2
        · omega
        · obtain ⟨_, _, _, _, _, _, z⟩ := HO_at hO (by omega) m2
          omega
      rw [n_cl hmb]
      by_cases c : m < 3
      · rw [lvN_no (fun w z => by
          obtain ⟨m', y1, y2, y3, _⟩ := z
          have := (n_eq hmb (by omega)).mp y1
          omega)]
        exact Nat.zero_le _
      · have gm := m2.resolve_left c
        have hle : lvN H (fun w => ∃ m', nI m = nI m' ∧ 3 ≤ m' ∧ m' < 1740000 ∧ Rch H (fun x => x = m') w) N ≤ lvN H (Rch H (fun x => x = m)) N := lvN_le (fun w z => ⟨by
          obtain ⟨m', y1, y2, y3, y4⟩ := z
          have := (n_eq hmb (by omega)).mp y1
          rw [this]; exact y4, rfl⟩) N
        have := ih (htN H m) (by omega) m gm (by omega) (Nat.le_refl _) N
        omega
    have hsum := lvN_ex (H := H) (N := N) n hch (fun i => 6 * smS H v i - i) rfl (fun i hi => by
      obtain ⟨m, m1, m2, m3⟩ := d2 i hi
      have e : smS H v (i + 1) = smS H v i + szN H (H (v + 4 + i)).toNatClampNeg := rfl
      have p1 : i ≤ smS H v i := smS_gn hO hb c2 c8 d2 i (by omega)
      have p2 : 1 ≤ szN H (H (v + 4 + i)).toNatClampNeg := by
        have := smS_gn hO hb c2 c8 d2 (i + 1) (by omega)
        rw [m1]
        have hmb : m < 2147483648 := by
          rcases m2 with m2 | m2
          · omega
          · obtain ⟨_, _, _, _, _, _, z⟩ := HO_at hO (by omega) m2
            omega
        rw [n_cl hmb]
        exact szN_1 hO hb m2
      show 6 * smS H v (i + 1) - (i + 1) = 6 * smS H v i - i + _
      rw [e]; omega)
    have hall : lvN H (Rch H (fun x => x = v)) N ≤ lvN H (fun w => w = v ∨ ∃ i, i < n ∧ ∃ m, H (v + 4 + i) = nI m ∧ 3 ≤ m ∧ m < 1740000 ∧ Rch H (fun x => x = m) w) N := lvN_le (fun w z => ⟨(Rch_one c2 c8 z).imp id (fun y => y.2), rfl⟩) N
    have hor := lvN_or (H := H) (S := fun w => w = v) (T := fun w => ∃ i, i < n ∧ ∃ m, H (v + 4 + i) = nI m ∧ 3 ≤ m ∧ m < 1740000 ∧ Rch H (fun x => x = m) w) N
    have p1 : n ≤ smS H v n := smS_gn hO hb c2 c8 d2 n (Nat.le_refl _)
    omega
  · have hall : lvN H (Rch H (fun x => x = v)) N ≤ lvN H (fun w => w = v) N := lvN_le (fun w z => ⟨by
      rcases Rch_one c2 c8 z with y | ⟨y, _⟩
      · exact y
      · exfalso
        rcases y with y | y
        · have := (n_eq (p := k) (q := 5) (by omega) (by decide)).mp (c1.symm.trans y)
          omega
        · have := (n_eq (p := k) (q := 6) (by omega) (by decide)).mp (c1.symm.trans y)
          omega, rfl⟩) N
    have : k = 2 ∨ k = 3 ∨ k = 4 := by omega
    rcases this with y | y | y
    · have := c9 y; omega
    · have := c10 y; omega
    · have := c11 y; omega
/-- an object has no more than six cells for each of its size -/
theorem lvN_sz (hO : HO H g l a b) (hb : b ≤ 1740000) : ∀ (d v : Nat), g v → 3 ≤ v → htN H v ≤ d → ∀ N, lvN H (Rch H (fun x => x = v)) N + 1 ≤ 6 * szN H v := by
  intro d
  induction d with
  | zero =>
    intro v gv h3 hd N
    exact lvN_sz1 hO hb 0 (fun e hE => absurd hE (Nat.not_lt_zero _)) v gv h3 hd N
  | succ d ih =>
    intro v gv h3 hd N
    exact lvN_sz1 hO hb (d + 1) (fun e hE m gm hm3 hmd N => ih m gm hm3 (by omega) N) v gv h3 hd N
end LVS
end JnS144
section JnS145
/-! How much of the heap lives: how it changes (reference). -/
section LVR
variable {H H' : Nat → Int32} {g : Nat → Prop} {l : List Nat} {a b X : Nat} {S T : Nat → Prop}
theorem LVc_mo (h : ∀ v, S v → Rch H T v) (hL : LVc X H T) : LVc X H S := fun N => Nat.le_trans (lvN_le (fun v z => ⟨Rch_mo h z, rfl⟩) N) (hL N)
theorem LVc_le {Y : Nat} (hL : LVc X H S) (h : X ≤ Y) : LVc Y H S := fun N => Nat.le_trans (hL N) h
theorem Rch_or {v w : Nat} (hw : Rch H (fun x => S x ∨ x = v) w) : Rch H S w ∨ Rch H (fun x => x = v) w := by
  exact hw (fun w => Rch H S w ∨ Rch H (fun x => x = v) w) (fun u z => z.imp (fun y => Rch_b y) (fun y => Rch_b y)) (fun u n i m ih k1 k2 k3 k4 k5 k6 k7 => ih.imp (fun z => Rch_s z k1 k2 k3 k4 k5 k6 k7) (fun z => Rch_s z k1 k2 k3 k4 k5 k6 k7))
/-- one more value -/
theorem LVc_add (hO : HO H g l a b) (hb : b ≤ 1740000) {m : Nat} (hm : m < 3 ∨ g m) (hL : LVc X H S) : LVc (X + 6 * szN H m) H (fun x => S x ∨ (x = m ∧ 3 ≤ m)) := by
  by_cases c : m < 3
  · refine LVc_le (LVc_mo (fun v z => ?_) hL) (by omega)
    rcases z with z | z
    · exact Rch_b z
    · omega
  · intro N
    have gm := hm.resolve_left c
    have h1 := lvN_sz hO hb (htN H m) m gm (by omega) (Nat.le_refl _) N
    have h2 := hL N
    have h3 : lvN H (Rch H (fun x => S x ∨ (x = m ∧ 3 ≤ m))) N ≤ lvN H (fun w => Rch H S w ∨ Rch H (fun x => x = m) w) N := lvN_le (fun w z => ⟨Rch_or (Rch_mo (fun v y => Rch_b (y.imp id (fun q => q.1))) z), rfl⟩) N
    have h4 := lvN_or (H := H) (S := Rch H S) (T := Rch H (fun x => x = m)) N
    omega
/-- the heap grows -/
theorem LVc_gr (hO : HO H g l a b) (hb : b ≤ 1740000) (hS : ∀ v, S v → g v) (he : ∀ i, a ≤ i → i < b → H' i = H i) (hL : LVc X H S) : LVc X H' S := by
  have hr : ∀ w, Rch H' S w → Rch H S w := fun w hw => by
    refine hw (Rch H S) (fun v z => Rch_b z) (fun v n i m ih k1 k2 k3 k4 k5 k6 k7 => ?_)
    have gv := Rch_good hO hb hS ih
    obtain ⟨k, n0, s, t, q, q2, q3⟩ := HO_at hO (by omega) gv
    rw [he v (by omega) (by omega)] at k1
    rw [he (v + 1) (by omega) (by omega)] at k2
    have e : n0 = n := (n_eq (by have := q.2.2.2.2.2.2.2.1; omega) (by omega)).mp (q.2.1.symm.trans k2)
    subst e
    rw [he (v + 4 + i) (by omega) (by omega)] at k5
    exact Rch_s ih k1 k2 k3 k4 k5 k6 k7
  intro N
  refine Nat.le_trans (lvN_le (fun v z => ⟨hr v z, ?_⟩) N) (hL N)
  have gv := Rch_good hO hb hS (hr v z)
  obtain ⟨k, n0, s, t, q, q2, q3⟩ := HO_at hO (by omega) gv
  exact he (v + 1) (by omega) (by omega)
theorem lvs_N (hb : b < 2147483648) : ∀ (l : List Nat) (a : Nat), Til H b a l → lvs H S l + lvN H S a ≤ lvN H S b
  | [], a, h => by
    have h : a = b := h
    rw [h]; show 0 + _ ≤ _; omega
  | v :: l, a, h => by
    obtain ⟨e, n, n1, n2, n3⟩ := h
    subst e
    have ih := lvs_N hb l _ n3
    have mo : ∀ k, lvN H S (v + 1) ≤ lvN H S (v + 1 + k) := fun k => by
      induction k with
      | zero => exact Nat.le_refl _
      | succ k ih => exact Nat.le_trans ih (by show _ ≤ lvN H S (v + 1 + k) + _; omega)
    have h1 := mo (3 + n)
    rw [show v + 1 + (3 + n) = v + 4 + n by omega] at h1
    have h2 : lvN H S (v + 1) = lvN H S v + _ := rfl
    unfold lvs
    rw [h2] at h1
    omega
theorem lvN_til (hb : b < 2147483648) (N : Nat) : ∀ (l : List Nat) (a : Nat) (S : Nat → Prop), Til H b a l → (∀ v, S v → v ∈ l) → lvN H S N ≤ b - a
  | [], a, S, h, hS => by rw [lvN_no (fun v z => absurd (hS v z) List.not_mem_nil)]; exact Nat.zero_le _
  | v :: l, a, S, h, hS => by
    obtain ⟨e, n, n1, n2, n3⟩ := h
    have ih := lvN_til hb N l _ (fun w => S w ∧ w ≠ v) n3 (fun w z => (List.mem_cons.mp (hS w z.1)).resolve_left z.2)
    have h1 := (lvN_one (H := H) (v := v) N).1
    rw [n1, n_cl (by omega)] at h1
    have h2 : lvN H S N ≤ lvN H (fun w => w = v ∨ (S w ∧ w ≠ v)) N := lvN_le (fun w z => ⟨by
      by_cases e : w = v
      · exact Or.inl e
      · exact Or.inr ⟨z, e⟩, rfl⟩) N
    have h3 := lvN_or (H := H) (S := fun w => w = v) (T := fun w => S w ∧ w ≠ v) N
    have h4 := Til_le _ _ n3
    omega
end LVR
/-- bounds of what the roots are, without the pile -/
def RtQ (σ : MS) : Prop := ∃ P e, σ.1 63 = nI P ∧ P ≤ 20 ∧ σ.1 72 = nI e ∧ e ≤ 4000 ∧ StB (σ.2.2 30) 0 ∧ ∀ p, p < P → StB (σ.2.2 31) (11514 * p)
/-- the objects that the roots name -/
def RoS (t : Nat) (σ : MS) (v : Nat) : Prop := 3 ≤ v ∧ v < 1740000 ∧ ∃ a i, RtP t σ a i ∧ σ.2.2 a i = nI v
/-- what the state is, all values of it, with t of the pile; X cells live -/
def MI (t X : Nat) (g : Nat → Prop) (l : List Nat) (B h : Nat) (σ : MS) : Prop := HS g l B h σ ∧ RtQ σ ∧ (∀ a i, RtP t σ a i → Vd g (σ.2.2 a i)) ∧ LVc X (σ.2.2 28) (RoS t σ)
/-- what an operation (sweeps too) leaves of what lay before -/
def EO (t : Nat) (g : Nat → Prop) (σ : MS) (g' : Nat → Prop) (ρ : MS) : Prop :=
  (∀ a i, RtP t σ a i → VC g g' (σ.2.2 28) (ρ.2.2 28) (σ.2.2 a i) (ρ.2.2 a i)) ∧
  (∀ a i, ¬ (a = 28 ∨ a = 29 ∨ (41 ≤ a ∧ a ≤ 49) ∨ a = 51) → ¬ RtP t σ a i → ρ.2.2 a i = σ.2.2 a i) ∧
  (∀ j, ¬ ((54 ≤ j ∧ j ≤ 57) ∨ j = 59 ∨ (84 ≤ j ∧ j ≤ 90) ∨ j = 93 ∨ j = 100 ∨ j = 101) → ρ.1 j = σ.1 j)
section EOS
variable {g g' : Nat → Prop} {l l' : List Nat} {B h t X : Nat} {σ ρ : MS}
theorem RtP_iff {P e : Nat} (h63 : σ.1 63 = nI P) (hP : P ≤ 20) (h72 : σ.1 72 = nI e) (he : e ≤ 4000) (a i : Nat) : RtP t σ a i ↔ (a = 29 ∧ i < t) ∨ (a = 30 ∧ StI (σ.2.2 30) 0 i) ∨ (a = 31 ∧ ∃ p, p < P ∧ StI (σ.2.2 31) (11514 * p) i) ∨ (a = 33 ∧ i < 1380) ∨ (a = 34 ∧ i < e) ∨ (a = 36 ∧ i < 8) ∨ (a = 37 ∧ i < 8) ∨ (a = 38 ∧ i < 8) ∨ (a = 40 ∧ i < 2) := by
  unfold RtP
  rw [h63, h72, n_cl (p := P) (by omega), n_cl (p := e) (by omega)]
theorem StI_iff {A : Nat → Int32} {b c n : Nat} (h1 : A (b + 1) = nI c) (hc : c ≤ 50) (h3 : A (b + 3) = nI n) (hn : n ≤ 3100) (i : Nat) : StI A b i ↔ (b + 4 ≤ i ∧ i < b + 64) ∨ (b + 214 ≤ i ∧ i < b + 214 + 60 * c) ∨ (b + 5314 ≤ i ∧ i < b + 5314 + n) := by
  unfold StI
  rw [h1, h3, n_cl (p := c) (by omega), n_cl (p := n) (by omega)]
theorem RtP_28 {a i : Nat} (h : RtP t σ a i) : a ≠ 28 := by
  unfold RtP at h
  omega
/-- heads of states are no values -/
theorem RtP_hd (hQ : RtQ σ) : (∀ i, i < 4 → ¬ RtP t σ 30 i) ∧ (∀ i, 64 ≤ i → i < 214 → ¬ RtP t σ 30 i) ∧ (∀ i, 3214 ≤ i → i < 5314 → ¬ RtP t σ 30 i) ∧ (∀ i, 8414 ≤ i → ¬ RtP t σ 30 i) ∧ ∀ p i, p < 20 → i < 4 → ¬ RtP t σ 31 (11514 * p + i) := by
  obtain ⟨P, e, h63, hP, h72, he, s30, s31⟩ := hQ
  obtain ⟨c, n, c1, c2, n1, n2⟩ := s30
  have hi := fun i => StI_iff (A := σ.2.2 30) (b := 0) c1 c2 n1 n2 i
  have key : ∀ i, RtP t σ 30 i → (4 ≤ i ∧ i < 64) ∨ (214 ≤ i ∧ i < 214 + 60 * c) ∨ (5314 ≤ i ∧ i < 5314 + n) := fun i z => by
    have z := (RtP_iff h63 hP h72 he 30 i).mp z
    have z : StI (σ.2.2 30) 0 i := by
      rcases z with z | z | z | z | z
      · omega
      · exact z.2
      · exact absurd z.1 (by decide)
      · omega
      · omega
    have := (hi i).mp z
    omega
  refine ⟨fun i q z => ?_, fun i q1 q2 z => ?_, fun i q1 q2 z => ?_, fun i q z => ?_, fun p i hp q z => ?_⟩
  · have := key i z; omega
  · have := key i z; omega
  · have := key i z; omega
  · have := key i z; omega
  · have z := (RtP_iff h63 hP h72 he 31 _).mp z
    have z : ∃ p', p' < P ∧ StI (σ.2.2 31) (11514 * p') (11514 * p + i) := by
      rcases z with z | z | z | z | z
      · omega
      · exact absurd z.1 (by decide)
      · exact z.2
      · omega
      · omega
    obtain ⟨p', y1, y2⟩ := z
    obtain ⟨c, n, c1, c2, n1, n2⟩ := s31 p' y1
    have := (StI_iff (A := σ.2.2 31) (b := 11514 * p') c1 c2 n1 n2 _).mp y2
    omega
/-- the places of the roots stay -/
theorem EO_rt (hQ : RtQ σ) (hE : EO t g σ g' ρ) : RtQ ρ ∧ ∀ (u a i : Nat), RtP u ρ a i ↔ RtP u σ a i := by
  obtain ⟨k1, _, _, _, k5⟩ := RtP_hd (t := t) hQ
  obtain ⟨e1, e2, e3⟩ := hE
  have q1 : ρ.2.2 30 1 = σ.2.2 30 1 := e2 30 1 (by decide) (k1 1 (by decide))
  have q3 : ρ.2.2 30 3 = σ.2.2 30 3 := e2 30 3 (by decide) (k1 3 (by decide))
  have p1 : ∀ p, p < 20 → ρ.2.2 31 (11514 * p + 1) = σ.2.2 31 (11514 * p + 1) := fun p hp => e2 31 _ (by decide) (k5 p 1 hp (by decide))
  have p3 : ∀ p, p < 20 → ρ.2.2 31 (11514 * p + 3) = σ.2.2 31 (11514 * p + 3) := fun p hp => e2 31 _ (by decide) (k5 p 3 hp (by decide))
  have r63 : ρ.1 63 = σ.1 63 := e3 63 (by decide)
  have r72 : ρ.1 72 = σ.1 72 := e3 72 (by decide)
  obtain ⟨P, e, h63, hP, h72, he, s30, s31⟩ := hQ
  refine ⟨⟨P, e, r63.trans h63, hP, r72.trans h72, he, ?_, fun p hp => ?_⟩, fun u a i => ?_⟩
  · obtain ⟨c, n, c1, c2, n1, n2⟩ := s30
    exact ⟨c, n, q1.trans c1, c2, q3.trans n1, n2⟩
  · obtain ⟨c, n, c1, c2, n1, n2⟩ := s31 p hp
    exact ⟨c, n, (p1 p (by omega)).trans c1, c2, (p3 p (by omega)).trans n1, n2⟩
  · rw [RtP_iff (r63.trans h63) hP (r72.trans h72) he, RtP_iff h63 hP h72 he]
    have x30 : StI (ρ.2.2 30) 0 i ↔ StI (σ.2.2 30) 0 i := by
      unfold StI
      rw [show (0 + 1) = 1 from rfl, show (0 + 3) = 3 from rfl, q1, q3]
    have x31 : (∃ p, p < P ∧ StI (ρ.2.2 31) (11514 * p) i) ↔ ∃ p, p < P ∧ StI (σ.2.2 31) (11514 * p) i := by
      constructor
      · rintro ⟨p, y1, y2⟩
        refine ⟨p, y1, ?_⟩
        unfold StI at y2 ⊢
        rw [p1 p (by omega), p3 p (by omega)] at y2
        exact y2
      · rintro ⟨p, y1, y2⟩
        refine ⟨p, y1, ?_⟩
        unfold StI at y2 ⊢
        rw [p1 p (by omega), p3 p (by omega)]
        exact y2
    rw [x30, x31]
end EOS
end JnS145

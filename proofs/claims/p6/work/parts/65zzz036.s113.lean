/-! Is it a member (reference). -/
section HAS
variable {g : Nat → Prop} {l : List Nat} {B h t : Nat} {σ : MS}
theorem s_wrongKind (L : Nat → Int32) : Tm (fun k => x_wrongKind k 0 L σ) (fun r => r = (0, mEr σ (nI 1))) := by
  refine Tm_suc (fun k => by rw [x_wrongKind]) ?_
  refine Tm_ob (s_fail _ σ) (fun r hr => ?_)
  rw [hr]
  exact Tm_some rfl
theorem s_truth (L : Nat → Int32) : Tm (fun k => x_truth k 0 L σ) (fun r => r.2 = σ ∧ (r.1 = 1 ∨ r.1 = 2)) := by
  refine Tm_suc (fun k => by rw [x_truth]) ?_
  refine Tm_ite (fun _ => ?_) (fun _ => ?_)
  · refine Tm_suc (fun k => by rw [x_truth]) ?_
    refine Tm_suc (fun k => by rw [x_truth]) ?_
    exact Tm_some ⟨rfl, Or.inl rfl⟩
  · refine Tm_suc (fun k => by rw [x_truth]) ?_
    exact Tm_some ⟨rfl, Or.inr rfl⟩
theorem kdN_ge (hS : HS g l B h σ) {v : Nat} (hv : v < 3 ∨ g v) (hk : 2 ≤ kdN (σ.2.2 28) v) : g v := by
  rcases hv with hv | hv
  · unfold kdN at hk
    split at hk
    · omega
    · omega
  · exact hv
/-- an object with parts -/
theorem ob_at (hS : HS g l B h σ) {v : Nat} (hv : g v) : ∃ n, σ.2.2 28 (v + 1) = nI n ∧ n ≤ 3996 ∧ B + 4 ≤ v ∧ v + 4 + n ≤ h ∧ σ.2.2 28 v = nI (kdN (σ.2.2 28) v) ∧ (2 ≤ kdN (σ.2.2 28) v ∧ kdN (σ.2.2 28) v ≤ 6) ∧ (5 ≤ kdN (σ.2.2 28) v → ∀ i, i < n → ∃ m, σ.2.2 28 (v + 4 + i) = nI m ∧ (m < 3 ∨ g m)) := by
  obtain ⟨k, n, s, u, ⟨g1, g2, g3, g4, g5, g6, g7, g8, g9, g10, g11, g12⟩, hv1, hv2⟩ := HS_at hS hv
  have hb := HS_b hS
  have e : kdN (σ.2.2 28) v = k := by
    unfold kdN
    rw [if_neg (by omega), if_neg (by omega), g1, n_cl (by omega)]
  refine ⟨n, g2, g8, hv1, hv2, by rw [e]; exact g1, by rw [e]; exact g5, fun z i hi => ?_⟩
  obtain ⟨m, m1, m2, _⟩ := (g12 (by omega)).2 i hi
  exact ⟨m, m1, m2⟩
theorem s_has (hS : HS g l B h σ) {v x : Nat} (hv : g v) (hk : 5 ≤ kdN (σ.2.2 28) v) (hx : x < 3 ∨ g x) {L : Nat → Int32} (h1 : L 1 = nI v) (h2 : L 2 = nI x) : Tm (fun k => x_has k 0 L σ) (fun r => r.2 = σ ∧ (r.1 = 0 ∨ r.1 = 1)) := by
  have hb := HS_b hS
  have hB := hS.2.1
  obtain ⟨n, v1, v2, v3, v4, v5, v6, v7⟩ := ob_at hS hv
  have v7 := v7 hk
  have b1 : ∀ (q a b : Nat) (N : Nat → Int32), b ≤ q + a → a ≤ b → b ≤ n → N 1 = nI v → N 2 = nI x → N 3 = nI a → N 4 = nI b - 1 → Tm (fun k => x_has k 1 N σ) (fun r => r.2 = σ ∧ (r.1 = 0 ∨ r.1 = 1)) := by
    have e7 : ∀ N : Nat → Int32, Tm (fun k => x_has k 7 N σ) (fun r => r.2 = σ ∧ (r.1 = 0 ∨ r.1 = 1)) := fun N => by
      refine Tm_suc (fun k => by rw [x_has]) ?_
      exact Tm_some ⟨rfl, Or.inl rfl⟩
    have em : ∀ b : Nat, b ≤ 3996 → 0 < b → nI b - 1 = nI (b - 1) := fun b hb hb0 => n_sub (p := b) (q := 1) (by omega) (by omega)
    intro q
    induction q with
    | zero =>
      intro a b N hq hab hbn n1 n2 n3 n4
      have : a = b := by omega
      subst this
      refine Tm_suc (fun k => by rw [x_has]) ?_
      rw [n3, n4]
      refine Tm_ite (fun _ => e7 N) (fun w => absurd ?_ w)
      by_cases ha : a = 0
      · rw [ha]; decide
      · rw [em a (by omega) (by omega)]; exact (n_lt (by omega) (by omega)).mpr (by omega)
    | succ q ih =>
      intro a b N hq hab hbn n1 n2 n3 n4
      refine Tm_suc (fun k => by rw [x_has]) ?_
      rw [n3, n4, n1]
      refine Tm_ite (fun _ => e7 N) (fun w => ?_)
      have hlt : a < b := by
        by_cases e : a = b
        · refine absurd ?_ w
          subst e
          by_cases ha : a = 0
          · rw [ha]; decide
          · rw [em a (by omega) (by omega)]; exact (n_lt (by omega) (by omega)).mpr (by omega)
        · omega
      refine Tm_chk0 (by decide) ?_
      have hmid : ∃ c, (a + (b - 1)) / 2 = c ∧ a ≤ c ∧ c < b := ⟨_, rfl, by omega, by omega⟩
      obtain ⟨c, c1, c2, c3⟩ := hmid
      have ec : (nI a + (nI b - 1)) / 2 = nI c := by
        rw [em b (by omega) (by omega), n_add (by omega), show nI (a + (b - 1)) / 2 = nI ((a + (b - 1)) / 2) from n_div (q := 2) (by omega) (by decide) (by decide), c1]
      rw [ec, show nI v + 4 = nI (v + 4) from n_add (q := 4) (by omega), n_add (by omega)]
      refine Tm_chk (n_in (by omega) (by omega)) ?_
      obtain ⟨y, y1, y2⟩ := v7 c (by omega)
      rw [n_cl (p := v + 4 + c) (by omega), y1]
      refine Tm_ob (s_compareV hS y2 hx rfl (by exact n2)) (fun r hr => ?_)
      rw [hr]
      refine Tm_ite (fun _ => Tm_some ⟨rfl, Or.inr rfl⟩) (fun _ => ?_)
      refine Tm_suc (fun k => by rw [x_has]) ?_
      show Tm (fun k => if 0 ≤ r.1 then x_has k 3 (upd (upd N 5 (nI c)) 6 r.1) σ else x_has k 4 (upd (upd (upd N 5 (nI c)) 6 r.1) 100 (nI c + 1)) σ) _
      refine Tm_ite (fun z => ?_) (fun z => ?_)
      · refine Tm_suc (fun k => by rw [x_has]) ?_
        refine Tm_suc (fun k => by rw [x_has]) ?_
        refine Tm_ite (fun _ => ?_) (fun w => absurd (show 0 ≤ r.1 from z) w)
        refine Tm_suc (fun k => by rw [x_has]) ?_
        refine Tm_suc (fun k => by rw [x_has]) ?_
        exact ih a c _ (by omega) c2 (by omega) n1 n2 n3 rfl
      · refine Tm_suc (fun k => by rw [x_has]) ?_
        refine Tm_ite (fun w => absurd (show 0 ≤ r.1 from w) z) (fun _ => ?_)
        refine Tm_suc (fun k => by rw [x_has]) ?_
        exact ih (c + 1) b _ (by omega) (by omega) hbn n1 n2 (n_add1 c) n4
  refine Tm_suc (fun k => by rw [x_has]) ?_
  rw [h1, show nI v + 1 = nI (v + 1) from n_add1 v]
  refine Tm_chk (n_in (by omega) (by omega)) ?_
  rw [n_cl (p := v + 1) (by omega), v1]
  exact b1 n 0 n _ (by omega) (Nat.zero_le _) (Nat.le_refl _) h1 h2 rfl rfl
theorem s_isSubset (hS : HS g l B h σ) {v x : Nat} (hv : g v) (hk : 5 ≤ kdN (σ.2.2 28) v) (hx : g x) (hkx : 5 ≤ kdN (σ.2.2 28) x) {L : Nat → Int32} (h1 : L 1 = nI v) (h2 : L 2 = nI x) : Tm (fun k => x_isSubset k 0 L σ) (fun r => r.2 = σ ∧ (r.1 = 0 ∨ r.1 = 1)) := by
  have hb := HS_b hS
  have hB := hS.2.1
  obtain ⟨n, v1, v2, v3, v4, v5, v6, v7⟩ := ob_at hS hv
  have v7 := v7 hk
  have e2 : ∀ N : Nat → Int32, (N 3 = 0 ∨ N 3 = 1) → Tm (fun k => x_isSubset k 2 N σ) (fun r => r.2 = σ ∧ (r.1 = 0 ∨ r.1 = 1)) := fun N hN => by
    refine Tm_suc (fun k => by rw [x_isSubset]) ?_
    refine Tm_ite (fun _ => ?_) (fun w => absurd hN w)
    exact Tm_some ⟨rfl, hN⟩
  have b1 : ∀ (q i : Nat) (N : Nat → Int32), q + i = n → N 1 = nI v → N 2 = nI x → (N 3 = 0 ∨ N 3 = 1) → N 4 = nI i → Tm (fun k => x_isSubset k 1 N σ) (fun r => r.2 = σ ∧ (r.1 = 0 ∨ r.1 = 1)) := by
    intro q
    induction q with
    | zero =>
      intro i N hi n1 n2 n3 n4
      refine Tm_suc (fun k => by rw [x_isSubset]) ?_
      rw [n1, n4, show nI v + 1 = nI (v + 1) from n_add1 v]
      refine Tm_chk (n_in (by omega) (by omega)) ?_
      rw [n_cl (p := v + 1) (by omega), v1]
      exact Tm_ite (fun _ => e2 N n3) (fun w => absurd ((n_le (by omega) (by omega)).mpr (by omega)) w)
    | succ q ih =>
      intro i N hi n1 n2 n3 n4
      refine Tm_suc (fun k => by rw [x_isSubset]) ?_
      rw [n1, n4, show nI v + 1 = nI (v + 1) from n_add1 v, show nI v + 4 = nI (v + 4) from n_add (q := 4) (by omega), n_add (by omega)]
      refine Tm_chk (n_in (by omega) (by omega)) ?_
      rw [n_cl (p := v + 1) (by omega), v1]
      refine Tm_ite (fun _ => e2 N n3) (fun _ => ?_)
      refine Tm_ite (fun _ => e2 N n3) (fun _ => ?_)
      refine Tm_chk (n_in (by omega) (by omega)) ?_
      obtain ⟨y, y1, y2⟩ := v7 i (by omega)
      rw [n_cl (p := v + 4 + i) (by omega), y1]
      refine Tm_ob (s_has hS hx hkx y2 (by exact n2) rfl) (fun r hr => ?_)
      rw [hr.1]
      exact ih (i + 1) _ (by omega) n1 n2 hr.2 (n_add1 i)
  refine Tm_suc (fun k => by rw [x_isSubset]) ?_
  exact b1 n 0 _ (by omega) h1 h2 (Or.inr rfl) rfl
end HAS

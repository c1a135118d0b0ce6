/-! The reference's heap: objects lie one behind the other; some are good (values), the rest is of no matter. -/
/-- objects one behind the other from a to b -/
def Til (H : Nat → Int32) (b : Nat) : Nat → List Nat → Prop
  | a, [] => a = b
  | a, v :: l => v = a ∧ ∃ n, H (v + 1) = nI n ∧ v + 4 + n ≤ b ∧ Til H b (v + 4 + n) l
/-- a value: om, a truth, or a good object -/
def Vd (g : Nat → Prop) (x : Int32) : Prop := ∃ k, x = nI k ∧ (k < 3 ∨ g k)
def szN (H : Nat → Int32) (k : Nat) : Nat := if k < 3 then 1 else (H (k + 2)).toNatClampNeg
def htN (H : Nat → Int32) (k : Nat) : Nat := if k < 3 then 0 else (H (k + 3)).toNatClampNeg
def kdN (H : Nat → Int32) (k : Nat) : Nat := if k = 0 then 0 else if k < 3 then 1 else (H k).toNatClampNeg
def smS (H : Nat → Int32) (v : Nat) : Nat → Nat
  | 0 => 0
  | i + 1 => smS H v i + szN H (H (v + 4 + i)).toNatClampNeg
/-- the sign is one or less one; or there are no limbs, and it is nought -/
def SgOK (H : Nat → Int32) (a n : Nat) : Prop := (H (a + 4) = 1 ∨ H (a + 4) = -1) ∨ (n = 1 ∧ H (a + 4) = 0)
/-- limbs of a whole, its sign -/
def WHk (H : Nat → Int32) (v n : Nat) : Prop := (∀ i, i + 1 < n → ∃ d, d ≤ 65535 ∧ H (v + 5 + i) = nI d) ∧ SgOK H v n
/-- a sign that a whole may be made with -/
def SgO (x : Int32) (R : Nat → Int32) (c : Nat) : Prop := (x = 1 ∨ x = -1) ∨ ∀ i, i < c → R i = 0
def GOn (H : Nat → Int32) (g : Nat → Prop) (v k n s h : Nat) : Prop :=
  H v = nI k ∧ H (v + 1) = nI n ∧ H (v + 2) = nI s ∧ H (v + 3) = nI h ∧ (2 ≤ k ∧ k ≤ 6) ∧ (1 ≤ s ∧ s ≤ 1000) ∧ h ≤ 30 ∧ n ≤ 3996 ∧
  (k = 2 → 1 ≤ n ∧ n ≤ 65 ∧ s = 1 + n / 2 ∧ WHk H v n) ∧
  (k = 3 → n = 1 ∧ s = 1 ∧ ∃ a, a ≤ 1000000 ∧ H (v + 4) = nI a) ∧
  (k = 4 → s = 1 + (n + 3) / 4) ∧
  (5 ≤ k → s = 1 + smS H v n ∧ ∀ i, i < n → ∃ m, H (v + 4 + i) = nI m ∧ (m < 3 ∨ g m) ∧ htN H m < h)
def HO (H : Nat → Int32) (g : Nat → Prop) (l : List Nat) (a b : Nat) : Prop := Til H b a l ∧ ∀ v, g v → v ∈ l ∧ ∃ k n s h, GOn H g v k n s h
/-- the heap of a state -/
def HS (g : Nat → Prop) (l : List Nat) (B h : Nat) (σ : MS) : Prop := σ.1 54 = nI B ∧ (B = 0 ∨ B = 870000) ∧ σ.1 55 = nI h ∧ h ≤ B + 870000 ∧ HO (σ.2.2 28) g l (B + 4) h
section HEA
variable {H H' : Nat → Int32} {g g' : Nat → Prop} {l : List Nat} {a b : Nat}
theorem Til_le : ∀ (l : List Nat) (a : Nat), Til H b a l → a ≤ b
  | [], a, h => Nat.le_of_eq h
  | v :: l, a, ⟨h1, n, h2, h3, h4⟩ => by omega
theorem Til_mem : ∀ (l : List Nat) (a : Nat), Til H b a l → ∀ v ∈ l, a ≤ v ∧ ∃ n, H (v + 1) = nI n ∧ v + 4 + n ≤ b
  | [], a, h, v, hv => by cases hv
  | w :: l, a, ⟨h1, n, h2, h3, h4⟩, v, hv => by
    rcases List.mem_cons.mp hv with hv | hv
    · subst hv; exact ⟨by omega, n, h2, h3⟩
    · obtain ⟨k1, k2⟩ := Til_mem l _ h4 v hv
      exact ⟨by omega, k2⟩
theorem Til_ext : ∀ (l : List Nat) (a : Nat), (∀ i, a ≤ i → i < b → H' i = H i) → Til H b a l → Til H' b a l
  | [], a, _, h => h
  | v :: l, a, he, ⟨h1, n, h2, h3, h4⟩ => ⟨h1, n, by rw [he (v + 1) (by omega) (by omega)]; exact h2, h3, Til_ext l _ (fun i h5 h6 => he i (by omega) h6) h4⟩
theorem Til_snoc : ∀ (l : List Nat) (a : Nat) (n : Nat), Til H b a l → H (b + 1) = nI n → Til H (b + 4 + n) a (l ++ [b])
  | [], a, n, h, hn => ⟨h.symm, n, by have h : a = b := h; exact hn, by have h : a = b := h; omega, rfl⟩
  | v :: l, a, n, ⟨h1, m, h2, h3, h4⟩, hn => ⟨h1, m, h2, by omega, Til_snoc l _ n h4 hn⟩
theorem HO_at (h : HO H g l a b) (hb : b < 2147483648) {v : Nat} (hv : g v) : ∃ k n s t, GOn H g v k n s t ∧ a ≤ v ∧ v + 4 + n ≤ b := by
  obtain ⟨h1, k, n, s, t, h2⟩ := h.2 v hv
  obtain ⟨h3, n', h4, h5⟩ := Til_mem _ _ h.1 v h1
  have hle := Til_le _ _ h.1
  refine ⟨k, n, s, t, h2, h3, ?_⟩
  have hn := h2.2.2.2.2.2.2.2.1
  have := (n_eq (p := n) (q := n') (by omega) (by omega)).mp (h2.2.1.symm.trans h4)
  omega
theorem szN_ext (he : ∀ i, a ≤ i → i < b → H' i = H i) (h : HO H g l a b) (hb : b < 2147483648) {m : Nat} (hm : m < 3 ∨ g m) : szN H' m = szN H m ∧ htN H' m = htN H m := by
  unfold szN htN
  by_cases c : m < 3
  · rw [if_pos c, if_pos c, if_pos c, if_pos c]; exact ⟨rfl, rfl⟩
  · rw [if_neg c, if_neg c, if_neg c, if_neg c]
    rcases hm with hm | hm
    · exact absurd hm c
    · obtain ⟨k, n, s, t, h1, h2, h3⟩ := HO_at h hb hm
      rw [he (m + 2) (by omega) (by omega), he (m + 3) (by omega) (by omega)]; exact ⟨rfl, rfl⟩
theorem GOn_ext (he : ∀ i, a ≤ i → i < b → H' i = H i) (h : HO H g l a b) (hb : b < 2147483648) (hg : ∀ v, g v → g' v) {v k n s t : Nat} (hv : a ≤ v) (hn : v + 4 + n ≤ b) (hG : GOn H g v k n s t) : GOn H' g' v k n s t := by
  obtain ⟨h1, h2, h3, h4, h5, h6, h7, h8, h9, h10, h11, h12⟩ := hG
  refine ⟨by rw [he v (by omega) (by omega)]; exact h1, by rw [he (v + 1) (by omega) (by omega)]; exact h2, by rw [he (v + 2) (by omega) (by omega)]; exact h3, by rw [he (v + 3) (by omega) (by omega)]; exact h4, h5, h6, h7, h8, fun c => ?_, fun c => ?_, h11, fun c => ?_⟩
  · obtain ⟨k1, k2, k3, k4⟩ := h9 c
    exact ⟨k1, k2, k3, fun i hi => by rw [he _ (by omega) (by omega)]; exact k4.1 i hi, by unfold SgOK; rw [he _ (by omega) (by omega)]; exact k4.2⟩
  · obtain ⟨k1, k2, a, k3, k4⟩ := h10 c
    exact ⟨k1, k2, a, k3, by rw [he _ (by omega) (by omega)]; exact k4⟩
  · obtain ⟨k1, k2⟩ := h12 c
    have hs : ∀ j, j ≤ n → smS H' v j = smS H v j := by
      intro j
      induction j with
      | zero => intro _; rfl
      | succ j ih =>
        intro hj
        obtain ⟨m, m1, m2, m3⟩ := k2 j (by omega)
        show smS H' v j + szN H' (H' (v + 4 + j)).toNatClampNeg = smS H v j + szN H (H (v + 4 + j)).toNatClampNeg
        rw [ih (by omega), he _ (by omega) (by omega), m1]
        have hmb : m < 2147483648 := by
          rcases m2 with m2 | m2
          · omega
          · obtain ⟨_, _, _, _, _, _, z⟩ := HO_at h hb m2
            omega
        rw [n_cl hmb, (szN_ext he h hb m2).1]
    refine ⟨by rw [hs n (Nat.le_refl _)]; exact k1, fun i hi => ?_⟩
    obtain ⟨m, m1, m2, m3⟩ := k2 i hi
    refine ⟨m, by rw [he _ (by omega) (by omega)]; exact m1, m2.imp id (hg m), ?_⟩
    rw [(szN_ext he h hb m2).2]; exact m3
/-- more is laid behind; what is good stays so -/
theorem HO_ext {b' : Nat} {l' : List Nat} (he : ∀ i, a ≤ i → i < b → H' i = H i) (h : HO H g l a b) (hb : b < 2147483648) (hl : Til H' b' a l') (hs : ∀ v ∈ l, v ∈ l') : HO H' g l' a b' := ⟨hl, fun v hv => by
  obtain ⟨k, n, s, t, h1, h2, h3⟩ := HO_at h hb hv
  exact ⟨hs v (h.2 v hv).1, k, n, s, t, GOn_ext he h hb (fun _ z => z) h2 h3 h1⟩⟩
/-- one more is good -/
theorem HO_add {v k n s t : Nat} (h : HO H g l a b) (hv : v ∈ l) (hG : GOn H g v k n s t) : HO H (fun w => g w ∨ w = v) l a b := by
  refine ⟨h.1, fun w hw => ?_⟩
  have mo : ∀ u k n s t, GOn H g u k n s t → GOn H (fun w => g w ∨ w = v) u k n s t := by
    intro u k n s t hu
    obtain ⟨h1, h2, h3, h4, h5, h6, h7, h8, h9, h10, h11, h12⟩ := hu
    refine ⟨h1, h2, h3, h4, h5, h6, h7, h8, h9, h10, h11, fun c => ⟨(h12 c).1, fun i hi => ?_⟩⟩
    obtain ⟨m, m1, m2, m3⟩ := (h12 c).2 i hi
    exact ⟨m, m1, m2.imp id Or.inl, m3⟩
  rcases hw with hw | hw
  · obtain ⟨h1, k, n, s, t, h2⟩ := h.2 w hw
    exact ⟨h1, k, n, s, t, mo _ _ _ _ _ h2⟩
  · subst hw; exact ⟨hv, k, n, s, t, mo _ _ _ _ _ hG⟩
end HEA
section HSR
variable {g : Nat → Prop} {l : List Nat} {B h : Nat} {σ : MS}
theorem HS_b (hS : HS g l B h σ) : B + 4 ≤ h ∧ h ≤ 1740000 := by
  obtain ⟨h1, h2, h3, h4, h5⟩ := hS
  exact ⟨Til_le _ _ h5.1, by omega⟩
theorem HS_at (hS : HS g l B h σ) {v : Nat} (hv : g v) : ∃ k n s t, GOn (σ.2.2 28) g v k n s t ∧ B + 4 ≤ v ∧ v + 4 + n ≤ h := HO_at hS.2.2.2.2 (by have := HS_b hS; omega) hv
theorem HS_vb (hS : HS g l B h σ) {m : Nat} (hm : m < 3 ∨ g m) : m < 1740000 := by
  rcases hm with hm | hm
  · omega
  · obtain ⟨_, _, _, _, _, _, z⟩ := HS_at hS hm
    have := HS_b hS
    omega
theorem s_kind (hS : HS g l B h σ) {m : Nat} (hm : m < 3 ∨ g m) {L : Nat → Int32} (hL : L 1 = nI m) : Tm (fun k => x_kind k 0 L σ) (fun r => r = (nI (kdN (σ.2.2 28) m), σ)) := by
  have hb := HS_vb hS hm
  unfold kdN
  refine Tm_suc (fun k => by rw [x_kind]) ?_
  rw [hL]
  refine Tm_ite (fun c => ?_) (fun c => ?_)
  · have c := (n_eq0 (by omega)).mp c
    refine Tm_suc (fun k => by rw [x_kind]) ?_
    rw [if_pos c]
    exact Tm_some rfl
  · have c : ¬ m = 0 := fun z => c (by rw [z]; rfl)
    rw [if_neg c]
    refine Tm_suc (fun k => by rw [x_kind]) ?_
    rw [hL]
    refine Tm_ite (fun d => ?_) (fun d => ?_)
    · have d := (n_le (p := 3) (by decide) (by omega)).mp d
      rw [if_neg (by omega)]
      refine Tm_suc (fun k => by rw [x_kind]) ?_
      rw [hL]
      refine Tm_chk (n_in (by omega) (by omega)) ?_
      rw [n_cl (p := m) (by omega)]
      refine Tm_suc (fun k => by rw [x_kind]) ?_
      have hg : g m := hm.resolve_left (by omega)
      obtain ⟨k, n, s, t, h1, _⟩ := HS_at hS hg
      have hk := h1.2.2.2.2.1
      refine Tm_some ?_
      rw [upd_same, h1.1, n_cl (by omega)]
    · have d : ¬ 3 ≤ m := fun z => d ((n_le (p := 3) (by decide) (by omega)).mpr z)
      rw [if_pos (by omega)]
      refine Tm_suc (fun k => by rw [x_kind]) ?_
      exact Tm_some rfl
theorem s_size (hS : HS g l B h σ) {m : Nat} (hm : m < 3 ∨ g m) {L : Nat → Int32} (hL : L 1 = nI m) : Tm (fun k => x_size k 0 L σ) (fun r => r = (nI (szN (σ.2.2 28) m), σ)) := by
  have hb := HS_vb hS hm
  unfold szN
  refine Tm_suc (fun k => by rw [x_size]) ?_
  rw [hL]
  refine Tm_ite (fun d => ?_) (fun d => ?_)
  · have d := (n_le (p := 3) (by decide) (by omega)).mp d
    rw [if_neg (by omega)]
    have hg : g m := hm.resolve_left (by omega)
    obtain ⟨k, n, s, t, h1, h2, h3⟩ := HS_at hS hg
    have h6 := h1.2.2.2.2.2.1
    have hB := HS_b hS
    refine Tm_suc (fun k => by rw [x_size]) ?_
    rw [hL, show nI m + 2 = nI (m + 2) from n_add (q := 2) (by omega)]
    refine Tm_chk (n_in (by omega) (by omega)) ?_
    rw [n_cl (p := m + 2) (by omega)]
    refine Tm_suc (fun k => by rw [x_size]) ?_
    refine Tm_some ?_
    rw [upd_same, h1.2.2.1, n_cl (by omega)]
  · have d : ¬ 3 ≤ m := fun z => d ((n_le (p := 3) (by decide) (by omega)).mpr z)
    rw [if_pos (by omega)]
    refine Tm_suc (fun k => by rw [x_size]) ?_
    exact Tm_some rfl
theorem s_height (hS : HS g l B h σ) {m : Nat} (hm : m < 3 ∨ g m) {L : Nat → Int32} (hL : L 1 = nI m) : Tm (fun k => x_height k 0 L σ) (fun r => r = (nI (htN (σ.2.2 28) m), σ)) := by
  have hb := HS_vb hS hm
  unfold htN
  refine Tm_suc (fun k => by rw [x_height]) ?_
  rw [hL]
  refine Tm_ite (fun d => ?_) (fun d => ?_)
  · have d := (n_le (p := 3) (by decide) (by omega)).mp d
    rw [if_neg (by omega)]
    have hg : g m := hm.resolve_left (by omega)
    obtain ⟨k, n, s, t, h1, h2, h3⟩ := HS_at hS hg
    have h6 := h1.2.2.2.2.2.2.1
    have hB := HS_b hS
    refine Tm_suc (fun k => by rw [x_height]) ?_
    rw [hL, show nI m + 3 = nI (m + 3) from n_add (q := 3) (by omega)]
    refine Tm_chk (n_in (by omega) (by omega)) ?_
    rw [n_cl (p := m + 3) (by omega)]
    refine Tm_suc (fun k => by rw [x_height]) ?_
    refine Tm_some ?_
    rw [upd_same, h1.2.2.2.1, n_cl (by omega)]
  · have d : ¬ 3 ≤ m := fun z => d ((n_le (p := 3) (by decide) (by omega)).mpr z)
    rw [if_pos (by omega)]
    refine Tm_suc (fun k => by rw [x_height]) ?_
    exact Tm_some rfl
theorem szN_b (hS : HS g l B h σ) {m : Nat} (hm : m < 3 ∨ g m) : 1 ≤ szN (σ.2.2 28) m ∧ szN (σ.2.2 28) m ≤ 1000 ∧ htN (σ.2.2 28) m ≤ 30 := by
  unfold szN htN
  by_cases c : m < 3
  · rw [if_pos c, if_pos c]; decide
  · rw [if_neg c, if_neg c]
    obtain ⟨k, n, s, t, h1, _⟩ := HS_at hS (hm.resolve_left c)
    have h6 := h1.2.2.2.2.2.1
    have h7 := h1.2.2.2.2.2.2.1
    rw [h1.2.2.1, h1.2.2.2.1, n_cl (by omega), n_cl (by omega)]
    omega
end HSR

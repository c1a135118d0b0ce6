section JnS119
/-! One byte, a member, maps (reference). -/
section MAP
variable {g : Nat → Prop} {l : List Nat} {B h t : Nat} {σ : MS}
theorem s_byteString (hP : VP g l B h t σ) (L : Nat → Int32) : Tm (fun k => x_byteString k 0 L σ) (VO g B h t σ) := by
  have hS := hP.1
  have hb := HS_b hS
  have hB := hS.2.1
  refine Tm_suc (fun k => by rw [x_byteString]) ?_
  refine Tm_ob (s_make hS (n := 1) (by decide) rfl) (fun r hr => ?_)
  rcases hr with ⟨z, hr⟩ | ⟨z, hr⟩
  · rw [hr]
    refine Tm_ite (fun w => absurd (er_le0 (ErB_er (e := 5) hP.2.2.2 (by decide)) w) (mEr_e (by decide))) (fun _ => ?_)
    exact Tm_some (VO_er hP (e := 5) (by decide))
  rw [hr]
  refine Tm_ite (fun w => ?_) (fun _ => Tm_some (VO_mk hS hP.2.2.2 hP.2.1 z))
  show Tm (fun k => x_byteString k 1 (upd L 2 (nI h)) (mMk σ h 4 1)) _
  refine Tm_suc (fun k => by rw [x_byteString]) ?_
  show Tm (fun k => if ¬ (nI h + 4 < 0 ∨ 1740000 ≤ (nI h + 4).toNatClampNeg) then (x_byteString k 2 (upd L 2 (nI h)) (mAr (mMk σ h 4 1) 28 (nI h + 4).toNatClampNeg (L 1))) else none) _
  rw [show nI h + 4 = nI (h + 4) from n_add (q := 4) (by omega)]
  refine Tm_chk (n_in (by omega) (by omega)) ?_
  rw [n_cl (p := h + 4) (by omega)]
  refine Tm_suc (fun k => by rw [x_byteString]) ?_
  show Tm (fun k => if ¬ (nI h + 2 < 0 ∨ 1740000 ≤ (nI h + 2).toNatClampNeg) then (x_byteString k 3 (upd L 2 (nI h)) (mAr (mAr (mMk σ h 4 1) 28 (h + 4) (L 1)) 28 (nI h + 2).toNatClampNeg 2)) else none) _
  rw [show nI h + 2 = nI (h + 2) from n_add (q := 2) (by omega)]
  refine Tm_chk (n_in (by omega) (by omega)) ?_
  rw [n_cl (p := h + 2) (by omega)]
  refine Tm_suc (fun k => by rw [x_byteString]) ?_
  have e : (mAr (mAr (mMk σ h 4 1) 28 (h + 4) (L 1)) 28 (h + 2) 2).2.2 28 = upd (upd (upd (upd (upd (upd (σ.2.2 28) h 4) (h + 1) (nI 1)) (h + 2) 1) (h + 3) 0) (h + 4) (L 1)) (h + 2) 2 := by rw [mAr_s, mAr_s, mMk_28]
  have f1 : FW t σ (mAr (mAr (mMk σ h 4 1) 28 (h + 4) (L 1)) 28 (h + 2) 2) := FW_tr FW_mk (FW_tr (FW_ar (Or.inl rfl)) (FW_ar (Or.inl rfl)))
  have s1 : ∀ j, j ≠ 55 → (mAr (mAr (mMk σ h 4 1) 28 (h + 4) (L 1)) 28 (h + 2) 2).1 j = σ.1 j := fun j hj => mMk_s (k := 4) hj
  have s55 : (mAr (mAr (mMk σ h 4 1) 28 (h + 4) (L 1)) 28 (h + 2) 2).1 55 = nI (h + 4 + 1) := by
    show nI (h + (4 + 1)) = _
    rw [Nat.add_assoc]
  show Tm (fun k => some (nI h, mAr (mAr (mMk σ h 4 1) 28 (h + 4) (L 1)) 28 (h + 2) 2)) _
  generalize mAr (mAr (mMk σ h 4 1) 28 (h + 4) (L 1)) 28 (h + 2) 2 = υ at e f1 s1 s55
  refine Tm_some ⟨_, _, _, HS_good (n := 1) (k := 4) (s := 2) (u := 0) hS z (s1 54 (by decide)) s55 (fun i h1 h2 => ?_) ?_, f1, (s1 59 (by decide)).trans hP.2.1, ErB_c (s1 56 (by decide)) hP.2.2.2, fun z => by rw [s1 56 (by decide)]; exact z, ⟨h, rfl, Or.inr (Or.inr rfl)⟩⟩
  · rw [e, upd_other (by omega), upd_other (by omega), upd_other (by omega), upd_other (by omega), upd_other (by omega), upd_other (by omega)]
  · refine ⟨?_, ?_, ?_, ?_, by omega, by omega, by omega, by omega, fun z => absurd z (by decide), fun z => absurd z (by decide), fun _ => rfl, fun z => absurd z (by decide)⟩
    · rw [e, upd_other (by omega), upd_other (by omega), upd_other (by omega), upd_other (by omega), upd_other (by omega), upd_same]; rfl
    · rw [e, upd_other (by omega), upd_other (by omega), upd_other (by omega), upd_other (by omega), upd_same]
    · rw [e, upd_same]; rfl
    · rw [e, upd_other (by omega), upd_other (by omega), upd_same]; rfl
theorem s_memberAt (hP : VP g l B h t σ) {v n i : Nat} (hv : g v) (hk : 4 ≤ kdN (σ.2.2 28) v) (hn : σ.2.2 28 (v + 1) = nI n) (hi : i < n) (hn2 : n ≤ 3996) {L : Nat → Int32} (h1 : L 1 = nI v) (h2 : L 2 = nI i) : Tm (fun k => x_memberAt k 0 L σ) (VO g B h t σ) := by
  have hS := hP.1
  have hb := HS_b hS
  have hB := hS.2.1
  obtain ⟨n', v1, v2, v3, v4, v5, v6, v7⟩ := ob_at hS hv
  have e : n' = n := (n_eq (by omega) (by omega)).mp (v1.symm.trans hn)
  subst e
  have b2 : ∀ (N : Nat → Int32) (r : Int32 × MS), N 100 = r.1 → VO g B h t σ r → Tm (fun k => x_memberAt k 2 N r.2) (VO g B h t σ) := fun N r hN hr => by
    refine Tm_suc (fun k => by rw [x_memberAt]) ?_
    rw [hN]; exact Tm_some hr
  refine Tm_suc (fun k => by rw [x_memberAt]) ?_
  rw [h1, h2, show nI v + 4 = nI (v + 4) from n_add (q := 4) (by omega), n_add (by omega)]
  refine Tm_chk (n_in (by omega) (by omega)) ?_
  rw [n_cl (p := v) (by omega), v5]
  refine Tm_ite (fun _ => ?_) (fun w => ?_)
  · refine Tm_chk (n_in (by omega) (by omega)) ?_
    exact Tm_ob (s_byteString hP _) (fun r hr => b2 _ r rfl hr)
  · have hk5 : 5 ≤ kdN (σ.2.2 28) v := by
      by_cases e : kdN (σ.2.2 28) v = 4
      · exact absurd (by rw [e]; rfl) w
      · omega
    obtain ⟨m, m1, m2⟩ := v7 hk5 i hi
    refine Tm_suc (fun k => by rw [x_memberAt]) ?_
    rw [h1, h2, show nI v + 4 = nI (v + 4) from n_add (q := 4) (by omega), n_add (by omega)]
    refine Tm_chk (n_in (by omega) (by omega)) ?_
    rw [n_cl (p := v + 4 + i) (by omega), m1]
    exact b2 _ (nI m, σ) rfl (VO_id hP ⟨m, rfl, m2⟩)
/-- a set of pairs -/
def MpO (g : Nat → Prop) (H : Nat → Int32) (v n : Nat) : Prop := ∀ i, i < n → ∃ p, H (v + 4 + i) = nI p ∧ g p ∧ kdN H p = 5 ∧ H (p + 1) = nI 2
def IMp (g : Nat → Prop) (v : Nat) (σ : MS) (r : Int32 × MS) : Prop := r.2 = σ ∧ (r.1 = 0 ∨ (r.1 = 1 ∧ g v ∧ kdN (σ.2.2 28) v = 6 ∧ ∃ n, n ≤ 3996 ∧ σ.2.2 28 (v + 1) = nI n ∧ MpO g (σ.2.2 28) v n))
theorem s_isMap (hS : HS g l B h σ) {v : Nat} (hv : v < 3 ∨ g v) {L : Nat → Int32} (h1 : L 1 = nI v) : Tm (fun k => x_isMap k 0 L σ) (IMp g v σ) := by
  have hb := HS_b hS
  have hB := hS.2.1
  have kv := kdN_6 hS hv
  refine Tm_suc (fun k => by rw [x_isMap]) ?_
  refine Tm_ob (s_kind hS hv (by exact h1)) (fun r hr => ?_)
  rw [hr]
  refine Tm_ite (fun w => ?_) (fun _ => ?_)
  · have w := (n_eq (q := 6) (by omega) (by decide)).mp w
    have gv := kdN_ge hS hv (by omega)
    obtain ⟨n, v1, v2, v3, v4, v5, v6, v7⟩ := ob_at hS gv
    have v7 := v7 (by omega)
    have b6 : ∀ (N : Nat → Int32), (N 2 = 0 ∨ (N 2 = 1 ∧ MpO g (σ.2.2 28) v n)) → Tm (fun k => x_isMap k 6 N σ) (IMp g v σ) := fun N hN => by
      refine Tm_suc (fun k => by rw [x_isMap]) ?_
      rcases hN with hN | ⟨hN, hM⟩
      · refine Tm_ite (fun _ => Tm_some ⟨rfl, Or.inl hN⟩) (fun w => absurd (Or.inl hN) w)
      · refine Tm_ite (fun _ => Tm_some ⟨rfl, Or.inr ⟨hN, gv, w, n, v2, v1, hM⟩⟩) (fun w => absurd (Or.inr hN) w)
    have b3 : ∀ (q i : Nat) (N : Nat → Int32), q + i = n → N 1 = nI v → (N 2 = 0 ∨ (N 2 = 1 ∧ MpO g (σ.2.2 28) v i)) → N 3 = nI i → Tm (fun k => x_isMap k 3 N σ) (IMp g v σ) := by
      intro q
      induction q with
      | zero =>
        intro i N hi n1 n2 n3
        have : i = n := by omega
        subst this
        refine Tm_suc (fun k => by rw [x_isMap]) ?_
        rw [n1, n3, show nI v + 1 = nI (v + 1) from n_add1 v]
        refine Tm_ite (fun z => b6 N (Or.inl z)) (fun _ => ?_)
        refine Tm_chk (n_in (by omega) (by omega)) ?_
        rw [n_cl (p := v + 1) (by omega), v1]
        exact Tm_ite (fun _ => b6 N n2) (fun w => absurd ((n_le (by omega) (by omega)).mpr (by omega)) w)
      | succ q ih =>
        intro i N hi n1 n2 n3
        obtain ⟨m, m1, m2⟩ := v7 i (by omega)
        refine Tm_suc (fun k => by rw [x_isMap]) ?_
        rw [n1, n3, show nI v + 1 = nI (v + 1) from n_add1 v, show nI v + 4 = nI (v + 4) from n_add (q := 4) (by omega), n_add (by omega)]
        refine Tm_ite (fun z => b6 N (Or.inl z)) (fun z => ?_)
        have hM : MpO g (σ.2.2 28) v i := by
          rcases n2 with n2 | n2
          · exact absurd n2 z
          · exact n2.2
        refine Tm_chk (n_in (by omega) (by omega)) ?_
        rw [n_cl (p := v + 1) (by omega), v1]
        refine Tm_ite (fun w => absurd ((n_le (by omega) (by omega)).mp w) (by omega)) (fun _ => ?_)
        refine Tm_chk (n_in (by omega) (by omega)) ?_
        rw [n_cl (p := v + 4 + i) (by omega), m1]
        have b4 : ∀ M : Nat → Int32, M 1 = nI v → M 3 = nI i → Tm (fun k => x_isMap k 4 M σ) (IMp g v σ) := fun M p1 p3 => by
          refine Tm_suc (fun k => by rw [x_isMap]) ?_
          refine Tm_suc (fun k => by rw [x_isMap]) ?_
          exact ih (i + 1) _ (by omega) p1 (Or.inl rfl) (by show M 3 + 1 = _; rw [p3, n_add1])
        refine Tm_ob (s_kind hS m2 rfl) (fun r hr => ?_)
        rw [hr]
        have km := kdN_6 hS m2
        refine Tm_ite (fun w5 => ?_) (fun _ => b4 _ n1 n3)
        have w5 := (n_eq (q := 5) (by omega) (by decide)).mp w5
        have gm := kdN_ge hS m2 (by omega)
        obtain ⟨p, p1, p2, p3, p4, -, -, -⟩ := ob_at hS gm
        rw [show nI m + 1 = nI (m + 1) from n_add1 m]
        refine Tm_chk (n_in (by omega) (by omega)) ?_
        rw [n_cl (p := m + 1) (by omega)]
        refine Tm_ite (fun w2 => ?_) (fun _ => b4 _ n1 n3)
        refine Tm_suc (fun k => by rw [x_isMap]) ?_
        refine ih (i + 1) _ (by omega) n1 (Or.inr ⟨rfl, fun j hj => ?_⟩) (by show N 3 + 1 = _; rw [n3, n_add1])
        by_cases e : j = i
        · rw [e]; exact ⟨m, m1, gm, w5, w2⟩
        · exact hM j (by omega)
    refine Tm_suc (fun k => by rw [x_isMap]) ?_
    exact b3 n 0 _ (by omega) h1 (Or.inr ⟨rfl, fun j hj => absurd hj (Nat.not_lt_zero j)⟩) rfl
  · refine Tm_suc (fun k => by rw [x_isMap]) ?_
    refine Tm_suc (fun k => by rw [x_isMap]) ?_
    refine Tm_suc (fun k => by rw [x_isMap]) ?_
    refine Tm_ite (fun _ => ?_) (fun w => absurd rfl w)
    refine Tm_suc (fun k => by rw [x_isMap]) ?_
    exact Tm_ite (fun _ => Tm_some ⟨rfl, Or.inl rfl⟩) (fun w => absurd (Or.inl rfl) w)
end MAP
end JnS119
section JnS120
/-! Images, sides, parts (reference). -/
section IMG
variable {g : Nat → Prop} {l : List Nat} {B h t : Nat} {σ : MS}
/-- a pair -/
theorem pr_at (hS : HS g l B h σ) {p : Nat} (gp : g p) (kp : kdN (σ.2.2 28) p = 5) (np : σ.2.2 28 (p + 1) = nI 2) : B + 4 ≤ p ∧ p + 6 ≤ h ∧ (∃ a, σ.2.2 28 (p + 4) = nI a ∧ (a < 3 ∨ g a)) ∧ ∃ b, σ.2.2 28 (p + 5) = nI b ∧ (b < 3 ∨ g b) := by
  obtain ⟨n, v1, v2, v3, v4, v5, v6, v7⟩ := ob_at hS gp
  have e : n = 2 := (n_eq (by omega) (by omega)).mp (v1.symm.trans np)
  subst e
  exact ⟨v3, by omega, v7 (by omega) 0 (by omega), v7 (by omega) 1 (by omega)⟩
theorem s_image (hP : VP g l B h t σ) {v x : Nat} (hv : v < 3 ∨ g v) (hx : x < 3 ∨ g x) {L : Nat → Int32} (h1 : L 1 = nI v) (h2 : L 2 = nI x) : Tm (fun k => x_image k 0 L σ) (VO g B h t σ) := by
  have hS := hP.1
  have hb := HS_b hS
  have hB := hS.2.1
  have ht := hP.2.2.1
  refine Tm_suc (fun k => by rw [x_image]) ?_
  refine Tm_ob (s_isMap hS hv (by exact h1)) (fun r hr => ?_)
  obtain ⟨hr1, hr2⟩ := hr
  rw [hr1]
  rcases hr2 with hr2 | ⟨hr2, gv, kv, n, hn, v1, hM⟩
  · refine Tm_ite (fun _ => ?_) (fun w => absurd hr2 w)
    exact Tm_ob (s_wrongKind _) (fun r hr => Tm_some (VO_wk hP hr))
  refine Tm_ite (fun w => absurd (hr2.symm.trans w) (by decide)) (fun _ => ?_)
  obtain ⟨n', w1, w2, w3, w4, -, -, -⟩ := ob_at hS gv
  have e : n' = n := (n_eq (by omega) (by omega)).mp (w1.symm.trans v1)
  subst e
  have b4 : ∀ (p : Nat) (N : Nat → Int32) (τ : MS), p ≤ n' → N 3 = nI t → PuS g t p σ τ → Tm (fun k => x_image k 4 N τ) (VO g B h t σ) := fun p N τ hp n3 hU => by
    refine Tm_suc (fun k => by rw [x_image]) ?_
    exact Tm_ob (PuS_set hU hS hP.2.2.2 (by omega) (by omega) (by exact n3)) (fun r hr => Tm_some hr)
  have b2 : ∀ (q i p : Nat) (N : Nat → Int32) (τ : MS), q + i = n' → p ≤ i → N 1 = nI v → N 2 = nI x → N 3 = nI t → N 4 = nI i → PuS g t p σ τ → Tm (fun k => x_image k 2 N τ) (VO g B h t σ) := by
    intro q
    induction q with
    | zero =>
      intro i p N τ hi hp n1 n2 n3 n4 hU
      refine Tm_suc (fun k => by rw [x_image]) ?_
      rw [n1, n4, show nI v + 1 = nI (v + 1) from n_add1 v]
      refine Tm_chk (n_in (by omega) (by omega)) ?_
      rw [n_cl (p := v + 1) (by omega), hU.2.1 28 (by decide), v1]
      exact Tm_ite (fun _ => b4 p N τ (by omega) n3 hU) (fun w => absurd ((n_le (by omega) (by omega)).mpr (by omega)) w)
    | succ q ih =>
      intro i p N τ hi hp n1 n2 n3 n4 hU
      have b3 : ∀ (p' : Nat) (M : Nat → Int32) (τ' : MS), p' ≤ i + 1 → M 1 = nI v → M 2 = nI x → M 3 = nI t → M 4 = nI i → PuS g t p' σ τ' → Tm (fun k => x_image k 3 M τ') (VO g B h t σ) := fun p' M τ' hp' m1 m2 m3 m4 hU' => by
        refine Tm_suc (fun k => by rw [x_image]) ?_
        exact ih (i + 1) p' _ _ (by omega) hp' m1 m2 m3 (by show M 4 + 1 = _; rw [m4, n_add1]) hU'
      obtain ⟨c, c1, c2, c3, c4⟩ := hM i (by omega)
      obtain ⟨d1, d2, ⟨a, a1, a2⟩, b, bb1, bb2⟩ := pr_at hS c2 c3 c4
      refine Tm_suc (fun k => by rw [x_image]) ?_
      rw [n1, n4, show nI v + 1 = nI (v + 1) from n_add1 v, show nI v + 4 = nI (v + 4) from n_add (q := 4) (by omega), n_add (by omega)]
      refine Tm_chk (n_in (by omega) (by omega)) ?_
      rw [n_cl (p := v + 1) (by omega), hU.2.1 28 (by decide), v1]
      refine Tm_ite (fun w => absurd ((n_le (by omega) (by omega)).mp w) (by omega)) (fun _ => ?_)
      refine Tm_chk (n_in (by omega) (by omega)) ?_
      rw [n_cl (p := v + 4 + i) (by omega), c1, show nI c + 4 = nI (c + 4) from n_add (q := 4) (by omega), show nI c + 5 = nI (c + 5) from n_add (q := 5) (by omega)]
      refine Tm_chk (n_in (by omega) (by omega)) ?_
      rw [n_cl (p := c + 4) (by omega), a1]
      refine Tm_ob (s_compareV (PuS_HS hU hS) a2 hx rfl (by exact n2)) (fun r hr => ?_)
      rw [hr]
      refine Tm_ite (fun _ => ?_) (fun _ => b3 p _ τ (by omega) n1 n2 n3 n4 hU)
      refine Tm_chk (n_in (by omega) (by omega)) ?_
      rw [n_cl (p := c + 5) (by omega), hU.2.1 28 (by decide), bb1]
      exact Tm_ob (PuS_push hU (by omega) bb2 rfl) (fun r hr => b3 (p + 1) _ _ (by omega) n1 n2 n3 n4 hr)
  refine Tm_suc (fun k => by rw [x_image]) ?_
  rw [hP.2.1]
  exact b2 n' 0 0 _ _ (by omega) (Nat.le_refl _) h1 h2 rfl rfl (PuS_0 hP.2.1)
theorem s_side (hP : VP g l B h t σ) {v c : Nat} (hv : v < 3 ∨ g v) (hc : c < 2) {L : Nat → Int32} (h1 : L 1 = nI v) (h2 : L 2 = nI c) : Tm (fun k => x_side k 0 L σ) (VO g B h t σ) := by
  have hS := hP.1
  have hb := HS_b hS
  have hB := hS.2.1
  have ht := hP.2.2.1
  refine Tm_suc (fun k => by rw [x_side]) ?_
  refine Tm_ob (s_isMap hS hv (by exact h1)) (fun r hr => ?_)
  obtain ⟨hr1, hr2⟩ := hr
  rw [hr1]
  rcases hr2 with hr2 | ⟨hr2, gv, kv, n, hn, v1, hM⟩
  · refine Tm_ite (fun _ => ?_) (fun w => absurd hr2 w)
    exact Tm_ob (s_wrongKind _) (fun r hr => Tm_some (VO_wk hP hr))
  refine Tm_ite (fun w => absurd (hr2.symm.trans w) (by decide)) (fun _ => ?_)
  obtain ⟨n', w1, w2, w3, w4, -, -, -⟩ := ob_at hS gv
  have e : n' = n := (n_eq (by omega) (by omega)).mp (w1.symm.trans v1)
  subst e
  have b8 : ∀ (N : Nat → Int32) (τ : MS), N 3 = nI t → PuS g t n' σ τ → Tm (fun k => x_side k 8 N τ) (VO g B h t σ) := fun N τ n3 hU => by
    refine Tm_suc (fun k => by rw [x_side]) ?_
    refine Tm_ite (fun _ => ?_) (fun _ => ?_)
    · refine Tm_suc (fun k => by rw [x_side]) ?_
      exact Tm_ob (PuS_set hU hS hP.2.2.2 (by omega) (by omega) (by exact n3)) (fun r hr => Tm_some hr)
    · rw [n3]
      show Tm (fun k => x_side k 9 N (mSc τ 59 (nI t))) _
      refine Tm_suc (fun k => by rw [x_side]) ?_
      refine Tm_ob (s_fail _ _) (fun r hr => ?_)
      rw [hr]
      have hS1 := PuS_HS hU hS
      exact Tm_some (PuS_VO hU hS (VO_sc hS1 (VO_er2 (σ := mSc τ 59 (nI t)) (e := 3) (HS_c hS1 rfl rfl rfl) (ErB_c (show τ.1 56 = σ.1 56 from hU.1 56 (by decide)) hP.2.2.2) rfl (by decide))))
  have b4 : ∀ (q i : Nat) (N : Nat → Int32) (τ : MS), q + i = n' → N 3 = nI t → N 5 = nI (t + i) → PuS g t n' σ τ → Tm (fun k => x_side k 4 N τ) (VO g B h t σ) := by
    intro q
    induction q with
    | zero =>
      intro i N τ hi n3 n5 hU
      refine Tm_suc (fun k => by rw [x_side]) ?_
      rw [hU.2.2.2.1, n5]
      exact Tm_ite (fun _ => b8 N τ n3 hU) (fun w => absurd ((n_le (by omega) (by omega)).mpr (by omega)) w)
    | succ q ih =>
      intro i N τ hi n3 n5 hU
      have b7 : ∀ M : Nat → Int32, M 3 = nI t → M 5 = nI (t + i) → Tm (fun k => x_side k 7 M τ) (VO g B h t σ) := fun M m3 m5 => by
        refine Tm_suc (fun k => by rw [x_side]) ?_
        exact ih (i + 1) _ _ (by omega) m3 (by show M 5 + 1 = _; rw [m5, n_add1, Nat.add_assoc]) hU
      have b5 : Tm (fun k => x_side k 5 N τ) (VO g B h t σ) := by
        refine Tm_suc (fun k => by rw [x_side]) ?_
        exact b7 _ n3 n5
      have b6 : Tm (fun k => x_side k 6 N τ) (VO g B h t σ) := by
        refine Tm_suc (fun k => by rw [x_side]) ?_
        exact b7 _ n3 n5
      refine Tm_suc (fun k => by rw [x_side]) ?_
      rw [hU.2.2.2.1, n5]
      refine Tm_ite (fun w => absurd ((n_le (by omega) (by omega)).mp w) (by omega)) (fun _ => ?_)
      refine Tm_ite (fun _ => ?_) (fun _ => b5)
      refine Tm_chk (n_in (by omega) (by omega)) ?_
      exact Tm_ite (fun _ => b5) (fun _ => b6)
  have b2 : ∀ (q i : Nat) (N : Nat → Int32) (τ : MS), q + i = n' → N 1 = nI v → N 2 = nI c → N 3 = nI t → N 4 = nI i → PuS g t i σ τ → Tm (fun k => x_side k 2 N τ) (VO g B h t σ) := by
    intro q
    induction q with
    | zero =>
      intro i N τ hi n1 n2 n3 n4 hU
      have : i = n' := by omega
      subst this
      refine Tm_suc (fun k => by rw [x_side]) ?_
      rw [n1, n4, show nI v + 1 = nI (v + 1) from n_add1 v]
      refine Tm_chk (n_in (by omega) (by omega)) ?_
      rw [n_cl (p := v + 1) (by omega), hU.2.1 28 (by decide), v1]
      refine Tm_ite (fun _ => ?_) (fun w => absurd ((n_le (by omega) (by omega)).mpr (by omega)) w)
      refine Tm_suc (fun k => by rw [x_side]) ?_
      exact b4 i 0 _ _ (by omega) n3 n3 hU
    | succ q ih =>
      intro i N τ hi n1 n2 n3 n4 hU
      obtain ⟨p, c1, c2, c3, c4⟩ := hM i (by omega)
      obtain ⟨d1, d2, hA, hBb⟩ := pr_at hS c2 c3 c4
      have hy : ∃ y, σ.2.2 28 (p + 4 + c) = nI y ∧ (y < 3 ∨ g y) := by
        have : c = 0 ∨ c = 1 := by omega
        rcases this with rfl | rfl
        · exact hA
        · exact hBb
      obtain ⟨y, y1, y2⟩ := hy
      refine Tm_suc (fun k => by rw [x_side]) ?_
      rw [n1, n4, n2, show nI v + 1 = nI (v + 1) from n_add1 v, show nI v + 4 = nI (v + 4) from n_add (q := 4) (by omega), n_add (by omega)]
      refine Tm_chk (n_in (by omega) (by omega)) ?_
      rw [n_cl (p := v + 1) (by omega), hU.2.1 28 (by decide), v1]
      refine Tm_ite (fun w => absurd ((n_le (by omega) (by omega)).mp w) (by omega)) (fun _ => ?_)
      refine Tm_chk (n_in (by omega) (by omega)) ?_
      rw [n_cl (p := v + 4 + i) (by omega), c1, show nI p + 4 = nI (p + 4) from n_add (q := 4) (by omega), n_add (by omega)]
      refine Tm_chk (n_in (by omega) (by omega)) ?_
      rw [n_cl (p := p + 4 + c) (by omega), y1]
      exact Tm_ob (PuS_push hU (by omega) y2 rfl) (fun r hr => ih (i + 1) _ _ (by omega) n1 n2 n3 (n_add1 i) hr)
  refine Tm_suc (fun k => by rw [x_side]) ?_
  rw [hP.2.1]
  exact b2 n' 0 _ _ (by omega) h1 h2 rfl rfl (PuS_0 hP.2.1)
end IMG
end JnS120
section JnS121
/-! Words of kinds; characters; parts (reference). -/
section TYP
variable {g : Nat → Prop} {l : List Nat} {B h t : Nat} {σ : MS}
theorem PrF_VP {τ : MS} (hN : PrF σ τ) (hP : VP g l B h t σ) : VP g l B h t τ := ⟨PrF_HS hN hP.1, (hN.1 59 (by decide)).trans hP.2.1, hP.2.2.1, ErB_c (hN.1 56 (by decide)) hP.2.2.2⟩
theorem PrF_VO {τ : MS} {r : Int32 × MS} (hN : PrF σ τ) (hP : VP g l B h t σ) (b : VO g B h t τ r) : VO g B h t σ r :=
  VO_tr (τ := τ) (g1 := g) (l1 := l) (h1 := h) ⟨PrF_HS hN hP.1, fun _ z => z, Nat.le_refl _, fun i _ _ => by rw [hN.2 28 (by decide)]⟩ ⟨fun j hj => hN.1 j (by omega), fun j hj => hN.2 j (by omega), fun i _ => by rw [hN.2 29 (by decide)]⟩ (fun z => by rw [hN.1 56 (by decide)]; exact z) b
/-- the table of the kinds' words: where its spaces are -/
def TyT (H : Nat → Int32) : Prop := H 2 = 32 ∧ H 8 = 32 ∧ H 14 = 32 ∧ H 19 = 32 ∧ H 26 = 32 ∧ H 32 = 32 ∧ H 36 = 32
theorem s_putWord (hT : TyT (σ.2.2 2)) {k : Nat} (hk : k ≤ 6) (h93 : σ.1 93 = nI 0) {L : Nat → Int32} (h1 : L 1 = nI k) : Tm (fun f => x_putWord f 0 L σ) (fun r => PrF σ r.2 ∧ ∃ p, r.2.1 93 = nI p ∧ p ≤ 40) := by
  obtain ⟨t1, t2, t3, t4, t5, t6, t7⟩ := hT
  have b4 : ∀ (q j : Nat) (p : Nat) (N : Nat → Int32) (τ : MS), 36 ≤ q + j → j ≤ 36 → p ≤ j → N 2 = nI j → τ.1 93 = nI p → PrF σ τ → Tm (fun f => x_putWord f 4 N τ) (fun r => PrF σ r.2 ∧ ∃ p, r.2.1 93 = nI p ∧ p ≤ 40) := by
    have b5 : ∀ (p : Nat) (N : Nat → Int32) (τ : MS), p ≤ 36 → τ.1 93 = nI p → PrF σ τ → Tm (fun f => x_putWord f 5 N τ) (fun r => PrF σ r.2 ∧ ∃ p, r.2.1 93 = nI p ∧ p ≤ 40) := fun p N τ hp t93 hF => by
      refine Tm_suc (fun k => by rw [x_putWord]) ?_
      exact Tm_some ⟨hF, p, t93, by omega⟩
    intro q
    induction q with
    | zero =>
      intro j p N τ hj hj2 hp n2 t93 hF
      have : j = 36 := by omega
      subst this
      refine Tm_suc (fun k => by rw [x_putWord]) ?_
      rw [n2]
      refine Tm_chk (n_in (by omega) (by omega)) ?_
      rw [n_cl (p := 36) (by omega), hF.2 2 (by decide)]
      exact Tm_ite (fun _ => b5 p N τ (by omega) t93 hF) (fun w => absurd t7 w)
    | succ q ih =>
      intro j p N τ hj hj2 hp n2 t93 hF
      refine Tm_suc (fun k => by rw [x_putWord]) ?_
      rw [n2]
      refine Tm_chk (n_in (by omega) (by omega)) ?_
      rw [n_cl (p := j) (by omega), hF.2 2 (by decide)]
      refine Tm_ite (fun _ => b5 p N τ (by omega) t93 hF) (fun w => ?_)
      have hj3 : j < 36 := by
        by_cases e : j = 36
        · rw [e] at w; exact absurd t7 w
        · omega
      refine Tm_chk (n_in2 (by omega) (by omega)) ?_
      refine Tm_ob (s_put t93 (by omega) _) (fun r hr => ?_)
      exact ih (j + 1) (p + 1) _ _ (by omega) (by omega) (by omega) (n_add1 j) hr.2.1 (PrF_tr hF hr.1)
  have b1 : ∀ (q j i : Nat) (N : Nat → Int32), 34 ≤ q + j → j ≤ 33 → (2 < j → 1 ≤ i) → (8 < j → 2 ≤ i) → (14 < j → 3 ≤ i) → (19 < j → 4 ≤ i) → (26 < j → 5 ≤ i) → (32 < j → 6 ≤ i) → i ≤ j → N 1 = nI k → N 2 = nI j → N 3 = nI i → Tm (fun f => x_putWord f 1 N σ) (fun r => PrF σ r.2 ∧ ∃ p, r.2.1 93 = nI p ∧ p ≤ 40) := by
    intro q
    induction q with
    | zero => intro j i N hj hj2; omega
    | succ q ih =>
      intro j i N hj hj2 c1 c2 c3 c4 c5 c6 hij n1 n2 n3
      refine Tm_suc (fun k => by rw [x_putWord]) ?_
      rw [n1, n3, n2]
      refine Tm_ite (fun _ => b4 36 j 0 N σ (by omega) (by omega) (by omega) n2 h93 PrF_rf) (fun w => ?_)
      have hik : i < k := by
        by_cases e : k ≤ i
        · exact absurd ((n_le (by omega) (by omega)).mpr e) w
        · omega
      have hj3 : j ≤ 32 := by
        by_cases e : 32 < j
        · have := c6 e; omega
        · omega
      refine Tm_chk (n_in (by omega) (by omega)) ?_
      rw [n_cl (p := j) (by omega)]
      refine Tm_ite (fun z => ?_) (fun z => ?_)
      · refine Tm_suc (fun k => by rw [x_putWord]) ?_
        refine ih (j + 1) (i + 1) _ (by omega) (by omega) (by omega) (by omega) (by omega) (by omega) (by omega) (by omega) (by omega) n1 ?_ ?_
        · show N 2 + 1 = _
          rw [n2, n_add1]
        · exact n_add1 i
      · have d1 : j ≠ 2 := fun e => z (by rw [e]; exact t1)
        have d2 : j ≠ 8 := fun e => z (by rw [e]; exact t2)
        have d3 : j ≠ 14 := fun e => z (by rw [e]; exact t3)
        have d4 : j ≠ 19 := fun e => z (by rw [e]; exact t4)
        have d5 : j ≠ 26 := fun e => z (by rw [e]; exact t5)
        have d6 : j ≠ 32 := fun e => z (by rw [e]; exact t6)
        refine Tm_suc (fun k => by rw [x_putWord]) ?_
        refine Tm_suc (fun k => by rw [x_putWord]) ?_
        refine ih (j + 1) i _ (by omega) (by omega) (by omega) (by omega) (by omega) (by omega) (by omega) (by omega) (by omega) n1 ?_ ?_
        · show N 2 + 1 = _
          rw [n2, n_add1]
        · exact n_add (q := 0) (by omega)
  refine Tm_suc (fun k => by rw [x_putWord]) ?_
  exact b1 34 0 0 _ (by omega) (by omega) (by omega) (by omega) (by omega) (by omega) (by omega) (by omega) (by omega) h1 rfl rfl
theorem s_typeOf (hP : VP g l B h t σ) (hT : TyT (σ.2.2 2)) {v : Nat} (hv : v < 3 ∨ g v) {L : Nat → Int32} (h1 : L 1 = nI v) : Tm (fun k => x_typeOf k 0 L σ) (VO g B h t σ) := by
  refine Tm_suc (fun k => by rw [x_typeOf]) ?_
  show Tm (fun k => x_typeOf k 1 L (mSc σ 93 0)) _
  have hF : PrF σ (mSc σ 93 0) := PrF_sc (Or.inr rfl)
  have hP1 := PrF_VP hF hP
  have hT1 : TyT ((mSc σ 93 0).2.2 2) := hT
  have h93 : (mSc σ 93 0).1 93 = nI 0 := rfl
  refine Tm_mono (Q := VO g B h t (mSc σ 93 0)) ?_ (fun r hr => PrF_VO hF hP hr)
  generalize mSc σ 93 0 = ρ at hP1 hT1 h93
  refine Tm_suc (fun k => by rw [x_typeOf]) ?_
  refine Tm_ob (s_kind hP1.1 hv (by exact h1)) (fun r hr => ?_)
  rw [hr]
  refine Tm_ob (s_putWord hT1 (kdN_6 hP1.1 hv) h93 rfl) (fun r hr => ?_)
  obtain ⟨hF2, p, p1, p2⟩ := hr
  rw [p1]
  exact Tm_ob (s_stringOf48 (PrF_VP hF2 hP1) (f := 0) (n := p) (by omega) (fun _ => by omega) rfl rfl) (fun s hs => Tm_some (PrF_VO hF2 hP1 hs))
theorem s_character (hP : VP g l B h t σ) {v : Nat} (hv : v < 3 ∨ g v) {L : Nat → Int32} (h1 : L 1 = nI v) : Tm (fun k => x_character k 0 L σ) (VO g B h t σ) := by
  have hS := hP.1
  have kv := kdN_6 hS hv
  refine Tm_suc (fun k => by rw [x_character]) ?_
  refine Tm_ob (s_kind hS hv (by exact h1)) (fun r hr => ?_)
  rw [hr]
  refine Tm_ite (fun w => ?_) (fun _ => Tm_ob (s_wrongKind _) (fun r hr => Tm_some (VO_wk hP hr)))
  have w := (n_eq (q := 2) (by omega) (by decide)).mp w
  obtain ⟨n, hn⟩ := Wh_of hS hv w
  have b2 : ∀ N : Nat → Int32, Tm (fun k => x_character k 2 N σ) (VO g B h t σ) := fun N => by
    refine Tm_suc (fun k => by rw [x_character]) ?_
    refine Tm_ob (s_fail _ σ) (fun r hr => ?_)
    rw [hr]
    exact Tm_some (VO_er hP (e := 4) (by decide))
  refine Tm_suc (fun k => by rw [x_character]) ?_
  refine Tm_ob (s_intOf hS hn (b := 255) (by decide) (by exact h1) rfl) (fun r hr => ?_)
  rw [hr.1]
  refine Tm_ite (fun _ => b2 _) (fun _ => ?_)
  refine Tm_ite (fun _ => ?_) (fun _ => b2 _)
  refine Tm_suc (fun k => by rw [x_character]) ?_
  exact Tm_ob (s_byteString hP _) (fun s hs => Tm_some hs)
theorem s_codeOf (hP : VP g l B h t σ) {v : Nat} (hv : v < 3 ∨ g v) {L : Nat → Int32} (h1 : L 1 = nI v) : Tm (fun k => x_codeOf k 0 L σ) (VO g B h t σ) := by
  have hS := hP.1
  have hb := HS_b hS
  have kv := kdN_6 hS hv
  refine Tm_suc (fun k => by rw [x_codeOf]) ?_
  refine Tm_ob (s_kind hS hv (by exact h1)) (fun r hr => ?_)
  rw [hr]
  refine Tm_ite (fun w => ?_) (fun _ => Tm_ob (s_wrongKind _) (fun r hr => Tm_some (VO_wk hP hr)))
  have w := (n_eq (q := 4) (by omega) (by decide)).mp w
  obtain ⟨n, v1, v2, v3, v4, v5, v6, v7⟩ := ob_at hS (kdN_ge hS hv (by omega))
  refine Tm_suc (fun k => by rw [x_codeOf]) ?_
  rw [h1, show nI v + 1 = nI (v + 1) from n_add1 v]
  refine Tm_chk (n_in (by omega) (by omega)) ?_
  rw [n_cl (p := v + 1) (by omega), v1]
  refine Tm_ite (fun z => ?_) (fun _ => ?_)
  · have z := (n_eq (q := 1) (by omega) (by decide)).mp z
    refine Tm_suc (fun k => by rw [x_codeOf]) ?_
    rw [h1, show nI v + 4 = nI (v + 4) from n_add (q := 4) (by omega)]
    refine Tm_chk (n_in (by omega) (by omega)) ?_
    exact Tm_ob (s_small hP _) (fun s hs => Tm_some hs)
  · refine Tm_ob (s_fail _ σ) (fun r hr => ?_)
    rw [hr]
    exact Tm_some (VO_er hP (e := 4) (by decide))
theorem s_many (hP : VP g l B h t σ) {v : Nat} (hv : v < 3 ∨ g v) {L : Nat → Int32} (h1 : L 1 = nI v) : Tm (fun k => x_many k 0 L σ) (VO g B h t σ) := by
  have hS := hP.1
  have hb := HS_b hS
  have kv := kdN_6 hS hv
  refine Tm_suc (fun k => by rw [x_many]) ?_
  refine Tm_ob (s_kind hS hv (by exact h1)) (fun r hr => ?_)
  rw [hr]
  refine Tm_ite (fun w => ?_) (fun _ => ?_)
  · have w := (n_le (p := 4) (by decide) (by omega)).mp w
    obtain ⟨n, v1, v2, v3, v4, v5, v6, v7⟩ := ob_at hS (kdN_ge hS hv (by omega))
    refine Tm_suc (fun k => by rw [x_many]) ?_
    rw [h1, show nI v + 1 = nI (v + 1) from n_add1 v]
    refine Tm_chk (n_in (by omega) (by omega)) ?_
    exact Tm_ob (s_small hP _) (fun s hs => Tm_some hs)
  · refine Tm_ob (s_fail _ σ) (fun r hr => ?_)
    rw [hr]
    exact Tm_some (VO_er hP (e := 1) (by decide))
theorem s_negative (hP : VP g l B h t σ) {v : Nat} (hv : v < 3 ∨ g v) {L : Nat → Int32} (h1 : L 1 = nI v) : Tm (fun k => x_negative k 0 L σ) (VO g B h t σ) := by
  have hS := hP.1
  have kv := kdN_6 hS hv
  have b2 : ∀ (N : Nat → Int32) (r : Int32 × MS), N 100 = r.1 → VO g B h t σ r → Tm (fun k => x_negative k 2 N r.2) (VO g B h t σ) := fun N r hN hr => by
    refine Tm_suc (fun k => by rw [x_negative]) ?_
    rw [hN]; exact Tm_some hr
  refine Tm_suc (fun k => by rw [x_negative]) ?_
  refine Tm_ob (s_kind hS hv (by exact h1)) (fun r hr => ?_)
  rw [hr]
  refine Tm_ite (fun w => ?_) (fun _ => Tm_ob (s_wrongKind _) (fun r hr => b2 _ r rfl (VO_wk hP hr)))
  have w := (n_eq (q := 2) (by omega) (by decide)).mp w
  obtain ⟨n, hn⟩ := Wh_of hS hv w
  refine Tm_suc (fun k => by rw [x_negative]) ?_
  exact Tm_ob (s_other hP hn (by exact h1)) (fun s hs => b2 _ s rfl hs)
theorem s_turned (hP : VP g l B h t σ) (L : Nat → Int32) : Tm (fun k => x_turned k 0 L σ) (VO g B h t σ) := by
  have b1 : ∀ (N : Nat → Int32) (e : Int32) (τ : MS), VO g B h t σ (e, τ) → Tm (fun k => x_turned k 1 N τ) (VO g B h t σ) := fun N e τ hr => by
    have b3 : ∀ N : Nat → Int32, Tm (fun k => x_turned k 3 N τ) (VO g B h t σ) := fun N => by
      refine Tm_suc (fun k => by rw [x_turned]) ?_
      exact Tm_ob (s_truth _) (fun s hs => Tm_some (VO_tru2 hr hs))
    refine Tm_suc (fun k => by rw [x_turned]) ?_
    refine Tm_ite (fun _ => b3 _) (fun _ => ?_)
    refine Tm_suc (fun k => by rw [x_turned]) ?_
    exact b3 _
  refine Tm_suc (fun k => by rw [x_turned]) ?_
  refine Tm_ite (fun _ => b1 _ 0 σ (VO_id hP Vd_0)) (fun _ => ?_)
  refine Tm_ite (fun _ => b1 _ 0 σ (VO_id hP Vd_0)) (fun _ => ?_)
  refine Tm_ob (s_fail _ σ) (fun r hr => ?_)
  rw [hr]
  exact b1 _ 0 _ (VO_er hP (e := 9) (by decide))
end TYP
end JnS121
section JnS122
/-! Drawing; parts; pairs (reference). -/
section DRA
variable {g : Nat → Prop} {l : List Nat} {B h t : Nat} {σ : MS}
theorem dw_up (u : UInt64) : ∃ m : Nat, m < 2147483648 ∧ ((u >>> ((33 : Int32).toInt64.toUInt64 &&& Int64.toUInt64 63)).toInt64).toInt = (m : Int) := by
  have e : ((33 : Int32).toInt64.toUInt64 &&& Int64.toUInt64 63) = 33 := by decide
  rw [e]
  have hn : (u >>> 33).toNat = u.toNat / 2 ^ 33 := by
    rw [UInt64.toNat_shiftRight, Nat.shiftRight_eq_div_pow]; rfl
  have hu : u.toNat < 18446744073709551616 := u.toNat_lt
  have hb : (u >>> 33).toNat < 2147483648 := by rw [hn]; omega
  refine ⟨(u >>> 33).toNat, hb, ?_⟩
  generalize u >>> 33 = w at hb
  show w.toBitVec.toInt = _
  have hb2 : w.toBitVec.toNat < 2147483648 := hb
  rw [BitVec.toInt_eq_toNat_of_lt (by omega)]
  rfl
theorem dw_mod {x : Int64} {m n : Nat} (hx : x.toInt = (m : Int)) (hm : m < 2147483648) (h1 : 1 ≤ n) (h2 : n < 2147483648) : ∃ i, i < n ∧ (x - x / (nI n).toInt64 * (nI n).toInt64).toInt32 = nI i := by
  have hle : m / n ≤ m := Nat.div_le_self m n
  have hml : m / n * n ≤ m := Nat.div_mul_le_self m n
  have hmod := Nat.div_add_mod m n
  have hlt : m % n < n := Nat.mod_lt m (by omega)
  rw [Nat.mul_comm] at hmod
  have e1 : (x / (nI n).toInt64).toInt = ((m / n : Nat) : Int) := by
    rw [Int64.toInt_div, hx, w_int h2, Int.tdiv_eq_ediv_of_nonneg (by omega), ← Int.natCast_ediv]
    generalize m / n = z at hle
    exact Int.bmod_eq_of_le (by omega) (by omega)
  have e2 : (x / (nI n).toInt64 * (nI n).toInt64).toInt = ((m / n * n : Nat) : Int) := by
    rw [Int64.toInt_mul, e1, w_int h2, ← Int.natCast_mul]
    generalize m / n * n = z at hml
    exact Int.bmod_eq_of_le (by omega) (by omega)
  have e3 : (x - x / (nI n).toInt64 * (nI n).toInt64).toInt = ((m % n : Nat) : Int) := by
    rw [Int64.toInt_sub, e2, hx]
    generalize m / n * n = z at hml hmod
    generalize m % n = y at hmod hlt
    rw [show (m : Int) - (z : Int) = (y : Int) by omega]
    exact Int.bmod_eq_of_le (by omega) (by omega)
  refine ⟨m % n, hlt, ?_⟩
  rw [i_eq, Int64.toInt_toInt32, e3, n_int (by omega)]
  generalize m % n = y at hlt
  exact Int.bmod_eq_of_le (by omega) (by omega)
theorem s_draw {n : Nat} (h1 : 1 ≤ n) (h2 : n < 2147483648) {L : Nat → Int32} (hL : L 1 = nI n) : Tm (fun k => x_draw k 0 L σ) (fun r => (∃ w, r.2 = (σ.1, w, σ.2.2)) ∧ ∃ i, i < n ∧ r.1 = nI i) := by
  refine Tm_suc (fun k => by rw [x_draw]) ?_
  generalize updW σ.2.1 96 (((σ.2.1 96) * 6364136223846793005) + 1442695040888963407) = w
  refine Tm_suc (fun k => by rw [x_draw]) ?_
  rw [hL]
  refine Tm_chk0 (fun z => ?_) ?_
  · have := congrArg Int64.toInt z
    rw [w_int h2] at this
    have e0 : (0 : Int64).toInt = 0 := rfl
    rw [e0] at this
    omega
  obtain ⟨m, m1, m2⟩ := dw_up (w 96).toUInt64
  obtain ⟨i, i1, i2⟩ := dw_mod m2 m1 h1 h2
  exact Tm_some ⟨⟨w, rfl⟩, i, i1, i2⟩
theorem W_VP {w : Nat → Int64} (hP : VP g l B h t σ) : VP g l B h t (σ.1, w, σ.2.2) := ⟨HS_c hP.1 rfl rfl rfl, hP.2.1, hP.2.2.1, ErB_c rfl hP.2.2.2⟩
theorem W_VO {w : Nat → Int64} {r : Int32 × MS} (hP : VP g l B h t σ) (b : VO g B h t (σ.1, w, σ.2.2) r) : VO g B h t σ r :=
  VO_tr (τ := (σ.1, w, σ.2.2)) (g1 := g) (l1 := l) (h1 := h) ⟨(W_VP hP).1, fun _ z => z, Nat.le_refl _, fun i _ _ => rfl⟩ ⟨fun j _ => rfl, fun j _ => rfl, fun i _ => rfl⟩ (fun z => z) b
theorem s_pair (hP : VP g l B h t σ) {v x : Nat} (hv : v < 3 ∨ g v) (hx : x < 3 ∨ g x) {L : Nat → Int32} (h1 : L 1 = nI v) (h2 : L 2 = nI x) : Tm (fun k => x_pair k 0 L σ) (VO g B h t σ) := by
  have ht := hP.2.2.1
  refine Tm_suc (fun k => by rw [x_pair]) ?_
  refine Tm_ob (PuS_push (PuS_0 hP.2.1) (by omega) hv (by exact h1)) (fun r hr => ?_)
  refine Tm_ob (PuS_push hr (by omega) hx (by exact h2)) (fun s hs => ?_)
  exact Tm_ob (PuS_tup hs hP.1 hP.2.2.2 (by omega) (by exact hP.2.1)) (fun u hu => Tm_some hu)
theorem s_partAt (hP : VP g l B h t σ) {v x : Nat} (hv : v < 3 ∨ g v) (hx : x < 3 ∨ g x) {L : Nat → Int32} (h1 : L 1 = nI v) (h2 : L 2 = nI x) : Tm (fun k => x_partAt k 0 L σ) (VO g B h t σ) := by
  have hS := hP.1
  have hb := HS_b hS
  have hB := hS.2.1
  have kv := kdN_6 hS hv
  have kx := kdN_6 hS hx
  refine Tm_suc (fun k => by rw [x_partAt]) ?_
  refine Tm_ob (s_kind hS hv (by exact h1)) (fun r hr => ?_)
  rw [hr]
  have b1 : (4 ≤ kdN (σ.2.2 28) v) → ∀ N : Nat → Int32, N 1 = nI v → N 2 = nI x → Tm (fun k => x_partAt k 1 N σ) (VO g B h t σ) := by
    intro hk N n1 n2
    obtain ⟨n, v1, v2, v3, v4, v5, v6, v7⟩ := ob_at hS (kdN_ge hS hv (by omega))
    have b5 : ∀ (N : Nat → Int32) (r : Int32 × MS), N 100 = r.1 → VO g B h t σ r → Tm (fun k => x_partAt k 5 N r.2) (VO g B h t σ) := fun N r hN hr => by
      refine Tm_suc (fun k => by rw [x_partAt]) ?_
      rw [hN]; exact Tm_some hr
    refine Tm_suc (fun k => by rw [x_partAt]) ?_
    refine Tm_ob (s_kind hS hx (by exact n2)) (fun r hr => ?_)
    rw [hr]
    refine Tm_ite (fun w => ?_) (fun _ => Tm_ob (s_wrongKind _) (fun r hr => Tm_some (VO_wk hP hr)))
    have w := (n_eq (q := 2) (by omega) (by decide)).mp w
    obtain ⟨m, hm⟩ := Wh_of hS hx w
    refine Tm_suc (fun k => by rw [x_partAt]) ?_
    refine Tm_ob (s_intOf hS hm (b := 100000) (by decide) (by exact n2) rfl) (fun r hr => ?_)
    obtain ⟨r1, y, y1, y2, y3⟩ := hr
    rw [r1]
    refine Tm_ite (fun z => ?_) (fun _ => ?_)
    · have ey : r.1 = nI y ∧ 1 ≤ y := by
        rcases y2 with y2 | y2
        · refine ⟨y2, ?_⟩
          rw [y2] at z
          exact (n_le (p := 1) (by decide) (by omega)).mp z
        · rw [y2, i_le, Int32.toInt_neg, n_int (by omega)] at z
          have e1 : (1 : Int32).toInt = 1 := rfl
          rw [e1, Int.bmod_eq_of_le (by omega) (by omega)] at z
          omega
      refine Tm_suc (fun k => by rw [x_partAt]) ?_
      show Tm (fun k => if ¬ (N 1 + 1 < 0 ∨ 1740000 ≤ (N 1 + 1).toNatClampNeg) then (if r.1 ≤ σ.2.2 28 (N 1 + 1).toNatClampNeg then x_partAt k 4 (upd N 4 r.1) σ else x_partAt k 5 (upd (upd N 4 r.1) 100 0) σ) else none) _
      rw [n1, show nI v + 1 = nI (v + 1) from n_add1 v]
      refine Tm_chk (n_in (by omega) (by omega)) ?_
      rw [n_cl (p := v + 1) (by omega), v1, ey.1]
      refine Tm_ite (fun z2 => ?_) (fun _ => b5 _ (0, σ) rfl (VO_id hP Vd_0))
      have z2 := (n_le (by omega) (by omega)).mp z2
      refine Tm_suc (fun k => by rw [x_partAt]) ?_
      refine Tm_ob (s_memberAt hP (kdN_ge hS hv (by omega)) hk v1 (i := y - 1) (by omega) v2 (by exact n1) (n_sub (p := y) (q := 1) (by omega) (by omega))) (fun s hs => b5 _ s rfl hs)
    · refine Tm_ob (s_fail _ σ) (fun r hr => ?_)
      rw [hr]
      exact Tm_some (VO_er hP (e := 4) (by decide))
  refine Tm_ite (fun w => b1 (by rw [(n_eq (q := 4) (by omega) (by decide)).mp w]; omega) _ h1 h2) (fun _ => ?_)
  refine Tm_ite (fun w => b1 (by rw [(n_eq (q := 5) (by omega) (by decide)).mp w]; omega) _ h1 h2) (fun _ => ?_)
  refine Tm_suc (fun k => by rw [x_partAt]) ?_
  refine Tm_ob (s_isMap hS hv (by exact h1)) (fun r hr => ?_)
  obtain ⟨hr1, hr2⟩ := hr
  rw [hr1]
  rcases hr2 with hr2 | ⟨hr2, gv, kv, n, hn, v1, hM⟩
  · refine Tm_ite (fun _ => ?_) (fun w => absurd hr2 w)
    exact Tm_ob (s_wrongKind _) (fun r hr => Tm_some (VO_wk hP hr))
  refine Tm_ite (fun w => absurd (hr2.symm.trans w) (by decide)) (fun _ => ?_)
  obtain ⟨n', w1, w2, w3, w4, -, -, -⟩ := ob_at hS gv
  have e : n' = n := (n_eq (by omega) (by omega)).mp (w1.symm.trans v1)
  subst e
  have b10 : ∀ N : Nat → Int32, Vd g (N 4) → Tm (fun k => x_partAt k 10 N σ) (VO g B h t σ) := fun N hN => by
    refine Tm_suc (fun k => by rw [x_partAt]) ?_
    refine Tm_ite (fun _ => ?_) (fun _ => ?_)
    · refine Tm_suc (fun k => by rw [x_partAt]) ?_
      exact Tm_some (VO_id hP hN)
    · refine Tm_suc (fun k => by rw [x_partAt]) ?_
      refine Tm_suc (fun k => by rw [x_partAt]) ?_
      exact Tm_some (VO_id hP Vd_0)
  have b8 : ∀ (q i : Nat) (N : Nat → Int32), q + i = n' → N 1 = nI v → N 2 = nI x → Vd g (N 4) → N 6 = nI i → Tm (fun k => x_partAt k 8 N σ) (VO g B h t σ) := by
    intro q
    induction q with
    | zero =>
      intro i N hi n1 n2 n4 n6
      refine Tm_suc (fun k => by rw [x_partAt]) ?_
      rw [n1, n6, show nI v + 1 = nI (v + 1) from n_add1 v]
      refine Tm_chk (n_in (by omega) (by omega)) ?_
      rw [n_cl (p := v + 1) (by omega), v1]
      exact Tm_ite (fun _ => b10 N n4) (fun w => absurd ((n_le (by omega) (by omega)).mpr (by omega)) w)
    | succ q ih =>
      intro i N hi n1 n2 n4 n6
      have b9 : ∀ M : Nat → Int32, M 1 = nI v → M 2 = nI x → Vd g (M 4) → M 6 = nI i → Tm (fun k => x_partAt k 9 M σ) (VO g B h t σ) := fun M m1 m2 m4 m6 => by
        refine Tm_suc (fun k => by rw [x_partAt]) ?_
        exact ih (i + 1) _ (by omega) m1 m2 m4 (by show M 6 + 1 = _; rw [m6, n_add1])
      obtain ⟨c, c1, c2, c3, c4⟩ := hM i (by omega)
      obtain ⟨d1, d2, ⟨a, a1, a2⟩, b, bb1, bb2⟩ := pr_at hS c2 c3 c4
      refine Tm_suc (fun k => by rw [x_partAt]) ?_
      rw [n1, n6, show nI v + 1 = nI (v + 1) from n_add1 v, show nI v + 4 = nI (v + 4) from n_add (q := 4) (by omega), n_add (by omega)]
      refine Tm_chk (n_in (by omega) (by omega)) ?_
      rw [n_cl (p := v + 1) (by omega), v1]
      refine Tm_ite (fun w => absurd ((n_le (by omega) (by omega)).mp w) (by omega)) (fun _ => ?_)
      refine Tm_chk (n_in (by omega) (by omega)) ?_
      rw [n_cl (p := v + 4 + i) (by omega), c1, show nI c + 4 = nI (c + 4) from n_add (q := 4) (by omega), show nI c + 5 = nI (c + 5) from n_add (q := 5) (by omega)]
      refine Tm_chk (n_in (by omega) (by omega)) ?_
      rw [n_cl (p := c + 4) (by omega), a1]
      refine Tm_ob (s_compareV hS a2 hx rfl (by exact n2)) (fun r hr => ?_)
      rw [hr]
      refine Tm_ite (fun _ => ?_) (fun _ => b9 _ n1 n2 n4 n6)
      refine Tm_chk (n_in (by omega) (by omega)) ?_
      rw [n_cl (p := c + 5) (by omega), bb1]
      exact b9 _ n1 n2 ⟨b, rfl, bb2⟩ n6
  refine Tm_suc (fun k => by rw [x_partAt]) ?_
  exact b8 n' 0 _ (by omega) h1 h2 Vd_0 rfl
end DRA
end JnS122
section JnS123
/-! Slices (reference). -/
section SLI
variable {g : Nat → Prop} {l : List Nat} {B h t : Nat} {σ : MS}
theorem sg_int {x : Int32} {y : Nat} (hy : y ≤ 100001) (hx : x = nI y ∨ x = - nI y) : x.toInt = (y : Int) ∨ x.toInt = -(y : Int) := by
  rcases hx with hx | hx
  · rw [hx, n_int (by omega)]; exact Or.inl rfl
  · rw [hx, Int32.toInt_neg, n_int (by omega), Int.bmod_eq_of_le (by omega) (by omega)]; exact Or.inr rfl
theorem sg_pos {x : Int32} {y : Nat} (hy : y ≤ 100001) (hx : x = nI y ∨ x = - nI y) (h0 : 0 ≤ x.toInt) : x = nI y := by
  rw [i_eq, n_int (by omega)]
  rcases sg_int hy hx with e | e <;> omega
theorem n_len {a b : Nat} (hb : b < 2147483000) (hab : a ≤ b + 1) : nI b - nI a + 1 = nI (b + 1 - a) := by
  by_cases e : a ≤ b
  · rw [n_sub (by omega) e, n_add1]
    congr 1
    omega
  · have : a = b + 1 := by omega
    subst this
    rw [← Int32.neg_sub, n_sub (by omega) (by omega), show b + 1 - b = 1 by omega, show b + 1 - (b + 1) = 0 by omega]
    decide
/-- bounds of a slice are read -/
def SlR (g : Nat → Prop) (σ : MS) (v : Nat) (r : Int32 × MS) : Prop := (r = (0, mEr σ (nI 1))) ∨ (r.1 = 1 ∧ g v ∧ (kdN (σ.2.2 28) v = 4 ∨ kdN (σ.2.2 28) v = 5) ∧ ∃ x z : Int32, ∃ y w : Nat, y ≤ 100001 ∧ w ≤ 100001 ∧ (x = nI y ∨ x = - nI y) ∧ (z = nI w ∨ z = - nI w) ∧ r.2 = mSc (mSc σ 100 x) 101 z)
theorem s_isSlice (hS : HS g l B h σ) {v a b : Nat} (hv : v < 3 ∨ g v) (ha : a < 3 ∨ g a) (hb : b < 3 ∨ g b) {L : Nat → Int32} (h1 : L 1 = nI v) (h2 : L 2 = nI a) (h3 : L 3 = nI b) : Tm (fun k => x_isSlice k 0 L σ) (SlR g σ v) := by
  have kv := kdN_6 hS hv
  have ka := kdN_6 hS ha
  have kb := kdN_6 hS hb
  have b2 : ∀ N : Nat → Int32, Tm (fun k => x_isSlice k 2 N σ) (SlR g σ v) := fun N => by
    refine Tm_suc (fun k => by rw [x_isSlice]) ?_
    refine Tm_ob (s_fail _ σ) (fun r hr => ?_)
    rw [hr]
    exact Tm_some (Or.inl rfl)
  have b1 : (kdN (σ.2.2 28) v = 4 ∨ kdN (σ.2.2 28) v = 5) → ∀ N : Nat → Int32, N 1 = nI v → N 2 = nI a → N 3 = nI b → Tm (fun k => x_isSlice k 1 N σ) (SlR g σ v) := by
    intro hk N n1 n2 n3
    refine Tm_suc (fun k => by rw [x_isSlice]) ?_
    refine Tm_ob (s_kind hS ha (by exact n2)) (fun r hr => ?_)
    rw [hr]
    refine Tm_ite (fun w => ?_) (fun _ => b2 _)
    have w := (n_eq (q := 2) (by omega) (by decide)).mp w
    refine Tm_ob (s_kind hS hb (by exact n3)) (fun r hr => ?_)
    rw [hr]
    refine Tm_ite (fun w2 => ?_) (fun _ => b2 _)
    have w2 := (n_eq (q := 2) (by omega) (by decide)).mp w2
    obtain ⟨n, hn⟩ := Wh_of hS ha w
    obtain ⟨m, hm⟩ := Wh_of hS hb w2
    refine Tm_suc (fun k => by rw [x_isSlice]) ?_
    refine Tm_ob (s_intOf hS hn (b := 100000) (by decide) (by exact n2) rfl) (fun r hr => ?_)
    obtain ⟨r1, y, y1, y2, y3⟩ := hr
    rw [r1]
    show Tm (fun k => x_isSlice k 4 N (mSc σ 100 r.1)) _
    refine Tm_suc (fun k => by rw [x_isSlice]) ?_
    have hS1 : HS g l B h (mSc σ 100 r.1) := HS_c hS rfl rfl rfl
    have hm1 : Wh (mSc σ 100 r.1) b m := hm
    refine Tm_ob (s_intOf hS1 hm1 (b := 100000) (by decide) (by exact n3) rfl) (fun s hs => ?_)
    obtain ⟨s1, z, z1, z2, z3⟩ := hs
    rw [s1]
    show Tm (fun k => x_isSlice k 5 N (mSc (mSc σ 100 r.1) 101 s.1)) _
    refine Tm_suc (fun k => by rw [x_isSlice]) ?_
    exact Tm_some (Or.inr ⟨rfl, kdN_ge hS hv (by omega), hk, r.1, s.1, y, z, y1, z1, y2, z2, rfl⟩)
  refine Tm_suc (fun k => by rw [x_isSlice]) ?_
  refine Tm_ob (s_kind hS hv (by exact h1)) (fun r hr => ?_)
  rw [hr]
  refine Tm_ite (fun w => b1 (Or.inl ((n_eq (q := 4) (by omega) (by decide)).mp w)) _ h1 h2 h3) (fun _ => ?_)
  exact Tm_ite (fun w => b1 (Or.inr ((n_eq (q := 5) (by omega) (by decide)).mp w)) _ h1 h2 h3) (fun _ => b2 _)
def SlI (σ : MS) (y w n : Nat) (r : Int32 × MS) : Prop := r = (0, mEr σ (nI 4)) ∨ (r = (1, σ) ∧ σ.1 100 = nI y ∧ σ.1 101 = nI w ∧ 1 ≤ y ∧ y ≤ w + 1 ∧ w ≤ n)
theorem s_isSliceIn (hS : HS g l B h σ) {v n y w : Nat} (hv : σ.2.2 28 (v + 1) = nI n) (hn : n ≤ 3996) (hvb : v + 4 + n ≤ 1740000) (hy : y ≤ 100001) (hw : w ≤ 100001) (h100 : σ.1 100 = nI y ∨ σ.1 100 = - nI y) (h101 : σ.1 101 = nI w ∨ σ.1 101 = - nI w) {L : Nat → Int32} (h1 : L 1 = nI v) : Tm (fun k => x_isSliceIn k 0 L σ) (SlI σ y w n) := by
  have b1 : ∀ N : Nat → Int32, Tm (fun k => x_isSliceIn k 1 N σ) (SlI σ y w n) := fun N => by
    refine Tm_suc (fun k => by rw [x_isSliceIn]) ?_
    refine Tm_ob (s_fail _ σ) (fun r hr => ?_)
    rw [hr]
    exact Tm_some (Or.inl rfl)
  have e1 : (1 : Int32).toInt = 1 := rfl
  refine Tm_suc (fun k => by rw [x_isSliceIn]) ?_
  refine Tm_ite (fun _ => b1 _) (fun z1 => ?_)
  have z1 : 1 ≤ (σ.1 100).toInt := by rw [i_lt, e1] at z1; omega
  have y1 := sg_pos hy h100 (by omega)
  have y2 : 1 ≤ y := by rw [y1, n_int (by omega)] at z1; omega
  rw [y1, h1, show nI v + 1 = nI (v + 1) from n_add1 v, show nI y - 1 = nI (y - 1) from n_sub (p := y) (q := 1) (by omega) (by omega)]
  refine Tm_ite (fun _ => b1 _) (fun z2 => ?_)
  have z2 : ((y - 1 : Nat) : Int) ≤ (σ.1 101).toInt := by rw [i_lt, n_int (by omega)] at z2; omega
  have w1 := sg_pos hw h101 (by omega)
  have w2 : y ≤ w + 1 := by rw [w1, n_int (by omega)] at z2; omega
  refine Tm_chk (n_in (by omega) (by omega)) ?_
  rw [n_cl (p := v + 1) (by omega), hv, w1]
  refine Tm_ite (fun z3 => ?_) (fun _ => b1 _)
  have z3 := (n_le (by omega) (by omega)).mp z3
  refine Tm_suc (fun k => by rw [x_isSliceIn]) ?_
  exact Tm_some (Or.inr ⟨rfl, y1, w1, y2, w2, z3⟩)
theorem Sl_VP {x z : Int32} (hP : VP g l B h t σ) : VP g l B h t (mSc (mSc σ 100 x) 101 z) := ⟨HS_c hP.1 rfl rfl rfl, hP.2.1, hP.2.2.1, ErB_c rfl hP.2.2.2⟩
theorem Sl_VO {x z : Int32} {r : Int32 × MS} (hP : VP g l B h t σ) (b : VO g B h t (mSc (mSc σ 100 x) 101 z) r) : VO g B h t σ r :=
  VO_tr (τ := mSc (mSc σ 100 x) 101 z) (g1 := g) (l1 := l) (h1 := h) ⟨(Sl_VP hP).1, fun _ z => z, Nat.le_refl _, fun i _ _ => rfl⟩ (FW_tr (FW_sc (by omega)) (FW_sc (by omega))) (fun z => z) b
theorem s_slice (hP : VP g l B h t σ) {v a b : Nat} (hv : v < 3 ∨ g v) (ha : a < 3 ∨ g a) (hb : b < 3 ∨ g b) {L : Nat → Int32} (h1 : L 1 = nI v) (h2 : L 2 = nI a) (h3 : L 3 = nI b) : Tm (fun k => x_slice k 0 L σ) (VO g B h t σ) := by
  have ht := hP.2.2.1
  have b1 : ∀ (N : Nat → Int32) (e : Int32) (τ : MS), VO g B h t σ (e, τ) → Tm (fun k => x_slice k 1 N τ) (VO g B h t σ) := fun N e τ hr => by
    refine Tm_suc (fun k => by rw [x_slice]) ?_
    obtain ⟨g', l', h', a1, a2, a3, a4, a5, a6⟩ := hr
    exact Tm_some ⟨g', l', h', a1, a2, a3, a4, a5, Vd_0⟩
  refine Tm_suc (fun k => by rw [x_slice]) ?_
  refine Tm_ob (s_isSlice hP.1 hv ha hb (by exact h1) (by exact h2) (by exact h3)) (fun r hr => ?_)
  rcases hr with hr | ⟨r1, gv, hk, x, z, y, w, hy, hw, hx, hz, r2⟩
  · rw [hr]
    refine Tm_ite (fun _ => b1 _ 0 _ (VO_er hP (e := 1) (by decide))) (fun w => absurd rfl w)
  refine Tm_ite (fun w => absurd (r1.symm.trans w) (by decide)) (fun _ => ?_)
  rw [r2]
  have hP1 := Sl_VP (x := x) (z := z) hP
  have b2 : ∀ N τ, VO g B h t (mSc (mSc σ 100 x) 101 z) ((0 : Int32), τ) → Tm (fun k => x_slice k 1 N τ) (VO g B h t σ) := fun N τ hr => b1 N 0 τ (Sl_VO hP hr)
  refine Tm_mono (Q := VO g B h t σ) ?_ (fun r hr => hr)
  have cl : ∀ r, VO g B h t (mSc (mSc σ 100 x) 101 z) r → VO g B h t σ r := fun r hr => Sl_VO hP hr
  have hk1 : kdN ((mSc (mSc σ 100 x) 101 z).2.2 28) v = 4 ∨ kdN ((mSc (mSc σ 100 x) 101 z).2.2 28) v = 5 := hk
  have x1 : (mSc (mSc σ 100 x) 101 z).1 100 = nI y ∨ (mSc (mSc σ 100 x) 101 z).1 100 = - nI y := hx
  have z1 : (mSc (mSc σ 100 x) 101 z).1 101 = nI w ∨ (mSc (mSc σ 100 x) 101 z).1 101 = - nI w := hz
  generalize mSc (mSc σ 100 x) 101 z = ρ at hP1 b2 cl hk1 x1 z1
  have hS1 := hP1.1
  have hb1 := HS_b hS1
  obtain ⟨n, v1, v2, v3, v4, v5, v6, v7⟩ := ob_at hS1 gv
  refine Tm_ob (s_isSliceIn hS1 v1 v2 (by omega) hy hw x1 z1 (by exact h1)) (fun s hs => ?_)
  rcases hs with hs | ⟨hs, s1, s2, s3, s4, s5⟩
  · rw [hs]
    refine Tm_ite (fun _ => b2 _ _ (VO_er hP1 (e := 4) (by decide))) (fun w => absurd rfl w)
  rw [hs]
  refine Tm_ite (fun w => absurd (show (1 : Int32) = 0 from w) (by decide)) (fun _ => ?_)
  refine Tm_suc (fun k => by rw [x_slice]) ?_
  show Tm (fun k => if ¬ (L 1 < 0 ∨ 1740000 ≤ (L 1).toNatClampNeg) then (if ρ.2.2 28 (L 1).toNatClampNeg = 4 then ob (x_stringOf__28 k 0 (upd (upd (fun _ => 0) 2 ((L 1 + 3) + ρ.1 100)) 3 ((ρ.1 101 - ρ.1 100) + 1)) ρ) (fun r3 => some (r3.1, r3.2)) else x_slice k 3 (upd L 4 ((ρ.1 101 - ρ.1 100) + 1)) ρ) else none) _
  rw [h1, s1, s2, n_len (by omega) s4, show nI v + 3 = nI (v + 3) from n_add (q := 3) (by omega), n_add (by omega)]
  refine Tm_chk (n_in (by omega) (by omega)) ?_
  rw [n_cl (p := v) (by omega), v5]
  refine Tm_ite (fun _ => ?_) (fun z => ?_)
  · exact Tm_ob (s_stringOf28 hP1 (f := v + 3 + y) (n := w + 1 - y) (by omega) (fun _ => by omega) rfl rfl) (fun r hr => Tm_some (cl r hr))
  have hk5 : 5 ≤ kdN (ρ.2.2 28) v := by
    rcases hk1 with e | e
    · exact absurd (by rw [e]; rfl) z
    · omega
  have v7 := v7 hk5
  refine Tm_mono (Q := VO g B h t ρ) ?_ cl
  have b4 : ∀ (q i : Nat) (N : Nat → Int32) (τ : MS), q + i = w + 1 - y → N 1 = nI v → N 4 = nI (w + 1 - y) → N 5 = nI t → N 6 = nI i → PuS g t i ρ τ → Tm (fun k => x_slice k 4 N τ) (VO g B h t ρ) := by
    intro q
    induction q with
    | zero =>
      intro i N τ hi n1 n4 n5 n6 hU
      refine Tm_suc (fun k => by rw [x_slice]) ?_
      rw [n4, n6]
      refine Tm_ite (fun _ => ?_) (fun w => absurd ((n_le (by omega) (by omega)).mpr (by omega)) w)
      refine Tm_suc (fun k => by rw [x_slice]) ?_
      exact Tm_ob (PuS_tup hU hS1 hP1.2.2.2 (by omega) (by exact n5)) (fun r hr => Tm_some hr)
    | succ q ih =>
      intro i N τ hi n1 n4 n5 n6 hU
      obtain ⟨m, m1, m2⟩ := v7 (y - 1 + i) (by omega)
      refine Tm_suc (fun k => by rw [x_slice]) ?_
      rw [n4, n6, n1, hU.1 100 (by decide), s1, show nI v + 3 = nI (v + 3) from n_add (q := 3) (by omega), n_add (p := v + 3) (by omega), n_add (by omega)]
      refine Tm_ite (fun w => absurd ((n_le (by omega) (by omega)).mp w) (by omega)) (fun _ => ?_)
      refine Tm_chk (n_in (by omega) (by omega)) ?_
      rw [n_cl (p := v + 3 + y + i) (by omega), hU.2.1 28 (by decide), show v + 3 + y + i = v + 4 + (y - 1 + i) by omega, m1]
      exact Tm_ob (PuS_push hU (by omega) m2 rfl) (fun r hr => ih (i + 1) _ _ (by omega) n1 n4 n5 (n_add1 i) hr)
  refine Tm_suc (fun k => by rw [x_slice]) ?_
  rw [hP1.2.1]
  exact b4 (w + 1 - y) 0 _ _ (by omega) h1 rfl rfl rfl (PuS_0 hP1.2.1)
end SLI
end JnS123
section JnS124
/-! Reversed, drawn (reference). -/
section REV
variable {g : Nat → Prop} {l : List Nat} {B h t : Nat} {σ : MS}
theorem smS_ge {H : Nat → Int32} {v : Nat} : ∀ n, (∀ i, i < n → 1 ≤ szN H (H (v + 4 + i)).toNatClampNeg) → n ≤ smS H v n
  | 0, _ => Nat.zero_le _
  | n + 1, hh => by
    have a := smS_ge n (fun i hi => hh i (by omega))
    have b := hh n (by omega)
    have e : smS H v (n + 1) = smS H v n + szN H (H (v + 4 + n)).toNatClampNeg := rfl
    omega
/-- tuples and sets have at most 999 members -/
theorem ob_n (hS : HS g l B h σ) {v n : Nat} (hv : g v) (hk : 5 ≤ kdN (σ.2.2 28) v) (hn : σ.2.2 28 (v + 1) = nI n) (hn2 : n ≤ 3996) : n ≤ 999 := by
  obtain ⟨k, m, s, u, ⟨g1, g2, g3, g4, g5, g6, g7, g8, g9, g10, g11, g12⟩, hv1, hv2⟩ := HS_at hS hv
  have hb := HS_b hS
  have e : kdN (σ.2.2 28) v = k := by
    unfold kdN
    rw [if_neg (by omega), if_neg (by omega), g1, n_cl (by omega)]
  have em : m = n := (n_eq (by omega) (by omega)).mp (g2.symm.trans hn)
  subst em
  obtain ⟨q1, q2⟩ := g12 (by omega)
  have := smS_ge (H := σ.2.2 28) (v := v) m (fun i hi => by
    obtain ⟨w, w1, w2, _⟩ := q2 i hi
    have hw := HS_vb hS w2
    rw [w1, n_cl (by omega)]
    exact (szN_b hS w2).1)
  omega
theorem s_reversed (hP : VP g l B h t σ) {v : Nat} (hv : v < 3 ∨ g v) {L : Nat → Int32} (h1 : L 1 = nI v) : Tm (fun k => x_reversed k 0 L σ) (VO g B h t σ) := by
  have hS := hP.1
  have hb := HS_b hS
  have hB := hS.2.1
  have ht := hP.2.2.1
  have kv := kdN_6 hS hv
  refine Tm_suc (fun k => by rw [x_reversed]) ?_
  refine Tm_ob (s_kind hS hv (by exact h1)) (fun r hr => ?_)
  rw [hr]
  have b1 : (kdN (σ.2.2 28) v = 4 ∨ kdN (σ.2.2 28) v = 5) → ∀ N : Nat → Int32, N 1 = nI v → N 2 = nI (kdN (σ.2.2 28) v) → Tm (fun k => x_reversed k 1 N σ) (VO g B h t σ) := by
    intro hk N n1 n2
    obtain ⟨n, v1, v2, v3, v4, v5, v6, v7⟩ := ob_at hS (kdN_ge hS hv (by omega))
    refine Tm_suc (fun k => by rw [x_reversed]) ?_
    rw [n1, n2, show nI v + 1 = nI (v + 1) from n_add1 v]
    refine Tm_chk (n_in (by omega) (by omega)) ?_
    rw [n_cl (p := v + 1) (by omega), v1]
    refine Tm_ite (fun _ => ?_) (fun z => ?_)
    · have l2 : ∀ (q i : Nat) (N : Nat → Int32) (τ : MS), q + i = n → N 1 = nI v → N 3 = nI n → N 4 = nI i → BF σ τ → Tm (fun k => x_reversed k 2 N τ) (VO g B h t σ) := by
        intro q
        induction q with
        | zero =>
          intro i N τ hi n1 n3 n4 hF
          refine Tm_suc (fun k => by rw [x_reversed]) ?_
          rw [n3, n4]
          refine Tm_ite (fun _ => ?_) (fun w => absurd ((n_le (by omega) (by omega)).mpr (by omega)) w)
          refine Tm_suc (fun k => by rw [x_reversed]) ?_
          exact Tm_ob (s_stringOf51 (BF_VP hF hP) (f := 0) (n := n) (by omega) (fun _ => by omega) rfl (by exact n3)) (fun r hr => Tm_some (BF_VO hF hP hr))
        | succ q ih =>
          intro i N τ hi n1 n3 n4 hF
          refine Tm_suc (fun k => by rw [x_reversed]) ?_
          rw [n3, n4, n1, show nI v + 4 = nI (v + 4) from n_add (q := 4) (by omega), n_add (by omega), show nI (v + 4 + n) - 1 = nI (v + 4 + n - 1) from n_sub (p := v + 4 + n) (q := 1) (by omega) (by omega), n_sub (by omega) (by omega)]
          refine Tm_ite (fun w => absurd ((n_le (by omega) (by omega)).mp w) (by omega)) (fun _ => ?_)
          refine Tm_chk (n_in (by omega) (by omega)) ?_
          refine Tm_chk (n_in (by omega) (by omega)) ?_
          rw [n_cl (p := i) (by omega)]
          show Tm (fun k => x_reversed k 3 N (mAr τ 51 i (τ.2.2 28 (nI (v + 4 + n - 1 - i)).toNatClampNeg))) _
          refine Tm_suc (fun k => by rw [x_reversed]) ?_
          exact ih (i + 1) _ _ (by omega) n1 n3 (by show N 4 + 1 = _; rw [n4, n_add1]) (BF_51 hF)
      exact l2 n 0 _ _ (by omega) n1 rfl rfl BF_rf
    · have hk5 : 5 ≤ kdN (σ.2.2 28) v := by
        rcases hk with e | e
        · exact absurd (by rw [e]; rfl) z
        · omega
      have v7 := v7 hk5
      have l6 : ∀ (b p : Nat) (N : Nat → Int32) (τ : MS), b + p = n → N 1 = nI v → N 4 = nI t → N 5 = nI b - 1 → PuS g t p σ τ → Tm (fun k => x_reversed k 6 N τ) (VO g B h t σ) := by
        intro b
        induction b with
        | zero =>
          intro p N τ hp n1 n4 n5 hU
          refine Tm_suc (fun k => by rw [x_reversed]) ?_
          rw [n5]
          refine Tm_ite (fun _ => ?_) (fun w => absurd (by decide) w)
          refine Tm_suc (fun k => by rw [x_reversed]) ?_
          exact Tm_ob (PuS_tup hU hS hP.2.2.2 (by omega) (by exact n4)) (fun r hr => Tm_some hr)
        | succ b ih =>
          intro p N τ hp n1 n4 n5 hU
          obtain ⟨m, m1, m2⟩ := v7 b (by omega)
          have n5 : N 5 = nI b := by rw [n5]; exact n_sub (p := b + 1) (q := 1) (by omega) (by omega)
          refine Tm_suc (fun k => by rw [x_reversed]) ?_
          rw [n5, n1, show nI v + 4 = nI (v + 4) from n_add (q := 4) (by omega), n_add (by omega)]
          refine Tm_ite (fun w => absurd ((n_lt (q := 0) (by omega) (by decide)).mp w) (by omega)) (fun _ => ?_)
          refine Tm_chk (n_in (by omega) (by omega)) ?_
          rw [n_cl (p := v + 4 + b) (by omega), hU.2.1 28 (by decide), m1]
          refine Tm_ob (PuS_push hU (by omega) m2 rfl) (fun r hr => ih (p + 1) _ _ (by omega) n1 n4 ?_ hr)
          show nI b + (-1) = nI b - 1
          rw [Int32.sub_eq_add_neg]
      refine Tm_suc (fun k => by rw [x_reversed]) ?_
      rw [hP.2.1]
      exact l6 n 0 _ _ (by omega) n1 rfl rfl (PuS_0 hP.2.1)
  refine Tm_ite (fun w => b1 (Or.inl ((n_eq (q := 4) (by omega) (by decide)).mp w)) _ h1 rfl) (fun _ => ?_)
  refine Tm_ite (fun w => b1 (Or.inr ((n_eq (q := 5) (by omega) (by decide)).mp w)) _ h1 rfl) (fun _ => ?_)
  exact Tm_ob (s_wrongKind _) (fun r hr => Tm_some (VO_wk hP hr))
theorem s_drawn (hP : VP g l B h t σ) {v : Nat} (hv : v < 3 ∨ g v) {L : Nat → Int32} (h1 : L 1 = nI v) : Tm (fun k => x_drawn k 0 L σ) (VO g B h t σ) := by
  have hS := hP.1
  have hb := HS_b hS
  have hB := hS.2.1
  have kv := kdN_6 hS hv
  -- from a whole
  have b8 : ∀ (n : Nat) (N : Nat → Int32), 1 ≤ n → n < 2147483648 → N 100 = nI n → Tm (fun k => x_drawn k 8 N σ) (VO g B h t σ) := fun n N hn1 hn2 n100 => by
    refine Tm_suc (fun k => by rw [x_drawn]) ?_
    refine Tm_ob (s_draw hn1 hn2 (by exact n100)) (fun r hr => ?_)
    obtain ⟨⟨w, hw⟩, _⟩ := hr
    rw [hw]
    exact Tm_ob (s_small (W_VP hP) _) (fun s hs => Tm_some (W_VO hP hs))
  have b5 : ∀ N : Nat → Int32, Tm (fun k => x_drawn k 5 N σ) (VO g B h t σ) := fun N => by
    refine Tm_suc (fun k => by rw [x_drawn]) ?_
    refine Tm_ob (s_fail _ σ) (fun r hr => ?_)
    rw [hr]
    exact Tm_some (VO_er hP (e := 4) (by decide))
  have b6 : ∀ (n : Nat) (N : Nat → Int32), 1 ≤ n → n < 2147483648 → N 3 = nI n → Tm (fun k => x_drawn k 6 N σ) (VO g B h t σ) := fun n N hn1 hn2 n3 => by
    refine Tm_suc (fun k => by rw [x_drawn]) ?_
    refine Tm_ite (fun _ => ?_) (fun _ => b8 2147483647 _ (by decide) (by decide) rfl)
    refine Tm_suc (fun k => by rw [x_drawn]) ?_
    exact b8 n _ hn1 hn2 n3
  have b4 : ∀ N : Nat → Int32, Tm (fun k => x_drawn k 4 N σ) (VO g B h t σ) := fun N => by
    refine Tm_suc (fun k => by rw [x_drawn]) ?_
    refine Tm_ite (fun _ => b5 _) (fun w => ?_)
    have e1 : (1 : Int32).toInt = 1 := rfl
    rw [i_lt, e1] at w
    have hlt : (N 3).toInt < 2147483648 := by
      have := Int32.toInt_lt (N 3)
      omega
    have hN : N 3 = nI (N 3).toInt.toNat := by
      rw [i_eq, n_int (by omega)]; omega
    have q1 : 1 ≤ (N 3).toInt.toNat := by omega
    have q2 : (N 3).toInt.toNat < 2147483648 := by omega
    refine Tm_ite (fun _ => Tm_ite (fun _ => b5 _) (fun _ => b6 _ _ q1 q2 ?_)) (fun _ => b6 _ _ q1 q2 ?_)
    · exact hN
    · exact hN
  have b3 : ∀ N : Nat → Int32, Tm (fun k => x_drawn k 3 N σ) (VO g B h t σ) := fun N => by
    refine Tm_suc (fun k => by rw [x_drawn]) ?_
    exact b4 _
  have b2 : (kdN (σ.2.2 28) v = 2) → ∀ N : Nat → Int32, N 1 = nI v → Tm (fun k => x_drawn k 2 N σ) (VO g B h t σ) := fun hk N n1 => by
    obtain ⟨n, v1, v2, v3, v4, v5, v6, v7⟩ := ob_at hS (kdN_ge hS hv (by omega))
    refine Tm_suc (fun k => by rw [x_drawn]) ?_
    rw [n1, show nI v + 1 = nI (v + 1) from n_add1 v, show nI v + 5 = nI (v + 5) from n_add (q := 5) (by omega), show nI v + 6 = nI (v + 6) from n_add (q := 6) (by omega)]
    refine Tm_chk (n_in (by omega) (by omega)) ?_
    rw [n_cl (p := v + 1) (by omega), v1]
    refine Tm_ite (fun z => ?_) (fun _ => b3 _)
    have z := (n_eq (q := 3) (by omega) (by decide)).mp z
    refine Tm_ob (s_signOf hS (m := v) (by omega) rfl) (fun r hr => ?_)
    rw [hr]
    refine Tm_ite (fun _ => b3 _) (fun _ => ?_)
    refine Tm_chk (n_in (by omega) (by omega)) ?_
    refine Tm_ite (fun _ => ?_) (fun _ => b3 _)
    refine Tm_chk (n_in (by omega) (by omega)) ?_
    exact Tm_ite (fun _ => b4 _) (fun _ => b3 _)
  refine Tm_suc (fun k => by rw [x_drawn]) ?_
  refine Tm_ob (s_kind hS hv (by exact h1)) (fun r hr => ?_)
  rw [hr]
  refine Tm_ite (fun w => ?_) (fun _ => ?_)
  · have w := (n_eq (q := 2) (by omega) (by decide)).mp w
    obtain ⟨n, v1, v2, v3, v4, v5, v6, v7⟩ := ob_at hS (kdN_ge hS hv (by omega))
    obtain ⟨m, hm⟩ := Wh_of hS hv w
    rw [h1, show nI v + 1 = nI (v + 1) from n_add1 v]
    refine Tm_chk (n_in (by omega) (by omega)) ?_
    refine Tm_ite (fun _ => ?_) (fun _ => b2 w _ h1)
    refine Tm_suc (fun k => by rw [x_drawn]) ?_
    refine Tm_ob (s_intOf hS hm (b := 2147483646) (by decide) (by exact h1) rfl) (fun r hr => ?_)
    rw [hr.1]
    exact b2 w _ h1
  have b12 : ∀ (N : Nat → Int32) (r : Int32 × MS), N 100 = r.1 → VO g B h t σ r → Tm (fun k => x_drawn k 12 N r.2) (VO g B h t σ) := fun N r hN hr => by
    refine Tm_suc (fun k => by rw [x_drawn]) ?_
    rw [hN]; exact Tm_some hr
  refine Tm_suc (fun k => by rw [x_drawn]) ?_
  show Tm (fun k => if 4 ≤ nI (kdN (σ.2.2 28) v) then x_drawn k 10 (upd L 2 (nI (kdN (σ.2.2 28) v))) σ else ob (x_wrongKind k 0 (fun _ => 0) σ) (fun r2 => some (r2.1, r2.2))) _
  refine Tm_ite (fun w => ?_) (fun _ => Tm_ob (s_wrongKind _) (fun r hr => Tm_some (VO_wk hP hr)))
  have w := (n_le (p := 4) (by decide) (by omega)).mp w
  have gv := kdN_ge hS hv (by omega)
  obtain ⟨n, v1, v2, v3, v4, v5, v6, v7⟩ := ob_at hS gv
  have m1 : upd L 2 (nI (kdN (σ.2.2 28) v)) 1 = nI v := h1
  generalize upd L 2 (nI (kdN (σ.2.2 28) v)) = M at m1
  refine Tm_suc (fun k => by rw [x_drawn]) ?_
  rw [m1, show nI v + 1 = nI (v + 1) from n_add1 v]
  refine Tm_chk (n_in (by omega) (by omega)) ?_
  rw [n_cl (p := v + 1) (by omega), v1]
  refine Tm_ite (fun _ => b12 _ (0, σ) rfl (VO_id hP Vd_0)) (fun z => ?_)
  have hn0 : 1 ≤ n := by
    by_cases e : n = 0
    · exact absurd (by rw [e]; rfl) z
    · omega
  refine Tm_suc (fun k => by rw [x_drawn]) ?_
  rw [m1, show nI v + 1 = nI (v + 1) from n_add1 v]
  refine Tm_chk (n_in (by omega) (by omega)) ?_
  rw [n_cl (p := v + 1) (by omega), v1]
  refine Tm_ob (s_draw hn0 (by omega) rfl) (fun r hr => ?_)
  obtain ⟨⟨u, hu⟩, i, i1, i2⟩ := hr
  rw [hu, i2]
  exact Tm_ob (s_memberAt (W_VP (w := u) hP) gv w (by exact v1) i1 v2 rfl rfl) (fun s hs => b12 _ s rfl (W_VO (w := u) hP hs))
end REV
end JnS124
section JnS125
/-! Values upon the pile while the heap grows; power sets (reference). -/
section POW
variable {g : Nat → Prop} {l : List Nat} {B h t : Nat} {σ : MS}
/-- behind it: a value; or an error, and then up to w things may have stayed upon the pile -/
def VQ (g : Nat → Prop) (B h t w : Nat) (σ : MS) (r : Int32 × MS) : Prop := ∃ g' l' h', HG g B h σ r.2 g' l' h' ∧ FW t σ r.2 ∧ (∃ t', r.2.1 59 = nI t' ∧ t ≤ t' ∧ t' ≤ t + w ∧ (t' = t ∨ ¬ r.2.1 56 = 0) ∧ PLv g' (r.2.2.2 29) t (t' - t)) ∧ ErB r.2 ∧ (¬ σ.1 56 = 0 → ¬ r.2.1 56 = 0) ∧ Vd g' r.1
theorem VQ_of {w : Nat} {r : Int32 × MS} (a : VO g B h t σ r) : VQ g B h t w σ r := by
  obtain ⟨g', l', h', a1, a2, a3, a4, a5, a6⟩ := a
  exact ⟨g', l', h', a1, a2, ⟨t, a3, Nat.le_refl _, by omega, Or.inl rfl, fun i hi => by omega⟩, a4, a5, a6⟩
/-- n values upon the pile above t; the heap may have grown -/
def PuH (g : Nat → Prop) (B h t n : Nat) (σ τ : MS) (g' : Nat → Prop) (l' : List Nat) (h' : Nat) : Prop := HG g B h σ τ g' l' h' ∧ FW t σ τ ∧ τ.1 59 = nI (t + n) ∧ PLv g' (τ.2.2 29) t n ∧ ErB τ ∧ (¬ σ.1 56 = 0 → ¬ τ.1 56 = 0)
theorem PuH_0 (hS : HS g l B h σ) (h59 : σ.1 59 = nI t) (hE : ErB σ) : PuH g B h t 0 σ σ g l h := ⟨HG_rf hS, FW_rf, h59, fun i hi => absurd hi (Nat.not_lt_zero i), hE, fun z => z⟩
theorem PuH_VO {n : Nat} {τ : MS} {r : Int32 × MS} {g' : Nat → Prop} {l' : List Nat} {h' : Nat} (hU : PuH g B h t n σ τ g' l' h') (b : VO g' B h' (t + n) τ r) : ∃ g2 l2 h2, PuH g B h t (n + 1) σ (mPu r.2 (t + n) r.1) g2 l2 h2 ∧ ∀ v, g' v → g2 v := by
  obtain ⟨a1, a2, a3, a4, a5, a6⟩ := hU
  obtain ⟨g2, l2, h2, b1, b2, b3, b4, b5, b6⟩ := b
  have hg := HG_tr a1 b1
  refine ⟨g2, l2, h2, ⟨⟨HS_pu hg.1, hg.2.1, hg.2.2.1, fun i h1 h2 => ?_⟩, FW_tr (FW_tr a2 (FW_mo b2 (by omega))) (FW_pu (by omega)), mPu_59, fun i hi => ?_, ErB_c (mPu_s (by decide)) b4, fun z => ?_⟩, b1.2.1⟩
  · rw [mPu_o (by decide)]; exact hg.2.2.2 i h1 h2
  · rw [mPu_29]
    by_cases e : i = n
    · rw [e, upd_same]; exact b6
    · rw [upd_other (by omega), b2.2.2 (t + i) (by omega)]
      obtain ⟨m, m1, m2⟩ := a4 i (by omega)
      exact ⟨m, m1, m2.imp id (b1.2.1 m)⟩
  · rw [mPu_s (by decide)]; exact b5 (a6 z)
theorem PuH_er {n w : Nat} {τ : MS} {g' : Nat → Prop} {l' : List Nat} {h' : Nat} (hU : PuH g B h t n σ τ g' l' h') (hn : n ≤ w) (he : ¬ τ.1 56 = 0) : VQ g B h t w σ (0, τ) := by
  obtain ⟨a1, a2, a3, a4, a5, a6⟩ := hU
  exact ⟨g', l', h', a1, a2, ⟨t + n, a3, by omega, by omega, Or.inr he, fun i hi => a4 i (by omega)⟩, a5, a6, Vd_0⟩
theorem PuH_set {n : Nat} {τ : MS} {g' : Nat → Prop} {l' : List Nat} {h' : Nat} (hU : PuH g B h t n σ τ g' l' h') (htn : t + n ≤ 185000) (hn : n ≤ 60100) {L : Nat → Int32} (hL : L 1 = nI t) : Tm (fun k => x_setOf k 0 L τ) (VO g B h t σ) := by
  obtain ⟨a1, a2, a3, a4, a5, a6⟩ := hU
  exact Tm_mono (s_setOf a1.1 a5 a3 htn hn a4 hL) (fun r hr => VO_tr a1 a2 a6 hr)
theorem n_pow8 {n : Nat} (hn : n ≤ 8) : (1 : Int32) <<< (nI n &&& 31) = nI (2 ^ n) ∧ 1 ≤ 2 ^ n ∧ 2 ^ n ≤ 256 := by
  have : n = 0 ∨ n = 1 ∨ n = 2 ∨ n = 3 ∨ n = 4 ∨ n = 5 ∨ n = 6 ∨ n = 7 ∨ n = 8 := by omega
  rcases this with rfl | rfl | rfl | rfl | rfl | rfl | rfl | rfl | rfl <;> decide
theorem s_powerSet (hP : VP g l B h t σ) {v : Nat} (hv : v < 3 ∨ g v) {L : Nat → Int32} (h1 : L 1 = nI v) : Tm (fun k => x_powerSet k 0 L σ) (VQ g B h t 256 σ) := by
  have hS := hP.1
  have hb := HS_b hS
  have hB := hS.2.1
  have ht := hP.2.2.1
  have kv := kdN_6 hS hv
  refine Tm_suc (fun k => by rw [x_powerSet]) ?_
  refine Tm_ob (s_kind hS hv (by exact h1)) (fun r hr => ?_)
  rw [hr]
  refine Tm_ite (fun w => ?_) (fun _ => Tm_ob (s_wrongKind _) (fun r hr => Tm_some (VQ_of (VO_wk hP hr))))
  have w := (n_eq (q := 6) (by omega) (by decide)).mp w
  have gv := kdN_ge hS hv (by omega)
  obtain ⟨n, v1, v2, v3, v4, v5, v6, v7⟩ := ob_at hS gv
  have v7 := v7 (by omega)
  refine Tm_suc (fun k => by rw [x_powerSet]) ?_
  rw [h1, show nI v + 1 = nI (v + 1) from n_add1 v]
  refine Tm_chk (n_in (by omega) (by omega)) ?_
  rw [n_cl (p := v + 1) (by omega), v1]
  refine Tm_ite (fun z => ?_) (fun _ => ?_)
  case refine_2 =>
    refine Tm_ob (s_fail _ σ) (fun r hr => ?_)
    rw [hr]
    exact Tm_some (VQ_of (VO_er hP (e := 5) (by decide)))
  have hn8 := (n_le (q := 8) (by omega) (by decide)).mp z
  obtain ⟨p1, p2, p3⟩ := n_pow8 hn8
  generalize 2 ^ n = P at p1 p2 p3
  have b7 : ∀ (i : Nat) (N : Nat → Int32) (τ : MS) (g' : Nat → Prop) (l' : List Nat) (h' : Nat), i ≤ 256 → N 3 = nI t → PuH g B h t i σ τ g' l' h' → Tm (fun k => x_powerSet k 7 N τ) (VQ g B h t 256 σ) := by
    intro i N τ g' l' h' hi n3 hU
    refine Tm_suc (fun k => by rw [x_powerSet]) ?_
    refine Tm_ite (fun _ => ?_) (fun he => ?_)
    · refine Tm_ob (PuH_set hU (by omega) (by omega) (by exact n3)) (fun r hr => ?_)
      refine Tm_suc (fun k => by rw [x_powerSet]) ?_
      exact Tm_some (VQ_of hr)
    · refine Tm_suc (fun k => by rw [x_powerSet]) ?_
      refine Tm_suc (fun k => by rw [x_powerSet]) ?_
      exact Tm_some (PuH_er hU hi he)
  have b3 : ∀ (q i : Nat) (N : Nat → Int32) (τ : MS) (g' : Nat → Prop) (l' : List Nat) (h' : Nat), q + i = P → N 1 = nI v → N 2 = nI n → N 3 = nI t → N 4 = nI i → PuH g B h t i σ τ g' l' h' → Tm (fun k => x_powerSet k 3 N τ) (VQ g B h t 256 σ) := by
    intro q
    induction q with
    | zero =>
      intro i N τ g' l' h' hi n1 n2 n3 n4 hU
      refine Tm_suc (fun k => by rw [x_powerSet]) ?_
      rw [n2, p1, n4]
      exact Tm_ite (fun _ => b7 i N τ g' l' h' (by omega) n3 hU) (fun w => absurd ((n_le (by omega) (by omega)).mpr (by omega)) w)
    | succ q ih =>
      intro i N τ g' l' h' hi n1 n2 n3 n4 hU
      refine Tm_suc (fun k => by rw [x_powerSet]) ?_
      rw [n2, p1, n4]
      refine Tm_ite (fun w => absurd ((n_le (by omega) (by omega)).mp w) (by omega)) (fun _ => ?_)
      refine Tm_ite (fun _ => ?_) (fun _ => b7 i N τ g' l' h' (by omega) n3 hU)
      have hU2 := hU
      obtain ⟨a1, a2, a3, a4, a5, a6⟩ := hU
      rw [a3]
      have b4 : ∀ (c j p : Nat) (M : Nat → Int32) (υ : MS), c + j = n → p ≤ j → M 1 = nI v → M 2 = nI n → M 3 = nI t → M 4 = nI i → M 5 = nI (t + i) → M 6 = nI j → PuS g' (t + i) p τ υ → Tm (fun k => x_powerSet k 4 M υ) (VQ g B h t 256 σ) := by
        intro c
        induction c with
        | zero =>
          intro j p M υ hj hp m1 m2 m3 m4 m5 m6 hV
          refine Tm_suc (fun k => by rw [x_powerSet]) ?_
          rw [m2, m6]
          refine Tm_ite (fun _ => ?_) (fun w => absurd ((n_le (by omega) (by omega)).mpr (by omega)) w)
          refine Tm_suc (fun k => by rw [x_powerSet]) ?_
          refine Tm_ob (PuS_set hV a1.1 a5 (by omega) (by omega) (by exact m5)) (fun r hr => ?_)
          have hr59 : r.2.1 59 = nI (t + i) := by
            obtain ⟨_, _, _, _, _, e, _⟩ := hr
            exact e
          refine Tm_ob (s_push hr59 (by omega) _) (fun s hs => ?_)
          rw [hs]
          obtain ⟨g2, l2, h2, hW, -⟩ := PuH_VO hU2 hr
          exact ih (i + 1) _ _ g2 l2 h2 (by omega) m1 m2 m3 (by show M 4 + 1 = _; rw [m4, n_add1]) hW
        | succ c ihc =>
          intro j p M υ hj hp m1 m2 m3 m4 m5 m6 hV
          have b5 : ∀ (p' : Nat) (υ' : MS), p' ≤ j + 1 → PuS g' (t + i) p' τ υ' → Tm (fun k => x_powerSet k 5 M υ') (VQ g B h t 256 σ) := fun p' υ' hp' hV' => by
            refine Tm_suc (fun k => by rw [x_powerSet]) ?_
            exact ihc (j + 1) p' _ _ (by omega) hp' m1 m2 m3 m4 m5 (by show M 6 + 1 = _; rw [m6, n_add1]) hV'
          obtain ⟨y, y1, y2⟩ := v7 j (by omega)
          refine Tm_suc (fun k => by rw [x_powerSet]) ?_
          rw [m1, show nI v + 4 = nI (v + 4) from n_add (q := 4) (by omega), m6, n_add (by omega), m2]
          refine Tm_ite (fun w => absurd ((n_le (by omega) (by omega)).mp w) (by omega)) (fun _ => ?_)
          refine Tm_ite (fun _ => ?_) (fun _ => b5 p υ (by omega) hV)
          refine Tm_chk (n_in (by omega) (by omega)) ?_
          rw [n_cl (p := v + 4 + j) (by omega), hV.2.1 28 (by decide), a1.2.2.2 (v + 4 + j) (by omega) (by omega), y1]
          exact Tm_ob (PuS_push hV (by omega) (y2.imp id (a1.2.1 y)) rfl) (fun r hr => b5 (p + 1) _ (by omega) hr)
      exact b4 n 0 0 _ _ (by omega) (Nat.le_refl _) n1 n2 n3 n4 rfl rfl (PuS_0 a3)
  refine Tm_suc (fun k => by rw [x_powerSet]) ?_
  rw [hP.2.1]
  exact b3 P 0 _ _ g l h (by omega) h1 rfl rfl rfl (PuH_0 hS hP.2.1 hP.2.2.2)
end POW
end JnS125
section JnS126
/-! The functions of one value; a new atom (reference). -/
section FUN
variable {g : Nat → Prop} {l : List Nat} {B h t : Nat} {σ : MS}
theorem s_function (hP : VP g l B h t σ) (hT : TyT (σ.2.2 2)) {v : Nat} (hv : v < 3 ∨ g v) {L : Nat → Int32} (h2 : L 2 = nI v) : Tm (fun k => x_function k 0 L σ) (VQ g B h t 256 σ) := by
  have hS := hP.1
  have hb := HS_b hS
  have hB := hS.2.1
  have kv := kdN_6 hS hv
  refine Tm_suc (fun k => by rw [x_function]) ?_
  refine Tm_ob (s_kind hS hv (by exact h2)) (fun r hr => ?_)
  rw [hr]
  have m2 : upd L 3 (nI (kdN (σ.2.2 28) v)) 2 = nI v := h2
  have m3 : upd L 3 (nI (kdN (σ.2.2 28) v)) 3 = nI (kdN (σ.2.2 28) v) := rfl
  show Tm (fun k => if L 1 = 39 then x_function k 1 (upd L 3 (nI (kdN (σ.2.2 28) v))) σ else (if L 1 = 40 then x_function k 5 (upd L 3 (nI (kdN (σ.2.2 28) v))) σ else (if L 1 = 41 then x_function k 9 (upd L 3 (nI (kdN (σ.2.2 28) v))) σ else (if L 1 = 42 then x_function k 10 (upd L 3 (nI (kdN (σ.2.2 28) v))) σ else (if L 1 = 43 then x_function k 11 (upd L 3 (nI (kdN (σ.2.2 28) v))) σ else (if L 1 = 44 then x_function k 12 (upd L 3 (nI (kdN (σ.2.2 28) v))) σ else (if L 1 = 45 then x_function k 13 (upd L 3 (nI (kdN (σ.2.2 28) v))) σ else (if L 1 = 46 then x_function k 15 (upd L 3 (nI (kdN (σ.2.2 28) v))) σ else (if L 1 = 47 then x_function k 16 (upd L 3 (nI (kdN (σ.2.2 28) v))) σ else (if L 1 = 48 then x_function k 18 (upd L 3 (nI (kdN (σ.2.2 28) v))) σ else (if L 1 = 49 then x_function k 18 (upd L 3 (nI (kdN (σ.2.2 28) v))) σ else (if L 1 = 50 then x_function k 17 (upd L 3 (nI (kdN (σ.2.2 28) v))) σ else x_function k 18 (upd L 3 (nI (kdN (σ.2.2 28) v))) σ)))))))))))) _
  generalize upd L 3 (nI (kdN (σ.2.2 28) v)) = M at m2 m3
  have e4 : ∀ (M : Nat → Int32) (r : Int32 × MS), M 100 = r.1 → VO g B h t σ r → Tm (fun k => x_function k 4 M r.2) (VQ g B h t 256 σ) := fun M r hM hr => by
    refine Tm_suc (fun k => by rw [x_function]) ?_
    rw [hM]; exact Tm_some (VQ_of hr)
  have e8 : ∀ (M : Nat → Int32) (r : Int32 × MS), M 100 = r.1 → VO g B h t σ r → Tm (fun k => x_function k 8 M r.2) (VQ g B h t 256 σ) := fun M r hM hr => by
    refine Tm_suc (fun k => by rw [x_function]) ?_
    rw [hM]; exact Tm_some (VQ_of hr)
  have b18 : Tm (fun k => x_function k 18 M σ) (VQ g B h t 256 σ) := by
    refine Tm_suc (fun k => by rw [x_function]) ?_
    exact Tm_ob (s_drawn hP hv (by exact m2)) (fun r hr => Tm_some (VQ_of hr))
  refine Tm_ite (fun _ => ?_) (fun _ => ?_)
  · -- abs
    refine Tm_suc (fun k => by rw [x_function]) ?_
    rw [m3]
    refine Tm_ite (fun w => ?_) (fun _ => Tm_ob (s_wrongKind _) (fun r hr => e4 _ r rfl (VO_wk hP hr)))
    have w := (n_eq (q := 2) (by omega) (by decide)).mp w
    obtain ⟨n, hn⟩ := Wh_of hS hv w
    have hn1 := hn.2.1
    have hn2 := hn.2.2.2.1
    refine Tm_suc (fun k => by rw [x_function]) ?_
    refine Tm_ob (s_signOf hS (m := v) (by omega) (by exact m2)) (fun r hr => ?_)
    rw [hr]
    refine Tm_ite (fun _ => ?_) (fun _ => Tm_ob (s_other hP hn (by exact m2)) (fun r hr => e4 _ r rfl hr))
    refine Tm_suc (fun k => by rw [x_function]) ?_
    rw [m2]
    exact e4 _ (nI v, σ) rfl (VO_id hP ⟨v, rfl, hv⟩)
  refine Tm_ite (fun _ => ?_) (fun _ => ?_)
  · -- arb
    refine Tm_suc (fun k => by rw [x_function]) ?_
    rw [m3]
    refine Tm_ite (fun w => ?_) (fun _ => Tm_ob (s_wrongKind _) (fun r hr => e8 _ r rfl (VO_wk hP hr)))
    have w := (n_eq (q := 6) (by omega) (by decide)).mp w
    obtain ⟨n, v1, v2, v3, v4, v5, v6, v7⟩ := ob_at hS (kdN_ge hS hv (by omega))
    refine Tm_suc (fun k => by rw [x_function]) ?_
    rw [m2, show nI v + 1 = nI (v + 1) from n_add1 v]
    refine Tm_chk (n_in (by omega) (by omega)) ?_
    rw [n_cl (p := v + 1) (by omega), v1]
    refine Tm_ite (fun _ => e8 _ (0, σ) rfl (VO_id hP Vd_0)) (fun z => ?_)
    have hn0 : 0 < n := by
      by_cases e : n = 0
      · exact absurd (by rw [e]; rfl) z
      · omega
    obtain ⟨y, y1, y2⟩ := v7 (by omega) 0 hn0
    refine Tm_suc (fun k => by rw [x_function]) ?_
    rw [m2, show nI v + 4 = nI (v + 4) from n_add (q := 4) (by omega)]
    refine Tm_chk (n_in (by omega) (by omega)) ?_
    rw [n_cl (p := v + 4) (by omega), show σ.2.2 28 (v + 4) = nI y from y1]
    exact e8 _ (nI y, σ) rfl (VO_id hP ⟨y, rfl, y2⟩)
  refine Tm_ite (fun _ => ?_) (fun _ => ?_)
  · refine Tm_suc (fun k => by rw [x_function]) ?_
    exact Tm_ob (s_side hP hv (c := 0) (by decide) (by exact m2) rfl) (fun r hr => Tm_some (VQ_of hr))
  refine Tm_ite (fun _ => ?_) (fun _ => ?_)
  · refine Tm_suc (fun k => by rw [x_function]) ?_
    exact Tm_ob (s_side hP hv (c := 1) (by decide) (by exact m2) rfl) (fun r hr => Tm_some (VQ_of hr))
  refine Tm_ite (fun _ => ?_) (fun _ => ?_)
  · refine Tm_suc (fun k => by rw [x_function]) ?_
    exact Tm_ob (s_powerSet hP hv (by exact m2)) (fun r hr => Tm_some hr)
  refine Tm_ite (fun _ => ?_) (fun _ => ?_)
  · refine Tm_suc (fun k => by rw [x_function]) ?_
    exact Tm_ob (s_typeOf hP hT hv (by exact m2)) (fun r hr => Tm_some (VQ_of hr))
  refine Tm_ite (fun _ => ?_) (fun _ => ?_)
  · -- str
    refine Tm_suc (fun k => by rw [x_function]) ?_
    show Tm (fun k => x_function k 14 M (mSc σ 93 0)) _
    have hF : PrF σ (mSc σ 93 0) := PrF_sc (Or.inr rfl)
    have hP1 := PrF_VP hF hP
    have h93 : (mSc σ 93 0).1 93 = nI 0 := rfl
    refine Tm_mono (Q := VO g B h t (mSc σ 93 0)) ?_ (fun r hr => VQ_of (PrF_VO hF hP hr))
    generalize mSc σ 93 0 = ρ at hP1 h93
    have sz := szN_b hP1.1 hv
    refine Tm_suc (fun k => by rw [x_function]) ?_
    refine Tm_ob (s_printV hP1.1 hv h93 (by omega) (by exact m2)) (fun r hr => ?_)
    obtain ⟨hF2, p, p1, p2, p3⟩ := hr
    rw [p1]
    exact Tm_ob (s_stringOf48 (PrF_VP hF2 hP1) (f := 0) (n := p) (by omega) (fun _ => by omega) rfl rfl) (fun s hs => Tm_some (PrF_VO hF2 hP1 hs))
  refine Tm_ite (fun _ => ?_) (fun _ => ?_)
  · refine Tm_suc (fun k => by rw [x_function]) ?_
    exact Tm_ob (s_character hP hv (by exact m2)) (fun r hr => Tm_some (VQ_of hr))
  refine Tm_ite (fun _ => ?_) (fun _ => ?_)
  · refine Tm_suc (fun k => by rw [x_function]) ?_
    exact Tm_ob (s_codeOf hP hv (by exact m2)) (fun r hr => Tm_some (VQ_of hr))
  refine Tm_ite (fun _ => b18) (fun _ => ?_)
  refine Tm_ite (fun _ => b18) (fun _ => ?_)
  refine Tm_ite (fun _ => ?_) (fun _ => b18)
  refine Tm_suc (fun k => by rw [x_function]) ?_
  exact Tm_ob (s_reversed hP hv (by exact m2)) (fun r hr => Tm_some (VQ_of hr))
/-- a new atom: one more, or an error -/
def AtO (g : Nat → Prop) (B h t a : Nat) (σ : MS) (r : Int32 × MS) : Prop := (a = 1000000 ∧ r = (0, mEr σ (nI 6))) ∨ (a < 1000000 ∧ VO g B h t (mSc σ 95 (nI (a + 1))) r)
theorem s_newAtom (hP : VP g l B h t σ) {a : Nat} (ha : a ≤ 1000000) (h95 : σ.1 95 = nI a) (L : Nat → Int32) : Tm (fun k => x_newAtom k 0 L σ) (AtO g B h t a σ) := by
  refine Tm_suc (fun k => by rw [x_newAtom]) ?_
  rw [h95]
  refine Tm_ite (fun w => ?_) (fun w => ?_)
  · refine Tm_ob (s_fail _ σ) (fun r hr => ?_)
    rw [hr]
    exact Tm_some (Or.inl ⟨(n_eq (q := 1000000) (by omega) (by decide)).mp w, rfl⟩)
  have hlt : a < 1000000 := by
    by_cases e : a = 1000000
    · exact absurd (by rw [e]; rfl) w
    · omega
  refine Tm_suc (fun k => by rw [x_newAtom]) ?_
  rw [h95, n_add1]
  show Tm (fun k => x_newAtom k 2 L (mSc σ 95 (nI (a + 1)))) _
  refine Tm_mono (Q := VO g B h t (mSc σ 95 (nI (a + 1)))) ?_ (fun r hr => Or.inr ⟨hlt, hr⟩)
  have hP1 : VP g l B h t (mSc σ 95 (nI (a + 1))) := ⟨HS_c hP.1 rfl rfl rfl, hP.2.1, hP.2.2.1, ErB_c rfl hP.2.2.2⟩
  have q95 : (mSc σ 95 (nI (a + 1))).1 95 = nI (a + 1) := rfl
  generalize mSc σ 95 (nI (a + 1)) = ρ at hP1 q95
  have hS := hP1.1
  have hb := HS_b hS
  have hB := hS.2.1
  refine Tm_suc (fun k => by rw [x_newAtom]) ?_
  refine Tm_ob (s_make hS (n := 1) (by decide) rfl) (fun r hr => ?_)
  rcases hr with ⟨z, hr⟩ | ⟨z, hr⟩
  · rw [hr]
    refine Tm_ite (fun w => absurd (er_le0 (ErB_er (e := 5) hP1.2.2.2 (by decide)) w) (mEr_e (by decide))) (fun _ => ?_)
    exact Tm_some (VO_er hP1 (e := 5) (by decide))
  rw [hr]
  refine Tm_ite (fun w => ?_) (fun _ => Tm_some (VO_mk hS hP1.2.2.2 hP1.2.1 z))
  show Tm (fun k => x_newAtom k 3 (upd L 1 (nI h)) (mMk ρ h 3 1)) _
  refine Tm_suc (fun k => by rw [x_newAtom]) ?_
  show Tm (fun k => if ¬ (nI h + 4 < 0 ∨ 1740000 ≤ (nI h + 4).toNatClampNeg) then (x_newAtom k 4 (upd L 1 (nI h)) (mAr (mMk ρ h 3 1) 28 (nI h + 4).toNatClampNeg (ρ.1 95))) else none) _
  rw [show nI h + 4 = nI (h + 4) from n_add (q := 4) (by omega)]
  refine Tm_chk (n_in (by omega) (by omega)) ?_
  rw [n_cl (p := h + 4) (by omega), q95]
  refine Tm_suc (fun k => by rw [x_newAtom]) ?_
  have e : (mAr (mMk ρ h 3 1) 28 (h + 4) (nI (a + 1))).2.2 28 = upd (upd (upd (upd (upd (ρ.2.2 28) h 3) (h + 1) (nI 1)) (h + 2) 1) (h + 3) 0) (h + 4) (nI (a + 1)) := by rw [mAr_s, mMk_28]
  have f1 : FW t ρ (mAr (mMk ρ h 3 1) 28 (h + 4) (nI (a + 1))) := FW_tr FW_mk (FW_ar (Or.inl rfl))
  have s1 : ∀ j, j ≠ 55 → (mAr (mMk ρ h 3 1) 28 (h + 4) (nI (a + 1))).1 j = ρ.1 j := fun j hj => mMk_s (k := 3) hj
  have s55 : (mAr (mMk ρ h 3 1) 28 (h + 4) (nI (a + 1))).1 55 = nI (h + 4 + 1) := by
    show nI (h + (4 + 1)) = _
    rw [Nat.add_assoc]
  show Tm (fun k => some (nI h, mAr (mMk ρ h 3 1) 28 (h + 4) (nI (a + 1)))) _
  generalize mAr (mMk ρ h 3 1) 28 (h + 4) (nI (a + 1)) = υ at e f1 s1 s55
  refine Tm_some ⟨_, _, _, HS_good (n := 1) (k := 3) (s := 1) (u := 0) hS z (s1 54 (by decide)) s55 (fun i h1 h2 => ?_) ?_, f1, (s1 59 (by decide)).trans hP1.2.1, ErB_c (s1 56 (by decide)) hP1.2.2.2, fun z => by rw [s1 56 (by decide)]; exact z, ⟨h, rfl, Or.inr (Or.inr rfl)⟩⟩
  · rw [e, upd_other (by omega), upd_other (by omega), upd_other (by omega), upd_other (by omega), upd_other (by omega)]
  · refine ⟨?_, ?_, ?_, ?_, by omega, by omega, by omega, by omega, fun z => absurd z (by decide), fun _ => ⟨rfl, rfl, a + 1, by omega, ?_⟩, fun z => absurd z (by decide), fun z => absurd z (by decide)⟩
    · rw [e, upd_other (by omega), upd_other (by omega), upd_other (by omega), upd_other (by omega), upd_same]; rfl
    · rw [e, upd_other (by omega), upd_other (by omega), upd_other (by omega), upd_same]
    · rw [e, upd_other (by omega), upd_other (by omega), upd_same]; rfl
    · rw [e, upd_other (by omega), upd_same]; rfl
    · rw [e, upd_same]
end FUN
end JnS126
section JnS127
/-! Without; a place is written; other pairs (reference). -/
section PUT
variable {g : Nat → Prop} {l : List Nat} {B h t : Nat} {σ : MS}
theorem s_without (hP : VP g l B h t σ) {v n : Nat} (hv : g v) (hk : 4 ≤ kdN (σ.2.2 28) v) (hn : σ.2.2 28 (v + 1) = nI n) (hn1 : 1 ≤ n) (hn2 : n ≤ 3996) {L : Nat → Int32} (h1 : L 1 = nI v) : Tm (fun k => x_without k 0 L σ) (VO g B h t σ) := by
  have hS := hP.1
  have hb := HS_b hS
  have hB := hS.2.1
  have ht := hP.2.2.1
  obtain ⟨n', v1, v2, v3, v4, v5, v6, v7⟩ := ob_at hS hv
  have e : n' = n := (n_eq (by omega) (by omega)).mp (v1.symm.trans hn)
  subst e
  have b11 : ∀ (N : Nat → Int32) (r : Int32 × MS), N 100 = r.1 → VO g B h t σ r → Tm (fun k => x_without k 11 N r.2) (VO g B h t σ) := fun N r hN hr => by
    refine Tm_suc (fun k => by rw [x_without]) ?_
    rw [hN]; exact Tm_some hr
  refine Tm_suc (fun k => by rw [x_without]) ?_
  rw [h1, show nI v + 1 = nI (v + 1) from n_add1 v]
  refine Tm_chk (n_in (by omega) (by omega)) ?_
  refine Tm_chk (n_in (by omega) (by omega)) ?_
  rw [n_cl (p := v + 1) (by omega), n_cl (p := v) (by omega), v1, v5]
  refine Tm_ite (fun _ => ?_) (fun z => ?_)
  · have l1 : ∀ (q i p : Nat) (N : Nat → Int32) (τ : MS), q + i = n' → p ≤ i → N 1 = nI v → N 3 = nI n' → N 4 = nI p → N 5 = nI i → BF σ τ → Tm (fun k => x_without k 1 N τ) (VO g B h t σ) := by
      intro q
      induction q with
      | zero =>
        intro i p N τ hi hp m1 m3 m4 m5 hF
        refine Tm_suc (fun k => by rw [x_without]) ?_
        rw [m3, m5]
        refine Tm_ite (fun _ => ?_) (fun w => absurd ((n_le (by omega) (by omega)).mpr (by omega)) w)
        refine Tm_suc (fun k => by rw [x_without]) ?_
        rw [m3, show nI n' - 1 = nI (n' - 1) from n_sub (p := n') (q := 1) (by omega) (by omega)]
        exact Tm_ob (s_stringOf51 (BF_VP hF hP) (f := 0) (n := n' - 1) (by omega) (fun _ => by omega) rfl rfl) (fun r hr => Tm_some (BF_VO hF hP hr))
      | succ q ih =>
        intro i p N τ hi hp m1 m3 m4 m5 hF
        have b4 : ∀ (c d : Nat) (M : Nat → Int32) (τ' : MS), c + d ≤ i + 1 → M 1 = nI v → M 3 = nI n' → M 101 = nI c → M 100 = nI d → M 5 = nI i → BF σ τ' → Tm (fun k => x_without k 4 M τ') (VO g B h t σ) := fun c d M τ' hcd q1 q3 q101 q100 q5 hF' => by
          refine Tm_suc (fun k => by rw [x_without]) ?_
          refine ih (i + 1) (c + d) _ _ (by omega) hcd q1 q3 ?_ ?_ hF'
          · show M 101 + M 100 = _
            rw [q101, q100, n_add (by omega)]
          · show M 5 + 1 = _
            rw [q5, n_add1]
        refine Tm_suc (fun k => by rw [x_without]) ?_
        rw [m3, m5, m1, m4, show nI v + 4 = nI (v + 4) from n_add (q := 4) (by omega), n_add (by omega)]
        refine Tm_ite (fun w => absurd ((n_le (by omega) (by omega)).mp w) (by omega)) (fun _ => ?_)
        refine Tm_chk (n_in (by omega) (by omega)) ?_
        refine Tm_chk (n_in (by omega) (by omega)) ?_
        rw [n_cl (p := p) (by omega)]
        show Tm (fun k => x_without k 2 N (mAr τ 51 p (τ.2.2 28 (nI (v + 4 + i)).toNatClampNeg))) _
        refine Tm_suc (fun k => by rw [x_without]) ?_
        refine Tm_ite (fun _ => b4 p 0 _ _ (by omega) m1 m3 m4 rfl m5 (BF_51 hF)) (fun _ => ?_)
        refine Tm_suc (fun k => by rw [x_without]) ?_
        exact b4 p 1 _ _ (by omega) m1 m3 m4 rfl m5 (BF_51 hF)
    exact l1 n' 0 0 _ _ (by omega) (Nat.le_refl _) h1 rfl rfl rfl BF_rf
  have hk5 : 5 ≤ kdN (σ.2.2 28) v := by
    by_cases e : kdN (σ.2.2 28) v = 4
    · exact absurd (by rw [e]; rfl) z
    · omega
  have v7 := v7 hk5
  have l7 : ∀ (q i p : Nat) (N : Nat → Int32) (τ : MS), q + i = n' → p ≤ i → N 1 = nI v → N 3 = nI n' → N 4 = nI t → N 5 = nI i → PuS g t p σ τ → Tm (fun k => x_without k 7 N τ) (VO g B h t σ) := by
    intro q
    induction q with
    | zero =>
      intro i p N τ hi hp m1 m3 m4 m5 hU
      refine Tm_suc (fun k => by rw [x_without]) ?_
      rw [m3, m5]
      refine Tm_ite (fun _ => ?_) (fun w => absurd ((n_le (by omega) (by omega)).mpr (by omega)) w)
      refine Tm_suc (fun k => by rw [x_without]) ?_
      rw [m1]
      refine Tm_chk (n_in (by omega) (by omega)) ?_
      refine Tm_ite (fun _ => ?_) (fun _ => ?_)
      · exact Tm_ob (PuS_set hU hS hP.2.2.2 (by omega) (by omega) (by exact m4)) (fun r hr => b11 _ r rfl hr)
      · refine Tm_suc (fun k => by rw [x_without]) ?_
        exact Tm_ob (PuS_tup hU hS hP.2.2.2 (by omega) (by exact m4)) (fun r hr => b11 _ r rfl hr)
    | succ q ih =>
      intro i p N τ hi hp m1 m3 m4 m5 hU
      have b8 : ∀ (p' : Nat) (τ' : MS), p' ≤ i + 1 → PuS g t p' σ τ' → Tm (fun k => x_without k 8 N τ') (VO g B h t σ) := fun p' τ' hp' hU' => by
        refine Tm_suc (fun k => by rw [x_without]) ?_
        exact ih (i + 1) p' _ _ (by omega) hp' m1 m3 m4 (by show N 5 + 1 = _; rw [m5, n_add1]) hU'
      obtain ⟨y, y1, y2⟩ := v7 i (by omega)
      refine Tm_suc (fun k => by rw [x_without]) ?_
      rw [m3, m5, m1, show nI v + 4 = nI (v + 4) from n_add (q := 4) (by omega), n_add (by omega)]
      refine Tm_ite (fun w => absurd ((n_le (by omega) (by omega)).mp w) (by omega)) (fun _ => ?_)
      refine Tm_ite (fun _ => b8 p τ (by omega) hU) (fun _ => ?_)
      refine Tm_chk (n_in (by omega) (by omega)) ?_
      rw [n_cl (p := v + 4 + i) (by omega), hU.2.1 28 (by decide), y1]
      exact Tm_ob (PuS_push hU (by omega) y2 rfl) (fun r hr => b8 (p + 1) _ (by omega) hr)
  refine Tm_suc (fun k => by rw [x_without]) ?_
  rw [hP.2.1]
  exact l7 n' 0 0 _ _ (by omega) (Nat.le_refl _) h1 rfl rfl rfl (PuS_0 hP.2.1)
theorem s_putPlace (hP : VP g l B h t σ) {v p x : Nat} (hv : g v) (hk : 5 ≤ kdN (σ.2.2 28) v) (hp1 : 1 ≤ p) (hp : p ≤ 100001) (hx : x < 3 ∨ g x) {L : Nat → Int32} (h1 : L 1 = nI v) (h2 : L 2 = nI p) (h3 : L 3 = nI x) : Tm (fun k => x_putPlace k 0 L σ) (VO g B h t σ) := by
  have hS := hP.1
  have hb := HS_b hS
  have hB := hS.2.1
  have ht := hP.2.2.1
  obtain ⟨n, v1, v2, v3, v4, v5, v6, v7⟩ := ob_at hS hv
  have v7 := v7 hk
  have b1 : ∀ N : Nat → Int32, N 1 = nI v → N 2 = nI p → N 3 = nI x → N 4 = nI n → Tm (fun k => x_putPlace k 1 N σ) (VO g B h t σ) := by
    intro N n1 n2 n3 n4
    refine Tm_suc (fun k => by rw [x_putPlace]) ?_
    rw [n2]
    refine Tm_ite (fun w => ?_) (fun _ => ?_)
    case refine_2 =>
      refine Tm_ob (s_fail _ σ) (fun r hr => ?_)
      rw [hr]
      exact Tm_some (VO_er hP (e := 5) (by decide))
    have hp2 := (n_le (q := 2000) (by omega) (by decide)).mp w
    have b3 : ∀ (q j : Nat) (N : Nat → Int32) (τ : MS), 4000 ≤ q + j → n ≤ 3996 → j ≤ 3997 → (j ≤ n + 1 ∨ j ≤ p + 1) → N 1 = nI v → N 2 = nI p → N 3 = nI x → N 4 = nI n → N 5 = nI t → N 6 = nI (j + 1) → PuS g t j σ τ → Tm (fun k => x_putPlace k 3 N τ) (VO g B h t σ) := by
      intro q
      induction q with
      | zero => intro j N τ hq hn hj; omega
      | succ q ih =>
        intro j N τ hq hn hj hjb n1 n2 n3 n4 n5 n6 hU
        have b7 : ∀ (y : Nat) (M : Nat → Int32), (y < 3 ∨ g y) → (j + 1 ≤ n ∨ j + 1 ≤ p) → M 1 = nI v → M 2 = nI p → M 3 = nI x → M 4 = nI n → M 5 = nI t → M 6 = nI (j + 1) → M 100 = nI y → Tm (fun k => x_putPlace k 7 M τ) (VO g B h t σ) := by
          intro y M hy hc m1 m2 m3 m4 m5 m6 m100
          refine Tm_suc (fun k => by rw [x_putPlace]) ?_
          refine Tm_ob (PuS_push hU (by omega) hy (by exact m100)) (fun r hr => ?_)
          exact ih (j + 1) _ _ (by omega) hn (by omega) (by omega) m1 m2 m3 m4 m5 (by show M 6 + 1 = _; rw [m6, n_add1]) hr
        have b4 : (j + 1 ≤ n ∨ j + 1 ≤ p) → Tm (fun k => x_putPlace k 4 N τ) (VO g B h t σ) := by
          intro hc
          refine Tm_suc (fun k => by rw [x_putPlace]) ?_
          rw [n6, n2]
          refine Tm_ite (fun _ => b7 x _ hx hc n1 n2 n3 n4 n5 n6 n3) (fun _ => ?_)
          refine Tm_suc (fun k => by rw [x_putPlace]) ?_
          rw [n4, n6, n1, show nI v + 3 = nI (v + 3) from n_add (q := 3) (by omega), n_add (by omega)]
          refine Tm_ite (fun _ => ?_) (fun w => ?_)
          · refine Tm_suc (fun k => by rw [x_putPlace]) ?_
            exact b7 0 _ (Or.inl (by decide)) hc n1 n2 n3 n4 n5 n6 rfl
          · have hjn : j + 1 ≤ n := by
              by_cases e : n < j + 1
              · exact absurd ((n_lt (by omega) (by omega)).mpr e) w
              · omega
            obtain ⟨y, y1, y2⟩ := v7 j (by omega)
            refine Tm_chk (n_in (by omega) (by omega)) ?_
            rw [n_cl (p := v + 3 + (j + 1)) (by omega), hU.2.1 28 (by decide), show v + 3 + (j + 1) = v + 4 + j by omega, y1]
            exact b7 y _ y2 hc n1 n2 n3 n4 n5 n6 rfl
        refine Tm_suc (fun k => by rw [x_putPlace]) ?_
        rw [n6, n4, n2]
        refine Tm_ite (fun w => b4 (Or.inl ((n_le (by omega) (by omega)).mp w))) (fun _ => ?_)
        refine Tm_ite (fun w => ?_) (fun w => ?_)
        · refine Tm_suc (fun k => by rw [x_putPlace]) ?_
          exact Tm_ob (PuS_tup hU hS hP.2.2.2 (by omega) (by exact n5)) (fun r hr => Tm_some hr)
        · refine b4 (Or.inr ?_)
          by_cases e : p < j + 1
          · exact absurd ((n_lt (by omega) (by omega)).mpr e) w
          · omega
    refine Tm_suc (fun k => by rw [x_putPlace]) ?_
    rw [hP.2.1]
    exact b3 4000 0 _ _ (by omega) v2 (by omega) (by omega) n1 n2 n3 n4 rfl rfl (PuS_0 hP.2.1)
  refine Tm_suc (fun k => by rw [x_putPlace]) ?_
  rw [h1, show nI v + 1 = nI (v + 1) from n_add1 v]
  refine Tm_chk (n_in (by omega) (by omega)) ?_
  rw [n_cl (p := v + 1) (by omega), v1]
  refine Tm_ite (fun _ => b1 _ h1 h2 h3 rfl) (fun _ => ?_)
  exact Tm_ite (fun _ => Tm_some (VO_id hP ⟨v, rfl, Or.inr hv⟩)) (fun _ => b1 _ h1 h2 h3 rfl)
theorem s_pushOthers (hP : VP g l B h t σ) {v x n : Nat} (gv : g v) (hn : n ≤ 3996) (v1 : σ.2.2 28 (v + 1) = nI n) (hM : MpO g (σ.2.2 28) v n) (hx : x < 3 ∨ g x) {L : Nat → Int32} (h1 : L 1 = nI v) (h2 : L 2 = nI x) : Tm (fun k => x_pushOthers k 0 L σ) (fun r => ∃ p, p ≤ n ∧ PuS g t p σ r.2) := by
  have hS := hP.1
  have hb := HS_b hS
  have hB := hS.2.1
  have ht := hP.2.2.1
  obtain ⟨n', w1, w2, w3, w4, -, -, -⟩ := ob_at hS gv
  have e : n' = n := (n_eq (by omega) (by omega)).mp (w1.symm.trans v1)
  subst e
  have b1 : ∀ (q i p : Nat) (N : Nat → Int32) (τ : MS), q + i = n' → p ≤ i → N 1 = nI v → N 2 = nI x → N 3 = nI i → PuS g t p σ τ → Tm (fun k => x_pushOthers k 1 N τ) (fun r => ∃ p, p ≤ n' ∧ PuS g t p σ r.2) := by
    intro q
    induction q with
    | zero =>
      intro i p N τ hi hp n1 n2 n3 hU
      refine Tm_suc (fun k => by rw [x_pushOthers]) ?_
      rw [n1, n3, show nI v + 1 = nI (v + 1) from n_add1 v]
      refine Tm_chk (n_in (by omega) (by omega)) ?_
      rw [n_cl (p := v + 1) (by omega), hU.2.1 28 (by decide), v1]
      refine Tm_ite (fun _ => ?_) (fun w => absurd ((n_le (by omega) (by omega)).mpr (by omega)) w)
      refine Tm_suc (fun k => by rw [x_pushOthers]) ?_
      exact Tm_some ⟨p, by omega, hU⟩
    | succ q ih =>
      intro i p N τ hi hp n1 n2 n3 hU
      have b2 : ∀ (p' : Nat) (M : Nat → Int32) (τ' : MS), p' ≤ i + 1 → M 1 = nI v → M 2 = nI x → M 3 = nI i → PuS g t p' σ τ' → Tm (fun k => x_pushOthers k 2 M τ') (fun r => ∃ p, p ≤ n' ∧ PuS g t p σ r.2) := fun p' M τ' hp' m1 m2 m3 hU' => by
        refine Tm_suc (fun k => by rw [x_pushOthers]) ?_
        exact ih (i + 1) p' _ _ (by omega) hp' m1 m2 (by show M 3 + 1 = _; rw [m3, n_add1]) hU'
      obtain ⟨c, c1, c2, c3, c4⟩ := hM i (by omega)
      obtain ⟨d1, d2, ⟨a, a1, a2⟩, b, bb1, bb2⟩ := pr_at hS c2 c3 c4
      refine Tm_suc (fun k => by rw [x_pushOthers]) ?_
      rw [n1, n3, show nI v + 1 = nI (v + 1) from n_add1 v, show nI v + 4 = nI (v + 4) from n_add (q := 4) (by omega), n_add (by omega)]
      refine Tm_chk (n_in (by omega) (by omega)) ?_
      rw [n_cl (p := v + 1) (by omega), hU.2.1 28 (by decide), v1]
      refine Tm_ite (fun w => absurd ((n_le (by omega) (by omega)).mp w) (by omega)) (fun _ => ?_)
      refine Tm_chk (n_in (by omega) (by omega)) ?_
      rw [n_cl (p := v + 4 + i) (by omega), c1, show nI c + 4 = nI (c + 4) from n_add (q := 4) (by omega)]
      refine Tm_chk (n_in (by omega) (by omega)) ?_
      rw [n_cl (p := c + 4) (by omega), a1]
      refine Tm_ob (s_compareV (PuS_HS hU hS) a2 hx rfl (by exact n2)) (fun r hr => ?_)
      rw [hr]
      refine Tm_ite (fun _ => b2 p _ τ (by omega) n1 n2 n3 hU) (fun _ => ?_)
      exact Tm_ob (PuS_push hU (by omega) (Or.inr c2) rfl) (fun r hr => b2 (p + 1) _ _ (by omega) n1 n2 n3 hr)
  refine Tm_suc (fun k => by rw [x_pushOthers]) ?_
  exact b1 n' 0 0 _ _ (by omega) (Nat.le_refl _) h1 h2 rfl (PuS_0 hP.2.1)
end PUT
end JnS127

/-! One byte, a member, maps (reference). -/
section MAP
variable {g : Nat → Prop} {l : List Nat} {B h t : Nat} {σ : MS}
theorem s_byteString (hP : VP g l B h t σ) (L : Nat → Int32) : Tm (fun k => x_byteString k 0 L σ) (VO g B h t σ) := by
  have hS := hP.1
  have hb := HS_b hS
  have hB := hS.2.1
  refine Tm_suc (fun k => by rw [x_byteString]) ?_
  refine Tm_ob (s_make hS (n := 1) (by decide) rfl) (fun r hr => ?_)
  rcases hr with ⟨z, hr⟩ | ⟨z, hr⟩
  · rw [hr]
    refine Tm_ite (fun w => absurd (er_le0 (ErB_er (e := 5) hP.2.2.2 (by decide)) w) (mEr_e (by decide))) (fun _ => ?_)
    exact Tm_some (VO_er hP (e := 5) (by decide))
  rw [hr]
  refine Tm_ite (fun w => ?_) (fun _ => Tm_some (VO_mk hS hP.2.2.2 hP.2.1 z))
  show Tm (fun k => x_byteString k 1 (upd L 2 (nI h)) (mMk σ h 4 1)) _
  refine Tm_suc (fun k => by rw [x_byteString]) ?_
  show Tm (fun k => if ¬ (nI h + 4 < 0 ∨ 1740000 ≤ (nI h + 4).toNatClampNeg) then (x_byteString k 2 (upd L 2 (nI h)) (mAr (mMk σ h 4 1) 28 (nI h + 4).toNatClampNeg (L 1))) else none) _
  rw [show nI h + 4 = nI (h + 4) from n_add (q := 4) (by omega)]
  refine Tm_chk (n_in (by omega) (by omega)) ?_
  rw [n_cl (p := h + 4) (by omega)]
  refine Tm_suc (fun k => by rw [x_byteString]) ?_
  show Tm (fun k => if ¬ (nI h + 2 < 0 ∨ 1740000 ≤ (nI h + 2).toNatClampNeg) then (x_byteString k 3 (upd L 2 (nI h)) (mAr (mAr (mMk σ h 4 1) 28 (h + 4) (L 1)) 28 (nI h + 2).toNatClampNeg 2)) else none) _
  rw [show nI h + 2 = nI (h + 2) from n_add (q := 2) (by omega)]
  refine Tm_chk (n_in (by omega) (by omega)) ?_
  rw [n_cl (p := h + 2) (by omega)]
  refine Tm_suc (fun k => by rw [x_byteString]) ?_
  have e : (mAr (mAr (mMk σ h 4 1) 28 (h + 4) (L 1)) 28 (h + 2) 2).2.2 28 = upd (upd (upd (upd (upd (upd (σ.2.2 28) h 4) (h + 1) (nI 1)) (h + 2) 1) (h + 3) 0) (h + 4) (L 1)) (h + 2) 2 := by rw [mAr_s, mAr_s, mMk_28]
  have f1 : FW t σ (mAr (mAr (mMk σ h 4 1) 28 (h + 4) (L 1)) 28 (h + 2) 2) := FW_tr FW_mk (FW_tr (FW_ar (Or.inl rfl)) (FW_ar (Or.inl rfl)))
  have s1 : ∀ j, j ≠ 55 → (mAr (mAr (mMk σ h 4 1) 28 (h + 4) (L 1)) 28 (h + 2) 2).1 j = σ.1 j := fun j hj => mMk_s (k := 4) hj
  have s55 : (mAr (mAr (mMk σ h 4 1) 28 (h + 4) (L 1)) 28 (h + 2) 2).1 55 = nI (h + 4 + 1) := by
    show nI (h + (4 + 1)) = _
    rw [Nat.add_assoc]
  show Tm (fun k => some (nI h, mAr (mAr (mMk σ h 4 1) 28 (h + 4) (L 1)) 28 (h + 2) 2)) _
  generalize mAr (mAr (mMk σ h 4 1) 28 (h + 4) (L 1)) 28 (h + 2) 2 = υ at e f1 s1 s55
  refine Tm_some ⟨_, _, _, HS_good (n := 1) (k := 4) (s := 2) (u := 0) hS z (s1 54 (by decide)) s55 (fun i h1 h2 => ?_) ?_, f1, (s1 59 (by decide)).trans hP.2.1, ErB_c (s1 56 (by decide)) hP.2.2.2, fun z => by rw [s1 56 (by decide)]; exact z, ⟨h, rfl, Or.inr (Or.inr rfl)⟩⟩
  · rw [e, upd_other (by omega), upd_other (by omega), upd_other (by omega), upd_other (by omega), upd_other (by omega), upd_other (by omega)]
  · refine ⟨?_, ?_, ?_, ?_, by omega, by omega, by omega, by omega, fun z => absurd z (by decide), fun z => absurd z (by decide), fun _ => rfl, fun z => absurd z (by decide)⟩
    · rw [e, upd_other (by omega), upd_other (by omega), upd_other (by omega), upd_other (by omega), upd_other (by omega), upd_same]; rfl
    · rw [e, upd_other (by omega), upd_other (by omega), upd_other (by omega), upd_other (by omega), upd_same]
    · rw [e, upd_same]; rfl
    · rw [e, upd_other (by omega), upd_other (by omega), upd_same]; rfl
theorem s_memberAt (hP : VP g l B h t σ) {v n i : Nat} (hv : g v) (hk : 4 ≤ kdN (σ.2.2 28) v) (hn : σ.2.2 28 (v + 1) = nI n) (hi : i < n) (hn2 : n ≤ 3996) {L : Nat → Int32} (h1 : L 1 = nI v) (h2 : L 2 = nI i) : Tm (fun k => x_memberAt k 0 L σ) (VO g B h t σ) := by
  have hS := hP.1
  have hb := HS_b hS
  have hB := hS.2.1
  obtain ⟨n', v1, v2, v3, v4, v5, v6, v7⟩ := ob_at hS hv
  have e : n' = n := (n_eq (by omega) (by omega)).mp (v1.symm.trans hn)
  subst e
  have b2 : ∀ (N : Nat → Int32) (r : Int32 × MS), N 100 = r.1 → VO g B h t σ r → Tm (fun k => x_memberAt k 2 N r.2) (VO g B h t σ) := fun N r hN hr => by
    refine Tm_suc (fun k => by rw [x_memberAt]) ?_
    rw [hN]; exact Tm_some hr
  refine Tm_suc (fun k => by rw [x_memberAt]) ?_
  rw [h1, h2, show nI v + 4 = nI (v + 4) from n_add (q := 4) (by omega), n_add (by omega)]
  refine Tm_chk (n_in (by omega) (by omega)) ?_
  rw [n_cl (p := v) (by omega), v5]
  refine Tm_ite (fun _ => ?_) (fun w => ?_)
  · refine Tm_chk (n_in (by omega) (by omega)) ?_
    exact Tm_ob (s_byteString hP _) (fun r hr => b2 _ r rfl hr)
  · have hk5 : 5 ≤ kdN (σ.2.2 28) v := by
      by_cases e : kdN (σ.2.2 28) v = 4
      · exact absurd (by rw [e]; rfl) w
      · omega
    obtain ⟨m, m1, m2⟩ := v7 hk5 i hi
    refine Tm_suc (fun k => by rw [x_memberAt]) ?_
    rw [h1, h2, show nI v + 4 = nI (v + 4) from n_add (q := 4) (by omega), n_add (by omega)]
    refine Tm_chk (n_in (by omega) (by omega)) ?_
    rw [n_cl (p := v + 4 + i) (by omega), m1]
    exact b2 _ (nI m, σ) rfl (VO_id hP ⟨m, rfl, m2⟩)
/-- a set of pairs -/
def MpO (g : Nat → Prop) (H : Nat → Int32) (v n : Nat) : Prop := ∀ i, i < n → ∃ p, H (v + 4 + i) = nI p ∧ g p ∧ kdN H p = 5 ∧ H (p + 1) = nI 2
def IMp (g : Nat → Prop) (v : Nat) (σ : MS) (r : Int32 × MS) : Prop := r.2 = σ ∧ (r.1 = 0 ∨ (r.1 = 1 ∧ g v ∧ kdN (σ.2.2 28) v = 6 ∧ ∃ n, n ≤ 3996 ∧ σ.2.2 28 (v + 1) = nI n ∧ MpO g (σ.2.2 28) v n))
theorem s_isMap (hS : HS g l B h σ) {v : Nat} (hv : v < 3 ∨ g v) {L : Nat → Int32} (h1 : L 1 = nI v) : Tm (fun k => x_isMap k 0 L σ) (IMp g v σ) := by
  have hb := HS_b hS
  have hB := hS.2.1
  have kv := kdN_6 hS hv
  refine Tm_suc (fun k => by rw [x_isMap]) ?_
  refine Tm_ob (s_kind hS hv (by exact h1)) (fun r hr => ?_)
  rw [hr]
  refine Tm_ite (fun w => ?_) (fun _ => ?_)
  · have w := (n_eq (q := 6) (by omega) (by decide)).mp w
    have gv := kdN_ge hS hv (by omega)
    obtain ⟨n, v1, v2, v3, v4, v5, v6, v7⟩ := ob_at hS gv
    have v7 := v7 (by omega)
    have b6 : ∀ (N : Nat → Int32), (N 2 = 0 ∨ (N 2 = 1 ∧ MpO g (σ.2.2 28) v n)) → Tm (fun k => x_isMap k 6 N σ) (IMp g v σ) := fun N hN => by
      refine Tm_suc (fun k => by rw [x_isMap]) ?_
      rcases hN with hN | ⟨hN, hM⟩
      · refine Tm_ite (fun _ => Tm_some ⟨rfl, Or.inl hN⟩) (fun w => absurd (Or.inl hN) w)
      · refine Tm_ite (fun _ => Tm_some ⟨rfl, Or.inr ⟨hN, gv, w, n, v2, v1, hM⟩⟩) (fun w => absurd (Or.inr hN) w)
    have b3 : ∀ (q i : Nat) (N : Nat → Int32), q + i = n → N 1 = nI v → (N 2 = 0 ∨ (N 2 = 1 ∧ MpO g (σ.2.2 28) v i)) → N 3 = nI i → Tm (fun k => x_isMap k 3 N σ) (IMp g v σ) := by
      intro q
      induction q with
      | zero =>
        intro i N hi n1 n2 n3
        have : i = n := by omega
        subst this
        refine Tm_suc (fun k => by rw [x_isMap]) ?_
        rw [n1, n3, show nI v + 1 = nI (v + 1) from n_add1 v]
        refine Tm_ite (fun z => b6 N (Or.inl z)) (fun _ => ?_)
        refine Tm_chk (n_in (by omega) (by omega)) ?_
        rw [n_cl (p := v + 1) (by omega), v1]
        exact Tm_ite (fun _ => b6 N n2) (fun w => absurd ((n_le (by omega) (by omega)).mpr (by omega)) w)
      | succ q ih =>
        intro i N hi n1 n2 n3
        obtain ⟨m, m1, m2⟩ := v7 i (by omega)
        refine Tm_suc (fun k => by rw [x_isMap]) ?_
        rw [n1, n3, show nI v + 1 = nI (v + 1) from n_add1 v, show nI v + 4 = nI (v + 4) from n_add (q := 4) (by omega), n_add (by omega)]
        refine Tm_ite (fun z => b6 N (Or.inl z)) (fun z => ?_)
        have hM : MpO g (σ.2.2 28) v i := by
          rcases n2 with n2 | n2
          · exact absurd n2 z
          · exact n2.2
        refine Tm_chk (n_in (by omega) (by omega)) ?_
        rw [n_cl (p := v + 1) (by omega), v1]
        refine Tm_ite (fun w => absurd ((n_le (by omega) (by omega)).mp w) (by omega)) (fun _ => ?_)
        refine Tm_chk (n_in (by omega) (by omega)) ?_
        rw [n_cl (p := v + 4 + i) (by omega), m1]
        have b4 : ∀ M : Nat → Int32, M 1 = nI v → M 3 = nI i → Tm (fun k => x_isMap k 4 M σ) (IMp g v σ) := fun M p1 p3 => by
          refine Tm_suc (fun k => by rw [x_isMap]) ?_
          refine Tm_suc (fun k => by rw [x_isMap]) ?_
          exact ih (i + 1) _ (by omega) p1 (Or.inl rfl) (by show M 3 + 1 = _; rw [p3, n_add1])
        refine Tm_ob (s_kind hS m2 rfl) (fun r hr => ?_)
        rw [hr]
        have km := kdN_6 hS m2
        refine Tm_ite (fun w5 => ?_) (fun _ => b4 _ n1 n3)
        have w5 := (n_eq (q := 5) (by omega) (by decide)).mp w5
        have gm := kdN_ge hS m2 (by omega)
        obtain ⟨p, p1, p2, p3, p4, -, -, -⟩ := ob_at hS gm
        rw [show nI m + 1 = nI (m + 1) from n_add1 m]
        refine Tm_chk (n_in (by omega) (by omega)) ?_
        rw [n_cl (p := m + 1) (by omega)]
        refine Tm_ite (fun w2 => ?_) (fun _ => b4 _ n1 n3)
        refine Tm_suc (fun k => by rw [x_isMap]) ?_
        refine ih (i + 1) _ (by omega) n1 (Or.inr ⟨rfl, fun j hj => ?_⟩) (by show N 3 + 1 = _; rw [n3, n_add1])
        by_cases e : j = i
        · rw [e]; exact ⟨m, m1, gm, w5, w2⟩
        · exact hM j (by omega)
    refine Tm_suc (fun k => by rw [x_isMap]) ?_
    exact b3 n 0 _ (by omega) h1 (Or.inr ⟨rfl, fun j hj => absurd hj (Nat.not_lt_zero j)⟩) rfl
  · refine Tm_suc (fun k => by rw [x_isMap]) ?_
    refine Tm_suc (fun k => by rw [x_isMap]) ?_
    refine Tm_suc (fun k => by rw [x_isMap]) ?_
    refine Tm_ite (fun _ => ?_) (fun w => absurd rfl w)
    refine Tm_suc (fun k => by rw [x_isMap]) ?_
    exact Tm_ite (fun _ => Tm_some ⟨rfl, Or.inl rfl⟩) (fun w => absurd (Or.inl rfl) w)
end MAP

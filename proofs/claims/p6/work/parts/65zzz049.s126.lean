/-! The functions of one value; a new atom (reference). -/
section FUN
variable {g : Nat → Prop} {l : List Nat} {B h t : Nat} {σ : MS}
theorem s_function (hP : VP g l B h t σ) (hT : TyT (σ.2.2 2)) {v : Nat} (hv : v < 3 ∨ g v) {L : Nat → Int32} (h2 : L 2 = nI v) : Tm (fun k => x_function k 0 L σ) (VQ g B h t 256 σ) := by
  have hS := hP.1
  have hb := HS_b hS
  have hB := hS.2.1
  have kv := kdN_6 hS hv
  refine Tm_suc (fun k => by rw [x_function]) ?_
  refine Tm_ob (s_kind hS hv (by exact h2)) (fun r hr => ?_)
  rw [hr]
  have m2 : upd L 3 (nI (kdN (σ.2.2 28) v)) 2 = nI v := h2
  have m3 : upd L 3 (nI (kdN (σ.2.2 28) v)) 3 = nI (kdN (σ.2.2 28) v) := rfl
  show Tm (fun k => if L 1 = 39 then x_function k 1 (upd L 3 (nI (kdN (σ.2.2 28) v))) σ else (if L 1 = 40 then x_function k 5 (upd L 3 (nI (kdN (σ.2.2 28) v))) σ else (if L 1 = 41 then x_function k 9 (upd L 3 (nI (kdN (σ.2.2 28) v))) σ else (if L 1 = 42 then x_function k 10 (upd L 3 (nI (kdN (σ.2.2 28) v))) σ else (if L 1 = 43 then x_function k 11 (upd L 3 (nI (kdN (σ.2.2 28) v))) σ else (if L 1 = 44 then x_function k 12 (upd L 3 (nI (kdN (σ.2.2 28) v))) σ else (if L 1 = 45 then x_function k 13 (upd L 3 (nI (kdN (σ.2.2 28) v))) σ else (if L 1 = 46 then x_function k 15 (upd L 3 (nI (kdN (σ.2.2 28) v))) σ else (if L 1 = 47 then x_function k 16 (upd L 3 (nI (kdN (σ.2.2 28) v))) σ else (if L 1 = 48 then x_function k 18 (upd L 3 (nI (kdN (σ.2.2 28) v))) σ else (if L 1 = 49 then x_function k 18 (upd L 3 (nI (kdN (σ.2.2 28) v))) σ else (if L 1 = 50 then x_function k 17 (upd L 3 (nI (kdN (σ.2.2 28) v))) σ else x_function k 18 (upd L 3 (nI (kdN (σ.2.2 28) v))) σ)))))))))))) _
  generalize upd L 3 (nI (kdN (σ.2.2 28) v)) = M at m2 m3
  have e4 : ∀ (M : Nat → Int32) (r : Int32 × MS), M 100 = r.1 → VO g B h t σ r → Tm (fun k => x_function k 4 M r.2) (VQ g B h t 256 σ) := fun M r hM hr => by
    refine Tm_suc (fun k => by rw [x_function]) ?_
    rw [hM]; exact Tm_some (VQ_of hr)
  have e8 : ∀ (M : Nat → Int32) (r : Int32 × MS), M 100 = r.1 → VO g B h t σ r → Tm (fun k => x_function k 8 M r.2) (VQ g B h t 256 σ) := fun M r hM hr => by
    refine Tm_suc (fun k => by rw [x_function]) ?_
    rw [hM]; exact Tm_some (VQ_of hr)
  have b18 : Tm (fun k => x_function k 18 M σ) (VQ g B h t 256 σ) := by
    refine Tm_suc (fun k => by rw [x_function]) ?_
    exact Tm_ob (s_drawn hP hv (by exact m2)) (fun r hr => Tm_some (VQ_of hr))
  refine Tm_ite (fun _ => ?_) (fun _ => ?_)
  · -- abs
    refine Tm_suc (fun k => by rw [x_function]) ?_
    rw [m3]
    refine Tm_ite (fun w => ?_) (fun _ => Tm_ob (s_wrongKind _) (fun r hr => e4 _ r rfl (VO_wk hP hr)))
    have w := (n_eq (q := 2) (by omega) (by decide)).mp w
    obtain ⟨n, hn⟩ := Wh_of hS hv w
    have hn1 := hn.2.1
    have hn2 := hn.2.2.2.1
    refine Tm_suc (fun k => by rw [x_function]) ?_
    refine Tm_ob (s_signOf hS (m := v) (by omega) (by exact m2)) (fun r hr => ?_)
    rw [hr]
    refine Tm_ite (fun _ => ?_) (fun _ => Tm_ob (s_other hP hn (by exact m2)) (fun r hr => e4 _ r rfl hr))
    refine Tm_suc (fun k => by rw [x_function]) ?_
    rw [m2]
    exact e4 _ (nI v, σ) rfl (VO_id hP ⟨v, rfl, hv⟩)
  refine Tm_ite (fun _ => ?_) (fun _ => ?_)
  · -- arb
    refine Tm_suc (fun k => by rw [x_function]) ?_
    rw [m3]
    refine Tm_ite (fun w => ?_) (fun _ => Tm_ob (s_wrongKind _) (fun r hr => e8 _ r rfl (VO_wk hP hr)))
    have w := (n_eq (q := 6) (by omega) (by decide)).mp w
    obtain ⟨n, v1, v2, v3, v4, v5, v6, v7⟩ := ob_at hS (kdN_ge hS hv (by omega))
    refine Tm_suc (fun k => by rw [x_function]) ?_
    rw [m2, show nI v + 1 = nI (v + 1) from n_add1 v]
    refine Tm_chk (n_in (by omega) (by omega)) ?_
    rw [n_cl (p := v + 1) (by omega), v1]
    refine Tm_ite (fun _ => e8 _ (0, σ) rfl (VO_id hP Vd_0)) (fun z => ?_)
    have hn0 : 0 < n := by
      by_cases e : n = 0
      · exact absurd (by rw [e]; rfl) z
      · omega
    obtain ⟨y, y1, y2⟩ := v7 (by omega) 0 hn0
    refine Tm_suc (fun k => by rw [x_function]) ?_
    rw [m2, show nI v + 4 = nI (v + 4) from n_add (q := 4) (by omega)]
    refine Tm_chk (n_in (by omega) (by omega)) ?_
    rw [n_cl (p := v + 4) (by omega), show σ.2.2 28 (v + 4) = nI y from y1]
    exact e8 _ (nI y, σ) rfl (VO_id hP ⟨y, rfl, y2⟩)
  refine Tm_ite (fun _ => ?_) (fun _ => ?_)
  · refine Tm_suc (fun k => by rw [x_function]) ?_
    exact Tm_ob (s_side hP hv (c := 0) (by decide) (by exact m2) rfl) (fun r hr => Tm_some (VQ_of hr))
  refine Tm_ite (fun _ => ?_) (fun _ => ?_)
  · refine Tm_suc (fun k => by rw [x_function]) ?_
    exact Tm_ob (s_side hP hv (c := 1) (by decide) (by exact m2) rfl) (fun r hr => Tm_some (VQ_of hr))
  refine Tm_ite (fun _ => ?_) (fun _ => ?_)
  · refine Tm_suc (fun k => by rw [x_function]) ?_
    exact Tm_ob (s_powerSet hP hv (by exact m2)) (fun r hr => Tm_some hr)
  refine Tm_ite (fun _ => ?_) (fun _ => ?_)
  · refine Tm_suc (fun k => by rw [x_function]) ?_
    exact Tm_ob (s_typeOf hP hT hv (by exact m2)) (fun r hr => Tm_some (VQ_of hr))
  refine Tm_ite (fun _ => ?_) (fun _ => ?_)
  · -- str
    refine Tm_suc (fun k => by rw [x_function]) ?_
    show Tm (fun k => x_function k 14 M (mSc σ 93 0)) _
    have hF : PrF σ (mSc σ 93 0) := PrF_sc (Or.inr rfl)
    have hP1 := PrF_VP hF hP
    have h93 : (mSc σ 93 0).1 93 = nI 0 := rfl
    refine Tm_mono (Q := VO g B h t (mSc σ 93 0)) ?_ (fun r hr => VQ_of (PrF_VO hF hP hr))
    generalize mSc σ 93 0 = ρ at hP1 h93
    have sz := szN_b hP1.1 hv
    refine Tm_suc (fun k => by rw [x_function]) ?_
    refine Tm_ob (s_printV hP1.1 hv h93 (by omega) (by exact m2)) (fun r hr => ?_)
    obtain ⟨hF2, p, p1, p2, p3⟩ := hr
    rw [p1]
    exact Tm_ob (s_stringOf48 (PrF_VP hF2 hP1) (f := 0) (n := p) (by omega) (fun _ => by omega) rfl rfl) (fun s hs => Tm_some (PrF_VO hF2 hP1 hs))
  refine Tm_ite (fun _ => ?_) (fun _ => ?_)
  · refine Tm_suc (fun k => by rw [x_function]) ?_
    exact Tm_ob (s_character hP hv (by exact m2)) (fun r hr => Tm_some (VQ_of hr))
  refine Tm_ite (fun _ => ?_) (fun _ => ?_)
  · refine Tm_suc (fun k => by rw [x_function]) ?_
    exact Tm_ob (s_codeOf hP hv (by exact m2)) (fun r hr => Tm_some (VQ_of hr))
  refine Tm_ite (fun _ => b18) (fun _ => ?_)
  refine Tm_ite (fun _ => b18) (fun _ => ?_)
  refine Tm_ite (fun _ => ?_) (fun _ => b18)
  refine Tm_suc (fun k => by rw [x_function]) ?_
  exact Tm_ob (s_reversed hP hv (by exact m2)) (fun r hr => Tm_some (VQ_of hr))
/-- a new atom: one more, or an error -/
def AtO (g : Nat → Prop) (B h t a : Nat) (σ : MS) (r : Int32 × MS) : Prop := (a = 1000000 ∧ r = (0, mEr σ (nI 6))) ∨ (a < 1000000 ∧ VO g B h t (mSc σ 95 (nI (a + 1))) r)
theorem s_newAtom (hP : VP g l B h t σ) {a : Nat} (ha : a ≤ 1000000) (h95 : σ.1 95 = nI a) (L : Nat → Int32) : Tm (fun k => x_newAtom k 0 L σ) (AtO g B h t a σ) := by
  refine Tm_suc (fun k => by rw [x_newAtom]) ?_
  rw [h95]
  refine Tm_ite (fun w => ?_) (fun w => ?_)
  · refine Tm_ob (s_fail _ σ) (fun r hr => ?_)
    rw [hr]
    exact Tm_some (Or.inl ⟨(n_eq (q := 1000000) (by omega) (by decide)).mp w, rfl⟩)
  have hlt : a < 1000000 := by
    by_cases e : a = 1000000
    · exact absurd (by rw [e]; rfl) w
    · omega
  refine Tm_suc (fun k => by rw [x_newAtom]) ?_
  rw [h95, n_add1]
  show Tm (fun k => x_newAtom k 2 L (mSc σ 95 (nI (a + 1)))) _
  refine Tm_mono (Q := VO g B h t (mSc σ 95 (nI (a + 1)))) ?_ (fun r hr => Or.inr ⟨hlt, hr⟩)
  have hP1 : VP g l B h t (mSc σ 95 (nI (a + 1))) := ⟨HS_c hP.1 rfl rfl rfl, hP.2.1, hP.2.2.1, ErB_c rfl hP.2.2.2⟩
  have q95 : (mSc σ 95 (nI (a + 1))).1 95 = nI (a + 1) := rfl
  generalize mSc σ 95 (nI (a + 1)) = ρ at hP1 q95
  have hS := hP1.1
  have hb := HS_b hS
  have hB := hS.2.1
  refine Tm_suc (fun k => by rw [x_newAtom]) ?_
  refine Tm_ob (s_make hS (n := 1) (by decide) rfl) (fun r hr => ?_)
  rcases hr with ⟨z, hr⟩ | ⟨z, hr⟩
  · rw [hr]
    refine Tm_ite (fun w => absurd (er_le0 (ErB_er (e := 5) hP1.2.2.2 (by decide)) w) (mEr_e (by decide))) (fun _ => ?_)
    exact Tm_some (VO_er hP1 (e := 5) (by decide))
  rw [hr]
  refine Tm_ite (fun w => ?_) (fun _ => Tm_some (VO_mk hS hP1.2.2.2 hP1.2.1 z))
  show Tm (fun k => x_newAtom k 3 (upd L 1 (nI h)) (mMk ρ h 3 1)) _
  refine Tm_suc (fun k => by rw [x_newAtom]) ?_
  show Tm (fun k => if ¬ (nI h + 4 < 0 ∨ 1740000 ≤ (nI h + 4).toNatClampNeg) then (x_newAtom k 4 (upd L 1 (nI h)) (mAr (mMk ρ h 3 1) 28 (nI h + 4).toNatClampNeg (ρ.1 95))) else none) _
  rw [show nI h + 4 = nI (h + 4) from n_add (q := 4) (by omega)]
  refine Tm_chk (n_in (by omega) (by omega)) ?_
  rw [n_cl (p := h + 4) (by omega), q95]
  refine Tm_suc (fun k => by rw [x_newAtom]) ?_
  have e : (mAr (mMk ρ h 3 1) 28 (h + 4) (nI (a + 1))).2.2 28 = upd (upd (upd (upd (upd (ρ.2.2 28) h 3) (h + 1) (nI 1)) (h + 2) 1) (h + 3) 0) (h + 4) (nI (a + 1)) := by rw [mAr_s, mMk_28]
  have f1 : FW t ρ (mAr (mMk ρ h 3 1) 28 (h + 4) (nI (a + 1))) := FW_tr FW_mk (FW_ar (Or.inl rfl))
  have s1 : ∀ j, j ≠ 55 → (mAr (mMk ρ h 3 1) 28 (h + 4) (nI (a + 1))).1 j = ρ.1 j := fun j hj => mMk_s (k := 3) hj
  have s55 : (mAr (mMk ρ h 3 1) 28 (h + 4) (nI (a + 1))).1 55 = nI (h + 4 + 1) := by
    show nI (h + (4 + 1)) = _
    rw [Nat.add_assoc]
  show Tm (fun k => some (nI h, mAr (mMk ρ h 3 1) 28 (h + 4) (nI (a + 1)))) _
  generalize mAr (mMk ρ h 3 1) 28 (h + 4) (nI (a + 1)) = υ at e f1 s1 s55
  refine Tm_some ⟨_, _, _, HS_good (n := 1) (k := 3) (s := 1) (u := 0) hS z (s1 54 (by decide)) s55 (fun i h1 h2 => ?_) ?_, f1, (s1 59 (by decide)).trans hP1.2.1, ErB_c (s1 56 (by decide)) hP1.2.2.2, fun z => by rw [s1 56 (by decide)]; exact z, ⟨h, rfl, Or.inr (Or.inr rfl)⟩⟩
  · rw [e, upd_other (by omega), upd_other (by omega), upd_other (by omega), upd_other (by omega), upd_other (by omega)]
  · refine ⟨?_, ?_, ?_, ?_, by omega, by omega, by omega, by omega, fun z => absurd z (by decide), fun _ => ⟨rfl, rfl, a + 1, by omega, ?_⟩, fun z => absurd z (by decide), fun z => absurd z (by decide)⟩
    · rw [e, upd_other (by omega), upd_other (by omega), upd_other (by omega), upd_other (by omega), upd_same]; rfl
    · rw [e, upd_other (by omega), upd_other (by omega), upd_other (by omega), upd_same]
    · rw [e, upd_other (by omega), upd_other (by omega), upd_same]; rfl
    · rw [e, upd_other (by omega), upd_same]; rfl
    · rw [e, upd_same]
end FUN

/-! Two runs side by side (reference): the functions of one value. -/
section KFU
variable {g1 g2 : Nat → Prop} {l1 l2 : List Nat} {B1 h1 B2 h2 n : Nat} {σ1 σ2 : MS}
theorem KW_wl {K K' : Nat} {x1 x2 : Nat → Option (Int32 × MS)} (hKK : K ≤ K') (hw : σ1.2.1 96 = σ2.2.1 96) (t1 : ∀ k, Wk (x1 k) σ1.2.1) (t2 : ∀ k, Wk (x2 k) σ2.2.1) (t : Pm n x1 x2 (KQ h1 h2 K)) : Pm n x1 x2 (KW h1 h2 K') := Pm_mono (Pm_wl t1 t2 t) (fun r1 r2 hr => ⟨KQ_mo hr.1 hKK, by rw [hr.2.1, hr.2.2]; exact hw⟩)
theorem KW_mo {K K' : Nat} {r1 r2 : Int32 × MS} (h : KW h1 h2 K r1 r2) (hK : K ≤ K') : KW h1 h2 K' r1 r2 := ⟨KQ_mo h.1 hK, h.2⟩
theorem k_function {f v1 v2 : Nat} (hS1 : HS g1 l1 B1 h1 σ1) (hS2 : HS g2 l2 B2 h2 σ2) (e1 : σ1.1 56 = 0) (e2 : σ2.1 56 = 0) (t1 : σ1.1 59 = nI f) (t2 : σ2.1 59 = nI f) (hf : f ≤ 177000) (hr1 : h1 + 4004 ≤ B1 + 870000) (hr2 : h2 + 4004 ≤ B2 + 870000) (hv1 : v1 < 3 ∨ g1 v1) (hv2 : v2 < 3 ∨ g2 v2) (hv : EVb (σ1.2.2 28) (σ2.2.2 28) v1 v2) (hT : σ1.2.2 2 = σ2.2.2 2) (hw : σ1.2.1 96 = σ2.2.1 96) {L1 L2 : Nat → Int32} (d0 : L1 1 = L2 1) (d1 : L1 2 = nI v1) (f1 : L2 2 = nI v2) (hL : LEn 3 L1 L2) : Pm n (fun k => x_function k 0 L1 σ1) (fun k => x_function k 0 L2 σ2) (KW h1 h2 4004) := by
  have kv := kdN_6 hS1 hv1
  refine Pm_suc rfl (fun k => by rw [x_function]) (fun k => by rw [x_function]) (fun m1 _ => ?_)
  refine Pm_ob (Pm_t2 (s_kind hS1 hv1 (by exact d1)) (fun k => f_kind k _ _ _) (s_kind hS2 hv2 (by exact f1)) (fun k => f_kind k _ _ _)) (fun r1 r2 hr => ?_)
  rw [hr.1, hr.2, (EVb_sz hv).2.2, d0]
  have m2 : upd L1 3 (nI (kdN (σ1.2.2 28) v1)) 2 = nI v1 := d1
  have o2 : upd L2 3 (nI (kdN (σ1.2.2 28) v1)) 2 = nI v2 := f1
  have p3 : upd L1 3 (nI (kdN (σ1.2.2 28) v1)) 3 = nI (kdN (σ1.2.2 28) v1) := rfl
  have o3 : upd L2 3 (nI (kdN (σ1.2.2 28) v1)) 3 = nI (kdN (σ1.2.2 28) v1) := rfl
  have hM : LEn 3 (upd L1 3 (nI (kdN (σ1.2.2 28) v1))) (upd L2 3 (nI (kdN (σ1.2.2 28) v1))) := LEn_u hL rfl
  generalize upd L1 3 (nI (kdN (σ1.2.2 28) v1)) = M1 at m2 p3 hM
  generalize upd L2 3 (nI (kdN (σ1.2.2 28) v1)) = M2 at o2 o3 hM
  have e4 : ∀ (m : Nat) (N1 N2 : Nat → Int32) (r1 r2 : Int32 × MS), N1 100 = r1.1 → N2 100 = r2.1 → KW h1 h2 4004 r1 r2 → Pm m (fun k => x_function k 4 N1 r1.2) (fun k => x_function k 4 N2 r2.2) (KW h1 h2 4004) := fun m N1 N2 r1 r2 u1 u2 hr => by
    refine Pm_suc rfl (fun k => by rw [x_function]) (fun k => by rw [x_function]) (fun m3 _ => ?_)
    rw [u1, u2]; exact Pm_some hr
  have e8 : ∀ (m : Nat) (N1 N2 : Nat → Int32) (r1 r2 : Int32 × MS), N1 100 = r1.1 → N2 100 = r2.1 → KW h1 h2 4004 r1 r2 → Pm m (fun k => x_function k 8 N1 r1.2) (fun k => x_function k 8 N2 r2.2) (KW h1 h2 4004) := fun m N1 N2 r1 r2 u1 u2 hr => by
    refine Pm_suc rfl (fun k => by rw [x_function]) (fun k => by rw [x_function]) (fun m3 _ => ?_)
    rw [u1, u2]; exact Pm_some hr
  have wk : ∀ (m : Nat) (N1 N2 : Nat → Int32), Pm m (fun k => x_wrongKind k 0 N1 σ1) (fun k => x_wrongKind k 0 N2 σ2) (KW h1 h2 4004) := fun m N1 N2 => KW_wl (K := 4004) (Nat.le_refl _) hw (fun k => wl_wrongKind k _ _ _) (fun k => wl_wrongKind k _ _ _) (k_wrongKind hS1 hS2 _ _)
  have b18 : ∀ m, Pm m (fun k => x_function k 18 M1 σ1) (fun k => x_function k 18 M2 σ2) (KW h1 h2 4004) := fun m => by
    refine Pm_suc rfl (fun k => by rw [x_function]) (fun k => by rw [x_function]) (fun m3 _ => ?_)
    refine Pm_ob (k_drawn hS1 hS2 e1 e2 (by omega) (by omega) hv1 hv2 hv hw (by exact m2) (by exact o2) (fun i hi => ?_)) (fun r1 r2 hr => Pm_some (KW_mo hr (by omega)))
    rw [upd_other (by omega), upd_other (by omega)]
  refine Pm_ite Iff.rfl (fun _ _ => ?_) (fun _ _ => ?_)
  · -- abs
    refine Pm_suc rfl (fun k => by rw [x_function]) (fun k => by rw [x_function]) (fun m3 _ => ?_)
    rw [p3, o3]
    refine Pm_ite Iff.rfl (fun w _ => ?_) (fun _ _ => Pm_ob (wk _ _ _) (fun r1 r2 hr => e4 _ _ _ r1 r2 rfl rfl hr))
    have w := (n_eq (q := 2) (by omega) (by decide)).mp w
    obtain ⟨p, hW⟩ := WhE_of hS1 hS2 hv1 hv2 hv w
    refine Pm_suc rfl (fun k => by rw [x_function]) (fun k => by rw [x_function]) (fun m4 _ => ?_)
    refine Pm_ob (k_signOf hS1 hS2 hW (by exact m2) (by exact o2)) (fun r1 r2 hr => ?_)
    rw [hr.1, hr.2]
    refine Pm_ite Iff.rfl (fun _ _ => ?_) (fun _ _ => ?_)
    · refine Pm_suc rfl (fun k => by rw [x_function]) (fun k => by rw [x_function]) (fun m5 _ => ?_)
      rw [m2, o2]
      exact e4 _ _ _ (nI v1, σ1) (nI v2, σ2) rfl rfl ⟨KQ_same hS1 hS2 ⟨fun _ => e2, fun _ => e1⟩ (HS_vb hS1 hv1) (HS_vb hS2 hv2) hv, hw⟩
    · exact Pm_ob (KW_wl (K' := 4004) (by omega) hw (fun k => wl_other k _ _ _) (fun k => wl_other k _ _ _) (k_other hS1 hS2 e1 e2 (by omega) (by omega) hW (by exact m2) (by exact o2))) (fun r1 r2 hr => e4 _ _ _ r1 r2 rfl rfl hr)
  refine Pm_ite Iff.rfl (fun _ _ => ?_) (fun _ _ => ?_)
  · -- arb
    refine Pm_suc rfl (fun k => by rw [x_function]) (fun k => by rw [x_function]) (fun m3 _ => ?_)
    rw [p3, o3]
    refine Pm_ite Iff.rfl (fun w _ => ?_) (fun _ _ => Pm_ob (wk _ _ _) (fun r1 r2 hr => e8 _ _ _ r1 r2 rfl rfl hr))
    have w := (n_eq (q := 6) (by omega) (by decide)).mp w
    obtain ⟨k, p, hO⟩ := OE_of hS1 hS2 (kdN_ge hS1 hv1 (by omega)) hv2 hv
    obtain ⟨_, _, _, _, k6, o6, o7, _, o9, o10, o11, o12, o13, o14, _, o16, o17⟩ := hO
    refine Pm_suc rfl (fun k => by rw [x_function]) (fun k => by rw [x_function]) (fun m4 _ => ?_)
    rw [m2, o2, n_add1, n_add1, n_cl (p := v1 + 1) (by omega), n_cl (p := v2 + 1) (by omega), o11, o12]
    refine Pm_chk (fun _ _ => ?_)
    refine Pm_ite Iff.rfl (fun _ _ => ?_) (fun z _ => ?_)
    · exact e8 _ _ _ (0, σ1) (0, σ2) rfl rfl ⟨KQ_same (a := 0) (b := 0) hS1 hS2 ⟨fun _ => e2, fun _ => e1⟩ (by decide) (by decide) (EVb_0 (by decide)), hw⟩
    have hp0 : 0 < p := by
      by_cases e : p = 0
      · exact absurd (by rw [e]; rfl) z
      · omega
    refine Pm_suc rfl (fun k => by rw [x_function]) (fun k => by rw [x_function]) (fun m5 _ => ?_)
    rw [m2, o2, show nI v1 + 4 = nI (v1 + 4) from n_add (q := 4) (by omega), show nI v2 + 4 = nI (v2 + 4) from n_add (q := 4) (by omega), n_cl (p := v1 + 4) (by omega), n_cl (p := v2 + 4) (by omega)]
    refine Pm_chk (fun _ _ => ?_)
    exact e8 _ _ _ (σ1.2.2 28 (v1 + 4), σ1) (σ2.2.2 28 (v2 + 4), σ2) rfl rfl ⟨KQ_VC hS1 hS2 ⟨fun _ => e2, fun _ => e1⟩ (o16 (by omega) 0 hp0), hw⟩
  refine Pm_ite Iff.rfl (fun _ _ => ?_) (fun _ _ => ?_)
  · refine Pm_suc rfl (fun k => by rw [x_function]) (fun k => by rw [x_function]) (fun m3 _ => ?_)
    refine Pm_ob (KW_wl (K' := 4004) (Nat.le_refl _) hw (fun k => wl_side k _ _ _) (fun k => wl_side k _ _ _) (k_side hS1 hS2 e1 e2 t1 t2 hf hr1 hr2 hv1 hv2 hv (c := 0) (by decide) (by exact m2) (by exact o2) rfl rfl (fun i hi => ?_))) (fun r1 r2 hr => Pm_some hr)
    rw [upd_other (by omega), upd_other (by omega), upd_other (by omega), upd_other (by omega)]
  refine Pm_ite Iff.rfl (fun _ _ => ?_) (fun _ _ => ?_)
  · refine Pm_suc rfl (fun k => by rw [x_function]) (fun k => by rw [x_function]) (fun m3 _ => ?_)
    refine Pm_ob (KW_wl (K' := 4004) (Nat.le_refl _) hw (fun k => wl_side k _ _ _) (fun k => wl_side k _ _ _) (k_side hS1 hS2 e1 e2 t1 t2 hf hr1 hr2 hv1 hv2 hv (c := 1) (by decide) (by exact m2) (by exact o2) rfl rfl (fun i hi => ?_))) (fun r1 r2 hr => Pm_some hr)
    rw [upd_other (by omega), upd_other (by omega), upd_other (by omega), upd_other (by omega)]
  refine Pm_ite Iff.rfl (fun _ _ => ?_) (fun _ _ => ?_)
  · refine Pm_suc rfl (fun k => by rw [x_function]) (fun k => by rw [x_function]) (fun m3 _ => ?_)
    refine Pm_ob (KW_wl (K' := 4004) (Nat.le_refl _) hw (fun k => wl_powerSet k _ _ _) (fun k => wl_powerSet k _ _ _) (k_powerSet hS1 hS2 e1 e2 t1 t2 hf hr1 hr2 hv1 hv2 hv (by exact m2) (by exact o2) (fun i hi => ?_))) (fun r1 r2 hr => Pm_some hr)
    rw [upd_other (by omega), upd_other (by omega)]
  refine Pm_ite Iff.rfl (fun _ _ => ?_) (fun _ _ => ?_)
  · refine Pm_suc rfl (fun k => by rw [x_function]) (fun k => by rw [x_function]) (fun m3 _ => ?_)
    exact Pm_ob (KW_wl (K' := 4004) (Nat.le_refl _) hw (fun k => wl_typeOf k _ _ _) (fun k => wl_typeOf k _ _ _) (k_typeOf hS1 hS2 e1 e2 hr1 hr2 hv1 hv2 hv hT (by exact m2) (by exact o2))) (fun r1 r2 hr => Pm_some hr)
  refine Pm_ite Iff.rfl (fun _ _ => ?_) (fun _ _ => ?_)
  · -- str
    refine Pm_suc rfl (fun k => by rw [x_function]) (fun k => by rw [x_function]) (fun m3 _ => ?_)
    show Pm m3 (fun k => x_function k 14 M1 (mSc σ1 93 0)) (fun k => x_function k 14 M2 (mSc σ2 93 0)) _
    have hO : OtE (mSc σ1 93 0) (mSc σ2 93 0) := ⟨0, by omega, rfl, rfl, fun i hi => absurd hi (Nat.not_lt_zero i)⟩
    have hT1 : HS g1 l1 B1 h1 (mSc σ1 93 0) := HS_c hS1 rfl rfl rfl
    have hT2 : HS g2 l2 B2 h2 (mSc σ2 93 0) := HS_c hS2 rfl rfl rfl
    have e1' : (mSc σ1 93 0).1 56 = 0 := e1
    have e2' : (mSc σ2 93 0).1 56 = 0 := e2
    have hv' : EVb ((mSc σ1 93 0).2.2 28) ((mSc σ2 93 0).2.2 28) v1 v2 := hv
    have hw' : (mSc σ1 93 0).2.1 96 = (mSc σ2 93 0).2.1 96 := hw
    generalize mSc σ1 93 0 = ρ1 at hO hT1 e1' hv' hw'
    generalize mSc σ2 93 0 = ρ2 at hO hT2 e2' hv' hw'
    refine Pm_suc rfl (fun k => by rw [x_function]) (fun k => by rw [x_function]) (fun m4 _ => ?_)
    refine Pm_ob (Pm_wl (fun k => wl_print k _ _ _) (fun k => wl_print k _ _ _) (k_printV hT1 hT2 hv1 hv2 hv' hO ⟨fun i hi => ?_, by exact m2, by exact o2⟩)) (fun s1 s2 hs => ?_)
    · by_cases c : i = 2
      · rw [c]; rfl
      · rw [upd_other c, upd_other c, upd_other (by omega), upd_other (by omega)]
    obtain ⟨⟨⟨w, w1, w2, w3, w4⟩, p1, p2⟩, q1, q2⟩ := hs
    rw [w2, w3]
    exact Pm_ob (KW_wl (σ1 := s1.2) (σ2 := s2.2) (K' := 4004) (Nat.le_refl _) (by rw [q1, q2]; exact hw') (fun k => wl_stringOf__48 k _ _ _) (fun k => wl_stringOf__48 k _ _ _) (k_stringOf48 (f1 := 0) (f2 := 0) (w := w) (PrF_HS p1 hT1) (PrF_HS p2 hT2) ((p1.1 56 (by decide)).trans e1') ((p2.1 56 (by decide)).trans e2') hr1 hr2 (by omega) (fun _ => by omega) (fun _ => by omega) (fun i hi => by rw [Nat.zero_add]; exact w4 i hi) rfl rfl rfl rfl)) (fun r1 r2 hr => Pm_some hr)
  refine Pm_ite Iff.rfl (fun _ _ => ?_) (fun _ _ => ?_)
  · refine Pm_suc rfl (fun k => by rw [x_function]) (fun k => by rw [x_function]) (fun m3 _ => ?_)
    exact Pm_ob (KW_wl (K' := 4004) (by omega) hw (fun k => wl_character k _ _ _) (fun k => wl_character k _ _ _) (k_character hS1 hS2 e1 e2 (by omega) (by omega) hv1 hv2 hv (by exact m2) (by exact o2))) (fun r1 r2 hr => Pm_some hr)
  refine Pm_ite Iff.rfl (fun _ _ => ?_) (fun _ _ => ?_)
  · refine Pm_suc rfl (fun k => by rw [x_function]) (fun k => by rw [x_function]) (fun m3 _ => ?_)
    exact Pm_ob (KW_wl (K' := 4004) (by omega) hw (fun k => wl_codeOf k _ _ _) (fun k => wl_codeOf k _ _ _) (k_codeOf hS1 hS2 e1 e2 (by omega) (by omega) hv1 hv2 hv (by exact m2) (by exact o2))) (fun r1 r2 hr => Pm_some hr)
  refine Pm_ite Iff.rfl (fun _ _ => b18 m1) (fun _ _ => ?_)
  refine Pm_ite Iff.rfl (fun _ _ => b18 m1) (fun _ _ => ?_)
  refine Pm_ite Iff.rfl (fun _ _ => ?_) (fun _ _ => b18 m1)
  refine Pm_suc rfl (fun k => by rw [x_function]) (fun k => by rw [x_function]) (fun m3 _ => ?_)
  refine Pm_ob (KW_wl (K' := 4004) (Nat.le_refl _) hw (fun k => wl_reversed k _ _ _) (fun k => wl_reversed k _ _ _) (k_reversed hS1 hS2 e1 e2 t1 t2 hf hr1 hr2 hv1 hv2 hv (by exact m2) (by exact o2) (fun i hi => ?_))) (fun r1 r2 hr => Pm_some hr)
  rw [upd_other (by omega), upd_other (by omega)]
end KFU

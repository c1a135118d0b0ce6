/-! Two runs side by side (reference): reductions from their start; single operations. -/
section KSI
variable {g1 g2 : Nat → Prop} {l1 l2 : List Nat} {B1 h1 B2 h2 n t w X1 X2 XC : Nat} {σ1 σ2 : MS}
theorem RA_59 {x : Int32} (hR : RA t g1 g2 σ1 σ2) : RA t g1 g2 (mSc σ1 59 x) (mSc σ2 59 x) := by
  refine RA_c hR rfl rfl rfl rfl rfl rfl rfl rfl (fun j hj => ?_) hR.2.2.2
  show upd σ1.1 59 x j = upd σ2.1 59 x j
  by_cases e : j = 59
  · rw [e, upd_same, upd_same]
  · rw [upd_other e, upd_other e]; exact hR.2.2.1 j hj
theorem RA_pu {x y : Int32} (hQ : RtQ σ1) (hR : RA t g1 g2 σ1 σ2) (hv : VC g1 g2 (σ1.2.2 28) (σ2.2.2 28) x y) : RA (t + 1) g1 g2 (mPu σ1 t x) (mPu σ2 t y) := RA_59 (RA_set (w1 := 0) (w2 := 0) hQ hR hv)
theorem k_reduce {v1 v2 : Nat} (m1 : MI (t + 1) X1 g1 l1 B1 h1 σ1) (m2 : MI (t + 1) X2 g2 l2 B2 h2 σ2) (hR : RA (t + 1) g1 g2 σ1 σ2) (p1 : σ1.2.2 29 t = nI v1) (p2 : σ2.2.2 29 t = nI v2) (hv1 : v1 < 3 ∨ g1 v1) (hv2 : v2 < 3 ∨ g2 v2) (t1 : σ1.1 59 = nI t) (ht : t ≤ 176000) (hXC : XC ≤ 408500) (e1 : σ1.1 56 = 0) (e2 : σ2.1 56 = 0) (w1 : σ1.1 57 = nI w) (hw : w ≤ 60000) (x1 : X1 ≤ XC + 6 * w) (x2 : X2 ≤ XC + 6 * w) (hr1 : h1 + 79000 ≤ B1 + 870000) (hr2 : h2 + 79000 ≤ B2 + 870000) {L1 L2 : Nat → Int32} (d0 : L1 1 = L2 1) (d1 : L1 2 = nI v1) (d2 : L2 2 = nI v2) : Pm n (fun k => x_reduce k 0 L1 σ1) (fun k => x_reduce k 0 L2 σ2) (KR 8600) := by
  have hS1 := m1.1
  have hS2 := m2.1
  have t2 : σ2.1 59 = nI t := (hR.2.2.1 59 (by unfold AlS; omega)).symm.trans t1
  have w2 : σ2.1 57 = nI w := (hR.2.2.1 57 (by unfold AlS; omega)).symm.trans w1
  have hV : VC g1 g2 (σ1.2.2 28) (σ2.2.2 28) (nI v1) (nI v2) := by
    have := hR.1 29 t (Or.inl ⟨rfl, by omega⟩) (by unfold VwR; omega)
    rw [p1, p2] at this
    exact this
  have bv1 := HS_vb hS1 hv1
  have bv2 := HS_vb hS2 hv2
  have hv : EVb (σ1.2.2 28) (σ2.2.2 28) v1 v2 := by
    obtain ⟨c, d, c1, _, c3, _, c5, c6, c7⟩ := hV
    have a : v1 = c := (n_eq (by omega) (by omega)).mp c1
    have b : v2 = d := (n_eq (by omega) (by omega)).mp c3
    rw [a, b]; exact c5
  have kv := kdN_6 hS1 hv1
  have b1 : 5 ≤ kdN (σ1.2.2 28) v1 → ∀ (m : Nat) (N1 N2 : Nat → Int32), N1 1 = N2 1 → N1 2 = nI v1 → N2 2 = nI v2 → Pm m (fun k => x_reduce k 1 N1 σ1) (fun k => x_reduce k 1 N2 σ2) (KR 8600) := by
    intro k5 m N1 N2 n1 n2 o2
    obtain ⟨kk, p, hO⟩ := OE_of hS1 hS2 (kdN_ge hS1 hv1 (by omega)) hv2 hv
    have hO0 := hO
    obtain ⟨gv1, gv2, o3, o4, _, o6, o7, o8, o9, o10, o11, o12, o13, o14, o15, o16, o17⟩ := hO
    refine Pm_suc rfl (fun k => by rw [x_reduce]) (fun k => by rw [x_reduce]) (fun k1 _ => ?_)
    rw [n2, o2, n_add1, n_add1, n_cl (p := v1 + 1) (by omega), n_cl (p := v2 + 1) (by omega), o11, o12]
    refine Pm_chk (fun _ _ => ?_)
    refine Pm_ite Iff.rfl (fun _ _ => ?_) (fun z _ => ?_)
    · exact Pm_some ⟨⟨fun _ => e2, fun _ => e1⟩, fun _ => ⟨⟨Rm_HS hS1 (by omega), Rm_HS hS2 (by omega)⟩, w1.trans w2.symm, 0, 0, rfl, rfl, by decide, by decide, EVb_0 (by decide)⟩⟩
    have hp1 : 0 < p := by
      by_cases e : p = 0
      · exact absurd (by rw [e]; rfl) z
      · omega
    obtain ⟨q1, q2, qq1, qq2, qq3, qq4, qq5, qq6, qq7⟩ := o16 (by omega) 0 hp1
    have qq1 : σ1.2.2 28 (v1 + 4) = nI q1 := qq1
    have qq3 : σ2.2.2 28 (v2 + 4) = nI q2 := qq3
    refine Pm_suc rfl (fun k => by rw [x_reduce]) (fun k => by rw [x_reduce]) (fun k2 _ => ?_)
    refine Pm_ob (Pm_t2 (s_push t1 (by omega) _) (fun k => f_push k _ _ _) (s_push t2 (by omega) _) (fun k => f_push k _ _ _)) (fun r1 r2 hr => ?_)
    rw [hr.1, hr.2]
    show Pm k2 (fun k => if ¬ (N1 2 + 4 < 0 ∨ 1740000 ≤ (N1 2 + 4).toNatClampNeg) then ob (x_push k 0 (upd (fun _ => 0) 1 ((mPu σ1 t (N1 2)).2.2 28 (N1 2 + 4).toNatClampNeg)) (mPu σ1 t (N1 2))) (fun r3 => x_reduce k 3 (upd (upd (upd N1 4 (nI p)) 5 (σ1.1 59)) 6 1) r3.2) else none) (fun k => if ¬ (N2 2 + 4 < 0 ∨ 1740000 ≤ (N2 2 + 4).toNatClampNeg) then ob (x_push k 0 (upd (fun _ => 0) 1 ((mPu σ2 t (N2 2)).2.2 28 (N2 2 + 4).toNatClampNeg)) (mPu σ2 t (N2 2))) (fun r3 => x_reduce k 3 (upd (upd (upd N2 4 (nI p)) 5 (σ2.1 59)) 6 1) r3.2) else none) _
    rw [n2, o2, show nI v1 + 4 = nI (v1 + 4) from n_add (q := 4) (by omega), show nI v2 + 4 = nI (v2 + 4) from n_add (q := 4) (by omega), n_cl (p := v1 + 4) (by omega), n_cl (p := v2 + 4) (by omega), show (mPu σ1 t (nI v1)).2.2 28 (v1 + 4) = nI q1 from (congrFun (mPu_o (by decide)) _).trans qq1, show (mPu σ2 t (nI v2)).2.2 28 (v2 + 4) = nI q2 from (congrFun (mPu_o (by decide)) _).trans qq3, t1, t2]
    refine Pm_chk (fun _ _ => ?_)
    have s1 : (mPu σ1 t (nI v1)).2.2 = σ1.2.2 := mAr_same p1
    have s2 : (mPu σ2 t (nI v2)).2.2 = σ2.2.2 := mAr_same p2
    have hM1 : MI (t + 1) X1 g1 l1 B1 h1 (mPu σ1 t (nI v1)) := MI_c m1 rfl rfl rfl rfl s1
    have hM2 : MI (t + 1) X2 g2 l2 B2 h2 (mPu σ2 t (nI v2)) := MI_c m2 rfl rfl rfl rfl s2
    have hR1 : RA (t + 1) g1 g2 (mPu σ1 t (nI v1)) (mPu σ2 t (nI v2)) := RA_pu m1.2.1 (RA_mo (by omega) hR) hV
    refine Pm_ob (Pm_t2 (s_push (σ := mPu σ1 t (nI v1)) (t := t + 1) rfl (by omega) _) (fun k => f_push k _ _ _) (s_push (σ := mPu σ2 t (nI v2)) (t := t + 1) rfl (by omega) _) (fun k => f_push k _ _ _)) (fun r1 r2 hr => ?_)
    rw [hr.1, hr.2]
    show Pm k2 (fun k => x_reduce k 3 _ (mPu (mPu σ1 t (nI v1)) (t + 1) (nI q1))) (fun k => x_reduce k 3 _ (mPu (mPu σ2 t (nI v2)) (t + 1) (nI q2))) _
    have a28 : (mPu σ1 t (nI v1)).2.2 28 = σ1.2.2 28 := congrFun s1 28
    have b28 : (mPu σ2 t (nI v2)).2.2 28 = σ2.2.2 28 := congrFun s2 28
    have rs1 : RoS (t + 1) (mPu σ1 t (nI v1)) v1 := ⟨by omega, by omega, 29, t, Or.inl ⟨rfl, by omega⟩, by rw [s1]; exact p1⟩
    have rs2 : RoS (t + 1) (mPu σ2 t (nI v2)) v2 := ⟨by omega, by omega, 29, t, Or.inl ⟨rfl, by omega⟩, by rw [s2]; exact p2⟩
    have hM3 : MI (t + 2) X1 g1 l1 B1 h1 (mPu (mPu σ1 t (nI v1)) (t + 1) (nI q1)) := MI_pur hM1 (Rch_mem hM1.1 (Rch_b rs1) (by rw [a28]; exact k5) gv1 (by rw [a28]; exact o11) o6 (i := 0) hp1 (by rw [a28]; exact qq1) qq2)
    have hM4 : MI (t + 2) X2 g2 l2 B2 h2 (mPu (mPu σ2 t (nI v2)) (t + 1) (nI q2)) := MI_pur hM2 (Rch_mem hM2.1 (Rch_b rs2) (by rw [b28, o8]; omega) gv2 (by rw [b28]; exact o12) o6 (i := 0) hp1 (by rw [b28]; exact qq3) qq4)
    have hR2 : RA (t + 2) g1 g2 (mPu (mPu σ1 t (nI v1)) (t + 1) (nI q1)) (mPu (mPu σ2 t (nI v2)) (t + 1) (nI q2)) := RA_pu hM1.2.1 hR1 (by rw [a28, b28]; exact ⟨q1, q2, rfl, qq2, rfl, qq4, qq5, qq6, qq7⟩)
    have c28 : (mPu (mPu σ1 t (nI v1)) (t + 1) (nI q1)).2.2 28 = σ1.2.2 28 := (mPu_o (by decide)).trans a28
    have d28 : (mPu (mPu σ2 t (nI v2)) (t + 1) (nI q2)).2.2 28 = σ2.2.2 28 := (mPu_o (by decide)).trans b28
    refine k_red3 ht hXC k2 1 w _ _ _ _ g1 l1 B1 h1 X1 g2 l2 B2 h2 X2 hp1 n1 ⟨rfl, rfl, rfl⟩ ⟨rfl, rfl, rfl⟩ ⟨hM3, hM4, hR2, ⟨v1, v2, kk, ?_, ?_, by omega, ?_⟩, rfl, e1, e2, w1, ⟨hw, by omega, by omega⟩, x1, x2⟩
    · rw [mPu_29, upd_other (by omega), s1]; exact p1
    · rw [mPu_29, upd_other (by omega), s2]; exact p2
    · rw [c28, d28]; exact hO0
  refine Pm_suc rfl (fun k => by rw [x_reduce]) (fun k => by rw [x_reduce]) (fun k1 _ => ?_)
  refine Pm_ob (Pm_t2 (s_kind hS1 hv1 (by exact d1)) (fun k => f_kind k _ _ _) (s_kind hS2 hv2 (by exact d2)) (fun k => f_kind k _ _ _)) (fun r1 r2 hr => ?_)
  rw [hr.1, hr.2, (EVb_sz hv).2.2]
  refine Pm_ite Iff.rfl (fun z _ => b1 ?_ _ _ _ d0 d1 d2) (fun _ _ => ?_)
  · have := (n_eq (q := 6) (by omega) (by decide)).mp z
    omega
  refine Pm_ite Iff.rfl (fun z _ => b1 ?_ _ _ _ d0 d1 d2) (fun _ _ => ?_)
  · have := (n_eq (q := 5) (by omega) (by decide)).mp z
    omega
  refine Pm_ob (Pm_t2 (s_wrongKind _) (fun k => f_wrongKind k _ _ _) (s_wrongKind _) (fun k => f_wrongKind k _ _ _)) (fun r1 r2 hr => ?_)
  rw [hr.1, hr.2]
  exact Pm_some (KR_er (mEr_e (by decide)) (mEr_e (by decide)))
/-- alike, the seeds too -/
def KS (c : Nat) (r1 r2 : Int32 × MS) : Prop := KR c r1 r2 ∧ r1.2.2.1 96 = r2.2.2.1 96
theorem k_single {v1 v2 c : Nat} (hnt : 1 ≤ c ∧ c < (σ1.1 22).toNatClampNeg) (m1 : MI (t + 1) X1 g1 l1 B1 h1 σ1) (m2 : MI (t + 1) X2 g2 l2 B2 h2 σ2) (hR : RA (t + 1) g1 g2 σ1 σ2) (hT : TyT (σ1.2.2 2)) (hT2 : σ1.2.2 2 = σ2.2.2 2) (p1 : σ1.2.2 29 t = nI v1) (p2 : σ2.2.2 29 t = nI v2) (hv1 : v1 < 3 ∨ g1 v1) (hv2 : v2 < 3 ∨ g2 v2) (hv : EVb (σ1.2.2 28) (σ2.2.2 28) v1 v2) (t1 : σ1.1 59 = nI t) (ht : t ≤ 176000) (hXC : XC ≤ 408500) (e1 : σ1.1 56 = 0) (e2 : σ2.1 56 = 0) (w1 : σ1.1 57 = nI w) (hw : w ≤ 60000) (x1 : X1 ≤ XC + 6 * w) (x2 : X2 ≤ XC + 6 * w) (hr1 : h1 + 79000 ≤ B1 + 870000) (hr2 : h2 + 79000 ≤ B2 + 870000) {L1 L2 : Nat → Int32} (hc : c < 70000) (d1 : L1 1 = nI c) (f1 : L2 1 = nI c) (d2 : L1 2 = nI v1) (f2 : L2 2 = nI v2) : Pm n (fun k => x_single k 0 L1 σ1) (fun k => x_single k 0 L2 σ2) (KS 8600) := by
  have hS1 := m1.1
  have hS2 := m2.1
  have t2 : σ2.1 59 = nI t := (hR.2.2.1 59 (by unfold AlS; omega)).symm.trans t1
  have w2 : σ2.1 57 = nI w := (hR.2.2.1 57 (by unfold AlS; omega)).symm.trans w1
  have r4 : σ1.2.2 4 c = σ2.2.2 4 c := hR.2.1 4 c (by unfold AlR; omega) (by unfold Zn; omega) (InA_n (by omega) hnt)
  have r5 : σ1.2.2 5 c = σ2.2.2 5 c := hR.2.1 5 c (by unfold AlR; omega) (by unfold Zn; omega) (InA_n (by omega) hnt)
  have hP1 : VP g1 l1 B1 h1 t σ1 := ⟨hS1, t1, by omega, ⟨0, e1, by decide⟩⟩
  have hP2 : VP g2 l2 B2 h2 t σ2 := ⟨hS2, t2, by omega, ⟨0, e2, by decide⟩⟩
  have q57 : ∀ {W1 W2 : Nat} {r1 r2 : Int32 × MS}, VQ g1 B1 h1 t W1 σ1 r1 → VQ g2 B2 h2 t W2 σ2 r2 → r1.2.1 57 = r2.2.1 57 := by
    intro W1 W2 r1 r2 a b
    obtain ⟨_, _, _, _, a2, _⟩ := a
    obtain ⟨_, _, _, _, b2, _⟩ := b
    rw [a2.1 57 (by decide), b2.1 57 (by decide), w1, w2]
  refine Pm_suc rfl (fun k => by rw [x_single]) (fun k => by rw [x_single]) (fun k1 _ => ?_)
  rw [d1, f1, n_cl (p := c) (by omega), r4]
  refine Pm_chk (fun _ _ => ?_)
  refine Pm_ite Iff.rfl (fun _ _ => ?_) (fun _ _ => ?_)
  · refine Pm_suc rfl (fun k => by rw [x_single]) (fun k => by rw [x_single]) (fun k2 _ => ?_)
    rw [d1, f1, n_cl (p := c) (by omega), r5]
    refine Pm_chk (fun _ _ => ?_)
    refine Pm_ob (Pm_un (s_function hP1 hT hv1 (by exact d2)) (fun k => f_function k _ _ _) (s_function hP2 (by rw [← hT2]; exact hT) hv2 (by exact f2)) (fun k => f_function k _ _ _) (k_function hS1 hS2 e1 e2 t1 t2 (by omega) (by omega) (by omega) hv1 hv2 hv hT2 hR.2.2.2 rfl (by exact d2) (by exact f2) (fun i hi => ?_))) (fun r1 r2 hr => Pm_some ⟨KR_of (VQ_54 hr.2.1) (VQ_54 hr.2.2) (by omega) hr.1.1 (q57 hr.2.1 hr.2.2), hr.1.2⟩)
    rw [upd_other (by omega), upd_other (by omega), upd_other (by omega), upd_other (by omega)]
  refine Pm_ite Iff.rfl (fun _ _ => ?_) (fun _ _ => ?_)
  · refine Pm_suc rfl (fun k => by rw [x_single]) (fun k => by rw [x_single]) (fun k2 _ => ?_)
    exact Pm_ob (Pm_wl (fun k => wl_negative k _ _ _) (fun k => wl_negative k _ _ _) (Pm_un (s_negative hP1 hv1 (by exact d2)) (fun k => f_negative k _ _ _) (s_negative hP2 hv2 (by exact f2)) (fun k => f_negative k _ _ _) (k_negative hS1 hS2 e1 e2 (by omega) (by omega) hv1 hv2 hv (by exact d2) (by exact f2)))) (fun r1 r2 hr => Pm_some ⟨KR_of (VO_54 hr.1.2.1) (VO_54 hr.1.2.2) (by omega) hr.1.1 (q57 (VQ_of (w := 0) hr.1.2.1) (VQ_of (w := 0) hr.1.2.2)), by rw [hr.2.1, hr.2.2]; exact hR.2.2.2⟩)
  refine Pm_ite Iff.rfl (fun _ _ => ?_) (fun _ _ => ?_)
  · refine Pm_suc rfl (fun k => by rw [x_single]) (fun k => by rw [x_single]) (fun k2 _ => ?_)
    exact Pm_ob (Pm_wl (fun k => wl_many k _ _ _) (fun k => wl_many k _ _ _) (Pm_un (s_many hP1 hv1 (by exact d2)) (fun k => f_many k _ _ _) (s_many hP2 hv2 (by exact f2)) (fun k => f_many k _ _ _) (k_many hS1 hS2 e1 e2 (by omega) (by omega) hv1 hv2 hv (by exact d2) (by exact f2)))) (fun r1 r2 hr => Pm_some ⟨KR_of (VO_54 hr.1.2.1) (VO_54 hr.1.2.2) (by omega) hr.1.1 (q57 (VQ_of (w := 0) hr.1.2.1) (VQ_of (w := 0) hr.1.2.2)), by rw [hr.2.1, hr.2.2]; exact hR.2.2.2⟩)
  refine Pm_ite Iff.rfl (fun _ _ => ?_) (fun _ _ => ?_)
  · refine Pm_suc rfl (fun k => by rw [x_single]) (fun k => by rw [x_single]) (fun k2 _ => ?_)
    exact Pm_ob (Pm_wl (fun k => wl_turned k _ _ _) (fun k => wl_turned k _ _ _) (Pm_un (s_turned hP1 _) (fun k => f_turned k _ _ _) (s_turned hP2 _) (fun k => f_turned k _ _ _) (k_turned (K := 0) hS1 hS2 e1 e2 (HS_vb hS1 hv1) (HS_vb hS2 hv2) hv (by exact d2) (by exact f2)))) (fun r1 r2 hr => Pm_some ⟨KR_of (VO_54 hr.1.2.1) (VO_54 hr.1.2.2) (by omega) hr.1.1 (q57 (VQ_of (w := 0) hr.1.2.1) (VQ_of (w := 0) hr.1.2.2)), by rw [hr.2.1, hr.2.2]; exact hR.2.2.2⟩)
  · refine Pm_suc rfl (fun k => by rw [x_single]) (fun k => by rw [x_single]) (fun k2 _ => ?_)
    rw [d1, f1, n_cl (p := c) (by omega), r5]
    refine Pm_chk (fun _ _ => ?_)
    exact Pm_ob (Pm_wl (fun k => wl_reduce k _ _ _) (fun k => wl_reduce k _ _ _) (k_reduce m1 m2 hR p1 p2 hv1 hv2 t1 ht hXC e1 e2 w1 hw x1 x2 hr1 hr2 rfl (by exact d2) (by exact f2))) (fun r1 r2 hr => Pm_some ⟨hr.1, by rw [hr.2.1, hr.2.2]; exact hR.2.2.2⟩)
end KSI

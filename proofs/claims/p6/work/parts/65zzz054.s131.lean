/-! Ranges (reference). -/
section RNG
variable {g : Nat → Prop} {l : List Nat} {B h t : Nat} {σ : MS}
theorem s_pop {u : Nat} (h59 : σ.1 59 = nI (u + 1)) (hu : u < 185000) (L : Nat → Int32) : Tm (fun k => x_pop k 0 L σ) (fun r => r = (σ.2.2 29 u, mSc σ 59 (nI u))) := by
  refine Tm_suc (fun k => by rw [x_pop]) ?_
  rw [h59, show nI (u + 1) - 1 = nI u from n_sub (p := u + 1) (q := 1) (by omega) (by omega)]
  show Tm (fun k => x_pop k 1 L (mSc σ 59 (nI u))) _
  refine Tm_suc (fun k => by rw [x_pop]) ?_
  show Tm (fun k => if ¬ (nI u < 0 ∨ 185000 ≤ (nI u).toNatClampNeg) then some (σ.2.2 29 (nI u).toNatClampNeg, mSc σ 59 (nI u)) else none) _
  refine Tm_chk (n_in (by omega) (by omega)) ?_
  rw [n_cl (p := u) (by omega)]
  exact Tm_some rfl
def RgW (g : Nat → Prop) (τ : MS) (x : Int32) : Prop := ∃ v n, x = nI v ∧ g v ∧ Wh τ v n
theorem RgW_of (hS : HS g l B h σ) {v : Nat} (hv : v < 3 ∨ g v) (hk : kdN (σ.2.2 28) v = 2) : RgW g σ (nI v) := by
  obtain ⟨n, hn⟩ := Wh_of hS hv hk
  exact ⟨v, n, rfl, kdN_ge hS hv (by omega), hn⟩
theorem RgW_c {g2 : Nat → Prop} {τ : MS} {x : Int32} (hx : RgW g σ x) (hg : ∀ v, g v → g2 v) (h28 : τ.2.2 28 = σ.2.2 28) : RgW g2 τ x := by
  obtain ⟨v, n, e, gv, w⟩ := hx
  refine ⟨v, n, e, hg v gv, ?_⟩
  unfold Wh
  rw [h28]
  exact w
theorem RgW_HG {g2 : Nat → Prop} {l2 : List Nat} {h2 : Nat} {τ : MS} {x : Int32} (hS : HS g l B h σ) (a : HG g B h σ τ g2 l2 h2) (hx : RgW g σ x) : RgW g2 τ x := by
  obtain ⟨v, n, e, gv, w1, w2, w3, w4, w5⟩ := hx
  obtain ⟨m, v1, v2, v3, v4, -, -, -⟩ := ob_at hS gv
  have em : m = n := (n_eq (by omega) (by omega)).mp (v1.symm.trans w1)
  subst em
  refine ⟨v, m, e, a.2.1 v gv, ?_, w2, w3, w4, fun i hi => ?_, ?_⟩
  · rw [a.2.2.2 (v + 1) (by omega) (by omega)]; exact w1
  · rw [a.2.2.2 (v + 5 + i) (by omega) (by omega)]; exact w5.1 i hi
  · unfold SgOK; rw [a.2.2.2 (v + 4) (by omega) (by omega)]; exact w5.2
theorem RgW_cmp (hS : HS g l B h σ) {x y : Int32} (hx : RgW g σ x) (hy : RgW g σ y) {L : Nat → Int32} (h1 : L 1 = x) (h2 : L 2 = y) : Tm (fun k => x_compareWholes k 0 L σ) (fun r => r.2 = σ) := by
  obtain ⟨v, n, e, gv, w1, w2, w3, w4, w5⟩ := hx
  obtain ⟨u, m, f, gu, q1, q2, q3, q4, q5⟩ := hy
  exact s_compareWholes hS w1 q1 (by omega) (by omega) w4 q4 w2 q2 (h1.trans e) (h2.trans f)
theorem RgW_Vd {τ : MS} {x : Int32} (hx : RgW g τ x) : Vd g x := by
  obtain ⟨v, n, e, gv, _⟩ := hx
  exact ⟨v, e, Or.inr gv⟩
/-- a whole, or om (where there was no room for the step) -/
def RgZ (g : Nat → Prop) (τ : MS) (x : Int32) : Prop := RgW g τ x ∨ x = 0
theorem RgZ_Vd {τ : MS} {x : Int32} (hx : RgZ g τ x) : Vd g x := by
  rcases hx with hx | hx
  · exact RgW_Vd hx
  · rw [hx]; exact Vd_0
theorem sub0 {x y : Int32} (h : x - y = 0) : x = y := by
  have e : x - y + y = x := Int32.sub_add_cancel x y
  rw [h, Int32.zero_add] at e
  exact e.symm
/-- om is compared with a whole: it reads no wrong cell -/
theorem RgZ_cmp (hS : HS g l B h σ) {x y : Int32} (hx : RgZ g σ x) (hy : RgW g σ y) {L : Nat → Int32} (h1 : L 1 = x) (h2 : L 2 = y) : Tm (fun k => x_compareWholes k 0 L σ) (fun r => r.2 = σ) := by
  rcases hx with hx | hx
  · exact RgW_cmp hS hx hy h1 h2
  obtain ⟨u, m, f, gu, q1, q2, q3, q4, q5⟩ := hy
  have h1 : L 1 = nI 0 := h1.trans hx
  have h2 : L 2 = nI u := h2.trans f
  by_cases e : σ.2.2 28 1 = nI m
  · exact s_compareWholes (a := 0) hS e q1 (by omega) (by omega) (by omega) q4 q2 q2 h1 h2
  have b3 : ∀ N : Nat → Int32, N 1 = nI 0 → Tm (fun k => x_compareWholes k 3 N σ) (fun r => r.2 = σ) := by
    intro N n1
    refine Tm_suc (fun k => by rw [x_compareWholes]) ?_
    refine Tm_ob (s_signOf hS (m := 0) (by decide) (by exact n1)) (fun r hr => ?_)
    rw [hr]
    refine Tm_ite (fun _ => ?_) (fun _ => ?_)
    · refine Tm_suc (fun k => by rw [x_compareWholes]) ?_
      refine Tm_suc (fun k => by rw [x_compareWholes]) ?_
      exact Tm_some rfl
    · refine Tm_suc (fun k => by rw [x_compareWholes]) ?_
      exact Tm_some rfl
  refine Tm_suc (fun k => by rw [x_compareWholes]) ?_
  refine Tm_ob (s_signOf hS (m := 0) (by decide) (by exact h1)) (fun r hr => ?_)
  rw [hr]
  refine Tm_ob (s_signOf hS (m := u) (by omega) (by exact h2)) (fun r hr => ?_)
  rw [hr]
  refine Tm_ite (fun _ => ?_) (fun _ => ?_)
  · refine Tm_suc (fun k => by rw [x_compareWholes]) ?_
    rw [h1, h2, show nI 0 + 1 = nI 1 from rfl, n_add1]
    refine Tm_chk (n_in (by omega) (by omega)) ?_
    refine Tm_chk (n_in (by omega) (by omega)) ?_
    rw [n_cl (p := 1) (by omega), n_cl (p := u + 1) (by omega), q1]
    refine Tm_suc (fun k => by rw [x_compareWholes]) ?_
    refine Tm_ite (fun _ => b3 _ h1) (fun _ => ?_)
    refine Tm_ite (fun w => absurd (sub0 w) e) (fun _ => b3 _ h1)
  · refine Tm_ob (s_signOf hS (m := 0) (by decide) (by exact h1)) (fun r hr => ?_)
    rw [hr]
    refine Tm_ob (s_signOf hS (m := u) (by omega) (by exact h2)) (fun r hr => ?_)
    rw [hr]
    exact Tm_some rfl
/-- the state goes on while values lie upon the pile -/
theorem PuH_st {n : Nat} {τ υ : MS} {g1 g2 : Nat → Prop} {l1 l2 : List Nat} {h1 h2 : Nat} (hU : PuH g B h t n σ τ g1 l1 h1) (a : HG g1 B h1 τ υ g2 l2 h2) (hF : FW (t + n) τ υ) (h59 : υ.1 59 = nI (t + n)) (hE : ErB υ) (he : ¬ σ.1 56 = 0 → ¬ υ.1 56 = 0) : PuH g B h t n σ υ g2 l2 h2 := by
  obtain ⟨a1, a2, a3, a4, a5, a6⟩ := hU
  refine ⟨HG_tr a1 a, FW_tr a2 (FW_mo hF (by omega)), h59, fun i hi => ?_, hE, he⟩
  rw [hF.2.2 (t + i) (by omega)]
  obtain ⟨m, m1, m2⟩ := a4 i hi
  exact ⟨m, m1, m2.imp id (a.2.1 m)⟩
theorem s_rng15 (h56 : σ.1 56 = 0) (ht : t ≤ 175990) : ∀ (q p : Nat) (N : Nat → Int32) (τ : MS) (g1 : Nat → Prop) (l1 : List Nat) (h1 : Nat), 1001 ≤ q + p → p ≤ 1000 → PuH g B h t p σ τ g1 l1 h1 → RgW g1 τ (N 3) → N 9 = nI t → (¬ N 11 = 0 → RgZ g1 τ (N 10) ∧ (N 7 = 0 → RgW g1 τ (N 10))) → ((N 7 = 0 ∧ RgW g1 τ (N 6)) ∨ (¬ N 7 = 0 ∧ RgZ g1 τ (N 4))) → Tm (fun k => x_range k 15 N τ) (VQ g B h t 1001 σ) := by
  have b24 : ∀ (p : Nat) (N : Nat → Int32) (τ : MS) (g1 : Nat → Prop) (l1 : List Nat) (h1 : Nat), p ≤ 1001 → PuH g B h t p σ τ g1 l1 h1 → N 9 = nI t → Tm (fun k => x_range k 24 N τ) (VQ g B h t 1001 σ) := by
    intro p N τ g1 l1 h1 hp hU n9
    have b27 : ∀ (M : Nat → Int32) (r : Int32 × MS), M 100 = r.1 → VO g B h t σ r → Tm (fun k => x_range k 27 M r.2) (VQ g B h t 1001 σ) := fun M r hM hr => by
      refine Tm_suc (fun k => by rw [x_range]) ?_
      rw [hM]; exact Tm_some (VQ_of hr)
    refine Tm_suc (fun k => by rw [x_range]) ?_
    refine Tm_ite (fun _ => ?_) (fun w => Tm_some (PuH_er hU hp (fun e => w (by rw [e]; decide))))
    refine Tm_suc (fun k => by rw [x_range]) ?_
    refine Tm_ite (fun _ => ?_) (fun _ => ?_)
    · refine Tm_suc (fun k => by rw [x_range]) ?_
      obtain ⟨a1, a2, a3, a4, a5, a6⟩ := hU
      exact Tm_ob (s_tupleOf a1.1 a5 a3 (by omega) a4 (by exact n9)) (fun r hr => b27 _ r rfl (VO_tr a1 a2 a6 hr))
    · exact Tm_ob (PuH_set hU (by omega) (by omega) (by exact n9)) (fun r hr => b27 _ r rfl hr)
  intro q
  induction q with
  | zero => intro p N τ g1 l1 h1 hq hp; omega
  | succ q ih =>
    intro p N τ g1 l1 h1 hq hp hU r3 n9 r10 r67
    have b17 : RgZ g1 τ (N 10) ∧ (N 7 = 0 → RgW g1 τ (N 10)) → Tm (fun k => x_range k 17 N τ) (VQ g B h t 1001 σ) := by
      intro r10
      refine Tm_suc (fun k => by rw [x_range]) ?_
      refine Tm_ob (s_push hU.2.2.1 (by omega) _) (fun r hr => ?_)
      rw [hr]
      obtain ⟨g2, l2, h2, hW, hsub⟩ := PuH_VO (r := (N 10, τ)) hU ⟨g1, l1, h1, HG_rf hU.1.1, FW_rf, hU.2.2.1, hU.2.2.2.2.1, fun z => z, RgZ_Vd r10.1⟩
      show Tm (fun k => if nI (t + p + 1) - N 9 ≤ 1000 then x_range k 18 N (mPu τ (t + p) (N 10)) else ob (x_fail k 0 (upd (fun _ => 0) 1 5) (mPu τ (t + p) (N 10))) (fun r3 => x_range k 15 N r3.2)) _
      have hW : PuH g B h t (p + 1) σ (mPu τ (t + p) (N 10)) g2 l2 h2 := hW
      have tr : ∀ x, RgW g1 τ x → RgW g2 (mPu τ (t + p) (N 10)) x := fun x hx => RgW_c hx hsub (mPu_o (by decide))
      have s3 := tr _ r3
      have s10 := fun z => tr _ (r10.2 z)
      have s67 : (N 7 = 0 ∧ RgW g2 (mPu τ (t + p) (N 10)) (N 6)) ∨ (¬ N 7 = 0 ∧ RgZ g2 (mPu τ (t + p) (N 10)) (N 4)) := r67.imp (fun z => ⟨z.1, tr _ z.2⟩) (fun z => ⟨z.1, z.2.imp (tr _) id⟩)
      generalize mPu τ (t + p) (N 10) = υ at hW s3 s10 s67
      rw [n9, n_sub (by omega) (by omega), show t + p + 1 - t = p + 1 by omega]
      refine Tm_ite (fun w => ?_) (fun _ => ?_)
      case refine_2 =>
        refine Tm_ob (s_fail _ υ) (fun r hr => ?_)
        rw [hr]
        refine Tm_suc (fun k => by rw [x_range]) ?_
        refine Tm_ite (fun w => absurd w (mEr_e (by decide))) (fun _ => ?_)
        refine b24 (p + 1) N _ g2 l2 h2 (by omega) ?_ n9
        exact PuH_st hW ⟨HS_er hW.1.1 5, fun _ z => z, Nat.le_refl _, fun _ _ _ => rfl⟩ FW_er ((mEr_s (by decide)).trans hW.2.2.1) (ErB_er (e := 5) hW.2.2.2.2.1 (by decide)) (fun z => absurd h56 z)
      have hp1 := (n_le (q := 1000) (by omega) (by decide)).mp w
      refine Tm_suc (fun k => by rw [x_range]) ?_
      refine Tm_ite (fun z7 => ?_) (fun z7 => ?_)
      · -- one step on
        have s6 : RgW g2 υ (N 6) := by
          rcases s67 with z | z
          · exact z.2
          · exact absurd z7 z.1
        obtain ⟨va, na, ea, ga, wa⟩ := s10 z7
        obtain ⟨vb, nb, eb, gb, wb⟩ := s6
        have hPu : VP g2 l2 B h2 (t + (p + 1)) υ := ⟨hW.1.1, hW.2.2.1, by omega, hW.2.2.2.2.1⟩
        refine Tm_suc (fun k => by rw [x_range]) ?_
        refine Tm_ob (s_addW hPu wa wb (by exact ea) (by exact eb) (Or.inl rfl)) (fun s hs => ?_)
        obtain ⟨g3, l3, h3, c1, c2, c3, c4, c5, c6, c7, c8⟩ := hs
        have tr3 : ∀ x, RgW g2 υ x → RgW g3 s.2 x := fun x hx => RgW_HG hW.1.1 c1 hx
        have b23 : ∀ M : Nat → Int32, M 3 = N 3 → M 9 = nI t → M 10 = s.1 → M 6 = N 6 → M 7 = 0 → (¬ M 100 = 0 → s.2.1 56 = 0) → Tm (fun k => x_range k 23 M s.2) (VQ g B h t 1001 σ) := by
          intro M m3 m9 m10 m6 m7 m100
          refine Tm_suc (fun k => by rw [x_range]) ?_
          show Tm (fun k => x_range k 15 (upd M 11 (M 100)) (mSc s.2 56 0)) _
          have d28 : (mSc s.2 56 0).2.2 28 = s.2.2.2 28 := rfl
          refine ih (p + 1) _ _ g3 l3 h3 (by omega) hp1 ?_ ?_ m9 ?_ (Or.inl ⟨m7, ?_⟩)
          · refine PuH_st hW ⟨HS_c c1.1 rfl rfl rfl, c1.2.1, c1.2.2.1, c1.2.2.2⟩ (FW_tr c2 (FW_sc (Or.inr (Or.inl rfl)))) c3 ⟨0, rfl, by decide⟩ (fun z => absurd h56 z)
          · show RgW g3 (mSc s.2 56 0) (M 3)
            rw [m3]; exact RgW_c (tr3 _ s3) (fun _ z => z) d28
          · intro z
            have z : ¬ M 100 = 0 := z
            have y : RgW g3 (mSc s.2 56 0) (M 10) := by
              rw [m10]
              exact RgW_c (c7 (m100 z)) (fun _ z => z) d28
            exact ⟨Or.inl y, fun _ => y⟩
          · show RgW g3 (mSc s.2 56 0) (M 6)
            rw [m6]; exact RgW_c (tr3 _ ⟨vb, nb, eb, gb, wb⟩) (fun _ z => z) d28
        refine Tm_ite (fun w0 => b23 _ rfl n9 rfl rfl z7 (fun _ => w0)) (fun _ => ?_)
        refine Tm_suc (fun k => by rw [x_range]) ?_
        exact b23 _ rfl n9 rfl rfl z7 (fun z => absurd rfl z)
      · have s4 : RgZ g2 υ (N 4) := by
          rcases s67 with z | z
          · exact absurd z.1 z7
          · exact z.2
        have b20 : ∀ M : Nat → Int32, M 3 = N 3 → M 9 = nI t → M 4 = N 4 → M 7 = N 7 → Tm (fun k => x_range k 20 M υ) (VQ g B h t 1001 σ) := by
          intro M m3 m9 m4 m7
          refine Tm_suc (fun k => by rw [x_range]) ?_
          refine ih (p + 1) _ _ g2 l2 h2 (by omega) hp1 hW ?_ m9 (fun _ => ?_) (Or.inr ⟨?_, ?_⟩)
          · show RgW g2 υ (M 3)
            rw [m3]; exact s3
          · refine ⟨?_, fun z => absurd (m7.symm.trans z) z7⟩
            show RgZ g2 υ (M 4)
            rw [m4]; exact s4
          · show ¬ M 7 = 0
            rw [m7]; exact z7
          · show RgZ g2 υ (M 4)
            rw [m4]; exact s4
        refine Tm_ite (fun _ => ?_) (fun _ => b20 _ rfl n9 rfl rfl)
        refine Tm_suc (fun k => by rw [x_range]) ?_
        exact b20 _ rfl n9 rfl rfl
    have e24 := b24 p N τ g1 l1 h1 (by omega) hU n9
    refine Tm_suc (fun k => by rw [x_range]) ?_
    refine Tm_ite (fun _ => ?_) (fun _ => e24)
    refine Tm_ite (fun _ => e24) (fun z11 => ?_)
    have s10 := r10 z11
    refine Tm_ite (fun _ => ?_) (fun _ => ?_)
    · refine Tm_suc (fun k => by rw [x_range]) ?_
      refine Tm_ob (RgZ_cmp hU.1.1 s10.1 r3 rfl rfl) (fun r hr => ?_)
      rw [hr]
      exact Tm_ite (fun _ => e24) (fun _ => b17 s10)
    · refine Tm_ob (RgZ_cmp hU.1.1 s10.1 r3 rfl rfl) (fun r hr => ?_)
      rw [hr]
      exact Tm_ite (fun _ => e24) (fun _ => b17 s10)
end RNG

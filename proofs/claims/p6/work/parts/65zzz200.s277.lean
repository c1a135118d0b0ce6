/-! A run goes on (reference): step. -/
section STP
variable {T : Nat → Nat → Int32} {FN : Nat → Nat → Prop} {S : Nat → Nat → Nat → Nat → Prop} {σ σ1 σ2 : MS} {C K : Nat → Int32} {e0 z0 x66 x68 x : Int32} {sd : Int64} {m : Nat}
theorem IV0_2 (h : IV0 T FN S σ1 σ2) : IV0 T FN S (mSc σ1 2 x) σ2 := by
  obtain ⟨⟨g1, l1, B1, h1, X1, g2, l2, B2, h2, X2, m1, m2, hR⟩, q1, q2, q3, U1, U2, b1, b2, p, o⟩ := h
  refine ⟨⟨g1, l1, B1, h1, X1, g2, l2, B2, h2, X2, MI_c m1 rfl rfl rfl rfl rfl, m2, RA_c hR rfl rfl rfl rfl rfl rfl rfl rfl (fun j hj => ?_) hR.2.2.2⟩, q1, q2, q3, UT_c U1 rfl rfl rfl rfl, U2, b1, b2, p, o⟩
  rw [← hR.2.2.1 j hj]
  by_cases e1 : j = 103
  · rw [e1]; rfl
  by_cases e2 : j = 104
  · rw [e2]; rfl
  by_cases c : j = 57 ∨ j = 59 ∨ j = 72 ∨ j = 56 ∨ j = 67 ∨ j = 97 ∨ j = 69
  · rw [zB_0 c, zB_0 c]
  · rw [zB_s (by omega), zB_s (by omega)]
    exact upd_other (by unfold AlS at hj; omega)
theorem IVs_2 (h : IVs T FN S σ1 σ2) : IVs T FN S (mSc σ1 2 x) σ2 := ⟨IV0_2 h.1, h.2⟩
theorem IVd_2 (h : IVd σ1) : IVd (mSc σ1 2 x) := ⟨UT_c h.1 rfl rfl rfl rfl, h.2.1, h.2.2⟩
theorem RIc_2 (h : RIc T FN C K e0 z0 x66 x68 sd σ) : RIc T FN C K e0 z0 x66 x68 sd (mSc σ 2 x) := by
  obtain ⟨⟨g, l, B, h', X, m1⟩, q⟩ := h
  exact ⟨⟨g, l, B, h', X, MI_c m1 rfl rfl rfl rfl rfl⟩, q⟩
/-- where a run stands, with all that was before -/
def PSt (T : Nat → Nat → Int32) (FN : Nat → Nat → Prop) (S : Nat → Nat → Nat → Nat → Prop) (C K : Nat → Int32) (e0 z0 x66 x68 : Int32) (sd : Int64) (m : Nat) (σ : MS) : Prop := RIc T FN C K e0 z0 x66 x68 sd σ ∧ Cur T FN S (RIc T FN C K e0 z0 x66 x68 sd) m σ ∧ (∀ j, j ≤ m → Pmb T FN S (RIc T FN C K e0 z0 x66 x68 sd) j) ∧ (e0 = -1 → m = 0)
theorem PSt_2 (h : PSt T FN S C K e0 z0 x66 x68 sd m σ) : PSt T FN S C K e0 z0 x66 x68 sd m (mSc σ 2 x) := by
  obtain ⟨a, b, c, d⟩ := h
  refine ⟨RIc_2 a, ⟨b.1, fun σ' hR' => ?_⟩, c, d⟩
  obtain ⟨r, N, y1, y2, y3⟩ := b.2 σ' hR'
  exact ⟨r, N, y1, y2, y3.imp IVs_2 IVd_2⟩
/-- a run of no statement has ended -/
theorem Cur0_102 {ns : Nat} (h21 : T 21 0 = nI ns) (hns : ns ≤ 60) (he : e0 = -1) (hR : RIc T FN C K e0 z0 x66 x68 sd σ) (h : Cur T FN S (RIc T FN C K e0 z0 x66 x68 sd) 0 σ) : σ.1 102 = 1 := by
  obtain ⟨r, N, a, b, c⟩ := h.2 σ hR
  rcases c with c | c
  · have p1 : σ.2.2 21 0 = nI ns := (hR.2.1.2.1 21 0 (by omega) (by omega) (by omega)).trans h21
    obtain ⟨s, M, y1, y2⟩ := E_rs1 p1 hns (L := fun _ => 0)
    have e : rsB 0 (N + M) σ = some (0, s.2) := by
      unfold rsB
      rw [show x_reset (N + M) 0 (fun _ => 0) σ = some s from y1 _ (by omega)]
      rfl
    rw [a (N + M) (by omega)] at e
    have e : r = (0, s.2) := Option.some.inj e
    have z : r.2.1 102 = 1 := by
      rw [e]
      show s.2.1 102 = 1
      rw [y2.2.2.2.2.1, hR.2.2.2.2.2.1, if_pos he]
    exact (IVs_102 c).symm.trans z
  · exact c.2.1
/-- one statement more -/
theorem PSt_s {ns : Nat} (h21 : T 21 0 = nI ns) (hns : ns ≤ 60) (hW : SWf T FN S) (hK : SWk T FN S) (hKB : 9 + KBn T ≤ 17000) (hm : m < 2147483000) (h : PSt T FN S C K e0 z0 x66 x68 sd m σ) (h102 : σ.1 102 = 0) : Tm (fun k => x_begin k 0 (upd (fun _ => 0) 1 (σ.2.2 30 0)) σ) (fun s => PSt T FN S C K e0 z0 x66 x68 sd (m + 1) s.2) := by
  obtain ⟨a, b, c, d⟩ := h
  have he : ¬ e0 = -1 := fun z => by
    have m0 := d z
    subst m0
    have := Cur0_102 h21 hns z a b
    rw [h102] at this
    exact absurd this (by decide)
  obtain ⟨t1, t2⟩ := Cur_step hW hK hKB hm (c m (Nat.le_refl _)) b a (fun r r' q i c => RIc_bg hW hK hKB q he i c) h102
  obtain ⟨r, N, y1, y2, y3⟩ := b.2 σ a
  have iv : IV0 T FN S σ r.2 ∧ CTn T S σ := by
    rcases y3 with y | y
    · refine ⟨y.1, ?_⟩
      rcases y.2 with z | z
      · exact z
      · rw [h102] at z; exact absurd z (by decide)
    · have := y.2.1
      rw [h102] at this; exact absurd this (by decide)
  refine Tm_mono (Tm_and t1 (RIc_bg hW hK hKB a he iv.1 iv.2)) (fun s hs => ⟨hs.2, hs.1, fun j hj => ?_, fun z => absurd z he⟩)
  by_cases e : j = m + 1
  · rw [e]; exact t2
  · exact c j (by omega)
/-- step -/
theorem s_stepL {ns q : Nat} (h21 : T 21 0 = nI ns) (hns : ns ≤ 60) (hW : SWf T FN S) (hK : SWk T FN S) (hKB : 9 + KBn T ≤ 17000) (hq : q ≤ 20000) : ∀ (d i m : Nat) (σ : MS) (N : Nat → Int32), d + i = q → m + d < 2147483000 → N 1 = nI q → N 2 = nI i → PSt T FN S C K e0 z0 x66 x68 sd m σ → Tm (fun k => x_step k 6 N σ) (fun r => ∃ m', m ≤ m' ∧ m' ≤ m + d ∧ PSt T FN S C K e0 z0 x66 x68 sd m' r.2 ∧ r.1 = (if r.2.1 105 ≤ 0 then (if r.2.1 102 = 0 then 0 else 1) else 2)) := by
  have fin : ∀ (m : Nat) (σ : MS) (N : Nat → Int32), Tm (fun k => x_step k 7 N σ) (fun r => r.2 = σ ∧ r.1 = (if σ.1 105 ≤ 0 then (if σ.1 102 = 0 then 0 else 1) else 2)) := fun m σ N => by
    refine Tm_suc (fun k => by rw [x_step]) ?_
    refine Tm_ite (fun z => ?_) (fun z => ?_)
    · refine Tm_suc (fun k => by rw [x_step]) ?_
      refine Tm_ite (fun y => ?_) (fun y => ?_)
      · refine Tm_suc (fun k => by rw [x_step]) ?_
        refine Tm_suc (fun k => by rw [x_step]) ?_
        exact Tm_some ⟨rfl, by rw [if_pos z, if_pos y]; rfl⟩
      · refine Tm_suc (fun k => by rw [x_step]) ?_
        exact Tm_some ⟨rfl, by rw [if_pos z, if_neg y]; rfl⟩
    · refine Tm_suc (fun k => by rw [x_step]) ?_
      exact Tm_some ⟨rfl, by rw [if_neg z]; rfl⟩
  intro d
  induction d with
  | zero =>
    intro i m σ N hd hm n1 n2 h
    have e : i = q := by omega
    subst e
    refine Tm_suc (fun k => by rw [x_step]) ?_
    rw [n1, n2]
    refine Tm_ite (fun _ => ?_) (fun z => absurd (Int32.le_refl _) z)
    refine Tm_mono (fin m σ N) (fun r hr => ⟨m, Nat.le_refl _, by omega, ?_, ?_⟩)
    · rw [hr.1]; exact h
    · rw [hr.1]; exact hr.2
  | succ d ih =>
    intro i m σ N hd hm n1 n2 h
    refine Tm_suc (fun k => by rw [x_step]) ?_
    rw [n1, n2]
    refine Tm_ite (fun z => ?_) (fun _ => ?_)
    · have := (n_le (by omega) (by omega)).mp z
      omega
    refine Tm_ite (fun z => ?_) (fun z => ?_)
    · refine Tm_chk (by decide) ?_
      rw [show (0 : Int32).toNatClampNeg = 0 from by decide]
      refine Tm_ob (PSt_s h21 hns hW hK hKB (by omega) h z) (fun r hr => ?_)
      rw [n_add1]
      refine Tm_mono (ih (i + 1) (m + 1) r.2 _ (by omega) (by omega) n1 rfl hr) (fun s hs => ?_)
      obtain ⟨m', g1, g2, g3, g4⟩ := hs
      exact ⟨m', by omega, by omega, g3, g4⟩
    · refine Tm_mono (fin m σ N) (fun r hr => ⟨m, Nat.le_refl _, by omega, ?_, ?_⟩)
      · rw [hr.1]; exact h
      · rw [hr.1]; exact hr.2
theorem s_step {ns q : Nat} (h21 : T 21 0 = nI ns) (hns : ns ≤ 60) (hW : SWf T FN S) (hK : SWk T FN S) (hKB : 9 + KBn T ≤ 17000) (hq : q ≤ 20000) (hm : m + q < 2147483000) (h112 : ¬ σ.1 112 = 0) (h : PSt T FN S C K e0 z0 x66 x68 sd m σ) {L : Nat → Int32} (d1 : L 1 = nI q) : Tm (fun k => x_step k 0 L σ) (fun r => ∃ m', m ≤ m' ∧ m' ≤ m + q ∧ PSt T FN S C K e0 z0 x66 x68 sd m' r.2 ∧ r.1 = (if r.2.1 105 ≤ 0 then (if r.2.1 102 = 0 then 0 else 1) else 2)) := by
  refine Tm_suc (fun k => by rw [x_step]) ?_
  refine Tm_ite (fun z => absurd z h112) (fun _ => ?_)
  refine Tm_suc (fun k => by rw [x_step]) ?_
  rw [d1]
  refine Tm_ite (fun z => ?_) (fun _ => ?_)
  · have := (show nI q < nI 0 ↔ q < 0 from n_lt (by omega) (by omega)).mp z
    omega
  refine Tm_ite (fun _ => ?_) (fun z => absurd ((show nI q ≤ nI 20000 ↔ q ≤ 20000 from n_le (by omega) (by omega)).mpr hq) z)
  refine Tm_suc (fun k => by rw [x_step]) ?_
  refine Tm_suc (fun k => by rw [x_step]) ?_
  refine Tm_ob (s_good _ _) (fun r hr => ?_)
  rw [hr]
  refine Tm_ite (fun z => absurd (show (1 : Int32) = 0 from z) (by decide)) (fun _ => ?_)
  show Tm (fun k => x_step k 5 (upd L 100 0) (mSc σ 2 0)) _
  refine Tm_suc (fun k => by rw [x_step]) ?_
  exact s_stepL h21 hns hW hK hKB hq q 0 m (mSc σ 2 0) _ (by omega) (by omega) d1 rfl (PSt_2 h)
end STP

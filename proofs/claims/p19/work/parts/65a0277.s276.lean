section JnS276
/-! A statement leaves a state of the same program (reference). -/
section RIB
variable {T : Nat → Nat → Int32} {FN : Nat → Nat → Prop} {S : Nat → Nat → Nat → Nat → Prop} {σ σ' r r' : MS} {C K : Nat → Int32} {e0 z0 x66 x68 : Int32} {sd : Int64}
theorem RIc_k (h : RIc T FN C K e0 z0 x66 x68 sd σ) (he : ¬ e0 = -1) (hk : kq r = kq σ) (h68 : r.1 68 = σ.1 68) (hM : ∃ (g : Nat → Prop) (l : List Nat) (B h X : Nat), MI 0 X g l B h r) (hB : Bz T FN r) (hU : UT r) : RIc T FN C K e0 z0 x66 x68 sd r := by
  obtain ⟨_, _, _, q4, q5, q6, q7, q8, q9, q10⟩ := h
  have k1 : r.2.1 113 = σ.2.1 113 := congrArg (fun x : KT => x.1) hk
  have k2 : r.2.2 2 = σ.2.2 2 := congrArg (fun x : KT => x.2.1) hk
  have k3 : r.2.2 20 = σ.2.2 20 := congrArg (fun x : KT => x.2.2.1) hk
  have k4 : r.1 66 = σ.1 66 := congrArg (fun x : KT => x.2.2.2.2.2.2.1) hk
  have k5 : r.1 110 = σ.1 110 := congrArg (fun x : KT => x.2.2.2.2.2.2.2.1) hk
  obtain ⟨_, P, _, _, _, _, _, _, _, o3, _⟩ := hU
  exact ⟨hM, hB, o3, ⟨q4.1, k2.trans q4.2⟩, trivial, k5.trans q6, fun z => absurd z he, k4.trans q8, h68.trans q9, k1.trans q10⟩
theorem IVs_M (h : IVs T FN S r r') : (∃ (g : Nat → Prop) (l : List Nat) (B h X : Nat), MI 0 X g l B h r) ∧ Bz T FN r ∧ UT r := by
  obtain ⟨⟨g1, l1, B1, h1, X1, _, _, _, _, _, m1, _⟩, _, _, _, U1, _, b1, _⟩ := h.1
  exact ⟨⟨g1, l1, B1, h1, X1, m1⟩, b1, U1⟩
theorem IVz_M (h : IVz T FN r r') : (∃ (g : Nat → Prop) (l : List Nat) (B h X : Nat), MI 0 X g l B h r) ∧ Bz T FN r ∧ UT r := by
  obtain ⟨U1, _, B1, _, z1, _⟩ := h
  obtain ⟨g, l, B, h', t, m, _⟩ := z1
  exact ⟨⟨g, l, B, h', _, MI_mo m (Nat.zero_le _)⟩, ⟨B1.1, B1.2.1, B1.2.2.2.2.2.2⟩, U1⟩
/-- a statement more: a state of the same program -/
theorem RIc_bg (hW : SWf T FN S) (hK : SWk T FN S) (hKB : 9 + KBn T ≤ 17000) (h : RIc T FN C K e0 z0 x66 x68 sd σ) (he : ¬ e0 = -1) (hI : IV0 T FN S σ σ') (hC : CTn T S σ) : Tm (fun k => x_begin k 0 (upd (fun _ => 0) 1 (σ.2.2 30 0)) σ) (fun s => RIc T FN C K e0 z0 x66 x68 sd s.2) := by
  obtain ⟨s1, s2, N, b1, _, g1, g2⟩ := E_bgn (L1 := upd (fun _ => 0) 1 (σ.2.2 30 0)) (L2 := upd (fun _ => 0) 1 (σ'.2.2 30 0)) hW hK hKB hI hC rfl rfl
  refine ⟨s1, N, b1, ?_⟩
  have kk : kq s1.2 = kq σ := kq_begin N 0 _ σ s1 (b1 N (Nat.le_refl _))
  rcases g2 with g | g
  · obtain ⟨a, b, c⟩ := IVs_M g
    exact RIc_k h he kk g1.2.2.1 a b c
  · obtain ⟨a, b, c⟩ := IVz_M g
    exact RIc_k h he kk g1.2.2.1 a b c
end RIB
end JnS276
section JnS277
/-! A run goes on (reference): step. -/
section STP
variable {T : Nat → Nat → Int32} {FN : Nat → Nat → Prop} {S : Nat → Nat → Nat → Nat → Prop} {σ σ1 σ2 : MS} {C K : Nat → Int32} {e0 z0 x66 x68 x : Int32} {sd : Int64} {m : Nat}
theorem IV0_2 (h : IV0 T FN S σ1 σ2) : IV0 T FN S (mSc σ1 2 x) σ2 := by
  obtain ⟨⟨g1, l1, B1, h1, X1, g2, l2, B2, h2, X2, m1, m2, hR⟩, q1, q2, q3, U1, U2, b1, b2, p, o⟩ := h
  refine ⟨⟨g1, l1, B1, h1, X1, g2, l2, B2, h2, X2, MI_c m1 rfl rfl rfl rfl rfl, m2, RA_c hR rfl rfl rfl rfl rfl rfl rfl rfl (fun j hj => ?_) hR.2.2.2⟩, q1, q2, q3, UT_c U1 rfl rfl rfl rfl, U2, b1, b2, p, o⟩
  rw [← hR.2.2.1 j hj]
  by_cases e1 : j = 103
  · rw [e1]; rfl
  by_cases e2 : j = 104
  · rw [e2]; rfl
  by_cases c : j = 57 ∨ j = 59 ∨ j = 72 ∨ j = 56 ∨ j = 67 ∨ j = 97 ∨ j = 69
  · rw [zB_0 c, zB_0 c]
  · rw [zB_s (by omega), zB_s (by omega)]
    exact upd_other (by unfold AlS at hj; omega)
theorem IVs_2 (h : IVs T FN S σ1 σ2) : IVs T FN S (mSc σ1 2 x) σ2 := ⟨IV0_2 h.1, h.2⟩
theorem IVd_2 (h : IVd σ1) : IVd (mSc σ1 2 x) := ⟨UT_c h.1 rfl rfl rfl rfl, h.2.1, h.2.2⟩
theorem RIc_2 (h : RIc T FN C K e0 z0 x66 x68 sd σ) : RIc T FN C K e0 z0 x66 x68 sd (mSc σ 2 x) := by
  obtain ⟨⟨g, l, B, h', X, m1⟩, q⟩ := h
  exact ⟨⟨g, l, B, h', X, MI_c m1 rfl rfl rfl rfl rfl⟩, q⟩
/-- where a run stands, with all that was before -/
def PSt (T : Nat → Nat → Int32) (FN : Nat → Nat → Prop) (S : Nat → Nat → Nat → Nat → Prop) (C K : Nat → Int32) (e0 z0 x66 x68 : Int32) (sd : Int64) (m : Nat) (σ : MS) : Prop := RIc T FN C K e0 z0 x66 x68 sd σ ∧ Cur T FN S (RIc T FN C K e0 z0 x66 x68 sd) m σ ∧ (∀ j, j ≤ m → Pmb T FN S (RIc T FN C K e0 z0 x66 x68 sd) j) ∧ (e0 = -1 → m = 0)
theorem PSt_2 (h : PSt T FN S C K e0 z0 x66 x68 sd m σ) : PSt T FN S C K e0 z0 x66 x68 sd m (mSc σ 2 x) := by
  obtain ⟨a, b, c, d⟩ := h
  refine ⟨RIc_2 a, ⟨b.1, fun σ' hR' => ?_⟩, c, d⟩
  obtain ⟨r, N, y1, y2, y3⟩ := b.2 σ' hR'
  exact ⟨r, N, y1, y2, y3.imp IVs_2 IVd_2⟩
/-- a run of no statement has ended -/
theorem Cur0_102 {ns : Nat} (h21 : T 21 0 = nI ns) (hns : ns ≤ 60) (he : e0 = -1) (hR : RIc T FN C K e0 z0 x66 x68 sd σ) (h : Cur T FN S (RIc T FN C K e0 z0 x66 x68 sd) 0 σ) : σ.1 102 = 1 := by
  obtain ⟨r, N, a, b, c⟩ := h.2 σ hR
  rcases c with c | c
  · have p1 : σ.2.2 21 0 = nI ns := (hR.2.1.2.1 21 0 (by omega) (by omega) (by omega)).trans h21
    obtain ⟨s, M, y1, y2⟩ := E_rs1 p1 hns (L := fun _ => 0)
    have e : rsB 0 (N + M) σ = some (0, s.2) := by
      unfold rsB
      rw [show x_reset (N + M) 0 (fun _ => 0) σ = some s from y1 _ (by omega)]
      rfl
    rw [a (N + M) (by omega)] at e
    have e : r = (0, s.2) := Option.some.inj e
    have z : r.2.1 102 = 1 := by
      rw [e]
      show s.2.1 102 = 1
      rw [y2.2.2.2.2.1, hR.2.2.2.2.2.1, if_pos he]
    exact (IVs_102 c).symm.trans z
  · exact c.2.1
/-- one statement more -/
theorem PSt_s {ns : Nat} (h21 : T 21 0 = nI ns) (hns : ns ≤ 60) (hW : SWf T FN S) (hK : SWk T FN S) (hKB : 9 + KBn T ≤ 17000) (hm : m < 2147483000) (h : PSt T FN S C K e0 z0 x66 x68 sd m σ) (h102 : σ.1 102 = 0) : Tm (fun k => x_begin k 0 (upd (fun _ => 0) 1 (σ.2.2 30 0)) σ) (fun s => PSt T FN S C K e0 z0 x66 x68 sd (m + 1) s.2) := by
  obtain ⟨a, b, c, d⟩ := h
  have he : ¬ e0 = -1 := fun z => by
    have m0 := d z
    subst m0
    have := Cur0_102 h21 hns z a b
    rw [h102] at this
    exact absurd this (by decide)
  obtain ⟨t1, t2⟩ := Cur_step hW hK hKB hm (c m (Nat.le_refl _)) b a (fun r r' q i c => RIc_bg hW hK hKB q he i c) h102
  obtain ⟨r, N, y1, y2, y3⟩ := b.2 σ a
  have iv : IV0 T FN S σ r.2 ∧ CTn T S σ := by
    rcases y3 with y | y
    · refine ⟨y.1, ?_⟩
      rcases y.2 with z | z
      · exact z
      · rw [h102] at z; exact absurd z (by decide)
    · have := y.2.1
      rw [h102] at this; exact absurd this (by decide)
  refine Tm_mono (Tm_and t1 (RIc_bg hW hK hKB a he iv.1 iv.2)) (fun s hs => ⟨hs.2, hs.1, fun j hj => ?_, fun z => absurd z he⟩)
  by_cases e : j = m + 1
  · rw [e]; exact t2
  · exact c j (by omega)
/-- step -/
theorem s_stepL {ns q : Nat} (h21 : T 21 0 = nI ns) (hns : ns ≤ 60) (hW : SWf T FN S) (hK : SWk T FN S) (hKB : 9 + KBn T ≤ 17000) (hq : q ≤ 20000) : ∀ (d i m : Nat) (σ : MS) (N : Nat → Int32), d + i = q → m + d < 2147483000 → N 1 = nI q → N 2 = nI i → PSt T FN S C K e0 z0 x66 x68 sd m σ → Tm (fun k => x_step k 6 N σ) (fun r => ∃ m', m ≤ m' ∧ m' ≤ m + d ∧ PSt T FN S C K e0 z0 x66 x68 sd m' r.2 ∧ r.1 = (if r.2.1 105 ≤ 0 then (if r.2.1 102 = 0 then 0 else 1) else 2)) := by
  have fin : ∀ (m : Nat) (σ : MS) (N : Nat → Int32), Tm (fun k => x_step k 7 N σ) (fun r => r.2 = σ ∧ r.1 = (if σ.1 105 ≤ 0 then (if σ.1 102 = 0 then 0 else 1) else 2)) := fun m σ N => by
    refine Tm_suc (fun k => by rw [x_step]) ?_
    refine Tm_ite (fun z => ?_) (fun z => ?_)
    · refine Tm_suc (fun k => by rw [x_step]) ?_
      refine Tm_ite (fun y => ?_) (fun y => ?_)
      · refine Tm_suc (fun k => by rw [x_step]) ?_
        refine Tm_suc (fun k => by rw [x_step]) ?_
        exact Tm_some ⟨rfl, by rw [if_pos z, if_pos y]; rfl⟩
      · refine Tm_suc (fun k => by rw [x_step]) ?_
        exact Tm_some ⟨rfl, by rw [if_pos z, if_neg y]; rfl⟩
    · refine Tm_suc (fun k => by rw [x_step]) ?_
      exact Tm_some ⟨rfl, by rw [if_neg z]; rfl⟩
  intro d
  induction d with
  | zero =>
    intro i m σ N hd hm n1 n2 h
    have e : i = q := by omega
    subst e
    refine Tm_suc (fun k => by rw [x_step]) ?_
    rw [n1, n2]
    refine Tm_ite (fun _ => ?_) (fun z => absurd (Int32.le_refl _) z)
    refine Tm_mono (fin m σ N) (fun r hr => ⟨m, Nat.le_refl _, by omega, ?_, ?_⟩)
    · rw [hr.1]; exact h
    · rw [hr.1]; exact hr.2
  | succ d ih =>
    intro i m σ N hd hm n1 n2 h
    refine Tm_suc (fun k => by rw [x_step]) ?_
    rw [n1, n2]
    refine Tm_ite (fun z => ?_) (fun _ => ?_)
    · have := (n_le (by omega) (by omega)).mp z
      omega
    refine Tm_ite (fun z => ?_) (fun z => ?_)
    · refine Tm_chk (by decide) ?_
      rw [show (0 : Int32).toNatClampNeg = 0 from by decide]
      refine Tm_ob (PSt_s h21 hns hW hK hKB (by omega) h z) (fun r hr => ?_)
      rw [n_add1]
      refine Tm_mono (ih (i + 1) (m + 1) r.2 _ (by omega) (by omega) n1 rfl hr) (fun s hs => ?_)
      obtain ⟨m', g1, g2, g3, g4⟩ := hs
      exact ⟨m', by omega, by omega, g3, g4⟩
    · refine Tm_mono (fin m σ N) (fun r hr => ⟨m, Nat.le_refl _, by omega, ?_, ?_⟩)
      · rw [hr.1]; exact h
      · rw [hr.1]; exact hr.2
theorem s_step {ns q : Nat} (h21 : T 21 0 = nI ns) (hns : ns ≤ 60) (hW : SWf T FN S) (hK : SWk T FN S) (hKB : 9 + KBn T ≤ 17000) (hq : q ≤ 20000) (hm : m + q < 2147483000) (h112 : ¬ σ.1 112 = 0) (h : PSt T FN S C K e0 z0 x66 x68 sd m σ) {L : Nat → Int32} (d1 : L 1 = nI q) : Tm (fun k => x_step k 0 L σ) (fun r => ∃ m', m ≤ m' ∧ m' ≤ m + q ∧ PSt T FN S C K e0 z0 x66 x68 sd m' r.2 ∧ r.1 = (if r.2.1 105 ≤ 0 then (if r.2.1 102 = 0 then 0 else 1) else 2)) := by
  refine Tm_suc (fun k => by rw [x_step]) ?_
  refine Tm_ite (fun z => absurd z h112) (fun _ => ?_)
  refine Tm_suc (fun k => by rw [x_step]) ?_
  rw [d1]
  refine Tm_ite (fun z => ?_) (fun _ => ?_)
  · have := (show nI q < nI 0 ↔ q < 0 from n_lt (by omega) (by omega)).mp z
    omega
  refine Tm_ite (fun _ => ?_) (fun z => absurd ((show nI q ≤ nI 20000 ↔ q ≤ 20000 from n_le (by omega) (by omega)).mpr hq) z)
  refine Tm_suc (fun k => by rw [x_step]) ?_
  refine Tm_suc (fun k => by rw [x_step]) ?_
  refine Tm_ob (s_good _ _) (fun r hr => ?_)
  rw [hr]
  refine Tm_ite (fun z => absurd (show (1 : Int32) = 0 from z) (by decide)) (fun _ => ?_)
  show Tm (fun k => x_step k 5 (upd L 100 0) (mSc σ 2 0)) _
  refine Tm_suc (fun k => by rw [x_step]) ?_
  exact s_stepL h21 hns hW hK hKB hq q 0 m (mSc σ 2 0) _ (by omega) (by omega) d1 rfl (PSt_2 h)
end STP
end JnS277
section JnS278
/-! Back and step (reference): what they leave, also where they are refused. -/
section BKP
variable {T : Nat → Nat → Int32} {FN : Nat → Nat → Prop} {S : Nat → Nat → Nat → Nat → Prop} {σ : MS} {C K : Nat → Int32} {e0 z0 x66 x68 : Int32} {sd : Int64} {m q : Nat}
theorem s_backP {ns : Nat} (h21 : T 21 0 = nI ns) (hns : ns ≤ 60) (hm : m < 2147483000) (h112 : ¬ σ.1 112 = 0) (hq : q ≤ m) (h : PSt T FN S C K e0 z0 x66 x68 sd m σ) {L : Nat → Int32} (d1 : L 1 = nI q) : Tm (fun k => x_back k 0 L σ) (fun r => r.1 = nI (m - q) ∧ PSt T FN S C K e0 z0 x66 x68 sd (m - q) r.2) := by
  obtain ⟨a, b, c, d⟩ := h
  have p1 : (mSc σ 2 0).2.2 21 0 = nI ns := ((RIc_2 (x := 0) a).2.1.2.1 21 0 (by omega) (by omega) (by omega)).trans h21
  refine Tm_mono (s_back hm c (RIc_2 a) b.1 h112 hq (Tm_mono (E_rs1 p1 hns) (fun r hr => hr.2.1 103 (by omega))) d1) (fun r hr => ⟨hr.1, hr.2.2, hr.2.1, fun j hj => c j (by omega), fun z => ?_⟩)
  have := d z
  omega
/-- refused: no run, or a number out of bounds -/
theorem s_backN {L : Nat → Int32} (h : σ.1 112 = 0 ∨ L 1 < 0 ∨ ¬ L 1 ≤ σ.1 103) : Tm (fun k => x_back k 0 L σ) (fun r => r = (0, mSc σ 2 (if σ.1 112 = 0 then 1 else 2))) := by
  have fin : ∀ (N : Nat → Int32) (c : Int32), ¬ c = 0 → N 100 = c → Tm (fun k => x_back k 4 N σ) (fun r => r = (0, mSc σ 2 c)) := fun N c hc hn => by
    refine Tm_suc (fun k => by rw [x_back]) ?_
    refine Tm_ob (s_good _ _) (fun r hr => ?_)
    have e1 : (upd (fun _ => (0 : Int32)) 1 (N 100)) 1 = c := hn
    rw [e1, if_neg hc] at hr
    rw [hr]
    exact Tm_ite (fun _ => Tm_some rfl) (fun z => absurd rfl z)
  refine Tm_suc (fun k => by rw [x_back]) ?_
  refine Tm_ite (fun z => ?_) (fun z => ?_)
  · rw [if_pos z]; exact fin _ 1 (by decide) rfl
  rw [if_neg z]
  have two : ∀ N : Nat → Int32, Tm (fun k => x_back k 2 N σ) (fun r => r = (0, mSc σ 2 2)) := fun N => by
    refine Tm_suc (fun k => by rw [x_back]) ?_
    exact fin _ 2 (by decide) rfl
  refine Tm_suc (fun k => by rw [x_back]) ?_
  refine Tm_ite (fun _ => two _) (fun y => ?_)
  refine Tm_ite (fun w => ?_) (fun _ => two _)
  rcases h with h | h | h
  · exact absurd h z
  · exact absurd h y
  · exact absurd w h
theorem s_stepN {L : Nat → Int32} (h : σ.1 112 = 0 ∨ L 1 < 0 ∨ ¬ L 1 ≤ 20000) : Tm (fun k => x_step k 0 L σ) (fun r => r = (0, mSc σ 2 (if σ.1 112 = 0 then 1 else 2))) := by
  have fin : ∀ (N : Nat → Int32) (c : Int32), ¬ c = 0 → N 100 = c → Tm (fun k => x_step k 4 N σ) (fun r => r = (0, mSc σ 2 c)) := fun N c hc hn => by
    refine Tm_suc (fun k => by rw [x_step]) ?_
    refine Tm_ob (s_good _ _) (fun r hr => ?_)
    have e1 : (upd (fun _ => (0 : Int32)) 1 (N 100)) 1 = c := hn
    rw [e1, if_neg hc] at hr
    rw [hr]
    exact Tm_ite (fun _ => Tm_some rfl) (fun z => absurd rfl z)
  refine Tm_suc (fun k => by rw [x_step]) ?_
  refine Tm_ite (fun z => ?_) (fun z => ?_)
  · rw [if_pos z]; exact fin _ 1 (by decide) rfl
  rw [if_neg z]
  have two : ∀ N : Nat → Int32, Tm (fun k => x_step k 2 N σ) (fun r => r = (0, mSc σ 2 2)) := fun N => by
    refine Tm_suc (fun k => by rw [x_step]) ?_
    exact fin _ 2 (by decide) rfl
  refine Tm_suc (fun k => by rw [x_step]) ?_
  refine Tm_ite (fun _ => two _) (fun y => ?_)
  refine Tm_ite (fun w => ?_) (fun _ => two _)
  rcases h with h | h | h
  · exact absurd h z
  · exact absurd h y
  · exact absurd w h
end BKP
end JnS278
section JnS279
/-! A run is begun (reference): start. -/
section STA
variable {T : Nat → Nat → Int32} {FN : Nat → Nat → Prop} {S : Nat → Nat → Nat → Nat → Prop} {σ : MS} {C K : Nat → Int32} {e0 z0 x66 x68 : Int32} {sd s : Int64}
/-- the seed of the run -/
def mSd (σ : MS) (s : Int64) : MS := (σ.1, updW σ.2.1 113 s, σ.2.2)
theorem RIc_sd (h : RIc T FN C K e0 z0 x66 x68 sd σ) : RIc T FN C K e0 z0 x66 x68 s (mSc (mSd σ s) 112 1) := by
  obtain ⟨⟨g, l, B, h', X, m1⟩, q2, q3, q4, q5, q6, q7, q8, q9, q10⟩ := h
  refine ⟨⟨g, l, B, h', X, MI_c m1 rfl rfl rfl rfl rfl⟩, q2, q3, q4, q5, q6, q7, q8, q9, ?_⟩
  show updW σ.2.1 113 s 113 = s
  unfold updW; rw [if_pos rfl]
/-- start: at the first statement, or at the end -/
theorem s_start {ns : Nat} (h21 : T 21 0 = nI ns) (hns : ns ≤ 60) (hS : e0 = -1 ∨ ∃ v n, e0 = nI n ∧ S 0 0 v n) (h111 : ¬ σ.1 111 = 0) (h : RIc T FN C K e0 z0 x66 x68 sd σ) {L : Nat → Int32} {J : Nat → Int64} (hJ : J 1 = s) : Tm (fun k => x_start k 0 L J σ) (fun r => r.1 = 0 ∧ PSt T FN S C K e0 z0 x66 x68 s 0 r.2 ∧ r.2.1 112 = 1) := by
  have hR := RIc_sd (s := s) (RIc_2 (x := 0) h)
  have P0 : Pmb T FN S (RIc T FN C K e0 z0 x66 x68 s) 0 := Pmb_0 h21 hns hS
  have p1 : (mSc (mSd (mSc σ 2 0) s) 112 1).2.2 21 0 = nI ns := (hR.2.1.2.1 21 0 (by omega) (by omega) (by omega)).trans h21
  obtain ⟨y, N1, c1, c2, c3⟩ := Cur_of P0 hR
  obtain ⟨x, N0, b0, b1⟩ := E_rs1 p1 hns (L := fun _ => 0)
  have ey : y = (0, x.2) := by
    have e : rsB 0 (N1 + N0) (mSc (mSd (mSc σ 2 0) s) 112 1) = some (0, x.2) := by
      unfold rsB
      rw [show x_reset (N1 + N0) 0 (fun _ => 0) (mSc (mSd (mSc σ 2 0) s) 112 1) = some x from b0 _ (by omega)]
      rfl
    exact Option.some.inj ((c1 (N1 + N0) (by omega)).symm.trans e)
  rw [ey] at c2 c3
  refine Tm_suc (fun k => by rw [x_start]) ?_
  refine Tm_ite (fun z => absurd z h111) (fun _ => ?_)
  refine Tm_suc (fun k => by rw [x_start]) ?_
  refine Tm_ob (s_good _ _) (fun r hr => ?_)
  rw [hr]
  refine Tm_ite (fun z => absurd (show (1 : Int32) = 0 from z) (by decide)) (fun _ => ?_)
  show Tm (fun k => x_start k 3 (upd L 100 0) J (mSc σ 2 0)) _
  refine Tm_suc (fun k => by rw [x_start]) ?_
  rw [hJ]
  show Tm (fun k => x_start k 4 (upd L 100 0) J (mSd (mSc σ 2 0) s)) _
  refine Tm_suc (fun k => by rw [x_start]) ?_
  show Tm (fun k => x_start k 5 (upd L 100 0) J (mSc (mSd (mSc σ 2 0) s) 112 1)) _
  refine Tm_suc (fun k => by rw [x_start]) ?_
  refine Tm_ob (P := fun z => z = x) ⟨x, N0, b0, rfl⟩ (fun z hz => ?_)
  rw [hz]
  refine Tm_some ⟨rfl, ⟨c3, c2, fun j hj => ?_, fun _ => rfl⟩, ?_⟩
  · have e : j = 0 := by omega
    rw [e]; exact P0
  · show x.2.1 112 = 1
    rw [b1.2.2.2.2.2.1 112 (by omega)]; rfl
end STA
end JnS279
section JnS280
/-! Asked for numbers of a run, and for what it printed (reference): state, out, exactly. -/
section STO
variable {σ : MS} {L : Nat → Int32}
/-- how a run stands -/
def stE (σ : MS) : Int32 := if σ.1 105 ≤ 0 then (if σ.1 102 = 0 then 0 else 1) else 2
/-- a number of a run -/
def stN (σ : MS) (q : Int32) : Int32 := if q = 0 then σ.1 103 else if q = 1 then σ.1 106 else if q = 2 then σ.1 105 else if q = 3 then σ.1 104 else if q = 4 then σ.2.2 30 1 else if q = 5 then σ.1 63 else if q = 6 then σ.1 64 + σ.1 65 else if q = 7 then σ.1 95 else if q = 8 then stE σ else σ.1 108
/-- the code of state -/
def stC (σ : MS) (q : Int32) : Int32 := if q < 0 ∨ ¬ q ≤ 9 then 1 else if σ.1 112 = 0 then 2 else 0
theorem s_state : Tm (fun k => x_state k 0 L σ) (fun r => r = ((if stC σ (L 1) = 0 then stN σ (L 1) else 0), mSc σ 2 (stC σ (L 1)))) := by
  have fin : ∀ (N : Nat → Int32) (c : Int32), ¬ c = 0 → N 100 = c → Tm (fun k => x_state k 4 N σ) (fun r => r = (0, mSc σ 2 c)) := fun N c hc hn => by
    refine Tm_suc (fun k => by rw [x_state]) ?_
    refine Tm_ob (s_good _ _) (fun r hr => ?_)
    have e1 : (upd (fun _ => (0 : Int32)) 1 (N 100)) 1 = c := hn
    rw [e1, if_neg hc] at hr
    rw [hr]
    exact Tm_ite (fun _ => Tm_some rfl) (fun z => absurd rfl z)
  have one : ∀ N : Nat → Int32, Tm (fun k => x_state k 1 N σ) (fun r => r = (0, mSc σ 2 1)) := fun N => by
    refine Tm_suc (fun k => by rw [x_state]) ?_
    exact fin _ 1 (by decide) rfl
  refine Tm_suc (fun k => by rw [x_state]) ?_
  refine Tm_ite (fun z => ?_) (fun z => ?_)
  · have e : stC σ (L 1) = 1 := by unfold stC; rw [if_pos (Or.inl z)]
    rw [e, if_neg (by decide)]; exact one L
  refine Tm_ite (fun y => ?_) (fun y => ?_)
  case refine_2.refine_2 =>
    have e : stC σ (L 1) = 1 := by unfold stC; rw [if_pos (Or.inr y)]
    rw [e, if_neg (by decide)]; exact one L
  refine Tm_suc (fun k => by rw [x_state]) ?_
  have nb : ¬ (L 1 < 0 ∨ ¬ L 1 ≤ 9) := fun w => w.elim z (fun v => v y)
  refine Tm_ite (fun w => ?_) (fun w => ?_)
  · have e : stC σ (L 1) = 2 := by unfold stC; rw [if_neg nb, if_pos w]
    rw [e, if_neg (by decide)]; exact fin _ 2 (by decide) rfl
  have e : stC σ (L 1) = 0 := by unfold stC; rw [if_neg nb, if_neg w]
  rw [e, if_pos rfl]
  refine Tm_suc (fun k => by rw [x_state]) ?_
  refine Tm_suc (fun k => by rw [x_state]) ?_
  refine Tm_ob (s_good _ _) (fun r hr => ?_)
  rw [hr]
  refine Tm_ite (fun v => absurd (show (1 : Int32) = 0 from v) (by decide)) (fun _ => ?_)
  show Tm (fun k => x_state k 5 (upd L 100 0) (mSc σ 2 0)) _
  have l1 : (upd L 100 0) 1 = L 1 := rfl
  refine Tm_suc (fun k => by rw [x_state]) ?_
  rw [l1]
  unfold stN
  by_cases c0 : L 1 = 0
  · refine Tm_ite (fun _ => ?_) (fun v => absurd c0 v)
    refine Tm_suc (fun k => by rw [x_state]) ?_
    exact Tm_some (by rw [if_pos c0]; rfl)
  refine Tm_ite (fun v => absurd v c0) (fun _ => ?_)
  rw [if_neg c0]
  by_cases c1 : L 1 = 1
  · refine Tm_ite (fun _ => ?_) (fun v => absurd c1 v)
    refine Tm_suc (fun k => by rw [x_state]) ?_
    exact Tm_some (by rw [if_pos c1]; rfl)
  refine Tm_ite (fun v => absurd v c1) (fun _ => ?_)
  rw [if_neg c1]
  by_cases c2 : L 1 = 2
  · refine Tm_ite (fun _ => ?_) (fun v => absurd c2 v)
    refine Tm_suc (fun k => by rw [x_state]) ?_
    exact Tm_some (by rw [if_pos c2]; rfl)
  refine Tm_ite (fun v => absurd v c2) (fun _ => ?_)
  rw [if_neg c2]
  by_cases c3 : L 1 = 3
  · refine Tm_ite (fun _ => ?_) (fun v => absurd c3 v)
    refine Tm_suc (fun k => by rw [x_state]) ?_
    exact Tm_some (by rw [if_pos c3]; rfl)
  refine Tm_ite (fun v => absurd v c3) (fun _ => ?_)
  rw [if_neg c3]
  by_cases c4 : L 1 = 4
  · refine Tm_ite (fun _ => ?_) (fun v => absurd c4 v)
    refine Tm_suc (fun k => by rw [x_state]) ?_
    refine Tm_chk (by decide) ?_
    exact Tm_some (by rw [if_pos c4]; rfl)
  refine Tm_ite (fun v => absurd v c4) (fun _ => ?_)
  rw [if_neg c4]
  by_cases c5 : L 1 = 5
  · refine Tm_ite (fun _ => ?_) (fun v => absurd c5 v)
    refine Tm_suc (fun k => by rw [x_state]) ?_
    exact Tm_some (by rw [if_pos c5]; rfl)
  refine Tm_ite (fun v => absurd v c5) (fun _ => ?_)
  rw [if_neg c5]
  by_cases c6 : L 1 = 6
  · refine Tm_ite (fun _ => ?_) (fun v => absurd c6 v)
    refine Tm_suc (fun k => by rw [x_state]) ?_
    exact Tm_some (by rw [if_pos c6]; rfl)
  refine Tm_ite (fun v => absurd v c6) (fun _ => ?_)
  rw [if_neg c6]
  by_cases c7 : L 1 = 7
  · refine Tm_ite (fun _ => ?_) (fun v => absurd c7 v)
    refine Tm_suc (fun k => by rw [x_state]) ?_
    exact Tm_some (by rw [if_pos c7]; rfl)
  refine Tm_ite (fun v => absurd v c7) (fun _ => ?_)
  rw [if_neg c7]
  by_cases c8 : L 1 = 8
  · refine Tm_ite (fun _ => ?_) (fun v => absurd c8 v)
    rw [if_pos c8]
    unfold stE
    refine Tm_suc (fun k => by rw [x_state]) ?_
    refine Tm_ite (fun a => ?_) (fun a => ?_)
    · rw [if_pos (show σ.1 105 ≤ 0 from a)]
      refine Tm_suc (fun k => by rw [x_state]) ?_
      refine Tm_ite (fun b => ?_) (fun b => ?_)
      · rw [if_pos (show σ.1 102 = 0 from b)]
        refine Tm_suc (fun k => by rw [x_state]) ?_
        refine Tm_suc (fun k => by rw [x_state]) ?_
        exact Tm_some rfl
      · rw [if_neg (show ¬ σ.1 102 = 0 from b)]
        refine Tm_suc (fun k => by rw [x_state]) ?_
        exact Tm_some rfl
    · rw [if_neg (show ¬ σ.1 105 ≤ 0 from a)]
      refine Tm_suc (fun k => by rw [x_state]) ?_
      exact Tm_some rfl
  refine Tm_ite (fun v => absurd v c8) (fun _ => ?_)
  rw [if_neg c8]
  refine Tm_suc (fun k => by rw [x_state]) ?_
  exact Tm_some rfl
/-- whether out is refused -/
def ouR (σ : MS) (q : Int32) : Prop := σ.1 112 = 0 ∨ q < 0 ∨ σ.1 106 ≤ q ∨ ¬ q < 60000
theorem s_outN (h : ouR σ (L 1)) : Tm (fun k => x_out k 0 L σ) (fun r => r = (0, mSc σ 2 1)) := by
  have fin : ∀ N : Nat → Int32, Tm (fun k => x_out k 1 N σ) (fun r => r = (0, mSc σ 2 1)) := fun N => by
    refine Tm_suc (fun k => by rw [x_out]) ?_
    refine Tm_suc (fun k => by rw [x_out]) ?_
    refine Tm_ob (s_good _ _) (fun r hr => ?_)
    rw [hr]
    refine Tm_ite (fun _ => ?_) (fun v => absurd rfl v)
    refine Tm_suc (fun k => by rw [x_out]) ?_
    refine Tm_suc (fun k => by rw [x_out]) ?_
    exact Tm_some rfl
  refine Tm_suc (fun k => by rw [x_out]) ?_
  refine Tm_ite (fun _ => fin L) (fun a => ?_)
  refine Tm_ite (fun _ => fin L) (fun b => ?_)
  refine Tm_ite (fun _ => fin L) (fun c => ?_)
  refine Tm_ite (fun d => ?_) (fun _ => fin L)
  rcases h with h | h | h | h
  · exact absurd h a
  · exact absurd h b
  · exact absurd h c
  · exact absurd d h
theorem s_outY {q : Nat} (d1 : L 1 = nI q) (h : ¬ ouR σ (L 1)) (hq : q < 60000) : Tm (fun k => x_out k 0 L σ) (fun r => r = (σ.2.2 52 q, mSc σ 2 0)) := by
  refine Tm_suc (fun k => by rw [x_out]) ?_
  refine Tm_ite (fun a => absurd (Or.inl a) h) (fun _ => ?_)
  refine Tm_ite (fun a => absurd (Or.inr (Or.inl a)) h) (fun _ => ?_)
  refine Tm_ite (fun a => absurd (Or.inr (Or.inr (Or.inl a))) h) (fun _ => ?_)
  refine Tm_ite (fun _ => ?_) (fun a => absurd (Or.inr (Or.inr (Or.inr a))) h)
  refine Tm_suc (fun k => by rw [x_out]) ?_
  refine Tm_suc (fun k => by rw [x_out]) ?_
  refine Tm_ob (s_good _ _) (fun r hr => ?_)
  rw [hr]
  refine Tm_ite (fun v => absurd (show (1 : Int32) = 0 from v) (by decide)) (fun _ => ?_)
  have l1 : (upd L 100 0) 1 = nI q := d1
  rw [l1]
  refine Tm_chk (n_in (by omega) (by omega)) ?_
  rw [n_cl (p := q) (by omega)]
  refine Tm_suc (fun k => by rw [x_out]) ?_
  exact Tm_some rfl
end STO
end JnS280
section JnS281
/-! Trees of nodes: more may be read or made. -/
section WLC
variable {T : Nat → Nat → Int32} {FN : Nat → Nat → Prop} {lc lc' : Nat → Prop}
theorem WN_lc (hl : ∀ j, lc j → lc' j) : ∀ (f nt O r K : Nat) (x : Int32), WN T FN f nt O r K lc x → WN T FN f nt O r K lc' x := by
  intro f
  induction f with
  | zero => intro _ _ _ _ _ h; exact h.elim
  | succ f ih =>
    intro nt O r K x h
    unfold WN at h ⊢
    rcases h with ⟨e, h4, n, k, ch, a1, a2, a3, a4, a5, a6, a7⟩ | ⟨e, n, a1, a2, hor⟩ | ⟨e, n, a1, a2, hor⟩ | ⟨e, hor⟩ | ⟨e, hor⟩ | ⟨e, n, a1, a2, a3, hor⟩ | ⟨e, hor⟩
    · exact Or.inl ⟨e, h4, n, k, ch, a1, a2, a3, a4, a5, fun i p1 p2 => ⟨(a6 i p1 p2).1, ih _ _ _ _ _ (a6 i p1 p2).2⟩, ih _ _ _ _ _ a7⟩
    · refine Or.inr (Or.inl ⟨e, n, a1, a2, hor.imp id (fun z => ⟨z.1, ?_, fun y => ?_⟩)⟩)
      · obtain ⟨O1, r1, lo, w⟩ := z.2.1
        exact ⟨O1, r1, lo, ih _ _ _ _ _ w⟩
      · obtain ⟨O1, r1, lo, w⟩ := z.2.2 y
        exact ⟨O1, r1, lo, ih _ _ _ _ _ w⟩
    · refine Or.inr (Or.inr (Or.inl ⟨e, n, a1, a2, ?_⟩))
      rcases hor with h | h | h | ⟨x4, s, x6, hs, x5⟩ | ⟨x4, h1, fn, m, c, x5, hF, hm, x8, hc1, hc2, w⟩ | ⟨x4, xr, O1, r1, lo, w⟩ | ⟨x4, h1, m, hm, w⟩ | ⟨x4, h1, w6, w7, w8⟩ | ⟨x4, h1, m, hm, hmK, w6, w7, w8⟩ | ⟨x4, h1, m, hm, hmK, w6, w7⟩ | ⟨x4, h1, w⟩
      · exact Or.inl h
      · exact Or.inr (Or.inl h)
      · exact Or.inr (Or.inr (Or.inl (h.imp id (fun h => h.imp id (fun h => h.imp id (fun h => ⟨h.1, hl _ h.2⟩))))))
      · exact Or.inr (Or.inr (Or.inr (Or.inl ⟨x4, s, x6, hs, x5.imp id (hl _)⟩)))
      · exact Or.inr (Or.inr (Or.inr (Or.inr (Or.inl ⟨x4, h1, fn, m, c, x5, hF, hm, x8, hc1, hc2, ih _ _ _ _ _ w⟩))))
      · exact Or.inr (Or.inr (Or.inr (Or.inr (Or.inr (Or.inl ⟨x4, fun z => (xr z).imp (hl _) id, O1, r1, lo, ih _ _ _ _ _ w⟩)))))
      · exact Or.inr (Or.inr (Or.inr (Or.inr (Or.inr (Or.inr (Or.inl ⟨x4, h1, m, hm, ih _ _ _ _ _ w⟩))))))
      · exact Or.inr (Or.inr (Or.inr (Or.inr (Or.inr (Or.inr (Or.inr (Or.inl ⟨x4, h1, ih _ _ _ _ _ w6, w7.imp id (ih _ _ _ _ _), ih _ _ _ _ _ w8⟩)))))))
      · exact Or.inr (Or.inr (Or.inr (Or.inr (Or.inr (Or.inr (Or.inr (Or.inr (Or.inl ⟨x4, h1, m, hm, hmK, ih _ _ _ _ _ w6, w7.imp id (ih _ _ _ _ _), ih _ _ _ _ _ w8⟩))))))))
      · exact Or.inr (Or.inr (Or.inr (Or.inr (Or.inr (Or.inr (Or.inr (Or.inr (Or.inr (Or.inl ⟨x4, h1, m, hm, hmK, ih _ _ _ _ _ w6, ih _ _ _ _ _ w7⟩)))))))))
      · exact Or.inr (Or.inr (Or.inr (Or.inr (Or.inr (Or.inr (Or.inr (Or.inr (Or.inr (Or.inr ⟨x4, h1, ih _ _ _ _ _ w⟩)))))))))
    · refine Or.inr (Or.inr (Or.inr (Or.inl ⟨e, hor.imp id (fun z => ?_)⟩)))
      obtain ⟨m, n, rm, a1, a2, w0, w9⟩ := z
      exact ⟨m, n, rm, a1, a2, ih _ _ _ _ _ w0, ih _ _ _ _ _ w9⟩
    · refine Or.inr (Or.inr (Or.inr (Or.inr (Or.inl ⟨e, hor.imp id (fun z => ?_)⟩))))
      obtain ⟨m, n, q, rm, a1, a2, k1, hq, w6, w7, w9⟩ := z
      exact ⟨m, n, q, rm, a1, a2, k1, hq, ih _ _ _ _ _ w6, ih _ _ _ _ _ w7, ih _ _ _ _ _ w9⟩
    · exact Or.inr (Or.inr (Or.inr (Or.inr (Or.inr (Or.inl ⟨e, n, a1, a2, ih _ _ _ _ _ a3, hor.imp id (fun z => ⟨ih _ _ _ _ _ z.1, ih _ _ _ _ _ z.2⟩)⟩)))))
    · refine Or.inr (Or.inr (Or.inr (Or.inr (Or.inr (Or.inr ⟨e, hor.imp id (fun z => ?_)⟩)))))
      obtain ⟨m, n, s, rm, a1, a2, x6, hs, x5, w9⟩ := z
      exact ⟨m, n, s, rm, a1, a2, x6, hs, ⟨x5.1.imp id (hl _), hl _ x5.2⟩, ih _ _ _ _ _ w9⟩
theorem WX_lc {O r K : Nat} {x : Int32} (hl : ∀ j, lc j → lc' j) (h : WX T FN O r K lc x) : WX T FN O r K lc' x := by
  obtain ⟨F, h⟩ := h
  exact ⟨F, WN_lc hl F 0 O r K x h⟩
/-- larger tables -/
theorem WN_tb {T' : Nat → Nat → Int32} (h4 : ∀ a i, 4 ≤ a → a ≤ 9 → (1 ≤ i ∧ i < LNo T % 70001) → T' a i = T a i) (h12 : ∀ i, i < LPo T % 70001 → T' 12 i = T 12 i) (hN : LNo T % 70001 ≤ LNo T' % 70001) (hP : LPo T % 70001 ≤ LPo T' % 70001) : ∀ (f nt O r K : Nat) (lc : Nat → Prop) (x : Int32), WN T FN f nt O r K lc x → WN T' FN f nt O r K lc x := by
  intro f
  induction f with
  | zero => intro _ _ _ _ _ _ h; exact h.elim
  | succ f ih =>
    intro nt O r K lc x h
    have lt : ∀ {n : Nat}, (1 ≤ n ∧ n < LNo T % 70001) → (1 ≤ n ∧ n < LNo T' % 70001) := fun h => ⟨h.1, Nat.lt_of_lt_of_le h.2 hN⟩
    unfold WN at h ⊢
    rcases h with ⟨e, h4', n, k, ch, a1, a2, a3, a4, a5, a6, a7⟩ | ⟨e, n, a1, a2, hor⟩ | ⟨e, n, a1, a2, hor⟩ | ⟨e, hor⟩ | ⟨e, hor⟩ | ⟨e, n, a1, a2, a3, hor⟩ | ⟨e, hor⟩
    · refine Or.inl ⟨e, h4', n, k, ch, a1, a2, fun i hi => lt (a3 i hi), fun i hi => ⟨?_, ?_⟩, ?_, fun i p1 p2 => ⟨?_, ih _ _ _ _ _ _ (a6 i p1 p2).2⟩, ih _ _ _ _ _ _ a7⟩
      · rw [h4 6 _ (by decide) (by decide) (a3 (i + 1) (by omega))]; exact (a4 i hi).1
      · rw [h4 9 _ (by decide) (by decide) (a3 i (by omega))]; exact (a4 i hi).2
      · rw [h4 4 _ (by decide) (by decide) (a3 0 (by omega))]; exact a5
      · rw [h4 4 _ (by decide) (by decide) (a3 i p2)]; exact (a6 i p1 p2).1
    · refine Or.inr (Or.inl ⟨e, n, a1, lt a2, ?_⟩)
      rw [h4 4 n (by decide) (by decide) a2, h4 7 n (by decide) (by decide) a2, h4 8 n (by decide) (by decide) a2]
      refine hor.imp id (fun z => ⟨z.1, ?_, fun y => ?_⟩)
      · obtain ⟨O1, r1, lo, w⟩ := z.2.1
        exact ⟨O1, r1, lo, ih _ _ _ _ _ _ w⟩
      · obtain ⟨O1, r1, lo, w⟩ := z.2.2 y
        exact ⟨O1, r1, lo, ih _ _ _ _ _ _ w⟩
    · refine Or.inr (Or.inr (Or.inl ⟨e, n, a1, lt a2, ?_⟩))
      rw [h4 4 n (by decide) (by decide) a2, h4 5 n (by decide) (by decide) a2, h4 6 n (by decide) (by decide) a2, h4 7 n (by decide) (by decide) a2, h4 8 n (by decide) (by decide) a2]
      rcases hor with ⟨x4, p, q, x5, x6, hq, hpq, hc⟩ | ⟨x4, p, q, x5, x6, hq, hpq, hpq2⟩ | h | h | ⟨x4, h1, fn, m, c, x5, hF, hm, x8, hc1, hc2, w⟩ | ⟨x4, xr, O1, r1, lo, w⟩ | ⟨x4, h1, m, hm, w⟩ | ⟨x4, h1, w6, w7, w8⟩ | ⟨x4, h1, m, hm, hmK, w6, w7, w8⟩ | ⟨x4, h1, m, hm, hmK, w6, w7⟩ | ⟨x4, h1, w⟩
      · exact Or.inl ⟨x4, p, q, x5, x6, hq, by omega, fun i hi => by rw [h12 (p + i) (by omega)]; exact hc i hi⟩
      · exact Or.inr (Or.inl ⟨x4, p, q, x5, x6, hq, hpq, by omega⟩)
      · exact Or.inr (Or.inr (Or.inl h))
      · exact Or.inr (Or.inr (Or.inr (Or.inl h)))
      · exact Or.inr (Or.inr (Or.inr (Or.inr (Or.inl ⟨x4, h1, fn, m, c, x5, hF, hm, x8, hc1, hc2, ih _ _ _ _ _ _ w⟩))))
      · exact Or.inr (Or.inr (Or.inr (Or.inr (Or.inr (Or.inl ⟨x4, xr, O1, r1, lo, ih _ _ _ _ _ _ w⟩)))))
      · exact Or.inr (Or.inr (Or.inr (Or.inr (Or.inr (Or.inr (Or.inl ⟨x4, h1, m, hm, ih _ _ _ _ _ _ w⟩))))))
      · exact Or.inr (Or.inr (Or.inr (Or.inr (Or.inr (Or.inr (Or.inr (Or.inl ⟨x4, h1, ih _ _ _ _ _ _ w6, w7.imp id (ih _ _ _ _ _ _), ih _ _ _ _ _ _ w8⟩)))))))
      · exact Or.inr (Or.inr (Or.inr (Or.inr (Or.inr (Or.inr (Or.inr (Or.inr (Or.inl ⟨x4, h1, m, hm, hmK, ih _ _ _ _ _ _ w6, w7.imp id (ih _ _ _ _ _ _), ih _ _ _ _ _ _ w8⟩))))))))
      · exact Or.inr (Or.inr (Or.inr (Or.inr (Or.inr (Or.inr (Or.inr (Or.inr (Or.inr (Or.inl ⟨x4, h1, m, hm, hmK, ih _ _ _ _ _ _ w6, ih _ _ _ _ _ _ w7⟩)))))))))
      · exact Or.inr (Or.inr (Or.inr (Or.inr (Or.inr (Or.inr (Or.inr (Or.inr (Or.inr (Or.inr ⟨x4, h1, ih _ _ _ _ _ _ w⟩)))))))))
    · refine Or.inr (Or.inr (Or.inr (Or.inl ⟨e, hor.imp id (fun z => ?_)⟩)))
      obtain ⟨m, n, rm, a1, a2, w0, w9⟩ := z
      refine ⟨m, n, rm, a1, lt a2, ih _ _ _ _ _ _ w0, ?_⟩
      rw [h4 9 n (by decide) (by decide) a2]; exact ih _ _ _ _ _ _ w9
    · refine Or.inr (Or.inr (Or.inr (Or.inr (Or.inl ⟨e, hor.imp id (fun z => ?_)⟩))))
      obtain ⟨m, n, q, rm, a1, a2, k1, hq, w6, w7, w9⟩ := z
      refine ⟨m, n, q, rm, a1, lt a2, k1, hq, ?_, ?_, ?_⟩
      · rw [h4 6 n (by decide) (by decide) a2]; exact ih _ _ _ _ _ _ w6
      · rw [h4 7 n (by decide) (by decide) a2]; exact ih _ _ _ _ _ _ w7
      · rw [h4 9 n (by decide) (by decide) a2]; exact ih _ _ _ _ _ _ w9
    · refine Or.inr (Or.inr (Or.inr (Or.inr (Or.inr (Or.inl ⟨e, n, a1, lt a2, ?_, ?_⟩)))))
      · rw [h4 6 n (by decide) (by decide) a2]; exact ih _ _ _ _ _ _ a3
      · rw [h4 5 n (by decide) (by decide) a2, h4 9 n (by decide) (by decide) a2]
        exact hor.imp id (fun z => ⟨ih _ _ _ _ _ _ z.1, ih _ _ _ _ _ _ z.2⟩)
    · refine Or.inr (Or.inr (Or.inr (Or.inr (Or.inr (Or.inr ⟨e, hor.imp id (fun z => ?_)⟩)))))
      obtain ⟨m, n, s, rm, a1, a2, x6, hs, x5, w9⟩ := z
      refine ⟨m, n, s, rm, a1, lt a2, ?_, hs, ?_, ?_⟩
      · rw [h4 6 n (by decide) (by decide) a2]; exact x6
      · rw [h4 5 n (by decide) (by decide) a2]; exact x5
      · rw [h4 9 n (by decide) (by decide) a2]; exact ih _ _ _ _ _ _ w9
end WLC
end JnS281

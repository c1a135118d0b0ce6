section JnS540
variable {yf : Nat × Nat}
/-! Between calls (reference), with the names of the program told (made by jy.py). -/
abbrev XEt := Option (List Gn × (Nat → Nat))
def RfR (XE : XEt) (TX u p : Nat → Int32) (nX : Nat) (g : PRG) (t : ST) (KB : Nat) (S : Nat → Nat → Nat → Nat → Prop) (j : Nat) (τ : MS) : Prop := (nX ≤ 32768 ∧ τ.1 115 = nI nX ∧ ∀ i, i < nX → τ.2.2 53 i = TX i) ∧ (gPrg TX nX (g0 TX nX u p) = some (Sum.inr (g, t)) ∧ XE = some (g.2.1.1, g.2.1.2.2.2.2.2.2)) ∧ PgO g t KB S ∧ PG g.2.1.1 g.2.1.2.2.2.2.2.2 t.2.2.2.2.1 τ ∧ VwO g.2.1.1 g.2.1.2.2.2.2.2.2 t.2.2.2.2.1 τ ∧ ∃ (C K : Nat → Int32) (z0 x66 : Int32) (sd : Int64), RIc (TPg g t KB) (FNg g) C K (hd t.2.2.2.1) z0 x66 0 sd τ ∧ (¬ τ.1 112 = 0 → ∃ m, m ≤ 20000 * j ∧ PSt (TPg g t KB) (FNg g) S C K (hd t.2.2.2.1) z0 x66 0 sd m τ)
def RfOx (XE : XEt) (j : Nat) (τ : MS) : Prop := ∃ TX u p nX g t KB S, RfR XE TX u p nX g t KB S j τ
def RfJ (XE : XEt) (j : Nat) (τ : MS) : Prop := RfB τ ∧ ((τ.1 111 = 0 ∧ τ.1 112 = 0 ∧ XE = none) ∨ (¬ τ.1 111 = 0 ∧ RfOx XE j τ))
/-- what most calls leave as it is -/
def KpT (σ ω : MS) : Prop := (ω.1 4 = σ.1 4 ∧ ∀ i : Nat, (i : Int) < (σ.1 4).toInt → ω.2.2 3 i = σ.2.2 3 i) ∧ ω.1 73 = σ.1 73 ∧ ω.1 111 = σ.1 111 ∧ ω.1 112 = σ.1 112
theorem KpT_2 {σ : MS} {x : Int32} : KpT σ (mSc σ 2 x) := ⟨⟨rfl, fun _ _ => rfl⟩, rfl, rfl, rfl⟩
section RJL
variable {σ ω : MS} {j : Nat} {L : Nat → Int32} {XE : XEt}
theorem KpT_kn (h : kn ω = kn σ) (h2 : kq ω = kq σ) : KpT σ ω := by
  obtain ⟨kr, kj⟩ := kn_e h
  refine ⟨⟨kj 4 (by omega), fun i _ => by rw [kr 3 (by omega)]⟩, kj 73 (by omega), kj 111 (by omega), ?_⟩
  unfold kq at h2
  simp only [Prod.mk.injEq] at h2
  exact h2.2.2.2.2.2.2.2.2
theorem Tm_kq {g : Nat → Option (Int32 × MS)} {P : Int32 × MS → Prop} (t : Tm g P) (h : ∀ k r, g k = some r → kq r.2 = kq σ) : Tm g (fun r => P r ∧ kq r.2 = kq σ) := by
  obtain ⟨r, k0, h1, h2⟩ := t
  exact ⟨r, k0, h1, h2, h k0 r (h1 k0 (Nat.le_refl _))⟩
theorem RfJ_run {TX u p : Nat → Int32} {nX : Nat} {g : PRG} {t : ST} {KB : Nat} {S : Nat → Nat → Nat → Nat → Prop} {C K C' K' : Nat → Int32} {z0 x66 z0' x66' : Int32} {sd sd' : Int64} (hB : RfB σ) (h1 : nX ≤ 32768 ∧ σ.1 115 = nI nX ∧ ∀ i, i < nX → σ.2.2 53 i = TX i) (h2 : gPrg TX nX (g0 TX nX u p) = some (Sum.inr (g, t)) ∧ XE = some (g.2.1.1, g.2.1.2.2.2.2.2.2)) (ok : PgO g t KB S) (pg : PG g.2.1.1 g.2.1.2.2.2.2.2.2 t.2.2.2.2.1 σ) (vw : VwO g.2.1.1 g.2.1.2.2.2.2.2.2 t.2.2.2.2.1 σ) (ri0 : RIc (TPg g t KB) (FNg g) C' K' (hd t.2.2.2.1) z0' x66' 0 sd' σ) (h111 : ¬ σ.1 111 = 0) (hk : kn ω = kn σ) (ri : RIc (TPg g t KB) (FNg g) C K (hd t.2.2.2.1) z0 x66 0 sd ω) (ps : ¬ ω.1 112 = 0 → ∃ m, m ≤ 20000 * (j + 1) ∧ PSt (TPg g t KB) (FNg g) S C K (hd t.2.2.2.1) z0 x66 0 sd m ω) : RfJ XE (j + 1) ω := by
  obtain ⟨kr, kj⟩ := kn_e hk
  obtain ⟨_, _, _, r4, r5, _, ⟨n, r7⟩, r8, r9⟩ := hB
  obtain ⟨q1, q2, q3, q4, _, q6, q7, q8, q9, q10⟩ := id ri
  refine ⟨⟨q1, q3, by rw [q4.2]; exact q4.1, fun p hp => by rw [kr 18 (by omega)]; exact r4 p hp, (kr 1 (by omega)).trans r5, q9, ⟨n, ⟨(kj 4 (by omega)).trans r7.1.1, r7.1.2⟩, rfl, fun i hi => by rw [kr 3 (by omega)]; exact r7.2.2 i hi⟩, by rw [kj 120 (by omega)]; exact r8, by rw [kj 73 (by omega)]; exact r9⟩, Or.inr ⟨by rw [kj 111 (by omega)]; exact h111, TX, u, p, nX, g, t, KB, S, ⟨h1.1, (kj 115 (by omega)).trans h1.2.1, fun i hi => by rw [kr 53 (by omega)]; exact h1.2.2 i hi⟩, h2, ok, PG_run pg ri0.2.1 q2 ok.1.2.2.1.1 ok.1.2.2.1.2.1 hk, VwO_c (kj 73 (by omega)) (kr 54 (by omega)) (kr 55 (by omega)) vw, C, K, z0, x66, sd, ri, ps⟩⟩
theorem RfJ_2 {x : Int32} (h : RfJ XE j σ) : RfJ XE (j + 1) (mSc σ 2 x) := by
  obtain ⟨⟨⟨g0, l0, B0, h0, X0, m0⟩, r2, r3, r4, r5, r6, ⟨n, r7⟩, r8, r9⟩, hP⟩ := h
  refine ⟨⟨⟨g0, l0, B0, h0, X0, MI_c m0 rfl rfl rfl rfl rfl⟩, r2, r3, r4, r5, r6, ⟨n, r7⟩, r8, r9⟩, hP.imp id (fun z => ?_)⟩
  obtain ⟨z1, TX, u, p, nX, g, t, KB, S, a1, a2, a3, a4, a5, C, K, z0, x66, sd, ri, ps⟩ := z
  refine ⟨z1, TX, u, p, nX, g, t, KB, S, a1, a2, a3, a4, a5, C, K, z0, x66, sd, RIc_2 ri, fun y => ?_⟩
  obtain ⟨m, m1, m2⟩ := ps y
  exact ⟨m, by omega, PSt_2 m2⟩
theorem rj_step (hj : j < 512) (h : RfJ XE j σ) : Tm (fun k => x_step k 0 L σ) (fun r => RfJ XE (j + 1) r.2 ∧ KpT σ r.2) := by
  by_cases c : σ.1 112 = 0 ∨ L 1 < 0 ∨ ¬ L 1 ≤ 20000
  · exact Tm_mono (s_stepN c) (fun r hr => by rw [hr]; exact ⟨RfJ_2 h, KpT_2⟩)
  have c0 : ¬ σ.1 112 = 0 := fun z => c (Or.inl z)
  obtain ⟨q, e1, e2⟩ := n_ofnn (fun z => c (Or.inr (Or.inl z)) : ¬ L 1 < 0)
  have hq : q ≤ 20000 := by
    have : nI q ≤ nI 20000 := by
      refine Classical.byContradiction (fun z => c (Or.inr (Or.inr (fun y => z ?_))))
      rw [e1] at y; exact y
    exact (n_le e2 (by decide)).mp this
  obtain ⟨hB, hP⟩ := h
  obtain ⟨z1, TX, u, p, nX, g, t, KB, S, a1, a2, a3, a4, a5, C, K, z0, x66, sd, ri, ps⟩ := hP.resolve_left (fun z => c0 z.2.1)
  obtain ⟨m, m1, m2⟩ := ps c0
  refine Tm_mono (Tm_kq (σ := σ) (Tm_kn (σ := σ) (s_step a3.1.2.1.1 a3.1.2.1.2 a3.1.1.1 a3.1.1.2.1 a3.1.1.2.2 hq (by omega) c0 m2 e1) (fun k r hr => kn_step k 0 L σ r hr)) (fun k r hr => kq_step k 0 L σ r hr)) (fun r hr => ?_)
  obtain ⟨⟨⟨m', y1, y2, y3, _⟩, hk⟩, hq2⟩ := hr
  exact ⟨RfJ_run hB a1 a2 a3 a4 a5 ri z1 hk y3.1 (fun _ => ⟨m', by omega, y3⟩), KpT_kn hk hq2⟩
theorem rj_back (hj : j < 512) (h : RfJ XE j σ) : Tm (fun k => x_back k 0 L σ) (fun r => RfJ XE (j + 1) r.2 ∧ KpT σ r.2) := by
  by_cases c : σ.1 112 = 0 ∨ L 1 < 0 ∨ ¬ L 1 ≤ σ.1 103
  · exact Tm_mono (s_backN c) (fun r hr => by rw [hr]; exact ⟨RfJ_2 h, KpT_2⟩)
  have c0 : ¬ σ.1 112 = 0 := fun z => c (Or.inl z)
  obtain ⟨q, e1, e2⟩ := n_ofnn (fun z => c (Or.inr (Or.inl z)) : ¬ L 1 < 0)
  obtain ⟨hB, hP⟩ := h
  obtain ⟨z1, TX, u, p, nX, g, t, KB, S, a1, a2, a3, a4, a5, C, K, z0, x66, sd, ri, ps⟩ := hP.resolve_left (fun z => c0 z.2.1)
  obtain ⟨m, m1, m2⟩ := ps c0
  have hq : q ≤ m := by
    have : nI q ≤ nI m := by
      refine Classical.byContradiction (fun z => c (Or.inr (Or.inr (fun y => z ?_))))
      rw [e1, m2.2.1.1] at y; exact y
    exact (n_le e2 (by omega)).mp this
  refine Tm_mono (Tm_kq (σ := σ) (Tm_kn (σ := σ) (s_backP a3.1.2.1.1 a3.1.2.1.2 (by omega) c0 hq m2 e1) (fun k r hr => kn_back k 0 L σ r hr)) (fun k r hr => kq_back k 0 L σ r hr)) (fun r hr => ?_)
  obtain ⟨⟨⟨_, y3⟩, hk⟩, hq2⟩ := hr
  exact ⟨RfJ_run hB a1 a2 a3 a4 a5 ri z1 hk y3.1 (fun _ => ⟨m - q, by omega, y3⟩), KpT_kn hk hq2⟩
theorem rj_start {J : Nat → Int64} (h : RfJ XE j σ) : Tm (fun k => x_start k 0 L J σ) (fun r => RfJ XE (j + 1) r.2 ∧ r.2.1 2 = (if σ.1 111 = 0 then 1 else 0) ∧ (r.2.1 4 = σ.1 4 ∧ r.2.2.2 3 = σ.2.2 3) ∧ r.2.1 73 = σ.1 73 ∧ r.2.1 111 = σ.1 111 ∧ (r.2.1 112 = 0 ↔ σ.1 111 = 0)) := by
  by_cases c : σ.1 111 = 0
  · rw [if_pos c]
    have n112 : σ.1 112 = 0 := h.2.elim (fun z => z.2.1) (fun z => absurd c z.1)
    refine Tm_suc (fun k => by rw [x_start]) ?_
    refine Tm_ite (fun _ => ?_) (fun z => absurd c z)
    refine Tm_suc (fun k => by rw [x_start]) ?_
    refine Tm_suc (fun k => by rw [x_start]) ?_
    refine Tm_ob (s_good _ _) (fun r hr => ?_)
    rw [hr]
    refine Tm_ite (fun _ => ?_) (fun z => absurd rfl z)
    exact Tm_some ⟨RfJ_2 h, rfl, ⟨rfl, rfl⟩, rfl, rfl, ⟨fun _ => c, fun _ => n112⟩⟩
  · rw [if_neg c]
    obtain ⟨hB, hP⟩ := h
    obtain ⟨z1, TX, u, p, nX, g, t, KB, S, a1, a2, a3, a4, a5, C, K, z0, x66, sd, ri, ps⟩ := hP.resolve_left (fun z => c z.1)
    have two : Tm (fun k => x_start k 0 L J σ) (fun r => r.2.1 2 = 0) := by
      refine Tm_suc (fun k => by rw [x_start]) ?_
      refine Tm_ite (fun z => absurd z c) (fun _ => ?_)
      refine Tm_suc (fun k => by rw [x_start]) ?_
      refine Tm_ob (s_good _ _) (fun r hr => ?_)
      rw [hr]
      refine Tm_ite (fun z => absurd (show (1 : Int32) = 0 from z) (by decide)) (fun _ => ?_)
      show Tm (fun k => x_start k 3 (upd L 100 0) J (mSc σ 2 0)) _
      refine Tm_suc (fun k => by rw [x_start]) ?_
      refine Tm_suc (fun k => by rw [x_start]) ?_
      refine Tm_suc (fun k => by rw [x_start]) ?_
      have h21 : σ.2.2 21 0 = nI t.2.1 := (ri.2.1.2.1 21 0 (by omega) (by omega) (by omega)).trans a3.1.2.1.1
      refine Tm_ob (E_rs1 (σ := mSc (mSd (mSc σ 2 0) (J 1)) 112 1) (ns := t.2.1) h21 a3.1.2.1.2) (fun r1 hr1 => ?_)
      refine Tm_some ?_
      show r1.2.1 2 = 0
      rw [hr1.2.2.2.2.2.1 2 (by omega)]
      show upd (upd σ.1 2 0) 112 1 2 = 0
      rw [upd_other (by decide), upd_same]
    refine Tm_mono (Tm_and (Tm_kn (σ := σ) (s_start (S := S) (s := J 1) a3.1.2.1.1 a3.1.2.1.2 a3.2.1 c ri rfl) (fun k r hr => kn_start k 0 L J σ r hr)) two) (fun r hr => ?_)
    obtain ⟨⟨⟨_, y3, y4⟩, hk⟩, y5⟩ := hr
    exact ⟨RfJ_run hB a1 a2 a3 a4 a5 ri z1 hk y3.1 (fun _ => ⟨0, by omega, y3⟩), y5, ⟨(kn_e hk).2 4 (by omega), (kn_e hk).1 3 (by omega)⟩, (kn_e hk).2 73 (by omega), (kn_e hk).2 111 (by omega), ⟨fun z => absurd (y4.symm.trans z) (by decide), fun z => absurd z c⟩⟩
theorem RfJ_sm (h : RfJ XE j σ) (hs : SmR σ ω) (hM : ∃ (g : Nat → Prop) (l : List Nat) (B h X : Nat), MI 0 X g l B h ω) (hr : ∀ a, a = 1 ∨ (13 ≤ a ∧ a ≤ 16) ∨ (53 ≤ a ∧ a ≤ 55) → ω.2.2 a = σ.2.2 a) (hj : ∀ i, i = 25 ∨ i = 73 ∨ i = 111 ∨ i = 115 → ω.1 i = σ.1 i) (ht : ∃ n, TpO (ω.2.2 3) n ω) (h120 : ∃ q, ω.1 120 = nI q ∧ q ≤ 12000) : RfJ XE (j + 1) ω := by
  obtain ⟨hB, hP⟩ := h
  obtain ⟨r1, r2, r3, r4, r5, r6, _, _, r9⟩ := id hB
  obtain ⟨s1, s2, s3⟩ := id hs
  have ae := AE_sm r6 r2 hs
  refine ⟨⟨hM, fun i hi => by rw [s2 33 (by omega)]; exact r2 i hi, by rw [s2 2 (by omega)]; exact r3, fun p hp => by rw [s2 18 (by omega)]; exact r4 p hp, (hr 1 (by omega)).trans r5, (s1 68 (by omega)).trans r6, ht, h120, by rw [hj 73 (by omega)]; exact r9⟩, hP.imp (fun z => ⟨(hj 111 (by omega)).trans z.1, (s1 112 (by omega)).trans z.2.1, z.2.2⟩) (fun z => ?_)⟩
  obtain ⟨z1, TX, u, p, nX, g, t, KB, S, a1, a2, a3, a4, a5, C, K, z0, x66, sd, ri, ps⟩ := z
  refine ⟨by rw [hj 111 (by omega)]; exact z1, TX, u, p, nX, g, t, KB, S, ⟨a1.1, (hj 115 (by omega)).trans a1.2.1, fun i hi => by rw [hr 53 (by omega)]; exact a1.2.2 i hi⟩, a2, a3, PG_x a4 (fun i hi => ?_) (fun a ha => ?_), VwO_c (hj 73 (by omega)) (hr 54 (by omega)) (hr 55 (by omega)) a5, C, K, z0, x66, sd, RIc_ae ae hM ri, fun y => ?_⟩
  · by_cases e : i = 25
    · rw [e]; exact hj 25 (by omega)
    · exact s1 i (by omega)
  · by_cases e : a = 1 ∨ (13 ≤ a ∧ a ≤ 16)
    · exact hr a (by omega)
    · exact s2 a (by omega)
  · rw [s1 112 (by omega)] at y
    obtain ⟨m, m1, m2⟩ := ps y
    exact ⟨m, by omega, PSt_sm a3.1.1.1 hs hM m2⟩
theorem RfJ_sf {χ : MS} {v : Int32} {g : Nat → Prop} {l : List Nat} {B h' X : Nat} (h : RfJ XE j σ) (hM : MI 0 X g l B h' σ) (hv : Vd g v) (hx : ∀ i, ¬ (i = 2 ∨ i = 4 ∨ i = 8 ∨ i = 9) → χ.1 i = σ.1 i) (hx2 : χ.2 = σ.2) (h4 : χ.1 4 = 0 ∨ χ.1 4 = σ.1 4) (hs : ShF χ v ω) : RfJ XE (j + 1) ω := by
  have M1 : MI 0 X g l B h' χ := MI_c hM (hx 54 (by decide)) (hx 55 (by decide)) (hx 63 (by decide)) (hx 72 (by decide)) (by rw [hx2])
  have M2 := MI_sf M1 hv hs
  obtain ⟨f1, f2, f3, f4, f5, f6, f7⟩ := id hs
  have nn : ∀ i, ¬ (i = 2 ∨ i = 4 ∨ i = 8 ∨ i = 9 ∨ i = 79 ∨ i = 84 ∨ i = 93 ∨ i = 120) → ω.1 i = σ.1 i := fun i hi => (f1 i (by omega)).trans (hx i (by omega))
  have rr : ∀ a, ¬ (a = 40 ∨ a = 42 ∨ a = 48 ∨ a = 49 ∨ a = 57) → ω.2.2 a = σ.2.2 a := fun a ha => (f3 a ha).trans (by rw [hx2])
  obtain ⟨n, t1, _, t3⟩ := id h.1.2.2.2.2.2.2.1
  refine RfJ_sm h ⟨fun i hi => nn i (by omega), fun a ha => rr a (by omega), by rw [f2, hx2]⟩ ⟨_, _, _, _, _, M2⟩ (fun a ha => rr a (by omega)) (fun i hi => nn i (by omega)) ?_ f6
  rcases h4 with z | z
  · exact ⟨0, ⟨(f1 4 (by decide)).trans z, Nat.zero_le _⟩, rfl, fun i hi => absurd hi (Nat.not_lt_zero _)⟩
  · exact ⟨n, ⟨(f1 4 (by decide)).trans (z.trans t1.1), t1.2⟩, rfl, fun i hi => by rw [rr 3 (by decide)]; exact t3 i hi⟩
theorem RfJ_nm (h : RfJ XE j σ) (hx : ∀ i, ¬ (i = 2 ∨ i = 4 ∨ i = 8 ∨ i = 9 ∨ i = 11) → ω.1 i = σ.1 i) (hx2 : ω.2 = σ.2) (h4 : ω.1 4 = 0 ∨ ω.1 4 = σ.1 4) : RfJ XE (j + 1) ω := by
  obtain ⟨⟨g0, l0, B0, h0, X0, m0⟩, _⟩ := id h.1
  obtain ⟨n, t1, _, t3⟩ := id h.1.2.2.2.2.2.2.1
  refine RfJ_sm h ⟨fun i hi => hx i (by omega), fun a ha => by rw [hx2], by rw [hx2]⟩ ⟨g0, l0, B0, h0, X0, MI_c m0 (hx 54 (by decide)) (hx 55 (by decide)) (hx 63 (by decide)) (hx 72 (by decide)) (by rw [hx2])⟩ (fun a ha => by rw [hx2]) (fun i hi => hx i (by omega)) ?_ (by rw [hx 120 (by decide)]; exact h.1.2.2.2.2.2.2.2.1)
  rcases h4 with z | z
  · exact ⟨0, ⟨z, Nat.zero_le _⟩, rfl, fun i hi => absurd hi (Nat.not_lt_zero _)⟩
  · exact ⟨n, ⟨z.trans t1.1, t1.2⟩, rfl, fun i hi => by rw [hx2]; exact t3 i hi⟩
theorem rj_fault (h : RfJ XE j σ) : Tm (fun k => x_fault_ k 0 L σ) (fun r => RfJ XE (j + 1) r.2 ∧ KpT σ r.2) := Tm_mono s_fault_ (fun r hr => by rw [hr]; exact ⟨RfJ_2 h, KpT_2⟩)
theorem rj_count (h : RfJ XE j σ) : Tm (fun k => x_count k 0 L σ) (fun r => RfJ XE (j + 1) r.2 ∧ KpT σ r.2) := Tm_mono s_count (fun r hr => by obtain ⟨c, e⟩ := hr; rw [e]; exact ⟨RfJ_2 h, KpT_2⟩)
theorem rj_shown (h : RfJ XE j σ) : Tm (fun k => x_shown k 0 L σ) (fun r => RfJ XE (j + 1) r.2 ∧ KpT σ r.2) := Tm_mono (s_shown h.1.2.2.2.2.2.2.2.1) (fun r hr => by obtain ⟨c, e⟩ := hr; rw [e]; exact ⟨RfJ_2 h, KpT_2⟩)
theorem rj_order (h : RfJ XE j σ) : Tm (fun k => x_order k 0 L σ) (fun r => RfJ XE (j + 1) r.2 ∧ KpT σ r.2) := by
  obtain ⟨⟨g0, l0, B0, h0, X0, m0⟩, _⟩ := id h.1
  exact Tm_mono (s_order m0) (fun r hr => by rw [hr]; exact ⟨RfJ_2 h, KpT_2⟩)
theorem rj_shape (h : RfJ XE j σ) : Tm (fun k => x_shape k 0 L σ) (fun r => RfJ XE (j + 1) r.2 ∧ KpT σ r.2) := by
  obtain ⟨⟨g0, l0, B0, h0, X0, m0⟩, _⟩ := id h.1
  exact Tm_mono (s_shape m0) (fun r hr => by obtain ⟨c, e⟩ := hr; rw [e]; exact ⟨RfJ_2 h, KpT_2⟩)
theorem rj_state (h : RfJ XE j σ) : Tm (fun k => x_state k 0 L σ) (fun r => RfJ XE (j + 1) r.2 ∧ KpT σ r.2) := Tm_mono s_state (fun r hr => by rw [hr]; exact ⟨RfJ_2 h, KpT_2⟩)
theorem rj_out (h : RfJ XE j σ) : Tm (fun k => x_out k 0 L σ) (fun r => RfJ XE (j + 1) r.2 ∧ KpT σ r.2) := by
  by_cases c : ouR σ (L 1)
  · exact Tm_mono (s_outN c) (fun r hr => by rw [hr]; exact ⟨RfJ_2 h, KpT_2⟩)
  · obtain ⟨q, e1, e2⟩ := n_ofnn (fun z => c (Or.inr (Or.inl z)) : ¬ L 1 < 0)
    have hq : q < 60000 := by
      have : nI q < nI 60000 := by
        refine Classical.byContradiction (fun z => c (Or.inr (Or.inr (Or.inr (fun y => z ?_)))))
        rw [e1] at y; exact y
      exact (n_lt e2 (by decide)).mp this
    exact Tm_mono (s_outY e1 c hq) (fun r hr => by rw [hr]; exact ⟨RfJ_2 h, KpT_2⟩)
theorem rj_seen (h : RfJ XE j σ) : Tm (fun k => x_seen k 0 L σ) (fun r => RfJ XE (j + 1) r.2 ∧ KpT σ r.2) := by
  obtain ⟨⟨g0, l0, B0, h0, X0, m0⟩, _⟩ := id h.1
  refine Tm_mono (s_seen m0 h.1.2.2.2.2.2.2.2.2) (fun r hr => ?_)
  rcases hr with ⟨c, e⟩ | ⟨v, v1, v2⟩
  · rw [e]; exact ⟨RfJ_2 h, KpT_2⟩
  · refine ⟨RfJ_sf (χ := mSc σ 2 0) h m0 v1 (fun i hi => (show upd σ.1 2 0 i = σ.1 i from upd_other (by omega))) rfl (Or.inr (show upd σ.1 2 0 4 = σ.1 4 from upd_other (by decide))) v2, ⟨v2.1 4 (by decide), fun i _ => by rw [v2.2.2.1 3 (by decide)]; rfl⟩, v2.1 73 (by decide), v2.1 111 (by decide), v2.1 112 (by decide)⟩
/-- names as the reference has them -/
def PGn (gl : List Gn) (σ : MS) : Prop := ∃ b : BT, PB σ b ∧ (σ.1 25 = nI gl.length ∧ gl.length ≤ 200 ∧ glOK (σ.2.2 13) (σ.2.2 14) (σ.2.2 15) (σ.2.2 16) b.2.2.2.1 b.2.1 gl)
theorem rj_value (h : RfJ XE j σ) : Tm (fun k => x_value k 0 L σ) (fun r => RfJ XE (j + 1) r.2 ∧ (r.2.1 73 = σ.1 73 ∧ r.2.1 111 = σ.1 111 ∧ r.2.1 112 = σ.1 112) ∧ ((σ.1 112 = 0 ∧ KpT σ r.2) ∨ ∃ n g, mN σ n ∧ XE = some g ∧ PGn g.1 σ ∧ ((KpT σ r.2 ∧ ¬ ∃ x, x ∈ g.1 ∧ x.2.2.1 = 1 ∧ mNm σ 0 n x.2.1 x.1.length) ∨ (r.2.1 4 = 0 ∧ ∃ x, x ∈ g.1 ∧ x.2.2.1 = 1 ∧ mNm σ 0 n x.2.1 x.1.length)))) := by
  by_cases c : σ.1 112 = 0
  · exact Tm_mono (s_valueN c) (fun r hr => by rw [hr]; exact ⟨RfJ_2 h, ⟨rfl, rfl, rfl⟩, Or.inl ⟨c, KpT_2⟩⟩)
  · obtain ⟨⟨g0, l0, B0, h0, X0, m0⟩, _⟩ := id h.1
    obtain ⟨n, t1, _, t3⟩ := id h.1.2.2.2.2.2.2.1
    obtain ⟨z1, TX, u, p, nX, g, t, KB, S, a1, a2, a3, a4, a5, _⟩ := h.2.resolve_left (fun z => c z.2.1)
    have e1 := a3.1.2.2.1.2.2.2.2
    refine Tm_mono (s_value2 m0 a4 (by omega) t1 c) (fun r hr => ?_)
    rcases hr with ⟨e, nx⟩ | ⟨⟨v, v1, v2⟩, nx⟩
    · rw [e]
      refine ⟨RfJ_nm h (fun i hi => ?_) rfl (Or.inr ?_), ⟨rfl, rfl, rfl⟩, Or.inr ⟨n, _, t1, a2.2, ⟨_, a4.2.1, a4.2.2.1⟩, Or.inl ⟨⟨⟨rfl, fun _ _ => rfl⟩, rfl, rfl, rfl⟩, nx⟩⟩⟩
      · show upd (upd (upd (upd σ.1 2 0) 8 0) 9 (σ.1 4)) 2 2 i = _
        rw [upd_other (by omega), upd_other (by omega), upd_other (by omega), upd_other (by omega)]
      · show upd (upd (upd (upd σ.1 2 0) 8 0) 9 (σ.1 4)) 2 2 4 = _
        rw [upd_other (by decide), upd_other (by decide), upd_other (by decide), upd_other (by decide)]
    · refine ⟨RfJ_sf (χ := mSc (mVl σ) 4 0) h m0 v1 (fun i hi => ?_) rfl (Or.inl (show upd (upd (upd (upd σ.1 2 0) 8 0) 9 (σ.1 4)) 4 0 4 = 0 from upd_same)) v2, ⟨v2.1 73 (by decide), v2.1 111 (by decide), v2.1 112 (by decide)⟩, Or.inr ⟨n, _, t1, a2.2, ⟨_, a4.2.1, a4.2.2.1⟩, Or.inr ⟨v2.1 4 (by decide), nx⟩⟩⟩
      show upd (upd (upd (upd σ.1 2 0) 8 0) 9 (σ.1 4)) 4 0 i = _
      rw [upd_other (by omega), upd_other (by omega), upd_other (by omega), upd_other (by omega)]
theorem rj_round (h : RfJ XE j σ) : Tm (fun k => x_round k 0 L σ) (fun r => RfJ XE (j + 1) r.2 ∧ KpT σ r.2) := by
  by_cases c : σ.1 112 = 0
  · exact Tm_mono (s_roundN c) (fun r hr => by rw [hr]; exact ⟨RfJ_2 h, KpT_2⟩)
  · obtain ⟨hB, hP⟩ := h
    obtain ⟨r1, r2, r3, r4, r5, r6, ⟨n, r7⟩, r8, r9⟩ := id hB
    obtain ⟨z1, TX, u, p, nX, g, t, KB, S, a1, a2, a3, a4, a5, C, K, z0, x66, sd, ri, ps⟩ := hP.resolve_left (fun z => c z.2.1)
    obtain ⟨m, m1, m2⟩ := ps c
    have k18 : Tm (fun k => x_round k 0 L σ) (fun r => r.2.2.2 18 = σ.2.2 18) := by
      obtain ⟨r, k0, h1, _⟩ := s_round a3.1 m2 a4 r7 a5 c (L := L)
      exact ⟨r, k0, h1, ku_round k0 0 L σ r (h1 k0 (Nat.le_refl _))⟩
    refine Tm_mono (Tm_and (s_round a3.1 m2 a4 r7 a5 c) k18) (fun r hr => ?_)
    obtain ⟨⟨y1, y2, y3, ⟨Tp', y4, y4'⟩, y5, y6⟩, y7⟩ := hr
    obtain ⟨q1, q2, q3, q4, _, q6, q7, q8, q9, q10⟩ := id y1.1
    obtain ⟨V, v1, v2, _⟩ := id y3
    refine ⟨⟨⟨q1, q3, by rw [q4.2]; exact q4.1, fun p hp => by rw [y7]; exact r4 p hp, y2.1, q9, ⟨n, y4.1, rfl, fun i hi => by rw [y4.2.1]; exact y4.2.2 i hi⟩, by rw [y5 120 (by omega)]; exact r8, ⟨V, v1, v2⟩⟩, Or.inr ⟨by rw [y5 111 (by omega)]; exact z1, TX, u, p, nX, g, t, KB, S, ⟨a1.1, (y5 115 (by omega)).trans a1.2.1, fun i hi => by rw [y6 53 (by omega)]; exact a1.2.2 i hi⟩, a2, a3, y2, y3, C, K, z0, x66, sd, y1.1, fun _ => ⟨m, by omega, y1⟩⟩⟩, ⟨⟨y4.1.1.trans r7.1.1.symm, fun i hi => ?_⟩, y5 73 (by omega), y5 111 (by omega), y5 112 (by omega)⟩⟩
    rw [r7.1.1, n_int (by have := r7.1.2; omega)] at hi
    rw [y4.2.1, y4' i (by omega)]
theorem rj_work {J : Nat → Int64} (h : RfJ XE j σ) : Tm (fun k => x_work k 0 L J σ) (fun r => RfJ XE (j + 1) r.2 ∧ (r.2.1 73 = σ.1 73 ∧ r.2.1 111 = σ.1 111 ∧ r.2.1 112 = σ.1 112) ∧ (σ.1 112 = 0 → KpT σ r.2) ∧ (¬ σ.1 112 = 0 → r.2.1 4 = 0 ∧ ∃ n g b x, TpO (σ.2.2 3) n σ ∧ XE = some g ∧ gX (σ.2.2 3) n (30 * n + 21) (g.1, [], [], 42, false, true, g.2) b = some x ∧ (∀ z, x = Sum.inl z → r.1 = -100 - nI z.2 ∧ r.2.1 11 = nI z.1) ∧ ∀ t, x = Sum.inr t → r.2.1 11 = 0)) := by
  by_cases c : σ.1 112 = 0
  · refine Tm_suc (fun k => by rw [x_work]) ?_
    refine Tm_ite (fun _ => ?_) (fun z => absurd c z)
    refine Tm_suc (fun k => by rw [x_work]) ?_
    refine Tm_suc (fun k => by rw [x_work]) ?_
    refine Tm_ob (s_good _ _) (fun r hr => ?_)
    rw [hr]
    refine Tm_ite (fun _ => ?_) (fun z => absurd rfl z)
    exact Tm_some ⟨RfJ_2 h, ⟨rfl, rfl, rfl⟩, fun _ => KpT_2, fun z => absurd c z⟩
  · obtain ⟨hB, hP⟩ := h
    obtain ⟨r1, r2, r3, r4, r5, r6, ⟨n, r7⟩, r8, r9⟩ := id hB
    obtain ⟨z1, TX, u, p, nX, g, t, KB, S, a1, a2, a3, a4, a5, C, K, z0, x66, sd, ri, ps⟩ := hP.resolve_left (fun z => c z.2.1)
    obtain ⟨m, m1, m2⟩ := ps c
    have eb := a3.1.2.2.1
    refine Tm_mono (s_work a3.1 m2 a4 r7 c) (fun r hr => ?_)
    obtain ⟨y1, y2, y3, y4, x, gx, gy⟩ := hr
    obtain ⟨q1, q2, q3, q4, _, q6, q7, q8, q9, q10⟩ := id y1.1
    obtain ⟨o1, o2, o3, o4⟩ := id y2
    refine ⟨⟨⟨q1, q3, by rw [q4.2]; exact q4.1, fun p hp => by rw [o2 18 (by omega)]; exact r4 p hp, (o2 1 (by omega)).trans r5, q9, ⟨0, ⟨y3, Nat.zero_le _⟩, rfl, fun i hi => absurd hi (Nat.not_lt_zero _)⟩, ?_, by rw [o1 73 (by omega)]; exact r9⟩, Or.inr ⟨by rw [o1 111 (by omega)]; exact z1, TX, u, p, nX, g, t, KB, S, ⟨a1.1, (o1 115 (by omega)).trans a1.2.1, fun i hi => by rw [o2 53 (by omega)]; exact a1.2.2 i hi⟩, a2, a3, PG_of y2 (by omega) a4, VwO_c (o1 73 (by omega)) (o2 54 (by omega)) (o2 55 (by omega)) a5, C, K, z0, x66, sd, y1.1, fun _ => ⟨m, by omega, y1⟩⟩⟩, ⟨o1 73 (by omega), o1 111 (by omega), o1 112 (by omega)⟩, fun z => absurd z c, fun _ => ⟨y3, n, _, _, x, r7, a2.2, gx, gy⟩⟩
    rcases y4 with e | e
    · rw [e]; exact r8
    · exact e
theorem rj_view (h : RfJ XE j σ) : Tm (fun k => x_view k 0 L σ) (fun r => RfJ XE (j + 1) r.2 ∧ (r.2.1 111 = σ.1 111 ∧ r.2.1 112 = σ.1 112) ∧ ((σ.1 111 = 0 ∧ r.2.1 2 = 1 ∧ KpT σ r.2) ∨ (σ.1 73 = 8 ∧ r.2.1 2 = 2 ∧ KpT σ r.2 ∧ r.2.1 11 = σ.1 11) ∨ ((r.2.1 4 = 0 ∧ r.2.1 2 = 0) ∧ ¬ σ.1 73 = 8 ∧ ∃ n g b x, TpO (σ.2.2 3) n σ ∧ XE = some g ∧ gX (σ.2.2 3) n (30 * n + 21) (g.1, [], [], 42, false, false, g.2) b = some x ∧ ((∃ z, x = Sum.inl z ∧ r.2.1 73 = σ.1 73 ∧ r.1 = -1 - nI z.2 ∧ r.2.1 11 = nI z.1) ∨ (∃ z, x = Sum.inr z ∧ r.2.1 73 = σ.1 73 + 1 ∧ r.1 = σ.1 73 ∧ r.2.1 11 = 0))))) := by
  by_cases c : σ.1 111 = 0
  · refine Tm_suc (fun k => by rw [x_view]) ?_
    refine Tm_ite (fun _ => ?_) (fun z => absurd c z)
    refine Tm_suc (fun k => by rw [x_view]) ?_
    refine Tm_ob (s_good _ _) (fun r hr => ?_)
    rw [hr]
    refine Tm_ite (fun _ => ?_) (fun z => absurd rfl z)
    exact Tm_some ⟨RfJ_2 h, ⟨rfl, rfl⟩, Or.inl ⟨c, rfl, KpT_2⟩⟩
  · obtain ⟨hB, hP⟩ := id h
    obtain ⟨r1, r2, r3, r4, r5, r6, ⟨n, r7⟩, r8, r9⟩ := id hB
    obtain ⟨z1, TX, u, p, nX, g, t, KB, S, a1, a2, a3, a4, a5, C, K, z0, x66, sd, ri, ps⟩ := hP.resolve_left (fun z => c z.1)
    have eb := a3.1.2.2.1
    refine Tm_mono (s_view2 ri eb.2.2 a4 r7 a5 c) (fun r hr => ?_)
    rcases hr with ⟨e, e8⟩ | ⟨n8, ⟨ae, y2, y3, y4, _, y6, y7, y8, y9⟩, f2, x, gx, gy⟩
    · rw [e]; exact ⟨RfJ_2 h, ⟨rfl, rfl⟩, Or.inr (Or.inl ⟨e8, rfl, KpT_2, rfl⟩)⟩
    · have ri' := RIc_ae ae y3 ri
      obtain ⟨q1, q2, q3, q4, _, q6, q7, q8, q9, q10⟩ := id ri'
      obtain ⟨V, v1, v2, _⟩ := id y6
      refine ⟨⟨⟨y3, q3, by rw [q4.2]; exact q4.1, fun p hp => by rw [y8 18 (by omega)]; exact r4 p hp, y2.1, q9, ⟨0, ⟨y9, Nat.zero_le _⟩, rfl, fun i hi => absurd hi (Nat.not_lt_zero _)⟩, by rw [y7 120 (by omega)]; exact r8, ⟨V, v1, v2⟩⟩, Or.inr ⟨by rw [y7 111 (by omega)]; exact z1, TX, u, p, nX, g, t, KB, S, ⟨a1.1, (y7 115 (by omega)).trans a1.2.1, fun i hi => by rw [y8 53 (by omega)]; exact a1.2.2 i hi⟩, a2, a3, y2, y6, C, K, z0, x66, sd, ri', fun y => ?_⟩⟩, ⟨y7 111 (by omega), y7 112 (by omega)⟩, Or.inr (Or.inr ⟨⟨y9, f2⟩, n8, n, _, _, x, r7, a2.2, gx, gy⟩)⟩
      rw [y7 112 (by omega)] at y
      obtain ⟨m, m1, m2⟩ := ps y
      exact ⟨m, by omega, PSt_ae a3.1.1.1 ae y3 (y4 (PSt_UT m2).1) m2⟩
theorem rj_end (h : RfJ XE j σ) : Tm (fun k => x_end k 0 L σ) (fun r => RfJ XE (j + 1) r.2) := by
  refine Tm_mono (s_end L σ) (fun r hr => ?_)
  by_cases c : ¬ L 1 < 0 ∧ L 1 ≤ σ.1 4
  · rw [if_pos c] at hr
    obtain ⟨q, e1, e2⟩ := n_ofnn c.1
    obtain ⟨⟨g0, l0, B0, h0, X0, m0⟩, _⟩ := id h.1
    obtain ⟨n, t1, _, t3⟩ := id h.1.2.2.2.2.2.2.1
    have hq : q ≤ n := by
      have := c.2
      rw [e1, t1.1] at this
      exact (n_le e2 (by have := t1.2; omega)).mp this
    have o : ∀ i, ¬ (i = 2 ∨ i = 4) → r.2.1 i = σ.1 i := fun i hi => by
      rw [hr]; show upd (upd σ.1 2 0) 4 (L 1) i = _
      rw [upd_other (by omega), upd_other (by omega)]
    have o2 : r.2.2 = σ.2 := by rw [hr]
    refine RfJ_sm h ⟨fun i hi => o i (by omega), fun a ha => by rw [o2], by rw [o2]⟩ ⟨g0, l0, B0, h0, X0, MI_c m0 (o 54 (by decide)) (o 55 (by decide)) (o 63 (by decide)) (o 72 (by decide)) (by rw [o2])⟩ (fun a ha => by rw [o2]) (fun i hi => o i (by omega)) ⟨q, ⟨?_, by have := t1.2; omega⟩, rfl, fun i hi => by rw [o2]; exact t3 i (by omega)⟩ (by rw [o 120 (by decide)]; exact h.1.2.2.2.2.2.2.2.1)
    rw [hr]
    show upd (upd σ.1 2 0) 4 (L 1) 4 = nI q
    rw [upd_same, e1]
  · rw [if_neg c] at hr
    rw [hr]; exact RfJ_2 (x := 1) h
theorem rj_feed (h : RfJ XE j σ) : Tm (fun k => x_feed k 0 L σ) (fun r => RfJ XE (j + 1) r.2) := by
  obtain ⟨⟨g0, l0, B0, h0, X0, m0⟩, _⟩ := id h.1
  obtain ⟨n, t1, _, t3⟩ := id h.1.2.2.2.2.2.2.1
  have tn := t1.2
  have e4 : (σ.1 4).toInt = n := by rw [t1.1, n_int (by omega)]
  have c4 : (σ.1 4).toNatClampNeg = n := by rw [t1.1, n_cl (p := n) (by omega)]
  refine Tm_mono (s_feed L σ (by omega) (by omega)) (fun r hr => ?_)
  by_cases c : (σ.1 4).toInt + 20 ≤ 32768
  · rw [if_pos c] at hr
    obtain ⟨hr, _⟩ := hr
    obtain ⟨k1, k2, k3⟩ := mTape_rest (upd σ.1 2 0, σ.2.1, σ.2.2) L 20
    have f4 : (upd σ.1 2 0) 4 = σ.1 4 := upd_other (by decide)
    have ln := mTape_len (upd σ.1 2 0, σ.2.1, σ.2.2) L (by show 0 ≤ ((upd σ.1 2 0) 4).toInt; rw [f4]; omega) 20 (by show ((upd σ.1 2 0) 4).toInt + _ ≤ _; rw [f4]; omega)
    have ol := mTape_old (upd σ.1 2 0, σ.2.1, σ.2.2) L (by show 0 ≤ ((upd σ.1 2 0) 4).toInt; rw [f4]; omega) 20 (by show ((upd σ.1 2 0) 4).toInt + _ ≤ _; rw [f4]; omega)
    have nw := mTape_new (upd σ.1 2 0, σ.2.1, σ.2.2) L (by show 0 ≤ ((upd σ.1 2 0) 4).toInt; rw [f4]; omega) 20 (by show ((upd σ.1 2 0) 4).toInt + _ ≤ _; rw [f4]; omega)
    have ln : ((mTape (upd σ.1 2 0, σ.2.1, σ.2.2) L 20).1 4).toInt = ((upd σ.1 2 0) 4).toInt + (20 : Nat) := ln
    rw [f4] at ln
    have o : ∀ i, ¬ (i = 2 ∨ i = 4) → r.2.1 i = σ.1 i := fun i hi => by
      rw [hr, k2 i (by omega)]; exact upd_other (by omega)
    have o2 : ∀ a, a ≠ 3 → r.2.2.2 a = σ.2.2 a := fun a ha => by rw [hr, k3 a ha]
    refine RfJ_sm h ⟨fun i hi => o i (by omega), fun a ha => o2 a (by omega), by rw [hr, k1]⟩ ⟨g0, l0, B0, h0, X0, MI_x m0 (o 54 (by decide)) (o 55 (by decide)) (o 63 (by decide)) (o 72 (by decide)) (fun a h1 h2 => o2 a (by omega))⟩ (fun a ha => o2 a (by omega)) (fun i hi => o i (by omega)) ⟨n + 20, ⟨?_, by omega⟩, rfl, fun i hi => ?_⟩ (by rw [o 120 (by decide)]; exact h.1.2.2.2.2.2.2.2.1)
    · rw [hr, n_ofpos (x := (mTape (upd σ.1 2 0, σ.2.1, σ.2.2) L 20).1 4) (by omega), ln, e4]
      congr 1
    · rw [hr]
      by_cases e : i < n
      · rw [ol i (by show (i : Int) < ((upd σ.1 2 0) 4).toInt; rw [f4]; omega)]; exact t3 i e
      · have := nw (i - n) (by omega)
        have e' : ((upd σ.1 2 0) 4).toNatClampNeg + (i - n) = i := by rw [f4, c4]; omega
        rw [show ((upd σ.1 2 0, σ.2.1, σ.2.2) : MS).1 4 = (upd σ.1 2 0) 4 from rfl, e'] at this
        rw [this]
        exact n_and8 _
  · rw [if_neg c] at hr
    rw [hr]; exact RfJ_2 (x := 1) h
theorem rj_0 : RfJ none 0 ms0 := by
  have z : ∀ a i, 28 ≤ a → ms0.2.2 a i = 0 := fun a i ha => by
    show (if a = 1 then (mT mWords 264) else if a = 2 then (mT mTypes 37) else nZ) i = 0
    rw [if_neg (by omega), if_neg (by omega)]
  have nz : (0 : Int32) = nI 0 := rfl
  refine ⟨⟨⟨fun _ => False, [], 0, 4, 870000, ?_⟩, fun i _ => z 33 i (by decide), ?_, fun p _ => ⟨0, by decide, rfl⟩, rfl, rfl, ⟨0, ⟨rfl, Nat.zero_le _⟩, rfl, fun i hi => absurd hi (Nat.not_lt_zero _)⟩, ⟨0, rfl, by decide⟩, ⟨0, rfl, by decide⟩⟩, Or.inl ⟨rfl, rfl, rfl⟩⟩
  · refine MI_any ⟨rfl, Or.inl rfl, rfl, by decide, ?_⟩ ⟨0, 0, rfl, by decide, rfl, by decide, ⟨0, 0, z 30 1 (by decide), by decide, z 30 3 (by decide), by decide⟩, fun p hp => absurd hp (Nat.not_lt_zero _)⟩ (fun a i hR => ?_)
    · exact ⟨rfl, fun v hv => hv.elim⟩
    · have := RtP_r hR
      rw [z a i (by omega)]
      exact ⟨0, rfl, Or.inl (by decide)⟩
  · exact ⟨by decide +kernel, by decide +kernel, by decide +kernel, by decide +kernel, by decide +kernel, by decide +kernel, by decide +kernel⟩
end RJL
section RJP
variable {T : Nat → Nat → Int32} {FN : Nat → Nat → Prop} {σ ρ ω : MS} {gl : List Gn} {pr : Nat → Nat} {b : BT}
theorem rj_program {j : Nat} {XE : XEt} (h : RfJ XE j σ) (L : Nat → Int32) : Tm (fun k => x_program k 0 L σ) (fun r => (∃ n, TpO (σ.2.2 3) n σ ∧ ((∃ z, gPrg (σ.2.2 3) n (g0 (σ.2.2 3) n (σ.2.2 10) (σ.2.2 11)) = some (Sum.inr z) ∧ RfJ (some (z.1.2.1.1, z.1.2.1.2.2.2.2.2.2)) (j + 1) r.2 ∧ (¬ r.2.1 111 = 0 ∧ r.1 = nI z.2.2.2.2.2.2.1 ∧ r.2.1 11 = 0) ∧ r.2.1 112 = 0 ∧ r.2.1 73 = 0) ∨ (∃ z, gPrg (σ.2.2 3) n (g0 (σ.2.2 3) n (σ.2.2 10) (σ.2.2 11)) = some (Sum.inl z) ∧ RfJ XE (j + 1) r.2 ∧ (r.2.1 111 = σ.1 111 ∧ r.1 = -1 - nI z.2 ∧ r.2.1 11 = nI z.1) ∧ r.2.1 112 = σ.1 112 ∧ r.2.1 73 = σ.1 73))) ∧ r.2.1 4 = 0) := by
  obtain ⟨hB, hP⟩ := h
  obtain ⟨n, tp⟩ := id hB.2.2.2.2.2.2.1
  obtain ⟨tn, _, tb⟩ := id tp
  have hA := hB.2.2.2.1
  have hW := hB.2.2.2.2.1
  obtain ⟨y, hG⟩ := gPrg_tot (σ.2.2 3) n (σ.2.2 10) (σ.2.2 11)
  cases y with
  | inr z =>
    obtain ⟨g, t⟩ := z
    refine Tm_mono (s_prgY tn hW hA hG L) (fun r hr => ?_)
    obtain ⟨ρ1, ρ, h1, hR, hF, yr, ⟨y1, ⟨y2, y3, y4, y5, y6⟩, y7, y8, y9⟩, y11⟩ := hr
    obtain ⟨p1, p2, p3⟩ := Pg1_fr h1
    obtain ⟨KB, S, ok⟩ := prg_ok tn.2 tb hG
    obtain ⟨bz, pg, h110, h44, _⟩ := PR_bz hR SmP_rf ok
    have nm : ∀ j, ¬ (j = 2 ∨ (4 ≤ j ∧ j ≤ 13) ∨ j = 22 ∨ j = 24 ∨ j = 25 ∨ j = 30 ∨ j = 31 ∨ j = 37 ∨ j = 38 ∨ (42 ≤ j ∧ j ≤ 48) ∨ j = 52 ∨ j = 110 ∨ j = 115 ∨ j = 111 ∨ j = 112 ∨ j = 73) → r.2.1 j = σ.1 j := fun j hj => by rw [y1 j (by omega), hF.1 j (by omega), p1 j (by omega)]
    have rw' : ∀ a, ¬ ((3 ≤ a ∧ a ≤ 27) ∨ a = 56 ∨ a = 53) → r.2.2.2 a = σ.2.2 a := fun a ha => by rw [y8 a (by omega), hF.2.2.1 a (by omega), p3 a (by omega)]
    have hB' : RfB r.2 := RfB_fr hB (fun j hj => nm j (by omega)) (fun a ha => rw' a (by omega)) (fun p hp => by rw [y8 18 (by decide)]; exact hR.2.2.2.2.2.2 p hp) y3 ⟨0, y6, by decide⟩
    have bzr : Bz (TPg g t KB) (FNg g) r.2 := Bz_x bz (fun j hj => y1 j (by omega)) (fun a h1 h2 => y8 a (by omega))
    refine ⟨⟨n, tp, Or.inl ⟨(g, t), hG, ⟨hB', Or.inr ⟨by rw [y4]; decide, σ.2.2 3, σ.2.2 10, σ.2.2 11, n, g, t, KB, S, ⟨tn.2, y2, y9⟩, ⟨hG, rfl⟩, ok, PG_x pg (fun j hj => y1 j (by omega)) (fun a ha => y8 a (by omega)), ⟨0, y6, by decide, fun v hv => absurd hv (Nat.not_lt_zero _)⟩, r.2.2.2 2, fun _ => 0, r.2.2.2 30 0, r.2.1 66, r.2.2.1 113, ⟨hB'.1, bzr, hB'.2.1, ⟨hB'.2.2.1, rfl⟩, trivial, (y1 110 (by decide)).trans h110, fun _ => rfl, rfl, hB'.2.2.2.2.2.1, rfl⟩, fun z => absurd y5 z⟩⟩, ⟨(by rw [y4]; decide), yr.trans h44, y11⟩, y5, y6⟩⟩, y3⟩
  | inl yf =>
    rcases hP with ⟨h111, h112, hXn⟩ | ⟨h111, TX, u, p, nX, g, t, KB, S, ⟨hX, h115, h53⟩, hp, ok, pg, vw, C, K, z0, x66, sd, ri, ps⟩
    · refine Tm_mono (s_prgN tn hW hA h111 hG L) (fun r hr => ?_)
      obtain ⟨⟨yr, yc⟩, ρ1, ρ, h1, hF, y1, y4, y7, y8⟩ := hr
      obtain ⟨p1, p2, p3⟩ := Pg1_fr h1
      have nm : ∀ j, ¬ (j = 2 ∨ (4 ≤ j ∧ j ≤ 13) ∨ j = 22 ∨ j = 24 ∨ j = 25 ∨ j = 30 ∨ j = 31 ∨ j = 37 ∨ j = 38 ∨ (42 ≤ j ∧ j ≤ 48) ∨ j = 52 ∨ j = 110) → r.2.1 j = σ.1 j := fun j hj => by rw [y1 j (by omega), hF.1 j (by omega), p1 j (by omega)]
      have rw' : ∀ a, ¬ ((3 ≤ a ∧ a ≤ 27) ∨ a = 56) → r.2.2.2 a = σ.2.2 a := fun a ha => by rw [y8 a (by omega), hF.2.2.1 a (by omega), p3 a (by omega)]
      have pa1 : PA ρ1 := fun p hp => by rw [p3 18 (by decide)]; exact hA p hp
      refine ⟨⟨n, tp, Or.inr ⟨yf, hG, ⟨RfB_fr hB (fun j hj => nm j (by omega)) (fun a ha => rw' a (by omega)) (fun p hp => by rw [y8 18 (by decide)]; exact hF.2.2.2 pa1 p hp) y4 (by rw [nm 73 (by decide)]; exact hB.2.2.2.2.2.2.2.2), Or.inl ⟨(nm 111 (by decide)).trans h111, (nm 112 (by decide)).trans h112, hXn⟩⟩, ⟨nm 111 (by decide), yr, yc⟩, nm 112 (by decide), nm 73 (by decide)⟩⟩, y4⟩
    · refine Tm_mono (s_prgA tn hW hA h111 hX h115 h53 hp.1 hG L) (fun r hr => ?_)
      obtain ⟨⟨yr, yc⟩, ρ1, ρ2, ρ3, ρ, g', t', h1, hF2, hL, hs, hR, hF, y1, y4, y7, y8⟩ := hr
      obtain ⟨p1, p2, p3⟩ := Pg1_fr h1
      obtain ⟨l1, l2, l3, l4, l5⟩ := hL
      have nm : ∀ j, ¬ (j = 2 ∨ (4 ≤ j ∧ j ≤ 13) ∨ j = 22 ∨ j = 24 ∨ j = 25 ∨ j = 30 ∨ j = 31 ∨ j = 37 ∨ j = 38 ∨ (42 ≤ j ∧ j ≤ 48) ∨ j = 52 ∨ j = 110) → r.2.1 j = σ.1 j := fun j hj => by rw [y1 j (by omega), hF.1 j (by omega), l2 j (by omega), hF2.1 j (by omega), p1 j (by omega)]
      have rw' : ∀ a, ¬ ((3 ≤ a ∧ a ≤ 27) ∨ a = 56) → r.2.2.2 a = σ.2.2 a := fun a ha => by rw [y8 a, hF.2.2.1 a (by omega), l4 a (by omega), hF2.2.2.1 a (by omega), p3 a (by omega)]
      have lg : r.2.2.1 = σ.2.1 := by rw [y7, hF.2.1, l3, hF2.2.1, p2]
      have fg : FrG σ r.2 := ⟨fun j hj => nm j (by omega), lg, fun a ha => rw' a ha⟩
      obtain ⟨bz, pg', h110, h44, _⟩ := PR_bz hR hs ok
      have bzr : Bz (TPg g t KB) (FNg g) r.2 := Bz_x bz (fun j hj => y1 j (by omega)) (fun a h1 h2 => y8 a)
      have e110 : r.2.1 110 = hd t.2.2.2.1 := (y1 110 (by decide)).trans h110
      have hB' : RfB r.2 := RfB_fr hB (fun j hj => nm j (by omega)) (fun a ha => rw' a (by omega)) (fun p hp => by rw [y8 18]; exact hR.2.2.2.2.2.2 p hp) y4 (by rw [nm 73 (by decide)]; exact hB.2.2.2.2.2.2.2.2)
      have ae := AE_pg ri.2.1 bzr fg ri.2.2.2.2.2.1 e110 hB.2.2.2.2.2.1 hB.2.1
      refine ⟨⟨n, tp, Or.inr ⟨yf, hG, ⟨hB', Or.inr ⟨by rw [nm 111 (by decide)]; exact h111, TX, u, p, nX, g, t, KB, S, ⟨hX, (nm 115 (by decide)).trans h115, fun i hi => by rw [rw' 53 (by decide)]; exact h53 i hi⟩, hp, ok, PG_x pg' (fun j hj => y1 j (by omega)) (fun a ha => y8 a), VwO_c (nm 73 (by decide)) (rw' 54 (by decide)) (rw' 55 (by decide)) vw, C, K, z0, x66, sd, RIc_ae ae hB'.1 ri, fun z => ?_⟩⟩, ⟨nm 111 (by decide), yr, yc⟩, nm 112 (by decide), nm 73 (by decide)⟩⟩, y4⟩
      rw [nm 112 (by decide)] at z
      obtain ⟨m, m1, m2⟩ := ps z
      have hU := (PSt_UT m2).1
      exact ⟨m, by omega, PSt_ae ok.1.1.1 ae hB'.1 (UT_k hU (nm 63 (by decide)) (nm 64 (by decide)) (nm 65 (by decide)) (rw' 28 (by decide)) (fun a h1 h2 => rw' a (by omega)) (kC_ae ae)) m2⟩
end RJP
end JnS540
section JnS541
/-! The class: the machine over code that grew; what parsing leaves of the machine. -/
section DYQ
variable {σ σ' : CS} {c c1 c2 : Ct} {g : Nat → Prop} {l : List Nat} {t B f0 u0 : Nat} {K K2 K3 K4 KB : Nat → Option Int32}
/-- the same units, more code -/
def CtX (c1 c2 : Ct) : Prop := tcP c2 = tcP c1 ∧ tcF c2 = tcF c1 ∧ tcK c2 = tcK c1 ∧ ∀ p x, tcD c1 p = some x → tcD c2 p = some x
theorem CtX_S (x : CtX c1 c2) {u : Nat} (h : tcS c1 u) : tcS c2 u := ⟨by rw [x.2.2.1]; exact h.1, h.2⟩
theorem FC_m (x : CtX c1 c2) : ∀ (fs : List FrT) (fp u pb nf nc sq : Nat), FC c1 K K4 f0 u0 fs fp u pb nf nc sq → FC c2 K K4 f0 u0 fs fp u pb nf nc sq
  | [], fp, u, pb, nf, nc, sq, h => h
  | q :: fs, fp, u, pb, nf, nc, sq, h => by
    have ih := FC_m x fs
    obtain ⟨⟨bk, rb, z2, z3, a, b, s, f1, f2, f3, kk⟩, w⟩ := h
    obtain ⟨hP, hF, hK, hD⟩ := id x
    refine ⟨⟨bk, rb, z2, z3, a, b, s, by rw [hF]; exact f1, by rw [hP, hF]; exact f2, f3, ?_⟩, ih _ _ _ _ _ _ w⟩
    rcases kk with ⟨k1, k2, k3⟩ | ⟨k1, k2, k3, k4, k5⟩
    · exact Or.inl ⟨by rw [hK]; exact k1, hD _ _ k2, k3⟩
    · exact Or.inr ⟨CtX_S x k1, CtX_S x k2, k3, by rw [hP]; exact hD _ _ k4, k5⟩
theorem RUN_m (x : CtX c1 c2) {pc fp sp nc m : Nat} (h : RUN c1 K pc fp sp nc m) : RUN c2 K pc fp sp nc m := by
  obtain ⟨u, d, rk, sq, fs, ms, ⟨h1, h1'⟩, h2, h3, h4, h5, h6, h7, h8, h9, h10, h11⟩ := h
  exact ⟨u, d, rk, sq, fs, ms, ⟨x.2.2.2 _ _ h1, h1'⟩, h2, h3, h4, by rw [x.2.1]; exact h5, CtX_S x h6, h7, FC_m x _ _ _ _ _ _ _ h8, h9, h10, by rw [x.2.1]; exact h11⟩
theorem POK_m (x : CtX c1 c2) {N : Nat} : ∀ (n top : Nat), POK c1 K N n top → POK c2 K N n top
  | 0, top, h => trivial
  | n + 1, top, h => by
    obtain ⟨off, pc, fp, sp, nc, z4, z5, h1, h2, h3, h4, h5⟩ := h
    exact ⟨off, pc, fp, sp, nc, z4, z5, h1, h2, h3, RUN_m x h4, POK_m x n off h5⟩
/-- what parsing leaves of the machine -/
def PFm (σ σ' : CS) : Prop := ((∀ j, j < 3700 → ¬ j = 404 → σ'.1 j = σ.1 j) ∧ ∀ j, j < 3700 → σ'.2.1 j = σ.2.1 j) ∧ (∀ k, k = 1 ∨ k = 2 ∨ k = 3 ∨ k = 13 ∨ (20 ≤ k ∧ k ≤ 27) ∨ k = 66 ∨ k = 67 → σ'.2.2.1 k = σ.2.2.1 k ∧ sN σ' k = sN σ k) ∧ σ'.2.2.2.2.2.2 = σ.2.2.2.2.2.2
theorem PFm_pi (f : PFm σ σ') : sPi σ' = sPi σ := f.2.2
theorem SvR_mx (x : CtX c1 c2) (f : PFm σ σ') {p s : Nat} (hp : p < 9) (h : SvR c1 K σ p s) : SvR c2 K σ' p s := by
  obtain ⟨⟨f1, f1'⟩, f2, f3⟩ := f
  have e : ∀ i, i < 16 → σ'.1 (100 * (28 + p) + i) = σ.1 (100 * (28 + p) + i) := fun i hi => f1 _ (by omega) (by omega)
  have n20 := (f2 20 (by omega)).2
  have n21 := (f2 21 (by omega)).2
  unfold SvR at h ⊢
  rw [e 0 (by omega), e 1 (by omega), e 2 (by omega), e 8 (by omega), e 7 (by omega), e 5 (by omega), e 13 (by omega), e 12 (by omega), e 14 (by omega), e 15 (by omega), n20, n21]
  exact ⟨RUN_m x h.1, h.2.1, h.2.2.1, POK_m x _ _ h.2.2.2⟩
theorem SVB_m (f : PFm σ σ') (hp : ∀ i, i < 9 → sPi σ i < 9) (h8 : uN (σ.1 2404) ≤ 8) (h : SVB σ) : SVB σ' := by
  have pi := PFm_pi f
  obtain ⟨⟨f1, f1'⟩, f2, f3⟩ := f
  have e : ∀ i, i < 9 → σ'.1 (100 * (28 + sPi σ i) + 3) = σ.1 (100 * (28 + sPi σ i) + 3) := fun i hi => f1 _ (by have := hp i hi; omega) (by omega)
  obtain ⟨h1, h2⟩ := h
  refine ⟨fun i hi => ?_, fun z => ?_⟩
  · rw [f1 2404 (by decide) (by decide)] at hi
    obtain ⟨k1, k2, k3⟩ := h1 i hi
    rw [pi, e i (by omega), f1 2407 (by decide) (by decide)]
    refine ⟨k1, k2, fun k h3 h4 => ?_⟩
    rw [f1 2404 (by decide) (by decide)] at h4
    rw [e k (by omega)]
    exact k3 k h3 h4
  · rw [f1 2405 (by decide) (by decide)] at z
    rw [pi, e 8 (by omega)]
    exact h2 z
theorem SVK_m (x : CtX c1 c2) (f : PFm σ σ') (h : SVK c1 K σ) : SVK c2 K σ' := by
  have pi := PFm_pi f
  have f0 := f
  obtain ⟨⟨f1, f1'⟩, f2, f3⟩ := f
  obtain ⟨⟨⟨h1, h2⟩, h3⟩, h4, h5, h6, h7⟩ := h
  have e : ∀ i k, i < 9 → k < 16 → σ'.1 (100 * (28 + sPi σ i) + k) = σ.1 (100 * (28 + sPi σ i) + k) := fun i k hi hk => f1 _ (by have := h4 i hi; omega) (by omega)
  have r27 := (f2 27 (by omega)).1
  have e4 := f1 2404 (by decide) (by decide)
  have e3 := f1 2403 (by decide) (by decide)
  have e5 := f1 2405 (by decide) (by decide)
  refine ⟨⟨⟨by rw [e4]; exact h1, by rw [e3]; exact h2⟩, SVB_m f0 h4 h1 h3⟩, by rw [pi]; exact h4, by rw [pi]; exact h5, fun i hi => ?_, fun z => ?_⟩
  · rw [e4] at hi
    obtain ⟨k1, k2, k3⟩ := h6 i hi
    rw [pi, r27, e i 2 (by omega) (by omega), e i 13 (by omega) (by omega), e3, e4]
    exact ⟨SvR_mx x f0 (h4 i (by omega)) k1, k2, k3⟩
  · rw [e5] at z
    obtain ⟨k1, k2, k3⟩ := h7 z
    rw [pi, r27, e 8 2 (by omega) (by omega), e 8 13 (by omega) (by omega), e3]
    exact ⟨SvR_mx x f0 (h4 8 (by omega)) k1, k2, k3⟩
theorem HQ_m (f : PFm σ σ') (h : HQ g l t σ) : HQ g l t σ' := by
  obtain ⟨⟨f1, f1'⟩, f2, f3⟩ := f
  unfold HQ at h ⊢
  rw [f1 1 (by decide) (by decide), (f2 3 (by omega)).2, (f2 1 (by omega)).2, (f2 2 (by omega)).2, (f2 3 (by omega)).1]
  exact h
theorem usI_m (f : PFm σ σ') (h8 : sPi σ 8 < 9) : usI σ' = usI σ := by
  have pi := PFm_pi f
  obtain ⟨⟨f1, f1'⟩, f2, f3⟩ := f
  unfold usI
  rw [pi, f1 2405 (by decide) (by decide), f1 2403 (by decide) (by decide), f1 (100 * (28 + sPi σ 8) + 2) (by omega) (by omega), f1 (100 * (28 + sPi σ 8) + 13) (by omega) (by omega)]
theorem VI_m (f : PFm σ σ') (h : VI g K K2 K3 K4 σ) : VI g K K2 K3 K4 σ' := by
  have us := usI_m f h.2.2.2.2.1
  have pi := PFm_pi f
  obtain ⟨⟨f1, f1'⟩, f2, f3⟩ := f
  unfold VI at h ⊢
  rw [us, pi, f1 1902 (by decide) (by decide), f1 1913 (by decide) (by decide), (f2 20 (by omega)).2, (f2 21 (by omega)).2, (f2 26 (by omega)).2, (f2 3 (by omega)).1, (f2 20 (by omega)).1, (f2 23 (by omega)).1, (f2 21 (by omega)).1, (f2 67 (by omega)).1, (f2 26 (by omega)).1]
  exact h
theorem BY_m (f : PFm σ σ') {P : Prop} (h : BY P σ) : BY P σ' := by
  obtain ⟨⟨f1, f1'⟩, f2, f3⟩ := f
  unfold BY at h ⊢
  rw [(f2 13 (by omega)).1, (f2 22 (by omega)).1, (f2 66 (by omega)).1, (f2 22 (by omega)).2, (f2 66 (by omega)).2, f1 1812 (by decide) (by decide), f1 1813 (by decide) (by decide), f1 1907 (by decide) (by decide)]
  exact h
theorem MIn_m (x : CtX c1 c2) (f : PFm σ σ') (ct : CtL c2 σ') (h : MIn c1 g l t K K2 K3 K4 B KB σ) : MIn c2 g l t K K2 K3 K4 B KB σ' := by
  obtain ⟨h1, h2, h3, h4, h5, h6, h7, h8, h9, h10, h11⟩ := h
  have f0 := f
  obtain ⟨⟨f1, f1'⟩, f2, f3⟩ := f
  refine ⟨HQ_m f0 h1, VI_m f0 h2, ct, ?_, SVK_m x f0 h5, h6, ?_, ?_, ?_, ?_, ?_⟩
  · rw [(f2 20 (by omega)).2, f1 1912 (by decide) (by decide), f1 1913 (by decide) (by decide)]
    exact POK_m x _ _ h4
  · rw [x.2.1, f1 1902 (by decide) (by decide)]; exact h7
  · rw [f1 1903 (by decide) (by decide), f1 1814 (by decide) (by decide)]; exact h8
  · rw [f1 1912 (by decide) (by decide)]; exact h9
  · rw [f1 1914 (by decide) (by decide)]; exact h10
  · rw [f1 1915 (by decide) (by decide)]; exact h11
theorem Mst_m (x : CtX c1 c2) (f : PFm σ σ') (ct : CtL c2 σ') (h : Mst c1 σ) : Mst c2 σ' := by
  obtain ⟨h1, h2, g, l, t, K, K2, K3, K4, mi, rn⟩ := h
  have f0 := f
  obtain ⟨⟨f1, f1'⟩, f2, f3⟩ := f
  refine ⟨BY_m f0 h1, by rw [f1 1902 (by decide) (by decide)]; exact h2, g, l, t, K, K2, K3, K4, ?_, fun z => ?_⟩
  · rw [x.2.1]
    exact MIn_m x f0 ct mi
  · rw [f1 1907 (by decide) (by decide)] at z
    rw [f1 1905 (by decide) (by decide), f1 1900 (by decide) (by decide), f1 1901 (by decide) (by decide), f1 1902 (by decide) (by decide), f1 1908 (by decide) (by decide)]
    exact ⟨(rn z).1, RUN_m x (rn z).2⟩
/-- values and the machine's rows, run or none -/
def Hmx (σ : CS) : Prop := ∃ (g : Nat → Prop) (l : List Nat) (t : Nat) (K4 : Nat → Option Int32), Hmb g l t K4 σ
theorem Hmx_m (f : PFm σ σ') (h : Hmx σ) : Hmx σ' := by
  obtain ⟨g, l, t, K4, h1, ⟨h2, h2', h2''⟩, h3, h4, h5, h6, h7⟩ := h
  have pi := PFm_pi f
  have f0 := f
  obtain ⟨⟨f1, f1'⟩, f2, f3⟩ := f
  refine ⟨g, l, t, K4, HQ_m f0 h1, ⟨by rw [(f2 20 (by omega)).2]; exact h2, by rw [(f2 21 (by omega)).2]; exact h2', by rw [f1 1814 (by decide) (by decide)]; exact h2''⟩, by rw [(f2 3 (by omega)).1, (f2 23 (by omega)).1]; exact h3, by rw [(f2 3 (by omega)).1, (f2 67 (by omega)).1]; exact h4, by rw [(f2 26 (by omega)).2]; exact h5, by rw [pi]; exact h6, by rw [pi]; exact h7⟩
theorem Hmx_of (h : Mst c σ) : Hmx σ := by
  obtain ⟨h1, h2, g, l, t, K, K2, K3, K4, mi, rn⟩ := h
  obtain ⟨m1, ⟨⟨v1, v2, v3⟩, v4, ⟨v5, v6, v7⟩, v8, v9, v10, v11, v12⟩, m3, m4, m5, m6, m7, m8, m9⟩ := mi
  exact ⟨g, l, t, K4, m1, ⟨v2, v6, by omega⟩, v4, v8, v11, m5.2.1, m5.2.2.1⟩
end DYQ
end JnS541
section JnS542
/-! The house: a program as it stands, and the machine over it. -/
section DYR
variable {σ σ' : CS} {c c1 c2 : Ct} {gl : List Gn} {pr : Nat → Nat} {b : Bool} {sz V j n : Nat} {XE : XEt} {L : LV}
/-- code as the machine has it -/
def cM (c : Ct) (b : Bool) (σ : CS) : Ct := (cdr b σ, cdn b σ, fun u => uN (σ.2.2.1 (pR13 b) u), fun u => uN (σ.2.2.1 (pR14 b) u), fun u => uN (σ.2.2.1 (pR18 b) u), tcK c, tcD c)
/-- a program that stands: names, units, code, entry, views -/
def PgI (gl : List Gn) (pr : Nat → Nat) (b : Bool) (sz V : Nat) (c : Ct) (σ : CS) : Prop := ∃ (E : En) (nu vg e0 : Nat) (MD : Nat → Nat → Nat), (E.1 = gl ∧ E.2.2.2.2.2.2 = pr) ∧ (TbR b (tbE 0 E) σ ∧ DE E 0 vg nu vg) ∧ (UTb b nu c MD σ ∧ σ.2.2.1 (pR18 b) 0 = nI vg) ∧ PgT E vg nu 0 vg c ∧ (tcN c = sz ∧ ∀ i, i < sz → cdr b σ i = tcC c i) ∧ (σ.1 (fP b 2) = nI e0 ∧ e0 < sz ∧ tcD c e0 = some (0, 0, (bsl + vg) :: Vl vg, 2)) ∧ ∀ i, i < V → ∃ pc rk, σ.2.2.1 64 i = nI pc ∧ pc < sz ∧ rk ≤ RK ∧ tcD c pc = some (41, 0, [bsl], rk)
theorem cdn_le (h : CdL b sz σ) : cdn b σ ≤ 36864 := by
  rcases h.2.2 with z | ⟨z1, z2⟩
  · omega
  · have e : cdn b σ = 1024 := by
      show sN σ (pR0 (sKd σ b)) = 1024
      rcases pR0_c (sKd σ b) with w | w
      · rw [w]; exact z1
      · rw [w]; exact z2
    omega
/-- the units told, as the rows have them -/
theorem ut_E {E : En} {nu vg : Nat} {MD : Nat → Nat → Nat} (ut : UTb b nu c MD σ) (pgu : PgU E vg nu 0 vg c) (ti : tcN c ≤ 36864) {v : Nat} (h1 : 1 ≤ v) (h2 : v ≤ nu) : uN (σ.2.2.1 (pR13 b) v) = tcE c v ∧ uN (σ.2.2.1 (pR14 b) v) = tcP c v ∧ uN (σ.2.2.1 (pR18 b) v) = tcF c v := by
  obtain ⟨i, rfl⟩ : ∃ i, v = i + 1 := ⟨v - 1, by omega⟩
  obtain ⟨⟨y1, y2, y3⟩, _⟩ := ut i (by omega)
  obtain ⟨_, ⟨a1, a2, a3, a4⟩, _⟩ := pgu.2.2.1 i (by omega)
  rw [y1, y2, y3]
  exact ⟨u_n (by omega), u_n (by omega), u_n (by omega)⟩
theorem ck_M (h : PgI gl pr b sz V c σ) (cd : CdL b sz σ) (h41 : σ.2.2.1 (pR18 b) 41 = 0) : CkA (cM c b σ) := by
  obtain ⟨E, nu, vg, e0, MD, ⟨e1, e2⟩, ⟨tb, de⟩, ⟨ut, r18⟩, ⟨ti, dn, pgu⟩, ⟨eN, hc⟩, en, vw⟩ := h
  have nu40 := de.2.1.2.2.1
  have vg60 := de.2.1.2.1
  refine ⟨cdn_le cd, pgu.2.1.2.2.1, fun pc u d r rk e => ?_⟩
  have e' : tcD c pc = some (u, d, r, rk) := e
  have lt : pc < tcN c := by
    rcases Nat.lt_trichotomy pc (tcN c) with z | z | z
    · exact z
    · rw [z, dn] at e'; cases e'
    · rw [ti.2.2.2.1 pc z] at e'; cases e'
  rcases ti.2.2.2.2 pc _ e' lt with z | ⟨ln, Rp, l1, l2, l3, l4, ok⟩
  · exact z.elim
  have cg : CtG noP (u % 100) nu c (cdr b σ, cdn b σ, fun v => if v = 41 then tcE c 41 else uN (σ.2.2.1 (pR13 b) v), fun v => if v = 41 then tcP c 41 else uN (σ.2.2.1 (pR14 b) v), fun v => uN (σ.2.2.1 (pR18 b) v), tcK c, tcD c) := by
    have f0 : uN (σ.2.2.1 (pR18 b) 0) = tcF c 0 := by rw [r18, u_n (by omega), pgu.2.1.1.2]
    refine ⟨by rw [eN]; exact cd.2.1, fun v hv => ?_, fun v hv => Iff.rfl, ⟨Nat.le_of_eq f0.symm, fun _ => f0⟩, fun p x ex => ⟨fun _ => ex, fun o => o.elim⟩⟩
    rcases hv with ⟨v1, v2⟩ | hv
    · obtain ⟨k1, k2, k3⟩ := ut_E ut pgu ti.1 v1 v2
      refine ⟨?_, ?_, k3⟩
      · show (if v = 41 then tcE c 41 else uN (σ.2.2.1 (pR13 b) v)) = _
        rw [if_neg (by omega)]; exact k1
      · show (if v = 41 then tcP c 41 else uN (σ.2.2.1 (pR14 b) v)) = _
        rw [if_neg (by omega)]; exact k2
    · subst hv
      refine ⟨(show (if (41 : Nat) = 41 then tcE c 41 else uN (σ.2.2.1 (pR13 b) 41)) = tcE c 41 from if_pos rfl), (show (if (41 : Nat) = 41 then tcP c 41 else uN (σ.2.2.1 (pR14 b) 41)) = tcP c 41 from if_pos rfl), ?_⟩
      show uN (σ.2.2.1 (pR18 b) 41) = tcF c 41
      rw [h41, pgu.2.1.2.2.2]; rfl
  have sh : ShR 0 (cdr b σ, cdn b σ, fun v => if v = 41 then tcE c 41 else uN (σ.2.2.1 (pR13 b) v), fun v => if v = 41 then tcP c 41 else uN (σ.2.2.1 (pR14 b) v), fun v => uN (σ.2.2.1 (pR18 b) v), tcK c, tcD c) (cM c b σ) := ⟨fun p x ex => ⟨Nat.zero_le _, ex⟩, rfl, fun v hv => ⟨if_neg (by omega), if_neg (by omega)⟩, fun _ => rfl, fun _ => Iff.rfl, fun i => rfl⟩
  have ck : CkP (cdr b σ, cdn b σ, fun v => if v = 41 then tcE c 41 else uN (σ.2.2.1 (pR13 b) v), fun v => if v = 41 then tcP c 41 else uN (σ.2.2.1 (pR14 b) v), fun v => uN (σ.2.2.1 (pR18 b) v), tcK c, tcD c) (pc + 0) := ok _ cg (fun i i1 i2 => hc i (by omega)) (fun _ _ o _ => o.elim)
  have t1 := ti.1
  exact mvd_P sh (fun x ex => ex) (by omega) ck u d r rk e
theorem en_M (h : PgI gl pr b sz V c σ) (cd : CdL b sz σ) : EnP (cM c b σ) σ b := by
  obtain ⟨E, nu, vg, e0, MD, ⟨e1, e2⟩, ⟨tb, de⟩, ⟨ut, r18⟩, ⟨ti, dn, pgu⟩, ⟨eN, hc⟩, ⟨en1, en2, en3⟩, vw⟩ := h
  have vg60 := de.2.1.2.1
  have f0 : tcF (cM c b σ) 0 = vg := by show uN (σ.2.2.1 (pR18 b) 0) = vg; rw [r18, u_n (by omega)]
  have ee : uN (σ.1 (fP b 2)) = e0 := by rw [en1, u_n (by have := ti.1; omega)]
  refine ⟨by rw [f0]; omega, ⟨pgu.2.1.2.1, by decide⟩, by rw [ee]; have := ti.1; omega, 2, by show 2 ≤ 40000; omega, ?_⟩
  rw [ee, f0]
  exact en3
theorem fs_M (h : PgI gl pr b sz V c σ) (cd : CdL b sz σ) : tcS (cM c b σ) 0 ∧ tcF (cM c b σ) 0 ≤ 200 := ⟨(en_M h cd).2.1, (en_M h cd).1⟩
theorem ct_M (e : sPr σ = some b) : CtL (cM c b σ) σ := ⟨b, e, rfl, rfl, fun u _ => ⟨rfl, rfl, rfl⟩⟩
theorem ev_M (h : PgI gl pr b sz V c σ) (h41 : σ.2.2.1 (pR18 b) 41 = 0) {i : Nat} (hi : i < V) : EnV (cM c b σ) (uN (σ.2.2.1 64 i)) := by
  obtain ⟨E, nu, vg, e0, MD, ⟨e1, e2⟩, ⟨tb, de⟩, ⟨ut, r18⟩, ⟨ti, dn, pgu⟩, ⟨eN, hc⟩, en, vw⟩ := h
  obtain ⟨pc, rk, v1, v2, v3, v4⟩ := vw i hi
  refine ⟨by show uN (σ.2.2.1 (pR18 b) 41) = 0; rw [h41]; rfl, rk, v3, ?_⟩
  rw [v1, u_n (by have := ti.1; omega)]
  exact v4
/-- what holds of the house between calls; XE: the names of its program -/
def IC (XE : XEt) (j : Nat) (σ : CS) : Prop := ∃ (n sz : Nat), (tOK σ ∧ σ.1 3701 = nI n ∧ n ≤ 20 * j ∧ σ.2.2.2.1 39 = lxW) ∧ (sOt σ = !(sCur σ) ∧ (∀ b, σ.2.2.1 (pR18 b) 41 = 0 ∧ σ.2.2.1 (pR14 b) 41 = 0) ∧ sN σ 41 ≤ 21504 ∧ (sN σ 42 = 64 ∨ sN σ 42 = 16384) ∧ CdL (sCur σ) sz σ ∧ 2 * sz + 7 * (n + 20 * (512 - j)) ≤ 71682) ∧ (uN (σ.1 7517) ≤ sN σ 66 ∧ uN (σ.1 7518) ≤ 2 ∧ uN (σ.1 7513) ≤ 8) ∧ (Hmx σ ∧ BY False σ) ∧ ((σ.1 7510 = 0 ∧ σ.1 7511 = 0 ∧ XE = none) ∨ (¬ σ.1 7510 = 0 ∧ ∃ (gl : List Gn) (pr : Nat → Nat) (c : Ct), XE = some (gl, pr) ∧ PgI gl pr (sCur σ) sz (uN (σ.1 7513)) c σ ∧ (¬ σ.1 7511 = 0 → sPr σ = some (sCur σ) ∧ Mst (cM c (sCur σ) σ) σ ∧ uN (σ.1 1903) ≤ 20000 * j)))
/-- both sides -/
def IB (j : Nat) (s : CS) (t : MS) : Prop := ∃ XE : XEt, IC XE j s ∧ RfJ XE j t ∧ tRel s t ∧ (s.1 7510 = 0 ↔ t.1 111 = 0) ∧ (s.1 7511 = 0 ↔ t.1 112 = 0) ∧ s.1 7513 = t.1 73
/-- the other program begins behind the current one -/
def EB (b : Bool) (sz : Nat) (σ σ1 : CS) : Prop := ((∀ j, ¬ (fP b 1 ≤ j ∧ j ≤ fP b 19) → σ1.1 j = σ.1 j) ∧ (σ1.1 (fP b 1) = nI sz ∧ σ1.1 (fP b 3) = 0 ∧ σ1.1 (fP b 11) = 0 ∧ σ1.1 (fP b 12) = 0 ∧ σ1.1 (fP b 19) = 0 ∧ σ1.1 (fP b 4) = 0) ∧ σ1.2.1 = σ.2.1) ∧ ((∀ k, ¬ (k = pR13 b ∨ k = pR14 b ∨ k = pR15 b ∨ k = pR16 b ∨ k = pR17 b ∨ k = pR18 b) → σ1.2.2.1 k = σ.2.2.1 k) ∧ (σ1.2.2.1 (pR18 b) 41 = σ.2.2.1 (pR18 b) 41 ∧ σ1.2.2.1 (pR14 b) 41 = σ.2.2.1 (pR14 b) 41) ∧ σ1.2.2.1 (pR16 b) 0 = 0 ∧ σ1.2.2.1 (pR18 b) 0 = 0) ∧ (σ1.2.2.2.1 = σ.2.2.2.1 ∧ sN σ1 = sN σ) ∧ ((sCur σ1 = sCur σ ∧ sOt σ1 = sOt σ ∧ sPr σ1 = sPr σ) ∧ (∀ d, sKd σ1 d = if d = b then sKd σ (!b) else sKd σ d) ∧ σ1.2.2.2.2.2.2 = σ.2.2.2.2.2.2)
theorem fP_B (b : Bool) : ∃ B, (B = 5000 ∨ B = 6800) ∧ (∀ j, fP b j = B + j) ∧ ∀ j, fP (!b) j = 11800 - B + j := by
  cases b
  · exact ⟨6800, Or.inr rfl, fun j => rfl, fun j => rfl⟩
  · exact ⟨5000, Or.inl rfl, fun j => rfl, fun j => rfl⟩
theorem c_empB (h0 : L.2.2.1 0 = b) (h1 : L.2.2.1 1 = !b) (hz : σ.1 (fP (!b) 1) = nI sz) : Tm (fun k => y_X7_emptyBehind__P__P k 0 L σ) (fun r => EB b sz σ r.2) := by
  refine Tm_suc (fun k => by rw [y_X7_emptyBehind__P__P]) ?_
  refine Tm_suc (fun k => by rw [y_X7_emptyBehind__P__P]) ?_
  refine Tm_suc (fun k => by rw [y_X7_emptyBehind__P__P]) ?_
  rw [h0, h1]
  obtain ⟨B, hB, fB, fB'⟩ := fP_B b
  have g1 := fB 1
  have g2 := fB 2
  have g3 := fB 3
  have g4 := fB 4
  have g11 := fB 11
  have g12 := fB 12
  have g19 := fB 19
  have nb : ¬ fP (!b) 1 = fP b 1 := by have := fB' 1; omega
  have y1 : (uI (uKd σ b (sKd σ (!b))) (fP b 1) ((uKd σ b (sKd σ (!b))).1 (fP (!b) 1))).1 (fP (!b) 1) = nI sz := by
    rw [uI_o nb]
    exact hz
  rw [y1, show (uKd σ b (sKd σ (!b))).1 (fP (!b) 1) = nI sz from hz]
  generalize hs : uI (uI (uI (uI (uI (uI (uKd σ b (sKd σ (!b))) (fP b 1) (nI sz)) (fP b 2) (nI sz)) (fP b 3) 0) (fP b 4) 0) (fP b 11) 0) (fP b 12) 0 = s
  have s2 : s.2 = (uKd σ b (sKd σ (!b))).2 := by rw [← hs]; rfl
  have sf : ∀ j, ¬ (fP b 1 ≤ j ∧ j ≤ fP b 19) → s.1 j = σ.1 j := fun j hj => by
    rw [← hs, uI_o (by omega), uI_o (by omega), uI_o (by omega), uI_o (by omega), uI_o (by omega), uI_o (by omega)]
    rfl
  have s1 : s.1 (fP b 1) = nI sz := by
    rw [← hs, uI_o (by omega), uI_o (by omega), uI_o (by omega), uI_o (by omega), uI_o (by omega), uI_s]
  have s3 : s.1 (fP b 3) = 0 := by
    rw [← hs, uI_o (by omega), uI_o (by omega), uI_o (by omega), uI_s]
  have s4 : s.1 (fP b 4) = 0 := by
    rw [← hs, uI_o (by omega), uI_o (by omega), uI_s]
  have s11 : s.1 (fP b 11) = 0 := by
    rw [← hs, uI_o (by omega), uI_s]
  have s12 : s.1 (fP b 12) = 0 := by
    rw [← hs, uI_s]
  refine Tm_oc (c_openUnit (L := lI (lB lZ 0 b) 1 0) (u := 0) (b := b) (by decide) rfl rfl) (fun r hr => Tm_some ?_)
  show EB b sz σ r.2
  rw [hr]
  refine ⟨⟨fun j hj => ?_, ⟨?_, ?_, ?_, ?_, opU_19, ?_⟩, ?_⟩, ⟨fun k hk => ?_, ⟨?_, ?_⟩, ?_, ?_⟩, ⟨?_, ?_⟩, ⟨⟨?_, ?_, ?_⟩, fun d => ?_, ?_⟩⟩
  · exact (opU_f (by omega)).trans (sf j hj)
  · exact (opU_f (by omega)).trans s1
  · exact (opU_f (by omega)).trans s3
  · exact (opU_f (by omega)).trans s11
  · exact (opU_f (by omega)).trans s12
  · exact (opU_f (by omega)).trans s4
  · rw [opU_2.1, s2]; rfl
  · rw [opU_k hk, s2]; rfl
  · rw [opU_18, upd_other (by decide), s2]; rfl
  · rw [opU_14, upd_other (by decide), s2]; rfl
  · rw [opU_16, upd_same]
  · rw [opU_18, upd_same]
  · rw [opU_2.2, s2]; rfl
  · show (opU b 0 (s.1 (fP b 1)) s).2.2.2.2.1 = _
    rw [opU_2.2, s2]; rfl
  · show (opU b 0 (s.1 (fP b 1)) s).2.2.2.2.2.1.1 = _
    rw [opU_2.2, s2]; rfl
  · show (opU b 0 (s.1 (fP b 1)) s).2.2.2.2.2.1.2.1 = _
    rw [opU_2.2, s2]; rfl
  · show (opU b 0 (s.1 (fP b 1)) s).2.2.2.2.2.1.2.2.1 = _
    rw [opU_2.2, s2]; rfl
  · show (opU b 0 (s.1 (fP b 1)) s).2.2.2.2.2.1.2.2.2.2 d = _
    rw [opU_2.2, s2]; rfl
  · rw [opU_2.2, s2]; rfl
end DYR
end JnS542
section JnS543
/-! The house: a program is moved down. -/
section DYS
variable {σ σ' τ : CS} {L : LV} {b : Bool} {N far e0 nu : Nat}
/-- what moving down leaves -/
def MvD (b : Bool) (N far e0 nu : Nat) (σ σ' : CS) : Prop := ((∀ j, ¬ (j = fP b 1 ∨ j = fP b 2) → σ'.1 j = σ.1 j) ∧ σ'.1 (fP b 1) = nI (N - far) ∧ σ'.1 (fP b 2) = nI (e0 - far)) ∧ σ'.2.1 = σ.2.1 ∧ ((∀ k, ¬ (k = pR0 (sKd σ b) ∨ k = pR13 b) → σ'.2.2.1 k = σ.2.2.1 k) ∧ (∀ i, i < N - far → σ'.2.2.1 (pR0 (sKd σ b)) i = σ.2.2.1 (pR0 (sKd σ b)) (i + far)) ∧ ∀ u, σ'.2.2.1 (pR13 b) u = if u ≤ nu then σ.2.2.1 (pR13 b) u - nI far else σ.2.2.1 (pR13 b) u) ∧ σ'.2.2.2 = σ.2.2.2
theorem c_moveDown (h0 : L.2.2.1 0 = b) (h1 : L.1 1 = nI far) (eN : σ.1 (fP b 1) = nI N) (ee : σ.1 (fP b 2) = nI e0) (eu : σ.1 (fP b 12) = nI nu) (hu : nu ≤ 40) (hf : far ≤ N ∧ far ≤ e0 ∧ e0 ≤ 36864) (hN : N ≤ cdn b σ) (hc : cdn b σ ≤ 36864) : Tm (fun k => y_X7_moveDown__P k 0 L σ) (fun r => MvD b N far e0 nu σ r.2) := by
  have fn := fP_ns b
  have f9 := fP_19 b
  have pr := pR_13 b
  have p0 := pR0_c (sKd σ b)
  have s1 : nI N - nI far = nI (N - far) := u_eq.2 (by rw [u_sub (by rw [u_n (by omega), u_n (by omega)]; omega), u_n (by omega), u_n (by omega), u_n (by omega)])
  have s2 : nI e0 - nI far = nI (e0 - far) := u_eq.2 (by rw [u_sub (by rw [u_n (by omega), u_n (by omega)]; omega), u_n (by omega), u_n (by omega), u_n (by omega)])
  refine Tm_suc (fun k => by rw [y_X7_moveDown__P]) ?_
  rw [h0, h1, eN, s1, uI_o (show fP b 2 ≠ fP b 1 by omega), ee, s2, uI_o (show fP b 1 ≠ fP b 2 by omega), uI_s]
  have cl1 : (nI far).toNatClampNeg = far := n_cl (p := far) (by omega)
  have cl2 : (nI (N - far)).toNatClampNeg = N - far := n_cl (p := N - far) (by omega)
  have ng1 : ¬ nI far < 0 := fun z => by have := (u_neg _).1 z; rw [u_n (by omega)] at this; omega
  have ng2 : ¬ nI (N - far) < 0 := fun z => by have := (u_neg _).1 z; rw [u_n (by omega)] at this; omega
  have hN' : N ≤ sN σ (pR0 (sKd σ b)) := hN
  refine Tm_chk ⟨ng1, by decide, ng2, ?_, ?_⟩ ?_
  · rw [cl1, cl2]
    show far + (N - far) ≤ sN σ (pR0 (sKd σ b))
    omega
  · rw [cl2]
    show 0 + (N - far) ≤ sN σ (pR0 (sKd σ b))
    omega
  rw [cl1, cl2]
  generalize hs : uF (uI (uI σ (fP b 1) (nI (N - far))) (fP b 2) (nI (e0 - far))) (pR0 (sKd (uI (uI σ (fP b 1) (nI (N - far))) (fP b 2) (nI (e0 - far))) b)) (va_cpy ((uI (uI σ (fP b 1) (nI (N - far))) (fP b 2) (nI (e0 - far))).2.2.1 (pR0 (sKd (uI (uI σ (fP b 1) (nI (N - far))) (fP b 2) (nI (e0 - far))) b))) ((uI (uI σ (fP b 1) (nI (N - far))) (fP b 2) (nI (e0 - far))).2.2.1 (pR0 (sKd (uI (uI σ (fP b 1) (nI (N - far))) (fP b 2) (nI (e0 - far))) b))) far (0 : Int32).toNatClampNeg (N - far)) = s
  have a1 : ∀ j, ¬ (j = fP b 1 ∨ j = fP b 2) → s.1 j = σ.1 j := fun j hj => by
    rw [← hs]
    show (uI (uI σ (fP b 1) (nI (N - far))) (fP b 2) (nI (e0 - far))).1 j = _
    rw [uI_o (by omega), uI_o (by omega)]
  have a2 : s.1 (fP b 1) = nI (N - far) := by
    rw [← hs]
    show (uI (uI σ (fP b 1) (nI (N - far))) (fP b 2) (nI (e0 - far))).1 (fP b 1) = _
    rw [uI_o (by omega), uI_s]
  have a3 : s.1 (fP b 2) = nI (e0 - far) := by
    rw [← hs]
    show (uI (uI σ (fP b 1) (nI (N - far))) (fP b 2) (nI (e0 - far))).1 (fP b 2) = _
    rw [uI_s]
  have a4 : s.2.1 = σ.2.1 := by rw [← hs]; rfl
  have a5 : ∀ k, ¬ k = pR0 (sKd σ b) → s.2.2.1 k = σ.2.2.1 k := fun k hk => by
    rw [← hs]
    exact updG_other hk
  have a6 : ∀ i, i < N - far → s.2.2.1 (pR0 (sKd σ b)) i = σ.2.2.1 (pR0 (sKd σ b)) (i + far) := fun i hi => by
    rw [← hs]
    show updG σ.2.2.1 (pR0 (sKd σ b)) (va_cpy (σ.2.2.1 (pR0 (sKd σ b))) (σ.2.2.1 (pR0 (sKd σ b))) far (0 : Int32).toNatClampNeg (N - far)) (pR0 (sKd σ b)) i = _
    rw [updG_same]
    show (if 0 ≤ i ∧ i < 0 + (N - far) then σ.2.2.1 (pR0 (sKd σ b)) (far + (i - 0)) else σ.2.2.1 (pR0 (sKd σ b)) i) = _
    rw [if_pos (by omega), Nat.sub_zero, Nat.add_comm]
  have a7 : s.2.2.2 = σ.2.2.2 := by rw [← hs]; rfl
  have lp : ∀ (d i : Nat) (L' : LV) (τ : CS), d + i = nu + 1 → L'.2.2.1 0 = b → L'.1 1 = nI far → L'.1 2 = nI i → τ.1 = s.1 → τ.2.1 = s.2.1 → (∀ k, ¬ k = pR13 b → τ.2.2.1 k = s.2.2.1 k) → (∀ u, τ.2.2.1 (pR13 b) u = if u < i then s.2.2.1 (pR13 b) u - nI far else s.2.2.1 (pR13 b) u) → τ.2.2.2 = s.2.2.2 → Tm (fun k => y_X7_moveDown__P k 2 L' τ) (fun r => MvD b N far e0 nu σ r.2) := by
    intro d
    induction d with
    | zero =>
      intro i L' τ hd k0 k1 k2 e1 e2 e3 e4 e5
      refine Tm_suc (fun k => by rw [y_X7_moveDown__P]) ?_
      rw [k0, k2, e1, a1 _ (by omega), eu]
      refine Tm_yes ((n_lt (by omega) (by omega)).mpr (by omega)) ?_
      refine Tm_suc (fun k => by rw [y_X7_moveDown__P]) ?_
      refine Tm_some ⟨⟨fun j hj => by rw [e1]; exact a1 j hj, by rw [e1]; exact a2, by rw [e1]; exact a3⟩, by rw [e2]; exact a4, ⟨fun k hk => by rw [e3 k (fun z => hk (Or.inr z))]; exact a5 k (fun z => hk (Or.inl z)), fun i hi => by rw [e3 _ (by omega)]; exact a6 i hi, fun u => ?_⟩, by rw [e5]; exact a7⟩
      rw [e4 u, a5 _ (by omega)]
      by_cases z : u ≤ nu
      · rw [if_pos z, if_pos (by omega)]
      · rw [if_neg z, if_neg (by omega)]
    | succ d ih =>
      intro i L' τ hd k0 k1 k2 e1 e2 e3 e4 e5
      have ix : ¬ (nI i < 0 ∨ 42 ≤ (nI i).toNatClampNeg) := n_in (by omega) (by omega)
      refine Tm_suc (fun k => by rw [y_X7_moveDown__P]) ?_
      rw [k0, k1, k2, e1, a1 _ (by omega), eu]
      refine Tm_no (fun z => absurd ((n_lt (by omega) (by omega)).mp z) (by omega)) ?_
      refine Tm_chk ix (Tm_chk ix ?_)
      rw [n_cl (p := i) (by omega), n_add1]
      refine ih (i + 1) _ _ (by omega) k0 k1 rfl e1 e2 (fun k hk => by rw [uA_k hk]; exact e3 k hk) (fun u => ?_) e5
      rw [uA_r]
      by_cases z : u = i
      · rw [z, upd_same, if_pos (by omega), e4 i, if_neg (by omega)]
      · rw [upd_other z, e4 u]
        by_cases w : u < i
        · rw [if_pos w, if_pos (by omega)]
        · rw [if_neg w, if_neg (by omega)]
  refine Tm_suc (fun k => by rw [y_X7_moveDown__P]) ?_
  refine lp (nu + 1) 0 (lI L 2 0) s (by omega) h0 h1 rfl rfl rfl (fun _ _ => rfl) (fun u => ?_) rfl
  rw [if_neg (by omega)]
end DYS
end JnS543
section JnS544
/-! The house: what program leaves. -/
section DYT
variable {σ σ1 σ2 s : CS} {c : Ct} {gl : List Gn} {pr : Nat → Nat} {b cu : Bool} {sz V j n : Nat} {XE : XEt} {L : LV} {v : Int32}
/-- all but tape, parser, code and the other program's rows -/
def PgFr (b : Bool) (σ s : CS) : Prop := ((∀ j, ¬ (j = 404 ∨ (3701 ≤ j ∧ j ≤ 3704) ∨ (4003 ≤ j ∧ j ≤ 4020) ∨ (fP b 1 ≤ j ∧ j ≤ fP b 19) ∨ (7510 ≤ j ∧ j ≤ 7513)) → s.1 j = σ.1 j) ∧ ∀ j, ¬ (j = 3705 ∨ j = 3706) → s.2.1 j = σ.2.1 j) ∧ ((∀ k, ¬ ((5 ≤ k ∧ k ≤ 11) ∨ k = 38 ∨ (41 ≤ k ∧ k ≤ 43) ∨ k = 51 ∨ pRw b k) → s.2.2.1 k = σ.2.2.1 k) ∧ (∀ k, ¬ (k = 38 ∨ (41 ≤ k ∧ k ≤ 43) ∨ k = 51) → sN s k = sN σ k) ∧ ∀ k, ¬ (k = pR5 b ∨ k = pR6 b) → s.2.2.2.1 k = σ.2.2.2.1 k) ∧ sPr s = sPr σ ∧ s.2.2.2.2.2.2 = σ.2.2.2.2.2.2
theorem pRw_n (b : Bool) {k : Nat} (h : k = 1 ∨ k = 2 ∨ k = 3 ∨ k = 13 ∨ (20 ≤ k ∧ k ≤ 27) ∨ (64 ≤ k ∧ k ≤ 67)) : ¬ pRw b k := fun z => by
  have := pR_13 b
  unfold pRw at z
  omega
theorem pRw_m (b : Bool) : ∀ k, k = pR7 (!b) ∨ k = pR8 (!b) ∨ k = pR9 (!b) ∨ k = pR10 (!b) ∨ k = pR13 (!b) ∨ k = pR14 (!b) ∨ k = pR15 (!b) ∨ k = pR18 (!b) → ¬ ((5 ≤ k ∧ k ≤ 11) ∨ k = 38 ∨ (41 ≤ k ∧ k ≤ 43) ∨ k = 51 ∨ pRw b k) := by
  cases b
  · intro k h z
    unfold pRw at z
    have e : (pR5 false = 44 ∧ pR6 false = 45 ∧ pR7 false = 46 ∧ pR8 false = 47 ∧ pR9 false = 48 ∧ pR10 false = 49 ∧ pR13 false = 69 ∧ pR14 false = 70 ∧ pR15 false = 71 ∧ pR16 false = 72 ∧ pR17 false = 73 ∧ pR18 false = 74) ∨ (pR5 false = 52 ∧ pR6 false = 53 ∧ pR7 false = 54 ∧ pR8 false = 55 ∧ pR9 false = 56 ∧ pR10 false = 57 ∧ pR13 false = 58 ∧ pR14 false = 59 ∧ pR15 false = 60 ∧ pR16 false = 61 ∧ pR17 false = 62 ∧ pR18 false = 63) := by decide
    have e' : pR7 (!false) = pR7 true ∧ pR8 (!false) = pR8 true ∧ pR9 (!false) = pR9 true ∧ pR10 (!false) = pR10 true ∧ pR13 (!false) = pR13 true ∧ pR14 (!false) = pR14 true ∧ pR15 (!false) = pR15 true ∧ pR18 (!false) = pR18 true := by decide
    have d : pR7 false ≠ pR7 true := by decide
    have e2 : (pR7 true = 46 ∧ pR8 true = 47 ∧ pR9 true = 48 ∧ pR10 true = 49 ∧ pR13 true = 69 ∧ pR14 true = 70 ∧ pR15 true = 71 ∧ pR18 true = 74) ∨ (pR7 true = 54 ∧ pR8 true = 55 ∧ pR9 true = 56 ∧ pR10 true = 57 ∧ pR13 true = 58 ∧ pR14 true = 59 ∧ pR15 true = 60 ∧ pR18 true = 63) := by decide
    omega
  · intro k h z
    unfold pRw at z
    have e : (pR5 true = 44 ∧ pR6 true = 45 ∧ pR7 true = 46 ∧ pR8 true = 47 ∧ pR9 true = 48 ∧ pR10 true = 49 ∧ pR13 true = 69 ∧ pR14 true = 70 ∧ pR15 true = 71 ∧ pR16 true = 72 ∧ pR17 true = 73 ∧ pR18 true = 74) ∨ (pR5 true = 52 ∧ pR6 true = 53 ∧ pR7 true = 54 ∧ pR8 true = 55 ∧ pR9 true = 56 ∧ pR10 true = 57 ∧ pR13 true = 58 ∧ pR14 true = 59 ∧ pR15 true = 60 ∧ pR16 true = 61 ∧ pR17 true = 62 ∧ pR18 true = 63) := by decide
    have e' : pR7 (!true) = pR7 false ∧ pR8 (!true) = pR8 false ∧ pR9 (!true) = pR9 false ∧ pR10 (!true) = pR10 false ∧ pR13 (!true) = pR13 false ∧ pR14 (!true) = pR14 false ∧ pR15 (!true) = pR15 false ∧ pR18 (!true) = pR18 false := by decide
    have d : pR7 false ≠ pR7 true := by decide
    have e2 : (pR7 false = 46 ∧ pR8 false = 47 ∧ pR9 false = 48 ∧ pR10 false = 49 ∧ pR13 false = 69 ∧ pR14 false = 70 ∧ pR15 false = 71 ∧ pR18 false = 74) ∨ (pR7 false = 54 ∧ pR8 false = 55 ∧ pR9 false = 56 ∧ pR10 false = 57 ∧ pR13 false = 58 ∧ pR14 false = 59 ∧ pR15 false = 60 ∧ pR18 false = 63) := by decide
    omega
theorem pR56_m (b : Bool) : ¬ (pR5 (!b) = pR5 b ∨ pR5 (!b) = pR6 b) ∧ ¬ (pR6 (!b) = pR5 b ∨ pR6 (!b) = pR6 b) ∧ ¬ (39 = pR5 b ∨ 39 = pR6 b) := by cases b <;> decide
theorem PgFr_m (h : PgFr b σ s) : PFm σ s := by
  obtain ⟨⟨h1, h2⟩, ⟨h3, h4, h5⟩, h6, h7⟩ := h
  obtain ⟨B, hB, fB, fB'⟩ := fP_B b
  have g1 := fB 1
  have g19 := fB 19
  refine ⟨⟨fun j hj n4 => h1 j (by omega), fun j hj => h2 j (by omega)⟩, fun k hk => ⟨h3 k (fun z => ?_), h4 k (by omega)⟩, h7⟩
  have w := pRw_n b (k := k) (by omega)
  rcases z with z | z | z | z | z
  · omega
  · omega
  · omega
  · omega
  · exact w z
/-- fields of the other program -/
theorem PgFr_f (h : PgFr b σ s) {i : Nat} (hi : 1 ≤ i ∧ i ≤ 19) : s.1 (fP (!b) i) = σ.1 (fP (!b) i) := by
  obtain ⟨B, hB, fB, fB'⟩ := fP_B b
  have g1 := fB 1
  have g19 := fB 19
  have g := fB' i
  exact h.1.1 _ (by omega)
/-- the program that stands is left alone -/
theorem PgFr_pg (h : PgFr b σ s) (hc : ∀ i, i < sz → cdr (!b) s i = cdr (!b) σ i) (p : PgI gl pr (!b) sz V c σ) : PgI gl pr (!b) sz V c s := by
  obtain ⟨E, nu, vg, e0, MD, e, ⟨tb, de⟩, ⟨ut, r18⟩, pg, ⟨eN, cd⟩, ⟨en1, en2, en3⟩, vw⟩ := p
  have rm := pRw_m b
  have m5 := pR56_m b
  have rr : ∀ k, k = pR7 (!b) ∨ k = pR8 (!b) ∨ k = pR9 (!b) ∨ k = pR10 (!b) ∨ k = pR13 (!b) ∨ k = pR14 (!b) ∨ k = pR15 (!b) ∨ k = pR18 (!b) → s.2.2.1 k = σ.2.2.1 k := fun k hk => h.2.1.1 k (rm k hk)
  have e64 : s.2.2.1 64 = σ.2.2.1 64 := h.2.1.1 64 (fun z => by
    have w := pRw_n b (k := 64) (by omega)
    rcases z with z | z | z | z | z
    · omega
    · omega
    · omega
    · omega
    · exact w z)
  refine ⟨E, nu, vg, e0, MD, e, ⟨TbR_s tb (PgFr_f h (by omega)) (h.2.1.2.2 _ m5.1) (h.2.1.2.2 _ m5.2.1) (rr _ (by simp)) (rr _ (by simp)) (rr _ (by simp)) (rr _ (by simp)), de⟩, ⟨fun i hi => ?_, by rw [rr (pR18 (!b)) (by simp)]; exact r18⟩, pg, ⟨eN, fun i hi => (hc i hi).trans (cd i hi)⟩, ⟨(PgFr_f h (by omega)).trans en1, en2, en3⟩, fun i hi => by rw [e64]; exact vw i hi⟩
  rw [rr (pR13 (!b)) (by simp), rr (pR14 (!b)) (by simp), rr (pR18 (!b)) (by simp), rr (pR15 (!b)) (by simp)]
  exact ut i hi
theorem PgFr_ct (h : PgFr b σ s) : CtX (cM c (!b) σ) (cM c (!b) s) := by
  have rm := pRw_m b
  refine ⟨?_, ?_, rfl, fun p x e => e⟩
  · show (fun u => uN (s.2.2.1 (pR14 (!b)) u)) = fun u => uN (σ.2.2.1 (pR14 (!b)) u)
    rw [h.2.1.1 (pR14 (!b)) (rm _ (by simp))]
  · show (fun u => uN (s.2.2.1 (pR18 (!b)) u)) = fun u => uN (σ.2.2.1 (pR18 (!b)) u)
    rw [h.2.1.1 (pR18 (!b)) (rm _ (by simp))]
theorem PgFr_of (a : EB b sz σ σ1) (d : RdK b sz σ1 σ2) (f1 : ∀ j, ¬ (j = 3701 ∨ (7510 ≤ j ∧ j ≤ 7513)) → s.1 j = σ2.1 j) (f2 : s.2.1 = σ2.2.1) (f3 : s.2.2.1 = σ2.2.2.1) (f4 : s.2.2.2.1 = σ2.2.2.2.1) (f5 : sN s = sN σ2) (f6 : sPr s = sPr σ2) (f7 : s.2.2.2.2.2.2 = σ2.2.2.2.2.2.2) : PgFr b σ s := by
  obtain ⟨⟨a1, a2, a3⟩, ⟨a4, a5, a6⟩, ⟨a7, a8⟩, ⟨⟨a9, a10, a11⟩, a12, a13⟩⟩ := a
  obtain ⟨⟨d1, d2⟩, ⟨d3, d4, d5⟩, ⟨⟨d6, d7, d8⟩, d9, d10⟩, d11, d12, d13, d14, d15⟩ := d
  refine ⟨⟨fun j hj => ?_, fun j hj => ?_⟩, ⟨fun k hk => ?_, fun k hk => ?_, fun k hk => ?_⟩, ?_, ?_⟩
  · exact (f1 j (by omega)).trans ((d1 j (by omega)).trans (a1 j (by omega)))
  · rw [f2, d2 j hj, a3]
  · rw [f3, d3 k hk]
    exact a4 k (fun z => hk (Or.inr (Or.inr (Or.inr (Or.inr (by unfold pRw; omega))))))
  · rw [f5, d4 k hk, a8]
  · rw [f4, d5 k hk, a7]
  · rw [f6, d8, a11]
  · rw [f7, d10, a13]
end DYT
end JnS544

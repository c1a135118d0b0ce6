/-! Between calls (reference), with the names of the program told (made by jy.py). -/
abbrev XEt := Option (List Gn × (Nat → Nat))
def RfR (XE : XEt) (TX u p : Nat → Int32) (nX : Nat) (g : PRG) (t : ST) (KB : Nat) (S : Nat → Nat → Nat → Nat → Prop) (j : Nat) (τ : MS) : Prop := (nX ≤ 32768 ∧ τ.1 115 = nI nX ∧ ∀ i, i < nX → τ.2.2 53 i = TX i) ∧ (gPrg TX nX (g0 TX nX u p) = some (some (g, t)) ∧ XE = some (g.2.1.1, g.2.1.2.2.2.2.2.2)) ∧ PgO g t KB S ∧ PG g.2.1.1 g.2.1.2.2.2.2.2.2 t.2.2.2.2.1 τ ∧ VwO g.2.1.1 g.2.1.2.2.2.2.2.2 t.2.2.2.2.1 τ ∧ ∃ (C K : Nat → Int32) (z0 x66 : Int32) (sd : Int64), RIc (TPg g t KB) (FNg g) C K (hd t.2.2.2.1) z0 x66 0 sd τ ∧ (¬ τ.1 112 = 0 → ∃ m, m ≤ 20000 * j ∧ PSt (TPg g t KB) (FNg g) S C K (hd t.2.2.2.1) z0 x66 0 sd m τ)
def RfOx (XE : XEt) (j : Nat) (τ : MS) : Prop := ∃ TX u p nX g t KB S, RfR XE TX u p nX g t KB S j τ
def RfJ (XE : XEt) (j : Nat) (τ : MS) : Prop := RfB τ ∧ ((τ.1 111 = 0 ∧ τ.1 112 = 0 ∧ XE = none) ∨ (¬ τ.1 111 = 0 ∧ RfOx XE j τ))
/-- what most calls leave as it is -/
def KpT (σ ω : MS) : Prop := (ω.1 4 = σ.1 4 ∧ ∀ i : Nat, (i : Int) < (σ.1 4).toInt → ω.2.2 3 i = σ.2.2 3 i) ∧ ω.1 73 = σ.1 73 ∧ ω.1 111 = σ.1 111 ∧ ω.1 112 = σ.1 112
theorem KpT_2 {σ : MS} {x : Int32} : KpT σ (mSc σ 2 x) := ⟨⟨rfl, fun _ _ => rfl⟩, rfl, rfl, rfl⟩
section RJL
variable {σ ω : MS} {j : Nat} {L : Nat → Int32} {XE : XEt}
theorem KpT_kn (h : kn ω = kn σ) (h2 : kq ω = kq σ) : KpT σ ω := by
  obtain ⟨kr, kj⟩ := kn_e h
  refine ⟨⟨kj 4 (by omega), fun i _ => by rw [kr 3 (by omega)]⟩, kj 73 (by omega), kj 111 (by omega), ?_⟩
  unfold kq at h2
  simp only [Prod.mk.injEq] at h2
  exact h2.2.2.2.2.2.2.2.2
theorem Tm_kq {g : Nat → Option (Int32 × MS)} {P : Int32 × MS → Prop} (t : Tm g P) (h : ∀ k r, g k = some r → kq r.2 = kq σ) : Tm g (fun r => P r ∧ kq r.2 = kq σ) := by
  obtain ⟨r, k0, h1, h2⟩ := t
  exact ⟨r, k0, h1, h2, h k0 r (h1 k0 (Nat.le_refl _))⟩
theorem RfJ_run {TX u p : Nat → Int32} {nX : Nat} {g : PRG} {t : ST} {KB : Nat} {S : Nat → Nat → Nat → Nat → Prop} {C K C' K' : Nat → Int32} {z0 x66 z0' x66' : Int32} {sd sd' : Int64} (hB : RfB σ) (h1 : nX ≤ 32768 ∧ σ.1 115 = nI nX ∧ ∀ i, i < nX → σ.2.2 53 i = TX i) (h2 : gPrg TX nX (g0 TX nX u p) = some (some (g, t)) ∧ XE = some (g.2.1.1, g.2.1.2.2.2.2.2.2)) (ok : PgO g t KB S) (pg : PG g.2.1.1 g.2.1.2.2.2.2.2.2 t.2.2.2.2.1 σ) (vw : VwO g.2.1.1 g.2.1.2.2.2.2.2.2 t.2.2.2.2.1 σ) (ri0 : RIc (TPg g t KB) (FNg g) C' K' (hd t.2.2.2.1) z0' x66' 0 sd' σ) (h111 : ¬ σ.1 111 = 0) (hk : kn ω = kn σ) (ri : RIc (TPg g t KB) (FNg g) C K (hd t.2.2.2.1) z0 x66 0 sd ω) (ps : ¬ ω.1 112 = 0 → ∃ m, m ≤ 20000 * (j + 1) ∧ PSt (TPg g t KB) (FNg g) S C K (hd t.2.2.2.1) z0 x66 0 sd m ω) : RfJ XE (j + 1) ω := by
  obtain ⟨kr, kj⟩ := kn_e hk
  obtain ⟨_, _, _, r4, r5, _, ⟨n, r7⟩, r8, r9⟩ := hB
  obtain ⟨q1, q2, q3, q4, _, q6, q7, q8, q9, q10⟩ := id ri
  refine ⟨⟨q1, q3, by rw [q4.2]; exact q4.1, fun p hp => by rw [kr 18 (by omega)]; exact r4 p hp, (kr 1 (by omega)).trans r5, q9, ⟨n, ⟨(kj 4 (by omega)).trans r7.1.1, r7.1.2⟩, rfl, fun i hi => by rw [kr 3 (by omega)]; exact r7.2.2 i hi⟩, by rw [kj 120 (by omega)]; exact r8, by rw [kj 73 (by omega)]; exact r9⟩, Or.inr ⟨by rw [kj 111 (by omega)]; exact h111, TX, u, p, nX, g, t, KB, S, ⟨h1.1, (kj 115 (by omega)).trans h1.2.1, fun i hi => by rw [kr 53 (by omega)]; exact h1.2.2 i hi⟩, h2, ok, PG_run pg ri0.2.1 q2 ok.1.2.2.1.1 ok.1.2.2.1.2.1 hk, VwO_c (kj 73 (by omega)) (kr 54 (by omega)) (kr 55 (by omega)) vw, C, K, z0, x66, sd, ri, ps⟩⟩
theorem RfJ_2 {x : Int32} (h : RfJ XE j σ) : RfJ XE (j + 1) (mSc σ 2 x) := by
  obtain ⟨⟨⟨g0, l0, B0, h0, X0, m0⟩, r2, r3, r4, r5, r6, ⟨n, r7⟩, r8, r9⟩, hP⟩ := h
  refine ⟨⟨⟨g0, l0, B0, h0, X0, MI_c m0 rfl rfl rfl rfl rfl⟩, r2, r3, r4, r5, r6, ⟨n, r7⟩, r8, r9⟩, hP.imp id (fun z => ?_)⟩
  obtain ⟨z1, TX, u, p, nX, g, t, KB, S, a1, a2, a3, a4, a5, C, K, z0, x66, sd, ri, ps⟩ := z
  refine ⟨z1, TX, u, p, nX, g, t, KB, S, a1, a2, a3, a4, a5, C, K, z0, x66, sd, RIc_2 ri, fun y => ?_⟩
  obtain ⟨m, m1, m2⟩ := ps y
  exact ⟨m, by omega, PSt_2 m2⟩
theorem rj_step (hj : j < 512) (h : RfJ XE j σ) : Tm (fun k => x_step k 0 L σ) (fun r => RfJ XE (j + 1) r.2 ∧ KpT σ r.2) := by
  by_cases c : σ.1 112 = 0 ∨ L 1 < 0 ∨ ¬ L 1 ≤ 20000
  · exact Tm_mono (s_stepN c) (fun r hr => by rw [hr]; exact ⟨RfJ_2 h, KpT_2⟩)
  have c0 : ¬ σ.1 112 = 0 := fun z => c (Or.inl z)
  obtain ⟨q, e1, e2⟩ := n_ofnn (fun z => c (Or.inr (Or.inl z)) : ¬ L 1 < 0)
  have hq : q ≤ 20000 := by
    have : nI q ≤ nI 20000 := by
      refine Classical.byContradiction (fun z => c (Or.inr (Or.inr (fun y => z ?_))))
      rw [e1] at y; exact y
    exact (n_le e2 (by decide)).mp this
  obtain ⟨hB, hP⟩ := h
  obtain ⟨z1, TX, u, p, nX, g, t, KB, S, a1, a2, a3, a4, a5, C, K, z0, x66, sd, ri, ps⟩ := hP.resolve_left (fun z => c0 z.2.1)
  obtain ⟨m, m1, m2⟩ := ps c0
  refine Tm_mono (Tm_kq (σ := σ) (Tm_kn (σ := σ) (s_step a3.1.2.1.1 a3.1.2.1.2 a3.1.1.1 a3.1.1.2.1 a3.1.1.2.2 hq (by omega) c0 m2 e1) (fun k r hr => kn_step k 0 L σ r hr)) (fun k r hr => kq_step k 0 L σ r hr)) (fun r hr => ?_)
  obtain ⟨⟨⟨m', y1, y2, y3, _⟩, hk⟩, hq2⟩ := hr
  exact ⟨RfJ_run hB a1 a2 a3 a4 a5 ri z1 hk y3.1 (fun _ => ⟨m', by omega, y3⟩), KpT_kn hk hq2⟩
theorem rj_back (hj : j < 512) (h : RfJ XE j σ) : Tm (fun k => x_back k 0 L σ) (fun r => RfJ XE (j + 1) r.2 ∧ KpT σ r.2) := by
  by_cases c : σ.1 112 = 0 ∨ L 1 < 0 ∨ ¬ L 1 ≤ σ.1 103
  · exact Tm_mono (s_backN c) (fun r hr => by rw [hr]; exact ⟨RfJ_2 h, KpT_2⟩)
  have c0 : ¬ σ.1 112 = 0 := fun z => c (Or.inl z)
  obtain ⟨q, e1, e2⟩ := n_ofnn (fun z => c (Or.inr (Or.inl z)) : ¬ L 1 < 0)
  obtain ⟨hB, hP⟩ := h
  obtain ⟨z1, TX, u, p, nX, g, t, KB, S, a1, a2, a3, a4, a5, C, K, z0, x66, sd, ri, ps⟩ := hP.resolve_left (fun z => c0 z.2.1)
  obtain ⟨m, m1, m2⟩ := ps c0
  have hq : q ≤ m := by
    have : nI q ≤ nI m := by
      refine Classical.byContradiction (fun z => c (Or.inr (Or.inr (fun y => z ?_))))
      rw [e1, m2.2.1.1] at y; exact y
    exact (n_le e2 (by omega)).mp this
  refine Tm_mono (Tm_kq (σ := σ) (Tm_kn (σ := σ) (s_backP a3.1.2.1.1 a3.1.2.1.2 (by omega) c0 hq m2 e1) (fun k r hr => kn_back k 0 L σ r hr)) (fun k r hr => kq_back k 0 L σ r hr)) (fun r hr => ?_)
  obtain ⟨⟨⟨_, y3⟩, hk⟩, hq2⟩ := hr
  exact ⟨RfJ_run hB a1 a2 a3 a4 a5 ri z1 hk y3.1 (fun _ => ⟨m - q, by omega, y3⟩), KpT_kn hk hq2⟩
theorem rj_start {J : Nat → Int64} (h : RfJ XE j σ) : Tm (fun k => x_start k 0 L J σ) (fun r => RfJ XE (j + 1) r.2 ∧ r.2.1 2 = (if σ.1 111 = 0 then 1 else 0) ∧ (r.2.1 4 = σ.1 4 ∧ r.2.2.2 3 = σ.2.2 3) ∧ r.2.1 73 = σ.1 73 ∧ r.2.1 111 = σ.1 111 ∧ (r.2.1 112 = 0 ↔ σ.1 111 = 0)) := by
  by_cases c : σ.1 111 = 0
  · rw [if_pos c]
    have n112 : σ.1 112 = 0 := h.2.elim (fun z => z.2.1) (fun z => absurd c z.1)
    refine Tm_suc (fun k => by rw [x_start]) ?_
    refine Tm_ite (fun _ => ?_) (fun z => absurd c z)
    refine Tm_suc (fun k => by rw [x_start]) ?_
    refine Tm_suc (fun k => by rw [x_start]) ?_
    refine Tm_ob (s_good _ _) (fun r hr => ?_)
    rw [hr]
    refine Tm_ite (fun _ => ?_) (fun z => absurd rfl z)
    exact Tm_some ⟨RfJ_2 h, rfl, ⟨rfl, rfl⟩, rfl, rfl, ⟨fun _ => c, fun _ => n112⟩⟩
  · rw [if_neg c]
    obtain ⟨hB, hP⟩ := h
    obtain ⟨z1, TX, u, p, nX, g, t, KB, S, a1, a2, a3, a4, a5, C, K, z0, x66, sd, ri, ps⟩ := hP.resolve_left (fun z => c z.1)
    have two : Tm (fun k => x_start k 0 L J σ) (fun r => r.2.1 2 = 0) := by
      refine Tm_suc (fun k => by rw [x_start]) ?_
      refine Tm_ite (fun z => absurd z c) (fun _ => ?_)
      refine Tm_suc (fun k => by rw [x_start]) ?_
      refine Tm_ob (s_good _ _) (fun r hr => ?_)
      rw [hr]
      refine Tm_ite (fun z => absurd (show (1 : Int32) = 0 from z) (by decide)) (fun _ => ?_)
      show Tm (fun k => x_start k 3 (upd L 100 0) J (mSc σ 2 0)) _
      refine Tm_suc (fun k => by rw [x_start]) ?_
      refine Tm_suc (fun k => by rw [x_start]) ?_
      refine Tm_suc (fun k => by rw [x_start]) ?_
      have h21 : σ.2.2 21 0 = nI t.2.1 := (ri.2.1.2.1 21 0 (by omega) (by omega) (by omega)).trans a3.1.2.1.1
      refine Tm_ob (E_rs1 (σ := mSc (mSd (mSc σ 2 0) (J 1)) 112 1) (ns := t.2.1) h21 a3.1.2.1.2) (fun r1 hr1 => ?_)
      refine Tm_some ?_
      show r1.2.1 2 = 0
      rw [hr1.2.2.2.2.2.1 2 (by omega)]
      show upd (upd σ.1 2 0) 112 1 2 = 0
      rw [upd_other (by decide), upd_same]
    refine Tm_mono (Tm_and (Tm_kn (σ := σ) (s_start (S := S) (s := J 1) a3.1.2.1.1 a3.1.2.1.2 a3.2.1 c ri rfl) (fun k r hr => kn_start k 0 L J σ r hr)) two) (fun r hr => ?_)
    obtain ⟨⟨⟨_, y3, y4⟩, hk⟩, y5⟩ := hr
    exact ⟨RfJ_run hB a1 a2 a3 a4 a5 ri z1 hk y3.1 (fun _ => ⟨0, by omega, y3⟩), y5, ⟨(kn_e hk).2 4 (by omega), (kn_e hk).1 3 (by omega)⟩, (kn_e hk).2 73 (by omega), (kn_e hk).2 111 (by omega), ⟨fun z => absurd (y4.symm.trans z) (by decide), fun z => absurd z c⟩⟩
theorem RfJ_sm (h : RfJ XE j σ) (hs : SmR σ ω) (hM : ∃ (g : Nat → Prop) (l : List Nat) (B h X : Nat), MI 0 X g l B h ω) (hr : ∀ a, a = 1 ∨ (13 ≤ a ∧ a ≤ 16) ∨ (53 ≤ a ∧ a ≤ 55) → ω.2.2 a = σ.2.2 a) (hj : ∀ i, i = 25 ∨ i = 73 ∨ i = 111 ∨ i = 115 → ω.1 i = σ.1 i) (ht : ∃ n, TpO (ω.2.2 3) n ω) (h120 : ∃ q, ω.1 120 = nI q ∧ q ≤ 12000) : RfJ XE (j + 1) ω := by
  obtain ⟨hB, hP⟩ := h
  obtain ⟨r1, r2, r3, r4, r5, r6, _, _, r9⟩ := id hB
  obtain ⟨s1, s2, s3⟩ := id hs
  have ae := AE_sm r6 r2 hs
  refine ⟨⟨hM, fun i hi => by rw [s2 33 (by omega)]; exact r2 i hi, by rw [s2 2 (by omega)]; exact r3, fun p hp => by rw [s2 18 (by omega)]; exact r4 p hp, (hr 1 (by omega)).trans r5, (s1 68 (by omega)).trans r6, ht, h120, by rw [hj 73 (by omega)]; exact r9⟩, hP.imp (fun z => ⟨(hj 111 (by omega)).trans z.1, (s1 112 (by omega)).trans z.2.1, z.2.2⟩) (fun z => ?_)⟩
  obtain ⟨z1, TX, u, p, nX, g, t, KB, S, a1, a2, a3, a4, a5, C, K, z0, x66, sd, ri, ps⟩ := z
  refine ⟨by rw [hj 111 (by omega)]; exact z1, TX, u, p, nX, g, t, KB, S, ⟨a1.1, (hj 115 (by omega)).trans a1.2.1, fun i hi => by rw [hr 53 (by omega)]; exact a1.2.2 i hi⟩, a2, a3, PG_x a4 (fun i hi => ?_) (fun a ha => ?_), VwO_c (hj 73 (by omega)) (hr 54 (by omega)) (hr 55 (by omega)) a5, C, K, z0, x66, sd, RIc_ae ae hM ri, fun y => ?_⟩
  · by_cases e : i = 25
    · rw [e]; exact hj 25 (by omega)
    · exact s1 i (by omega)
  · by_cases e : a = 1 ∨ (13 ≤ a ∧ a ≤ 16)
    · exact hr a (by omega)
    · exact s2 a (by omega)
  · rw [s1 112 (by omega)] at y
    obtain ⟨m, m1, m2⟩ := ps y
    exact ⟨m, by omega, PSt_sm a3.1.1.1 hs hM m2⟩
theorem RfJ_sf {χ : MS} {v : Int32} {g : Nat → Prop} {l : List Nat} {B h' X : Nat} (h : RfJ XE j σ) (hM : MI 0 X g l B h' σ) (hv : Vd g v) (hx : ∀ i, ¬ (i = 2 ∨ i = 4 ∨ i = 8 ∨ i = 9) → χ.1 i = σ.1 i) (hx2 : χ.2 = σ.2) (h4 : χ.1 4 = 0 ∨ χ.1 4 = σ.1 4) (hs : ShF χ v ω) : RfJ XE (j + 1) ω := by
  have M1 : MI 0 X g l B h' χ := MI_c hM (hx 54 (by decide)) (hx 55 (by decide)) (hx 63 (by decide)) (hx 72 (by decide)) (by rw [hx2])
  have M2 := MI_sf M1 hv hs
  obtain ⟨f1, f2, f3, f4, f5, f6, f7⟩ := id hs
  have nn : ∀ i, ¬ (i = 2 ∨ i = 4 ∨ i = 8 ∨ i = 9 ∨ i = 79 ∨ i = 84 ∨ i = 93 ∨ i = 120) → ω.1 i = σ.1 i := fun i hi => (f1 i (by omega)).trans (hx i (by omega))
  have rr : ∀ a, ¬ (a = 40 ∨ a = 42 ∨ a = 48 ∨ a = 49 ∨ a = 57) → ω.2.2 a = σ.2.2 a := fun a ha => (f3 a ha).trans (by rw [hx2])
  obtain ⟨n, t1, _, t3⟩ := id h.1.2.2.2.2.2.2.1
  refine RfJ_sm h ⟨fun i hi => nn i (by omega), fun a ha => rr a (by omega), by rw [f2, hx2]⟩ ⟨_, _, _, _, _, M2⟩ (fun a ha => rr a (by omega)) (fun i hi => nn i (by omega)) ?_ f6
  rcases h4 with z | z
  · exact ⟨0, ⟨(f1 4 (by decide)).trans z, Nat.zero_le _⟩, rfl, fun i hi => absurd hi (Nat.not_lt_zero _)⟩
  · exact ⟨n, ⟨(f1 4 (by decide)).trans (z.trans t1.1), t1.2⟩, rfl, fun i hi => by rw [rr 3 (by decide)]; exact t3 i hi⟩
theorem RfJ_nm (h : RfJ XE j σ) (hx : ∀ i, ¬ (i = 2 ∨ i = 4 ∨ i = 8 ∨ i = 9 ∨ i = 11) → ω.1 i = σ.1 i) (hx2 : ω.2 = σ.2) (h4 : ω.1 4 = 0 ∨ ω.1 4 = σ.1 4) : RfJ XE (j + 1) ω := by
  obtain ⟨⟨g0, l0, B0, h0, X0, m0⟩, _⟩ := id h.1
  obtain ⟨n, t1, _, t3⟩ := id h.1.2.2.2.2.2.2.1
  refine RfJ_sm h ⟨fun i hi => hx i (by omega), fun a ha => by rw [hx2], by rw [hx2]⟩ ⟨g0, l0, B0, h0, X0, MI_c m0 (hx 54 (by decide)) (hx 55 (by decide)) (hx 63 (by decide)) (hx 72 (by decide)) (by rw [hx2])⟩ (fun a ha => by rw [hx2]) (fun i hi => hx i (by omega)) ?_ (by rw [hx 120 (by decide)]; exact h.1.2.2.2.2.2.2.2.1)
  rcases h4 with z | z
  · exact ⟨0, ⟨z, Nat.zero_le _⟩, rfl, fun i hi => absurd hi (Nat.not_lt_zero _)⟩
  · exact ⟨n, ⟨z.trans t1.1, t1.2⟩, rfl, fun i hi => by rw [hx2]; exact t3 i hi⟩
theorem rj_fault (h : RfJ XE j σ) : Tm (fun k => x_fault_ k 0 L σ) (fun r => RfJ XE (j + 1) r.2 ∧ KpT σ r.2) := Tm_mono s_fault_ (fun r hr => by rw [hr]; exact ⟨RfJ_2 h, KpT_2⟩)
theorem rj_count (h : RfJ XE j σ) : Tm (fun k => x_count k 0 L σ) (fun r => RfJ XE (j + 1) r.2 ∧ KpT σ r.2) := Tm_mono s_count (fun r hr => by obtain ⟨c, e⟩ := hr; rw [e]; exact ⟨RfJ_2 h, KpT_2⟩)
theorem rj_shown (h : RfJ XE j σ) : Tm (fun k => x_shown k 0 L σ) (fun r => RfJ XE (j + 1) r.2 ∧ KpT σ r.2) := Tm_mono (s_shown h.1.2.2.2.2.2.2.2.1) (fun r hr => by obtain ⟨c, e⟩ := hr; rw [e]; exact ⟨RfJ_2 h, KpT_2⟩)
theorem rj_order (h : RfJ XE j σ) : Tm (fun k => x_order k 0 L σ) (fun r => RfJ XE (j + 1) r.2 ∧ KpT σ r.2) := by
  obtain ⟨⟨g0, l0, B0, h0, X0, m0⟩, _⟩ := id h.1
  exact Tm_mono (s_order m0) (fun r hr => by rw [hr]; exact ⟨RfJ_2 h, KpT_2⟩)
theorem rj_shape (h : RfJ XE j σ) : Tm (fun k => x_shape k 0 L σ) (fun r => RfJ XE (j + 1) r.2 ∧ KpT σ r.2) := by
  obtain ⟨⟨g0, l0, B0, h0, X0, m0⟩, _⟩ := id h.1
  exact Tm_mono (s_shape m0) (fun r hr => by obtain ⟨c, e⟩ := hr; rw [e]; exact ⟨RfJ_2 h, KpT_2⟩)
theorem rj_state (h : RfJ XE j σ) : Tm (fun k => x_state k 0 L σ) (fun r => RfJ XE (j + 1) r.2 ∧ KpT σ r.2) := Tm_mono s_state (fun r hr => by rw [hr]; exact ⟨RfJ_2 h, KpT_2⟩)
theorem rj_out (h : RfJ XE j σ) : Tm (fun k => x_out k 0 L σ) (fun r => RfJ XE (j + 1) r.2 ∧ KpT σ r.2) := by
  by_cases c : ouR σ (L 1)
  · exact Tm_mono (s_outN c) (fun r hr => by rw [hr]; exact ⟨RfJ_2 h, KpT_2⟩)
  · obtain ⟨q, e1, e2⟩ := n_ofnn (fun z => c (Or.inr (Or.inl z)) : ¬ L 1 < 0)
    have hq : q < 60000 := by
      have : nI q < nI 60000 := by
        refine Classical.byContradiction (fun z => c (Or.inr (Or.inr (Or.inr (fun y => z ?_)))))
        rw [e1] at y; exact y
      exact (n_lt e2 (by decide)).mp this
    exact Tm_mono (s_outY e1 c hq) (fun r hr => by rw [hr]; exact ⟨RfJ_2 h, KpT_2⟩)
theorem rj_seen (h : RfJ XE j σ) : Tm (fun k => x_seen k 0 L σ) (fun r => RfJ XE (j + 1) r.2 ∧ KpT σ r.2) := by
  obtain ⟨⟨g0, l0, B0, h0, X0, m0⟩, _⟩ := id h.1
  refine Tm_mono (s_seen m0 h.1.2.2.2.2.2.2.2.2) (fun r hr => ?_)
  rcases hr with ⟨c, e⟩ | ⟨v, v1, v2⟩
  · rw [e]; exact ⟨RfJ_2 h, KpT_2⟩
  · refine ⟨RfJ_sf (χ := mSc σ 2 0) h m0 v1 (fun i hi => (show upd σ.1 2 0 i = σ.1 i from upd_other (by omega))) rfl (Or.inr (show upd σ.1 2 0 4 = σ.1 4 from upd_other (by decide))) v2, ⟨v2.1 4 (by decide), fun i _ => by rw [v2.2.2.1 3 (by decide)]; rfl⟩, v2.1 73 (by decide), v2.1 111 (by decide), v2.1 112 (by decide)⟩
/-- names as the reference has them -/
def PGn (gl : List Gn) (σ : MS) : Prop := ∃ b : BT, PB σ b ∧ (σ.1 25 = nI gl.length ∧ gl.length ≤ 200 ∧ glOK (σ.2.2 13) (σ.2.2 14) (σ.2.2 15) (σ.2.2 16) b.2.2.2.1 b.2.1 gl)
theorem rj_value (h : RfJ XE j σ) : Tm (fun k => x_value k 0 L σ) (fun r => RfJ XE (j + 1) r.2 ∧ (r.2.1 73 = σ.1 73 ∧ r.2.1 111 = σ.1 111 ∧ r.2.1 112 = σ.1 112) ∧ ((σ.1 112 = 0 ∧ KpT σ r.2) ∨ ∃ n g, mN σ n ∧ XE = some g ∧ PGn g.1 σ ∧ ((KpT σ r.2 ∧ ¬ ∃ x, x ∈ g.1 ∧ x.2.2.1 = 1 ∧ mNm σ 0 n x.2.1 x.1.length) ∨ (r.2.1 4 = 0 ∧ ∃ x, x ∈ g.1 ∧ x.2.2.1 = 1 ∧ mNm σ 0 n x.2.1 x.1.length)))) := by
  by_cases c : σ.1 112 = 0
  · exact Tm_mono (s_valueN c) (fun r hr => by rw [hr]; exact ⟨RfJ_2 h, ⟨rfl, rfl, rfl⟩, Or.inl ⟨c, KpT_2⟩⟩)
  · obtain ⟨⟨g0, l0, B0, h0, X0, m0⟩, _⟩ := id h.1
    obtain ⟨n, t1, _, t3⟩ := id h.1.2.2.2.2.2.2.1
    obtain ⟨z1, TX, u, p, nX, g, t, KB, S, a1, a2, a3, a4, a5, _⟩ := h.2.resolve_left (fun z => c z.2.1)
    have e1 := a3.1.2.2.1.2.2.2.2
    refine Tm_mono (s_value2 m0 a4 (by omega) t1 c) (fun r hr => ?_)
    rcases hr with ⟨e, nx⟩ | ⟨⟨v, v1, v2⟩, nx⟩
    · rw [e]
      refine ⟨RfJ_nm h (fun i hi => ?_) rfl (Or.inr ?_), ⟨rfl, rfl, rfl⟩, Or.inr ⟨n, _, t1, a2.2, ⟨_, a4.2.1, a4.2.2.1⟩, Or.inl ⟨⟨⟨rfl, fun _ _ => rfl⟩, rfl, rfl, rfl⟩, nx⟩⟩⟩
      · show upd (upd (upd (upd σ.1 2 0) 8 0) 9 (σ.1 4)) 2 2 i = _
        rw [upd_other (by omega), upd_other (by omega), upd_other (by omega), upd_other (by omega)]
      · show upd (upd (upd (upd σ.1 2 0) 8 0) 9 (σ.1 4)) 2 2 4 = _
        rw [upd_other (by decide), upd_other (by decide), upd_other (by decide), upd_other (by decide)]
    · refine ⟨RfJ_sf (χ := mSc (mVl σ) 4 0) h m0 v1 (fun i hi => ?_) rfl (Or.inl (show upd (upd (upd (upd σ.1 2 0) 8 0) 9 (σ.1 4)) 4 0 4 = 0 from upd_same)) v2, ⟨v2.1 73 (by decide), v2.1 111 (by decide), v2.1 112 (by decide)⟩, Or.inr ⟨n, _, t1, a2.2, ⟨_, a4.2.1, a4.2.2.1⟩, Or.inr ⟨v2.1 4 (by decide), nx⟩⟩⟩
      show upd (upd (upd (upd σ.1 2 0) 8 0) 9 (σ.1 4)) 4 0 i = _
      rw [upd_other (by omega), upd_other (by omega), upd_other (by omega), upd_other (by omega)]
theorem rj_round (h : RfJ XE j σ) : Tm (fun k => x_round k 0 L σ) (fun r => RfJ XE (j + 1) r.2 ∧ KpT σ r.2) := by
  by_cases c : σ.1 112 = 0
  · exact Tm_mono (s_roundN c) (fun r hr => by rw [hr]; exact ⟨RfJ_2 h, KpT_2⟩)
  · obtain ⟨hB, hP⟩ := h
    obtain ⟨r1, r2, r3, r4, r5, r6, ⟨n, r7⟩, r8, r9⟩ := id hB
    obtain ⟨z1, TX, u, p, nX, g, t, KB, S, a1, a2, a3, a4, a5, C, K, z0, x66, sd, ri, ps⟩ := hP.resolve_left (fun z => c z.2.1)
    obtain ⟨m, m1, m2⟩ := ps c
    have k18 : Tm (fun k => x_round k 0 L σ) (fun r => r.2.2.2 18 = σ.2.2 18) := by
      obtain ⟨r, k0, h1, _⟩ := s_round a3.1 m2 a4 r7 a5 c (L := L)
      exact ⟨r, k0, h1, ku_round k0 0 L σ r (h1 k0 (Nat.le_refl _))⟩
    refine Tm_mono (Tm_and (s_round a3.1 m2 a4 r7 a5 c) k18) (fun r hr => ?_)
    obtain ⟨⟨y1, y2, y3, ⟨Tp', y4, y4'⟩, y5, y6⟩, y7⟩ := hr
    obtain ⟨q1, q2, q3, q4, _, q6, q7, q8, q9, q10⟩ := id y1.1
    obtain ⟨V, v1, v2, _⟩ := id y3
    refine ⟨⟨⟨q1, q3, by rw [q4.2]; exact q4.1, fun p hp => by rw [y7]; exact r4 p hp, y2.1, q9, ⟨n, y4.1, rfl, fun i hi => by rw [y4.2.1]; exact y4.2.2 i hi⟩, by rw [y5 120 (by omega)]; exact r8, ⟨V, v1, v2⟩⟩, Or.inr ⟨by rw [y5 111 (by omega)]; exact z1, TX, u, p, nX, g, t, KB, S, ⟨a1.1, (y5 115 (by omega)).trans a1.2.1, fun i hi => by rw [y6 53 (by omega)]; exact a1.2.2 i hi⟩, a2, a3, y2, y3, C, K, z0, x66, sd, y1.1, fun _ => ⟨m, by omega, y1⟩⟩⟩, ⟨⟨y4.1.1.trans r7.1.1.symm, fun i hi => ?_⟩, y5 73 (by omega), y5 111 (by omega), y5 112 (by omega)⟩⟩
    rw [r7.1.1, n_int (by have := r7.1.2; omega)] at hi
    rw [y4.2.1, y4' i (by omega)]
theorem rj_work {J : Nat → Int64} (h : RfJ XE j σ) : Tm (fun k => x_work k 0 L J σ) (fun r => RfJ XE (j + 1) r.2 ∧ (r.2.1 73 = σ.1 73 ∧ r.2.1 111 = σ.1 111 ∧ r.2.1 112 = σ.1 112) ∧ (σ.1 112 = 0 → KpT σ r.2) ∧ (¬ σ.1 112 = 0 → r.2.1 4 = 0)) := by
  by_cases c : σ.1 112 = 0
  · refine Tm_suc (fun k => by rw [x_work]) ?_
    refine Tm_ite (fun _ => ?_) (fun z => absurd c z)
    refine Tm_suc (fun k => by rw [x_work]) ?_
    refine Tm_suc (fun k => by rw [x_work]) ?_
    refine Tm_ob (s_good _ _) (fun r hr => ?_)
    rw [hr]
    refine Tm_ite (fun _ => ?_) (fun z => absurd rfl z)
    exact Tm_some ⟨RfJ_2 h, ⟨rfl, rfl, rfl⟩, fun _ => KpT_2, fun z => absurd c z⟩
  · obtain ⟨hB, hP⟩ := h
    obtain ⟨r1, r2, r3, r4, r5, r6, ⟨n, r7⟩, r8, r9⟩ := id hB
    obtain ⟨z1, TX, u, p, nX, g, t, KB, S, a1, a2, a3, a4, a5, C, K, z0, x66, sd, ri, ps⟩ := hP.resolve_left (fun z => c z.2.1)
    obtain ⟨m, m1, m2⟩ := ps c
    have eb := a3.1.2.2.1
    refine Tm_mono (s_work a3.1 m2 a4 r7 c) (fun r hr => ?_)
    obtain ⟨y1, y2, y3, y4⟩ := hr
    obtain ⟨q1, q2, q3, q4, _, q6, q7, q8, q9, q10⟩ := id y1.1
    obtain ⟨o1, o2, o3, o4⟩ := id y2
    refine ⟨⟨⟨q1, q3, by rw [q4.2]; exact q4.1, fun p hp => by rw [o2 18 (by omega)]; exact r4 p hp, (o2 1 (by omega)).trans r5, q9, ⟨0, ⟨y3, Nat.zero_le _⟩, rfl, fun i hi => absurd hi (Nat.not_lt_zero _)⟩, ?_, by rw [o1 73 (by omega)]; exact r9⟩, Or.inr ⟨by rw [o1 111 (by omega)]; exact z1, TX, u, p, nX, g, t, KB, S, ⟨a1.1, (o1 115 (by omega)).trans a1.2.1, fun i hi => by rw [o2 53 (by omega)]; exact a1.2.2 i hi⟩, a2, a3, PG_of y2 (by omega) a4, VwO_c (o1 73 (by omega)) (o2 54 (by omega)) (o2 55 (by omega)) a5, C, K, z0, x66, sd, y1.1, fun _ => ⟨m, by omega, y1⟩⟩⟩, ⟨o1 73 (by omega), o1 111 (by omega), o1 112 (by omega)⟩, fun z => absurd z c, fun _ => y3⟩
    rcases y4 with e | e
    · rw [e]; exact r8
    · exact e
theorem rj_view (h : RfJ XE j σ) : Tm (fun k => x_view k 0 L σ) (fun r => RfJ XE (j + 1) r.2 ∧ (r.2.1 111 = σ.1 111 ∧ r.2.1 112 = σ.1 112) ∧ ((σ.1 111 = 0 ∧ KpT σ r.2) ∨ (σ.1 73 = 8 ∧ KpT σ r.2) ∨ (r.2.1 4 = 0 ∧ ¬ σ.1 73 = 8 ∧ ∃ n g b x, TpO (σ.2.2 3) n σ ∧ XE = some g ∧ gX (σ.2.2 3) n (30 * n + 21) (g.1, [], [], 42, false, false, g.2) b = some x ∧ ((x = none ∧ r.2.1 73 = σ.1 73) ∨ (¬ x = none ∧ r.2.1 73 = σ.1 73 + 1))))) := by
  by_cases c : σ.1 111 = 0
  · refine Tm_suc (fun k => by rw [x_view]) ?_
    refine Tm_ite (fun _ => ?_) (fun z => absurd c z)
    refine Tm_suc (fun k => by rw [x_view]) ?_
    refine Tm_ob (s_good _ _) (fun r hr => ?_)
    rw [hr]
    refine Tm_ite (fun _ => ?_) (fun z => absurd rfl z)
    exact Tm_some ⟨RfJ_2 h, ⟨rfl, rfl⟩, Or.inl ⟨c, KpT_2⟩⟩
  · obtain ⟨hB, hP⟩ := id h
    obtain ⟨r1, r2, r3, r4, r5, r6, ⟨n, r7⟩, r8, r9⟩ := id hB
    obtain ⟨z1, TX, u, p, nX, g, t, KB, S, a1, a2, a3, a4, a5, C, K, z0, x66, sd, ri, ps⟩ := hP.resolve_left (fun z => c z.1)
    have eb := a3.1.2.2.1
    refine Tm_mono (s_view2 ri eb.2.2 a4 r7 a5 c) (fun r hr => ?_)
    rcases hr with ⟨e, e8⟩ | ⟨n8, ⟨ae, y2, y3, y4, _, y6, y7, y8, y9⟩, x, gx, gy⟩
    · rw [e]; exact ⟨RfJ_2 h, ⟨rfl, rfl⟩, Or.inr (Or.inl ⟨e8, KpT_2⟩)⟩
    · have ri' := RIc_ae ae y3 ri
      obtain ⟨q1, q2, q3, q4, _, q6, q7, q8, q9, q10⟩ := id ri'
      obtain ⟨V, v1, v2, _⟩ := id y6
      refine ⟨⟨⟨y3, q3, by rw [q4.2]; exact q4.1, fun p hp => by rw [y8 18 (by omega)]; exact r4 p hp, y2.1, q9, ⟨0, ⟨y9, Nat.zero_le _⟩, rfl, fun i hi => absurd hi (Nat.not_lt_zero _)⟩, by rw [y7 120 (by omega)]; exact r8, ⟨V, v1, v2⟩⟩, Or.inr ⟨by rw [y7 111 (by omega)]; exact z1, TX, u, p, nX, g, t, KB, S, ⟨a1.1, (y7 115 (by omega)).trans a1.2.1, fun i hi => by rw [y8 53 (by omega)]; exact a1.2.2 i hi⟩, a2, a3, y2, y6, C, K, z0, x66, sd, ri', fun y => ?_⟩⟩, ⟨y7 111 (by omega), y7 112 (by omega)⟩, Or.inr (Or.inr ⟨y9, n8, n, _, _, x, r7, a2.2, gx, gy⟩)⟩
      rw [y7 112 (by omega)] at y
      obtain ⟨m, m1, m2⟩ := ps y
      exact ⟨m, by omega, PSt_ae a3.1.1.1 ae y3 (y4 (PSt_UT m2).1) m2⟩
theorem rj_end (h : RfJ XE j σ) : Tm (fun k => x_end k 0 L σ) (fun r => RfJ XE (j + 1) r.2) := by
  refine Tm_mono (s_end L σ) (fun r hr => ?_)
  by_cases c : ¬ L 1 < 0 ∧ L 1 ≤ σ.1 4
  · rw [if_pos c] at hr
    obtain ⟨q, e1, e2⟩ := n_ofnn c.1
    obtain ⟨⟨g0, l0, B0, h0, X0, m0⟩, _⟩ := id h.1
    obtain ⟨n, t1, _, t3⟩ := id h.1.2.2.2.2.2.2.1
    have hq : q ≤ n := by
      have := c.2
      rw [e1, t1.1] at this
      exact (n_le e2 (by have := t1.2; omega)).mp this
    have o : ∀ i, ¬ (i = 2 ∨ i = 4) → r.2.1 i = σ.1 i := fun i hi => by
      rw [hr]; show upd (upd σ.1 2 0) 4 (L 1) i = _
      rw [upd_other (by omega), upd_other (by omega)]
    have o2 : r.2.2 = σ.2 := by rw [hr]
    refine RfJ_sm h ⟨fun i hi => o i (by omega), fun a ha => by rw [o2], by rw [o2]⟩ ⟨g0, l0, B0, h0, X0, MI_c m0 (o 54 (by decide)) (o 55 (by decide)) (o 63 (by decide)) (o 72 (by decide)) (by rw [o2])⟩ (fun a ha => by rw [o2]) (fun i hi => o i (by omega)) ⟨q, ⟨?_, by have := t1.2; omega⟩, rfl, fun i hi => by rw [o2]; exact t3 i (by omega)⟩ (by rw [o 120 (by decide)]; exact h.1.2.2.2.2.2.2.2.1)
    rw [hr]
    show upd (upd σ.1 2 0) 4 (L 1) 4 = nI q
    rw [upd_same, e1]
  · rw [if_neg c] at hr
    rw [hr]; exact RfJ_2 (x := 1) h
theorem rj_feed (h : RfJ XE j σ) : Tm (fun k => x_feed k 0 L σ) (fun r => RfJ XE (j + 1) r.2) := by
  obtain ⟨⟨g0, l0, B0, h0, X0, m0⟩, _⟩ := id h.1
  obtain ⟨n, t1, _, t3⟩ := id h.1.2.2.2.2.2.2.1
  have tn := t1.2
  have e4 : (σ.1 4).toInt = n := by rw [t1.1, n_int (by omega)]
  have c4 : (σ.1 4).toNatClampNeg = n := by rw [t1.1, n_cl (p := n) (by omega)]
  refine Tm_mono (s_feed L σ (by omega) (by omega)) (fun r hr => ?_)
  by_cases c : (σ.1 4).toInt + 20 ≤ 32768
  · rw [if_pos c] at hr
    obtain ⟨hr, _⟩ := hr
    obtain ⟨k1, k2, k3⟩ := mTape_rest (upd σ.1 2 0, σ.2.1, σ.2.2) L 20
    have f4 : (upd σ.1 2 0) 4 = σ.1 4 := upd_other (by decide)
    have ln := mTape_len (upd σ.1 2 0, σ.2.1, σ.2.2) L (by show 0 ≤ ((upd σ.1 2 0) 4).toInt; rw [f4]; omega) 20 (by show ((upd σ.1 2 0) 4).toInt + _ ≤ _; rw [f4]; omega)
    have ol := mTape_old (upd σ.1 2 0, σ.2.1, σ.2.2) L (by show 0 ≤ ((upd σ.1 2 0) 4).toInt; rw [f4]; omega) 20 (by show ((upd σ.1 2 0) 4).toInt + _ ≤ _; rw [f4]; omega)
    have nw := mTape_new (upd σ.1 2 0, σ.2.1, σ.2.2) L (by show 0 ≤ ((upd σ.1 2 0) 4).toInt; rw [f4]; omega) 20 (by show ((upd σ.1 2 0) 4).toInt + _ ≤ _; rw [f4]; omega)
    have ln : ((mTape (upd σ.1 2 0, σ.2.1, σ.2.2) L 20).1 4).toInt = ((upd σ.1 2 0) 4).toInt + (20 : Nat) := ln
    rw [f4] at ln
    have o : ∀ i, ¬ (i = 2 ∨ i = 4) → r.2.1 i = σ.1 i := fun i hi => by
      rw [hr, k2 i (by omega)]; exact upd_other (by omega)
    have o2 : ∀ a, a ≠ 3 → r.2.2.2 a = σ.2.2 a := fun a ha => by rw [hr, k3 a ha]
    refine RfJ_sm h ⟨fun i hi => o i (by omega), fun a ha => o2 a (by omega), by rw [hr, k1]⟩ ⟨g0, l0, B0, h0, X0, MI_x m0 (o 54 (by decide)) (o 55 (by decide)) (o 63 (by decide)) (o 72 (by decide)) (fun a h1 h2 => o2 a (by omega))⟩ (fun a ha => o2 a (by omega)) (fun i hi => o i (by omega)) ⟨n + 20, ⟨?_, by omega⟩, rfl, fun i hi => ?_⟩ (by rw [o 120 (by decide)]; exact h.1.2.2.2.2.2.2.2.1)
    · rw [hr, n_ofpos (x := (mTape (upd σ.1 2 0, σ.2.1, σ.2.2) L 20).1 4) (by omega), ln, e4]
      congr 1
    · rw [hr]
      by_cases e : i < n
      · rw [ol i (by show (i : Int) < ((upd σ.1 2 0) 4).toInt; rw [f4]; omega)]; exact t3 i e
      · have := nw (i - n) (by omega)
        have e' : ((upd σ.1 2 0) 4).toNatClampNeg + (i - n) = i := by rw [f4, c4]; omega
        rw [show ((upd σ.1 2 0, σ.2.1, σ.2.2) : MS).1 4 = (upd σ.1 2 0) 4 from rfl, e'] at this
        rw [this]
        exact n_and8 _
  · rw [if_neg c] at hr
    rw [hr]; exact RfJ_2 (x := 1) h
theorem rj_0 : RfJ none 0 ms0 := by
  have z : ∀ a i, 28 ≤ a → ms0.2.2 a i = 0 := fun a i ha => by
    show (if a = 1 then (mT mWords 264) else if a = 2 then (mT mTypes 37) else nZ) i = 0
    rw [if_neg (by omega), if_neg (by omega)]
  have nz : (0 : Int32) = nI 0 := rfl
  refine ⟨⟨⟨fun _ => False, [], 0, 4, 870000, ?_⟩, fun i _ => z 33 i (by decide), ?_, fun p _ => ⟨0, by decide, rfl⟩, rfl, rfl, ⟨0, ⟨rfl, Nat.zero_le _⟩, rfl, fun i hi => absurd hi (Nat.not_lt_zero _)⟩, ⟨0, rfl, by decide⟩, ⟨0, rfl, by decide⟩⟩, Or.inl ⟨rfl, rfl, rfl⟩⟩
  · refine MI_any ⟨rfl, Or.inl rfl, rfl, by decide, ?_⟩ ⟨0, 0, rfl, by decide, rfl, by decide, ⟨0, 0, z 30 1 (by decide), by decide, z 30 3 (by decide), by decide⟩, fun p hp => absurd hp (Nat.not_lt_zero _)⟩ (fun a i hR => ?_)
    · exact ⟨rfl, fun v hv => hv.elim⟩
    · have := RtP_r hR
      rw [z a i (by omega)]
      exact ⟨0, rfl, Or.inl (by decide)⟩
  · exact ⟨by decide +kernel, by decide +kernel, by decide +kernel, by decide +kernel, by decide +kernel, by decide +kernel, by decide +kernel⟩
end RJL
section RJP
variable {T : Nat → Nat → Int32} {FN : Nat → Nat → Prop} {σ ρ ω : MS} {gl : List Gn} {pr : Nat → Nat} {b : BT}
theorem rj_program {j : Nat} {XE : XEt} (h : RfJ XE j σ) (L : Nat → Int32) : Tm (fun k => x_program k 0 L σ) (fun r => (∃ n, TpO (σ.2.2 3) n σ ∧ ((∃ z, gPrg (σ.2.2 3) n (g0 (σ.2.2 3) n (σ.2.2 10) (σ.2.2 11)) = some (some z) ∧ RfJ (some (z.1.2.1.1, z.1.2.1.2.2.2.2.2.2)) (j + 1) r.2 ∧ ¬ r.2.1 111 = 0 ∧ r.2.1 112 = 0 ∧ r.2.1 73 = 0) ∨ (gPrg (σ.2.2 3) n (g0 (σ.2.2 3) n (σ.2.2 10) (σ.2.2 11)) = some none ∧ RfJ XE (j + 1) r.2 ∧ r.2.1 111 = σ.1 111 ∧ r.2.1 112 = σ.1 112 ∧ r.2.1 73 = σ.1 73))) ∧ r.2.1 4 = 0) := by
  obtain ⟨hB, hP⟩ := h
  obtain ⟨n, tp⟩ := id hB.2.2.2.2.2.2.1
  obtain ⟨tn, _, tb⟩ := id tp
  have hA := hB.2.2.2.1
  have hW := hB.2.2.2.2.1
  obtain ⟨y, hG⟩ := gPrg_tot (σ.2.2 3) n (σ.2.2 10) (σ.2.2 11)
  cases y with
  | some z =>
    obtain ⟨g, t⟩ := z
    refine Tm_mono (s_prgY tn hW hA hG L) (fun r hr => ?_)
    obtain ⟨ρ1, ρ, h1, hR, hF, _, y1, ⟨y2, y3, y4, y5, y6⟩, y7, y8, y9⟩ := hr
    obtain ⟨p1, p2, p3⟩ := Pg1_fr h1
    obtain ⟨KB, S, ok⟩ := prg_ok tn.2 tb hG
    obtain ⟨bz, pg, h110, h44, _⟩ := PR_bz hR SmP_rf ok
    have nm : ∀ j, ¬ (j = 2 ∨ (4 ≤ j ∧ j ≤ 13) ∨ j = 22 ∨ j = 24 ∨ j = 25 ∨ j = 30 ∨ j = 31 ∨ j = 37 ∨ j = 38 ∨ (42 ≤ j ∧ j ≤ 48) ∨ j = 52 ∨ j = 110 ∨ j = 115 ∨ j = 111 ∨ j = 112 ∨ j = 73) → r.2.1 j = σ.1 j := fun j hj => by rw [y1 j (by omega), hF.1 j (by omega), p1 j (by omega)]
    have rw' : ∀ a, ¬ ((3 ≤ a ∧ a ≤ 27) ∨ a = 56 ∨ a = 53) → r.2.2.2 a = σ.2.2 a := fun a ha => by rw [y8 a (by omega), hF.2.2.1 a (by omega), p3 a (by omega)]
    have hB' : RfB r.2 := RfB_fr hB (fun j hj => nm j (by omega)) (fun a ha => rw' a (by omega)) (fun p hp => by rw [y8 18 (by decide)]; exact hR.2.2.2.2.2.2 p hp) y3 ⟨0, y6, by decide⟩
    have bzr : Bz (TPg g t KB) (FNg g) r.2 := Bz_x bz (fun j hj => y1 j (by omega)) (fun a h1 h2 => y8 a (by omega))
    refine ⟨⟨n, tp, Or.inl ⟨(g, t), hG, ⟨hB', Or.inr ⟨by rw [y4]; decide, σ.2.2 3, σ.2.2 10, σ.2.2 11, n, g, t, KB, S, ⟨tn.2, y2, y9⟩, ⟨hG, rfl⟩, ok, PG_x pg (fun j hj => y1 j (by omega)) (fun a ha => y8 a (by omega)), ⟨0, y6, by decide, fun v hv => absurd hv (Nat.not_lt_zero _)⟩, r.2.2.2 2, fun _ => 0, r.2.2.2 30 0, r.2.1 66, r.2.2.1 113, ⟨hB'.1, bzr, hB'.2.1, ⟨hB'.2.2.1, rfl⟩, trivial, (y1 110 (by decide)).trans h110, fun _ => rfl, rfl, hB'.2.2.2.2.2.1, rfl⟩, fun z => absurd y5 z⟩⟩, by rw [y4]; decide, y5, y6⟩⟩, y3⟩
  | none =>
    rcases hP with ⟨h111, h112, hXn⟩ | ⟨h111, TX, u, p, nX, g, t, KB, S, ⟨hX, h115, h53⟩, hp, ok, pg, vw, C, K, z0, x66, sd, ri, ps⟩
    · refine Tm_mono (s_prgN tn hW hA h111 hG L) (fun r hr => ?_)
      obtain ⟨ρ1, ρ, h1, hF, y1, y4, y7, y8⟩ := hr
      obtain ⟨p1, p2, p3⟩ := Pg1_fr h1
      have nm : ∀ j, ¬ (j = 2 ∨ (4 ≤ j ∧ j ≤ 13) ∨ j = 22 ∨ j = 24 ∨ j = 25 ∨ j = 30 ∨ j = 31 ∨ j = 37 ∨ j = 38 ∨ (42 ≤ j ∧ j ≤ 48) ∨ j = 52 ∨ j = 110) → r.2.1 j = σ.1 j := fun j hj => by rw [y1 j (by omega), hF.1 j (by omega), p1 j (by omega)]
      have rw' : ∀ a, ¬ ((3 ≤ a ∧ a ≤ 27) ∨ a = 56) → r.2.2.2 a = σ.2.2 a := fun a ha => by rw [y8 a (by omega), hF.2.2.1 a (by omega), p3 a (by omega)]
      have pa1 : PA ρ1 := fun p hp => by rw [p3 18 (by decide)]; exact hA p hp
      refine ⟨⟨n, tp, Or.inr ⟨hG, ⟨RfB_fr hB (fun j hj => nm j (by omega)) (fun a ha => rw' a (by omega)) (fun p hp => by rw [y8 18 (by decide)]; exact hF.2.2.2 pa1 p hp) y4 (by rw [nm 73 (by decide)]; exact hB.2.2.2.2.2.2.2.2), Or.inl ⟨(nm 111 (by decide)).trans h111, (nm 112 (by decide)).trans h112, hXn⟩⟩, nm 111 (by decide), nm 112 (by decide), nm 73 (by decide)⟩⟩, y4⟩
    · refine Tm_mono (s_prgA tn hW hA h111 hX h115 h53 hp.1 hG L) (fun r hr => ?_)
      obtain ⟨ρ1, ρ2, ρ3, ρ, g', t', h1, hF2, hL, hs, hR, hF, y1, y4, y7, y8⟩ := hr
      obtain ⟨p1, p2, p3⟩ := Pg1_fr h1
      obtain ⟨l1, l2, l3, l4, l5⟩ := hL
      have nm : ∀ j, ¬ (j = 2 ∨ (4 ≤ j ∧ j ≤ 13) ∨ j = 22 ∨ j = 24 ∨ j = 25 ∨ j = 30 ∨ j = 31 ∨ j = 37 ∨ j = 38 ∨ (42 ≤ j ∧ j ≤ 48) ∨ j = 52 ∨ j = 110) → r.2.1 j = σ.1 j := fun j hj => by rw [y1 j (by omega), hF.1 j (by omega), l2 j (by omega), hF2.1 j (by omega), p1 j (by omega)]
      have rw' : ∀ a, ¬ ((3 ≤ a ∧ a ≤ 27) ∨ a = 56) → r.2.2.2 a = σ.2.2 a := fun a ha => by rw [y8 a, hF.2.2.1 a (by omega), l4 a (by omega), hF2.2.2.1 a (by omega), p3 a (by omega)]
      have lg : r.2.2.1 = σ.2.1 := by rw [y7, hF.2.1, l3, hF2.2.1, p2]
      have fg : FrG σ r.2 := ⟨fun j hj => nm j (by omega), lg, fun a ha => rw' a ha⟩
      obtain ⟨bz, pg', h110, h44, _⟩ := PR_bz hR hs ok
      have bzr : Bz (TPg g t KB) (FNg g) r.2 := Bz_x bz (fun j hj => y1 j (by omega)) (fun a h1 h2 => y8 a)
      have e110 : r.2.1 110 = hd t.2.2.2.1 := (y1 110 (by decide)).trans h110
      have hB' : RfB r.2 := RfB_fr hB (fun j hj => nm j (by omega)) (fun a ha => rw' a (by omega)) (fun p hp => by rw [y8 18]; exact hR.2.2.2.2.2.2 p hp) y4 (by rw [nm 73 (by decide)]; exact hB.2.2.2.2.2.2.2.2)
      have ae := AE_pg ri.2.1 bzr fg ri.2.2.2.2.2.1 e110 hB.2.2.2.2.2.1 hB.2.1
      refine ⟨⟨n, tp, Or.inr ⟨hG, ⟨hB', Or.inr ⟨by rw [nm 111 (by decide)]; exact h111, TX, u, p, nX, g, t, KB, S, ⟨hX, (nm 115 (by decide)).trans h115, fun i hi => by rw [rw' 53 (by decide)]; exact h53 i hi⟩, hp, ok, PG_x pg' (fun j hj => y1 j (by omega)) (fun a ha => y8 a), VwO_c (nm 73 (by decide)) (rw' 54 (by decide)) (rw' 55 (by decide)) vw, C, K, z0, x66, sd, RIc_ae ae hB'.1 ri, fun z => ?_⟩⟩, nm 111 (by decide), nm 112 (by decide), nm 73 (by decide)⟩⟩, y4⟩
      rw [nm 112 (by decide)] at z
      obtain ⟨m, m1, m2⟩ := ps z
      have hU := (PSt_UT m2).1
      exact ⟨m, by omega, PSt_ae ok.1.1.1 ae hB'.1 (UT_k hU (nm 63 (by decide)) (nm 64 (by decide)) (nm 65 (by decide)) (rw' 28 (by decide)) (fun a h1 h2 => rw' a (by omega)) (kC_ae ae)) m2⟩
end RJP

/-! Between calls (reference): tape, runs. -/
section RCL
variable {σ ω : MS} {j : Nat} {L : Nat → Int32}
theorem Tm_kn {g : Nat → Option (Int32 × MS)} {P : Int32 × MS → Prop} (t : Tm g P) (h : ∀ k r, g k = some r → kn r.2 = kn σ) : Tm g (fun r => P r ∧ kn r.2 = kn σ) := by
  obtain ⟨r, k0, h1, h2⟩ := t
  exact ⟨r, k0, h1, h2, h k0 r (h1 k0 (Nat.le_refl _))⟩
theorem kn_e (h : kn ω = kn σ) : (∀ a, a = 1 ∨ a = 3 ∨ (13 ≤ a ∧ a ≤ 16) ∨ a = 18 ∨ (53 ≤ a ∧ a ≤ 55) → ω.2.2 a = σ.2.2 a) ∧ ∀ j, j = 4 ∨ j = 25 ∨ j = 31 ∨ j = 73 ∨ j = 111 ∨ j = 115 ∨ j = 120 → ω.1 j = σ.1 j := by
  unfold kn at h
  simp only [Prod.mk.injEq] at h
  obtain ⟨r1, r3, r13, r14, r15, r16, r18, r53, r54, r55, n4, n25, n31, n73, n111, n115, n120⟩ := h
  refine ⟨fun a ha => ?_, fun j hj => ?_⟩
  · have : a = 1 ∨ a = 3 ∨ a = 13 ∨ a = 14 ∨ a = 15 ∨ a = 16 ∨ a = 18 ∨ a = 53 ∨ a = 54 ∨ a = 55 := by omega
    rcases this with rfl | rfl | rfl | rfl | rfl | rfl | rfl | rfl | rfl | rfl <;> assumption
  · rcases hj with rfl | rfl | rfl | rfl | rfl | rfl | rfl <;> assumption
theorem n_ofnn {x : Int32} (h : ¬ x < 0) : ∃ q, x = nI q ∧ q < 2147483648 := by
  have h0 : 0 ≤ x.toInt := by rw [i_lt] at h; have : (0 : Int32).toInt = 0 := rfl; omega
  have hb := i_bd x
  exact ⟨x.toInt.toNat, n_ofpos h0, by omega⟩
/-- names and nodes of the program stand -/
theorem PG_run {T : Nat → Nat → Int32} {FN : Nat → Nat → Prop} {gl : List Gn} {pr : Nat → Nat} {b : BT} (h : PG gl pr b σ) (B1 : Bz T FN σ) (B2 : Bz T FN ω) (l1 : LNo T % 70001 = b.1) (l2 : LPo T % 70001 = b.2.1) (hk : kn ω = kn σ) : PG gl pr b ω := by
  obtain ⟨p1, ⟨q1, q2, q3, q4, q5⟩, ⟨g1, g2, g3⟩, p4⟩ := h
  obtain ⟨kr, kj⟩ := kn_e hk
  refine ⟨(kr 1 (by omega)).trans p1, ⟨by rw [B2.1.2.2.2.1, l1], q2, by rw [B2.1.2.2.2.2.1, l2], fun j h4 h9 i hi hi2 => ?_, fun i hi => ?_⟩, ⟨(kj 25 (by omega)).trans g1, g2, ?_⟩, ?_⟩
  · rw [B2.1.1 j i h4 (by omega) ⟨fun _ => by omega, fun z => by omega⟩, ← B1.1.1 j i h4 (by omega) ⟨fun _ => by omega, fun z => by omega⟩]; exact q4 j h4 h9 i hi hi2
  · rw [B2.1.2.2.1 i (by omega), ← B1.1.2.2.1 i (by omega)]; exact q5 i hi
  · rw [kr 13 (by omega), kr 14 (by omega), kr 15 (by omega), kr 16 (by omega)]; exact g3
  · rw [kr 18 (by omega)]; exact p4
/-- a run goes on -/
theorem RfI_run {TX u p : Nat → Int32} {nX : Nat} {g : PRG} {t : ST} {KB : Nat} {S : Nat → Nat → Nat → Nat → Prop} {C K C' K' : Nat → Int32} {z0 x66 z0' x66' : Int32} {sd sd' : Int64} (hB : RfB σ) (h1 : nX ≤ 32768 ∧ σ.1 115 = nI nX ∧ ∀ i, i < nX → σ.2.2 53 i = TX i) (h2 : gPrg TX nX (g0 TX nX u p) = some (Sum.inr (g, t))) (ok : PgO g t KB S) (pg : PG g.2.1.1 g.2.1.2.2.2.2.2.2 t.2.2.2.2.1 σ) (vw : VwO g.2.1.1 g.2.1.2.2.2.2.2.2 t.2.2.2.2.1 σ) (ri0 : RIc (TPg g t KB) (FNg g) C' K' (hd t.2.2.2.1) z0' x66' 0 sd' σ) (h111 : ¬ σ.1 111 = 0) (hk : kn ω = kn σ) (ri : RIc (TPg g t KB) (FNg g) C K (hd t.2.2.2.1) z0 x66 0 sd ω) (ps : ¬ ω.1 112 = 0 → ∃ m, m ≤ 20000 * (j + 1) ∧ PSt (TPg g t KB) (FNg g) S C K (hd t.2.2.2.1) z0 x66 0 sd m ω) : RfI (j + 1) ω := by
  obtain ⟨kr, kj⟩ := kn_e hk
  obtain ⟨_, _, _, r4, r5, _, ⟨n, r7⟩, r8, r9⟩ := hB
  obtain ⟨q1, q2, q3, q4, _, q6, q7, q8, q9, q10⟩ := id ri
  refine ⟨⟨q1, q3, by rw [q4.2]; exact q4.1, fun p hp => by rw [kr 18 (by omega)]; exact r4 p hp, (kr 1 (by omega)).trans r5, q9, ⟨n, ⟨(kj 4 (by omega)).trans r7.1.1, r7.1.2⟩, rfl, fun i hi => by rw [kr 3 (by omega)]; exact r7.2.2 i hi⟩, by rw [kj 120 (by omega)]; exact r8, by rw [kj 73 (by omega)]; exact r9⟩, Or.inr ⟨by rw [kj 111 (by omega)]; exact h111, TX, u, p, nX, g, t, KB, S, ⟨h1.1, (kj 115 (by omega)).trans h1.2.1, fun i hi => by rw [kr 53 (by omega)]; exact h1.2.2 i hi⟩, h2, ok, PG_run pg ri0.2.1 q2 ok.1.2.2.1.1 ok.1.2.2.1.2.1 hk, VwO_c (kj 73 (by omega)) (kr 54 (by omega)) (kr 55 (by omega)) vw, C, K, z0, x66, sd, ri, ps⟩⟩
/-- one number more: what kind of answer -/
theorem RfI_2 {x : Int32} (h : RfI j σ) : RfI (j + 1) (mSc σ 2 x) := by
  obtain ⟨⟨⟨g0, l0, B0, h0, X0, m0⟩, r2, r3, r4, r5, r6, ⟨n, r7⟩, r8, r9⟩, hP⟩ := h
  refine ⟨⟨⟨g0, l0, B0, h0, X0, MI_c m0 rfl rfl rfl rfl rfl⟩, r2, r3, r4, r5, r6, ⟨n, r7⟩, r8, r9⟩, hP.imp id (fun z => ?_)⟩
  obtain ⟨z1, TX, u, p, nX, g, t, KB, S, a1, a2, a3, a4, a5, C, K, z0, x66, sd, ri, ps⟩ := z
  refine ⟨z1, TX, u, p, nX, g, t, KB, S, a1, a2, a3, a4, a5, C, K, z0, x66, sd, RIc_2 ri, fun y => ?_⟩
  obtain ⟨m, m1, m2⟩ := ps y
  exact ⟨m, by omega, PSt_2 m2⟩
/-- step -/
theorem r_step (hj : j < 512) (h : RfI j σ) : Tm (fun k => x_step k 0 L σ) (fun r => RfI (j + 1) r.2) := by
  by_cases c : σ.1 112 = 0 ∨ L 1 < 0 ∨ ¬ L 1 ≤ 20000
  · exact Tm_mono (s_stepN c) (fun r hr => by rw [hr]; exact RfI_2 h)
  have c0 : ¬ σ.1 112 = 0 := fun z => c (Or.inl z)
  obtain ⟨q, e1, e2⟩ := n_ofnn (fun z => c (Or.inr (Or.inl z)) : ¬ L 1 < 0)
  have hq : q ≤ 20000 := by
    have : nI q ≤ nI 20000 := by
      refine Classical.byContradiction (fun z => c (Or.inr (Or.inr (fun y => z ?_))))
      rw [e1] at y; exact y
    exact (n_le e2 (by decide)).mp this
  obtain ⟨hB, hP⟩ := h
  obtain ⟨z1, TX, u, p, nX, g, t, KB, S, a1, a2, a3, a4, a5, C, K, z0, x66, sd, ri, ps⟩ := hP.resolve_left (fun z => c0 z.2)
  obtain ⟨m, m1, m2⟩ := ps c0
  refine Tm_mono (Tm_kn (σ := σ) (s_step a3.1.2.1.1 a3.1.2.1.2 a3.1.1.1 a3.1.1.2.1 a3.1.1.2.2 hq (by omega) c0 m2 e1) (fun k r hr => kn_step k 0 L σ r hr)) (fun r hr => ?_)
  obtain ⟨⟨m', y1, y2, y3, _⟩, hk⟩ := hr
  exact RfI_run hB a1 a2 a3 a4 a5 ri z1 hk y3.1 (fun _ => ⟨m', by omega, y3⟩)
/-- back -/
theorem r_back (hj : j < 512) (h : RfI j σ) : Tm (fun k => x_back k 0 L σ) (fun r => RfI (j + 1) r.2) := by
  by_cases c : σ.1 112 = 0 ∨ L 1 < 0 ∨ ¬ L 1 ≤ σ.1 103
  · exact Tm_mono (s_backN c) (fun r hr => by rw [hr]; exact RfI_2 h)
  have c0 : ¬ σ.1 112 = 0 := fun z => c (Or.inl z)
  obtain ⟨q, e1, e2⟩ := n_ofnn (fun z => c (Or.inr (Or.inl z)) : ¬ L 1 < 0)
  obtain ⟨hB, hP⟩ := h
  obtain ⟨z1, TX, u, p, nX, g, t, KB, S, a1, a2, a3, a4, a5, C, K, z0, x66, sd, ri, ps⟩ := hP.resolve_left (fun z => c0 z.2)
  obtain ⟨m, m1, m2⟩ := ps c0
  have hq : q ≤ m := by
    have : nI q ≤ nI m := by
      refine Classical.byContradiction (fun z => c (Or.inr (Or.inr (fun y => z ?_))))
      rw [e1, m2.2.1.1] at y; exact y
    exact (n_le e2 (by omega)).mp this
  refine Tm_mono (Tm_kn (σ := σ) (s_backP a3.1.2.1.1 a3.1.2.1.2 (by omega) c0 hq m2 e1) (fun k r hr => kn_back k 0 L σ r hr)) (fun r hr => ?_)
  obtain ⟨⟨_, y3⟩, hk⟩ := hr
  exact RfI_run hB a1 a2 a3 a4 a5 ri z1 hk y3.1 (fun _ => ⟨m - q, by omega, y3⟩)
/-- start: refused, if no program stands -/
theorem r_start {J : Nat → Int64} (h : RfI j σ) : Tm (fun k => x_start k 0 L J σ) (fun r => RfI (j + 1) r.2 ∧ r.2.1 2 = (if σ.1 111 = 0 then 1 else 0)) := by
  by_cases c : σ.1 111 = 0
  · rw [if_pos c]
    refine Tm_suc (fun k => by rw [x_start]) ?_
    refine Tm_ite (fun _ => ?_) (fun z => absurd c z)
    refine Tm_suc (fun k => by rw [x_start]) ?_
    refine Tm_suc (fun k => by rw [x_start]) ?_
    refine Tm_ob (s_good _ _) (fun r hr => ?_)
    rw [hr]
    refine Tm_ite (fun _ => ?_) (fun z => absurd rfl z)
    exact Tm_some ⟨RfI_2 h, rfl⟩
  · rw [if_neg c]
    obtain ⟨hB, hP⟩ := h
    obtain ⟨z1, TX, u, p, nX, g, t, KB, S, a1, a2, a3, a4, a5, C, K, z0, x66, sd, ri, ps⟩ := hP.resolve_left (fun z => c z.1)
    have two : Tm (fun k => x_start k 0 L J σ) (fun r => r.2.1 2 = 0) := by
      refine Tm_suc (fun k => by rw [x_start]) ?_
      refine Tm_ite (fun z => absurd z c) (fun _ => ?_)
      refine Tm_suc (fun k => by rw [x_start]) ?_
      refine Tm_ob (s_good _ _) (fun r hr => ?_)
      rw [hr]
      refine Tm_ite (fun z => absurd (show (1 : Int32) = 0 from z) (by decide)) (fun _ => ?_)
      show Tm (fun k => x_start k 3 (upd L 100 0) J (mSc σ 2 0)) _
      refine Tm_suc (fun k => by rw [x_start]) ?_
      refine Tm_suc (fun k => by rw [x_start]) ?_
      refine Tm_suc (fun k => by rw [x_start]) ?_
      have h21 : σ.2.2 21 0 = nI t.2.1 := (ri.2.1.2.1 21 0 (by omega) (by omega) (by omega)).trans a3.1.2.1.1
      refine Tm_ob (E_rs1 (σ := mSc (mSd (mSc σ 2 0) (J 1)) 112 1) (ns := t.2.1) h21 a3.1.2.1.2) (fun r1 hr1 => ?_)
      refine Tm_some ?_
      show r1.2.1 2 = 0
      rw [hr1.2.2.2.2.2.1 2 (by omega)]
      show upd (upd σ.1 2 0) 112 1 2 = 0
      rw [upd_other (by decide), upd_same]
    refine Tm_mono (Tm_and (Tm_kn (σ := σ) (s_start (S := S) (s := J 1) a3.1.2.1.1 a3.1.2.1.2 a3.2.1 c ri rfl) (fun k r hr => kn_start k 0 L J σ r hr)) two) (fun r hr => ?_)
    obtain ⟨⟨⟨_, y3, y4⟩, hk⟩, y5⟩ := hr
    exact ⟨RfI_run hB a1 a2 a3 a4 a5 ri z1 hk y3.1 (fun _ => ⟨0, by omega, y3⟩), y5⟩
end RCL

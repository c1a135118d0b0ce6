section JnS339
/-! Between calls (reference): all other calls. -/
section RCM
variable {σ ω : MS} {j : Nat} {L : Nat → Int32}
theorem n_and8 (x : Int32) : ∃ d, d ≤ 300 ∧ x &&& 255 = nI d := by
  refine ⟨(x &&& 255).toBitVec.toNat, ?_, n_ofbv _⟩
  rw [Int32.toBitVec_and, BitVec.toNat_and]
  exact Nat.le_trans Nat.and_le_right (by decide)
/-- the run is left alone; what stands besides -/
theorem RfI_sm (h : RfI j σ) (hs : SmR σ ω) (hM : ∃ (g : Nat → Prop) (l : List Nat) (B h X : Nat), MI 0 X g l B h ω) (hr : ∀ a, a = 1 ∨ (13 ≤ a ∧ a ≤ 16) ∨ (53 ≤ a ∧ a ≤ 55) → ω.2.2 a = σ.2.2 a) (hj : ∀ i, i = 25 ∨ i = 73 ∨ i = 111 ∨ i = 115 → ω.1 i = σ.1 i) (ht : ∃ n, TpO (ω.2.2 3) n ω) (h120 : ∃ q, ω.1 120 = nI q ∧ q ≤ 12000) : RfI (j + 1) ω := by
  obtain ⟨hB, hP⟩ := h
  obtain ⟨r1, r2, r3, r4, r5, r6, _, _, r9⟩ := id hB
  obtain ⟨s1, s2, s3⟩ := id hs
  have ae := AE_sm r6 r2 hs
  refine ⟨⟨hM, fun i hi => by rw [s2 33 (by omega)]; exact r2 i hi, by rw [s2 2 (by omega)]; exact r3, fun p hp => by rw [s2 18 (by omega)]; exact r4 p hp, (hr 1 (by omega)).trans r5, (s1 68 (by omega)).trans r6, ht, h120, by rw [hj 73 (by omega)]; exact r9⟩, hP.imp (fun z => ⟨(hj 111 (by omega)).trans z.1, (s1 112 (by omega)).trans z.2⟩) (fun z => ?_)⟩
  obtain ⟨z1, TX, u, p, nX, g, t, KB, S, a1, a2, a3, a4, a5, C, K, z0, x66, sd, ri, ps⟩ := z
  refine ⟨by rw [hj 111 (by omega)]; exact z1, TX, u, p, nX, g, t, KB, S, ⟨a1.1, (hj 115 (by omega)).trans a1.2.1, fun i hi => by rw [hr 53 (by omega)]; exact a1.2.2 i hi⟩, a2, a3, PG_x a4 (fun i hi => ?_) (fun a ha => ?_), VwO_c (hj 73 (by omega)) (hr 54 (by omega)) (hr 55 (by omega)) a5, C, K, z0, x66, sd, RIc_ae ae hM ri, fun y => ?_⟩
  · by_cases e : i = 25
    · rw [e]; exact hj 25 (by omega)
    · exact s1 i (by omega)
  · by_cases e : a = 1 ∨ (13 ≤ a ∧ a ≤ 16)
    · exact hr a (by omega)
    · exact s2 a (by omega)
  · rw [s1 112 (by omega)] at y
    obtain ⟨m, m1, m2⟩ := ps y
    exact ⟨m, by omega, PSt_sm a3.1.1.1 hs hM m2⟩
/-- a value is shown -/
theorem RfI_sf {χ : MS} {v : Int32} {g : Nat → Prop} {l : List Nat} {B h' X : Nat} (h : RfI j σ) (hM : MI 0 X g l B h' σ) (hv : Vd g v) (hx : ∀ i, ¬ (i = 2 ∨ i = 4 ∨ i = 8 ∨ i = 9) → χ.1 i = σ.1 i) (hx2 : χ.2 = σ.2) (h4 : χ.1 4 = 0 ∨ χ.1 4 = σ.1 4) (hs : ShF χ v ω) : RfI (j + 1) ω := by
  have M1 : MI 0 X g l B h' χ := MI_c hM (hx 54 (by decide)) (hx 55 (by decide)) (hx 63 (by decide)) (hx 72 (by decide)) (by rw [hx2])
  have M2 := MI_sf M1 hv hs
  obtain ⟨f1, f2, f3, f4, f5, f6, f7⟩ := id hs
  have nn : ∀ i, ¬ (i = 2 ∨ i = 4 ∨ i = 8 ∨ i = 9 ∨ i = 79 ∨ i = 84 ∨ i = 93 ∨ i = 120) → ω.1 i = σ.1 i := fun i hi => (f1 i (by omega)).trans (hx i (by omega))
  have rr : ∀ a, ¬ (a = 40 ∨ a = 42 ∨ a = 48 ∨ a = 49 ∨ a = 57) → ω.2.2 a = σ.2.2 a := fun a ha => (f3 a ha).trans (by rw [hx2])
  obtain ⟨n, t1, _, t3⟩ := id h.1.2.2.2.2.2.2.1
  refine RfI_sm h ⟨fun i hi => nn i (by omega), fun a ha => rr a (by omega), by rw [f2, hx2]⟩ ⟨_, _, _, _, _, M2⟩ (fun a ha => rr a (by omega)) (fun i hi => nn i (by omega)) ?_ f6
  rcases h4 with z | z
  · exact ⟨0, ⟨(f1 4 (by decide)).trans z, Nat.zero_le _⟩, rfl, fun i hi => absurd hi (Nat.not_lt_zero _)⟩
  · exact ⟨n, ⟨(f1 4 (by decide)).trans (z.trans t1.1), t1.2⟩, rfl, fun i hi => by rw [rr 3 (by decide)]; exact t3 i hi⟩
/-- numbers 2, 4, 8, 9, 11 alone -/
theorem RfI_nm (h : RfI j σ) (hx : ∀ i, ¬ (i = 2 ∨ i = 4 ∨ i = 8 ∨ i = 9 ∨ i = 11) → ω.1 i = σ.1 i) (hx2 : ω.2 = σ.2) (h4 : ω.1 4 = 0 ∨ ω.1 4 = σ.1 4) : RfI (j + 1) ω := by
  obtain ⟨⟨g0, l0, B0, h0, X0, m0⟩, _⟩ := id h.1
  obtain ⟨n, t1, _, t3⟩ := id h.1.2.2.2.2.2.2.1
  refine RfI_sm h ⟨fun i hi => hx i (by omega), fun a ha => by rw [hx2], by rw [hx2]⟩ ⟨g0, l0, B0, h0, X0, MI_c m0 (hx 54 (by decide)) (hx 55 (by decide)) (hx 63 (by decide)) (hx 72 (by decide)) (by rw [hx2])⟩ (fun a ha => by rw [hx2]) (fun i hi => hx i (by omega)) ?_ (by rw [hx 120 (by decide)]; exact h.1.2.2.2.2.2.2.2.1)
  rcases h4 with z | z
  · exact ⟨0, ⟨z, Nat.zero_le _⟩, rfl, fun i hi => absurd hi (Nat.not_lt_zero _)⟩
  · exact ⟨n, ⟨z.trans t1.1, t1.2⟩, rfl, fun i hi => by rw [hx2]; exact t3 i hi⟩
theorem r_fault (h : RfI j σ) : Tm (fun k => x_fault_ k 0 L σ) (fun r => RfI (j + 1) r.2) := Tm_mono s_fault_ (fun r hr => by rw [hr]; exact RfI_2 h)
theorem r_count (h : RfI j σ) : Tm (fun k => x_count k 0 L σ) (fun r => RfI (j + 1) r.2) := Tm_mono s_count (fun r hr => by obtain ⟨c, e⟩ := hr; rw [e]; exact RfI_2 h)
theorem r_shown (h : RfI j σ) : Tm (fun k => x_shown k 0 L σ) (fun r => RfI (j + 1) r.2) := Tm_mono (s_shown h.1.2.2.2.2.2.2.2.1) (fun r hr => by obtain ⟨c, e⟩ := hr; rw [e]; exact RfI_2 h)
theorem r_order (h : RfI j σ) : Tm (fun k => x_order k 0 L σ) (fun r => RfI (j + 1) r.2) := by
  obtain ⟨⟨g0, l0, B0, h0, X0, m0⟩, _⟩ := id h.1
  exact Tm_mono (s_order m0) (fun r hr => by rw [hr]; exact RfI_2 h)
theorem r_shape (h : RfI j σ) : Tm (fun k => x_shape k 0 L σ) (fun r => RfI (j + 1) r.2) := by
  obtain ⟨⟨g0, l0, B0, h0, X0, m0⟩, _⟩ := id h.1
  exact Tm_mono (s_shape m0) (fun r hr => by obtain ⟨c, e⟩ := hr; rw [e]; exact RfI_2 h)
theorem r_state (h : RfI j σ) : Tm (fun k => x_state k 0 L σ) (fun r => RfI (j + 1) r.2) := Tm_mono s_state (fun r hr => by rw [hr]; exact RfI_2 h)
theorem r_out (h : RfI j σ) : Tm (fun k => x_out k 0 L σ) (fun r => RfI (j + 1) r.2) := by
  by_cases c : ouR σ (L 1)
  · exact Tm_mono (s_outN c) (fun r hr => by rw [hr]; exact RfI_2 h)
  · obtain ⟨q, e1, e2⟩ := n_ofnn (fun z => c (Or.inr (Or.inl z)) : ¬ L 1 < 0)
    have hq : q < 60000 := by
      have : nI q < nI 60000 := by
        refine Classical.byContradiction (fun z => c (Or.inr (Or.inr (Or.inr (fun y => z ?_)))))
        rw [e1] at y; exact y
      exact (n_lt e2 (by decide)).mp this
    exact Tm_mono (s_outY e1 c hq) (fun r hr => by rw [hr]; exact RfI_2 h)
theorem r_seen (h : RfI j σ) : Tm (fun k => x_seen k 0 L σ) (fun r => RfI (j + 1) r.2) := by
  obtain ⟨⟨g0, l0, B0, h0, X0, m0⟩, _⟩ := id h.1
  refine Tm_mono (s_seen m0 h.1.2.2.2.2.2.2.2.2) (fun r hr => ?_)
  rcases hr with ⟨c, e⟩ | ⟨v, v1, v2⟩
  · rw [e]; exact RfI_2 h
  · exact RfI_sf (χ := mSc σ 2 0) h m0 v1 (fun i hi => (show upd σ.1 2 0 i = σ.1 i from upd_other (by omega))) rfl (Or.inr (show upd σ.1 2 0 4 = σ.1 4 from upd_other (by decide))) v2
theorem r_value (h : RfI j σ) : Tm (fun k => x_value k 0 L σ) (fun r => RfI (j + 1) r.2) := by
  by_cases c : σ.1 112 = 0
  · exact Tm_mono (s_valueN c) (fun r hr => by rw [hr]; exact RfI_2 h)
  · obtain ⟨⟨g0, l0, B0, h0, X0, m0⟩, _⟩ := id h.1
    obtain ⟨n, t1, _, t3⟩ := id h.1.2.2.2.2.2.2.1
    obtain ⟨z1, TX, u, p, nX, g, t, KB, S, a1, a2, a3, a4, a5, _⟩ := h.2.resolve_left (fun z => c z.2)
    have e1 := a3.1.2.2.1.2.2.2.2
    refine Tm_mono (s_value m0 a4 (by omega) t1 c) (fun r hr => ?_)
    rcases hr with e | ⟨v, v1, v2⟩
    · rw [e]
      refine RfI_nm h (fun i hi => ?_) rfl (Or.inr ?_)
      · show upd (upd (upd (upd σ.1 2 0) 8 0) 9 (σ.1 4)) 2 2 i = _
        rw [upd_other (by omega), upd_other (by omega), upd_other (by omega), upd_other (by omega)]
      · show upd (upd (upd (upd σ.1 2 0) 8 0) 9 (σ.1 4)) 2 2 4 = _
        rw [upd_other (by decide), upd_other (by decide), upd_other (by decide), upd_other (by decide)]
    · refine RfI_sf (χ := mSc (mVl σ) 4 0) h m0 v1 (fun i hi => ?_) rfl (Or.inl (show upd (upd (upd (upd σ.1 2 0) 8 0) 9 (σ.1 4)) 4 0 4 = 0 from upd_same)) v2
      show upd (upd (upd (upd σ.1 2 0) 8 0) 9 (σ.1 4)) 4 0 i = _
      rw [upd_other (by omega), upd_other (by omega), upd_other (by omega), upd_other (by omega)]
theorem r_round (h : RfI j σ) : Tm (fun k => x_round k 0 L σ) (fun r => RfI (j + 1) r.2) := by
  by_cases c : σ.1 112 = 0
  · exact Tm_mono (s_roundN c) (fun r hr => by rw [hr]; exact RfI_2 h)
  · obtain ⟨hB, hP⟩ := h
    obtain ⟨r1, r2, r3, r4, r5, r6, ⟨n, r7⟩, r8, r9⟩ := id hB
    obtain ⟨z1, TX, u, p, nX, g, t, KB, S, a1, a2, a3, a4, a5, C, K, z0, x66, sd, ri, ps⟩ := hP.resolve_left (fun z => c z.2)
    obtain ⟨m, m1, m2⟩ := ps c
    have k18 : Tm (fun k => x_round k 0 L σ) (fun r => r.2.2.2 18 = σ.2.2 18) := by
      obtain ⟨r, k0, h1, _⟩ := s_round a3.1 m2 a4 r7 a5 c (L := L)
      exact ⟨r, k0, h1, ku_round k0 0 L σ r (h1 k0 (Nat.le_refl _))⟩
    refine Tm_mono (Tm_and (s_round a3.1 m2 a4 r7 a5 c) k18) (fun r hr => ?_)
    obtain ⟨⟨y1, y2, y3, ⟨Tp', y4, _⟩, y5, y6⟩, y7⟩ := hr
    obtain ⟨q1, q2, q3, q4, _, q6, q7, q8, q9, q10⟩ := id y1.1
    obtain ⟨V, v1, v2, _⟩ := id y3
    refine ⟨⟨q1, q3, by rw [q4.2]; exact q4.1, fun p hp => by rw [y7]; exact r4 p hp, y2.1, q9, ⟨n, y4.1, rfl, fun i hi => by rw [y4.2.1]; exact y4.2.2 i hi⟩, by rw [y5 120 (by omega)]; exact r8, ⟨V, v1, v2⟩⟩, Or.inr ⟨by rw [y5 111 (by omega)]; exact z1, TX, u, p, nX, g, t, KB, S, ⟨a1.1, (y5 115 (by omega)).trans a1.2.1, fun i hi => by rw [y6 53 (by omega)]; exact a1.2.2 i hi⟩, a2, a3, y2, y3, C, K, z0, x66, sd, y1.1, fun _ => ⟨m, by omega, y1⟩⟩⟩
theorem r_work {J : Nat → Int64} (h : RfI j σ) : Tm (fun k => x_work k 0 L J σ) (fun r => RfI (j + 1) r.2) := by
  by_cases c : σ.1 112 = 0
  · refine Tm_suc (fun k => by rw [x_work]) ?_
    refine Tm_ite (fun _ => ?_) (fun z => absurd c z)
    refine Tm_suc (fun k => by rw [x_work]) ?_
    refine Tm_suc (fun k => by rw [x_work]) ?_
    refine Tm_ob (s_good _ _) (fun r hr => ?_)
    rw [hr]
    refine Tm_ite (fun _ => ?_) (fun z => absurd rfl z)
    exact Tm_some (RfI_2 h)
  · obtain ⟨hB, hP⟩ := h
    obtain ⟨r1, r2, r3, r4, r5, r6, ⟨n, r7⟩, r8, r9⟩ := id hB
    obtain ⟨z1, TX, u, p, nX, g, t, KB, S, a1, a2, a3, a4, a5, C, K, z0, x66, sd, ri, ps⟩ := hP.resolve_left (fun z => c z.2)
    obtain ⟨m, m1, m2⟩ := ps c
    have eb := a3.1.2.2.1
    refine Tm_mono (s_work a3.1 m2 a4 r7 c) (fun r hr => ?_)
    obtain ⟨y1, y2, y3, y4, _⟩ := hr
    obtain ⟨q1, q2, q3, q4, _, q6, q7, q8, q9, q10⟩ := id y1.1
    obtain ⟨o1, o2, o3, o4⟩ := id y2
    refine ⟨⟨q1, q3, by rw [q4.2]; exact q4.1, fun p hp => by rw [o2 18 (by omega)]; exact r4 p hp, (o2 1 (by omega)).trans r5, q9, ⟨0, ⟨y3, Nat.zero_le _⟩, rfl, fun i hi => absurd hi (Nat.not_lt_zero _)⟩, ?_, by rw [o1 73 (by omega)]; exact r9⟩, Or.inr ⟨by rw [o1 111 (by omega)]; exact z1, TX, u, p, nX, g, t, KB, S, ⟨a1.1, (o1 115 (by omega)).trans a1.2.1, fun i hi => by rw [o2 53 (by omega)]; exact a1.2.2 i hi⟩, a2, a3, PG_of y2 (by omega) a4, VwO_c (o1 73 (by omega)) (o2 54 (by omega)) (o2 55 (by omega)) a5, C, K, z0, x66, sd, y1.1, fun _ => ⟨m, by omega, y1⟩⟩⟩
    rcases y4 with e | e
    · rw [e]; exact r8
    · exact e
theorem r_view (h : RfI j σ) : Tm (fun k => x_view k 0 L σ) (fun r => RfI (j + 1) r.2) := by
  by_cases c : σ.1 111 = 0
  · refine Tm_suc (fun k => by rw [x_view]) ?_
    refine Tm_ite (fun _ => ?_) (fun z => absurd c z)
    refine Tm_suc (fun k => by rw [x_view]) ?_
    refine Tm_ob (s_good _ _) (fun r hr => ?_)
    rw [hr]
    refine Tm_ite (fun _ => ?_) (fun z => absurd rfl z)
    exact Tm_some (RfI_2 h)
  · obtain ⟨hB, hP⟩ := id h
    obtain ⟨r1, r2, r3, r4, r5, r6, ⟨n, r7⟩, r8, r9⟩ := id hB
    obtain ⟨z1, TX, u, p, nX, g, t, KB, S, a1, a2, a3, a4, a5, C, K, z0, x66, sd, ri, ps⟩ := hP.resolve_left (fun z => c z.1)
    have eb := a3.1.2.2.1
    refine Tm_mono (s_view ri eb.2.2 a4 r7 a5 c) (fun r hr => ?_)
    rcases hr with e | ⟨ae, y2, y3, y4, _, y6, y7, y8, y9⟩
    · rw [e]; exact RfI_2 h
    · have ri' := RIc_ae ae y3 ri
      obtain ⟨q1, q2, q3, q4, _, q6, q7, q8, q9, q10⟩ := id ri'
      obtain ⟨V, v1, v2, _⟩ := id y6
      refine ⟨⟨y3, q3, by rw [q4.2]; exact q4.1, fun p hp => by rw [y8 18 (by omega)]; exact r4 p hp, y2.1, q9, ⟨0, ⟨y9, Nat.zero_le _⟩, rfl, fun i hi => absurd hi (Nat.not_lt_zero _)⟩, by rw [y7 120 (by omega)]; exact r8, ⟨V, v1, v2⟩⟩, Or.inr ⟨by rw [y7 111 (by omega)]; exact z1, TX, u, p, nX, g, t, KB, S, ⟨a1.1, (y7 115 (by omega)).trans a1.2.1, fun i hi => by rw [y8 53 (by omega)]; exact a1.2.2 i hi⟩, a2, a3, y2, y6, C, K, z0, x66, sd, ri', fun y => ?_⟩⟩
      rw [y7 112 (by omega)] at y
      obtain ⟨m, m1, m2⟩ := ps y
      exact ⟨m, by omega, PSt_ae a3.1.1.1 ae y3 (y4 (PSt_UT m2).1) m2⟩
theorem r_end (h : RfI j σ) : Tm (fun k => x_end k 0 L σ) (fun r => RfI (j + 1) r.2) := by
  refine Tm_mono (s_end L σ) (fun r hr => ?_)
  by_cases c : ¬ L 1 < 0 ∧ L 1 ≤ σ.1 4
  · rw [if_pos c] at hr
    obtain ⟨q, e1, e2⟩ := n_ofnn c.1
    obtain ⟨⟨g0, l0, B0, h0, X0, m0⟩, _⟩ := id h.1
    obtain ⟨n, t1, _, t3⟩ := id h.1.2.2.2.2.2.2.1
    have hq : q ≤ n := by
      have := c.2
      rw [e1, t1.1] at this
      exact (n_le e2 (by have := t1.2; omega)).mp this
    have o : ∀ i, ¬ (i = 2 ∨ i = 4) → r.2.1 i = σ.1 i := fun i hi => by
      rw [hr]; show upd (upd σ.1 2 0) 4 (L 1) i = _
      rw [upd_other (by omega), upd_other (by omega)]
    have o2 : r.2.2 = σ.2 := by rw [hr]
    refine RfI_sm h ⟨fun i hi => o i (by omega), fun a ha => by rw [o2], by rw [o2]⟩ ⟨g0, l0, B0, h0, X0, MI_c m0 (o 54 (by decide)) (o 55 (by decide)) (o 63 (by decide)) (o 72 (by decide)) (by rw [o2])⟩ (fun a ha => by rw [o2]) (fun i hi => o i (by omega)) ⟨q, ⟨?_, by have := t1.2; omega⟩, rfl, fun i hi => by rw [o2]; exact t3 i (by omega)⟩ (by rw [o 120 (by decide)]; exact h.1.2.2.2.2.2.2.2.1)
    rw [hr]
    show upd (upd σ.1 2 0) 4 (L 1) 4 = nI q
    rw [upd_same, e1]
  · rw [if_neg c] at hr
    rw [hr]; exact RfI_2 (x := 1) h
theorem r_feed (h : RfI j σ) : Tm (fun k => x_feed k 0 L σ) (fun r => RfI (j + 1) r.2) := by
  obtain ⟨⟨g0, l0, B0, h0, X0, m0⟩, _⟩ := id h.1
  obtain ⟨n, t1, _, t3⟩ := id h.1.2.2.2.2.2.2.1
  have tn := t1.2
  have e4 : (σ.1 4).toInt = n := by rw [t1.1, n_int (by omega)]
  have c4 : (σ.1 4).toNatClampNeg = n := by rw [t1.1, n_cl (p := n) (by omega)]
  refine Tm_mono (s_feed L σ (by omega) (by omega)) (fun r hr => ?_)
  by_cases c : (σ.1 4).toInt + 20 ≤ 32768
  · rw [if_pos c] at hr
    obtain ⟨hr, _⟩ := hr
    obtain ⟨k1, k2, k3⟩ := mTape_rest (upd σ.1 2 0, σ.2.1, σ.2.2) L 20
    have f4 : (upd σ.1 2 0) 4 = σ.1 4 := upd_other (by decide)
    have ln := mTape_len (upd σ.1 2 0, σ.2.1, σ.2.2) L (by show 0 ≤ ((upd σ.1 2 0) 4).toInt; rw [f4]; omega) 20 (by show ((upd σ.1 2 0) 4).toInt + _ ≤ _; rw [f4]; omega)
    have ol := mTape_old (upd σ.1 2 0, σ.2.1, σ.2.2) L (by show 0 ≤ ((upd σ.1 2 0) 4).toInt; rw [f4]; omega) 20 (by show ((upd σ.1 2 0) 4).toInt + _ ≤ _; rw [f4]; omega)
    have nw := mTape_new (upd σ.1 2 0, σ.2.1, σ.2.2) L (by show 0 ≤ ((upd σ.1 2 0) 4).toInt; rw [f4]; omega) 20 (by show ((upd σ.1 2 0) 4).toInt + _ ≤ _; rw [f4]; omega)
    have ln : ((mTape (upd σ.1 2 0, σ.2.1, σ.2.2) L 20).1 4).toInt = ((upd σ.1 2 0) 4).toInt + (20 : Nat) := ln
    rw [f4] at ln
    have o : ∀ i, ¬ (i = 2 ∨ i = 4) → r.2.1 i = σ.1 i := fun i hi => by
      rw [hr, k2 i (by omega)]; exact upd_other (by omega)
    have o2 : ∀ a, a ≠ 3 → r.2.2.2 a = σ.2.2 a := fun a ha => by rw [hr, k3 a ha]
    refine RfI_sm h ⟨fun i hi => o i (by omega), fun a ha => o2 a (by omega), by rw [hr, k1]⟩ ⟨g0, l0, B0, h0, X0, MI_x m0 (o 54 (by decide)) (o 55 (by decide)) (o 63 (by decide)) (o 72 (by decide)) (fun a h1 h2 => o2 a (by omega))⟩ (fun a ha => o2 a (by omega)) (fun i hi => o i (by omega)) ⟨n + 20, ⟨?_, by omega⟩, rfl, fun i hi => ?_⟩ (by rw [o 120 (by decide)]; exact h.1.2.2.2.2.2.2.2.1)
    · rw [hr, n_ofpos (x := (mTape (upd σ.1 2 0, σ.2.1, σ.2.2) L 20).1 4) (by omega), ln, e4]
      congr 1
    · rw [hr]
      by_cases e : i < n
      · rw [ol i (by show (i : Int) < ((upd σ.1 2 0) 4).toInt; rw [f4]; omega)]; exact t3 i e
      · have := nw (i - n) (by omega)
        have e' : ((upd σ.1 2 0) 4).toNatClampNeg + (i - n) = i := by rw [f4, c4]; omega
        rw [show ((upd σ.1 2 0, σ.2.1, σ.2.2) : MS).1 4 = (upd σ.1 2 0) 4 from rfl, e'] at this
        rw [this]
        exact n_and8 _
  · rw [if_neg c] at hr
    rw [hr]; exact RfI_2 (x := 1) h
/-- the first state -/
theorem r_0 : RfI 0 ms0 := by
  have z : ∀ a i, 28 ≤ a → ms0.2.2 a i = 0 := fun a i ha => by
    show (if a = 1 then (mT mWords 264) else if a = 2 then (mT mTypes 37) else nZ) i = 0
    rw [if_neg (by omega), if_neg (by omega)]
  have nz : (0 : Int32) = nI 0 := rfl
  refine ⟨⟨⟨fun _ => False, [], 0, 4, 870000, ?_⟩, fun i _ => z 33 i (by decide), ?_, fun p _ => ⟨0, by decide, rfl⟩, rfl, rfl, ⟨0, ⟨rfl, Nat.zero_le _⟩, rfl, fun i hi => absurd hi (Nat.not_lt_zero _)⟩, ⟨0, rfl, by decide⟩, ⟨0, rfl, by decide⟩⟩, Or.inl ⟨rfl, rfl⟩⟩
  · refine MI_any ⟨rfl, Or.inl rfl, rfl, by decide, ?_⟩ ⟨0, 0, rfl, by decide, rfl, by decide, ⟨0, 0, z 30 1 (by decide), by decide, z 30 3 (by decide), by decide⟩, fun p hp => absurd hp (Nat.not_lt_zero _)⟩ (fun a i hR => ?_)
    · exact ⟨rfl, fun v hv => hv.elim⟩
    · have := RtP_r hR
      rw [z a i (by omega)]
      exact ⟨0, rfl, Or.inl (by decide)⟩
  · exact ⟨by decide +kernel, by decide +kernel, by decide +kernel, by decide +kernel, by decide +kernel, by decide +kernel, by decide +kernel⟩
end RCM
end JnS339
section JnS340
/-! The class: bits of handles and headers. -/
/-- its bits as a number -/
def uN (x : Int32) : Nat := x.toBitVec.toNat
theorem u_lt (x : Int32) : uN x < 4294967296 := x.toBitVec.isLt
theorem u_of (x : Int32) : x = nI (uN x) := n_ofbv x
theorem u_n {m : Nat} (h : m < 4294967296) : uN (nI m) = m := by
  show (Int32.ofNat m).toBitVec.toNat = m
  rw [Int32.toBitVec_ofNat', BitVec.toNat_ofNat]
  exact Nat.mod_eq_of_lt h
theorem u_int (x : Int32) : x.toInt = if uN x < 2147483648 then (uN x : Int) else (uN x : Int) - 4294967296 := by
  show x.toBitVec.toInt = _
  rw [BitVec.toInt_eq_toNat_cond]
  show (if 2 * uN x < 2 ^ 32 then (uN x : Int) else (uN x : Int) - ((2 ^ 32 : Nat) : Int)) = _
  by_cases c : uN x < 2147483648
  · rw [if_pos c, if_pos (by omega)]
  · rw [if_neg c, if_neg (by omega)]; rfl
theorem u_and (x y : Int32) : uN (x &&& y) = uN x &&& uN y := by
  unfold uN; rw [Int32.toBitVec_and, BitVec.toNat_and]
theorem u_or (x y : Int32) : uN (x ||| y) = uN x ||| uN y := by
  unfold uN; rw [Int32.toBitVec_or, BitVec.toNat_or]
theorem u_shr (x s : Int32) {k : Nat} (hs : (s.toUInt32 &&& Int32.toUInt32 31).toBitVec.toNat % 32 = k) : uN ((x.toUInt32 >>> (s.toUInt32 &&& Int32.toUInt32 31)).toInt32) = uN x / 2 ^ k := by
  show (x.toUInt32 >>> (s.toUInt32 &&& Int32.toUInt32 31)).toBitVec.toNat = _
  rw [UInt32.toBitVec_shiftRight]
  show (x.toBitVec >>> ((s.toUInt32 &&& Int32.toUInt32 31).toBitVec % 32)).toNat = _
  rw [BitVec.ushiftRight_eq', show ((s.toUInt32 &&& Int32.toUInt32 31).toBitVec % 32).toNat = k from by rw [BitVec.toNat_umod]; exact hs, BitVec.toNat_ushiftRight, Nat.shiftRight_eq_div_pow]
  rfl
theorem u_and7 (x : Int32) : x &&& 7 = nI (uN x % 8) := by
  rw [u_of (x &&& 7), u_and]
  exact congrArg nI (Nat.and_two_pow_sub_one_eq_mod (uN x) 3)
theorem u_and12 (x : Int32) : x &&& 4095 = nI (uN x % 4096) := by
  rw [u_of (x &&& 4095), u_and]
  exact congrArg nI (Nat.and_two_pow_sub_one_eq_mod (uN x) 12)
theorem u_and10 (x : Int32) : x &&& 1023 = nI (uN x % 1024) := by
  rw [u_of (x &&& 1023), u_and]
  exact congrArg nI (Nat.and_two_pow_sub_one_eq_mod (uN x) 10)
theorem u_and28 (x : Int32) : x &&& 268435455 = nI (uN x % 268435456) := by
  rw [u_of (x &&& 268435455), u_and]
  exact congrArg nI (Nat.and_two_pow_sub_one_eq_mod (uN x) 28)
theorem u_and8 (x : Int32) : x &&& 255 = nI (uN x % 256) := by
  rw [u_of (x &&& 255), u_and]
  exact congrArg nI (Nat.and_two_pow_sub_one_eq_mod (uN x) 8)
/-- the tag -/
theorem u_tag (x : Int32) : x &&& (-268435456) = nI (uN x / 268435456 * 268435456) := by
  rw [u_of (x &&& (-268435456)), u_and]
  congr 1
  show uN x &&& 4026531840 = _
  have h := u_lt x
  have e : uN x &&& 4026531840 = (uN x / 2 ^ 28 &&& 15) * 2 ^ 28 := by
    apply Nat.eq_of_testBit_eq
    intro i
    rw [Nat.testBit_and, Nat.testBit_mul_two_pow]
    have e2 : Nat.testBit 4026531840 i = (decide (28 ≤ i) && Nat.testBit 15 (i - 28)) := by
      rw [show (4026531840 : Nat) = 15 * 2 ^ 28 from rfl, Nat.testBit_mul_two_pow]
    rw [e2]
    by_cases c : 28 ≤ i
    · rw [decide_eq_true c, Bool.true_and, Bool.true_and, Nat.testBit_and, Nat.testBit_div_two_pow]
      congr 2
      omega
    · rw [decide_eq_false c, Bool.false_and, Bool.and_false, Bool.false_and]
  rw [e, show (15 : Nat) = 2 ^ 4 - 1 from rfl, Nat.and_two_pow_sub_one_eq_mod, Nat.mod_eq_of_lt (by omega)]
/-- below nought or not -/
theorem u_neg (x : Int32) : x < 0 ↔ 2147483648 ≤ uN x := by
  rw [i_lt, u_int]
  show (if uN x < 2147483648 then (uN x : Int) else (uN x : Int) - 4294967296) < 0 ↔ _
  have := u_lt x
  split <;> omega
theorem u_nn (x : Int32) : 0 ≤ x ↔ uN x < 2147483648 := by
  rw [i_le, u_int x]
  show 0 ≤ (if uN x < 2147483648 then (uN x : Int) else (uN x : Int) - 4294967296) ↔ _
  have := u_lt x
  split <;> omega
theorem u_cl {x : Int32} (h : uN x < 2147483648) : x.toNatClampNeg = uN x := by
  have e := u_of x
  rw [e, n_cl h, u_n (u_lt x)]
theorem u_in {x : Int32} {n : Nat} (h : uN x < n) (hn : n ≤ 2147483648) : ¬ (x < 0 ∨ n ≤ x.toNatClampNeg) := by
  rw [u_neg, u_cl (by omega)]
  omega
theorem u_eq {x y : Int32} : x = y ↔ uN x = uN y := by
  constructor
  · intro e; rw [e]
  · intro e; rw [u_of x, u_of y, e]
theorem u_le {x y : Int32} (hx : uN x < 2147483648) (hy : uN y < 2147483648) : x ≤ y ↔ uN x ≤ uN y := by
  rw [i_le, u_int, u_int, if_pos hx, if_pos hy]; omega
theorem u_ltn {x y : Int32} (hx : uN x < 2147483648) (hy : uN y < 2147483648) : x < y ↔ uN x < uN y := by
  rw [i_lt, u_int, u_int, if_pos hx, if_pos hy]; omega
theorem u_add {x y : Int32} (h : uN x + uN y < 4294967296) : uN (x + y) = uN x + uN y := by
  show (x.toBitVec + y.toBitVec).toNat = _
  rw [BitVec.toNat_add]
  exact Nat.mod_eq_of_lt h
theorem u_sub {x y : Int32} (h : uN y ≤ uN x) : uN (x - y) = uN x - uN y := by
  show (x.toBitVec - y.toBitVec).toNat = _
  rw [BitVec.toNat_sub]
  have h1 := u_lt x
  have h2 := u_lt y
  show (2 ^ 32 - uN y + uN x) % 2 ^ 32 = _
  omega
theorem u_sar2 {x : Int32} (h : uN x < 2147483648) : uN (x >>> ((2 : Int32) &&& 31)) = uN x / 4 := by
  show (x.toBitVec.sshiftRight' (((2 : Int32) &&& 31).toBitVec.smod 32)).toNat = _
  rw [BitVec.sshiftRight_eq', show (((2 : Int32) &&& 31).toBitVec.smod 32).toNat = 2 from by decide, BitVec.sshiftRight_eq_of_msb_false (by rw [BitVec.msb_eq_decide]; exact decide_eq_false (by show ¬ 2 ^ 31 ≤ uN x; omega)), BitVec.toNat_ushiftRight, Nat.shiftRight_eq_div_pow]
  rfl
theorem u_shl {x : Int32} (s : Int32) {k : Nat} (hs : (s.toBitVec.smod 32).toNat = k) (h : uN x * 2 ^ k < 4294967296) : uN (x <<< s) = uN x * 2 ^ k := by
  show (x.toBitVec <<< (s.toBitVec.smod 32)).toNat = _
  rw [BitVec.shiftLeft_eq', hs, BitVec.toNat_shiftLeft, Nat.shiftLeft_eq]
  exact Nat.mod_eq_of_lt h
/-- bits that lie apart -/
theorem u_orA {x y : Int32} {k a : Nat} (h : uN x < 2 ^ k) (e : uN y = a * 2 ^ k) : uN (x ||| y) = uN x + uN y := by
  rw [u_or, e, Nat.or_comm, ← Nat.shiftLeft_eq, ← Nat.shiftLeft_add_eq_or_of_lt h, Nat.add_comm]
/-- of a header: kind, how many, ints behind it, size, height -/
def hdK (H : Nat) : Nat := H % 8
def hdL (H : Nat) : Nat := H / 16 % 4096
def hdW (H : Nat) : Nat := if H % 8 = 4 then (hdL H + 3) / 4 else hdL H
def hdS (H : Nat) : Nat := H / 65536 % 1024
def hdT (H : Nat) : Nat := H / 67108864
theorem e_len (H : Int32) : (((H.toUInt32 >>> ((4 : Int32).toUInt32 &&& Int32.toUInt32 31)).toInt32) &&& 4095) = nI (hdL (uN H)) := by
  rw [u_and12, u_shr H 4 (k := 4) (by decide)]; rfl
theorem e_siz (H : Int32) : (((H.toUInt32 >>> ((16 : Int32).toUInt32 &&& Int32.toUInt32 31)).toInt32) &&& 1023) = nI (hdS (uN H)) := by
  rw [u_and10, u_shr H 16 (k := 16) (by decide)]; rfl
theorem e_hgt (H : Int32) : ((H.toUInt32 >>> ((26 : Int32).toUInt32 &&& Int32.toUInt32 31)).toInt32) = nI (hdT (uN H)) := by
  rw [u_of ((H.toUInt32 >>> ((26 : Int32).toUInt32 &&& Int32.toUInt32 31)).toInt32), u_shr H 26 (k := 26) (by decide)]; rfl
theorem e_knd (H : Int32) : H &&& 7 = nI (hdK (uN H)) := u_and7 H
theorem e_low (H : Int32) : H &&& 65535 = nI (uN H % 65536) := by
  rw [u_of (H &&& 65535), u_and]
  exact congrArg nI (Nat.and_two_pow_sub_one_eq_mod (uN H) 16)
theorem e_imm (H : Int32) : (((H.toUInt32 >>> ((28 : Int32).toUInt32 &&& Int32.toUInt32 31)).toInt32) &&& 7) = nI (uN H / 268435456 % 8) := by
  rw [u_and7, u_shr H 28 (k := 28) (by decide)]
/-- the flag -/
theorem e_flg (H : Int32) : H &&& 8 = 0 ↔ uN H / 8 % 2 = 0 := by
  rw [u_eq, u_and]
  show uN H &&& 8 = 0 ↔ _
  have e : uN H &&& 8 = (uN H / 2 ^ 3 &&& 1) * 2 ^ 3 := by
    apply Nat.eq_of_testBit_eq
    intro i
    rw [Nat.testBit_and, Nat.testBit_mul_two_pow]
    have e2 : Nat.testBit 8 i = (decide (3 ≤ i) && Nat.testBit 1 (i - 3)) := by
      rw [show (8 : Nat) = 1 * 2 ^ 3 from rfl, Nat.testBit_mul_two_pow]
    rw [e2]
    by_cases c : 3 ≤ i
    · rw [decide_eq_true c, Bool.true_and, Bool.true_and, Nat.testBit_and, Nat.testBit_div_two_pow]
      congr 2
      omega
    · rw [decide_eq_false c, Bool.false_and, Bool.and_false, Bool.false_and]
  rw [e, show (1 : Nat) = 2 ^ 1 - 1 from rfl, Nat.and_two_pow_sub_one_eq_mod]
  show uN H / 8 % 2 * 8 = 0 ↔ _
  omega
/-- a value (or an error): held by its handle, or a good cell -/
def Gv (g : Nat → Prop) (x : Int32) : Prop := (2147483648 ≤ uN x ∧ (uN x < 3489660928 ∨ (4026531840 ≤ uN x ∧ ¬ uN x % 16 = 0))) ∨ (uN x < 160000 ∧ g (uN x))
/-- an error -/
def Rw (x : Int32) : Prop := 4026531840 ≤ uN x ∧ ¬ uN x % 16 = 0
/-- a number of the machine's own, or an error -/
def Rr (x : Int32) : Prop := 4026531840 ≤ uN x
/-- a value, or such a number -/
def Gw (g : Nat → Prop) (x : Int32) : Prop := Gv g x ∨ Rr x
/-- how high a value is -/
def hgt (M : Nat → Int32) (x : Int32) : Nat := if uN x < 2147483648 then hdT (uN (M (uN x))) else 0
/-- a good cell -/
def CGo (M : Nat → Int32) (g : Nat → Prop) (t p : Nat) : Prop := uN (M p) < 2147483648 ∧ p + hdW (uN (M p)) < t ∧ (hdK (uN (M p)) = 2 ∨ hdK (uN (M p)) = 4 ∨ hdK (uN (M p)) = 5 ∨ hdK (uN (M p)) = 6) ∧ (hdT (uN (M p)) ≤ 30 ∧ 1 ≤ hdS (uN (M p))) ∧ (hdK (uN (M p)) = 2 → 1 ≤ hdL (uN (M p)) ∧ hdL (uN (M p)) ≤ 32) ∧ (5 ≤ hdK (uN (M p)) → hdL (uN (M p)) ≤ 999 ∧ 1 ≤ hdT (uN (M p)) ∧ ∀ i, i < hdL (uN (M p)) → Gv g (M (p + 1 + i)) ∧ hgt M (M (p + 1 + i)) < hdT (uN (M p))) ∧ (hdK (uN (M p)) = 6 → uN (M p) / 8 % 2 = 1 → ∀ i, i < hdL (uN (M p)) → uN (M (p + 1 + i)) < 2147483648 ∧ uN (M (uN (M (p + 1 + i)))) % 65536 = 37)
/-- cells one behind the other -/
def TlC (M : Nat → Int32) (t : Nat) : Nat → List Nat → Prop
  | a, [] => a = t
  | a, p :: l => p = a ∧ uN (M p) < 2147483648 ∧ p + 1 + hdW (uN (M p)) ≤ t ∧ TlC M t (p + 1 + hdW (uN (M p))) l
/-- the heap of the house -/
def HQ (g : Nat → Prop) (l : List Nat) (t : Nat) (σ : CS) : Prop := σ.1 1 = nI t ∧ (3 ≤ t ∧ t ≤ sN σ 3) ∧ ((sN σ 3 = 16384 ∧ sN σ 1 = 512 ∧ sN σ 2 = 512) ∨ (sN σ 3 = 160000 ∧ sN σ 1 = 5000 ∧ sN σ 2 = 5000)) ∧ (g 0 ∧ g 1 ∧ g 2) ∧ (σ.2.2.1 3 0 = 65540 ∧ σ.2.2.1 3 1 = 67174405 ∧ σ.2.2.1 3 2 = 67174414) ∧ TlC (σ.2.2.1 3) t 3 l ∧ ∀ p, g p → (p < 3 ∨ p ∈ l) ∧ CGo (σ.2.2.1 3) g t p
section CRD
variable {g : Nat → Prop} {l : List Nat} {t : Nat} {σ : CS} {L : LV} {x : Int32}
theorem HQ_n (h : HQ g l t σ) : sN σ 3 ≤ 160000 := by
  rcases h.2.2.1 with z | z <;> omega
theorem HQ_c (h : HQ g l t σ) {p : Nat} (hp : g p) : p < t ∧ t ≤ sN σ 3 ∧ sN σ 3 ≤ 160000 ∧ p + hdW (uN (σ.2.2.1 3 p)) < t ∧ CGo (σ.2.2.1 3) g t p := by
  have a := (h.2.2.2.2.2.2 p hp).2
  have b := a.2.1
  exact ⟨by omega, h.2.1.2, HQ_n h, b, a⟩
/-- a value below nought or not -/
theorem Gv_i (h : Gv g x) : (x < 0 ∧ 2147483648 ≤ uN x ∧ (uN x < 3489660928 ∨ 4026531840 ≤ uN x)) ∨ (¬ x < 0 ∧ uN x < 160000 ∧ g (uN x)) := by
  rcases h with ⟨a, b⟩ | ⟨a, b⟩
  · exact Or.inl ⟨(u_neg x).2 a, a, b.imp id And.left⟩
  · exact Or.inr ⟨by rw [u_neg]; omega, a, b⟩
theorem Gv_c (h : Gv g x) (c : uN x < 2147483648) : uN x < 160000 ∧ g (uN x) := by
  rcases h with ⟨a, b⟩ | ⟨a, b⟩
  · omega
  · exact ⟨a, b⟩
theorem Gw_c (h : Gw g x) (c : uN x < 2147483648) : uN x < 160000 ∧ g (uN x) := by
  rcases h with h | h
  · exact Gv_c h c
  · have z : 4026531840 ≤ uN x := h
    omega
theorem Gw_sg {g' : Nat → Prop} (h : Gw g x) (hs : ∀ p, g p → g' p) : Gw g' x := h.imp (fun h => h.imp id (fun ⟨a, b⟩ => ⟨a, hs _ b⟩)) id
/-- an error among values -/
theorem er_of (h : Gv g x ∨ Rw x) (e : Rr x) : Rw x := by
  rcases h with h | h
  · have z : 4026531840 ≤ uN x := e
    rcases h with w | w
    · exact ⟨z, by omega⟩
    · omega
  · exact h
theorem Gv_sg {g' : Nat → Prop} (h : Gv g x) (hs : ∀ p, g p → g' p) : Gv g' x := h.imp id (fun ⟨a, b⟩ => ⟨a, hs _ b⟩)
/-- a good cell is in the row -/
theorem in_g (h : HQ g l t σ) (hv : Gv g x) (c : uN x < 2147483648) : ¬ (x < 0 ∨ sN σ 3 ≤ x.toNatClampNeg) := by
  have a := Gv_c hv c
  have b := HQ_c h a.2
  exact u_in (by omega) (by omega)
/-- and what is in it -/
theorem in_gi {y : Int32} (h : HQ g l t σ) (hv : Gv g x) (c : uN x < 2147483648) (hy : uN y ≤ hdW (uN (σ.2.2.1 3 (uN x)))) : ¬ (x + y < 0 ∨ sN σ 3 ≤ (x + y).toNatClampNeg) ∧ (x + y).toNatClampNeg = uN x + uN y := by
  have a := Gv_c hv c
  have b := HQ_c h a.2
  have e : uN (x + y) = uN x + uN y := u_add (by omega)
  exact ⟨u_in (by omega) (by omega), by rw [u_cl (by omega), e]⟩
/-- the kind of a value -/
def kdC (M : Nat → Int32) (x : Int32) : Nat := if uN x < 2147483648 then hdK (uN (M (uN x))) else uN x / 268435456 % 8
theorem kdC_7 (h : HQ g l t σ) (hx : Gv g x) (k : kdC (σ.2.2.1 3) x = 7) : 2147483648 ≤ uN x := by
  rcases Nat.lt_or_ge (uN x) 2147483648 with z | z
  · have q := (HQ_c h (Gv_c hx z).2).2.2.2.2.2.2.1
    unfold kdC at k
    rw [if_pos z] at k
    omega
  · exact z
/-- a row's kind by its handle is that of a cell -/
theorem kdC_5 (hx : Gv g x) {M : Nat → Int32} (k : 5 ≤ kdC M x) (k7 : ¬ kdC M x = 7) : uN x < 2147483648 := by
  rcases Nat.lt_or_ge (uN x) 2147483648 with z | z
  · exact z
  · unfold kdC at k k7
    rw [if_neg (by omega)] at k k7
    have := u_lt x
    rcases hx with w | w <;> omega
/-- how many -/
def lnC (M : Nat → Int32) (x : Int32) : Nat := if uN x < 2147483648 then hdL (uN (M (uN x))) else if uN x / 268435456 = 12 then 1 else 0
theorem lnC_lt (M : Nat → Int32) (x : Int32) : lnC M x < 4096 := by
  unfold lnC hdL
  split
  · omega
  · split <;> omega
/-- a member -/
def mbC (M : Nat → Int32) (x y : Int32) : Int32 := if uN x < 2147483648 ∧ uN y < lnC M x then M (uN x + 1 + uN y) else -2147483648
theorem Gv_om (g : Nat → Prop) : Gv g (-2147483648) := Or.inl ⟨by decide, by decide⟩
theorem mbC_g {y : Int32} (h : HQ g l t σ) (hv : Gv g x) (hk : uN x < 2147483648 → 5 ≤ kdC (σ.2.2.1 3) x) : Gv g (mbC (σ.2.2.1 3) x y) := by
  unfold mbC
  split
  · rename_i c
    have a := Gv_c hv c.1
    have b := HQ_c h a.2
    have k := hk c.1
    unfold kdC at k
    rw [if_pos c.1] at k
    have d := c.2
    unfold lnC at d
    rw [if_pos c.1] at d
    exact ((b.2.2.2.2.2.2.2.2.2.1 k).2.2 _ d).1
  · exact Gv_om g
theorem c_kind (h : HQ g l t σ) (hv : Gv g (L.1 1)) : Tm (fun k => y_X1_kind k 0 L σ) (fun r => r = (nI (kdC (σ.2.2.1 3) (L.1 1)), σ)) := by
  unfold kdC
  refine Tm_suc (fun k => by rw [y_X1_kind]) ?_
  refine Tm_ite (fun c => ?_) (fun c => ?_)
  · rw [u_nn] at c
    rw [if_pos c]
    refine Tm_suc (fun k => by rw [y_X1_kind]) ?_
    refine Tm_chk (in_g h hv c) ?_
    refine Tm_suc (fun k => by rw [y_X1_kind]) ?_
    refine Tm_some (Prod.ext ?_ rfl)
    show σ.2.2.1 3 (L.1 1).toNatClampNeg &&& 7 = _
    rw [e_knd, u_cl c]
  · rw [u_nn] at c
    rw [if_neg c]
    refine Tm_suc (fun k => by rw [y_X1_kind]) ?_
    exact Tm_some (Prod.ext (e_imm (L.1 1)) rfl)
end CRD
end JnS340
section JnS341
/-! The class: what reads a value. -/
theorem Tm_oc {x : Nat → Option (Int32 × CS)} {f : Nat → Int32 × CS → Option (Int32 × CS)} {P Q : Int32 × CS → Prop} (t : Tm x P) (h : ∀ r, P r → Tm (fun k => f k r) Q) : Tm (fun k => oc (x k) (f k)) Q := by
  obtain ⟨r, k0, h1, h2⟩ := t
  obtain ⟨q, k1, h3, h4⟩ := h r h2
  refine ⟨q, max k0 k1, fun k hk => ?_, h4⟩
  show oc (x k) (f k) = some q
  rw [h1 k (by omega)]; exact h3 k (by omega)
/-- a call whose answer is known -/
theorem Tm_ocE {x : Nat → Option (Int32 × CS)} {f : Nat → Int32 × CS → Option (Int32 × CS)} {v : Int32 × CS} {Q : Int32 × CS → Prop} (t : Tm x (fun r => r = v)) (h : Tm (fun k => f k v) Q) : Tm (fun k => oc (x k) (f k)) Q := Tm_oc t (fun r e => by rw [e]; exact h)
section CRE
variable {g : Nat → Prop} {l : List Nat} {t : Nat} {σ : CS} {L : LV} {x : Int32}
theorem c_length (h : HQ g l t σ) (hv : Gv g (L.1 1)) : Tm (fun k => y_X1_length k 0 L σ) (fun r => r = (nI (lnC (σ.2.2.1 3) (L.1 1)), σ)) := by
  unfold lnC
  refine Tm_suc (fun k => by rw [y_X1_length]) ?_
  refine Tm_ite (fun c => ?_) (fun c => ?_)
  · rw [u_nn] at c
    rw [if_pos c]
    refine Tm_suc (fun k => by rw [y_X1_length]) ?_
    refine Tm_chk (in_g h hv c) ?_
    refine Tm_some (Prod.ext ?_ rfl)
    show _ = nI _
    rw [← u_cl c]
    exact e_len _
  · rw [u_nn] at c
    rw [if_neg c, u_tag]
    have q := u_lt (L.1 1)
    refine Tm_ite (fun d => ?_) (fun d => ?_)
    · rw [u_eq, u_n (by omega)] at d
      rw [if_pos (by have e : uN (-1073741824) = 3221225472 := rfl; omega)]
      refine Tm_suc (fun k => by rw [y_X1_length]) ?_
      exact Tm_some rfl
    · rw [u_eq, u_n (by omega)] at d
      rw [if_neg (by have e : uN (-1073741824) = 3221225472 := rfl; omega)]
      refine Tm_suc (fun k => by rw [y_X1_length]) ?_
      refine Tm_suc (fun k => by rw [y_X1_length]) ?_
      exact Tm_some rfl
theorem c_member (h : HQ g l t σ) (hv : Gv g (L.1 1)) (hk : uN (L.1 1) < 2147483648 → 5 ≤ kdC (σ.2.2.1 3) (L.1 1)) : Tm (fun k => y_X1_member k 0 L σ) (fun r => r = (mbC (σ.2.2.1 3) (L.1 1) (L.1 2), σ)) := by
  have ll := lnC_lt (σ.2.2.1 3) (L.1 1)
  have no : ∀ (c : ¬ (uN (L.1 1) < 2147483648 ∧ uN (L.1 2) < lnC (σ.2.2.1 3) (L.1 1))), Tm (fun k => y_X1_member k 1 L σ) (fun r => r = (mbC (σ.2.2.1 3) (L.1 1) (L.1 2), σ)) := by
    intro c
    unfold mbC
    rw [if_neg c]
    refine Tm_suc (fun k => by rw [y_X1_member]) ?_
    refine Tm_suc (fun k => by rw [y_X1_member]) ?_
    exact Tm_some rfl
  refine Tm_suc (fun k => by rw [y_X1_member]) ?_
  refine Tm_ite (fun c => ?_) (fun c => ?_)
  · rw [u_neg] at c
    exact no (by omega)
  rw [u_neg] at c
  have c1 : uN (L.1 1) < 2147483648 := by omega
  refine Tm_ite (fun d => ?_) (fun d => ?_)
  · rw [u_neg] at d
    exact no (by omega)
  rw [u_neg] at d
  refine Tm_chk (in_g h hv c1) ?_
  have el : lnC (σ.2.2.1 3) (L.1 1) = hdL (uN (σ.2.2.1 3 (uN (L.1 1)))) := if_pos c1
  rw [e_len, u_cl c1, ← el]
  have eu : uN (nI (lnC (σ.2.2.1 3) (L.1 1))) = lnC (σ.2.2.1 3) (L.1 1) := u_n (by omega)
  refine Tm_ite (fun e => ?_) (fun e => ?_)
  · rw [u_le (by omega) (by omega), eu] at e
    exact no (by omega)
  rw [u_le (by omega) (by omega), eu] at e
  have k := hk c1
  unfold kdC at k
  rw [if_pos c1] at k
  have w : hdW (uN (σ.2.2.1 3 (uN (L.1 1)))) = hdL (uN (σ.2.2.1 3 (uN (L.1 1)))) := by
    unfold hdK at k
    unfold hdW
    rw [if_neg (by omega)]
  have e1 : uN (1 + L.1 2) = 1 + uN (L.1 2) := u_add (x := 1) (by show 1 + uN (L.1 2) < _; omega)
  have z := in_gi (y := 1 + L.1 2) h hv c1 (by omega)
  rw [← Int32.add_assoc] at z
  refine Tm_chk z.1 ?_
  refine Tm_suc (fun k => by rw [y_X1_member]) ?_
  refine Tm_some (Prod.ext ?_ rfl)
  unfold mbC
  rw [if_pos ⟨c1, by omega⟩, ← show uN (L.1 1) + (1 + uN (L.1 2)) = uN (L.1 1) + 1 + uN (L.1 2) from by omega, ← e1, ← z.2]
  rfl
theorem c_flagged (h : HQ g l t σ) (hv : Gv g (L.1 1)) : Tm (fun k => y_X1_flagged k 0 L σ) (fun r => (r.2 = σ ∧ (r.1 = 0 ∨ r.1 = 1)) ∧ (¬ r.1 = 0 → uN (L.1 1) < 2147483648 ∧ uN (σ.2.2.1 3 (uN (L.1 1))) / 8 % 2 = 1)) := by
  have no : Tm (fun k => y_X1_flagged k 1 L σ) (fun r => (r.2 = σ ∧ (r.1 = 0 ∨ r.1 = 1)) ∧ (¬ r.1 = 0 → uN (L.1 1) < 2147483648 ∧ uN (σ.2.2.1 3 (uN (L.1 1))) / 8 % 2 = 1)) := by
    refine Tm_suc (fun k => by rw [y_X1_flagged]) ?_
    refine Tm_suc (fun k => by rw [y_X1_flagged]) ?_
    refine Tm_chk (Or.inl rfl) ?_
    exact Tm_some ⟨⟨rfl, Or.inl rfl⟩, fun z => absurd rfl z⟩
  refine Tm_suc (fun k => by rw [y_X1_flagged]) ?_
  refine Tm_ite (fun c => no) (fun c => ?_)
  rw [u_neg] at c
  refine Tm_chk (in_g h hv (by omega)) ?_
  refine Tm_ite (fun d => no) (fun d => ?_)
  rw [e_flg, u_cl (by omega)] at d
  refine Tm_suc (fun k => by rw [y_X1_flagged]) ?_
  refine Tm_chk (Or.inr rfl) ?_
  exact Tm_some ⟨⟨rfl, Or.inr rfl⟩, fun _ => ⟨by omega, by omega⟩⟩
theorem kdC_lt (M : Nat → Int32) (x : Int32) : kdC M x < 8 := by
  unfold kdC hdK
  split <;> omega
theorem c_isMap (h : HQ g l t σ) (hv : Gv g (L.1 1)) : Tm (fun k => y_X1_isMap k 0 L σ) (fun r => (r.2 = σ ∧ (r.1 = 0 ∨ r.1 = 1)) ∧ (¬ r.1 = 0 → uN (L.1 1) < 2147483648 ∧ kdC (σ.2.2.1 3) (L.1 1) = 6 ∧ uN (σ.2.2.1 3 (uN (L.1 1))) / 8 % 2 = 1)) := by
  have no : Tm (fun k => y_X1_isMap k 1 L σ) (fun r => (r.2 = σ ∧ (r.1 = 0 ∨ r.1 = 1)) ∧ (¬ r.1 = 0 → uN (L.1 1) < 2147483648 ∧ kdC (σ.2.2.1 3) (L.1 1) = 6 ∧ uN (σ.2.2.1 3 (uN (L.1 1))) / 8 % 2 = 1)) := by
    refine Tm_suc (fun k => by rw [y_X1_isMap]) ?_
    refine Tm_suc (fun k => by rw [y_X1_isMap]) ?_
    refine Tm_chk (Or.inl rfl) ?_
    exact Tm_some ⟨⟨rfl, Or.inl rfl⟩, fun z => absurd rfl z⟩
  refine Tm_suc (fun k => by rw [y_X1_isMap]) ?_
  refine Tm_ocE (c_kind h hv) ?_
  refine Tm_ite (fun c => ?_) (fun c => no)
  refine Tm_oc (c_flagged h hv) (fun r hr => ?_)
  obtain ⟨⟨r1, r2⟩, r3⟩ := hr
  rw [r1]
  refine Tm_ite (fun d => no) (fun d => ?_)
  refine Tm_suc (fun k => by rw [y_X1_isMap]) ?_
  refine Tm_chk (Or.inr rfl) ?_
  refine Tm_some ⟨⟨rfl, Or.inr rfl⟩, fun _ => ⟨(r3 d).1, ?_, (r3 d).2⟩⟩
  have c' : nI (kdC (σ.2.2.1 3) (L.1 1)) = 6 := c
  have q := kdC_lt (σ.2.2.1 3) (L.1 1)
  rw [u_eq, u_n (by omega)] at c'
  exact c'
/-- its ints -/
theorem hdW_s {H : Nat} (k : hdK H = 4) {i : Nat} (hi : i < hdL H) : 1 + i / 4 ≤ hdW H := by
  unfold hdK at k
  unfold hdW
  rw [if_pos k]
  omega
theorem c_byteAt (h : HQ g l t σ) (hv : Gv g (L.1 1)) (hk : uN (L.1 1) < 2147483648 → kdC (σ.2.2.1 3) (L.1 1) = 4 ∧ uN (L.1 2) < lnC (σ.2.2.1 3) (L.1 1)) : Tm (fun k => y_X1_byteAt k 0 L σ) (fun r => r.2 = σ ∧ uN r.1 < 256) := by
  have by8 : ∀ y : Int32, uN (y &&& 255) < 256 := fun y => by
    rw [u_and8, u_n (by omega)]; omega
  refine Tm_suc (fun k => by rw [y_X1_byteAt]) ?_
  refine Tm_ite (fun c => ?_) (fun c => ?_)
  · rw [u_nn] at c
    obtain ⟨k1, k2⟩ := hk c
    unfold kdC at k1
    unfold lnC at k2
    rw [if_pos c] at k1 k2
    have l2 : hdL (uN (σ.2.2.1 3 (uN (L.1 1)))) < 4096 := Nat.mod_lt _ (by decide)
    have s2 : uN (L.1 2 >>> ((2 : Int32) &&& 31)) = uN (L.1 2) / 4 := u_sar2 (by omega)
    have e1 : uN (1 + (L.1 2 >>> ((2 : Int32) &&& 31))) = 1 + uN (L.1 2) / 4 := by
      rw [u_add (x := 1) (by rw [s2]; show 1 + uN (L.1 2) / 4 < _; omega), s2]; rfl
    have z := in_gi (y := 1 + (L.1 2 >>> ((2 : Int32) &&& 31))) h hv c (by rw [e1]; exact hdW_s k1 k2)
    rw [← Int32.add_assoc] at z
    refine Tm_suc (fun k => by rw [y_X1_byteAt]) ?_
    refine Tm_chk z.1 ?_
    refine Tm_suc (fun k => by rw [y_X1_byteAt]) ?_
    exact Tm_some ⟨rfl, by8 _⟩
  · refine Tm_suc (fun k => by rw [y_X1_byteAt]) ?_
    exact Tm_some ⟨rfl, by8 _⟩
theorem c_size (h : HQ g l t σ) (hv : Gv g (L.1 1)) : Tm (fun k => y_X1_size k 0 L σ) (fun r => r.2 = σ ∧ uN r.1 < 1024) := by
  have a : Tm (fun k => y_X1_size k 2 L σ) (fun r => r.2 = σ ∧ uN r.1 < 1024) := by
    refine Tm_suc (fun k => by rw [y_X1_size]) ?_
    refine Tm_suc (fun k => by rw [y_X1_size]) ?_
    exact Tm_some ⟨rfl, by show uN 2 < 1024; decide⟩
  have b : Tm (fun k => y_X1_size k 3 L σ) (fun r => r.2 = σ ∧ uN r.1 < 1024) := by
    refine Tm_suc (fun k => by rw [y_X1_size]) ?_
    refine Tm_suc (fun k => by rw [y_X1_size]) ?_
    exact Tm_some ⟨rfl, by show uN 1 < 1024; decide⟩
  refine Tm_suc (fun k => by rw [y_X1_size]) ?_
  refine Tm_ite (fun c => ?_) (fun c => ?_)
  · refine Tm_suc (fun k => by rw [y_X1_size]) ?_
    refine Tm_ite (fun _ => a) (fun _ => Tm_ite (fun _ => Tm_ite (fun _ => b) (fun _ => a)) (fun _ => b))
  · rw [u_neg] at c
    refine Tm_chk (in_g h hv (by omega)) ?_
    refine Tm_some ⟨rfl, ?_⟩
    show uN _ < 1024
    rw [e_siz, u_n (by unfold hdS; omega)]
    exact Nat.mod_lt _ (by decide)
end CRE
end JnS341
section JnS342
/-! The class: the order. -/
theorem Tm_oe {e : Nat} {f : Nat → Nat → Option (Int32 × CS)} {Q : Int32 × CS → Prop} (t : Tm (fun k => f k e) Q) : Tm (fun k => oe (e + 1) (f k)) Q := t
theorem u_dec {x : Int32} (h : 1 ≤ uN x) : uN (x + (-1)) = uN x - 1 := by
  show (x.toBitVec + (-1 : Int32).toBitVec).toNat = _
  rw [BitVec.toNat_add]
  have q := u_lt x
  show (uN x + 4294967295) % 4294967296 = _
  omega
theorem u_inc {x : Int32} (h : uN x < 4294967295) : uN (x + 1) = uN x + 1 := u_add (y := 1) (by show uN x + 1 < _; omega)
section CRF
variable {g : Nat → Prop} {l : List Nat} {t : Nat} {σ : CS} {L : LV} {x y i : Int32}
/-- a byte of a string -/
theorem in_gs (h : HQ g l t σ) (hv : Gv g x) (c : uN x < 2147483648) (k1 : hdK (uN (σ.2.2.1 3 (uN x))) = 4) (k2 : uN i < hdL (uN (σ.2.2.1 3 (uN x)))) : ¬ (x + 1 + (i >>> ((2 : Int32) &&& 31)) < 0 ∨ sN σ 3 ≤ (x + 1 + (i >>> ((2 : Int32) &&& 31))).toNatClampNeg) := by
  have l2 : hdL (uN (σ.2.2.1 3 (uN x))) < 4096 := Nat.mod_lt _ (by decide)
  have s2 : uN (i >>> ((2 : Int32) &&& 31)) = uN i / 4 := u_sar2 (by omega)
  have e1 : uN (1 + (i >>> ((2 : Int32) &&& 31))) = 1 + uN i / 4 := by
    rw [u_add (x := 1) (by rw [s2]; show 1 + uN i / 4 < _; omega), s2]; rfl
  have z := in_gi (y := 1 + (i >>> ((2 : Int32) &&& 31))) h hv c (by rw [e1]; exact hdW_s k1 k2)
  rw [← Int32.add_assoc] at z
  exact z.1
/-- it answers, and nothing is changed -/
abbrev Qs (σ : CS) : Int32 × CS → Prop := fun r => r.2 = σ
theorem cw_end (L : LV) : Tm (fun k => y_X1_compareWholes k 16 L σ) (Qs σ) := by
  refine Tm_suc (fun k => by rw [y_X1_compareWholes]) ?_
  refine Tm_ite (fun _ => ?_) (fun _ => ?_)
  · refine Tm_suc (fun k => by rw [y_X1_compareWholes]) ?_
    refine Tm_suc (fun k => by rw [y_X1_compareWholes]) ?_
    exact Tm_some rfl
  · refine Tm_suc (fun k => by rw [y_X1_compareWholes]) ?_
    exact Tm_some rfl
theorem cw_loop (h : HQ g l t σ) (hx : Gv g x) (hy : Gv g y) (cx : uN x < 2147483648) (cy : uN y < 2147483648) (kx : hdK (uN (σ.2.2.1 3 (uN x))) = 2) (ky : hdK (uN (σ.2.2.1 3 (uN y))) = 2) : ∀ (n : Nat) (L : LV), L.1 1 = x → L.1 2 = y → uN (L.1 8) = n → n < 4096 → (L.1 7 = 0 → n ≤ hdL (uN (σ.2.2.1 3 (uN x))) ∧ n ≤ hdL (uN (σ.2.2.1 3 (uN y)))) → Tm (fun k => y_X1_compareWholes k 15 L σ) (Qs σ) := by
  have wx : hdW (uN (σ.2.2.1 3 (uN x))) = hdL (uN (σ.2.2.1 3 (uN x))) := by
    unfold hdK at kx; unfold hdW; rw [if_neg (by omega)]
  have wy : hdW (uN (σ.2.2.1 3 (uN y))) = hdL (uN (σ.2.2.1 3 (uN y))) := by
    unfold hdK at ky; unfold hdW; rw [if_neg (by omega)]
  intro n
  induction n with
  | zero =>
    intro L d1 d2 d8 hn d7
    refine Tm_suc (fun k => by rw [y_X1_compareWholes]) ?_
    refine Tm_yes ?_ (cw_end _)
    rw [u_le (by omega) (by decide), d8]
    exact Nat.zero_le _
  | succ m ih =>
    intro L d1 d2 d8 hn d7
    refine Tm_suc (fun k => by rw [y_X1_compareWholes]) ?_
    refine Tm_ite (fun _ => cw_end _) (fun c => ?_)
    refine Tm_ite (fun c7 => ?_) (fun _ => cw_end _)
    have b := d7 c7
    rw [d1, d2]
    refine Tm_chk (in_gi h hx cx (by omega)).1 ?_
    refine Tm_chk (in_gi h hy cy (by omega)).1 ?_
    have st : ∀ L' : LV, L'.1 1 = x → L'.1 2 = y → L'.1 8 = L.1 8 → Tm (fun k => y_X1_compareWholes k 18 L' σ) (Qs σ) := by
      intro L' a1 a2 a8
      refine Tm_suc (fun k => by rw [y_X1_compareWholes]) ?_
      refine ih _ a1 a2 ?_ (by omega) (fun _ => by omega)
      show uN (L'.1 8 + (-1)) = m
      rw [a8, u_dec (by omega)]; omega
    refine Tm_ite (fun _ => st _ d1 d2 rfl) (fun _ => ?_)
    refine Tm_suc (fun k => by rw [y_X1_compareWholes]) ?_
    refine Tm_ite (fun _ => ?_) (fun _ => st _ d1 d2 rfl)
    refine Tm_suc (fun k => by rw [y_X1_compareWholes]) ?_
    exact st _ d1 d2 rfl
theorem c_compareWholes (h : HQ g l t σ) (hx : Gv g (L.1 1)) (hy : Gv g (L.1 2)) (kx : uN (L.1 1) < 2147483648 → hdK (uN (σ.2.2.1 3 (uN (L.1 1)))) = 2) (ky : uN (L.1 2) < 2147483648 → hdK (uN (σ.2.2.1 3 (uN (L.1 2)))) = 2) : Tm (fun k => y_X1_compareWholes k 0 L σ) (Qs σ) := by
  have b9 : ∀ L' : LV, L'.1 1 = L.1 1 → L'.1 2 = L.1 2 → uN (L.1 1) < 2147483648 → uN (L.1 2) < 2147483648 → Tm (fun k => y_X1_compareWholes k 9 L' σ) (Qs σ) := by
    intro L' a1 a2 cx cy
    have lx : hdL (uN (σ.2.2.1 3 (uN (L.1 1)))) < 4096 := Nat.mod_lt _ (by decide)
    have ly : hdL (uN (σ.2.2.1 3 (uN (L.1 2)))) < 4096 := Nat.mod_lt _ (by decide)
    refine Tm_suc (fun k => by rw [y_X1_compareWholes]) ?_
    rw [a1, a2]
    refine Tm_chk (in_g h hx cx) ?_
    refine Tm_chk (in_g h hy cy) ?_
    rw [e_len, e_len, u_cl cx, u_cl cy]
    refine Tm_ite (fun c => ?_) (fun c => ?_)
    · rw [u_eq, u_n (by omega), u_n (by omega)] at c
      refine Tm_suc (fun k => by rw [y_X1_compareWholes]) ?_
      refine cw_loop h hx hy cx cy (kx cx) (ky cy) (hdL (uN (σ.2.2.1 3 (uN (L.1 1))))) _ ?_ ?_ ?_ lx (fun _ => ⟨Nat.le_refl _, by omega⟩)
      · exact a1
      · exact a2
      · exact u_n (by omega)
    · have ot : ∀ L2 : LV, L2.1 1 = L.1 1 → L2.1 2 = L.1 2 → L2.1 5 = nI (hdL (uN (σ.2.2.1 3 (uN (L.1 1))))) → ¬ L2.1 100 = 0 → Tm (fun k => y_X1_compareWholes k 13 L2 σ) (Qs σ) := by
        intro L2 z1 z2 z5 z
        refine Tm_suc (fun k => by rw [y_X1_compareWholes]) ?_
        refine cw_loop h hx hy cx cy (kx cx) (ky cy) _ _ z1 z2 (by show uN (L2.1 5) = _; rw [z5]; exact u_n (by omega)) lx (fun e => absurd e z)
      refine Tm_suc (fun k => by rw [y_X1_compareWholes]) ?_
      refine Tm_ite (fun _ => ?_) (fun _ => ot _ a1 a2 rfl (by show ¬ (-1 : Int32) = 0; decide))
      refine Tm_suc (fun k => by rw [y_X1_compareWholes]) ?_
      exact ot _ a1 a2 rfl (by show ¬ (1 : Int32) = 0; decide)
  have b8 : ∀ L' : LV, Tm (fun k => y_X1_compareWholes k 8 L' σ) (Qs σ) := by
    intro L'
    refine Tm_suc (fun k => by rw [y_X1_compareWholes]) ?_
    refine Tm_ite (fun _ => ?_) (fun _ => ?_)
    · refine Tm_suc (fun k => by rw [y_X1_compareWholes]) ?_
      refine Tm_suc (fun k => by rw [y_X1_compareWholes]) ?_
      exact Tm_some rfl
    · refine Tm_suc (fun k => by rw [y_X1_compareWholes]) ?_
      exact Tm_some rfl
  have b4 : ∀ L' : LV, L'.1 1 = L.1 1 → L'.1 2 = L.1 2 → Tm (fun k => y_X1_compareWholes k 4 L' σ) (Qs σ) := by
    intro L' a1 a2
    refine Tm_suc (fun k => by rw [y_X1_compareWholes]) ?_
    refine Tm_ite (fun c => ?_) (fun c => ?_)
    · rw [u_nn, a1] at c
      refine Tm_suc (fun k => by rw [y_X1_compareWholes]) ?_
      refine Tm_ite (fun _ => b8 _) (fun d => ?_)
      have d' : ¬ L'.1 2 < 0 := d
      rw [u_neg, a2] at d'
      refine Tm_ite (fun _ => b9 _ a1 a2 c (by omega)) (fun _ => b8 _)
    · refine Tm_ite (fun _ => ?_) (fun _ => ?_)
      · refine Tm_suc (fun k => by rw [y_X1_compareWholes]) ?_
        refine Tm_suc (fun k => by rw [y_X1_compareWholes]) ?_
        exact Tm_some rfl
      · refine Tm_suc (fun k => by rw [y_X1_compareWholes]) ?_
        exact Tm_some rfl
  have b2 : ∀ L' : LV, L'.1 1 = L.1 1 → L'.1 2 = L.1 2 → Tm (fun k => y_X1_compareWholes k 2 L' σ) (Qs σ) := by
    intro L' a1 a2
    have b3 : ∀ L' : LV, L'.1 1 = L.1 1 → L'.1 2 = L.1 2 → Tm (fun k => y_X1_compareWholes k 3 L' σ) (Qs σ) := by
      intro L' a1 a2
      refine Tm_suc (fun k => by rw [y_X1_compareWholes]) ?_
      exact b4 _ a1 a2
    refine Tm_suc (fun k => by rw [y_X1_compareWholes]) ?_
    refine Tm_ite (fun _ => b3 _ a1 a2) (fun c => ?_)
    rw [u_neg, a2] at c
    rw [a2]
    refine Tm_chk (in_g h hy (by omega)) ?_
    exact Tm_ite (fun _ => b3 _ a1 a2) (fun _ => b4 _ a1 a2)
  have b1 : ∀ L' : LV, L'.1 1 = L.1 1 → L'.1 2 = L.1 2 → Tm (fun k => y_X1_compareWholes k 1 L' σ) (Qs σ) := by
    intro L' a1 a2
    refine Tm_suc (fun k => by rw [y_X1_compareWholes]) ?_
    exact b2 _ a1 a2
  refine Tm_suc (fun k => by rw [y_X1_compareWholes]) ?_
  refine Tm_ite (fun _ => b1 _ rfl rfl) (fun c => ?_)
  rw [u_neg] at c
  refine Tm_chk (in_g h hx (by omega)) ?_
  exact Tm_ite (fun _ => b1 _ rfl rfl) (fun _ => b2 _ rfl rfl)
theorem cs_loop (h : HQ g l t σ) (hx : Gv g x) (hy : Gv g y) (kx : uN x < 2147483648 → hdK (uN (σ.2.2.1 3 (uN x))) = 4) (ky : uN y < 2147483648 → hdK (uN (σ.2.2.1 3 (uN y))) = 4) : ∀ (n : Nat) (L : LV), L.1 1 = x → L.1 2 = y → uN (L.1 3) < 4096 → uN (L.1 4) < 4096 → (uN x < 2147483648 → uN (L.1 3) = hdL (uN (σ.2.2.1 3 (uN x)))) → (uN y < 2147483648 → uN (L.1 4) = hdL (uN (σ.2.2.1 3 (uN y)))) → uN (L.1 5) + n = 4096 → Tm (fun k => y_X1_compareStrings k 5 L σ) (Qs σ) := by
  have e10 : ∀ L : LV, Tm (fun k => y_X1_compareStrings k 10 L σ) (Qs σ) := by
    intro L
    refine Tm_suc (fun k => by rw [y_X1_compareStrings]) ?_
    exact Tm_some rfl
  have e6 : ∀ L : LV, Tm (fun k => y_X1_compareStrings k 6 L σ) (Qs σ) := by
    intro L
    refine Tm_suc (fun k => by rw [y_X1_compareStrings]) ?_
    refine Tm_ite (fun _ => e10 _) (fun _ => ?_)
    refine Tm_suc (fun k => by rw [y_X1_compareStrings]) ?_
    refine Tm_ite (fun _ => ?_) (fun _ => e10 _)
    refine Tm_suc (fun k => by rw [y_X1_compareStrings]) ?_
    exact e10 _
  intro n
  induction n with
  | zero =>
    intro L d1 d2 d3 d4 l3 l4 d5
    refine Tm_suc (fun k => by rw [y_X1_compareStrings]) ?_
    refine Tm_yes ?_ (e6 _)
    rw [u_le (by omega) (by omega)]
    omega
  | succ m ih =>
    intro L d1 d2 d3 d4 l3 l4 d5
    refine Tm_suc (fun k => by rw [y_X1_compareStrings]) ?_
    refine Tm_ite (fun _ => e6 _) (fun c3 => ?_)
    rw [u_le (by omega) (by omega)] at c3
    refine Tm_ite (fun _ => e6 _) (fun c4 => ?_)
    rw [u_le (by omega) (by omega)] at c4
    have b12 : ∀ L' : LV, L'.1 1 = x → L'.1 2 = y → L'.1 3 = L.1 3 → L'.1 4 = L.1 4 → L'.1 5 = L.1 5 → Tm (fun k => y_X1_compareStrings k 12 L' σ) (Qs σ) := by
      intro L' a1 a2 a3 a4 a5
      refine Tm_suc (fun k => by rw [y_X1_compareStrings]) ?_
      refine Tm_ite (fun _ => ?_) (fun _ => Tm_ite (fun _ => ?_) (fun _ => ?_))
      · refine Tm_suc (fun k => by rw [y_X1_compareStrings]) ?_
        refine ih _ ?_ ?_ ?_ ?_ ?_ ?_ ?_
        · exact a1
        · exact a2
        · show uN (L'.1 3) < _; rw [a3]; exact d3
        · show uN (L'.1 4) < _; rw [a4]; exact d4
        · intro z; show uN (L'.1 3) = _; rw [a3]; exact l3 z
        · intro z; show uN (L'.1 4) = _; rw [a4]; exact l4 z
        · show uN (L'.1 5 + 1) + m = 4096
          rw [a5, u_inc (by omega)]; omega
      · refine Tm_suc (fun k => by rw [y_X1_compareStrings]) ?_
        refine Tm_suc (fun k => by rw [y_X1_compareStrings]) ?_
        exact Tm_some rfl
      · refine Tm_suc (fun k => by rw [y_X1_compareStrings]) ?_
        exact Tm_some rfl
    have b8 : ∀ L' : LV, L'.1 1 = x → L'.1 2 = y → L'.1 3 = L.1 3 → L'.1 4 = L.1 4 → L'.1 5 = L.1 5 → Tm (fun k => y_X1_compareStrings k 8 L' σ) (Qs σ) := by
      intro L' a1 a2 a3 a4 a5
      refine Tm_suc (fun k => by rw [y_X1_compareStrings]) ?_
      refine Tm_ite (fun c => ?_) (fun _ => ?_)
      · rw [u_nn, a2] at c
        refine Tm_suc (fun k => by rw [y_X1_compareStrings]) ?_
        refine Tm_chk (by
          show ¬ (L'.1 2 + 1 + (L'.1 5 >>> ((2 : Int32) &&& 31)) < 0 ∨ sN σ 3 ≤ (L'.1 2 + 1 + (L'.1 5 >>> ((2 : Int32) &&& 31))).toNatClampNeg)
          rw [a2, a5]
          exact in_gs (i := L.1 5) h hy c (ky c) (by rw [← l4 c]; omega)) ?_
        refine b12 _ ?_ ?_ ?_ ?_ ?_
        · exact a1
        · exact a2
        · exact a3
        · exact a4
        · exact a5
      · refine b12 _ ?_ ?_ ?_ ?_ ?_
        · exact a1
        · exact a2
        · exact a3
        · exact a4
        · exact a5
    refine Tm_ite (fun c => ?_) (fun _ => b8 _ d1 d2 rfl rfl rfl)
    rw [u_nn, d1] at c
    refine Tm_suc (fun k => by rw [y_X1_compareStrings]) ?_
    refine Tm_chk (by
      rw [d1]
      exact in_gs (i := L.1 5) h hx c (kx c) (by rw [← l3 c]; omega)) ?_
    exact b8 _ d1 d2 rfl rfl rfl
theorem c_compareStrings (h : HQ g l t σ) (hx : Gv g (L.1 1)) (hy : Gv g (L.1 2)) (kx : uN (L.1 1) < 2147483648 → hdK (uN (σ.2.2.1 3 (uN (L.1 1)))) = 4) (ky : uN (L.1 2) < 2147483648 → hdK (uN (σ.2.2.1 3 (uN (L.1 2)))) = 4) : Tm (fun k => y_X1_compareStrings k 0 L σ) (Qs σ) := by
  have b2 : ∀ L' : LV, L'.1 1 = L.1 1 → L'.1 2 = L.1 2 → uN (L'.1 100) < 4096 → (uN (L.1 1) < 2147483648 → uN (L'.1 100) = hdL (uN (σ.2.2.1 3 (uN (L.1 1))))) → Tm (fun k => y_X1_compareStrings k 2 L' σ) (Qs σ) := by
    intro L' a1 a2 q q1
    have b4 : ∀ L2 : LV, L2.1 1 = L.1 1 → L2.1 2 = L.1 2 → L2.1 3 = L'.1 100 → uN (L2.1 100) < 4096 → (uN (L.1 2) < 2147483648 → uN (L2.1 100) = hdL (uN (σ.2.2.1 3 (uN (L.1 2))))) → Tm (fun k => y_X1_compareStrings k 4 L2 σ) (Qs σ) := by
      intro L2 z1 z2 z3 w w1
      refine Tm_suc (fun k => by rw [y_X1_compareStrings]) ?_
      refine cs_loop h hx hy kx ky 4096 _ ?_ ?_ ?_ ?_ ?_ ?_ ?_
      · exact z1
      · exact z2
      · show uN (L2.1 3) < _; rw [z3]; exact q
      · exact w
      · intro z; show uN (L2.1 3) = _; rw [z3]; exact q1 z
      · exact w1
      · rfl
    refine Tm_suc (fun k => by rw [y_X1_compareStrings]) ?_
    refine Tm_ite (fun c => ?_) (fun c => ?_)
    · rw [u_nn, a2] at c
      refine Tm_suc (fun k => by rw [y_X1_compareStrings]) ?_
      refine Tm_chk (by show ¬ (L'.1 2 < 0 ∨ sN σ 3 ≤ (L'.1 2).toNatClampNeg); rw [a2]; exact in_g h hy c) ?_
      have e : ((((σ.2.2.1 3 (L'.1 2).toNatClampNeg).toUInt32 >>> ((4 : Int32).toUInt32 &&& Int32.toUInt32 31)).toInt32) &&& 4095) = nI (hdL (uN (σ.2.2.1 3 (uN (L.1 2))))) := by rw [e_len, a2, u_cl c]
      have ly : hdL (uN (σ.2.2.1 3 (uN (L.1 2)))) < 4096 := Nat.mod_lt _ (by decide)
      refine b4 _ ?_ ?_ ?_ ?_ ?_
      · exact a1
      · exact a2
      · rfl
      · show uN ((((σ.2.2.1 3 (L'.1 2).toNatClampNeg).toUInt32 >>> ((4 : Int32).toUInt32 &&& Int32.toUInt32 31)).toInt32) &&& 4095) < _
        rw [e, u_n (by omega)]; exact ly
      · intro z
        show uN ((((σ.2.2.1 3 (L'.1 2).toNatClampNeg).toUInt32 >>> ((4 : Int32).toUInt32 &&& Int32.toUInt32 31)).toInt32) &&& 4095) = _
        rw [e, u_n (by omega)]
    · rw [u_nn, a2] at c
      refine b4 _ ?_ ?_ ?_ ?_ ?_
      · exact a1
      · exact a2
      · rfl
      · show uN 1 < 4096; decide
      · intro z; exact absurd z c
  refine Tm_suc (fun k => by rw [y_X1_compareStrings]) ?_
  refine Tm_ite (fun c => ?_) (fun c => ?_)
  · rw [u_nn] at c
    refine Tm_suc (fun k => by rw [y_X1_compareStrings]) ?_
    refine Tm_chk (in_g h hx c) ?_
    have lx : hdL (uN (σ.2.2.1 3 (uN (L.1 1)))) < 4096 := Nat.mod_lt _ (by decide)
    rw [e_len, u_cl c]
    refine b2 _ rfl rfl ?_ ?_
    · show uN (nI _) < _
      rw [u_n (by omega)]; exact lx
    · intro _
      exact u_n (by omega)
  · rw [u_nn] at c
    refine b2 _ rfl rfl ?_ ?_
    · show uN 1 < 4096; decide
    · intro z; exact absurd z c
end CRF
end JnS342
section JnS343
/-! The class: the order of values. -/
theorem h1_0 (k d : Nat) (L : LV) (σ : CS) : y_H1 (k + 1) d 0 0 L σ = (if ((L.1 1)) = ((L.1 2)) then (some (0, σ)) else (y_H1 k d 0 1 L σ)) := rfl
theorem h1_1 (k d : Nat) (L : LV) (σ : CS) : y_H1 (k + 1) d 0 1 L σ = (if 0 ≤ ((L.1 1)) then (y_H1 k d 0 2 L σ) else (y_H1 k d 0 3 (lI L 100 (((((((L.1 1)).toUInt32 >>> ((28 : Int32).toUInt32 &&& Int32.toUInt32 31)).toInt32)) &&& 7))) σ)) := rfl
theorem h1_2 (k d : Nat) (L : LV) (σ : CS) : y_H1 (k + 1) d 0 2 L σ = (if ¬ (((L.1 1)) < 0 ∨ (sN σ 3) ≤ ((L.1 1)).toNatClampNeg) then (y_H1 k d 0 3 (lI L 100 ((((σ.2.2.1 3 ((L.1 1)).toNatClampNeg)) &&& 7))) σ) else none) := rfl
theorem h1_3 (k d : Nat) (L : LV) (σ : CS) : y_H1 (k + 1) d 0 3 L σ = (if 0 ≤ ((L.1 2)) then (y_H1 k d 0 4 (lI L 3 ((L.1 100))) σ) else (y_H1 k d 0 5 (lI (lI L 3 ((L.1 100))) 100 (((((((L.1 2)).toUInt32 >>> ((28 : Int32).toUInt32 &&& Int32.toUInt32 31)).toInt32)) &&& 7))) σ)) := rfl
theorem h1_4 (k d : Nat) (L : LV) (σ : CS) : y_H1 (k + 1) d 0 4 L σ = (if ¬ (((L.1 2)) < 0 ∨ (sN σ 3) ≤ ((L.1 2)).toNatClampNeg) then (y_H1 k d 0 5 (lI L 100 ((((σ.2.2.1 3 ((L.1 2)).toNatClampNeg)) &&& 7))) σ) else none) := rfl
theorem h1_5 (k d : Nat) (L : LV) (σ : CS) : y_H1 (k + 1) d 0 5 L σ = (if ((L.1 3)) = ((L.1 100)) then (y_H1 k d 0 6 L σ) else (if ((L.1 100)) ≤ ((L.1 3)) then (y_H1 k d 0 7 L σ) else (y_H1 k d 0 8 (lI L 100 ((-1))) σ))) := rfl
theorem h1_6 (k d : Nat) (L : LV) (σ : CS) : y_H1 (k + 1) d 0 6 L σ = (if 0 ≤ ((L.1 1)) then (y_H1 k d 0 9 L σ) else (if 0 ≤ ((L.1 2)) then (y_H1 k d 0 9 L σ) else (if ((((L.1 2)) <<< ((4 : Int32) &&& 31))) ≤ ((((L.1 1)) <<< ((4 : Int32) &&& 31))) then (y_H1 k d 0 10 L σ) else (y_H1 k d 0 11 (lI L 100 ((-1))) σ)))) := rfl
theorem h1_7 (k d : Nat) (L : LV) (σ : CS) : y_H1 (k + 1) d 0 7 L σ = (y_H1 k d 0 8 (lI L 100 1) σ) := rfl
theorem h1_8 (k d : Nat) (L : LV) (σ : CS) : y_H1 (k + 1) d 0 8 L σ = (some ((L.1 100), σ)) := rfl
theorem h1_9 (k d : Nat) (L : LV) (σ : CS) : y_H1 (k + 1) d 0 9 L σ = (if 5 ≤ ((L.1 3)) then (y_H1 k d 0 12 L σ) else (if ((L.1 3)) = 2 then (oc (y_X1_compareWholes k 0 (lI (lI lZ 1 ((L.1 1))) 2 ((L.1 2))) σ) (fun r3 => y_H1 k d 0 14 (lI L 100 r3.1) r3.2)) else (y_H1 k d 0 13 L σ))) := rfl
theorem h1_10 (k d : Nat) (L : LV) (σ : CS) : y_H1 (k + 1) d 0 10 L σ = (y_H1 k d 0 11 (lI L 100 1) σ) := rfl
theorem h1_11 (k d : Nat) (L : LV) (σ : CS) : y_H1 (k + 1) d 0 11 L σ = (some ((L.1 100), σ)) := rfl
theorem h1_12 (k d : Nat) (L : LV) (σ : CS) : y_H1 (k + 1) d 0 12 L σ = (if ¬ (((L.1 1)) < 0 ∨ (sN σ 3) ≤ ((L.1 1)).toNatClampNeg) then (if ¬ (((L.1 2)) < 0 ∨ (sN σ 3) ≤ ((L.1 2)).toNatClampNeg) then (y_H1 k d 0 15 (lI (lI (lI L 5 (((((((σ.2.2.1 3 ((L.1 1)).toNatClampNeg)).toUInt32 >>> ((4 : Int32).toUInt32 &&& Int32.toUInt32 31)).toInt32)) &&& 4095))) 6 (((((((σ.2.2.1 3 ((L.1 2)).toNatClampNeg)).toUInt32 >>> ((4 : Int32).toUInt32 &&& Int32.toUInt32 31)).toInt32)) &&& 4095))) 7 1) σ) else none) else none) := rfl
theorem h1_13 (k d : Nat) (L : LV) (σ : CS) : y_H1 (k + 1) d 0 13 L σ = (oc (y_X1_compareStrings k 0 (lI (lI lZ 1 ((L.1 1))) 2 ((L.1 2))) σ) (fun r1 => y_H1 k d 0 14 (lI L 100 r1.1) r1.2)) := rfl
theorem h1_14 (k d : Nat) (L : LV) (σ : CS) : y_H1 (k + 1) d 0 14 L σ = (some ((L.1 100), σ)) := rfl
theorem h1_15 (k d : Nat) (L : LV) (σ : CS) : y_H1 (k + 1) d 0 15 L σ = (if ((L.1 5)) < ((L.1 7)) then (y_H1 k d 0 16 L σ) else (if ((L.1 6)) < ((L.1 7)) then (y_H1 k d 0 16 L σ) else (if ¬ (((((L.1 1)) + ((L.1 7)))) < 0 ∨ (sN σ 3) ≤ ((((L.1 1)) + ((L.1 7)))).toNatClampNeg) then (if ¬ (((((L.1 2)) + ((L.1 7)))) < 0 ∨ (sN σ 3) ≤ ((((L.1 2)) + ((L.1 7)))).toNatClampNeg) then (if ((σ.2.2.1 3 ((((L.1 1)) + ((L.1 7)))).toNatClampNeg)) = ((σ.2.2.1 3 ((((L.1 2)) + ((L.1 7)))).toNatClampNeg)) then (y_H1 k d 0 18 (lI L 100 0) σ) else (y_H1 k d 0 17 L σ)) else none) else none))) := rfl
theorem h1_16 (k d : Nat) (L : LV) (σ : CS) : y_H1 (k + 1) d 0 16 L σ = (if ((L.1 5)) = ((L.1 6)) then (y_H1 k d 0 20 (lI L 100 0) σ) else (y_H1 k d 0 19 L σ)) := rfl
theorem h1_17 (k d : Nat) (L : LV) (σ : CS) : y_H1 (k + 1) d 0 17 L σ = (if ¬ (((((L.1 1)) + ((L.1 7)))) < 0 ∨ (sN σ 3) ≤ ((((L.1 1)) + ((L.1 7)))).toNatClampNeg) then (if ¬ (((((L.1 2)) + ((L.1 7)))) < 0 ∨ (sN σ 3) ≤ ((((L.1 2)) + ((L.1 7)))).toNatClampNeg) then (oe d (fun e3 => oc (y_H1 k e3 0 0 (lI (lI lZ 1 ((σ.2.2.1 3 ((((L.1 1)) + ((L.1 7)))).toNatClampNeg))) 2 ((σ.2.2.1 3 ((((L.1 2)) + ((L.1 7)))).toNatClampNeg))) σ) (fun r3 => y_H1 k d 0 18 (lI L 100 r3.1) r3.2))) else none) else none) := rfl
theorem h1_18 (k d : Nat) (L : LV) (σ : CS) : y_H1 (k + 1) d 0 18 L σ = (if ((L.1 100)) = 0 then (y_H1 k d 0 21 L σ) else (some ((L.1 100), σ))) := rfl
theorem h1_19 (k d : Nat) (L : LV) (σ : CS) : y_H1 (k + 1) d 0 19 L σ = (if ((L.1 6)) ≤ ((L.1 5)) then (y_H1 k d 0 22 L σ) else (y_H1 k d 0 20 (lI L 100 ((-1))) σ)) := rfl
theorem h1_20 (k d : Nat) (L : LV) (σ : CS) : y_H1 (k + 1) d 0 20 L σ = (some ((L.1 100), σ)) := rfl
theorem h1_21 (k d : Nat) (L : LV) (σ : CS) : y_H1 (k + 1) d 0 21 L σ = (y_H1 k d 0 15 (lI L 7 ((((L.1 7)) + 1))) σ) := rfl
theorem h1_22 (k d : Nat) (L : LV) (σ : CS) : y_H1 (k + 1) d 0 22 L σ = (y_H1 k d 0 20 (lI L 100 1) σ) := rfl
section CRG
variable {g : Nat → Prop} {l : List Nat} {t : Nat} {σ : CS} {L : LV} {x y i : Int32}
/-- compare of values no higher than d -/
def PCm (g : Nat → Prop) (σ : CS) (d : Nat) : Prop := ∀ L : LV, Gv g (L.1 1) → Gv g (L.1 2) → hgt (σ.2.2.1 3) (L.1 1) ≤ d → Tm (fun k => y_H1 k d 0 0 L σ) (Qs σ)
theorem cm_end (d : Nat) (L : LV) : Tm (fun k => y_H1 k d 0 16 L σ) (Qs σ) := by
  have e : ∀ L : LV, Tm (fun k => y_H1 k d 0 20 L σ) (Qs σ) := by
    intro L
    refine Tm_suc (fun k => h1_20 k _ _ _) ?_
    exact Tm_some rfl
  refine Tm_suc (fun k => h1_16 k _ _ _) ?_
  refine Tm_ite (fun _ => e _) (fun _ => ?_)
  refine Tm_suc (fun k => h1_19 k _ _ _) ?_
  refine Tm_ite (fun _ => ?_) (fun _ => e _)
  refine Tm_suc (fun k => h1_22 k _ _ _) ?_
  exact e _
theorem cm_loop (h : HQ g l t σ) (hx : Gv g x) (hy : Gv g y) (cx : uN x < 2147483648) (cy : uN y < 2147483648) (kx : 5 ≤ hdK (uN (σ.2.2.1 3 (uN x)))) (ky : 5 ≤ hdK (uN (σ.2.2.1 3 (uN y)))) {d : Nat} (hd : hgt (σ.2.2.1 3) x ≤ d + 1) (ih : PCm g σ d) : ∀ (n : Nat) (L : LV), L.1 1 = x → L.1 2 = y → L.1 5 = nI (hdL (uN (σ.2.2.1 3 (uN x)))) → L.1 6 = nI (hdL (uN (σ.2.2.1 3 (uN y)))) → uN (L.1 7) + n = 4097 → 1 ≤ uN (L.1 7) → Tm (fun k => y_H1 k (d + 1) 0 15 L σ) (Qs σ) := by
  have lx : hdL (uN (σ.2.2.1 3 (uN x))) < 4096 := Nat.mod_lt _ (by decide)
  have ly : hdL (uN (σ.2.2.1 3 (uN y))) < 4096 := Nat.mod_lt _ (by decide)
  have wx : hdW (uN (σ.2.2.1 3 (uN x))) = hdL (uN (σ.2.2.1 3 (uN x))) := by
    unfold hdK at kx; unfold hdW; rw [if_neg (by omega)]
  have wy : hdW (uN (σ.2.2.1 3 (uN y))) = hdL (uN (σ.2.2.1 3 (uN y))) := by
    unfold hdK at ky; unfold hdW; rw [if_neg (by omega)]
  have ex : uN (nI (hdL (uN (σ.2.2.1 3 (uN x))))) = hdL (uN (σ.2.2.1 3 (uN x))) := u_n (by omega)
  have ey : uN (nI (hdL (uN (σ.2.2.1 3 (uN y))))) = hdL (uN (σ.2.2.1 3 (uN y))) := u_n (by omega)
  have fx := (HQ_c h (Gv_c hx cx).2).2.2.2.2.2.2.2.2.2.1 kx
  have fy := (HQ_c h (Gv_c hy cy).2).2.2.2.2.2.2.2.2.2.1 ky
  intro n
  induction n with
  | zero =>
    intro L d1 d2 d5 d6 d7 e7
    refine Tm_suc (fun k => h1_15 k _ _ _) ?_
    refine Tm_yes ?_ (cm_end _ _)
    rw [d5, u_ltn (by omega) (by omega), ex]
    omega
  | succ m jh =>
    intro L d1 d2 d5 d6 d7 e7
    have st : ∀ L' : LV, L'.1 1 = x → L'.1 2 = y → L'.1 5 = L.1 5 → L'.1 6 = L.1 6 → L'.1 7 = L.1 7 → Tm (fun k => y_H1 k (d + 1) 0 18 L' σ) (Qs σ) := by
      intro L' a1 a2 a5 a6 a7
      refine Tm_suc (fun k => h1_18 k _ _ _) ?_
      refine Tm_ite (fun _ => ?_) (fun _ => Tm_some rfl)
      refine Tm_suc (fun k => h1_21 k _ _ _) ?_
      refine jh _ ?_ ?_ ?_ ?_ ?_ ?_
      · exact a1
      · exact a2
      · exact a5.trans d5
      · exact a6.trans d6
      · show uN (L'.1 7 + 1) + m = _
        rw [a7, u_inc (by omega)]; omega
      · show 1 ≤ uN (L'.1 7 + 1)
        rw [a7, u_inc (by omega)]; omega
    refine Tm_suc (fun k => h1_15 k _ _ _) ?_
    refine Tm_ite (fun _ => cm_end _ _) (fun c5 => ?_)
    rw [d5, u_ltn (by omega) (by omega), ex] at c5
    refine Tm_ite (fun _ => cm_end _ _) (fun c6 => ?_)
    rw [d6, u_ltn (by omega) (by omega), ey] at c6
    have zx := in_gi (y := L.1 7) h hx cx (by omega)
    have zy := in_gi (y := L.1 7) h hy cy (by omega)
    refine Tm_chk (by rw [d1]; exact zx.1) ?_
    refine Tm_chk (by rw [d2]; exact zy.1) ?_
    refine Tm_ite (fun _ => ?_) (fun _ => ?_)
    · refine st _ ?_ ?_ ?_ ?_ ?_
      · exact d1
      · exact d2
      · rfl
      · rfl
      · rfl
    refine Tm_suc (fun k => h1_17 k _ _ _) ?_
    refine Tm_chk (by rw [d1]; exact zx.1) ?_
    refine Tm_chk (by rw [d2]; exact zy.1) ?_
    refine Tm_oe ?_
    have mx := fx.2.2 (uN (L.1 7) - 1) (by omega)
    have my := fy.2.2 (uN (L.1 7) - 1) (by omega)
    rw [show uN x + 1 + (uN (L.1 7) - 1) = uN x + uN (L.1 7) from by omega, ← zx.2, ← d1] at mx
    rw [show uN y + 1 + (uN (L.1 7) - 1) = uN y + uN (L.1 7) from by omega, ← zy.2, ← d2] at my
    refine Tm_oc (ih _ ?_ ?_ ?_) (fun r hr => ?_)
    · exact mx.1
    · exact my.1
    · have q := mx.2
      unfold hgt at hd
      rw [if_pos cx] at hd
      rw [d1] at q
      show hgt _ (σ.2.2.1 3 (L.1 1 + L.1 7).toNatClampNeg) ≤ d
      rw [d1]
      omega
    · have e : r.2 = σ := hr
      rw [e]
      refine st _ ?_ ?_ ?_ ?_ ?_
      · exact d1
      · exact d2
      · rfl
      · rfl
      · rfl
theorem hgt_k (h : HQ g l t σ) (hx : Gv g x) (cx : uN x < 2147483648) (kx : 5 ≤ hdK (uN (σ.2.2.1 3 (uN x)))) : 1 ≤ hgt (σ.2.2.1 3) x := by
  have f := ((HQ_c h (Gv_c hx cx).2).2.2.2.2.2.2.2.2.2.1 kx).2.1
  unfold hgt
  rw [if_pos cx]
  exact f
theorem cm_b (h : HQ g l t σ) (d : Nat) (ih : ∀ e, d = e + 1 → PCm g σ e) : PCm g σ d := by
  intro L hx hy hd
  have lx := kdC_lt (σ.2.2.1 3) (L.1 1)
  have ly := kdC_lt (σ.2.2.1 3) (L.1 2)
  have b5 : ∀ L' : LV, L'.1 1 = L.1 1 → L'.1 2 = L.1 2 → L'.1 3 = nI (kdC (σ.2.2.1 3) (L.1 1)) → L'.1 100 = nI (kdC (σ.2.2.1 3) (L.1 2)) → Tm (fun k => y_H1 k d 0 5 L' σ) (Qs σ) := by
    intro L' a1 a2 a3 a4
    refine Tm_suc (fun k => h1_5 k _ _ _) ?_
    refine Tm_ite (fun c => ?_) (fun _ => Tm_ite (fun _ => ?_) (fun _ => ?_))
    · rw [a3, a4, u_eq, u_n (by omega), u_n (by omega)] at c
      have b9 : ¬ (2147483648 ≤ uN (L.1 1) ∧ 2147483648 ≤ uN (L.1 2)) → Tm (fun k => y_H1 k d 0 9 L' σ) (Qs σ) := by
        intro ni
        refine Tm_suc (fun k => h1_9 k _ _ _) ?_
        have e3 : uN (L'.1 3) = kdC (σ.2.2.1 3) (L.1 1) := by rw [a3, u_n (by omega)]
        refine Tm_ite (fun c5 => ?_) (fun c5 => Tm_ite (fun c2 => ?_) (fun c2 => ?_))
        · rw [u_le (by decide) (by omega), e3] at c5
          have c5' : 5 ≤ kdC (σ.2.2.1 3) (L.1 1) := c5
          have k7 : ¬ kdC (σ.2.2.1 3) (L.1 1) = 7 := fun e => ni ⟨kdC_7 h hx e, kdC_7 h hy (by rw [← c]; exact e)⟩
          have cx : uN (L.1 1) < 2147483648 := kdC_5 hx c5' k7
          have cy : uN (L.1 2) < 2147483648 := kdC_5 hy (M := σ.2.2.1 3) (by rw [← c]; exact c5') (by rw [← c]; exact k7)
          have kx : 5 ≤ hdK (uN (σ.2.2.1 3 (uN (L.1 1)))) := by
            have q := c5'
            unfold kdC at q
            rw [if_pos cx] at q
            exact q
          have ky : 5 ≤ hdK (uN (σ.2.2.1 3 (uN (L.1 2)))) := by
            have q := c5'
            rw [c] at q
            unfold kdC at q
            rw [if_pos cy] at q
            exact q
          refine Tm_suc (fun k => h1_12 k _ _ _) ?_
          refine Tm_chk (by rw [a1]; exact in_g h hx cx) ?_
          refine Tm_chk (by rw [a2]; exact in_g h hy cy) ?_
          rw [e_len, e_len, a1, a2, u_cl cx, u_cl cy]
          obtain ⟨e, he⟩ : ∃ e, d = e + 1 := ⟨d - 1, by have := hgt_k h hx cx kx; omega⟩
          have ie := ih e he
          rw [he] at hd ⊢
          refine cm_loop h hx hy cx cy kx ky hd ie 4096 _ ?_ ?_ ?_ ?_ ?_ ?_
          · exact a1
          · exact a2
          · rfl
          · rfl
          · rfl
          · exact Nat.le_refl 1
        · have c2' : L'.1 3 = 2 := c2
          rw [u_eq, e3] at c2'
          have k2 : kdC (σ.2.2.1 3) (L.1 1) = 2 := c2'
          have b14 : ∀ L2 : LV, Tm (fun k => y_H1 k d 0 14 L2 σ) (Qs σ) := by
            intro L2
            refine Tm_suc (fun k => h1_14 k _ _ _) ?_
            exact Tm_some rfl
          refine Tm_oc (c_compareWholes h ?_ ?_ ?_ ?_) (fun r hr => ?_)
          · show Gv g (L'.1 1); rw [a1]; exact hx
          · show Gv g (L'.1 2); rw [a2]; exact hy
          · intro z
            have z' : uN (L'.1 1) < 2147483648 := z
            show hdK (uN (σ.2.2.1 3 (uN (L'.1 1)))) = 2
            rw [a1] at z' ⊢
            unfold kdC at k2
            rw [if_pos z'] at k2
            exact k2
          · intro z
            have z' : uN (L'.1 2) < 2147483648 := z
            show hdK (uN (σ.2.2.1 3 (uN (L'.1 2)))) = 2
            rw [a2] at z' ⊢
            rw [c] at k2
            unfold kdC at k2
            rw [if_pos z'] at k2
            exact k2
          · have e : r.2 = σ := hr
            rw [e]
            exact b14 _
        · have c2' : ¬ L'.1 3 = 2 := c2
          rw [u_eq, e3] at c2'
          have k2 : ¬ kdC (σ.2.2.1 3) (L.1 1) = 2 := c2'
          rw [u_le (by decide) (by omega), e3] at c5
          have k5 : ¬ 5 ≤ kdC (σ.2.2.1 3) (L.1 1) := c5
          have ks : ∀ z : Int32, Gv g z → kdC (σ.2.2.1 3) z = kdC (σ.2.2.1 3) (L.1 1) → uN z < 2147483648 → hdK (uN (σ.2.2.1 3 (uN z))) = 4 := by
            intro z hz e q
            rw [← e] at k2 k5
            have f := (HQ_c h (Gv_c hz q).2).2.2.2.2.2.2.1
            unfold kdC at k2 k5
            rw [if_pos q] at k2 k5
            omega
          have b14 : ∀ L2 : LV, Tm (fun k => y_H1 k d 0 14 L2 σ) (Qs σ) := by
            intro L2
            refine Tm_suc (fun k => h1_14 k _ _ _) ?_
            exact Tm_some rfl
          refine Tm_suc (fun k => h1_13 k _ _ _) ?_
          refine Tm_oc (c_compareStrings h ?_ ?_ ?_ ?_) (fun r hr => ?_)
          · show Gv g (L'.1 1); rw [a1]; exact hx
          · show Gv g (L'.1 2); rw [a2]; exact hy
          · intro z
            have z' : uN (L'.1 1) < 2147483648 := z
            show hdK (uN (σ.2.2.1 3 (uN (L'.1 1)))) = 4
            rw [a1] at z' ⊢
            exact ks _ hx rfl z'
          · intro z
            have z' : uN (L'.1 2) < 2147483648 := z
            show hdK (uN (σ.2.2.1 3 (uN (L'.1 2)))) = 4
            rw [a2] at z' ⊢
            exact ks _ hy c.symm z'
          · have e : r.2 = σ := hr
            rw [e]
            exact b14 _
      refine Tm_suc (fun k => h1_6 k _ _ _) ?_
      refine Tm_ite (fun c1 => ?_) (fun c1 => Tm_ite (fun c2 => ?_) (fun c2 => Tm_ite (fun _ => ?_) (fun _ => ?_)))
      · rw [u_nn, a1] at c1
        exact b9 (by omega)
      · rw [u_nn, a2] at c2
        exact b9 (by omega)
      · refine Tm_suc (fun k => h1_10 k _ _ _) ?_
        refine Tm_suc (fun k => h1_11 k _ _ _) ?_
        exact Tm_some rfl
      · refine Tm_suc (fun k => h1_11 k _ _ _) ?_
        exact Tm_some rfl
    · refine Tm_suc (fun k => h1_7 k _ _ _) ?_
      refine Tm_suc (fun k => h1_8 k _ _ _) ?_
      exact Tm_some rfl
    · refine Tm_suc (fun k => h1_8 k _ _ _) ?_
      exact Tm_some rfl
  have b3 : ∀ L' : LV, L'.1 1 = L.1 1 → L'.1 2 = L.1 2 → L'.1 100 = nI (kdC (σ.2.2.1 3) (L.1 1)) → Tm (fun k => y_H1 k d 0 3 L' σ) (Qs σ) := by
    intro L' a1 a2 a3
    refine Tm_suc (fun k => h1_3 k _ _ _) ?_
    refine Tm_ite (fun c => ?_) (fun c => ?_)
    · rw [u_nn, a2] at c
      refine Tm_suc (fun k => h1_4 k _ _ _) ?_
      refine Tm_chk (by show ¬ (L'.1 2 < 0 ∨ sN σ 3 ≤ (L'.1 2).toNatClampNeg); rw [a2]; exact in_g h hy c) ?_
      refine b5 _ ?_ ?_ ?_ ?_
      · exact a1
      · exact a2
      · exact a3
      · show σ.2.2.1 3 (L'.1 2).toNatClampNeg &&& 7 = _
        rw [e_knd, a2, u_cl c]
        unfold kdC
        rw [if_pos c]
    · rw [u_nn, a2] at c
      refine b5 _ ?_ ?_ ?_ ?_
      · exact a1
      · exact a2
      · exact a3
      · show (((L'.1 2).toUInt32 >>> ((28 : Int32).toUInt32 &&& Int32.toUInt32 31)).toInt32) &&& 7 = _
        rw [e_imm, a2]
        unfold kdC
        rw [if_neg c]
  refine Tm_suc (fun k => h1_0 k _ _ _) ?_
  refine Tm_ite (fun _ => Tm_some rfl) (fun _ => ?_)
  refine Tm_suc (fun k => h1_1 k _ _ _) ?_
  refine Tm_ite (fun c => ?_) (fun c => ?_)
  · rw [u_nn] at c
    refine Tm_suc (fun k => h1_2 k _ _ _) ?_
    refine Tm_chk (in_g h hx c) ?_
    refine b3 _ rfl rfl ?_
    show σ.2.2.1 3 (L.1 1).toNatClampNeg &&& 7 = _
    rw [e_knd, u_cl c]
    unfold kdC
    rw [if_pos c]
  · rw [u_nn] at c
    refine b3 _ rfl rfl ?_
    show (((L.1 1).toUInt32 >>> ((28 : Int32).toUInt32 &&& Int32.toUInt32 31)).toInt32) &&& 7 = _
    rw [e_imm]
    unfold kdC
    rw [if_neg c]
theorem cm_all (h : HQ g l t σ) : ∀ d, PCm g σ d := by
  intro d
  induction d with
  | zero => exact cm_b h 0 (fun e he => absurd he (by omega))
  | succ d ih =>
    refine cm_b h (d + 1) (fun e he => ?_)
    have q : e = d := by omega
    rw [q]; exact ih
theorem c_compare (h : HQ g l t σ) (hx : Gv g (L.1 1)) (hy : Gv g (L.1 2)) : Tm (fun k => y_X1_compare k 0 L σ) (Qs σ) := by
  refine cm_all h 60 L hx hy ?_
  unfold hgt
  split
  · rename_i c
    have f := (HQ_c h (Gv_c hx c).2).2.2.2.2.2.2.2.1.1
    omega
  · exact Nat.zero_le _
theorem c_same (h : HQ g l t σ) (hx : Gv g (L.1 1)) (hy : Gv g (L.1 2)) : Tm (fun k => y_X1_same k 0 L σ) (fun r => r.2 = σ ∧ (r.1 = 0 ∨ r.1 = 1)) := by
  have b1 : Tm (fun k => y_X1_same k 1 L σ) (fun r => r.2 = σ ∧ (r.1 = 0 ∨ r.1 = 1)) := by
    refine Tm_suc (fun k => by rw [y_X1_same]) ?_
    refine Tm_suc (fun k => by rw [y_X1_same]) ?_
    refine Tm_chk (Or.inr rfl) ?_
    exact Tm_some ⟨rfl, Or.inr rfl⟩
  have b2 : Tm (fun k => y_X1_same k 2 L σ) (fun r => r.2 = σ ∧ (r.1 = 0 ∨ r.1 = 1)) := by
    refine Tm_suc (fun k => by rw [y_X1_same]) ?_
    refine Tm_suc (fun k => by rw [y_X1_same]) ?_
    refine Tm_chk (Or.inl rfl) ?_
    exact Tm_some ⟨rfl, Or.inl rfl⟩
  refine Tm_suc (fun k => by rw [y_X1_same]) ?_
  refine Tm_ite (fun _ => b1) (fun _ => Tm_ite (fun _ => b2) (fun c1 => Tm_ite (fun _ => b2) (fun c2 => ?_)))
  rw [u_neg] at c1 c2
  refine Tm_chk (in_g h hx (by omega)) ?_
  refine Tm_chk (in_g h hy (by omega)) ?_
  refine Tm_ite (fun _ => ?_) (fun _ => b2)
  refine Tm_oc (c_compare h hx hy) (fun r hr => ?_)
  have e : r.2 = σ := hr
  rw [e]
  exact Tm_ite (fun _ => b1) (fun _ => b2)
end CRG
end JnS343
section JnS344
/-! The class: a new cell. -/
section CRH
variable {g g' : Nat → Prop} {l : List Nat} {t t' : Nat} {σ : CS} {L : LV} {x y i : Int32} {M M' : Nat → Int32}
/-- the heap is longer -/
def hpC (σ : CS) (t : Nat) (M : Nat → Int32) : CS := (upd σ.1 1 (nI t), σ.2.1, updG σ.2.2.1 3 M, σ.2.2.2)
theorem hpC_id (h : HQ g l t σ) : hpC σ t (σ.2.2.1 3) = σ := by
  refine Prod.ext (funext fun j => ?_) (Prod.ext rfl (Prod.ext (funext fun j => ?_) rfl))
  · show (if j = 1 then nI t else σ.1 j) = σ.1 j
    by_cases c : j = 1
    · rw [if_pos c, c, h.1]
    · rw [if_neg c]
  · show (if j = 3 then σ.2.2.1 3 else σ.2.2.1 j) = σ.2.2.1 j
    by_cases c : j = 3
    · rw [if_pos c, c]
    · rw [if_neg c]
theorem hpC_hp (σ : CS) (t t' : Nat) (M M' : Nat → Int32) : hpC (hpC σ t M) t' M' = hpC σ t' M' := by
  refine Prod.ext (funext fun j => ?_) (Prod.ext rfl (Prod.ext (funext fun j => ?_) rfl))
  · show (if j = 1 then nI t' else if j = 1 then nI t else σ.1 j) = if j = 1 then nI t' else σ.1 j
    by_cases c : j = 1
    · rw [if_pos c, if_pos c]
    · rw [if_neg c, if_neg c, if_neg c]
  · show (if j = 3 then M' else if j = 3 then M else σ.2.2.1 j) = if j = 3 then M' else σ.2.2.1 j
    by_cases c : j = 3
    · rw [if_pos c, if_pos c]
    · rw [if_neg c, if_neg c, if_neg c]
theorem hpC_u (σ : CS) {v : Int32} (hv : v = nI t) (M : Nat → Int32) : uF (uI σ 1 v) 3 M = hpC σ t M := by rw [hv]; rfl
theorem hpC_a (σ : CS) (i : Nat) (x : Int32) : uA (hpC σ t M) 3 i x = hpC σ t (upd M i x) := by
  refine Prod.ext rfl (Prod.ext rfl (Prod.ext (funext fun j => ?_) rfl))
  show (if j = 3 then upd M i x else if j = 3 then M else σ.2.2.1 j) = if j = 3 then upd M i x else σ.2.2.1 j
  by_cases c : j = 3
  · rw [if_pos c, if_pos c]
  · rw [if_neg c, if_neg c, if_neg c]
theorem hpC_f (σ : CS) (M' : Nat → Int32) : uF (hpC σ t M) 3 M' = hpC σ t M' := by
  refine Prod.ext rfl (Prod.ext rfl (Prod.ext (funext fun j => ?_) rfl))
  show (if j = 3 then M' else if j = 3 then M else σ.2.2.1 j) = if j = 3 then M' else σ.2.2.1 j
  by_cases c : j = 3
  · rw [if_pos c, if_pos c]
  · rw [if_neg c, if_neg c, if_neg c]
theorem hpC_i (σ : CS) {v : Int32} (hv : v = nI t) : uI σ 1 v = hpC σ t (σ.2.2.1 3) := by
  rw [hv]
  refine Prod.ext rfl (Prod.ext rfl (Prod.ext (funext fun j => ?_) rfl))
  show σ.2.2.1 j = if j = 3 then σ.2.2.1 3 else σ.2.2.1 j
  by_cases c : j = 3
  · rw [if_pos c, c]
  · rw [if_neg c]
theorem TlC_app (hM : ∀ p, p < t → M' p = M p) (ht : t ≤ t') (e1 : uN (M' t) < 2147483648) (e2 : t + 1 + hdW (uN (M' t)) = t') : ∀ (l : List Nat) (a : Nat), TlC M t a l → TlC M' t' a (l ++ [t])
  | [], a, h => ⟨show t = a from (show a = t from h).symm, e1, by omega, e2⟩
  | p :: l, a, h => by
    obtain ⟨h1, h2, h3, h4⟩ := h
    have e : M' p = M p := hM p (by omega)
    refine ⟨h1, by rw [e]; exact h2, by rw [e]; omega, ?_⟩
    rw [e]
    exact TlC_app hM ht e1 e2 l _ h4
theorem hdW_5 {H : Nat} (k : 5 ≤ hdK H) : hdW H = hdL H := by
  unfold hdK at k; unfold hdW; rw [if_neg (by omega)]
theorem CGo_ext (hM : ∀ p, p < t → M' p = M p) (hg : ∀ p, g p → g' p) (hb : ∀ p, g p → p < t) (ht : t ≤ t') {p : Nat} (h : CGo M g t p) : CGo M' g' t' p := by
  obtain ⟨h1, h2, h3, h4, h5, h6, h7⟩ := h
  have e : M' p = M p := hM p (by omega)
  unfold CGo
  rw [e]
  have mb : 5 ≤ hdK (uN (M p)) → ∀ i, i < hdL (uN (M p)) → M' (p + 1 + i) = M (p + 1 + i) := by
    intro k i hi
    have w := hdW_5 k
    exact hM _ (by omega)
  refine ⟨h1, by omega, h3, h4, h5, fun k => ⟨(h6 k).1, (h6 k).2.1, fun i hi => ?_⟩, fun k f i hi => ?_⟩
  · obtain ⟨a, b⟩ := (h6 k).2.2 i hi
    rw [mb k i hi]
    refine ⟨Gv_sg a hg, ?_⟩
    unfold hgt at b ⊢
    split
    · rename_i c
      rw [if_pos c] at b
      rw [hM _ (hb _ (Gv_c a c).2)]
      exact b
    · rename_i c
      rw [if_neg c] at b
      exact b
  · have k5 : 5 ≤ hdK (uN (M p)) := by omega
    obtain ⟨a, b⟩ := h7 k f i hi
    have a2 := ((h6 k5).2.2 i hi).1
    rw [mb k5 i hi, hM _ (hb _ (Gv_c a2 a).2)]
    exact ⟨a, b⟩
/-- one cell more -/
theorem HQ_new (h : HQ g l t σ) (hM : ∀ p, p < t → M' p = σ.2.2.1 3 p) (ht : t + 1 + hdW (uN (M' t)) ≤ sN σ 3) (hc : CGo M' (fun p => g p ∨ p = t) (t + 1 + hdW (uN (M' t))) t) : HQ (fun p => g p ∨ p = t) (l ++ [t]) (t + 1 + hdW (uN (M' t))) (hpC σ (t + 1 + hdW (uN (M' t))) M') := by
  have h3 := h.2.1
  refine ⟨rfl, ⟨by omega, ht⟩, h.2.2.1, ⟨Or.inl h.2.2.2.1.1, Or.inl h.2.2.2.1.2.1, Or.inl h.2.2.2.1.2.2⟩, ?_, ?_, fun p hp => ?_⟩
  · show M' 0 = 65540 ∧ M' 1 = 67174405 ∧ M' 2 = 67174414
    rw [hM 0 (by omega), hM 1 (by omega), hM 2 (by omega)]
    exact h.2.2.2.2.1
  · exact TlC_app hM (by omega) hc.1 rfl l 3 h.2.2.2.2.2.1
  · rcases hp with hp | hp
    · obtain ⟨a, b⟩ := h.2.2.2.2.2.2 p hp
      refine ⟨a.imp id (fun z => List.mem_append_left _ z), ?_⟩
      exact CGo_ext hM (fun q => Or.inl) (fun q hq => (HQ_c h hq).1) (by omega) b
    · rw [hp]
      exact ⟨Or.inr (List.mem_append_right _ (List.mem_singleton.2 rfl)), hc⟩
/-- what a maker leaves -/
def Mk (g : Nat → Prop) (t : Nat) (σ : CS) (kd : Nat) (r : Int32 × CS) : Prop := ∃ (g' : Nat → Prop) (l' : List Nat) (t' : Nat) (M' : Nat → Int32), r.2 = hpC σ t' M' ∧ HQ g' l' t' r.2 ∧ (∀ p, g p → g' p) ∧ (∀ p, p < t → M' p = σ.2.2.1 3 p) ∧ t ≤ t' ∧ ((Gv g' r.1 ∧ kdC M' r.1 = kd) ∨ Rw r.1)
theorem Mk_id (h : HQ g l t σ) {v : Int32} {kd : Nat} (hv : (Gv g v ∧ kdC (σ.2.2.1 3) v = kd) ∨ Rw v) : Mk g t σ kd (v, σ) := ⟨g, l, t, σ.2.2.1 3, (hpC_id h).symm, h, fun _ z => z, fun _ _ => rfl, Nat.le_refl _, hv⟩
theorem Mk_new (h : HQ g l t σ) (hM : ∀ p, p < t → M' p = σ.2.2.1 3 p) (ht : t + 1 + hdW (uN (M' t)) ≤ sN σ 3) (hc : CGo M' (fun p => g p ∨ p = t) (t + 1 + hdW (uN (M' t))) t) : Mk g t σ (hdK (uN (M' t))) (nI t, hpC σ (t + 1 + hdW (uN (M' t))) M') := by
  have hn := HQ_n h
  have e : uN (nI t) = t := u_n (by omega)
  refine ⟨_, _, _, M', rfl, HQ_new h hM ht hc, fun p => Or.inl, hM, by omega, Or.inl ⟨Or.inr ⟨by show uN (nI t) < 160000; omega, Or.inr e⟩, ?_⟩⟩
  show (if uN (nI t) < 2147483648 then hdK (uN (M' (uN (nI t)))) else uN (nI t) / 268435456 % 8) = _
  rw [if_pos (by omega), e]
/-- a header -/
theorem hd_of {K F n s hh : Int32} {k f N S T : Nat} (hk : uN K = k) (k8 : k < 8) (hf : uN F = f * 8) (f2 : f < 2) (hn : uN n = N) (n4 : N < 4096) (hs : uN s = S) (s1 : S < 1024) (ht : uN hh = T) (t3 : T < 64) : uN ((((K ||| F) ||| (n <<< ((4 : Int32) &&& 31))) ||| (s <<< ((16 : Int32) &&& 31))) ||| (hh <<< ((26 : Int32) &&& 31))) = k + f * 8 + 16 * N + 65536 * S + 67108864 * T := by
  have e4 : uN (n <<< ((4 : Int32) &&& 31)) = N * 2 ^ 4 := by rw [u_shl (k := 4) _ (by decide) (by rw [hn]; omega), hn]
  have e16 : uN (s <<< ((16 : Int32) &&& 31)) = S * 2 ^ 16 := by rw [u_shl (k := 16) _ (by decide) (by rw [hs]; omega), hs]
  have e26 : uN (hh <<< ((26 : Int32) &&& 31)) = T * 2 ^ 26 := by rw [u_shl (k := 26) _ (by decide) (by rw [ht]; omega), ht]
  have a1 : uN (K ||| F) = k + f * 8 := by rw [u_orA (k := 3) (a := f) (by rw [hk]; omega) hf, hk, hf]
  have a2 : uN ((K ||| F) ||| (n <<< ((4 : Int32) &&& 31))) = k + f * 8 + N * 2 ^ 4 := by rw [u_orA (k := 4) (a := N) (by rw [a1]; omega) e4, a1, e4]
  have a3 : uN (((K ||| F) ||| (n <<< ((4 : Int32) &&& 31))) ||| (s <<< ((16 : Int32) &&& 31))) = k + f * 8 + N * 2 ^ 4 + S * 2 ^ 16 := by rw [u_orA (k := 16) (a := S) (by rw [a2]; omega) e16, a2, e16]
  rw [u_orA (k := 26) (a := T) (by rw [a3]; omega) e26, a3, e26]
  omega
/-- a row of values as a new cell -/
theorem Mk_row (h : HQ g l t σ) {R : Nat → Int32} {H : Int32} {s n kd f S T : Nat} (hk : kd = 5 ∨ kd = 6) (f2 : f < 2) (n1 : n ≤ 999) (s1 : 1 ≤ S) (s2 : S ≤ 1000) (t1 : 1 ≤ T) (t3 : T ≤ 30) (hH : uN H = kd + f * 8 + 16 * n + 65536 * S + 67108864 * T) (hr : t + 1 + n ≤ sN σ 3) (hv : ∀ j, j < n → Gv g (R (s + j)) ∧ hgt (σ.2.2.1 3) (R (s + j)) < T) (hf : f = 1 → ∀ j, j < n → uN (R (s + j)) < 2147483648 ∧ uN (σ.2.2.1 3 (uN (R (s + j)))) % 65536 = 37) : Mk g t σ kd (nI t, hpC σ (t + 1 + n) (va_cpy R (upd (σ.2.2.1 3) t H) s (t + 1) n)) := by
  have hm : va_cpy R (upd (σ.2.2.1 3) t H) s (t + 1) n t = H := by
    unfold va_cpy
    rw [if_neg (by omega), upd_same]
  have hlo : ∀ p, p < t → va_cpy R (upd (σ.2.2.1 3) t H) s (t + 1) n p = σ.2.2.1 3 p := by
    intro p hp
    unfold va_cpy
    rw [if_neg (by omega), upd_other (by omega)]
  have hin : ∀ i, i < n → va_cpy R (upd (σ.2.2.1 3) t H) s (t + 1) n (t + 1 + i) = R (s + i) := by
    intro i hi
    unfold va_cpy
    rw [if_pos ⟨by omega, by omega⟩]
    congr 1
    omega
  have k1 : hdK (uN H) = kd := by unfold hdK; omega
  have k2 : hdL (uN H) = n := by unfold hdL; omega
  have k3 : hdW (uN H) = n := by rw [hdW_5 (by omega), k2]
  have k4 : hdS (uN H) = S := by unfold hdS; omega
  have k5 : hdT (uN H) = T := by unfold hdT; omega
  have k6 : uN H / 8 % 2 = f := by omega
  have q := Mk_new (M' := va_cpy R (upd (σ.2.2.1 3) t H) s (t + 1) n) h hlo (by rw [hm, k3]; exact hr) (by
    unfold CGo
    rw [hm, k1, k2, k3, k4, k5, k6]
    refine ⟨by omega, by omega, by omega, ⟨t3, s1⟩, fun z => by omega, fun _ => ⟨n1, t1, fun i hi => ?_⟩, fun _ z i hi => ?_⟩
    · rw [hin i hi]
      obtain ⟨a, b⟩ := hv i hi
      refine ⟨Gv_sg a (fun p => Or.inl), ?_⟩
      unfold hgt at b ⊢
      split
      · rename_i c
        rw [if_pos c] at b
        rw [hlo _ (HQ_c h (Gv_c a c).2).1]
        exact b
      · omega
    · rw [hin i hi]
      obtain ⟨a, b⟩ := hf z i hi
      rw [hlo _ (HQ_c h (Gv_c (hv i hi).1 a).2).1]
      exact ⟨a, b⟩)
  rw [hm, k1, k3] at q
  exact q
end CRH
end JnS344

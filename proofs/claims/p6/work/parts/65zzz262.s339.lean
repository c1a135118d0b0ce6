/-! Between calls (reference): all other calls. -/
section RCM
variable {σ ω : MS} {j : Nat} {L : Nat → Int32}
theorem n_and8 (x : Int32) : ∃ d, d ≤ 300 ∧ x &&& 255 = nI d := by
  refine ⟨(x &&& 255).toBitVec.toNat, ?_, n_ofbv _⟩
  rw [Int32.toBitVec_and, BitVec.toNat_and]
  exact Nat.le_trans Nat.and_le_right (by decide)
/-- the run is left alone; what stands besides -/
theorem RfI_sm (h : RfI j σ) (hs : SmR σ ω) (hM : ∃ (g : Nat → Prop) (l : List Nat) (B h X : Nat), MI 0 X g l B h ω) (hr : ∀ a, a = 1 ∨ (13 ≤ a ∧ a ≤ 16) ∨ (53 ≤ a ∧ a ≤ 55) → ω.2.2 a = σ.2.2 a) (hj : ∀ i, i = 25 ∨ i = 73 ∨ i = 111 ∨ i = 115 → ω.1 i = σ.1 i) (ht : ∃ n, TpO (ω.2.2 3) n ω) (h120 : ∃ q, ω.1 120 = nI q ∧ q ≤ 12000) : RfI (j + 1) ω := by
  obtain ⟨hB, hP⟩ := h
  obtain ⟨r1, r2, r3, r4, r5, r6, _, _, r9⟩ := id hB
  obtain ⟨s1, s2, s3⟩ := id hs
  have ae := AE_sm r6 r2 hs
  refine ⟨⟨hM, fun i hi => by rw [s2 33 (by omega)]; exact r2 i hi, by rw [s2 2 (by omega)]; exact r3, fun p hp => by rw [s2 18 (by omega)]; exact r4 p hp, (hr 1 (by omega)).trans r5, (s1 68 (by omega)).trans r6, ht, h120, by rw [hj 73 (by omega)]; exact r9⟩, hP.imp (fun z => ⟨(hj 111 (by omega)).trans z.1, (s1 112 (by omega)).trans z.2⟩) (fun z => ?_)⟩
  obtain ⟨z1, TX, u, p, nX, g, t, KB, S, a1, a2, a3, a4, a5, C, K, z0, x66, sd, ri, ps⟩ := z
  refine ⟨by rw [hj 111 (by omega)]; exact z1, TX, u, p, nX, g, t, KB, S, ⟨a1.1, (hj 115 (by omega)).trans a1.2.1, fun i hi => by rw [hr 53 (by omega)]; exact a1.2.2 i hi⟩, a2, a3, PG_x a4 (fun i hi => ?_) (fun a ha => ?_), VwO_c (hj 73 (by omega)) (hr 54 (by omega)) (hr 55 (by omega)) a5, C, K, z0, x66, sd, RIc_ae ae hM ri, fun y => ?_⟩
  · by_cases e : i = 25
    · rw [e]; exact hj 25 (by omega)
    · exact s1 i (by omega)
  · by_cases e : a = 1 ∨ (13 ≤ a ∧ a ≤ 16)
    · exact hr a (by omega)
    · exact s2 a (by omega)
  · rw [s1 112 (by omega)] at y
    obtain ⟨m, m1, m2⟩ := ps y
    exact ⟨m, by omega, PSt_sm a3.1.1.1 hs hM m2⟩
/-- a value is shown -/
theorem RfI_sf {χ : MS} {v : Int32} {g : Nat → Prop} {l : List Nat} {B h' X : Nat} (h : RfI j σ) (hM : MI 0 X g l B h' σ) (hv : Vd g v) (hx : ∀ i, ¬ (i = 2 ∨ i = 4 ∨ i = 8 ∨ i = 9) → χ.1 i = σ.1 i) (hx2 : χ.2 = σ.2) (h4 : χ.1 4 = 0 ∨ χ.1 4 = σ.1 4) (hs : ShF χ v ω) : RfI (j + 1) ω := by
  have M1 : MI 0 X g l B h' χ := MI_c hM (hx 54 (by decide)) (hx 55 (by decide)) (hx 63 (by decide)) (hx 72 (by decide)) (by rw [hx2])
  have M2 := MI_sf M1 hv hs
  obtain ⟨f1, f2, f3, f4, f5, f6, f7⟩ := id hs
  have nn : ∀ i, ¬ (i = 2 ∨ i = 4 ∨ i = 8 ∨ i = 9 ∨ i = 79 ∨ i = 84 ∨ i = 93 ∨ i = 120) → ω.1 i = σ.1 i := fun i hi => (f1 i (by omega)).trans (hx i (by omega))
  have rr : ∀ a, ¬ (a = 40 ∨ a = 42 ∨ a = 48 ∨ a = 49 ∨ a = 57) → ω.2.2 a = σ.2.2 a := fun a ha => (f3 a ha).trans (by rw [hx2])
  obtain ⟨n, t1, _, t3⟩ := id h.1.2.2.2.2.2.2.1
  refine RfI_sm h ⟨fun i hi => nn i (by omega), fun a ha => rr a (by omega), by rw [f2, hx2]⟩ ⟨_, _, _, _, _, M2⟩ (fun a ha => rr a (by omega)) (fun i hi => nn i (by omega)) ?_ f6
  rcases h4 with z | z
  · exact ⟨0, ⟨(f1 4 (by decide)).trans z, Nat.zero_le _⟩, rfl, fun i hi => absurd hi (Nat.not_lt_zero _)⟩
  · exact ⟨n, ⟨(f1 4 (by decide)).trans (z.trans t1.1), t1.2⟩, rfl, fun i hi => by rw [rr 3 (by decide)]; exact t3 i hi⟩
/-- numbers 2, 4, 8, 9, 11 alone -/
theorem RfI_nm (h : RfI j σ) (hx : ∀ i, ¬ (i = 2 ∨ i = 4 ∨ i = 8 ∨ i = 9 ∨ i = 11) → ω.1 i = σ.1 i) (hx2 : ω.2 = σ.2) (h4 : ω.1 4 = 0 ∨ ω.1 4 = σ.1 4) : RfI (j + 1) ω := by
  obtain ⟨⟨g0, l0, B0, h0, X0, m0⟩, _⟩ := id h.1
  obtain ⟨n, t1, _, t3⟩ := id h.1.2.2.2.2.2.2.1
  refine RfI_sm h ⟨fun i hi => hx i (by omega), fun a ha => by rw [hx2], by rw [hx2]⟩ ⟨g0, l0, B0, h0, X0, MI_c m0 (hx 54 (by decide)) (hx 55 (by decide)) (hx 63 (by decide)) (hx 72 (by decide)) (by rw [hx2])⟩ (fun a ha => by rw [hx2]) (fun i hi => hx i (by omega)) ?_ (by rw [hx 120 (by decide)]; exact h.1.2.2.2.2.2.2.2.1)
  rcases h4 with z | z
  · exact ⟨0, ⟨z, Nat.zero_le _⟩, rfl, fun i hi => absurd hi (Nat.not_lt_zero _)⟩
  · exact ⟨n, ⟨z.trans t1.1, t1.2⟩, rfl, fun i hi => by rw [hx2]; exact t3 i hi⟩
theorem r_fault (h : RfI j σ) : Tm (fun k => x_fault_ k 0 L σ) (fun r => RfI (j + 1) r.2) := Tm_mono s_fault_ (fun r hr => by rw [hr]; exact RfI_2 h)
theorem r_count (h : RfI j σ) : Tm (fun k => x_count k 0 L σ) (fun r => RfI (j + 1) r.2) := Tm_mono s_count (fun r hr => by obtain ⟨c, e⟩ := hr; rw [e]; exact RfI_2 h)
theorem r_shown (h : RfI j σ) : Tm (fun k => x_shown k 0 L σ) (fun r => RfI (j + 1) r.2) := Tm_mono (s_shown h.1.2.2.2.2.2.2.2.1) (fun r hr => by obtain ⟨c, e⟩ := hr; rw [e]; exact RfI_2 h)
theorem r_order (h : RfI j σ) : Tm (fun k => x_order k 0 L σ) (fun r => RfI (j + 1) r.2) := by
  obtain ⟨⟨g0, l0, B0, h0, X0, m0⟩, _⟩ := id h.1
  exact Tm_mono (s_order m0) (fun r hr => by rw [hr]; exact RfI_2 h)
theorem r_shape (h : RfI j σ) : Tm (fun k => x_shape k 0 L σ) (fun r => RfI (j + 1) r.2) := by
  obtain ⟨⟨g0, l0, B0, h0, X0, m0⟩, _⟩ := id h.1
  exact Tm_mono (s_shape m0) (fun r hr => by obtain ⟨c, e⟩ := hr; rw [e]; exact RfI_2 h)
theorem r_state (h : RfI j σ) : Tm (fun k => x_state k 0 L σ) (fun r => RfI (j + 1) r.2) := Tm_mono s_state (fun r hr => by rw [hr]; exact RfI_2 h)
theorem r_out (h : RfI j σ) : Tm (fun k => x_out k 0 L σ) (fun r => RfI (j + 1) r.2) := by
  by_cases c : ouR σ (L 1)
  · exact Tm_mono (s_outN c) (fun r hr => by rw [hr]; exact RfI_2 h)
  · obtain ⟨q, e1, e2⟩ := n_ofnn (fun z => c (Or.inr (Or.inl z)) : ¬ L 1 < 0)
    have hq : q < 60000 := by
      have : nI q < nI 60000 := by
        refine Classical.byContradiction (fun z => c (Or.inr (Or.inr (Or.inr (fun y => z ?_)))))
        rw [e1] at y; exact y
      exact (n_lt e2 (by decide)).mp this
    exact Tm_mono (s_outY e1 c hq) (fun r hr => by rw [hr]; exact RfI_2 h)
theorem r_seen (h : RfI j σ) : Tm (fun k => x_seen k 0 L σ) (fun r => RfI (j + 1) r.2) := by
  obtain ⟨⟨g0, l0, B0, h0, X0, m0⟩, _⟩ := id h.1
  refine Tm_mono (s_seen m0 h.1.2.2.2.2.2.2.2.2) (fun r hr => ?_)
  rcases hr with ⟨c, e⟩ | ⟨v, v1, v2⟩
  · rw [e]; exact RfI_2 h
  · exact RfI_sf (χ := mSc σ 2 0) h m0 v1 (fun i hi => (show upd σ.1 2 0 i = σ.1 i from upd_other (by omega))) rfl (Or.inr (show upd σ.1 2 0 4 = σ.1 4 from upd_other (by decide))) v2
theorem r_value (h : RfI j σ) : Tm (fun k => x_value k 0 L σ) (fun r => RfI (j + 1) r.2) := by
  by_cases c : σ.1 112 = 0
  · exact Tm_mono (s_valueN c) (fun r hr => by rw [hr]; exact RfI_2 h)
  · obtain ⟨⟨g0, l0, B0, h0, X0, m0⟩, _⟩ := id h.1
    obtain ⟨n, t1, _, t3⟩ := id h.1.2.2.2.2.2.2.1
    obtain ⟨z1, TX, u, p, nX, g, t, KB, S, a1, a2, a3, a4, a5, _⟩ := h.2.resolve_left (fun z => c z.2)
    have e1 := a3.1.2.2.1.2.2.2.2
    refine Tm_mono (s_value m0 a4 (by omega) t1 c) (fun r hr => ?_)
    rcases hr with e | ⟨v, v1, v2⟩
    · rw [e]
      refine RfI_nm h (fun i hi => ?_) rfl (Or.inr ?_)
      · show upd (upd (upd (upd σ.1 2 0) 8 0) 9 (σ.1 4)) 2 2 i = _
        rw [upd_other (by omega), upd_other (by omega), upd_other (by omega), upd_other (by omega)]
      · show upd (upd (upd (upd σ.1 2 0) 8 0) 9 (σ.1 4)) 2 2 4 = _
        rw [upd_other (by decide), upd_other (by decide), upd_other (by decide), upd_other (by decide)]
    · refine RfI_sf (χ := mSc (mVl σ) 4 0) h m0 v1 (fun i hi => ?_) rfl (Or.inl (show upd (upd (upd (upd σ.1 2 0) 8 0) 9 (σ.1 4)) 4 0 4 = 0 from upd_same)) v2
      show upd (upd (upd (upd σ.1 2 0) 8 0) 9 (σ.1 4)) 4 0 i = _
      rw [upd_other (by omega), upd_other (by omega), upd_other (by omega), upd_other (by omega)]
theorem r_round (h : RfI j σ) : Tm (fun k => x_round k 0 L σ) (fun r => RfI (j + 1) r.2) := by
  by_cases c : σ.1 112 = 0
  · exact Tm_mono (s_roundN c) (fun r hr => by rw [hr]; exact RfI_2 h)
  · obtain ⟨hB, hP⟩ := h
    obtain ⟨r1, r2, r3, r4, r5, r6, ⟨n, r7⟩, r8, r9⟩ := id hB
    obtain ⟨z1, TX, u, p, nX, g, t, KB, S, a1, a2, a3, a4, a5, C, K, z0, x66, sd, ri, ps⟩ := hP.resolve_left (fun z => c z.2)
    obtain ⟨m, m1, m2⟩ := ps c
    have k18 : Tm (fun k => x_round k 0 L σ) (fun r => r.2.2.2 18 = σ.2.2 18) := by
      obtain ⟨r, k0, h1, _⟩ := s_round a3.1 m2 a4 r7 a5 c (L := L)
      exact ⟨r, k0, h1, ku_round k0 0 L σ r (h1 k0 (Nat.le_refl _))⟩
    refine Tm_mono (Tm_and (s_round a3.1 m2 a4 r7 a5 c) k18) (fun r hr => ?_)
    obtain ⟨⟨y1, y2, y3, ⟨Tp', y4, _⟩, y5, y6⟩, y7⟩ := hr
    obtain ⟨q1, q2, q3, q4, _, q6, q7, q8, q9, q10⟩ := id y1.1
    obtain ⟨V, v1, v2, _⟩ := id y3
    refine ⟨⟨q1, q3, by rw [q4.2]; exact q4.1, fun p hp => by rw [y7]; exact r4 p hp, y2.1, q9, ⟨n, y4.1, rfl, fun i hi => by rw [y4.2.1]; exact y4.2.2 i hi⟩, by rw [y5 120 (by omega)]; exact r8, ⟨V, v1, v2⟩⟩, Or.inr ⟨by rw [y5 111 (by omega)]; exact z1, TX, u, p, nX, g, t, KB, S, ⟨a1.1, (y5 115 (by omega)).trans a1.2.1, fun i hi => by rw [y6 53 (by omega)]; exact a1.2.2 i hi⟩, a2, a3, y2, y3, C, K, z0, x66, sd, y1.1, fun _ => ⟨m, by omega, y1⟩⟩⟩
theorem r_work {J : Nat → Int64} (h : RfI j σ) : Tm (fun k => x_work k 0 L J σ) (fun r => RfI (j + 1) r.2) := by
  by_cases c : σ.1 112 = 0
  · refine Tm_suc (fun k => by rw [x_work]) ?_
    refine Tm_ite (fun _ => ?_) (fun z => absurd c z)
    refine Tm_suc (fun k => by rw [x_work]) ?_
    refine Tm_suc (fun k => by rw [x_work]) ?_
    refine Tm_ob (s_good _ _) (fun r hr => ?_)
    rw [hr]
    refine Tm_ite (fun _ => ?_) (fun z => absurd rfl z)
    exact Tm_some (RfI_2 h)
  · obtain ⟨hB, hP⟩ := h
    obtain ⟨r1, r2, r3, r4, r5, r6, ⟨n, r7⟩, r8, r9⟩ := id hB
    obtain ⟨z1, TX, u, p, nX, g, t, KB, S, a1, a2, a3, a4, a5, C, K, z0, x66, sd, ri, ps⟩ := hP.resolve_left (fun z => c z.2)
    obtain ⟨m, m1, m2⟩ := ps c
    have eb := a3.1.2.2.1
    refine Tm_mono (s_work a3.1 m2 a4 r7 c) (fun r hr => ?_)
    obtain ⟨y1, y2, y3, y4⟩ := hr
    obtain ⟨q1, q2, q3, q4, _, q6, q7, q8, q9, q10⟩ := id y1.1
    obtain ⟨o1, o2, o3, o4⟩ := id y2
    refine ⟨⟨q1, q3, by rw [q4.2]; exact q4.1, fun p hp => by rw [o2 18 (by omega)]; exact r4 p hp, (o2 1 (by omega)).trans r5, q9, ⟨0, ⟨y3, Nat.zero_le _⟩, rfl, fun i hi => absurd hi (Nat.not_lt_zero _)⟩, ?_, by rw [o1 73 (by omega)]; exact r9⟩, Or.inr ⟨by rw [o1 111 (by omega)]; exact z1, TX, u, p, nX, g, t, KB, S, ⟨a1.1, (o1 115 (by omega)).trans a1.2.1, fun i hi => by rw [o2 53 (by omega)]; exact a1.2.2 i hi⟩, a2, a3, PG_of y2 (by omega) a4, VwO_c (o1 73 (by omega)) (o2 54 (by omega)) (o2 55 (by omega)) a5, C, K, z0, x66, sd, y1.1, fun _ => ⟨m, by omega, y1⟩⟩⟩
    rcases y4 with e | e
    · rw [e]; exact r8
    · exact e
theorem r_view (h : RfI j σ) : Tm (fun k => x_view k 0 L σ) (fun r => RfI (j + 1) r.2) := by
  by_cases c : σ.1 111 = 0
  · refine Tm_suc (fun k => by rw [x_view]) ?_
    refine Tm_ite (fun _ => ?_) (fun z => absurd c z)
    refine Tm_suc (fun k => by rw [x_view]) ?_
    refine Tm_ob (s_good _ _) (fun r hr => ?_)
    rw [hr]
    refine Tm_ite (fun _ => ?_) (fun z => absurd rfl z)
    exact Tm_some (RfI_2 h)
  · obtain ⟨hB, hP⟩ := id h
    obtain ⟨r1, r2, r3, r4, r5, r6, ⟨n, r7⟩, r8, r9⟩ := id hB
    obtain ⟨z1, TX, u, p, nX, g, t, KB, S, a1, a2, a3, a4, a5, C, K, z0, x66, sd, ri, ps⟩ := hP.resolve_left (fun z => c z.1)
    have eb := a3.1.2.2.1
    refine Tm_mono (s_view ri eb.2.2 a4 r7 a5 c) (fun r hr => ?_)
    rcases hr with e | ⟨ae, y2, y3, y4, _, y6, y7, y8, y9⟩
    · rw [e]; exact RfI_2 h
    · have ri' := RIc_ae ae y3 ri
      obtain ⟨q1, q2, q3, q4, _, q6, q7, q8, q9, q10⟩ := id ri'
      obtain ⟨V, v1, v2, _⟩ := id y6
      refine ⟨⟨y3, q3, by rw [q4.2]; exact q4.1, fun p hp => by rw [y8 18 (by omega)]; exact r4 p hp, y2.1, q9, ⟨0, ⟨y9, Nat.zero_le _⟩, rfl, fun i hi => absurd hi (Nat.not_lt_zero _)⟩, by rw [y7 120 (by omega)]; exact r8, ⟨V, v1, v2⟩⟩, Or.inr ⟨by rw [y7 111 (by omega)]; exact z1, TX, u, p, nX, g, t, KB, S, ⟨a1.1, (y7 115 (by omega)).trans a1.2.1, fun i hi => by rw [y8 53 (by omega)]; exact a1.2.2 i hi⟩, a2, a3, y2, y6, C, K, z0, x66, sd, ri', fun y => ?_⟩⟩
      rw [y7 112 (by omega)] at y
      obtain ⟨m, m1, m2⟩ := ps y
      exact ⟨m, by omega, PSt_ae a3.1.1.1 ae y3 (y4 (PSt_UT m2).1) m2⟩
theorem r_end (h : RfI j σ) : Tm (fun k => x_end k 0 L σ) (fun r => RfI (j + 1) r.2) := by
  refine Tm_mono (s_end L σ) (fun r hr => ?_)
  by_cases c : ¬ L 1 < 0 ∧ L 1 ≤ σ.1 4
  · rw [if_pos c] at hr
    obtain ⟨q, e1, e2⟩ := n_ofnn c.1
    obtain ⟨⟨g0, l0, B0, h0, X0, m0⟩, _⟩ := id h.1
    obtain ⟨n, t1, _, t3⟩ := id h.1.2.2.2.2.2.2.1
    have hq : q ≤ n := by
      have := c.2
      rw [e1, t1.1] at this
      exact (n_le e2 (by have := t1.2; omega)).mp this
    have o : ∀ i, ¬ (i = 2 ∨ i = 4) → r.2.1 i = σ.1 i := fun i hi => by
      rw [hr]; show upd (upd σ.1 2 0) 4 (L 1) i = _
      rw [upd_other (by omega), upd_other (by omega)]
    have o2 : r.2.2 = σ.2 := by rw [hr]
    refine RfI_sm h ⟨fun i hi => o i (by omega), fun a ha => by rw [o2], by rw [o2]⟩ ⟨g0, l0, B0, h0, X0, MI_c m0 (o 54 (by decide)) (o 55 (by decide)) (o 63 (by decide)) (o 72 (by decide)) (by rw [o2])⟩ (fun a ha => by rw [o2]) (fun i hi => o i (by omega)) ⟨q, ⟨?_, by have := t1.2; omega⟩, rfl, fun i hi => by rw [o2]; exact t3 i (by omega)⟩ (by rw [o 120 (by decide)]; exact h.1.2.2.2.2.2.2.2.1)
    rw [hr]
    show upd (upd σ.1 2 0) 4 (L 1) 4 = nI q
    rw [upd_same, e1]
  · rw [if_neg c] at hr
    rw [hr]; exact RfI_2 (x := 1) h
theorem r_feed (h : RfI j σ) : Tm (fun k => x_feed k 0 L σ) (fun r => RfI (j + 1) r.2) := by
  obtain ⟨⟨g0, l0, B0, h0, X0, m0⟩, _⟩ := id h.1
  obtain ⟨n, t1, _, t3⟩ := id h.1.2.2.2.2.2.2.1
  have tn := t1.2
  have e4 : (σ.1 4).toInt = n := by rw [t1.1, n_int (by omega)]
  have c4 : (σ.1 4).toNatClampNeg = n := by rw [t1.1, n_cl (p := n) (by omega)]
  refine Tm_mono (s_feed L σ (by omega) (by omega)) (fun r hr => ?_)
  by_cases c : (σ.1 4).toInt + 20 ≤ 32768
  · rw [if_pos c] at hr
    obtain ⟨hr, _⟩ := hr
    obtain ⟨k1, k2, k3⟩ := mTape_rest (upd σ.1 2 0, σ.2.1, σ.2.2) L 20
    have f4 : (upd σ.1 2 0) 4 = σ.1 4 := upd_other (by decide)
    have ln := mTape_len (upd σ.1 2 0, σ.2.1, σ.2.2) L (by show 0 ≤ ((upd σ.1 2 0) 4).toInt; rw [f4]; omega) 20 (by show ((upd σ.1 2 0) 4).toInt + _ ≤ _; rw [f4]; omega)
    have ol := mTape_old (upd σ.1 2 0, σ.2.1, σ.2.2) L (by show 0 ≤ ((upd σ.1 2 0) 4).toInt; rw [f4]; omega) 20 (by show ((upd σ.1 2 0) 4).toInt + _ ≤ _; rw [f4]; omega)
    have nw := mTape_new (upd σ.1 2 0, σ.2.1, σ.2.2) L (by show 0 ≤ ((upd σ.1 2 0) 4).toInt; rw [f4]; omega) 20 (by show ((upd σ.1 2 0) 4).toInt + _ ≤ _; rw [f4]; omega)
    have ln : ((mTape (upd σ.1 2 0, σ.2.1, σ.2.2) L 20).1 4).toInt = ((upd σ.1 2 0) 4).toInt + (20 : Nat) := ln
    rw [f4] at ln
    have o : ∀ i, ¬ (i = 2 ∨ i = 4) → r.2.1 i = σ.1 i := fun i hi => by
      rw [hr, k2 i (by omega)]; exact upd_other (by omega)
    have o2 : ∀ a, a ≠ 3 → r.2.2.2 a = σ.2.2 a := fun a ha => by rw [hr, k3 a ha]
    refine RfI_sm h ⟨fun i hi => o i (by omega), fun a ha => o2 a (by omega), by rw [hr, k1]⟩ ⟨g0, l0, B0, h0, X0, MI_x m0 (o 54 (by decide)) (o 55 (by decide)) (o 63 (by decide)) (o 72 (by decide)) (fun a h1 h2 => o2 a (by omega))⟩ (fun a ha => o2 a (by omega)) (fun i hi => o i (by omega)) ⟨n + 20, ⟨?_, by omega⟩, rfl, fun i hi => ?_⟩ (by rw [o 120 (by decide)]; exact h.1.2.2.2.2.2.2.2.1)
    · rw [hr, n_ofpos (x := (mTape (upd σ.1 2 0, σ.2.1, σ.2.2) L 20).1 4) (by omega), ln, e4]
      congr 1
    · rw [hr]
      by_cases e : i < n
      · rw [ol i (by show (i : Int) < ((upd σ.1 2 0) 4).toInt; rw [f4]; omega)]; exact t3 i e
      · have := nw (i - n) (by omega)
        have e' : ((upd σ.1 2 0) 4).toNatClampNeg + (i - n) = i := by rw [f4, c4]; omega
        rw [show ((upd σ.1 2 0, σ.2.1, σ.2.2) : MS).1 4 = (upd σ.1 2 0) 4 from rfl, e'] at this
        rw [this]
        exact n_and8 _
  · rw [if_neg c] at hr
    rw [hr]; exact RfI_2 (x := 1) h
/-- the first state -/
theorem r_0 : RfI 0 ms0 := by
  have z : ∀ a i, 28 ≤ a → ms0.2.2 a i = 0 := fun a i ha => by
    show (if a = 1 then (mT mWords 264) else if a = 2 then (mT mTypes 37) else nZ) i = 0
    rw [if_neg (by omega), if_neg (by omega)]
  have nz : (0 : Int32) = nI 0 := rfl
  refine ⟨⟨⟨fun _ => False, [], 0, 4, 870000, ?_⟩, fun i _ => z 33 i (by decide), ?_, fun p _ => ⟨0, by decide, rfl⟩, rfl, rfl, ⟨0, ⟨rfl, Nat.zero_le _⟩, rfl, fun i hi => absurd hi (Nat.not_lt_zero _)⟩, ⟨0, rfl, by decide⟩, ⟨0, rfl, by decide⟩⟩, Or.inl ⟨rfl, rfl⟩⟩
  · refine MI_any ⟨rfl, Or.inl rfl, rfl, by decide, ?_⟩ ⟨0, 0, rfl, by decide, rfl, by decide, ⟨0, 0, z 30 1 (by decide), by decide, z 30 3 (by decide), by decide⟩, fun p hp => absurd hp (Nat.not_lt_zero _)⟩ (fun a i hR => ?_)
    · exact ⟨rfl, fun v hv => hv.elim⟩
    · have := RtP_r hR
      rw [z a i (by omega)]
      exact ⟨0, rfl, Or.inl (by decide)⟩
  · exact ⟨by decide +kernel, by decide +kernel, by decide +kernel, by decide +kernel, by decide +kernel, by decide +kernel, by decide +kernel⟩
end RCM

/-! The class: reading begins; a program is read. -/
section DYP
variable {σ σ' σ0 σ1 σ2 τ τ' τ0 : CS} {ρ : MS} {L L2 : LV} {b pr : Bool} {T : Nat → Int32} {n q q' q0 q1 u al o v v0 v' mk mk' p sz sz0 nc a1 a2 m f w st r0 vg vg' N N0 N1 M j W np pc b0 K : Nat} {y qh : Int32} {c : Ct} {g : PRG} {X : Option (PRG × ST)}
/-- what the begin of reading leaves: the tape's row may be another, its bytes the same -/
def BgF (n : Nat) (σ σ' : CS) : Prop := ((∀ j, ¬ (j = 3704 ∨ (4003 ≤ j ∧ j ≤ 4020)) → σ'.1 j = σ.1 j) ∧ σ'.2.1 = σ.2.1) ∧ ((∀ k, ¬ k = 38 → σ'.2.2.1 k = σ.2.2.1 k ∧ sN σ' k = sN σ k) ∧ σ'.2.2.2.1 = σ.2.2.2.1) ∧ ((sCur σ' = sCur σ ∧ sOt σ' = sOt σ ∧ sPr σ' = sPr σ ∧ sKd σ' = sKd σ) ∧ σ'.2.2.2.2.2.2 = σ.2.2.2.2.2.2) ∧ cN σ' n
def BgO (b : Bool) (n : Nat) (u al : Int32) (T : Nat → Int32) (σ : CS) (r : RS) : Prop := r.1 = (0, 0) ∧ CoP σ r ∧ BgF n σ r.2.1 ∧ sameT T (r.2.1.2.2.1 38) n ∧ r.2.1.1 3704 = nI 0 ∧ (sPp r.2.1 = some b ∧ r.2.1.1 4003 = u ∧ r.2.1.1 4004 = al) ∧ (r.2.1.1 4005 = 0 ∧ r.2.1.1 4008 = -1 ∧ r.2.1.1 4009 = 0 ∧ r.2.1.1 4011 = 0 ∧ r.2.1.1 4016 = -1)
theorem Ph_38 (e : ∀ k, ¬ k = 38 → sN σ' k = sN σ k) : PhC σ' + tpC (sN σ 38) = PhC σ + tpC (sN σ' 38) ∧ PhS σ' + tpS (sN σ 38) = PhS σ + tpS (sN σ' 38) := by
  unfold PhC PhS cdC cdS pC pS
  rw [e 3 (by decide), e 1 (by decide), e 2 (by decide), e 20 (by decide), e 21 (by decide), e 22 (by decide), e 26 (by decide), e 41 (by decide), e 42 (by decide), e 66 (by decide), e 43 (by decide), e 51 (by decide)]
  generalize tpC (sN σ 38) = x1
  generalize tpC (sN σ' 38) = x2
  generalize tpS (sN σ 38) = x3
  generalize tpS (sN σ' 38) = x4
  constructor <;> omega
theorem c_begin5 (hok : tOK σ) (hl : σ.1 3701 = nI n) (hn : n ≤ 32768) (ht : tRel σ ρ) (hb : L.2.2.1 1 = b) : Tm (fun k => f_X5_begin__P k 0 L σ) (BgO b n (L.1 2) (L.1 3) (ρ.2.2 3) σ) := by
  refine Tm_suc (fun k => by rw [f_X5_begin__P]) ?_
  refine Tm_suc (fun k => by rw [f_X5_begin__P]) ?_
  refine Tm_suc (fun k => by rw [f_X5_begin__P]) ?_
  refine Tm_suc (fun k => by rw [f_X5_begin__P]) ?_
  rw [hb]
  generalize hs : uI (uI (uI (uI (uI (uI (uI (uI (uI (uI (uPp σ (some b)) 4003 (L.1 2)) 4004 (L.1 3)) 4005 0) 4006 0) 4007 0) 4008 (-1)) 4009 0) 4011 0) 4013 0) 4016 (-1) = s
  have e2 : s.2 = (uPp σ (some b)).2 := by rw [← hs]; rfl
  have ef : ∀ j, ¬ (4003 ≤ j ∧ j ≤ 4020) → s.1 j = σ.1 j := fun j hj => by
    rw [← hs, uI_o (by omega), uI_o (by omega), uI_o (by omega), uI_o (by omega), uI_o (by omega), uI_o (by omega), uI_o (by omega), uI_o (by omega), uI_o (by omega), uI_o (by omega)]
    rfl
  have e3 : s.1 4003 = L.1 2 := by
    rw [← hs, uI_o (by decide), uI_o (by decide), uI_o (by decide), uI_o (by decide), uI_o (by decide), uI_o (by decide), uI_o (by decide), uI_o (by decide), uI_o (by decide), uI_s]
  have e4 : s.1 4004 = L.1 3 := by
    rw [← hs, uI_o (by decide), uI_o (by decide), uI_o (by decide), uI_o (by decide), uI_o (by decide), uI_o (by decide), uI_o (by decide), uI_o (by decide), uI_s]
  have e5 : s.1 4005 = 0 := by
    rw [← hs, uI_o (by decide), uI_o (by decide), uI_o (by decide), uI_o (by decide), uI_o (by decide), uI_o (by decide), uI_o (by decide), uI_s]
  have e8 : s.1 4008 = -1 := by
    rw [← hs, uI_o (by decide), uI_o (by decide), uI_o (by decide), uI_o (by decide), uI_s]
  have e9 : s.1 4009 = 0 := by
    rw [← hs, uI_o (by decide), uI_o (by decide), uI_o (by decide), uI_s]
  have e11 : s.1 4011 = 0 := by
    rw [← hs, uI_o (by decide), uI_o (by decide), uI_s]
  have e16 : s.1 4016 = -1 := by
    rw [← hs, uI_s]
  have s38 : s.2.2.1 38 = σ.2.2.1 38 := by rw [e2]; rfl
  have n38 : sN s = sN σ := by show s.2.2.2.2.1 = _; rw [e2]; rfl
  have hl' : s.1 3701 = nI n := by rw [ef _ (by decide)]; exact hl
  have hok' : tOK s := by
    unfold tOK at hok ⊢
    rw [ef _ (by decide), n38, s38]
    exact hok
  have ht' : tRel s ρ := by
    unfold tRel at ht ⊢
    rw [ef _ (by decide), s38]
    exact ht
  refine Tm_oxc (s_rewind hok' hl' hn lZ) (fun r h => by rw [h.1]) (fun r h => Tm_some ?_)
  have cn := rew_cN hl' hn h
  have sm := rew_same hl' hn ht' h
  obtain ⟨h1, row, m, h2, h3, h4, h5, h6, h7, h8, h9, h10, h11⟩ := h
  have k2 : ∀ j, ¬ j = 3704 → r.2.1.1 j = s.1 j := fun j hj => by
    rw [h2, uI_o hj]
    show upd s.1 3701 (s.1 3701) j = s.1 j
    by_cases z : j = 3701
    · rw [z, upd_same]
    · exact upd_other z
  have kN : ∀ k, ¬ k = 38 → sN r.2.1 k = sN s k := fun k hk => by
    rw [h2]
    show updN (sN s) 38 m k = sN s k
    exact if_neg hk
  have kM : sN r.2.1 38 = m := by
    rw [h2]
    exact (tC_n : sN (tC s (s.1 3701) row m) 38 = m)
  have kR : ∀ k, ¬ k = 38 → r.2.1.2.2.1 k = s.2.2.1 k := fun k hk => by
    rw [h2]
    exact updG_other hk
  have ph := Ph_38 (σ := s) (σ' := r.2.1) kN
  have ph2 := Ph_s (σ := σ) (σ' := s) n38
  rw [kM] at ph
  refine ⟨rfl, ⟨?_, ?_⟩, ⟨⟨fun j hj => ?_, ?_⟩, ⟨fun k hk => ⟨?_, ?_⟩, ?_⟩, ⟨⟨?_, ?_, ?_, ?_⟩, ?_⟩, cn.1⟩, sm, cn.2, ⟨?_, ?_, ?_⟩, ⟨?_, ?_, ?_, ?_, ?_⟩⟩
  · show r.2.2.1 + 0 + PhC r.2.1 ≤ PhC σ
    omega
  · show r.2.2.2 + 0 + PhS r.2.1 ≤ PhS σ
    omega
  · exact (k2 j (by omega)).trans (ef j (by omega))
  · show r.2.1.2.1 = σ.2.1
    rw [h2]
    show s.2.1 = _
    rw [e2]; rfl
  · show r.2.1.2.2.1 k = _
    rw [kR k hk, e2]; rfl
  · show sN r.2.1 k = _
    rw [kN k hk, n38]
  · show r.2.1.2.2.2.1 = _
    rw [h2]
    show s.2.2.2.1 = _
    rw [e2]; rfl
  · show r.2.1.2.2.2.2.2.1.1 = _
    rw [h2]
    show s.2.2.2.2.2.1.1 = _
    rw [e2]; rfl
  · show r.2.1.2.2.2.2.2.1.2.1 = _
    rw [h2]
    show s.2.2.2.2.2.1.2.1 = _
    rw [e2]; rfl
  · show r.2.1.2.2.2.2.2.1.2.2.1 = _
    rw [h2]
    show s.2.2.2.2.2.1.2.2.1 = _
    rw [e2]; rfl
  · show r.2.1.2.2.2.2.2.1.2.2.2.2 = _
    rw [h2]
    show s.2.2.2.2.2.1.2.2.2.2 = _
    rw [e2]; rfl
  · show r.2.1.2.2.2.2.2.2 = _
    rw [h2]
    show s.2.2.2.2.2.2 = _
    rw [e2]; rfl
  · show r.2.1.2.2.2.2.2.1.2.2.2.1 = _
    rw [h2]
    show s.2.2.2.2.2.1.2.2.2.1 = _
    rw [e2]; rfl
  · exact (k2 _ (by decide)).trans e3
  · exact (k2 _ (by decide)).trans e4
  · exact (k2 _ (by decide)).trans e5
  · exact (k2 _ (by decide)).trans e8
  · exact (k2 _ (by decide)).trans e9
  · exact (k2 _ (by decide)).trans e11
  · exact (k2 _ (by decide)).trans e16
/-- what reading leaves -/
def RdK (b : Bool) (sz : Nat) (σ σ' : CS) : Prop := ((∀ j, ¬ (j = 404 ∨ (3702 ≤ j ∧ j ≤ 3704) ∨ (4003 ≤ j ∧ j ≤ 4020) ∨ (fP b 1 ≤ j ∧ j ≤ fP b 19)) → σ'.1 j = σ.1 j) ∧ (∀ j, ¬ (j = 3705 ∨ j = 3706) → σ'.2.1 j = σ.2.1 j)) ∧ ((∀ k, ¬ ((5 ≤ k ∧ k ≤ 11) ∨ k = 38 ∨ (41 ≤ k ∧ k ≤ 43) ∨ k = 51 ∨ pRw b k) → σ'.2.2.1 k = σ.2.2.1 k) ∧ (∀ k, ¬ (k = 38 ∨ (41 ≤ k ∧ k ≤ 43) ∨ k = 51) → sN σ' k = sN σ k) ∧ (∀ k, ¬ (k = pR5 b ∨ k = pR6 b) → σ'.2.2.2.1 k = σ.2.2.2.1 k)) ∧ ((sCur σ' = sCur σ ∧ sOt σ' = sOt σ ∧ sPr σ' = sPr σ) ∧ (∀ c, ¬ c = b → sKd σ' c = sKd σ c) ∧ σ'.2.2.2.2.2.2 = σ.2.2.2.2.2.2) ∧ (∀ i, i < sz → cdr b σ' i = cdr b σ i ∧ cdr (!b) σ' i = cdr (!b) σ i) ∧ (sz ≤ cdn b σ' ∧ (cdn b σ' = 36864 ∨ (sN σ' 43 = 1024 ∧ sN σ' 51 = 1024))) ∧ (sN σ' 41 ≤ 21504 ∧ (sN σ' 42 = sN σ 42 ∨ sN σ' 42 = 16384)) ∧ (sN σ' 38 ≤ 32770 ∧ tFit (σ'.2.2.1 38) (sN σ' 38) ∧ (σ.1 3701).toInt ≤ sN σ' 38) ∧ (σ'.2.2.1 (pR18 b) 41 = σ.2.2.1 (pR18 b) 41 ∧ σ'.2.2.1 (pR14 b) 41 = σ.2.2.1 (pR14 b) 41)
/-- the token at the tape's begin is looked at -/
theorem RdK_of {kd st en : Int32} {hi lo : Int64} (hl : σ.1 3701 = nI n) (a : BgF n σ σ1) (e2 : σ2 = sA σ1 kd st en hi lo) (d : DK b sz σ2 σ') : RdK b sz σ σ' := by
  obtain ⟨⟨a1, a2⟩, ⟨a3, a4⟩, ⟨⟨a5, a6, a7, a8⟩, a9⟩, a10⟩ := a
  obtain ⟨⟨d1, d2⟩, ⟨d3, d4, d5⟩, ⟨⟨d6, d7, d8, d8'⟩, d9, d10⟩, d11, d12, d13, d14, d15, d16⟩ := d
  have sf : ∀ j, ¬ (3702 ≤ j ∧ j ≤ 3704) → σ2.1 j = σ1.1 j := fun j hj => by
    rw [e2]
    show upd (upd (upd σ1.1 3702 kd) 3703 st) 3704 en j = _
    rw [upd_other (by omega), upd_other (by omega), upd_other (by omega)]
  have sl : ∀ j, ¬ (j = 3705 ∨ j = 3706) → σ2.2.1 j = σ1.2.1 j := fun j hj => by
    rw [e2]
    show updW (updW σ1.2.1 3705 hi) 3706 lo j = _
    rw [updW_other (by omega), updW_other (by omega)]
  have s2 : σ2.2.2 = σ1.2.2 := by rw [e2]; rfl
  have sn : ∀ k, sN σ2 k = sN σ1 k := fun k => by show σ2.2.2.2.2.1 k = _; rw [s2]
  have kd' : sKd σ2 = sKd σ := by
    show σ2.2.2.2.2.2.1.2.2.2.2 = _
    rw [s2]
    exact a8
  have cd : ∀ c i, cdr c σ2 i = cdr c σ i := fun c i => by
    show σ2.2.2.1 (pR0 (sKd σ2 c)) i = σ.2.2.1 (pR0 (sKd σ c)) i
    rw [kd', s2]
    rcases pR0_c (sKd σ c) with z | z
    · rw [z, (a3 43 (by decide)).1]
    · rw [z, (a3 51 (by decide)).1]
  obtain ⟨c1, c2, c3, c4, c5, c6, c7⟩ := a10
  have e38 : sN σ' 38 = sN σ1 38 := (d4 38 (by decide)).trans (sn 38)
  have r38 : σ'.2.2.1 38 = σ1.2.2.1 38 := (d3 38 (by unfold pRw; have := pR_13 b; omega)).trans (by rw [s2])
  refine ⟨⟨fun j hj => ?_, fun j hj => ?_⟩, ⟨fun k hk => ?_, fun k hk => ?_, fun k hk => ?_⟩, ⟨⟨?_, ?_, ?_⟩, fun c hc => ?_, ?_⟩, fun i hi => ⟨(d11 i hi).1.trans (cd b i), (d11 i hi).2.trans (cd (!b) i)⟩, d12, ⟨d13, ?_⟩, ⟨?_, ?_, ?_⟩, ?_, ?_⟩
  · exact (d1 j (fun z => hj z)).trans ((sf j (by omega)).trans (a1 j (by omega)))
  · exact (d2 j hj).trans ((sl j hj).trans (by rw [a2]))
  · exact (d3 k (fun z => hk (z.elim Or.inl (fun z => Or.inr (Or.inr z))))).trans (by rw [s2]; exact (a3 k (fun z => hk (Or.inr (Or.inl z)))).1)
  · exact (d4 k (by omega)).trans ((sn k).trans (a3 k (by omega)).2)
  · exact (d5 k hk).trans (by rw [s2, a4])
  · exact d6.trans (by show σ2.2.2.2.2.2.1.1 = _; rw [s2]; exact a5)
  · exact d7.trans (by show σ2.2.2.2.2.2.1.2.1 = _; rw [s2]; exact a6)
  · exact d8.trans (by show σ2.2.2.2.2.2.1.2.2.1 = _; rw [s2]; exact a7)
  · rw [d9 c hc, kd']
  · exact d10.trans (by rw [s2]; exact a9)
  · rcases d14 with z | z
    · exact Or.inl (z.trans ((sn 42).trans (a3 42 (by decide)).2))
    · exact Or.inr z
  · rw [e38]; exact c4
  · rw [e38, r38]; exact c5
  · rw [e38, hl, n_int (by omega)]
    omega
  · rw [d15, s2, (a3 _ (by have := pR_13 b; omega)).1]
  · rw [d16, s2, (a3 _ (by have := pR_13 b; omega)).1]
/-- what a program is read on -/
def RdB (b : Bool) (n N0 : Nat) (σ : CS) : Prop := (tOK σ ∧ σ.1 3701 = nI n ∧ n ≤ 10240 ∧ σ.2.2.2.1 39 = lxW) ∧ CdL b N0 σ ∧ sN σ 41 ≤ 21504 ∧ (sN σ 42 = 64 ∨ sN σ 42 = 16384) ∧ σ.2.2.1 (pR18 b) 41 = 0
theorem c_readProgram {up pp : Nat → Int32} (h : RdB b n N0 σ) (ht : tRel σ ρ) (hL : L.2.2.1 1 = b) (h0 : (σ.1 (fP b 3) = 0 ∧ σ.1 (fP b 11) = 0 ∧ σ.1 (fP b 12) = 0 ∧ σ.1 (fP b 19) = 0) ∧ σ.2.2.1 (pR16 b) 0 = 0 ∧ σ.2.2.1 (pR18 b) 0 = 0) (hK : 2 * N0 + 7 * n + 110 ≤ K) (hK2 : K ≤ 73728) (hG : gPrg (ρ.2.2 3) n (g0 (ρ.2.2 3) n up pp) = some X) : Tm (fun k => f_X5_readProgram__P k 0 L σ) (fun r => r.1.1 = 0 ∧ (∀ t, X = some t → r.1.2 = 1 ∧ PFn b N0 K t.1 r.2.1) ∧ (X = none → r.1.2 = 0) ∧ (r.2.2.1 + PhC r.2.1 ≤ PhC σ + 1 ∧ r.2.2.2 + PhS r.2.1 ≤ PhS σ + 6) ∧ RdK b N0 σ r.2.1) := by
  obtain ⟨⟨b1, b2, b3, b4⟩, b5, b6, b7, b8⟩ := h
  obtain ⟨⟨z1, z2, z3, z4⟩, z5, z6⟩ := h0
  have f9 := fP_19 b
  have pr := pR_13 b
  have hsk : sk (ρ.2.2 3) n 0 ≤ n := skE_le (ρ.2.2 3) n (n + 1) 0 (Nat.zero_le _)
  have n36 : N0 ≤ 36864 := by omega
  refine Tm_suc (fun k => by rw [f_X5_readProgram__P]) ?_
  rw [hL]
  refine Tm_oxc (c_begin5 b1 b2 (by omega) ht (L := lI (lI (lB lZ 1 b) 2 0) 3 2) rfl) (fun r h => by rw [h.1]) (fun r h => ?_)
  obtain ⟨⟨q1, q2⟩, σ1, ⟨n1, n2⟩⟩ := r
  obtain ⟨-, co, bg, sm, e4, ⟨p1, p2, p3⟩, ⟨p4, p5, p6, p7, p8⟩⟩ := h
  have bg0 := bg
  obtain ⟨⟨a1, a2⟩, ⟨a3, a4⟩, ⟨⟨a5, a6, a7, a8⟩, a9⟩, a10⟩ := bg
  have co1 : n1 + PhC σ1 ≤ PhC σ := co.1
  have co2 : n2 + PhS σ1 ≤ PhS σ := co.2
  have adv := c_advP (L := lZ) a10 sm (by rw [a4]; exact b4) e4 (Nat.zero_le n)
  show Tm (fun k => oh (f_X2_advance k 0 lZ σ1) (fun r2 => f_X5_readProgram__P k 1 (lI L 2 0) r2.2.1) (fun r2 => op (y_X5_noteFault k 0 lZ r2.2.1) (fun r3 => some ((0, 0), r3.2, (0, 0))))) _
  have hG' : (if tkK (ρ.2.2 3) n (sk (ρ.2.2 3) n 0) = 0 then some none else pb (GDs (ρ.2.2 3) n (n + 1) (g0 (ρ.2.2 3) n up pp)) (fun g => gPe (ρ.2.2 3) n g)) = some X := hG
  refine Tm_oh (g := fun k r2 => op (y_X5_noteFault k 0 lZ r2.2.1) (fun r3 => some ((0, 0), r3.2, (0, 0)))) adv (fun r w nz => ?_) (fun r w e0 => ?_) (fun r w e1 => ?_)
  · by_cases k0 : tkK (ρ.2.2 3) n (sk (ρ.2.2 3) n 0) = 0
    · rw [(w.1 k0).1]
    · exact absurd (by rw [(w.2.1 k0).1]) nz
  · have k0 : ¬ tkK (ρ.2.2 3) n (sk (ρ.2.2 3) n 0) = 0 := fun k0 => by
      rw [(w.1 k0).1] at e0
      exact absurd e0 (by decide)
    rw [if_neg k0] at hG'
    obtain ⟨w1, w2, lx⟩ := w.2.1 k0
    obtain ⟨kd, st, en, hi, lo, es⟩ := w.2.2
    have gx : ∃ y, GDs (ρ.2.2 3) n (n + 1) (g0 (ρ.2.2 3) n up pp) = some y := by
      rcases pb_any hG' with ⟨z, _⟩ | ⟨t, z, _⟩
      · exact ⟨_, z⟩
      · exact ⟨_, z⟩
    obtain ⟨y, hy⟩ := gx
    rw [hy] at hG'
    generalize hτ : r.2.1 = τ at *
    have sf : ∀ j, ¬ (3702 ≤ j ∧ j ≤ 3704) → τ.1 j = σ1.1 j := fun j hj => by
      rw [es]
      show upd (upd (upd σ1.1 3702 kd) 3703 st) 3704 en j = _
      rw [upd_other (by omega), upd_other (by omega), upd_other (by omega)]
    have s2 : τ.2.2 = σ1.2.2 := by rw [es]; rfl
    have sg : ∀ j, ¬ (j = 3704 ∨ (4003 ≤ j ∧ j ≤ 4020)) → ¬ (3702 ≤ j ∧ j ≤ 3704) → τ.1 j = σ.1 j := fun j h1 h2 => (sf j h2).trans (a1 j h1)
    have sr : ∀ k, ¬ k = 38 → τ.2.2.1 k = σ.2.2.1 k := fun k hk => by rw [s2]; exact (a3 k hk).1
    have sn : ∀ k, ¬ k = 38 → sN τ k = sN σ k := fun k hk => by show τ.2.2.2.2.1 k = _; rw [s2]; exact (a3 k hk).2
    have kd' : sKd τ = sKd σ := by
      show τ.2.2.2.2.2.1.2.2.2.2 = _
      rw [s2]
      exact a8
    have ph := Ph_s (σ := σ1) (σ' := τ) (by rw [s2])
    have qs : QS (ρ.2.2 3) n b 0 2 [] 0 (sk (ρ.2.2 3) n 0) 0 0 0 N0 τ := by
      refine ⟨lx, CdL_s b5 (sg _ (by omega) (by omega)) (by rw [kd']) ⟨sn _ (by decide), sn _ (by decide)⟩, ⟨by rw [sf _ (by decide)]; exact p7, Nat.zero_le _, by rw [sn _ (by decide)]; exact b6⟩, ⟨by rw [sg _ (by omega) (by omega)]; exact z2, by show 0 ≤ 256; omega, fun i hi => absurd hi (Nat.not_lt_zero _)⟩, ⟨by show τ.2.2.2.2.2.1.2.2.2.1 = _; rw [s2]; exact p1, by rw [sf _ (by decide)]; exact p2, by rw [sf _ (by decide)]; exact p3⟩, ⟨by rw [sf _ (by decide)]; exact p4, Nat.zero_le _⟩, ⟨by rw [sr _ (by omega)]; exact z5, Nat.zero_le _⟩, by rw [sg _ (by omega) (by omega)]; exact z4⟩
    have zf : ZF b 0 0 0 none 0 τ := ⟨by rw [sr _ (by omega)]; exact z6, ⟨by rw [sg _ (by omega) (by omega)]; exact z1, Nat.zero_le _⟩, by rw [sf _ (by decide)]; exact p5, by rw [sf _ (by decide)]; exact p6, by rw [sn _ (by decide)]; exact b7⟩
    obtain ⟨W, hW1, hW2⟩ : ∃ W : Nat, (∀ h, y = some h → W = h.2.2.2.2.2.1) ∧ (y = none → W = 60) := by
      cases y with
      | none => exact ⟨60, fun h e => (by cases e), fun _ => rfl⟩
      | some h => exact ⟨h.2.2.2.2.2.1, fun h' e => (by cases e; rfl), fun e => (by cases e)⟩
    have de0 : DE (([], [], [], 0, true, true, fun _ => 0) : En) 0 0 0 0 := ⟨⟨rfl, fun _ => ⟨rfl, rfl⟩, fun z => absurd rfl z⟩, ⟨rfl, by omega, by omega, by omega⟩, List.Pairwise.nil, fun x hx => absurd hx List.not_mem_nil, fun x hx => absurd hx List.not_mem_nil⟩
    have nn : ∀ x : Nat × Nat × List Nat × Nat, ¬ (none : Option (Nat × Nat × List Nat × Nat)) = some x := fun x e => by cases e
    have pg0 : PgT (([], [], [], 0, true, true, fun _ => 0) : En) 0 0 N0 W (fun _ => 0, N0, fun _ => 0, fun _ => 0, fun v => if v = 0 then W else 0, fun _ => False, fun _ => none) := by
      refine ⟨⟨n36, fun p o => o.elim, fun p o => o.elim, fun p _ => rfl, fun pc x e => absurd e (nn x)⟩, rfl, ?_⟩
      exact ⟨fun p x e => absurd e (nn x), ⟨⟨Nat.zero_le _, (show (if (0 : Nat) = 0 then W else 0) = W from if_pos rfl)⟩, id, id, (show (if (41 : Nat) = 0 then W else 0) = 0 from if_neg (by decide))⟩, fun i hi => absurd hi (Nat.not_lt_zero _), fun x hx => absurd hx List.not_mem_nil⟩
    have ds : DSt (ρ.2.2 3) n b N0 W K (g0 (ρ.2.2 3) n up pp) τ := by
      refine ⟨_, N0, 0, ⟨qs, zf, de0⟩, ⟨rfl, rfl, by rw [sg _ (by omega) (by omega)]; exact z3, by rw [sr _ (by omega)]; exact b8⟩, fun i hi => absurd hi (Nat.not_lt_zero _), pg0, ⟨rfl, Nat.le_refl _, fun i h1 h2 => by omega⟩, ⟨by show 2 * N0 + 7 * (n - sk (ρ.2.2 3) n 0) + 110 ≤ K; omega, Nat.le_refl _, by show 0 ≤ 400; omega, b3, hK2⟩⟩
    have t2 := rp_lp (b := b) (N0 := N0) (W := W) (K := K) (X := X) (σ0 := τ) (n + 1) (g0 (ρ.2.2 3) n up pp) y hy (fun e => by rw [e, pb_nn] at hG'; exact (Option.some.inj hG').symm) (fun h e => by rw [e, pb_ss] at hG'; exact hG') ⟨hW1, hW2⟩ (g0_PL _ n up pp) 0 0 (lI L 2 0) τ ds (Dy_0 qs) hL (Nat.zero_le _)
    refine Tm_mono t2 (fun s k => ?_)
    obtain ⟨k1, k2, k3, k4, k5⟩ := k
    rw [w2]
    refine ⟨k1, k2, k3, ?_, RdK_of b2 bg0 es k5⟩
    show n1 + (0 + s.2.2.1) + PhC s.2.1 ≤ PhC σ + 1 ∧ n2 + (0 + s.2.2.2) + PhS s.2.1 ≤ PhS σ + 6
    omega
  · have k0 : tkK (ρ.2.2 3) n (sk (ρ.2.2 3) n 0) = 0 := by
      by_cases k0 : tkK (ρ.2.2 3) n (sk (ρ.2.2 3) n 0) = 0
      · exact k0
      · rw [(w.2.1 k0).1] at e1
        exact absurd e1 (by decide)
    rw [if_pos k0] at hG'
    have ex := (Option.some.inj hG').symm
    obtain ⟨w1, w2⟩ := w.1 k0
    obtain ⟨kd, st, en, hi, lo, es⟩ := w.2.2
    refine Tm_op c_note (fun r2 v2 => Tm_some ?_)
    have s2 : r.2.1.2.2 = σ1.2.2 := by rw [es]; rfl
    have ph := Ph_s (σ := σ1) (σ' := r2.2) (by rw [v2.2, s2])
    have kd' : sKd r.2.1 = sKd σ := by
      show r.2.1.2.2.2.2.2.1.2.2.2.2 = _
      rw [s2]
      exact a8
    have sn : ∀ k, ¬ k = 38 → sN r.2.1 k = sN σ k := fun k hk => by show r.2.1.2.2.2.2.1 k = _; rw [s2]; exact (a3 k hk).2
    have cn : cdn b r.2.1 = cdn b σ := by
      show sN r.2.1 (pR0 (sKd r.2.1 b)) = sN σ (pR0 (sKd σ b))
      rw [kd']
      exact sn _ (by rcases pR0_c (sKd σ b) with z | z <;> omega)
    have dk : DK b N0 r.2.1 r2.2 := DK_n (DK_r ⟨by rw [cn]; exact b5.2.1, by rw [cn, sn 43 (by decide), sn 51 (by decide)]; exact b5.2.2⟩ (by rw [sn 41 (by decide)]; exact b6)) (fun j hj => v2.1 j (by omega)) v2.2
    rw [w2]
    refine And.intro rfl (And.intro (fun t e => ?_) (And.intro (fun _ => rfl) (And.intro ?_ (RdK_of b2 bg0 es dk))))
    · rw [ex] at e
      cases e
    show n1 + (1 + 0) + PhC r2.2 ≤ PhC σ + 1 ∧ n2 + (6 + 0) + PhS r2.2 ≤ PhS σ + 6
    omega
end DYP

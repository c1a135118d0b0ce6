/-! Statements on both sides (reference): the frame of a call is laid. -/
section EVZ
variable {T : Nat → Nat → Int32} {FN : Nat → Nat → Prop} {lc : Nat → Prop} {τ : MS} {x : Int32}
/-- with an error nothing is evaluated -/
theorem s_evalZ (hS : STb T FN τ) (hW : Wx0 T FN lc x) (he : ¬ τ.1 56 ≤ 0) (he0 : ¬ τ.1 56 = 0) {L : Nat → Int32} (d : L 1 = x) : Tm (fun k => x_eval k 0 L τ) (fun r => r = (0, τ)) := by
  obtain ⟨O, K, _, _, f, hW⟩ := hW
  cases f with
  | zero => exact hW.elim
  | succ f =>
  have hW : _ := hW
  unfold WN at hW
  rcases hW with ⟨_, h4, n, k, ch, xn, chk, c70, clk, nov, hov, hbeg⟩ | ⟨z, _⟩ | ⟨z, _⟩ | ⟨z, _⟩ | ⟨z, _⟩ | ⟨z, _⟩ | ⟨z, _⟩
  case inr.inl => exact absurd z (by decide)
  case inr.inr.inl => exact absurd z (by decide)
  case inr.inr.inr.inl => exact absurd z (by decide)
  case inr.inr.inr.inr.inl => exact absurd z (by decide)
  case inr.inr.inr.inr.inr.inl => exact absurd z (by decide)
  case inr.inr.inr.inr.inr.inr => exact absurd z (by decide)
  have b4 : ∀ N : Nat → Int32, Tm (fun k => x_GV k 1300 4 4 N τ) (fun r => r = (0, τ)) := fun N => Tm_suc (fun k => e_eval_4 k _ _ _) (Tm_some rfl)
  have b1 : ∀ (i : Nat) (N : Nat → Int32), i ≤ k → N 2 = nI (ch i) → Tm (fun k => x_GV k 1300 4 1 N τ) (fun r => r = (0, τ)) := by
    intro i
    induction i with
    | zero =>
      intro N hi n2
      have h0 := c70 0 (by omega)
      refine Tm_suc (fun k => e_eval_1 k _ _ _) ?_
      rw [n2]
      refine Tm_chk (n_in (by omega) (by omega)) ?_
      rw [n_cl (p := ch 0) (by omega), hS.1 4 _ (by omega) (by omega) (by omega)]
      refine Tm_ob (s_isOver _) (fun r hr => ?_)
      obtain ⟨a1, a2⟩ := hr
      have a2 : r.1 = 0 := (a2.resolve_left (fun z => nov z.1)).2
      rw [a1, a2]
      refine Tm_ite (fun _ => ?_) (fun z => absurd rfl z)
      refine Tm_suc (fun k => e_eval_2 k _ _ _) ?_
      show Tm (fun k => ob (x_GV k 1299 0 0 (upd (fun _ => 0) 1 (N 2)) τ) (fun r1 => x_GV k 1300 4 3 N r1.2)) _
      have bg : Tm (fun k => x_GV k 1299 0 0 (upd (fun _ => 0) 1 (N 2)) τ) (fun r => r = (0, τ)) := by
        refine Tm_suc (fun k => e_begins_0 k _ _ _) ?_
        exact Tm_ite (fun z => absurd z he) (fun _ => Tm_some rfl)
      refine Tm_ob bg (fun s hs => ?_)
      rw [hs]
      refine Tm_suc (fun k => e_eval_3 k _ _ _) ?_
      refine Tm_ite (fun _ => b4 _) (fun _ => ?_)
      exact Tm_ite (fun z => absurd z he0) (fun _ => b4 _)
    | succ i ih =>
      intro N hi n2
      have h0 := c70 (i + 1) (by omega)
      refine Tm_suc (fun k => e_eval_1 k _ _ _) ?_
      rw [n2]
      refine Tm_chk (n_in (by omega) (by omega)) ?_
      rw [n_cl (p := ch (i + 1)) (by omega), hS.1 4 _ (by omega) (by omega) (by omega)]
      refine Tm_ob (s_isOver _) (fun r hr => ?_)
      obtain ⟨a1, a2⟩ := hr
      have ho := (hov (i + 1) (by omega) (by omega)).1
      have a2 : r.1 = 1 := (a2.resolve_right (fun z => z.1 ho)).2
      rw [a1, a2]
      refine Tm_ite (fun z => absurd z (by decide)) (fun _ => ?_)
      refine Tm_chk (n_in3 (by omega) (by omega)) ?_
      rw [hS.1 6 _ (by omega) (by omega) (by omega), (clk i (by omega)).1]
      exact ih _ (by omega) rfl
  refine Tm_suc (fun k => e_eval_0 k _ _ _) ?_
  refine b1 k _ (Nat.le_refl _) ?_
  show L 1 = _
  rw [d, xn, chk]
end EVZ
/-- with an error: om upon the pile -/
theorem s_pushZ {a b : Nat} {τ : MS} (h : EZ a b τ) (hb : b ≤ 184000) (L : Nat → Int32) (d : L 1 = 0) : Tm (fun k => x_push k 0 L τ) (fun r => EZ a (b + 1) r.2 ∧ FE τ r.2) := by
  obtain ⟨g, l, B, h', t', hM, h59, ha, hb', he, hE, hw, hc⟩ := h
  refine Tm_mono (s_push h59 (by omega) L) (fun r hr => ?_)
  rw [hr, d]
  exact ⟨EZ_pu hM h59 ha (by omega) he hE hw hc ⟨0, rfl, Or.inl (by decide)⟩, FE_pu⟩
/-- what a new call counts, slot by slot -/
noncomputable def nwS (σ : MS) (pr np t i : Nat) : Nat := if kC σ (60 * (1 + pr) + i) = 0 then 0 else if i < np then szN (σ.2.2 28) (σ.2.2 29 (t + i)).toNatClampNeg else 1
/-- the frame of a call is laid up to slot i -/
def CaL (c n pr np t fl i : Nat) (σ ρ : MS) : Prop := ρ.1 = σ.1 ∧ ρ.2.1 = σ.2.1 ∧ (∀ a, a ≠ 30 → ρ.2.2 a = σ.2.2 a) ∧ ρ.2.2 30 (64 + 3 * c) = nI n ∧ ρ.2.2 30 (65 + 3 * c) = nI pr ∧ ρ.2.2 30 (66 + 3 * c) = nI fl ∧ (∀ j, j < i → ρ.2.2 30 (214 + 60 * c + j) = if j < np then σ.2.2 29 (t + j) else 0) ∧ ∀ j, ¬ (64 + 3 * c ≤ j ∧ j < 67 + 3 * c) → ¬ (214 + 60 * c ≤ j ∧ j < 214 + 60 * c + i) → ρ.2.2 30 j = σ.2.2 30 j
theorem CaL_1 {c n pr np t fl i : Nat} {σ ρ : MS} {x : Int32} (hc : c < 50) (hi : i < 60) (h : CaL c n pr np t fl i σ ρ) (hx : x = if i < np then σ.2.2 29 (t + i) else 0) : CaL c n pr np t fl (i + 1) σ (mAr ρ 30 (214 + 60 * c + i) x) := by
  obtain ⟨h1, h2, h3, h4, h5, h6, h7, h8⟩ := h
  have o : ∀ j, j ≠ 214 + 60 * c + i → (mAr ρ 30 (214 + 60 * c + i) x).2.2 30 j = ρ.2.2 30 j := fun j hj => by rw [mAr_s, upd_other hj]
  refine ⟨h1, h2, fun a ha => (mAr_o ha).trans (h3 a ha), (o _ (by omega)).trans h4, (o _ (by omega)).trans h5, (o _ (by omega)).trans h6, fun j hj => ?_, fun j a b => (o _ (by omega)).trans (h8 j a (by omega))⟩
  by_cases e : j = i
  · rw [e, mAr_s, upd_same]; exact hx
  · rw [o _ (by omega)]; exact h7 j (by omega)
/-- the frame of a call is laid -/
def CaS (c n pr np t fl add : Nat) (σ ρ : MS) : Prop := (∀ j, j ≠ 59 → j ≠ 64 → ρ.1 j = σ.1 j) ∧ ρ.1 59 = nI t ∧ ρ.1 64 = σ.1 64 + nI add ∧ ρ.2.1 = σ.2.1 ∧ (∀ a, a ≠ 30 → ρ.2.2 a = σ.2.2 a) ∧ ρ.2.2 30 1 = nI (c + 1) ∧ ρ.2.2 30 (64 + 3 * c) = nI n ∧ ρ.2.2 30 (65 + 3 * c) = nI pr ∧ ρ.2.2 30 (66 + 3 * c) = nI fl ∧ (∀ j, j < 60 → ρ.2.2 30 (214 + 60 * c + j) = if j < np then σ.2.2 29 (t + j) else 0) ∧ ∀ j, j ≠ 1 → ¬ (64 + 3 * c ≤ j ∧ j < 67 + 3 * c) → ¬ (214 + 60 * c ≤ j ∧ j < 274 + 60 * c) → ρ.2.2 30 j = σ.2.2 30 j
section CAS
variable {c n pr np t fl add w XC : Nat} {σ ρ σ1 σ2 ρ1 ρ2 : MS}
theorem FC_ca (h : CaS c n pr np t fl add σ ρ) (hc : c < 50) : FCt (fun i => i = 1 ∨ (64 + 3 * c ≤ i ∧ i < 67 + 3 * c)) σ ρ := by
  obtain ⟨h1, h2, h3, h4, h5, h6, h7, h8, h9, h10, h11⟩ := h
  refine ⟨fun j _ _ h3 _ h5 => h1 j h3 h5, fun a i ha hz _ hI => ?_, h5 2 (by decide)⟩
  by_cases e : a = 30
  · subst e
    exact h11 i (fun z => hI ⟨rfl, Or.inl z⟩) (fun z => hI ⟨rfl, Or.inr z⟩) (fun z => hz (by unfold Zn; omega))
  · rw [h5 a e]
/-- slots of the new call -/
theorem pzC_ca (h : CaS c n pr np t fl add σ ρ) (hc : c < 50) (hpr : pr < 41) {j : Nat} (hj : j < 60) : pzC ρ c j = nwS σ pr np t j := by
  obtain ⟨h1, h2, h3, h4, h5, h6, h7, h8, h9, h10, h11⟩ := h
  have e1 : (214 + 60 * c + j - 214) / 60 = c := by omega
  have e2 : (214 + 60 * c + j - 214) % 60 = j := by omega
  have e3 : NUa (kC ρ) (ρ.2.2 30) 0 (214 + 60 * c + j) ↔ kC σ (60 * (1 + pr) + j) = 0 := by
    unfold NUa
    rw [e1, e2, Nat.zero_add, h8, n_cl (p := pr) (by omega), kC_r (h5 20 (by decide)) (h5 21 (by decide)) (h1 30 (by decide) (by decide))]
    constructor
    · rintro (z | z)
      · omega
      · exact z.2.2
    · intro z; exact Or.inr ⟨by omega, by omega, z⟩
  have st : StI (ρ.2.2 30) 0 (0 + (214 + 60 * c + j)) := by
    unfold StI
    rw [show (0 + 1) = 1 from rfl, h6, n_cl (p := c + 1) (by omega)]; omega
  have e4 : CtA (kC ρ) (ρ.2.2 30) 0 (214 + 60 * c + j) ↔ ¬ kC σ (60 * (1 + pr) + j) = 0 := by
    unfold CtA
    rw [e3]
    exact ⟨fun z => z.2, fun z => ⟨st, z⟩⟩
  unfold pzC szP nwS
  by_cases z : kC σ (60 * (1 + pr) + j) = 0
  · rw [if_pos z, if_neg (fun y => (e4.mp y) z)]
  · rw [if_neg z, if_pos (e4.mpr z), Nat.zero_add, h10 j hj, h5 28 (by decide)]
    by_cases y : j < np
    · rw [if_pos y, if_pos y]
    · rw [if_neg y, if_neg y, show (0 : Int32).toNatClampNeg = 0 from by decide]; exact szN_0
/-- the total with the new call -/
theorem StS_ca (h : CaS c n pr np t fl add σ ρ) (hc : c < 50) (hpr : pr < 41) (hc1 : σ.2.2 30 1 = nI c) (hB : StB (σ.2.2 30) 0) : StS ρ = StS σ + suN (nwS σ pr np t) 60 := by
  have pz := fun j (hj : j < 60) => pzC_ca h hc hpr hj
  obtain ⟨h1, h2, h3, h4, h5, h6, h7, h8, h9, h10, h11⟩ := h
  have l := StS_l (σ := ρ) (ρ := mAr ρ 30 1 (nI c)) h6 hc (by rw [mAr_s, upd_same]) (fun j hj => by rw [mAr_s, upd_other hj]) (mAr_o (by decide)) (kC_r (mAr_o (by decide)) (mAr_o (by decide)) rfl)
  have st : StS (mAr ρ 30 1 (nI c)) = StS σ := by
    obtain ⟨c', q, b1, b2, b3, b4⟩ := hB
    have o : ∀ j, ¬ (64 + 3 * c ≤ j ∧ j < 67 + 3 * c) → ¬ (214 + 60 * c ≤ j ∧ j < 274 + 60 * c) → (mAr ρ 30 1 (nI c)).2.2 30 j = σ.2.2 30 j := fun j a b => by
      by_cases e : j = 1
      · rw [e, mAr_s, upd_same, hc1]
      · rw [mAr_s, upd_other e]; exact h11 j e a b
    have r28 : (mAr ρ 30 1 (nI c)).2.2 28 = σ.2.2 28 := (mAr_o (by decide)).trans (h5 28 (by decide))
    have r20 : kC (mAr ρ 30 1 (nI c)) = kC σ := kC_r ((mAr_o (by decide)).trans (h5 20 (by decide))) ((mAr_o (by decide)).trans (h5 21 (by decide))) (h1 30 (by decide) (by decide))
    unfold StS SzS
    rw [r28, r20]
    generalize (mAr ρ 30 1 (nI c)).2.2 30 = A at *
    refine suN_c (fun j hj => ?_)
    have e1 : StI A 0 (0 + j) ↔ StI (σ.2.2 30) 0 (0 + j) := StI_c (o _ (by omega) (by omega)) (o _ (by omega) (by omega))
    have b3 : σ.2.2 30 3 = nI q := b3
    have key : StI (σ.2.2 30) 0 (0 + j) → A j = σ.2.2 30 j ∧ (NUa (kC σ) A 0 j ↔ NUa (kC σ) (σ.2.2 30) 0 j) := fun y => by
      unfold StI at y
      rw [show (0 + 1) = 1 from rfl, show (0 + 3) = 3 from rfl, hc1, b3, n_cl (p := c) (by omega), n_cl (p := q) (by omega)] at y
      refine ⟨o j (by omega) (by omega), ?_⟩
      unfold NUa
      by_cases y2 : 214 ≤ j ∧ j < 3214
      · rw [o (0 + (65 + 3 * ((j - 214) / 60))) (by omega) (by omega)]
      · constructor
        · rintro (z | z)
          · exact Or.inl z
          · exact absurd ⟨z.1, z.2.1⟩ y2
        · rintro (z | z)
          · exact Or.inl z
          · exact absurd ⟨z.1, z.2.1⟩ y2
    unfold szP
    by_cases y : CtA (kC σ) (σ.2.2 30) 0 j
    · have k := key y.1
      have y' : CtA (kC σ) A 0 j := ⟨e1.mpr y.1, fun z => y.2 (k.2.mp z)⟩
      rw [if_pos y, if_pos y', Nat.zero_add, k.1]
    · have y' : ¬ CtA (kC σ) A 0 j := fun z => y ⟨e1.mp z.1, fun q => z.2 ((key (e1.mp z.1)).2.mpr q)⟩
      rw [if_neg y, if_neg y']
  rw [l, suN_c pz, st]
theorem UT_ca (h : CaS c n pr np t fl add σ ρ) (hU : UT σ) (hc : c < 50) (hpr : pr < 41) (hc1 : σ.2.2 30 1 = nI c) (hB : StB (σ.2.2 30) 0) (hadd : add = suN (nwS σ pr np t) 60) (hpf : ∀ i, i < np → ¬ kC σ (60 * (1 + pr) + i) = 0) (hle : ∀ P, σ.1 63 = nI P → P ≤ 20 → StS σ + suN (PtS σ) P + add ≤ 40000) : UT ρ := by
  have sS := StS_ca h hc hpr hc1 hB
  obtain ⟨h1, h2, h3, h4, h5, h6, h7, h8, h9, h10, h11⟩ := id h
  obtain ⟨cc, c1, c2, c3⟩ := UT_cw hU
  have ecc : cc = c := (n_eq (by omega) (by omega)).mp (c1.symm.trans hc1)
  subst ecc
  obtain ⟨c', q, b1, b2, b3, b4⟩ := hB
  have b3 : σ.2.2 30 3 = nI q := b3
  have hU0 := hU
  obtain ⟨u64, P, u63, hP, _, _, ul, _⟩ := hU0
  have l1 := hle P u63 hP
  refine UT_30 hU (fun a h _ => h5 a h) (h1 63 (by decide) (by decide)) (h1 65 (by decide) (by decide)) (h1 30 (by decide) (by decide)) ?_ (Or.inr (fun P' e1 e2 => ?_)) (fun i s nu => ?_) ⟨cc + 1, h6, by omega, fun i hi => ?_⟩
  · rw [h3, u64, n_add (by omega), sS, hadd]
  · have := hle P' e1 e2
    rw [sS, ← hadd]; omega
  · by_cases y : 214 + 60 * cc ≤ i ∧ i < 274 + 60 * cc
    · obtain ⟨j, hj, ej⟩ : ∃ j, j < 60 ∧ i = 214 + 60 * cc + j := ⟨i - (214 + 60 * cc), by omega, by omega⟩
      rw [ej, h10 j hj]
      by_cases z : j < np
      · exfalso
        refine hpf j z ?_
        rw [ej] at nu
        unfold NUa at nu
        rw [show (214 + 60 * cc + j - 214) / 60 = cc by omega, show (214 + 60 * cc + j - 214) % 60 = j by omega, Nat.zero_add, h8, n_cl (p := pr) (by omega)] at nu
        rcases nu with z | z
        · omega
        · exact z.2.2
      · rw [if_neg z]
    · unfold StI at s
      rw [show (0 + 1) = 1 from rfl, show (0 + 3) = 3 from rfl, h6, h11 3 (by omega) (by omega) (by omega), b3, n_cl (p := cc + 1) (by omega), n_cl (p := q) (by omega)] at s
      rw [h11 i (by omega) (by omega) y]
      refine UT_nu hU i ?_ ?_
      · unfold StI
        rw [show (0 + 1) = 1 from rfl, show (0 + 3) = 3 from rfl, hc1, b3, n_cl (p := cc) (by omega), n_cl (p := q) (by omega)]
        omega
      · unfold NUa at nu ⊢
        by_cases y2 : 214 ≤ i ∧ i < 3214
        · rw [h11 (0 + (65 + 3 * ((i - 214) / 60))) (by omega) (by omega) (by omega)] at nu; exact nu
        · rcases nu with z | z
          · exact Or.inl z
          · exact absurd ⟨z.1, z.2.1⟩ y2
  · by_cases e : i = cc
    · rw [e, Nat.zero_add, h8]; exact ⟨pr, rfl, hpr⟩
    · rw [h11 _ (by omega) (by omega) (by omega)]; exact c3 i (by omega)
theorem EI_ca (h1 : CaS c n pr np t fl add σ1 ρ1) (h2 : CaS c n pr np t fl add σ2 ρ2) (hE : EI (t + np) w XC σ1 σ2) (hc : c < 50) (hnp : np ≤ 60) (hc1 : σ1.2.2 30 1 = nI c) : EI t w XC ρ1 ρ2 := by
  have hE0 := hE
  obtain ⟨g1, l1, B1, hh1, X1, g2, l2, B2, hh2, X2, n1, n2, hR, _, _, t1, _⟩ := hE0
  obtain ⟨a1, a2, a3, a4, a5, a6, a7, a8, a9, a10, a11⟩ := h1
  obtain ⟨b1, b2, b3, b4, b5, b6, b7, b8, b9, b10, b11⟩ := h2
  have al := hR.2.2.1
  refine EI_mv hE (fun j hj => a1 j (by omega) (by omega)) (fun j hj => b1 j (by omega) (by omega)) a4 b4 (fun a _ h _ _ _ => a5 a h) (fun a _ h _ _ _ => b5 a h) a2 ?_ (fun j hj hn => ?_) (fun j hj hn => ?_) (fun j hn => ?_) (fun j hj => ?_) (fun a j ha z => ?_)
  · obtain ⟨P, e, y1, y2, y3, y4, ⟨c', q, z1, z2, z3, z4⟩, y6⟩ := n1.2.1
    refine ⟨P, e, (a1 63 (by decide) (by decide)).trans y1, y2, (a1 72 (by decide) (by decide)).trans y3, y4, ⟨c + 1, q, a6, by omega, (a11 3 (by omega) (by omega) (by omega)).trans z3, z4⟩, ?_⟩
    rw [a5 31 (by decide)]; exact y6
  · by_cases e1 : j = 1
    · rw [e1, a6, b6]
    by_cases e2 : 64 + 3 * c ≤ j ∧ j < 67 + 3 * c
    · have : j = 64 + 3 * c ∨ j = 65 + 3 * c ∨ j = 66 + 3 * c := by omega
      rcases this with e | e | e
      · rw [e, a7, b7]
      · rw [e, a8, b8]
      · rw [e, a9, b9]
    have e3 : ¬ (214 + 60 * c ≤ j ∧ j < 274 + 60 * c) := fun z => hj (by unfold Zn; omega)
    rw [a11 j e1 e2 e3, b11 j e1 e2 e3]
    refine hR.2.1 30 j (by unfold AlR; omega) hj (fun y => hn ?_)
    unfold InA at y ⊢
    rcases y with y | y
    · refine Or.inl ⟨rfl, ?_⟩
      have y := y.2
      unfold IaN at y ⊢
      rw [Nat.zero_add, Nat.zero_add, Nat.zero_add] at y ⊢
      rw [hc1, n_cl (p := c) (by omega)] at y
      rw [a6, a11 2 (by omega) (by omega) (by omega), a11 3 (by omega) (by omega) (by omega), n_cl (p := c + 1) (by omega)]
      omega
    · omega
  · rw [a5 31 (by decide), b5 31 (by decide)]; exact hR.2.1 31 j (by unfold AlR; omega) hj (fun y => hn (InA_31 (σ := σ1) (a1 63 (by decide) (by decide)) (a5 31 (by decide)) y))
  · rw [a5 32 (by decide), b5 32 (by decide)]; exact hR.2.1 32 j (by unfold AlR; omega) (by unfold Zn; omega) (fun y => hn (InA_32 (σ := σ1) (a1 63 (by decide) (by decide)) y))
  · by_cases e : j = 64
    · rw [e, a3, b3, al 64 (by unfold AlS; omega)]
    · by_cases e2 : j = 59
      · rw [e2, a2, b2]
      · rw [a1 j e2 e, b1 j e2 e]; exact al j hj
  · rcases z with z | ⟨z, y⟩ | ⟨z, p, hp, y⟩ | z | z
    · refine Or.inl ⟨29, j, by unfold VwR; omega, Or.inl ⟨rfl, by omega⟩, ?_, ?_⟩
      · rw [z.1, a5 29 (by decide)]
      · rw [z.1, b5 29 (by decide)]
    · subst z
      by_cases e3 : 214 + 60 * c ≤ j ∧ j < 274 + 60 * c
      · obtain ⟨i, hi, ei⟩ : ∃ i, i < 60 ∧ j = 214 + 60 * c + i := ⟨j - (214 + 60 * c), by omega, by omega⟩
        rw [ei, a10 i hi, b10 i hi]
        by_cases y2 : i < np
        · rw [if_pos y2, if_pos y2]
          exact Or.inl ⟨29, t + i, by unfold VwR; omega, Or.inl ⟨rfl, by omega⟩, rfl, rfl⟩
        · rw [if_neg y2, if_neg y2]; exact Or.inr ⟨rfl, rfl⟩
      · obtain ⟨P, e, _, _, _, _, ⟨c', q, z1, z2, z3, z4⟩, _⟩ := n1.2.1
        have z3 : σ1.2.2 30 3 = nI q := z3
        unfold StI at y
        rw [show (0 + 1) = 1 from rfl, show (0 + 3) = 3 from rfl, a6, a11 3 (by omega) (by omega) (by omega), z3, n_cl (p := c + 1) (by omega), n_cl (p := q) (by omega)] at y
        refine Or.inl ⟨30, j, by unfold VwR; omega, Or.inr (Or.inl ⟨rfl, ?_⟩), a11 j (by omega) (by omega) e3, b11 j (by omega) (by omega) e3⟩
        unfold StI
        rw [show (0 + 1) = 1 from rfl, show (0 + 3) = 3 from rfl, hc1, z3, n_cl (p := c) (by omega), n_cl (p := q) (by omega)]
        omega
    · subst z
      refine Or.inl ⟨31, j, by unfold VwR; omega, Or.inr (Or.inr (Or.inl ⟨rfl, p, ?_, ?_⟩)), by rw [a5 31 (by decide)], by rw [b5 31 (by decide)]⟩
      · rw [a1 63 (by decide) (by decide)] at hp; exact hp
      · rw [a5 31 (by decide)] at y; exact y
    · refine Or.inl ⟨a, j, by unfold VwR; omega, Or.inr (Or.inr (Or.inr (Or.inl z))), ?_, ?_⟩
      · rw [a5 a (by omega)]
      · rw [b5 a (by omega)]
    · have : a = 34 ∨ a = 36 ∨ a = 37 ∨ a = 38 ∨ a = 40 := by omega
      omega
end CAS

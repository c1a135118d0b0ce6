/-! Statements on both sides (reference): blocks are finished, a statement is passed. -/
section PAS
variable {T : Nat → Nat → Int32} {FN : Nat → Nat → Prop} {S : Nat → Nat → Nat → Nat → Prop} {t w XC : Nat} {σ1 σ2 : MS}
/-- a block is finished -/
theorem E_fin (hW : SWf T FN S) (hXC : XC ≤ 401000) (ht : t + 9 + KBn T ≤ w + 17000) : ∀ (M c un d w' : Nat) (x : Int32) (F : List Nat) (τ1 τ2 : MS) (N1 N2 : Nat → Int32), 21 * c + d ≤ M → w ≤ w' → Mid T FN S t w' XC σ1 σ2 τ1 τ2 → InP T S c un d x F τ1 → N1 2 = x → N2 2 = x → N1 3 = 1 → N2 3 = 1 → T2 (fun k => x_finished k 1 N1 τ1) (fun k => x_finished k 1 N2 τ2) (fun r1 r2 => OuQ T FN S t w XC σ1 σ2 r1.2 r2.2) := by
  have fend : ∀ (ρ : MS) (K : Nat → Int32), K 3 = 0 → Tm (fun k => x_finished k 6 K ρ) (fun r => r = (0, ρ)) := fun ρ K k3 => by
    refine Tm_suc (fun k => by rw [x_finished]) ?_
    refine Tm_suc (fun k => by rw [x_finished]) ?_
    rw [k3]
    refine Tm_ite (fun _ => ?_) (fun z => absurd rfl z)
    refine Tm_suc (fun k => by rw [x_finished]) ?_
    exact Tm_some rfl
  intro M
  induction M using Nat.strongRecOn with
  | ind M ih =>
  intro c un d w' x F τ1 τ2 N1 N2 hm hw hM hP n2 o2 n3 o3
  refine T2_suc (fun k => by rw [x_finished]) (fun k => by rw [x_finished]) ?_
  rw [n3, o3, n2, o2]
  refine T2_ite Iff.rfl (fun z _ => absurd z (by decide)) (fun _ _ => ?_)
  refine T2_ob (E_done hW hXC ht hw hM hP rfl rfl) (fun r1 r2 hr => ?_)
  obtain ⟨c1, c2⟩ := hr
  rw [← c1]
  rcases c2 with ⟨z, hO⟩ | ⟨c', un', d', v', n', F', w2, z, hw2, hK, hP', lt⟩
  · rw [z]
    refine T2_ite Iff.rfl (fun _ _ => ?_) (fun y _ => absurd rfl y)
    refine T2_suc (fun k => by rw [x_finished]) (fun k => by rw [x_finished]) ?_
    refine T2_suc (fun k => by rw [x_finished]) (fun k => by rw [x_finished]) ?_
    refine T2_ite (c1 := (0 : Int32) = 0) (c2 := (0 : Int32) = 0) Iff.rfl (fun _ _ => ?_) (fun y _ => absurd rfl y)
    refine T2_suc (fun k => by rw [x_finished]) (fun k => by rw [x_finished]) ?_
    refine T2_ite (c1 := (0 : Int32) = 0) (c2 := (0 : Int32) = 0) Iff.rfl (fun _ _ => ?_) (fun y _ => absurd rfl y)
    refine T2_mono (T2_t (fend _ _ rfl) (fend _ _ rfl)) (fun s1 s2 hs => ?_)
    rw [hs.1, hs.2]
    exact hO
  · obtain ⟨hE, U1, U2, B1, B2, kp⟩ := id hK
    have w6 := EI_w hE
    obtain ⟨_, _, ⟨n7, _, _⟩, _, _⟩ := Pos_b hW hP'
    obtain ⟨_, ⟨p, p8, p4⟩, hsib, _⟩ := hW un' d' v' n' (LVs_S hP'.2.2.1)
    rw [z]
    refine T2_ite Iff.rfl (fun y _ => absurd y (ne_m1 n7)) (fun _ _ => ?_)
    have k4 : upd (upd N1 4 (nI n')) 100 1 4 = nI n' := rfl
    have l4 : upd (upd N2 4 (nI n')) 100 1 4 = nI n' := rfl
    have k1 : upd (upd N1 4 (nI n')) 100 1 100 = 1 := rfl
    have l1 : upd (upd N2 4 (nI n')) 100 1 100 = 1 := rfl
    generalize upd (upd N1 4 (nI n')) 100 1 = K1 at *
    generalize upd (upd N2 4 (nI n')) 100 1 = K2 at *
    refine T2_suc (fun k => by rw [x_finished]) (fun k => by rw [x_finished]) ?_
    rw [k1, l1, k4, l4]
    refine T2_ite Iff.rfl (fun y _ => absurd y (by decide)) (fun _ _ => ?_)
    refine T2_chk (n_in (by omega) (by omega)) (n_in (by omega) (by omega)) ?_
    rw [n_cl (p := n') (by omega), B1.1.1 9 _ (by omega) (by omega) (by omega), B2.1.1 9 _ (by omega) (by omega) (by omega)]
    refine T2_ite Iff.rfl (fun y _ => ?_) (fun y _ => ?_)
    · have q3 : upd K1 3 1 3 = 1 := rfl
      have p3 : upd K2 3 1 3 = 1 := rfl
      have q4 : upd K1 3 1 4 = nI n' := k4
      have p4' : upd K2 3 1 4 = nI n' := l4
      generalize upd K1 3 1 = J1 at *
      generalize upd K2 3 1 = J2 at *
      refine T2_suc (fun k => by rw [x_finished]) (fun k => by rw [x_finished]) ?_
      rw [q3, p3, q4, p4']
      refine T2_ite Iff.rfl (fun y _ => absurd y (by decide)) (fun _ _ => ?_)
      refine T2_chk (n_in (by omega) (by omega)) (n_in (by omega) (by omega)) ?_
      rw [n_cl (p := n') (by omega), B1.1.1 8 _ (by omega) (by omega) (by omega), B2.1.1 8 _ (by omega) (by omega) (by omega), p8]
      refine T2_chk (n_in (by omega) (by omega)) (n_in (by omega) (by omega)) ?_
      rw [B1.1.1 10 _ (by omega) (by omega) ⟨by omega, fun _ => by rw [n_cl (p := p) (by omega)]; omega⟩, B2.1.1 10 _ (by omega) (by omega) ⟨by omega, fun _ => by rw [n_cl (p := p) (by omega)]; omega⟩]
      refine T2_suc (fun k => by rw [x_finished]) (fun k => by rw [x_finished]) ?_
      have ue : T 10 (nI p).toNatClampNeg = upN T n' := by unfold upN; rw [p8]
      rw [ue]
      exact ih (21 * c' + d') (by omega) c' un' d' w2 (upN T n') F' r1.2 r2.2 _ _ (Nat.le_refl _) hw2 hK (Pos_in hW hP') rfl rfl q3 p3
    · obtain ⟨n2', v2', xn, hS2, _, hu2⟩ := hsib.resolve_left y
      refine T2_chk (n_in3 (by omega) (by omega)) (n_in3 (by omega) (by omega)) ?_
      refine T2_chk (by decide) (by decide) ?_
      rw [show (0 : Int32).toNatClampNeg = 0 from by decide, xn]
      refine T2_suc (fun k => by rw [x_finished]) (fun k => by rw [x_finished]) ?_
      refine T2_mono (T2_t (fend _ _ rfl) (fend _ _ rfl)) (fun s1 s2 hs => ?_)
      rw [hs.1, hs.2]
      exact OuQ_0 hW hw2 hK (Pos_lv hP' (LVs_sib hP'.2.2.1 hS2 hu2))
theorem E_finished (hW : SWf T FN S) (hXC : XC ≤ 401000) (ht : t + 9 + KBn T ≤ w + 17000) {c un d w' : Nat} {x : Int32} {F : List Nat} {τ1 τ2 : MS} (hw : w ≤ w') (hM : Mid T FN S t w' XC σ1 σ2 τ1 τ2) (hP : InP T S c un d x F τ1) {L1 L2 : Nat → Int32} (d1 : L1 1 = x) (d2 : L2 1 = x) : T2 (fun k => x_finished k 0 L1 τ1) (fun k => x_finished k 0 L2 τ2) (fun r1 r2 => OuQ T FN S t w XC σ1 σ2 r1.2 r2.2) := by
  refine T2_suc (fun k => by rw [x_finished]) (fun k => by rw [x_finished]) ?_
  exact E_fin hW hXC ht _ c un d w' x F τ1 τ2 _ _ (Nat.le_refl _) hw hM hP d1 d2 rfl rfl
/-- a block is entered: its first statement is told, or it is finished at once -/
theorem E_enter (hW : SWf T FN S) (hXC : XC ≤ 401000) (ht : t + 9 + KBn T ≤ w + 17000) {c un d w' : Nat} {x : Int32} {F : List Nat} {τ1 τ2 : MS} (hw : w ≤ w') (hM : Mid T FN S t w' XC σ1 σ2 τ1 τ2) (hP : InP T S c un d x F τ1) {y : Int32} (hy : y = -1 ∨ ∃ b v', y = nI b ∧ Pos T S c un d v' b F τ1) {L1 L2 : Nat → Int32} (d1 : L1 1 = y) (d2 : L2 1 = y) (e1 : L1 2 = x) (e2 : L2 2 = x) : T2 (fun k => x_enter k 0 L1 τ1) (fun k => x_enter k 0 L2 τ2) (fun r1 r2 => OuQ T FN S t w XC σ1 σ2 r1.2 r2.2) := by
  refine T2_suc (fun k => by rw [x_enter]) (fun k => by rw [x_enter]) ?_
  rw [d1, d2]
  refine T2_ite Iff.rfl (fun _ _ => ?_) (fun z _ => ?_)
  · refine T2_suc (fun k => by rw [x_enter]) (fun k => by rw [x_enter]) ?_
    refine T2_ob (E_finished hW hXC ht hw hM hP (by exact e1) (by exact e2)) (fun r1 r2 hr => ?_)
    refine T2_suc (fun k => by rw [x_enter]) (fun k => by rw [x_enter]) ?_
    exact T2_some hr
  · obtain ⟨b, v', yb, hb⟩ := hy.resolve_left z
    refine T2_chk (by decide) (by decide) ?_
    rw [show (0 : Int32).toNatClampNeg = 0 from by decide, yb]
    refine T2_suc (fun k => by rw [x_enter]) (fun k => by rw [x_enter]) ?_
    exact T2_some (OuQ_0 hW hw hM hb)
/-- on behind a statement -/
theorem E_goOnBehind (hW : SWf T FN S) (hXC : XC ≤ 401000) (ht : t + 9 + KBn T ≤ w + 17000) {c un d v n w' : Nat} {F : List Nat} {τ1 τ2 : MS} (hw : w ≤ w') (hM : Mid T FN S t w' XC σ1 σ2 τ1 τ2) (hP : Pos T S c un d v n F τ1) {L1 L2 : Nat → Int32} (d1 : L1 1 = nI n) (d2 : L2 1 = nI n) : T2 (fun k => x_goOnBehind k 0 L1 τ1) (fun k => x_goOnBehind k 0 L2 τ2) (fun r1 r2 => OuQ T FN S t w XC σ1 σ2 r1.2 r2.2) := by
  obtain ⟨hE, U1, U2, B1, B2, kp⟩ := id hM
  have w6 := EI_w hE
  obtain ⟨_, _, ⟨n7, _, _⟩, _, _⟩ := Pos_b hW hP
  obtain ⟨_, ⟨p, p8, p4⟩, hsib, _⟩ := hW un d v n (LVs_S hP.2.2.1)
  refine T2_suc (fun k => by rw [x_goOnBehind]) (fun k => by rw [x_goOnBehind]) ?_
  rw [d1, d2]
  refine T2_ite Iff.rfl (fun y _ => absurd y (ne_m1 n7)) (fun _ _ => ?_)
  refine T2_suc (fun k => by rw [x_goOnBehind]) (fun k => by rw [x_goOnBehind]) ?_
  rw [d1, d2]
  refine T2_chk (n_in (by omega) (by omega)) (n_in (by omega) (by omega)) ?_
  rw [n_cl (p := n) (by omega), B1.1.1 9 _ (by omega) (by omega) (by omega), B2.1.1 9 _ (by omega) (by omega) (by omega)]
  refine T2_ite Iff.rfl (fun y _ => ?_) (fun y _ => ?_)
  · refine T2_suc (fun k => by rw [x_goOnBehind]) (fun k => by rw [x_goOnBehind]) ?_
    rw [d1, d2]
    refine T2_chk (n_in (by omega) (by omega)) (n_in (by omega) (by omega)) ?_
    rw [n_cl (p := n) (by omega), B1.1.1 8 _ (by omega) (by omega) (by omega), B2.1.1 8 _ (by omega) (by omega) (by omega), p8]
    refine T2_chk (n_in (by omega) (by omega)) (n_in (by omega) (by omega)) ?_
    rw [B1.1.1 10 _ (by omega) (by omega) ⟨by omega, fun _ => by rw [n_cl (p := p) (by omega)]; omega⟩, B2.1.1 10 _ (by omega) (by omega) ⟨by omega, fun _ => by rw [n_cl (p := p) (by omega)]; omega⟩]
    have ue : T 10 (nI p).toNatClampNeg = upN T n := by unfold upN; rw [p8]
    rw [ue]
    refine T2_ob (E_finished hW hXC ht hw hM (Pos_in hW hP) rfl rfl) (fun r1 r2 hr => ?_)
    refine T2_suc (fun k => by rw [x_goOnBehind]) (fun k => by rw [x_goOnBehind]) ?_
    exact T2_some hr
  · obtain ⟨n2', v2', xn, hS2, _, hu2⟩ := hsib.resolve_left y
    refine T2_chk (n_in3 (by omega) (by omega)) (n_in3 (by omega) (by omega)) ?_
    refine T2_chk (by decide) (by decide) ?_
    rw [show (0 : Int32).toNatClampNeg = 0 from by decide, xn]
    refine T2_suc (fun k => by rw [x_goOnBehind]) (fun k => by rw [x_goOnBehind]) ?_
    exact T2_some (OuQ_0 hW hw hM (Pos_lv hP (LVs_sib hP.2.2.1 hS2 hu2)))
/-- a statement is passed -/
theorem E_pass (hW : SWf T FN S) (hXC : XC ≤ 401000) (ht : t + 9 + KBn T ≤ w + 17000) {c un d v n w' : Nat} {F : List Nat} {τ1 τ2 : MS} (hw : w ≤ w') (hM : Mid T FN S t w' XC σ1 σ2 τ1 τ2) (hP : Pos T S c un d v n F τ1) {L1 L2 : Nat → Int32} (d1 : L1 1 = nI n) (d2 : L2 1 = nI n) : T2 (fun k => x_pass k 0 L1 τ1) (fun k => x_pass k 0 L2 τ2) (fun r1 r2 => OuQ T FN S t w XC σ1 σ2 r1.2 r2.2) := by
  obtain ⟨e1, e2⟩ := EI_e hM.1
  refine T2_suc (fun k => by rw [x_pass]) (fun k => by rw [x_pass]) ?_
  rw [e1, e2]
  refine T2_ite Iff.rfl (fun _ _ => ?_) (fun z _ => absurd rfl z)
  refine T2_ob (E_goOnBehind hW hXC ht hw hM hP (by exact d1) (by exact d2)) (fun r1 r2 hr => ?_)
  refine T2_suc (fun k => by rw [x_pass]) (fun k => by rw [x_pass]) ?_
  exact T2_some hr
end PAS

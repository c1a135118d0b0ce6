section JnS235
/-! Statements on both sides (reference): a target is written. -/
theorem n_am1 {p : Nat} (h : p < 2147483647) : nI (p + 1) + (-1) = nI p := by
  rw [← Int32.sub_eq_add_neg]; exact n_sub1 h
section WRT
variable {T : Nat → Nat → Int32} {FN : Nat → Nat → Prop} {lc cn : Nat → Prop} {t w XC k u p s : Nat} {σ σ1 σ2 ρ : MS} {ch : Nat → Nat}
theorem w_9 {τ : MS} {N : Nat → Int32} : Tm (fun n => x_write n 9 N τ) (fun r => r = (0, τ)) := Tm_suc (fun n => by rw [x_write]) (Tm_some rfl)
/-- with an error the top goes back -/
theorem w_z {i : Nat} (hi : (1 ≤ ch i ∧ ch i < LNo T % 70001)) {τ : MS} (he : ¬ τ.1 56 = 0) {N : Nat → Int32} (n8 : N 8 = nI (ch i)) (n4 : N 4 = nI t) : Tm (fun n => x_write n 2 N τ) (fun r => r = (0, mSc τ 59 (nI t))) := by
  have w7 : Tm (fun n => x_write n 7 N τ) (fun r => r = (0, mSc τ 59 (nI t))) := by
    refine Tm_suc (fun n => by rw [x_write]) ?_
    rw [n4]
    refine Tm_suc (fun n => by rw [x_write]) ?_
    exact Tm_ite (fun z => absurd z he) (fun _ => w_9)
  refine Tm_suc (fun n => by rw [x_write]) ?_
  rw [n8]
  refine Tm_chk (n_in (by omega) (by omega)) ?_
  exact Tm_ite (fun _ => w7) (fun _ => Tm_ite (fun z => absurd z he) (fun _ => w7))
theorem s_writeZ {τ : MS} (he : ¬ τ.1 56 ≤ 0) {L : Nat → Int32} : Tm (fun n => x_write n 0 L τ) (fun r => r = (0, τ)) := by
  refine Tm_suc (fun n => by rw [x_write]) ?_
  exact Tm_ite (fun z => absurd z he) (fun _ => Tm_some rfl)
theorem SQ_z {b a : Nat} {τ1 τ2 : MS} (f1 : FE σ1 τ1) (f2 : FE σ2 τ2) (U1 : UT σ1) (U2 : UT σ2) (ha : t ≤ a) (hb : t ≤ b) (z1 : EZ a b τ1) (z2 : EZ a b τ2) : SQ b t w XC σ1 σ2 (mSc τ1 59 (nI t)) (mSc τ2 59 (nI t)) := ⟨FS_tr (FS_fe f1) (FS_sc (by omega)), FS_tr (FS_fe f2) (FS_sc (by omega)), UT_c (UT_fe f1 U1) rfl rfl rfl rfl, UT_c (UT_fe f2 U2) rfl rfl rfl rfl, Or.inr ⟨EZ_dn z1 ha hb, EZ_dn z2 ha hb⟩⟩
/-- the loop of write: part by part from the last one -/
theorem w_lp (hX : XC ≤ 402000) (h : Tgt T FN lc k ch) (hn : NmW T lc cn (ch 0) s) (hS : Sc1 T FN lc cn σ1) (hS2 : Sc1 T FN lc cn σ2) (U1 : UT σ1) (U2 : UT σ2) {TP : Nat} (hTP : t ≤ TP ∧ TP ≤ 130000 ∧ k ≤ TP) (hu : u + kys T ch k ≤ t) : ∀ (i : Nat), i ≤ k → ∀ (w' : Nat) (τ1 τ2 : MS) (N1 N2 : Nat → Int32), w ≤ w' → FE σ1 τ1 → FE σ2 τ2 → PKp t σ1 τ1 → EI (TP + 1) w' XC τ1 τ2 → N1 4 = nI t → N2 4 = nI t → N1 5 = nI (u + kys T ch i) → N2 5 = nI (u + kys T ch i) → N1 6 = nI (TP + i - k) → N2 6 = nI (TP + i - k) → N1 7 = nI TP → N2 7 = nI TP → N1 8 = nI (ch i) → N2 8 = nI (ch i) → T2 (fun n => x_write n 2 N1 τ1) (fun n => x_write n 2 N2 τ2) (fun r1 r2 => SQ 179300 t w XC σ1 σ2 r1.2 r2.2 ∧ (r1.2.1 56 = 0 → PKp t σ1 r1.2)) := by
  have tb : ∀ (τ1 τ2 : MS), FE σ1 τ1 → FE σ2 τ2 → ∀ a i, 4 ≤ a → a ≤ 9 → (1 ≤ i ∧ i < LNo T % 70001) → τ1.2.2 a i = T a i ∧ τ2.2.2 a i = T a i := fun τ1 τ2 f1 f2 a i h1 h2 h3 => ⟨(STb_fe hS.1.1 f1).1 a i h1 (by omega) ⟨fun _ => h3, fun z => by omega⟩, (STb_fe hS2.1.1 f2).1 a i h1 (by omega) ⟨fun _ => h3, fun z => by omega⟩⟩
  intro i
  induction i with
  | zero =>
    intro _ w' τ1 τ2 N1 N2 hw f1 f2 pk hJ a4 b4 a5 b5 a6 b6 a7 b7 a8 b8
    have b0 := h.1 0 (by omega)
    obtain ⟨e1, e2⟩ := EI_e hJ
    refine T2_suc (fun n => by rw [x_write]) (fun n => by rw [x_write]) ?_
    rw [a8, b8]
    refine T2_chk (n_in (by omega) (by omega)) (n_in (by omega) (by omega)) ?_
    rw [n_cl (p := ch 0) (by omega), (tb τ1 τ2 f1 f2 4 _ (by omega) (by omega) (by omega)).1, (tb τ1 τ2 f1 f2 4 _ (by omega) (by omega) (by omega)).2]
    refine T2_ite Iff.rfl (fun _ _ => ?_) (fun z _ => absurd h.2.1.1 z)
    refine T2_suc (fun n => by rw [x_write]) (fun n => by rw [x_write]) ?_
    rw [a4, b4]
    refine T2_suc (fun n => by rw [x_write]) (fun n => by rw [x_write]) ?_
    show T2 (fun n => if τ1.1 56 = 0 then _ else _) (fun n => if τ2.1 56 = 0 then _ else _) _
    rw [e1, e2, a7, b7, a8, b8]
    refine T2_ite Iff.rfl (fun _ _ => ?_) (fun z _ => absurd rfl z)
    refine T2_chk (n_in (by omega) (by omega)) (n_in (by omega) (by omega)) ?_
    rw [n_cl (p := TP) (by omega)]
    refine T2_ob (E_asgDP (u := t) (i := TP) hX (Sc1_fs hS (FS_fe f1)) hJ (UT_fe f1 U1) (UT_fe f2 U2) hn (by omega) (by omega) rfl rfl rfl rfl) (fun r1 r2 hr => ?_)
    obtain ⟨⟨g1, g2, g3, g4, g5⟩, as⟩ := hr
    have pk9 : PKp t σ1 r1.2 := PK_tr pk (PK_28 (as.1 28 (by decide)) (fun i _ => by rw [as.1 29 (by decide)]))
    refine T2_mono (T2_t w_9 w_9) (fun q1 q2 hq => ?_)
    rw [hq.1, hq.2]
    refine ⟨⟨FS_tr (FS_fe f1) g1, FS_tr (FS_fe f2) g2, g3, g4, ?_⟩, fun _ => pk9⟩
    rcases g5 with ⟨w2, hw2, g5⟩ | ⟨z1, z2⟩
    · exact Or.inl ⟨w2, by omega, g5⟩
    · exact Or.inr ⟨EZ_mo z1 (Nat.le_refl _) (by omega), EZ_mo z2 (Nat.le_refl _) (by omega)⟩
  | succ i ih =>
    intro hi w' τ1 τ2 N1 N2 hw f1 f2 pk hJ a4 b4 a5 b5 a6 b6 a7 b7 a8 b8
    have bi := h.1 i (by omega)
    have bj := h.1 (i + 1) hi
    have km := kys_mo (T := T) (ch := ch) (i := i + 1) (j := k) (by omega)
    have ek : kys T ch (i + 1) = kys T ch i + (if T 4 (ch (i + 1)) = 22 then 2 else 1) := rfl
    have k12 : 1 ≤ (if T 4 (ch (i + 1)) = 22 then 2 else 1) ∧ (if T 4 (ch (i + 1)) = 22 then 2 else 1) ≤ 2 := by split <;> omega
    obtain ⟨c6, c9, c4, c7, c8⟩ := h.2.2 i (by omega)
    obtain ⟨e1, e2⟩ := EI_e hJ
    rw [show TP + (i + 1) - k = TP + i - k + 1 by omega] at a6 b6
    -- behind an operation
    have five : ∀ (r1 r2 : MS) (g1 : Nat → Prop) (l1 : List Nat) (B1 h1 X1 : Nat) (g2 : Nat → Prop) (l2 : List Nat) (B2 h2 X2 : Nat), FE σ1 r1 → FE σ2 r2 → PKp t σ1 r1 → EIx (TP + 1) w' XC r1 r2 g1 l1 B1 h1 X1 g2 l2 B2 h2 X2 → ∀ (s1 s2 : Int32 × MS) (O1 O2 : Nat → Int32), O1 100 = s1.1 → O2 100 = s2.1 → O1 102 = nI TP → O2 102 = nI TP → O1 4 = nI t → O2 4 = nI t → O1 5 = nI (u + kys T ch i) → O2 5 = nI (u + kys T ch i) → O1 6 = nI (TP + i - k) → O2 6 = nI (TP + i - k) → O1 7 = nI TP → O2 7 = nI TP → O1 8 = nI (ch (i + 1)) → O2 8 = nI (ch (i + 1)) → (SO (TP + 1) w' XC g1 r1 s1 ∧ SO (TP + 1) w' XC g2 r2 s2 ∧ KS 8600 s1 s2 ∧ s1.2.1 95 = r1.1 95 ∧ s2.2.1 95 = r2.1 95) → T2 (fun n => x_write n 5 O1 s1.2) (fun n => x_write n 5 O2 s2.2) (fun r1 r2 => SQ 179300 t w XC σ1 σ2 r1.2 r2.2 ∧ (r1.2.1 56 = 0 → PKp t σ1 r1.2)) := by
      intro r1 r2 g1 l1 B1 h1 X1 g2 l2 B2 h2 X2 p1 p2 pk2 hX' s1 s2 O1 O2 o100 p100 o102 p102 o4 p4 o5 p5 o6 p6 o7 p7 o8 p8 hs
      obtain ⟨s1', s2', s3, s4, s5⟩ := hs
      obtain ⟨m1, m2, bR, j1, j2, _, _, _, _, _, _, _, ⟨ty1, ty2⟩, a, z1, z2⟩ := hX'
      refine T2_suc (fun n => by rw [x_write]) (fun n => by rw [x_write]) ?_
      rw [o100, p100, o102, p102]
      refine E_anS m1 m2 bR j1 j2 (by omega) ty1 ty2 ⟨a, s4.trans z1, z2⟩ (s4.trans ((bR.2.2.1 95 (by unfold AlS; omega)).trans s5.symm)) s1' s2' s3 (fun v1 v2 k1 k2 pk3 hv => ?_)
      have y1 := FE_tr p1 k1
      have y2 := FE_tr p2 k2
      refine T2_chk (n_in (by omega) (by omega)) (n_in (by omega) (by omega)) ?_
      rw [n_cl (p := TP) (by omega)]
      refine T2_suc (fun n => by rw [x_write]) (fun n => by rw [x_write]) ?_
      rw [o8, p8]
      refine T2_chk (n_in (by omega) (by omega)) (n_in (by omega) (by omega)) ?_
      rw [n_cl (p := ch (i + 1)) (by omega)]
      show T2 (fun n => x_write n 2 (upd O1 8 ((mAr v1.2 29 TP v1.1).2.2 6 (ch (i + 1)))) (mAr v1.2 29 TP v1.1)) (fun n => x_write n 2 (upd O2 8 ((mAr v2.2 29 TP v2.1).2.2 6 (ch (i + 1)))) (mAr v2.2 29 TP v2.1)) _
      rw [(tb _ _ y1 y2 6 _ (by omega) (by omega) (by omega)).1, (tb _ _ y1 y2 6 _ (by omega) (by omega) (by omega)).2, c6]
      rcases hv with ⟨w2, hw2, hv⟩ | ⟨y3, y4⟩
      · exact ih (by omega) w2 _ _ _ _ (by omega) y1 y2 (PK_tr pk2 (PK_mo (by omega) pk3)) hv o4 p4 o5 p5 o6 p6 o7 p7 rfl rfl
      · refine T2_mono (T2_t (w_z bi (EZ_e y3) rfl o4) (w_z bi (EZ_e y4) rfl p4)) (fun q1 q2 hq => ?_)
        rw [hq.1, hq.2]
        exact ⟨SQ_z y1 y2 U1 U2 (show t ≤ TP + 1 by omega) (by omega) (EZ_mo y3 (Nat.le_refl _) (by omega)) (EZ_mo y4 (Nat.le_refl _) (by omega)), fun z => absurd (show (mAr v1.2 29 TP v1.1).1 56 = 0 from z) (EZ_e y3)⟩
    refine T2_suc (fun n => by rw [x_write]) (fun n => by rw [x_write]) ?_
    rw [a8, b8, e1, e2]
    refine T2_chk (n_in (by omega) (by omega)) (n_in (by omega) (by omega)) ?_
    rw [n_cl (p := ch (i + 1)) (by omega), (tb τ1 τ2 f1 f2 4 _ (by omega) (by omega) (by omega)).1, (tb τ1 τ2 f1 f2 4 _ (by omega) (by omega) (by omega)).2]
    refine T2_ite Iff.rfl (fun z _ => absurd z (Tgt_7 h (by omega) hi)) (fun _ _ => ?_)
    refine T2_ite Iff.rfl (fun _ _ => ?_) (fun z _ => absurd rfl z)
    refine T2_chk (n_in3 (by omega) (by omega)) (n_in3 (by omega) (by omega)) ?_
    refine T2_ob (T2_t (s_keysP h (by omega) rfl) (s_keysP h (by omega) rfl)) (fun y z hy => ?_)
    rw [hy.1, hy.2]
    have ek5 : nI (u + kys T ch (i + 1)) - nI (if T 4 (ch (i + 1)) = 22 then 2 else 1) = nI (u + kys T ch i) := by
      rw [n_sub (by omega) (by omega), show u + kys T ch (i + 1) - (if T 4 (ch (i + 1)) = 22 then 2 else 1) = u + kys T ch i by omega]
    rw [a5, b5, a6, b6, a7, b7]
    refine T2_ob (E_swP (by omega) (by omega) hJ) (fun r1 r2 hr => ?_)
    obtain ⟨hr, pk4⟩ := hr
    obtain ⟨k1, k2, g1, l1, B1, h1, X1, g2, l2, B2, h2, X2, hX', rm1, rm2⟩ := hr
    have ff1 := FE_tr f1 k1
    have ff2 := FE_tr f2 k2
    have fv := five r1.2 r2.2 g1 l1 B1 h1 X1 g2 l2 B2 h2 X2 ff1 ff2 (PK_tr pk (PK_mo (by omega) pk4)) hX'
    have hX0 := hX'
    obtain ⟨m1, m2, aR, _, _, t1, o1, o2, _⟩ := hX'
    have t2 : r2.2.1 59 = nI (TP + 1) := (aR.2.2.1 59 (by unfold AlS; omega)).symm.trans t1
    refine T2_chk (n_in (by omega) (by omega)) (n_in (by omega) (by omega)) ?_
    refine T2_chk (n_in3 (by omega) (by omega)) (n_in3 (by omega) (by omega)) ?_
    rw [(tb _ _ ff1 ff2 4 _ (by omega) (by omega) (by omega)).1, (tb _ _ ff1 ff2 4 _ (by omega) (by omega) (by omega)).2]
    have P1 : VP g1 l1 B1 h1 (TP + 1) r1.2 := ⟨m1.1, t1, by omega, ⟨0, o1, by decide⟩⟩
    have P2 : VP g2 l2 B2 h2 (TP + 1) r2.2 := ⟨m2.1, t2, by omega, ⟨0, o2, by decide⟩⟩
    obtain ⟨va, vb, va1, va2, va3, va4, va5, va6, va7⟩ := aR.1 29 (TP + i - k) (Or.inl ⟨rfl, by omega⟩) (by unfold VwR; omega)
    obtain ⟨vc, vd, vc1, vc2, vc3, vc4, vc5, vc6, vc7⟩ := aR.1 29 (u + kys T ch i) (Or.inl ⟨rfl, by omega⟩) (by unfold VwR; omega)
    obtain ⟨vx, vy, vx1, vx2, vx3, vx4, vx5, vx6, vx7⟩ := aR.1 29 TP (Or.inl ⟨rfl, by omega⟩) (by unfold VwR; omega)
    have em : nI (TP + i - k + 1) + (-1) = nI (TP + i - k) := n_am1 (by omega)
    show T2 (fun n => if T 4 (ch (i + 1)) = 21 then (if ¬ (nI (TP + i - k + 1) + (-1) < 0 ∨ 185000 ≤ (nI (TP + i - k + 1) + (-1)).toNatClampNeg) then (if ¬ (nI (u + kys T ch (i + 1)) - nI (if T 4 (ch (i + 1)) = 22 then 2 else 1) < 0 ∨ 185000 ≤ (nI (u + kys T ch (i + 1)) - nI (if T 4 (ch (i + 1)) = 22 then 2 else 1)).toNatClampNeg) then _ else _) else _) else _) (fun n => if T 4 (ch (i + 1)) = 21 then (if ¬ (nI (TP + i - k + 1) + (-1) < 0 ∨ 185000 ≤ (nI (TP + i - k + 1) + (-1)).toNatClampNeg) then (if ¬ (nI (u + kys T ch (i + 1)) - nI (if T 4 (ch (i + 1)) = 22 then 2 else 1) < 0 ∨ 185000 ≤ (nI (u + kys T ch (i + 1)) - nI (if T 4 (ch (i + 1)) = 22 then 2 else 1)).toNatClampNeg) then _ else _) else _) else _) _
    rw [em, ek5, n_cl (p := TP) (by omega), n_cl (p := TP + i - k) (by omega), n_cl (p := u + kys T ch i) (by omega), va1, va3, vc1, vc3, vx1, vx3]
    refine T2_ite Iff.rfl (fun _ _ => ?_) (fun n21 _ => ?_)
    · refine T2_chk (n_in3 (by omega) (by omega)) (n_in3 (by omega) (by omega)) ?_
      refine T2_chk (n_in3 (by omega) (by omega)) (n_in3 (by omega) (by omega)) ?_
      refine T2_ob (E_opq (by omega) hX0 (s_putAt P1 va2 vc2 vx2 rfl rfl rfl) (s_putAt P2 va4 vc4 vx4 rfl rfl rfl) (fun n => k_putAt m1.1 m2.1 o1 o2 t1 t2 (by omega) (by omega) (by omega) va2 va4 va5 vc2 vc4 vc5 vx2 vx4 vx5 rfl rfl rfl rfl rfl rfl (fun j hj => ?_)) (fun k => wl_putAt k _ _ _) (fun k => wl_putAt k _ _ _) (c := 8600) (by omega)) (fun s1 s2 hs => fv s1 s2 _ _ rfl rfl rfl rfl a4 b4 rfl rfl rfl rfl a7 b7 a8 b8 hs)
      rw [upd_other (by omega), upd_other (by omega), upd_other (by omega), upd_other (by omega), upd_other (by omega), upd_other (by omega)]
    have three : ∀ (O1 O2 : Nat → Int32), O1 101 = nI TP → O2 101 = nI TP → O1 4 = nI t → O2 4 = nI t → O1 5 = nI (u + kys T ch i) → O2 5 = nI (u + kys T ch i) → O1 6 = nI (TP + i - k) → O2 6 = nI (TP + i - k) → O1 7 = nI TP → O2 7 = nI TP → O1 8 = nI (ch (i + 1)) → O2 8 = nI (ch (i + 1)) → O1 9 = nI vx → O2 9 = nI vy → T2 (fun n => x_write n 3 O1 r1.2) (fun n => x_write n 3 O2 r2.2) (fun r1 r2 => SQ 179300 t w XC σ1 σ2 r1.2 r2.2 ∧ (r1.2.1 56 = 0 → PKp t σ1 r1.2)) := by
      intro O1 O2 o101 p101 o4 p4 o5 p5 o6 p6 o7 p7 o8 p8 o9 p9
      refine T2_suc (fun n => by rw [x_write]) (fun n => by rw [x_write]) ?_
      rw [o8, p8, o5, p5, o6, p6, o9, p9, o101, p101]
      refine T2_chk (n_in (by omega) (by omega)) (n_in (by omega) (by omega)) ?_
      rw [n_cl (p := ch (i + 1)) (by omega), (tb _ _ ff1 ff2 4 _ (by omega) (by omega) (by omega)).1, (tb _ _ ff1 ff2 4 _ (by omega) (by omega) (by omega)).2]
      refine T2_ite Iff.rfl (fun _ _ => ?_) (fun n23 _ => ?_)
      · refine T2_chk (n_in (by omega) (by omega)) (n_in (by omega) (by omega)) ?_
        refine T2_chk (n_in (by omega) (by omega)) (n_in (by omega) (by omega)) ?_
        rw [n_cl (p := TP + i - k) (by omega), n_cl (p := u + kys T ch i) (by omega), va1, va3, vc1, vc3]
        exact T2_ob (E_opq (by omega) hX0 (s_putImage P1 va2 vc2 vx2 rfl rfl rfl) (s_putImage P2 va4 vc4 vx4 rfl rfl rfl) (fun n => k_putImage m1.1 m2.1 o1 o2 t1 t2 (by omega) (by omega) (by omega) va2 va4 va5 vc2 vc4 vc5 vx2 vx4 vx5 rfl rfl rfl rfl rfl rfl) (fun k => wl_putImage k _ _ _) (fun k => wl_putImage k _ _ _) (c := 8600) (by omega)) (fun s1 s2 hs => fv s1 s2 _ _ rfl rfl rfl rfl o4 p4 o5 p5 o6 p6 o7 p7 o8 p8 hs)
      · have y22 : T 4 (ch (i + 1)) = 22 := by
          rcases c4 with z | z | z
          · exact absurd z n21
          · exact z
          · exact absurd z n23
        rw [if_pos y22] at ek
        refine T2_suc (fun n => by rw [x_write]) (fun n => by rw [x_write]) ?_
        have q5 : (upd O1 101 (nI TP)) 5 = nI (u + kys T ch i) := o5
        have r5 : (upd O2 101 (nI TP)) 5 = nI (u + kys T ch i) := p5
        have q6 : (upd O1 101 (nI TP)) 6 = nI (TP + i - k) := o6
        have r6 : (upd O2 101 (nI TP)) 6 = nI (TP + i - k) := p6
        have q9 : (upd O1 101 (nI TP)) 9 = nI vx := o9
        have r9 : (upd O2 101 (nI TP)) 9 = nI vy := p9
        rw [q5, r5, q6, r6, q9, r9, n_add1]
        refine T2_chk (n_in (by omega) (by omega)) (n_in (by omega) (by omega)) ?_
        refine T2_chk (n_in (by omega) (by omega)) (n_in (by omega) (by omega)) ?_
        refine T2_chk (n_in (by omega) (by omega)) (n_in (by omega) (by omega)) ?_
        obtain ⟨ve, vf, ve1, ve2, ve3, ve4, ve5, ve6, ve7⟩ := aR.1 29 (u + kys T ch i + 1) (Or.inl ⟨rfl, by omega⟩) (by unfold VwR; omega)
        rw [n_cl (p := TP + i - k) (by omega), n_cl (p := u + kys T ch i) (by omega), n_cl (p := u + kys T ch i + 1) (by omega), va1, va3, vc1, vc3, ve1, ve3]
        exact T2_ob (E_op hX0 (s_putSlice P1 va2 vc2 ve2 vx2 rfl rfl rfl rfl) (s_putSlice P2 va4 vc4 ve4 vx4 rfl rfl rfl rfl) (fun n => k_putSlice m1.1 m2.1 o1 o2 t1 t2 (by omega) (by omega) (by omega) va2 va4 va5 vc2 vc4 vc5 ve2 ve4 ve5 vx2 vx4 vx5 rfl rfl rfl rfl rfl rfl rfl rfl) (fun k => wl_putSlice k _ _ _) (fun k => wl_putSlice k _ _ _) (c := 8600) (by omega)) (fun s1 s2 hs => fv s1 s2 _ _ rfl rfl rfl rfl o4 p4 o5 p5 o6 p6 o7 p7 o8 p8 hs)
    exact three _ _ rfl rfl a4 b4 rfl rfl rfl rfl a7 b7 a8 b8 rfl rfl
/-- a target is written -/
theorem E_writeP (hX : XC ≤ 402000) (h : Tgt T FN lc k ch) (hn : NmW T lc cn (ch 0) s) (ht : t + k ≤ 120000 ∧ t ≤ 90000) (hu : u + kys T ch k ≤ t) (hp : p < t) (hS : Sc1 T FN lc cn σ1) (hI : EI t w XC σ1 σ2) (U1 : UT σ1) (U2 : UT σ2) {L1 L2 : Nat → Int32} (d1 : L1 1 = nI (ch k)) (d2 : L2 1 = nI (ch k)) (u1 : L1 2 = nI u) (u2 : L2 2 = nI u) (q1 : L1 3 = nI p) (q2 : L2 3 = nI p) : T2 (fun n => x_write n 0 L1 σ1) (fun n => x_write n 0 L2 σ2) (fun r1 r2 => SQ 179301 t w XC σ1 σ2 r1.2 r2.2 ∧ (r1.2.1 56 = 0 → PKp t σ1 r1.2)) := by
  have hS2 := Sc1_ei hS hI
  have bk := h.1 k (Nat.le_refl _)
  have tb : ∀ (τ1 τ2 : MS), FE σ1 τ1 → FE σ2 τ2 → ∀ a i, 4 ≤ a → a ≤ 9 → (1 ≤ i ∧ i < LNo T % 70001) → τ1.2.2 a i = T a i ∧ τ2.2.2 a i = T a i := fun τ1 τ2 f1 f2 a i h1 h2 h3 => ⟨(STb_fe hS.1.1 f1).1 a i h1 (by omega) ⟨fun _ => h3, fun z => by omega⟩, (STb_fe hS2.1.1 f2).1 a i h1 (by omega) ⟨fun _ => h3, fun z => by omega⟩⟩
  obtain ⟨e1, e2⟩ := EI_e hI
  obtain ⟨t1, t2⟩ := EI_59 hI
  refine T2_suc (fun n => by rw [x_write]) (fun n => by rw [x_write]) ?_
  rw [e1, e2]
  refine T2_ite Iff.rfl (fun _ _ => ?_) (fun z _ => absurd (by decide) z)
  refine T2_suc (fun n => by rw [x_write]) (fun n => by rw [x_write]) ?_
  refine T2_ob (E_readPartsP (fl := 0) hX h ht hu hS.1 hI d1 d2 u1 u2 rfl rfl) (fun r1 r2 hr => ?_)
  obtain ⟨⟨f1, f2, hr⟩, pk⟩ := hr
  rw [if_pos rfl] at hr
  have r4 : ∀ i, (1 ≤ i ∧ i < LNo T % 70001) → _ := fun i hi => tb _ _ f1 f2 4 i (by omega) (by omega) hi
  have r6 : ∀ i, (1 ≤ i ∧ i < LNo T % 70001) → _ := fun i hi => tb _ _ f1 f2 6 i (by omega) (by omega) hi
  refine T2_ob (T2_t (s_keysIn h (fun i hi => (r4 i hi).1) (fun i hi => (r6 i hi).1) (by omega) d1) (s_keysIn h (fun i hi => (r4 i hi).2) (fun i hi => (r6 i hi).2) (by omega) d2)) (fun y z hy => ?_)
  rw [hy.1, hy.2, q1, q2, t1, t2, u1, u2, d1, d2]
  refine T2_chk (n_in (by omega) (by omega)) (n_in (by omega) (by omega)) ?_
  rw [n_cl (p := p) (by omega)]
  show T2 (fun n => ob (x_push n 0 (upd (fun _ => 0) 1 (r1.2.2.2 29 p)) r1.2) (fun r4 => x_write n 2 (upd (upd (upd (upd (upd L1 4 (nI t)) 5 (nI u + nI (kys T ch k))) 6 (r1.2.1 59)) 7 (r1.2.1 59)) 8 (nI (ch k))) r4.2)) (fun n => ob (x_push n 0 (upd (fun _ => 0) 1 (r2.2.2.2 29 p)) r2.2) (fun r4 => x_write n 2 (upd (upd (upd (upd (upd L2 4 (nI t)) 5 (nI u + nI (kys T ch k))) 6 (r2.2.1 59)) 7 (r2.2.1 59)) 8 (nI (ch k))) r4.2)) _
  rw [n_add (p := u) (by omega)]
  rcases hr with ⟨w2, hw2, hJ⟩ | ⟨z1, z2⟩
  · obtain ⟨s1, s2⟩ := EI_59 hJ
    rw [s1, s2]
    refine T2_ob (T2_and (E_prt (a := 29) (i := p) hJ (by omega) (Or.inl ⟨rfl, by omega⟩) (by unfold VwR; omega) rfl rfl) (T2_t (s_push s1 (by omega) _) (s_push s2 (by omega) _))) (fun v1 v2 hv => ?_)
    obtain ⟨⟨k1, k2, hv⟩, hs1, _⟩ := hv
    have pk0 : PKp t σ1 v1.2 := by rw [hs1]; exact PK_tr (pk (EI_e hJ).1) (PK_pu (by omega))
    refine T2_mono (w_lp (TP := t + 1 + (k - 1)) (w := w) hX h hn hS hS2 U1 U2 (by omega) hu k (Nat.le_refl _) w2 v1.2 v2.2 _ _ (by omega) (FE_tr f1 k1) (FE_tr f2 k2) pk0 hv rfl rfl rfl rfl (by rw [Nat.add_sub_cancel]; rfl) (by rw [Nat.add_sub_cancel]; rfl) rfl rfl rfl rfl) (fun x1 x2 hx => ?_)
    obtain ⟨⟨y1, y2, y3, y4, y5⟩, pk1⟩ := hx
    exact ⟨⟨y1, y2, y3, y4, y5.imp id (fun z => ⟨EZ_mo z.1 (Nat.le_refl _) (by omega), EZ_mo z.2 (Nat.le_refl _) (by omega)⟩)⟩, pk1⟩
  · have pz : ∀ (τ : MS), EZ t 179300 τ → Tm (fun n => x_push n 0 (upd (fun _ => 0) 1 (τ.2.2 29 p)) τ) (fun r => FE τ r.2 ∧ EZ t 179301 r.2) := fun τ hz => by
      obtain ⟨g, l, B, h', t', mm, c1, c2, c3, c4, c5, c6, c7⟩ := hz
      refine Tm_mono (s_push c1 (by omega) _) (fun r hr => ?_)
      rw [hr]
      exact ⟨FE_pu, EZ_pu mm c1 c2 (by omega) c4 c5 c6 c7 (mm.2.2.1 29 p (Or.inl ⟨rfl, by omega⟩))⟩
    refine T2_ob (T2_t (pz _ z1) (pz _ z2)) (fun v1 v2 hv => ?_)
    obtain ⟨⟨k1, y1⟩, ⟨k2, y2⟩⟩ := hv
    refine T2_mono (T2_t (w_z bk (EZ_e y1) rfl rfl) (w_z bk (EZ_e y2) rfl rfl)) (fun x1 x2 hx => ?_)
    rw [hx.1, hx.2]
    exact ⟨SQ_z (FE_tr f1 k1) (FE_tr f2 k2) U1 U2 (Nat.le_refl _) (by omega) y1 y2, fun z => absurd (show v1.2.1 56 = 0 from z) (EZ_e y1)⟩
theorem E_write (hX : XC ≤ 402000) (h : Tgt T FN lc k ch) (hn : NmW T lc cn (ch 0) s) (ht : t + k ≤ 120000 ∧ t ≤ 90000) (hu : u + kys T ch k ≤ t) (hp : p < t) (hS : Sc1 T FN lc cn σ1) (hI : EI t w XC σ1 σ2) (U1 : UT σ1) (U2 : UT σ2) {L1 L2 : Nat → Int32} (d1 : L1 1 = nI (ch k)) (d2 : L2 1 = nI (ch k)) (u1 : L1 2 = nI u) (u2 : L2 2 = nI u) (q1 : L1 3 = nI p) (q2 : L2 3 = nI p) : T2 (fun n => x_write n 0 L1 σ1) (fun n => x_write n 0 L2 σ2) (fun r1 r2 => SQ 179301 t w XC σ1 σ2 r1.2 r2.2) := T2_mono (E_writeP hX h hn ht hu hp hS hI U1 U2 d1 d2 u1 u2 q1 q2) (fun r1 r2 hr => hr.1)
end WRT
end JnS235
section JnS236
/-! Statements on both sides (reference): places are moved; the tree of statements, paths, loops that are open. -/
/-- what is not in use stays so: counts no larger -/
theorem InA_n30 {σ τ : MS} {j : Nat} (h : ∀ k, k = 1 ∨ k = 2 ∨ k = 3 → (τ.2.2 30 k).toNatClampNeg ≤ (σ.2.2 30 k).toNatClampNeg) (y : InA σ 30 j) : InA τ 30 j := by
  have h1 := h 1 (by omega)
  have h2 := h 2 (by omega)
  have h3 := h 3 (by omega)
  unfold InA at y ⊢
  rcases y with y | y
  · refine Or.inl ⟨rfl, ?_⟩
    have y := y.2
    unfold IaN at y ⊢
    rw [Nat.zero_add, Nat.zero_add, Nat.zero_add] at y ⊢
    omega
  · omega
theorem InA_31 {σ τ : MS} {j : Nat} (h63 : τ.1 63 = σ.1 63) (h31 : τ.2.2 31 = σ.2.2 31) (y : InA σ 31 j) : InA τ 31 j := by
  unfold InA at y ⊢
  rw [h63, h31]
  rcases y with y | y | y
  · omega
  · exact Or.inr (Or.inl y)
  · omega
theorem InA_32 {σ τ : MS} {j : Nat} (h63 : τ.1 63 = σ.1 63) (y : InA σ 32 j) : InA τ 32 j := by
  unfold InA at y ⊢
  rw [h63]
  rcases y with y | y | y
  · omega
  · omega
  · exact Or.inr (Or.inr (by omega))
section EMV
variable {t u w XC : Nat} {σ1 σ2 τ1 τ2 : MS}
/-- rows of the run are others: what lies at a place lay at a place before, or is om -/
theorem EIx_mv {g1 g2 : Nat → Prop} {l1' l2' : List Nat} {B1 h1 X1 B2 h2 X2 : Nat} (hE : EIx t w XC σ1 σ2 g1 l1' B1 h1 X1 g2 l2' B2 h2 X2) (s1 : ∀ j, j = 54 ∨ j = 55 ∨ j = 56 ∨ j = 57 ∨ j = 72 ∨ j = 95 ∨ j = 22 ∨ j = 24 ∨ j = 30 ∨ j = 44 → τ1.1 j = σ1.1 j) (s2 : ∀ j, j = 54 ∨ j = 55 ∨ j = 56 ∨ j = 57 ∨ j = 72 ∨ j = 95 ∨ j = 22 ∨ j = 24 ∨ j = 30 ∨ j = 44 → τ2.1 j = σ2.1 j) (l1 : τ1.2.1 = σ1.2.1) (l2 : τ2.2.1 = σ2.2.1) (r1 : ∀ a, a ≠ 29 → a ≠ 30 → a ≠ 31 → a ≠ 32 → a ≠ 33 → τ1.2.2 a = σ1.2.2 a) (r2 : ∀ a, a ≠ 29 → a ≠ 30 → a ≠ 31 → a ≠ 32 → a ≠ 33 → τ2.2.2 a = σ2.2.2 a) (u1 : τ1.1 59 = nI u) (q1 : RtQ τ1) (al30 : ∀ i, ¬ Zn 30 i → ¬ InA τ1 30 i → τ1.2.2 30 i = τ2.2.2 30 i) (al31 : ∀ i, ¬ Zn 31 i → ¬ InA τ1 31 i → τ1.2.2 31 i = τ2.2.2 31 i) (al32 : ∀ i, ¬ InA τ1 32 i → τ1.2.2 32 i = τ2.2.2 32 i) (als : ∀ j, AlS j → τ1.1 j = τ2.1 j) (hp : ∀ a i, a = 29 ∨ a = 30 ∨ a = 31 ∨ a = 33 → RtP u τ1 a i → (∃ a' i', ¬ VwR a' ∧ RtP t σ1 a' i' ∧ τ1.2.2 a i = σ1.2.2 a' i' ∧ τ2.2.2 a i = σ2.2.2 a' i') ∨ (τ1.2.2 a i = 0 ∧ τ2.2.2 a i = 0)) : EIx u w XC τ1 τ2 g1 l1' B1 h1 X1 g2 l2' B2 h2 X2 := by
  obtain ⟨m1, m2, hR, i1, i2, t1, e1, e2, w1, hw, x1, x2, ⟨ty1, ty2⟩, a, a1, a2⟩ := hE
  have rr := RA_rt m1.2.1 hR
  have b63 : τ2.1 63 = τ1.1 63 := (als 63 (by unfold AlS; omega)).symm
  have b72 : τ2.1 72 = τ1.1 72 := (als 72 (by unfold AlS; omega)).symm
  have c1 : τ2.2.2 30 1 = τ1.2.2 30 1 := (al30 1 (by unfold Zn; omega) (InA_4 (by omega))).symm
  have c3 : τ2.2.2 30 3 = τ1.2.2 30 3 := (al30 3 (by unfold Zn; omega) (InA_4 (by omega))).symm
  have d1 : ∀ p, p < (τ1.1 63).toNatClampNeg → τ2.2.2 31 (11514 * p + 1) = τ1.2.2 31 (11514 * p + 1) := fun p hp => (al31 _ (by unfold Zn; omega) (InA_p hp (by omega))).symm
  have d3 : ∀ p, p < (τ1.1 63).toNatClampNeg → τ2.2.2 31 (11514 * p + 3) = τ1.2.2 31 (11514 * p + 3) := fun p hp => (al31 _ (by unfold Zn; omega) (InA_p hp (by omega))).symm
  have q2 : RtQ τ2 := by
    obtain ⟨P, e, y1, y2, y3, y4, ⟨c, n, z1, z2, z3, z4⟩, y6⟩ := q1
    refine ⟨P, e, b63.trans y1, y2, b72.trans y3, y4, ⟨c, n, c1.trans z1, z2, c3.trans z3, z4⟩, fun p hp => ?_⟩
    obtain ⟨c, n, z1, z2, z3, z4⟩ := y6 p hp
    have hp' : p < (τ1.1 63).toNatClampNeg := by rw [y1, n_cl (p := P) (by omega)]; exact hp
    exact ⟨c, n, (d1 p hp').trans z1, z2, (d3 p hp').trans z3, z4⟩
  have rc : ∀ x i, RtP u τ2 x i → RtP u τ1 x i := fun x i z => by
    unfold RtP at z ⊢
    rw [b63, b72] at z
    rcases z with z | ⟨z, y⟩ | ⟨z, p, hp, y⟩ | z | z | z | z | z | z
    · exact Or.inl z
    · refine Or.inr (Or.inl ⟨z, ?_⟩)
      unfold StI at y ⊢
      rw [show (0 + 1) = 1 from rfl, show (0 + 3) = 3 from rfl, c1, c3] at y
      exact y
    · refine Or.inr (Or.inr (Or.inl ⟨z, p, hp, ?_⟩))
      unfold StI at y ⊢
      rw [d1 p hp, d3 p hp] at y
      exact y
    · exact Or.inr (Or.inr (Or.inr (Or.inl z)))
    · exact Or.inr (Or.inr (Or.inr (Or.inr (Or.inl z))))
    · exact Or.inr (Or.inr (Or.inr (Or.inr (Or.inr (Or.inl z)))))
    · exact Or.inr (Or.inr (Or.inr (Or.inr (Or.inr (Or.inr (Or.inl z))))))
    · exact Or.inr (Or.inr (Or.inr (Or.inr (Or.inr (Or.inr (Or.inr (Or.inl z)))))))
    · exact Or.inr (Or.inr (Or.inr (Or.inr (Or.inr (Or.inr (Or.inr (Or.inr z)))))))
  have oth : ∀ x i, ¬ (x = 29 ∨ x = 30 ∨ x = 31 ∨ x = 33) → RtP u τ1 x i → RtP t σ1 x i ∧ x ≠ 32 := fun x i hx z => by
    unfold RtP at z ⊢
    rw [s1 72 (by omega)] at z
    rcases z with z | ⟨z, y⟩ | ⟨z, p, hp, y⟩ | z | z | z | z | z | z
    · exact absurd (Or.inl z.1) hx
    · exact absurd (Or.inr (Or.inl z)) hx
    · exact absurd (Or.inr (Or.inr (Or.inl z))) hx
    · exact absurd (Or.inr (Or.inr (Or.inr z.1))) hx
    · exact ⟨Or.inr (Or.inr (Or.inr (Or.inr (Or.inl z)))), by have := z.1; omega⟩
    · exact ⟨Or.inr (Or.inr (Or.inr (Or.inr (Or.inr (Or.inl z))))), by have := z.1; omega⟩
    · exact ⟨Or.inr (Or.inr (Or.inr (Or.inr (Or.inr (Or.inr (Or.inl z)))))), by have := z.1; omega⟩
    · exact ⟨Or.inr (Or.inr (Or.inr (Or.inr (Or.inr (Or.inr (Or.inr (Or.inl z))))))), by have := z.1; omega⟩
    · exact ⟨Or.inr (Or.inr (Or.inr (Or.inr (Or.inr (Or.inr (Or.inr (Or.inr z))))))), by have := z.1; omega⟩
  have n1 : MI u X1 g1 l1' B1 h1 τ1 := MI_re m1 (s1 54 (by omega)) (s1 55 (by omega)) (r1 28 (by decide) (by decide) (by decide) (by decide) (by decide)) q1 (fun x i z => by
    by_cases e : x = 29 ∨ x = 30 ∨ x = 31 ∨ x = 33
    · rcases hp x i e z with ⟨a', i', j0, j1, j2, j3⟩ | ⟨j2, j3⟩
      · rw [j2]; exact MI_rt m1 j1
      · exact ⟨0, j2, Or.inl (by decide)⟩
    · obtain ⟨o1, o2⟩ := oth x i e z
      rw [r1 x (by omega) (by omega) (by omega) o2 (by omega)]; exact MI_rt m1 o1)
  have n2 : MI u X2 g2 l2' B2 h2 τ2 := MI_re m2 (s2 54 (by omega)) (s2 55 (by omega)) (r2 28 (by decide) (by decide) (by decide) (by decide) (by decide)) q2 (fun x i z => by
    have z := rc x i z
    by_cases e : x = 29 ∨ x = 30 ∨ x = 31 ∨ x = 33
    · rcases hp x i e z with ⟨a', i', j0, j1, j2, j3⟩ | ⟨j2, j3⟩
      · rw [j3]; exact MI_rt m2 ((rr t a' i').mpr j1)
      · exact ⟨0, j3, Or.inl (by decide)⟩
    · obtain ⟨o1, o2⟩ := oth x i e z
      rw [r2 x (by omega) (by omega) (by omega) o2 (by omega)]; exact MI_rt m2 ((rr t x i).mpr o1))
  refine ⟨n1, n2, ⟨fun x i z hv => ?_, fun x i hx hz hn => ?_, als, ?_⟩, IT_c (s1 72 (by omega)) (r1 34 (by decide) (by decide) (by decide) (by decide) (by decide)) (r1 35 (by decide) (by decide) (by decide) (by decide) (by decide)) (r1 28 (by decide) (by decide) (by decide) (by decide) (by decide)) i1, IT_c (s2 72 (by omega)) (r2 34 (by decide) (by decide) (by decide) (by decide) (by decide)) (r2 35 (by decide) (by decide) (by decide) (by decide) (by decide)) (r2 28 (by decide) (by decide) (by decide) (by decide) (by decide)) i2, u1, (s1 56 (by omega)).trans e1, (s2 56 (by omega)).trans e2, (s1 57 (by omega)).trans w1, hw, x1, x2, ⟨by rw [r1 2 (by decide) (by decide) (by decide) (by decide) (by decide)]; exact ty1, by rw [r1 2 (by decide) (by decide) (by decide) (by decide) (by decide), r2 2 (by decide) (by decide) (by decide) (by decide) (by decide)]; exact ty2⟩, a, (s1 95 (by omega)).trans a1, a2⟩
  · rw [r1 28 (by decide) (by decide) (by decide) (by decide) (by decide), r2 28 (by decide) (by decide) (by decide) (by decide) (by decide)]
    by_cases e : x = 29 ∨ x = 30 ∨ x = 31 ∨ x = 33
    · rcases hp x i e z with ⟨a', i', j0, j1, j2, j3⟩ | ⟨j2, j3⟩
      · rw [j2, j3]; exact hR.1 a' i' j1 j0
      · rw [j2, j3]; exact VC_00
    · obtain ⟨o1, o2⟩ := oth x i e z
      rw [r1 x (by omega) (by omega) (by omega) o2 (by omega), r2 x (by omega) (by omega) (by omega) o2 (by omega)]; exact hR.1 x i o1 hv
  · by_cases e30 : x = 30
    · rw [e30] at hz hn ⊢; exact al30 i hz hn
    by_cases e31 : x = 31
    · rw [e31] at hz hn ⊢; exact al31 i hz hn
    by_cases e32 : x = 32
    · rw [e32] at hn ⊢; exact al32 i hn
    by_cases e33 : x = 33
    · exact absurd (Or.inl e33) hz
    have e : x ≠ 29 := by unfold AlR at hx; omega
    rw [r1 x e e30 e31 e32 e33, r2 x e e30 e31 e32 e33]
    refine hR.2.1 x i hx hz (fun y => hn ?_)
    unfold InA at y ⊢
    rw [s1 72 (by omega), s1 22 (by omega), s1 24 (by omega), s1 30 (by omega), s1 44 (by omega), r1 21 (by omega) (by omega) (by omega) (by omega) (by omega)]
    rcases y with y | y | y | y
    · exact absurd y.1 e30
    · exact absurd y.1 e31
    · exact absurd y.1 e32
    · exact Or.inr (Or.inr (Or.inr y))
  · rw [l1, l2]; exact hR.2.2.2
theorem EI_mv (hE : EI t w XC σ1 σ2) (s1 : ∀ j, j = 54 ∨ j = 55 ∨ j = 56 ∨ j = 57 ∨ j = 72 ∨ j = 95 ∨ j = 22 ∨ j = 24 ∨ j = 30 ∨ j = 44 → τ1.1 j = σ1.1 j) (s2 : ∀ j, j = 54 ∨ j = 55 ∨ j = 56 ∨ j = 57 ∨ j = 72 ∨ j = 95 ∨ j = 22 ∨ j = 24 ∨ j = 30 ∨ j = 44 → τ2.1 j = σ2.1 j) (l1 : τ1.2.1 = σ1.2.1) (l2 : τ2.2.1 = σ2.2.1) (r1 : ∀ a, a ≠ 29 → a ≠ 30 → a ≠ 31 → a ≠ 32 → a ≠ 33 → τ1.2.2 a = σ1.2.2 a) (r2 : ∀ a, a ≠ 29 → a ≠ 30 → a ≠ 31 → a ≠ 32 → a ≠ 33 → τ2.2.2 a = σ2.2.2 a) (u1 : τ1.1 59 = nI u) (q1 : RtQ τ1) (al30 : ∀ i, ¬ Zn 30 i → ¬ InA τ1 30 i → τ1.2.2 30 i = τ2.2.2 30 i) (al31 : ∀ i, ¬ Zn 31 i → ¬ InA τ1 31 i → τ1.2.2 31 i = τ2.2.2 31 i) (al32 : ∀ i, ¬ InA τ1 32 i → τ1.2.2 32 i = τ2.2.2 32 i) (als : ∀ j, AlS j → τ1.1 j = τ2.1 j) (hp : ∀ a i, a = 29 ∨ a = 30 ∨ a = 31 ∨ a = 33 → RtP u τ1 a i → (∃ a' i', ¬ VwR a' ∧ RtP t σ1 a' i' ∧ τ1.2.2 a i = σ1.2.2 a' i' ∧ τ2.2.2 a i = σ2.2.2 a' i') ∨ (τ1.2.2 a i = 0 ∧ τ2.2.2 a i = 0)) : EI u w XC τ1 τ2 := by
  obtain ⟨g1, l1', B1, h1, X1, g2, l2', B2, h2, X2, hE⟩ := hE
  exact ⟨g1, l1', B1, h1, X1, g2, l2', B2, h2, X2, EIx_mv hE s1 s2 l1 l2 r1 r2 u1 q1 al30 al31 al32 als hp⟩
/-- a number of the state is written (no place for a value, not how many calls or iterators) -/
theorem EIx_n30 {g1 g2 : Nat → Prop} {l1' l2' : List Nat} {B1 h1 X1 B2 h2 X2 : Nat} {i : Nat} {x : Int32} (hi : ¬ Zn 30 i ∧ i ≠ 1 ∧ i ≠ 3) (hal : ∀ j, j ≠ i → ¬ Zn 30 j → ¬ InA (mAr σ1 30 i x) 30 j → σ1.2.2 30 j = σ2.2.2 30 j) (hE : EIx t w XC σ1 σ2 g1 l1' B1 h1 X1 g2 l2' B2 h2 X2) : EIx t w XC (mAr σ1 30 i x) (mAr σ2 30 i x) g1 l1' B1 h1 X1 g2 l2' B2 h2 X2 := by
  have hE0 := hE
  obtain ⟨m1, m2, hR, _, _, t1, _⟩ := hE0
  have o : ∀ (σ : MS) j, j ≠ i → (mAr σ 30 i x).2.2 30 j = σ.2.2 30 j := fun σ j hj => by rw [mAr_s, upd_other hj]
  have rb : ∀ (σ : MS) a j, RtP t (mAr σ 30 i x) a j ↔ RtP t σ a j := fun σ a j => RtP_b (σ := σ) (τ := mAr σ 30 i x) rfl rfl (o σ 1 (fun e => hi.2.1 e.symm)) (o σ 3 (fun e => hi.2.2 e.symm)) (mAr_o (by decide)) a j
  refine EIx_mv hE (fun _ _ => rfl) (fun _ _ => rfl) rfl rfl (fun a _ h _ _ _ => mAr_o h) (fun a _ h _ _ _ => mAr_o h) t1 (RtQ_b (σ := σ1) (τ := mAr σ1 30 i x) rfl rfl (o _ 1 (fun e => hi.2.1 e.symm)) (o _ 3 (fun e => hi.2.2 e.symm)) (mAr_o (by decide)) m1.2.1) (fun j hj hn => ?_) (fun j hj hn => ?_) (fun j hn => ?_) hR.2.2.1 (fun a j ha z => ?_)
  · rw [mAr_s, mAr_s]
    by_cases e : j = i
    · rw [e, upd_same, upd_same]
    · rw [upd_other e, upd_other e]; exact hal j e hj hn
  · rw [mAr_o (by decide), mAr_o (by decide)]; exact hR.2.1 31 j (by unfold AlR; omega) hj (fun y => hn (InA_31 (σ := σ1) rfl (mAr_o (by decide)) y))
  · rw [mAr_o (by decide), mAr_o (by decide)]; exact hR.2.1 32 j (by unfold AlR; omega) (by unfold Zn; omega) (fun y => hn (InA_32 (σ := σ1) rfl y))
  · have z := (rb σ1 a j).mp z
    refine Or.inl ⟨a, j, by unfold VwR; omega, z, ?_, ?_⟩
    · by_cases e : a = 30
      · subst e
        rw [o _ j (fun e => hi.1 (e ▸ Zn_rt m1.2.1 z (by unfold AlR; omega)))]
      · rw [mAr_o e]
    · by_cases e : a = 30
      · subst e
        rw [o _ j (fun e => hi.1 (e ▸ Zn_rt m1.2.1 z (by unfold AlR; omega)))]
      · rw [mAr_o e]
theorem InA_w {i : Nat} {x : Int32} (hi : i ≠ 1 ∧ i ≠ 3 ∧ i ≠ 2) (a j : Nat) : InA (mAr σ1 30 i x) a j ↔ InA σ1 a j := by
  refine InA_c (σ := σ1) (ρ := mAr σ1 30 i x) rfl rfl rfl rfl rfl rfl (fun u _ => by rw [mAr_o (by decide)]) (fun k hk => ?_) (fun p _ k _ => ?_) a j
  · rw [mAr_s, upd_other (by omega)]
  · rw [mAr_o (by decide)]
theorem EIx_c30 {g1 g2 : Nat → Prop} {l1' l2' : List Nat} {B1 h1 X1 B2 h2 X2 : Nat} {i : Nat} {x : Int32} (hi : ¬ Zn 30 i ∧ i ≠ 1 ∧ i ≠ 3 ∧ i ≠ 2) (hE : EIx t w XC σ1 σ2 g1 l1' B1 h1 X1 g2 l2' B2 h2 X2) : EIx t w XC (mAr σ1 30 i x) (mAr σ2 30 i x) g1 l1' B1 h1 X1 g2 l2' B2 h2 X2 := EIx_n30 ⟨hi.1, hi.2.1, hi.2.2.1⟩ (fun j _ hz hn => hE.2.2.1.2.1 30 j (by unfold AlR; omega) hz (fun y => hn ((InA_w hi.2 30 j).mpr y))) hE
/-- fors are fewer -/
theorem EI_c2 {f f' : Nat} (h2 : σ1.2.2 30 2 = nI f) (hf : f ≤ 2000) (hf' : f' ≤ f) (hE : EI t w XC σ1 σ2) : EI t w XC (mAr σ1 30 2 (nI f')) (mAr σ2 30 2 (nI f')) := by
  obtain ⟨g1, l1', B1, h1, X1, g2, l2', B2, h2', X2, hE⟩ := hE
  refine ⟨g1, l1', B1, h1, X1, g2, l2', B2, h2', X2, EIx_n30 (by unfold Zn; omega) (fun j _ hz hn => hE.2.2.1.2.1 30 j (by unfold AlR; omega) hz (fun y => hn (InA_n30 (fun k hk => ?_) y))) hE⟩
  by_cases e : k = 2
  · rw [e, mAr_s, upd_same, h2, n_cl (p := f) (by omega), n_cl (p := f') (by omega)]; exact hf'
  · rw [mAr_s, upd_other e]; exact Nat.le_refl _
/-- one for more -/
theorem EI_f1 {f : Nat} (h2 : σ1.2.2 30 2 = nI f) (hf : f ≤ 2000) (hv : ∀ j, j = 3214 + 2 * f ∨ j = 3214 + 2 * f + 1 → σ1.2.2 30 j = σ2.2.2 30 j) (hE : EI t w XC σ1 σ2) : EI t w XC (mAr σ1 30 2 (nI (f + 1))) (mAr σ2 30 2 (nI (f + 1))) := by
  obtain ⟨g1, l1', B1, h1, X1, g2, l2', B2, h2', X2, hE⟩ := hE
  refine ⟨g1, l1', B1, h1, X1, g2, l2', B2, h2', X2, EIx_n30 (by unfold Zn; omega) (fun j _ hz hn => ?_) hE⟩
  by_cases c : j = 3214 + 2 * f ∨ j = 3214 + 2 * f + 1
  · exact hv j c
  refine hE.2.2.1.2.1 30 j (by unfold AlR; omega) hz (fun y => hn ?_)
  unfold InA at y ⊢
  rcases y with y | y
  · refine Or.inl ⟨rfl, ?_⟩
    have y := y.2
    unfold IaN at y ⊢
    rw [Nat.zero_add, Nat.zero_add, Nat.zero_add] at y ⊢
    rw [h2, n_cl (p := f) (by omega)] at y
    rw [mAr_s, upd_other (by decide), upd_same, upd_other (by decide), n_cl (p := f + 1) (by omega)]
    omega
  · omega
theorem EI_c30 {i : Nat} {x : Int32} (hi : ¬ Zn 30 i ∧ i ≠ 1 ∧ i ≠ 3 ∧ i ≠ 2) (hE : EI t w XC σ1 σ2) : EI t w XC (mAr σ1 30 i x) (mAr σ2 30 i x) := by
  obtain ⟨g1, l1', B1, h1, X1, g2, l2', B2, h2, X2, hE⟩ := hE
  exact ⟨g1, l1', B1, h1, X1, g2, l2', B2, h2, X2, EIx_c30 hi hE⟩
end EMV
/-- the totals: row 30 is another -/
theorem UT_30 {σ ρ : MS} (h : UT σ) (q : ∀ a, a ≠ 30 → a ≠ 29 → ρ.2.2 a = σ.2.2 a) (s63 : ρ.1 63 = σ.1 63) (s65 : ρ.1 65 = σ.1 65) (hc : ρ.1 30 = σ.1 30) (h64 : ρ.1 64 = nI (StS ρ)) (hle : StS ρ ≤ StS σ ∨ ∀ P, σ.1 63 = nI P → P ≤ 20 → StS ρ + suN (PtS σ) P ≤ 40000) (nuo : ∀ i, StI (ρ.2.2 30) 0 i → NUa (kC σ) (ρ.2.2 30) 0 i → ρ.2.2 30 i = 0) (cw : CWa (ρ.2.2 30) 0) : UT ρ := by
  obtain ⟨_, P, h63, hP, h65, h32, hl, o1, o2, o3, _, o5⟩ := h
  have sP : ∀ p, PtS ρ p = PtS σ p := fun p => by
    unfold PtS; rw [q 28 (by decide) (by decide), kC_r (q 20 (by decide) (by decide)) (q 21 (by decide) (by decide)) hc, q 31 (by decide) (by decide)]
  have sP' : suN (PtS ρ) P = suN (PtS σ) P := suN_c (fun p _ => sP p)
  refine ⟨h64, P, s63.trans h63, hP, ?_, fun p hp => ?_, ?_, ?_, ?_, ?_, cw, ?_⟩
  · rw [s65, sP']; exact h65
  · rw [q 32 (by decide) (by decide), sP]; exact h32 p hp
  · rw [sP']
    rcases hle with z | z
    · omega
    · exact z P h63 hP
  · rw [kC_r (q 20 (by decide) (by decide)) (q 21 (by decide) (by decide)) hc]; exact nuo
  · rw [q 31 (by decide) (by decide), kC_r (q 20 (by decide) (by decide)) (q 21 (by decide) (by decide)) hc]; exact o2
  · rw [q 33 (by decide) (by decide)]; exact o3
  · rw [q 31 (by decide) (by decide)]; exact fun p hp => ⟨(o5 p hp).1, ItP_c (q 28 (by decide) (by decide)) (fun j _ => by rw [q 31 (by decide) (by decide)]) (o5 p hp).2⟩
theorem NUa_m {K A A' : Nat → Int32} {b i : Nat} (h : ∀ j, 65 ≤ j → j < 214 → j % 3 = 2 → A' (b + j) = A (b + j)) : NUa K A' b i ↔ NUa K A b i := by
  unfold NUa
  by_cases y : 214 ≤ i ∧ i < 3214
  · rw [h (65 + 3 * ((i - 214) / 60)) (by omega) (by omega) (by omega)]
  · constructor
    · rintro (z | z)
      · exact Or.inl z
      · exact absurd ⟨z.1, z.2.1⟩ y
    · rintro (z | z)
      · exact Or.inl z
      · exact absurd ⟨z.1, z.2.1⟩ y
theorem UT_cw {σ : MS} (h : UT σ) : CWa (σ.2.2 30) 0 := by
  obtain ⟨_, P, _, _, _, _, _, _, _, _, cw, _⟩ := h
  exact cw
theorem UT_nu {σ : MS} (h : UT σ) : ∀ i, StI (σ.2.2 30) 0 i → NUa (kC σ) (σ.2.2 30) 0 i → σ.2.2 30 i = 0 := by
  obtain ⟨_, P, _, _, _, _, _, o1, _⟩ := h
  exact o1
/-- the totals: a number of the state is written -/
theorem UT_c30 {σ : MS} {i : Nat} {x : Int32} (hi : ¬ Zn 30 i ∧ i ≠ 1 ∧ i ≠ 3 ∧ ¬ (65 ≤ i ∧ i < 214 ∧ i % 3 = 2)) (hB : StB (σ.2.2 30) 0) (h : UT σ) : UT (mAr σ 30 i x) := by
  have o : ∀ j, j ≠ i → (mAr σ 30 i x).2.2 30 j = σ.2.2 30 j := fun j hj => by rw [mAr_s, upd_other hj]
  have q : ∀ a, a ≠ 30 → (mAr σ 30 i x).2.2 a = σ.2.2 a := fun a ha => mAr_o ha
  obtain ⟨c, n, b1, b2, b3, b4⟩ := hB
  obtain ⟨c', c1, c2, c3⟩ := UT_cw h
  have sc : (mAr σ 30 i x).1 = σ.1 := rfl
  generalize hr : mAr σ 30 i x = ρ at o q sc ⊢
  have st : ∀ j, StI (ρ.2.2 30) 0 j ↔ StI (σ.2.2 30) 0 j := fun j => StI_c (o _ (by omega)) (o _ (by omega))
  have nu : ∀ j, NUa (kC σ) (ρ.2.2 30) 0 j ↔ NUa (kC σ) (σ.2.2 30) 0 j := fun j => NUa_m (fun j h1 h2 h3 => o _ (by omega))
  have ne : ∀ j, StI (σ.2.2 30) 0 j → j ≠ i := fun j hj e => by
    unfold StI at hj
    rw [b1, b3, n_cl (p := c) (by omega), n_cl (p := n) (by omega)] at hj
    exact hi.1 (by rw [← e]; unfold Zn; omega)
  have sS : StS ρ = StS σ := by
    unfold StS SzS
    rw [q 28 (by decide), kC_r (q 20 (by decide)) (q 21 (by decide)) (by rw [sc])]
    refine suN_c (fun j hj => ?_)
    unfold szP
    have e : CtA (kC σ) (ρ.2.2 30) 0 j ↔ CtA (kC σ) (σ.2.2 30) 0 j := by unfold CtA; rw [st, nu]
    by_cases y : CtA (kC σ) (σ.2.2 30) 0 j
    · rw [if_pos y, if_pos (e.mpr y), o (0 + j) (ne _ y.1)]
    · rw [if_neg y, if_neg (fun z => y (e.mp z))]
  refine UT_30 h (fun a h1 _ => q a h1) (by rw [sc]) (by rw [sc]) (by rw [sc]) (by rw [sc, sS]; exact h.1) (Or.inl (by rw [sS]; exact Nat.le_refl _)) (fun j h1 h2 => ?_) ⟨c', (o _ (by omega)).trans c1, c2, fun j hj => ?_⟩
  · have h1 := (st j).mp h1
    rw [o j (ne j h1)]; exact UT_nu h j h1 ((nu j).mp h2)
  · rw [o _ (by omega)]; exact c3 j hj
end JnS236
section JnS237
/-! Statements on both sides (reference): the tree of statements; loops that are open; an iterator is dropped, a name is emptied. -/
/-- what a statement lies in -/
def upN (T : Nat → Nat → Int32) (n : Nat) : Int32 := T 10 (T 8 n).toNatClampNeg
/-- the length of a list -/
def chl (T : Nat → Nat → Int32) : Nat → Int32 → Nat
  | 0, _ => 0
  | f + 1, x => if x = -1 then 0 else 1 + chl T f (T 9 x.toNatClampNeg)
/-- iterators of a for -/
def itn (T : Nat → Nat → Int32) (m : Nat) : Nat := chl T 61 (T 5 m)
/-- the fors that a statement lies in, from within -/
def fls (T : Nat → Nat → Int32) : Nat → Nat → List Nat
  | 0, _ => []
  | d + 1, n => if T 4 (upN T n).toNatClampNeg = 48 then (upN T n).toNatClampNeg :: fls T d (upN T n).toNatClampNeg else fls T d (upN T n).toNatClampNeg
def suI (T : Nat → Nat → Int32) : List Nat → Nat
  | [] => 0
  | m :: F => itn T m + suI T F
/-- there is a loop around -/
def hlp (T : Nat → Nat → Int32) : Nat → Nat → Prop
  | 0, _ => False
  | d + 1, n => T 4 (upN T n).toNatClampNeg = 47 ∨ T 4 (upN T n).toNatClampNeg = 48 ∨ hlp T d (upN T n).toNatClampNeg
/-- names that are written, q of them -/
def NmL (T : Nat → Nat → Int32) (lc cn : Nat → Prop) : Nat → Int32 → Prop
  | 0, x => x = -1
  | q + 1, x => ∃ a s, x = nI a ∧ NmW T lc cn a s ∧ NmL T lc cn q (T 9 a)
/-- iterators of a for, k of them -/
def ItL (T : Nat → Nat → Int32) (FN : Nat → Nat → Prop) (lc cn : Nat → Prop) : Nat → Int32 → Prop
  | 0, x => x = -1
  | k + 1, x => ∃ e, x = nI e ∧ (1 ≤ e ∧ e < LNo T % 70001) ∧ (∃ q, 1 ≤ q ∧ q ≤ 60 ∧ NmL T lc cn q (T 6 e)) ∧ Wx0 T FN lc (T 7 e) ∧ ItL T FN lc cn k (T 9 e)
/-- the stack of the fors that are open -/
def FSk (T : Nat → Nat → Int32) (A : Nat → Int32) : List Nat → Prop
  | [] => True
  | m :: F => ((1 ≤ m ∧ m < LNo T % 70001) ∧ A (3214 + 2 * F.length) = nI m ∧ A (3214 + 2 * F.length + 1) = nI (suI T F)) ∧ FSk T A F
/-- iterators that are open: over rows, at a place of theirs -/
def ItS (σ : MS) (q : Nat) : Prop := ∀ i, i < q → 4 ≤ (szV σ 30 (5314 + i)).2.1 ∧ ∃ p k, (szV σ 30 (5314 + i)).2.2 = nI p ∧ p ≤ 3996 ∧ σ.2.2 30 (8414 + i) = nI k ∧ k ≤ p
/-- what stays, but for numbers I of the state -/
def FCt (I : Nat → Prop) (σ ρ : MS) : Prop := (∀ j, AlS j → j ≠ 57 → j ≠ 59 → j ≠ 95 → j ≠ 64 → ρ.1 j = σ.1 j) ∧ (∀ a i, AlR a → ¬ Zn a i → ¬ ((a = 35 ∨ a = 50) ∧ (σ.1 72).toNatClampNeg ≤ i) → ¬ (a = 30 ∧ I i) → ρ.2.2 a i = σ.2.2 a i) ∧ ρ.2.2 2 = σ.2.2 2
section FCS
variable {σ ρ τ : MS} {I J : Nat → Prop}
theorem FC_fs (h : FSt σ ρ) : FCt I σ ρ := ⟨h.1, fun a i h1 h2 h3 _ => h.2.1 a i h1 h2 h3, h.2.2.1⟩
theorem FC_fe (h : FE σ ρ) : FCt I σ ρ := FC_fs (FS_fe h)
theorem FC_rf : FCt I σ σ := FC_fs FS_rf
theorem FC_tr (a : FCt I σ τ) (b : FCt I τ ρ) : FCt I σ ρ := by
  have e : τ.1 72 = σ.1 72 := a.1 72 (by unfold AlS; omega) (by decide) (by decide) (by decide) (by decide)
  refine ⟨fun j h1 h2 h3 h4 h5 => (b.1 j h1 h2 h3 h4 h5).trans (a.1 j h1 h2 h3 h4 h5), fun x i h1 h2 h3 h4 => ?_, b.2.2.trans a.2.2⟩
  rw [b.2.1 x i h1 h2 (by rw [e]; exact h3) h4, a.2.1 x i h1 h2 h3 h4]
theorem FC_mo (h : ∀ i, I i → J i) (a : FCt I σ ρ) : FCt J σ ρ := ⟨a.1, fun x i h1 h2 h3 h4 => a.2.1 x i h1 h2 h3 (fun z => h4 ⟨z.1, h i z.2⟩), a.2.2⟩
theorem FC_30 {i : Nat} (h : FCt I σ ρ) (hz : ¬ Zn 30 i) (hi : ¬ I i) : ρ.2.2 30 i = σ.2.2 30 i := h.2.1 30 i (by unfold AlR; omega) hz (by omega) (fun z => hi z.2)
theorem FC_w {i : Nat} {x : Int32} (h : I i) : FCt I σ (mAr σ 30 i x) := by
  refine ⟨fun _ _ _ _ _ _ => rfl, fun a j _ _ _ h4 => ?_, mAr_o (by decide)⟩
  by_cases e : a = 30
  · subst e; rw [mAr_s, upd_other (fun e => h4 ⟨rfl, by rw [e]; exact h⟩)]
  · rw [mAr_o e]
theorem ItS_mo {p q : Nat} (h : ItS σ q) (hp : p ≤ q) : ItS σ p := fun i hi => h i (by omega)
theorem ItS_fs {q n : Nat} (hF : FSt σ ρ) (h3 : σ.2.2 30 3 = nI n) (hn : n ≤ 3100) (hq : q ≤ n) (h : ItS σ q) : ItS ρ q := by
  intro i hi
  have e := hF.2.2.2 (5314 + i) (by omega) (by unfold StI; rw [show (0 + 3) = 3 from rfl, h3, n_cl (p := n) (by omega)]; omega)
  rw [e, hF.2.1 30 (8414 + i) (by unfold AlR; omega) (by unfold Zn; omega) (by omega)]
  exact h i hi
theorem ItS_c {q : Nat} (hq : q ≤ 3100) (h28 : ρ.2.2 28 = σ.2.2 28) (h : ∀ i, (5314 ≤ i ∧ i < 5314 + q) ∨ (8414 ≤ i ∧ i < 8414 + q) → ρ.2.2 30 i = σ.2.2 30 i) (hI : ItS σ q) : ItS ρ q := by
  intro i hi
  unfold szV
  rw [h28, h (5314 + i) (by omega), h (8414 + i) (by omega)]
  exact hI i hi
theorem FSk_c {T : Nat → Nat → Int32} {A A' : Nat → Int32} : ∀ {F : List Nat}, F.length ≤ 1050 → (∀ i, 3214 ≤ i → i < 5314 → A' i = A i) → FSk T A F → FSk T A' F
  | [], _, _, _ => trivial
  | m :: F, hl, h, hF => by
    have hl : F.length + 1 ≤ 1050 := hl
    refine ⟨⟨hF.1.1, ?_, ?_⟩, FSk_c (by omega) h hF.2⟩
    · rw [h _ (by omega) (by omega)]; exact hF.1.2.1
    · rw [h _ (by omega) (by omega)]; exact hF.1.2.2
end FCS
section DRO
variable {t w XC q : Nat} {σ σ1 σ2 : MS}
theorem s_dropIter {g : Nat → Prop} {l : List Nat} {B h v : Nat} (hS : HS g l B h σ) (hU : UT σ) (hq : q + 1 ≤ 3100) (h3 : σ.2.2 30 3 = nI (q + 1)) (hv : σ.2.2 30 (5314 + q) = nI v) (gv : v < 3 ∨ g v) {L : Nat → Int32} : Tm (fun k => x_dropIter k 0 L σ) (fun r => r = (0, mSc (mAr σ 30 3 (nI q)) 64 (nI (StS σ - szN (σ.2.2 28) v)))) ∧ UT (mSc (mAr σ 30 3 (nI q)) 64 (nI (StS σ - szN (σ.2.2 28) v))) := by
  have o : ∀ j, j ≠ 3 → (mAr σ 30 3 (nI q)).2.2 30 j = σ.2.2 30 j := fun j hj => by rw [mAr_s, upd_other hj]
  have q28 : (mAr σ 30 3 (nI q)).2.2 28 = σ.2.2 28 := mAr_o (by decide)
  have s3 : (mAr σ 30 3 (nI q)).2.2 30 3 = nI q := by rw [mAr_s, upd_same]
  have bv := HS_vb hS gv
  have st : ∀ j, StI ((mAr σ 30 3 (nI q)).2.2 30) 0 j ↔ (StI (σ.2.2 30) 0 j ∧ j ≠ 5314 + q) := fun j => by
    obtain ⟨c, c1, c2, _⟩ := UT_cw hU
    unfold StI
    rw [show (0 + 3) = 3 from rfl, s3, h3, o (0 + 1) (by omega), c1, n_cl (p := q) (by omega), n_cl (p := q + 1) (by omega), n_cl (p := c) (by omega)]
    omega
  have nu : ∀ j, NUa (kC σ) ((mAr σ 30 3 (nI q)).2.2 30) 0 j ↔ NUa (kC σ) (σ.2.2 30) 0 j := fun j => NUa_m (fun j h1 h2 _ => o _ (by omega))
  have ci : CtA (kC σ) (σ.2.2 30) 0 (5314 + q) := by
    refine ⟨?_, ?_⟩
    · unfold StI; rw [show (0 + 3) = 3 from rfl, h3, n_cl (p := q + 1) (by omega)]; omega
    · rintro (z | z) <;> omega
  have s0 : szP (σ.2.2 28) (kC σ) (σ.2.2 30) 0 (5314 + q) = szN (σ.2.2 28) v := by
    unfold szP
    rw [if_pos ci, Nat.zero_add, hv, n_cl (by omega)]
  have le : szN (σ.2.2 28) v ≤ StS σ := by rw [← s0]; exact suN_le (by omega)
  obtain ⟨h64, P, h63, hP, h65, h32, hl, _⟩ := hU
  refine ⟨?_, ?_⟩
  · refine Tm_suc (fun k => by rw [x_dropIter]) ?_
    refine Tm_chk (by decide) ?_
    refine Tm_chk (by decide) ?_
    rw [show (3 : Int32).toNatClampNeg = 3 from by decide, h3, n_sub1 (by omega)]
    refine Tm_suc (fun k => by rw [x_dropIter]) ?_
    refine Tm_chk (by decide) ?_
    show Tm (fun k => if ¬ (5314 + (mAr σ 30 3 (nI q)).2.2 30 (3 : Int32).toNatClampNeg < 0 ∨ 11514 ≤ (5314 + (mAr σ 30 3 (nI q)).2.2 30 (3 : Int32).toNatClampNeg).toNatClampNeg) then ob (x_size k 0 (upd (fun _ => 0) 1 ((mAr σ 30 3 (nI q)).2.2 30 (5314 + (mAr σ 30 3 (nI q)).2.2 30 (3 : Int32).toNatClampNeg).toNatClampNeg)) (mAr σ 30 3 (nI q))) (fun r3 => some (0, (upd r3.2.1 64 ((mAr σ 30 3 (nI q)).1 64 - r3.1), r3.2.2.1, r3.2.2.2))) else none) _
    rw [show (3 : Int32).toNatClampNeg = 3 from by decide, s3, show (5314 : Int32) + nI q = nI (5314 + q) from n_add (p := 5314) (by omega)]
    refine Tm_chk (n_in (by omega) (by omega)) ?_
    rw [n_cl (p := 5314 + q) (by omega), o _ (by omega), hv]
    refine Tm_ob (s_size (σ := mAr σ 30 3 (nI q)) (HS_c hS rfl rfl q28) gv rfl) (fun r hr => ?_)
    rw [hr, q28]
    refine Tm_some ?_
    show (0, mSc (mAr σ 30 3 (nI q)) 64 (σ.1 64 - nI (szN (σ.2.2 28) v))) = _
    rw [h64, n_sub (by omega) le]
  · have sS : StS (mSc (mAr σ 30 3 (nI q)) 64 (nI (StS σ - szN (σ.2.2 28) v))) = StS σ - szN (σ.2.2 28) v := by
      have := suN_1 (f := szP (σ.2.2 28) (kC σ) (σ.2.2 30) 0) (g := szP (σ.2.2 28) (kC σ) ((mAr σ 30 3 (nI q)).2.2 30) 0) (i := 5314 + q) (n := 11514) (by omega) (fun j _ hj => by
        unfold szP
        have e : CtA (kC σ) ((mAr σ 30 3 (nI q)).2.2 30) 0 j ↔ CtA (kC σ) (σ.2.2 30) 0 j := by
          unfold CtA; rw [st, nu]
          constructor
          · intro z; exact ⟨z.1.1, z.2⟩
          · intro z; exact ⟨⟨z.1, by omega⟩, z.2⟩
        by_cases y : CtA (kC σ) (σ.2.2 30) 0 j
        · rw [if_pos y, if_pos (e.mpr y)]
          have : 0 + j ≠ 3 := by
            have y1 := y.1
            unfold StI at y1
            omega
          rw [o _ this]
        · rw [if_neg y, if_neg (fun z => y (e.mp z))])
      have g0 : szP (σ.2.2 28) (kC σ) ((mAr σ 30 3 (nI q)).2.2 30) 0 (5314 + q) = 0 := by
        unfold szP
        rw [if_neg (fun z => ((st _).mp z.1).2 (by omega))]
      rw [s0, g0] at this
      show SzS ((mAr σ 30 3 (nI q)).2.2 28) (kC (mAr σ 30 3 (nI q))) ((mAr σ 30 3 (nI q)).2.2 30) 0 = StS σ - szN (σ.2.2 28) v
      rw [q28, kC_r (σ := σ) (mAr_o (by decide)) (mAr_o (by decide)) rfl]
      unfold SzS StS SzS
      omega
    refine UT_30 (σ := σ) ⟨h64, P, h63, hP, h65, h32, hl, by assumption⟩ (fun a h1 _ => mAr_o h1) rfl rfl rfl (by rw [sS]; rfl) (Or.inl (by rw [sS]; omega)) (fun i h1 h2 => ?_) ?_
    · have h1 := (st i).mp h1
      show (mAr σ 30 3 (nI q)).2.2 30 i = 0
      have : i ≠ 3 := by
        have y1 := h1.1
        unfold StI at y1
        omega
      rw [o i this]
      exact UT_nu (σ := σ) ⟨h64, P, h63, hP, h65, h32, hl, by assumption⟩ i h1.1 ((nu i).mp h2)
    · exact CWa_c (UT_cw (σ := σ) ⟨h64, P, h63, hP, h65, h32, hl, by assumption⟩) (o _ (by omega)) (fun j h1 h2 => o _ (by omega))
/-- both drop an iterator -/
theorem E_dropIter (hI : EI t w XC σ1 σ2) (U1 : UT σ1) (U2 : UT σ2) (hq : q + 1 ≤ 3100) (h3 : σ1.2.2 30 3 = nI (q + 1)) {L1 L2 : Nat → Int32} : T2 (fun k => x_dropIter k 0 L1 σ1) (fun k => x_dropIter k 0 L2 σ2) (fun r1 r2 => EI t w XC r1.2 r2.2 ∧ UT r1.2 ∧ UT r2.2 ∧ FCt (fun i => i = 3) σ1 r1.2 ∧ FCt (fun i => i = 3) σ2 r2.2 ∧ r1.2.2.2 30 3 = nI q ∧ (∀ p, p ≤ q → ItS σ1 p → ItS r1.2 p)) := by
  have hI0 := hI
  obtain ⟨g1, l1, B1, h1, X1, g2, l2, B2, h2, X2, m1, m2, hR, _, _, t1, e1, e2, _⟩ := hI0
  have k3 : σ2.2.2 30 3 = nI (q + 1) := (hR.2.1 30 3 (by unfold AlR; omega) (by unfold Zn; omega) (InA_4 (by omega))).symm.trans h3
  have rt : RtP t σ1 30 (5314 + q) := Or.inr (Or.inl ⟨rfl, by unfold StI; rw [show (0 + 3) = 3 from rfl, h3, n_cl (p := q + 1) (by omega)]; omega⟩)
  obtain ⟨va, vb, va1, va2, va3, va4, va5, va6, va7⟩ := hR.1 30 (5314 + q) rt (by unfold VwR; omega)
  obtain ⟨a1, a2⟩ := s_dropIter m1.1 U1 hq h3 va1 va2 (L := L1)
  obtain ⟨b1, b2⟩ := s_dropIter m2.1 U2 hq k3 va3 va4 (L := L2)
  have eS : StS σ2 = StS σ1 := by
    have b1 := U1.1
    have b2 := U2.1
    obtain ⟨_, P1, _, _, _, _, l1, _⟩ := U1
    obtain ⟨_, P2, _, _, _, _, l2, _⟩ := U2
    exact (n_eq (by omega) (by omega)).mp (b2.symm.trans ((hR.2.2.1 64 (by unfold AlS; omega)).symm.trans b1))
  have sz := (EVb_sz va5).1
  refine T2_mono (T2_t a1 b1) (fun r1 r2 hr => ?_)
  rw [hr.1, hr.2]
  have o : ∀ (σ : MS) (x : Int32) j, j ≠ 3 → (mSc (mAr σ 30 3 (nI q)) 64 x).2.2 30 j = σ.2.2 30 j := fun σ x j hj => by
    show (mAr σ 30 3 (nI q)).2.2 30 j = _
    rw [mAr_s, upd_other hj]
  have s3 : ∀ (σ : MS) (x : Int32), (mSc (mAr σ 30 3 (nI q)) 64 x).2.2 30 3 = nI q := fun σ x => by
    show (mAr σ 30 3 (nI q)).2.2 30 3 = _
    rw [mAr_s, upd_same]
  have fc : ∀ (σ : MS) (x : Int32), FCt (fun i => i = 3) σ (mSc (mAr σ 30 3 (nI q)) 64 x) := fun σ x => FC_tr (FC_w rfl) (FC_fs (FS_sc (by omega)))
  refine ⟨?_, a2, b2, fc _ _, fc _ _, s3 _ _, fun p hp hI => ?_⟩
  · show EI t w XC (mSc (mAr σ1 30 3 (nI q)) 64 _) (mSc (mAr σ2 30 3 (nI q)) 64 _)
    rw [sz, eS]
    refine EI_mv hI (fun j hj => upd_other (by omega)) (fun j hj => upd_other (by omega)) rfl rfl (fun a _ h _ _ _ => mAr_o h) (fun a _ h _ _ _ => mAr_o h) t1 ?_ (fun j hj hn => ?_) (fun j hj hn => ?_) (fun j hn => ?_) (fun j hj => ?_) (fun a j ha z => ?_)
    · obtain ⟨P, e, y1, y2, y3, y4, ⟨c, n, z1, z2, z3, z4⟩, y6⟩ := m1.2.1
      exact ⟨P, e, y1, y2, y3, y4, ⟨c, q, (o σ1 _ _ (by omega)).trans z1, z2, s3 σ1 _, by omega⟩, y6⟩
    · by_cases e : j = 3
      · rw [e, s3, s3]
      · rw [o _ _ _ e, o _ _ _ e]
        refine hR.2.1 30 j (by unfold AlR; omega) hj (fun y => hn (InA_n30 (fun k hk => ?_) y))
        by_cases ek : k = 3
        · rw [ek, s3, h3, n_cl (p := q) (by omega), n_cl (p := q + 1) (by omega)]; omega
        · rw [o _ _ _ ek]; exact Nat.le_refl _
    · exact hR.2.1 31 j (by unfold AlR; omega) hj (fun y => hn (InA_31 (σ := σ1) rfl rfl y))
    · exact hR.2.1 32 j (by unfold AlR; omega) (by unfold Zn; omega) (fun y => hn (InA_32 (σ := σ1) rfl y))
    · by_cases e : j = 64
      · rw [e]; rfl
      · show upd σ1.1 64 _ j = upd σ2.1 64 _ j
        rw [upd_other e, upd_other e]; exact hR.2.2.1 j hj
    · have z' : RtP t σ1 a j := by
        rcases z with z | ⟨z, y⟩ | z
        · exact Or.inl z
        · refine Or.inr (Or.inl ⟨z, ?_⟩)
          unfold StI at y ⊢
          rw [show (0 + 3) = 3 from rfl, s3, o _ _ (0 + 1) (by omega), n_cl (p := q) (by omega)] at y
          rw [show (0 + 3) = 3 from rfl, h3, n_cl (p := q + 1) (by omega)]
          omega
        · exact Or.inr (Or.inr z)
      refine Or.inl ⟨a, j, by unfold VwR; omega, z', ?_, ?_⟩
      · by_cases e : a = 30
        · subst e
          rw [o _ _ _ (fun e => by have := Zn_rt m1.2.1 z' (by unfold AlR; omega); unfold Zn at this; omega)]
        · exact congrFun (mAr_o e) j
      · by_cases e : a = 30
        · subst e
          rw [o _ _ _ (fun e => by have := Zn_rt m1.2.1 z' (by unfold AlR; omega); unfold Zn at this; omega)]
        · exact congrFun (mAr_o e) j
  · exact ItS_c (σ := σ1) (by omega) (show (mAr σ1 30 3 (nI q)).2.2 28 = σ1.2.2 28 from mAr_o (by decide)) (fun i hi => o _ _ _ (by omega)) hI
end DRO
end JnS237
section JnS238
/-! Statements on both sides (reference): a for is closed. -/
/-- numbers of the state that don't tell a call -/
def Ict (i : Nat) : Prop := i = 0 ∨ i = 2 ∨ i = 3 ∨ 3214 ≤ i
section CLF
variable {T : Nat → Nat → Int32} {FN : Nat → Nat → Prop} {lc cn : Nat → Prop} {t w XC : Nat} {σ ρ σ1 σ2 : MS} {I : Nat → Prop}
theorem Sc1_fc (h : Sc1 T FN lc cn σ) (hF : FCt I σ ρ) (hI : ∀ i, I i → Ict i) : Sc1 T FN lc cn ρ := by
  have row : ∀ a, AlR a → (∀ i, ¬ Zn a i) → a ≠ 35 → a ≠ 50 → a ≠ 30 → ρ.2.2 a = σ.2.2 a := fun a h1 h2 h3 h4 h5 => by
    funext i
    exact hF.2.1 a i h1 (h2 i) (fun z => by omega) (fun z => h5 z.1)
  have r20 : kC ρ = kC σ := kC_r (row 20 (by unfold AlR; omega) (fun i => by unfold Zn; omega) (by omega) (by omega) (by omega)) (row 21 (by unfold AlR; omega) (fun i => by unfold Zn; omega) (by omega) (by omega) (by omega)) (hF.1 30 (by unfold AlS; omega) (by omega) (by omega) (by omega) (by omega))
  have sc : ∀ j, j = 67 ∨ j = 97 ∨ j = 72 ∨ j = 69 ∨ j = 68 → ρ.1 j = σ.1 j := fun j hj => hF.1 j (by unfold AlS; omega) (by omega) (by omega) (by omega) (by omega)
  have e30 : ∀ i, i = 1 ∨ (64 ≤ i ∧ i < 214) → ρ.2.2 30 i = σ.2.2 30 i := fun i hi => FC_30 hF (by unfold Zn; omega) (fun z => by have := hI i z; unfold Ict at this; omega)
  have hb := STb_b h.1.1 (ρ := ρ) (fun j hj => hF.1 j (by unfold AlS; omega) (by omega) (by omega) (by omega) (by omega)) (fun a i q => hF.2.1 a i (by unfold AlR; omega) (by unfold Zn; omega) (fun z => by omega) (fun z => by omega))
  obtain ⟨⟨_, c1, c2, c3, c4, c5, ⟨c, d1, d2, d3, d4⟩, c7⟩, h69, k1, k2⟩ := h
  refine ⟨⟨hb, (sc 67 (by omega)).trans c1, c2, (sc 97 (by omega)).trans c3, c4, (sc 72 (by omega)).trans c5, ⟨c, (e30 1 (by omega)).trans d1, d2, ?_, fun s hs z => ?_, fun s hs z z69 z1 => ?_⟩, ?_⟩, (sc 69 (by omega)).trans h69, fun s hs z => ?_, fun s c' hs z z1 h1 h5 => ?_⟩
  · rw [sc 69 (by omega)]; exact d3
  · rw [r20]; exact d4.1 s hs z
  · rw [r20, e30 _ (by omega)]; exact d4.2 s hs z ((sc 69 (by omega)).symm.trans z69) z1
  · rw [sc 69 (by omega), sc 68 (by omega)]; exact c7
  · rw [r20]; exact k1 s hs z
  · rw [r20, e30 _ (by omega)]; exact k2 s c' hs z ((e30 1 (by omega)).symm.trans z1) h1 h5
/-- what is closed with: the same as before, but for numbers of the state -/
def Cst (T : Nat → Nat → Int32) (FN : Nat → Nat → Prop) (lc cn : Nat → Prop) (t w XC : Nat) (I : Nat → Prop) (σ1 σ2 τ1 τ2 : MS) : Prop := EI t w XC τ1 τ2 ∧ UT τ1 ∧ UT τ2 ∧ FCt I σ1 τ1 ∧ FCt I σ2 τ2 ∧ Sc1 T FN lc cn τ1
theorem szN_0 {H : Nat → Int32} : szN H 0 = 1 := by unfold szN; rw [if_pos (by omega)]
/-- a name of a for is emptied -/
theorem E_clr {n s : Nat} (hS : Sc1 T FN lc cn σ1) (hI : EI t w XC σ1 σ2) (U1 : UT σ1) (U2 : UT σ2) (hn : NmW T lc cn n s) {Q : Int32 × MS → Int32 × MS → Prop} {N1 N2 : Nat → Int32} (n1 : N1 3 = nI n) (n2 : N2 3 = nI n) (hQ : ∀ τ1 τ2 : MS, FSt σ1 τ1 → FSt σ2 τ2 → EI t w XC τ1 τ2 → UT τ1 → UT τ2 → T2 (fun k => x_closeFor k 5 (upd N1 3 (T 9 n)) τ1) (fun k => x_closeFor k 5 (upd N2 3 (T 9 n)) τ2) Q) : T2 (fun k => x_closeFor k 5 N1 σ1) (fun k => x_closeFor k 5 N2 σ2) Q := by
  have hS2 := Sc1_ei hS hI
  obtain ⟨c, c1, c5, _, st, ct, pl⟩ := Nm_c hS hn
  obtain ⟨c', c1', c5', _, st2, ct2, _⟩ := Nm_c hS2 hn
  have hI0 := hI
  obtain ⟨g1, l1, B1, h1, X1, g2, l2, B2, h2, X2, m1, m2, hR, _⟩ := hI0
  have ec : c' = c := (n_eq (by omega) (by omega)).mp (c1'.symm.trans ((hR.2.1 30 1 (by unfold AlR; omega) (by unfold Zn; omega) (InA_4 (by omega))).symm.trans c1))
  subst ec
  have al : ∀ j, AlS j → σ2.1 j = σ1.1 j := fun j h => (hR.2.2.1 j h).symm
  obtain ⟨va, vb, va1, va2, va3, va4, va5, va6, va7⟩ := hR.1 30 (plc T c' n s) (Or.inr (Or.inl ⟨rfl, st⟩)) (by unfold VwR; omega)
  have so := (EVb_sz va5).1
  have bo := szN_b m1.1 va2
  have V1 := U1
  have V2 := U2
  obtain ⟨h64, P, h63, hP, h65, _, hl, _⟩ := V1
  obtain ⟨k64, P', k63, hP', k65, _, kl, _⟩ := V2
  have eS : StS σ2 = StS σ1 := (n_eq (by omega) (by omega)).mp (k64.symm.trans ((al 64 (by unfold AlS; omega)).trans h64))
  obtain ⟨le, w1⟩ := UT_wr (m := 0) m1.1 U1 ct pl (Or.inl (by decide)) va1 va2 (by rw [h63, n_cl (p := P) (by omega), szN_0]; omega)
  obtain ⟨le2, w2⟩ := UT_wr (m := 0) m2.1 U2 ct2 pl (Or.inl (by decide)) va3 va4 (by rw [k63, n_cl (p := P') (by omega), szN_0, so]; omega)
  rw [eS, so] at w2
  rw [szN_0] at w1 w2
  have n7 := hn.1
  have ne : ¬ nI n = -1 := fun z => by
    have := congrArg Int32.toInt z
    rw [n_int (by omega)] at this
    have e : (-1 : Int32).toInt = -1 := by decide
    omega
  refine T2_suc (fun k => by rw [x_closeFor]) (fun k => by rw [x_closeFor]) ?_
  rw [n1, n2]
  refine T2_ite Iff.rfl (fun z _ => absurd z ne) (fun _ _ => ?_)
  refine T2_ob (T2_t (s_valS hS hn c1 c5 rfl) (s_valS hS2 hn c1' c5 rfl)) (fun r1 r2 hr => ?_)
  rw [hr.1, hr.2]
  refine T2_ob (T2_t (s_size m1.1 va2 (by exact va1)) (s_size m2.1 va4 (by exact va3))) (fun r1 r2 hr => ?_)
  rw [hr.1, hr.2, so]
  have a64 : σ1.1 64 + (1 - nI (szN (σ1.2.2 28) va)) = nI (StS σ1 + 1 - szN (σ1.2.2 28) va) := by
    rw [h64, show (1 : Int32) = nI 1 from rfl, n_mix (by omega) (by omega)]
  have b64 : σ2.1 64 + (1 - nI (szN (σ1.2.2 28) va)) = nI (StS σ1 + 1 - szN (σ1.2.2 28) va) := by rw [al 64 (by unfold AlS; omega)]; exact a64
  show T2 (fun k => x_closeFor k 6 N1 (mSc σ1 64 (σ1.1 64 + (1 - nI (szN (σ1.2.2 28) va))))) (fun k => x_closeFor k 6 N2 (mSc σ2 64 (σ2.1 64 + (1 - nI (szN (σ1.2.2 28) va))))) Q
  rw [a64, b64]
  have F1 : FSt σ1 (mSc σ1 64 (nI (StS σ1 + 1 - szN (σ1.2.2 28) va))) := FS_sc (by omega)
  have F2 : FSt σ2 (mSc σ2 64 (nI (StS σ1 + 1 - szN (σ1.2.2 28) va))) := FS_sc (by omega)
  refine T2_suc (fun k => by rw [x_closeFor]) (fun k => by rw [x_closeFor]) ?_
  rw [n1, n2]
  refine T2_ob (T2_t (s_bndS (Sc1_fs hS F1) hn (by exact c1) c5 rfl) (s_bndS (Sc1_fs hS2 F2) hn (by exact c1') c5 rfl)) (fun r1 r2 hr => ?_)
  rw [hr.1, hr.2]
  refine T2_chk (n_in (by omega) (by omega)) (n_in (by omega) (by omega)) ?_
  rw [n_cl (p := n) (by omega)]
  have G1 : FSt σ1 (mAr (mSc σ1 64 (nI (StS σ1 + 1 - szN (σ1.2.2 28) va))) 30 (plc T c' n s) 0) := FS_wr pl
  have G2 : FSt σ2 (mAr (mSc σ2 64 (nI (StS σ1 + 1 - szN (σ1.2.2 28) va))) 30 (plc T c' n s) 0) := FS_wr pl
  show T2 (fun k => x_closeFor k 5 (upd N1 3 ((mAr (mSc σ1 64 (nI (StS σ1 + 1 - szN (σ1.2.2 28) va))) 30 (plc T c' n s) 0).2.2 9 n)) (mAr (mSc σ1 64 (nI (StS σ1 + 1 - szN (σ1.2.2 28) va))) 30 (plc T c' n s) 0)) (fun k => x_closeFor k 5 (upd N2 3 ((mAr (mSc σ2 64 (nI (StS σ1 + 1 - szN (σ1.2.2 28) va))) 30 (plc T c' n s) 0).2.2 9 n)) (mAr (mSc σ2 64 (nI (StS σ1 + 1 - szN (σ1.2.2 28) va))) 30 (plc T c' n s) 0)) Q
  rw [(Sc1_fs hS G1).1.1.1 9 _ (by omega) (by omega) (by omega), (Sc1_fs hS2 G2).1.1.1 9 _ (by omega) (by omega) (by omega)]
  exact hQ _ _ G1 G2 (EI_bd0 (EI_s (by omega) hI) pl) w1 w2
/-- the names of an iterator -/
theorem cf_5 {Q : Int32 × MS → Int32 × MS → Prop} {e : Nat} : ∀ (q : Nat) (x : Int32) (σ1 σ2 : MS) (N1 N2 : Nat → Int32), NmL T lc cn q x → N1 3 = x → N2 3 = x → N1 2 = nI e → N2 2 = nI e → Sc1 T FN lc cn σ1 → EI t w XC σ1 σ2 → UT σ1 → UT σ2 → (∀ (τ1 τ2 : MS) (M1 M2 : Nat → Int32), M1 2 = nI e → M2 2 = nI e → FSt σ1 τ1 → FSt σ2 τ2 → EI t w XC τ1 τ2 → UT τ1 → UT τ2 → T2 (fun k => x_closeFor k 7 M1 τ1) (fun k => x_closeFor k 7 M2 τ2) Q) → T2 (fun k => x_closeFor k 5 N1 σ1) (fun k => x_closeFor k 5 N2 σ2) Q := by
  intro q
  induction q with
  | zero =>
    intro x σ1 σ2 N1 N2 hL n1 n2 p1 p2 hS hI U1 U2 hQ
    have hL : x = -1 := hL
    refine T2_suc (fun k => by rw [x_closeFor]) (fun k => by rw [x_closeFor]) ?_
    rw [n1, n2, hL]
    refine T2_ite Iff.rfl (fun _ _ => ?_) (fun z _ => absurd rfl z)
    exact hQ σ1 σ2 N1 N2 p1 p2 FS_rf FS_rf hI U1 U2
  | succ q ih =>
    intro x σ1 σ2 N1 N2 hL n1 n2 p1 p2 hS hI U1 U2 hQ
    obtain ⟨a, s, xa, hn, hL⟩ := hL
    rw [xa] at n1 n2
    refine E_clr hS hI U1 U2 hn n1 n2 (fun τ1 τ2 f1 f2 hJ V1 V2 => ?_)
    exact ih (T 9 a) τ1 τ2 _ _ hL rfl rfl p1 p2 (Sc1_fs hS f1) hJ V1 V2 (fun ρ1 ρ2 M1 M2 m1 m2 g1 g2 hK W1 W2 => hQ ρ1 ρ2 M1 M2 m1 m2 (FS_tr f1 g1) (FS_tr f2 g2) hK W1 W2)
theorem ne_m1 {n : Nat} (h : (1 ≤ n ∧ n < LNo T % 70001)) : ¬ nI n = -1 := fun z => by
  have := congrArg Int32.toInt z
  rw [n_int (by omega)] at this
  have e : (-1 : Int32).toInt = -1 := by decide
  omega
/-- the iterators of a for: all names -/
theorem cf_4 : ∀ (q : Nat) (x : Int32) (σ1 σ2 : MS) (N1 N2 : Nat → Int32), ItL T FN lc cn q x → N1 2 = x → N2 2 = x → Sc1 T FN lc cn σ1 → EI t w XC σ1 σ2 → UT σ1 → UT σ2 → T2 (fun k => x_closeFor k 4 N1 σ1) (fun k => x_closeFor k 4 N2 σ2) (fun r1 r2 => FSt σ1 r1.2 ∧ FSt σ2 r2.2 ∧ EI t w XC r1.2 r2.2 ∧ UT r1.2 ∧ UT r2.2) := by
  intro q
  induction q with
  | zero =>
    intro x σ1 σ2 N1 N2 hL n1 n2 hS hI U1 U2
    have hL : x = -1 := hL
    refine T2_suc (fun k => by rw [x_closeFor]) (fun k => by rw [x_closeFor]) ?_
    rw [n1, n2, hL]
    refine T2_ite Iff.rfl (fun _ _ => ?_) (fun z _ => absurd rfl z)
    refine T2_suc (fun k => by rw [x_closeFor]) (fun k => by rw [x_closeFor]) ?_
    exact T2_some ⟨FS_rf, FS_rf, hI, U1, U2⟩
  | succ q ih =>
    intro x σ1 σ2 N1 N2 hL n1 n2 hS hI U1 U2
    obtain ⟨e, xe, he, ⟨qq, _, _, hN⟩, _, hL⟩ := hL
    have hS2 := Sc1_ei hS hI
    refine T2_suc (fun k => by rw [x_closeFor]) (fun k => by rw [x_closeFor]) ?_
    rw [n1, n2, xe]
    refine T2_ite Iff.rfl (fun z _ => absurd z (ne_m1 he)) (fun _ _ => ?_)
    refine T2_chk (n_in (by omega) (by omega)) (n_in (by omega) (by omega)) ?_
    rw [n_cl (p := e) (by omega), hS.1.1.1 6 _ (by omega) (by omega) (by omega), hS2.1.1.1 6 _ (by omega) (by omega) (by omega)]
    refine cf_5 (e := e) qq (T 6 e) σ1 σ2 _ _ hN rfl rfl (n1.trans xe) (n2.trans xe) hS hI U1 U2 (fun τ1 τ2 M1 M2 m1 m2 f1 f2 hJ V1 V2 => ?_)
    refine T2_suc (fun k => by rw [x_closeFor]) (fun k => by rw [x_closeFor]) ?_
    rw [m1, m2]
    refine T2_chk (n_in (by omega) (by omega)) (n_in (by omega) (by omega)) ?_
    rw [n_cl (p := e) (by omega), (Sc1_fs hS f1).1.1.1 9 _ (by omega) (by omega) (by omega), (Sc1_fs hS2 f2).1.1.1 9 _ (by omega) (by omega) (by omega)]
    refine T2_mono (ih (T 9 e) τ1 τ2 _ _ hL rfl rfl (Sc1_fs hS f1) hJ V1 V2) (fun r1 r2 hr => ?_)
    exact ⟨FS_tr f1 hr.1, FS_tr f2 hr.2.1, hr.2.2⟩
/-- a for is closed -/
theorem E_closeFor {m kk q : Nat} {F : List Nat} (hS : Sc1 T FN lc cn σ1) (hI : EI t w XC σ1 σ2) (U1 : UT σ1) (U2 : UT σ2) (hl : F.length + 1 ≤ 1050) (h2 : σ1.2.2 30 2 = nI (F.length + 1)) (hF : FSk T (σ1.2.2 30) (m :: F)) (h3 : σ1.2.2 30 3 = nI q) (hq : suI T F ≤ q ∧ q ≤ 3100) (hL : ItL T FN lc cn kk (T 5 m)) {L1 L2 : Nat → Int32} : T2 (fun k => x_closeFor k 0 L1 σ1) (fun k => x_closeFor k 0 L2 σ2) (fun r1 r2 => EI t w XC r1.2 r2.2 ∧ UT r1.2 ∧ UT r2.2 ∧ FCt (fun i => i = 2 ∨ i = 3) σ1 r1.2 ∧ FCt (fun i => i = 2 ∨ i = 3) σ2 r2.2 ∧ r1.2.2.2 30 2 = nI F.length ∧ r1.2.2.2 30 3 = nI (suI T F) ∧ (ItS σ1 (suI T F) → ItS r1.2 (suI T F))) := by
  obtain ⟨⟨m7, A0, A1⟩, _⟩ := hF
  have al : ∀ {τ1 τ2 : MS}, EI t w XC τ1 τ2 → ∀ i, ¬ Zn 30 i → ¬ InA τ1 30 i → τ2.2.2 30 i = τ1.2.2 30 i := fun h i hi hn => by
    obtain ⟨g1, l1, B1, h1, X1, g2, l2, B2, h2, X2, m1, m2, hR, _⟩ := h
    exact (hR.2.1 30 i (by unfold AlR; omega) hi hn).symm
  have ict : ∀ i, (i = 2 ∨ i = 3) → Ict i := fun i h => by unfold Ict; omega
  have p1 : (3214 : Int32) + 2 * nI F.length = nI (3214 + 2 * F.length) := by
    rw [show (2 : Int32) * nI F.length = nI (2 * F.length) from n_mulN 2 F.length]; exact n_add (p := 3214) (by omega)
  -- behind the iterators
  have two : ∀ (τ1 τ2 : MS) (N1 N2 : Nat → Int32), N1 1 = nI (3214 + 2 * F.length) → N2 1 = nI (3214 + 2 * F.length) → EI t w XC τ1 τ2 → UT τ1 → UT τ2 → FCt (fun i => i = 2 ∨ i = 3) σ1 τ1 → FCt (fun i => i = 2 ∨ i = 3) σ2 τ2 → τ1.2.2 30 2 = nI (F.length + 1) → τ1.2.2 30 3 = nI (suI T F) → (ItS σ1 (suI T F) → ItS τ1 (suI T F)) → T2 (fun k => x_closeFor k 2 N1 τ1) (fun k => x_closeFor k 2 N2 τ2) (fun r1 r2 => EI t w XC r1.2 r2.2 ∧ UT r1.2 ∧ UT r2.2 ∧ FCt (fun i => i = 2 ∨ i = 3) σ1 r1.2 ∧ FCt (fun i => i = 2 ∨ i = 3) σ2 r2.2 ∧ r1.2.2.2 30 2 = nI F.length ∧ r1.2.2.2 30 3 = nI (suI T F) ∧ (ItS σ1 (suI T F) → ItS r1.2 (suI T F))) := by
    intro τ1 τ2 N1 N2 n1 n2 hJ V1 V2 f1 f2 t2 t3 it
    refine T2_suc (fun k => by rw [x_closeFor]) (fun k => by rw [x_closeFor]) ?_
    refine T2_chk (by decide) (by decide) ?_
    refine T2_chk (by decide) (by decide) ?_
    rw [show (2 : Int32).toNatClampNeg = 2 from by decide, al hJ 2 (by unfold Zn; omega) (InA_4 (by omega)), t2, n_sub1 (by omega)]
    show T2 (fun k => x_closeFor k 3 N1 (mAr τ1 30 2 (nI F.length))) (fun k => x_closeFor k 3 N2 (mAr τ2 30 2 (nI F.length))) _
    have bq : ∀ {τ1 τ2 : MS}, EI t w XC τ1 τ2 → StB (τ1.2.2 30) 0 ∧ StB (τ2.2.2 30) 0 := fun h => by
      obtain ⟨g1, l1, B1, h1, X1, g2, l2, B2, h2, X2, m1, m2, hR, _⟩ := h
      obtain ⟨_, _, _, _, _, _, s, _⟩ := m1.2.1
      obtain ⟨_, _, _, _, _, _, s', _⟩ := m2.2.1
      exact ⟨s, s'⟩
    have hJ' := EI_c2 (f' := F.length) t2 (by omega) (by omega) hJ
    have k0 := al hJ (3214 + 2 * F.length) (by unfold Zn; omega) (InA_fo t2 (by omega) (by omega))
    have V1' := UT_c30 (i := 2) (x := nI F.length) (by unfold Zn; omega) (bq hJ).1 V1
    have V2' := UT_c30 (i := 2) (x := nI F.length) (by unfold Zn; omega) (bq hJ).2 V2
    have g1 : FCt (fun i => i = 2 ∨ i = 3) σ1 (mAr τ1 30 2 (nI F.length)) := FC_tr f1 (FC_w (Or.inl rfl))
    have g2 : FCt (fun i => i = 2 ∨ i = 3) σ2 (mAr τ2 30 2 (nI F.length)) := FC_tr f2 (FC_w (Or.inl rfl))
    have o : ∀ (τ : MS) j, j ≠ 2 → (mAr τ 30 2 (nI F.length)).2.2 30 j = τ.2.2 30 j := fun τ j hj => by rw [mAr_s, upd_other hj]
    have k0' : (mAr τ2 30 2 (nI F.length)).2.2 30 (3214 + 2 * F.length) = (mAr τ1 30 2 (nI F.length)).2.2 30 (3214 + 2 * F.length) := by rw [o _ _ (by omega), o _ _ (by omega)]; exact k0
    have s2 : (mAr τ1 30 2 (nI F.length)).2.2 30 2 = nI F.length := by rw [mAr_s, upd_same]
    have s3 : (mAr τ1 30 2 (nI F.length)).2.2 30 3 = nI (suI T F) := by rw [o _ _ (by omega)]; exact t3
    have it' : ItS σ1 (suI T F) → ItS (mAr τ1 30 2 (nI F.length)) (suI T F) := fun h => ItS_c (σ := τ1) (by omega) (mAr_o (by decide)) (fun i hi => o _ _ (by omega)) (it h)
    generalize mAr τ1 30 2 (nI F.length) = ρ1 at *
    generalize mAr τ2 30 2 (nI F.length) = ρ2 at *
    have hS1 := Sc1_fc hS g1 ict
    have hS2 := Sc1_ei hS1 hJ'
    have a0 : ρ1.2.2 30 (3214 + 2 * F.length) = nI m := by rw [FC_30 g1 (by unfold Zn; omega) (by omega)]; exact A0
    refine T2_suc (fun k => by rw [x_closeFor]) (fun k => by rw [x_closeFor]) ?_
    rw [n1, n2]
    refine T2_chk (n_in (by omega) (by omega)) (n_in (by omega) (by omega)) ?_
    rw [n_cl (p := 3214 + 2 * F.length) (by omega), k0', a0]
    refine T2_chk (n_in (by omega) (by omega)) (n_in (by omega) (by omega)) ?_
    rw [n_cl (p := m) (by omega), hS1.1.1.1 5 _ (by omega) (by omega) (by omega), hS2.1.1.1 5 _ (by omega) (by omega) (by omega)]
    refine T2_mono (cf_4 kk (T 5 m) ρ1 ρ2 _ _ hL rfl rfl hS1 hJ' V1' V2') (fun r1 r2 hr => ?_)
    obtain ⟨y1, y2, y3, y4, y5⟩ := hr
    refine ⟨y3, y4, y5, FC_tr g1 (FC_fs y1), FC_tr g2 (FC_fs y2), ?_, ?_, fun h => ?_⟩
    · rw [y1.2.1 30 2 (by unfold AlR; omega) (by unfold Zn; omega) (by omega)]; exact s2
    · rw [y1.2.1 30 3 (by unfold AlR; omega) (by unfold Zn; omega) (by omega)]; exact s3
    · exact ItS_fs y1 s3 (by omega) (Nat.le_refl _) (it' h)
  have lp : ∀ (d : Nat) (τ1 τ2 : MS) (N1 N2 : Nat → Int32), suI T F + d ≤ 3100 → N1 1 = nI (3214 + 2 * F.length) → N2 1 = nI (3214 + 2 * F.length) → EI t w XC τ1 τ2 → UT τ1 → UT τ2 → FCt (fun i => i = 2 ∨ i = 3) σ1 τ1 → FCt (fun i => i = 2 ∨ i = 3) σ2 τ2 → τ1.2.2 30 2 = nI (F.length + 1) → τ1.2.2 30 3 = nI (suI T F + d) → (ItS σ1 (suI T F) → ItS τ1 (suI T F)) → T2 (fun k => x_closeFor k 1 N1 τ1) (fun k => x_closeFor k 1 N2 τ2) (fun r1 r2 => EI t w XC r1.2 r2.2 ∧ UT r1.2 ∧ UT r2.2 ∧ FCt (fun i => i = 2 ∨ i = 3) σ1 r1.2 ∧ FCt (fun i => i = 2 ∨ i = 3) σ2 r2.2 ∧ r1.2.2.2 30 2 = nI F.length ∧ r1.2.2.2 30 3 = nI (suI T F) ∧ (ItS σ1 (suI T F) → ItS r1.2 (suI T F))) := by
    intro d
    induction d with
    | zero =>
      intro τ1 τ2 N1 N2 hd n1 n2 hJ V1 V2 f1 f2 t2 t3 it
      refine T2_suc (fun k => by rw [x_closeFor]) (fun k => by rw [x_closeFor]) ?_
      rw [n1, n2, n_add1]
      refine T2_chk (by decide) (by decide) ?_
      refine T2_chk (n_in (by omega) (by omega)) (n_in (by omega) (by omega)) ?_
      rw [show (3 : Int32).toNatClampNeg = 3 from by decide, n_cl (p := 3214 + 2 * F.length + 1) (by omega), al hJ 3 (by unfold Zn; omega) (InA_4 (by omega)), al hJ (3214 + 2 * F.length + 1) (by unfold Zn; omega) (InA_fo t2 (by omega) (by omega)), FC_30 f1 (i := 3214 + 2 * F.length + 1) (by unfold Zn; omega) (by omega), A1, t3]
      refine T2_ite Iff.rfl (fun _ _ => ?_) (fun z _ => absurd (by rw [Nat.add_zero]; exact Int32.le_refl _) z)
      exact two τ1 τ2 N1 N2 n1 n2 hJ V1 V2 f1 f2 t2 t3 it
    | succ d ih =>
      intro τ1 τ2 N1 N2 hd n1 n2 hJ V1 V2 f1 f2 t2 t3 it
      refine T2_suc (fun k => by rw [x_closeFor]) (fun k => by rw [x_closeFor]) ?_
      rw [n1, n2, n_add1]
      refine T2_chk (by decide) (by decide) ?_
      refine T2_chk (n_in (by omega) (by omega)) (n_in (by omega) (by omega)) ?_
      rw [show (3 : Int32).toNatClampNeg = 3 from by decide, n_cl (p := 3214 + 2 * F.length + 1) (by omega), al hJ 3 (by unfold Zn; omega) (InA_4 (by omega)), al hJ (3214 + 2 * F.length + 1) (by unfold Zn; omega) (InA_fo t2 (by omega) (by omega)), FC_30 f1 (i := 3214 + 2 * F.length + 1) (by unfold Zn; omega) (by omega), A1, t3]
      refine T2_ite Iff.rfl (fun z _ => ?_) (fun _ _ => ?_)
      · have := (n_le (by omega) (by omega)).mp z
        omega
      refine T2_ob (E_dropIter (q := suI T F + d) hJ V1 V2 (by omega) t3) (fun r1 r2 hr => ?_)
      obtain ⟨y1, y2, y3, y4, y5, y6, y7⟩ := hr
      refine ih r1.2 r2.2 N1 N2 (by omega) n1 n2 y1 y2 y3 (FC_tr f1 (FC_mo (fun i hi => Or.inr hi) y4)) (FC_tr f2 (FC_mo (fun i hi => Or.inr hi) y5)) ?_ y6 (fun h => y7 _ (by omega) (it h))
      rw [FC_30 y4 (by unfold Zn; omega) (by omega)]; exact t2
  refine T2_suc (fun k => by rw [x_closeFor]) (fun k => by rw [x_closeFor]) ?_
  refine T2_chk (by decide) (by decide) ?_
  rw [show (2 : Int32).toNatClampNeg = 2 from by decide, al hI 2 (by unfold Zn; omega) (InA_4 (by omega)), h2, n_sub1 (by omega), p1]
  exact lp (q - suI T F) σ1 σ2 _ _ (by omega) rfl rfl hI U1 U2 FC_rf FC_rf h2 (by rw [show suI T F + (q - suI T F) = q by omega]; exact h3) (fun h => h)
end CLF
end JnS238
section JnS239
/-! Statements on both sides (reference): an iterator of a for is opened. -/
section OPF
variable {T : Nat → Nat → Int32} {FN : Nat → Nat → Prop} {lc cn : Nat → Prop} {t w XC q : Nat} {σ ρ σ1 σ2 : MS}
/-- an iterator more in the state -/
def mOf (σ : MS) (t q : Nat) (z x : Int32) : MS := mAr (mAr (mAr (mSc (mSc σ 59 (nI t)) 64 z) 30 (5314 + q) x) 30 (8414 + q) 0) 30 3 (nI (q + 1))
theorem mOf_r {a t q : Nat} {z x : Int32} (h : a ≠ 30) : (mOf σ t q z x).2.2 a = σ.2.2 a := by
  unfold mOf
  rw [mAr_o h, mAr_o h, mAr_o h]; rfl
theorem mOf_o {t q i : Nat} {z x : Int32} (h : i ≠ 5314 + q ∧ i ≠ 8414 + q ∧ i ≠ 3) : (mOf σ t q z x).2.2 30 i = σ.2.2 30 i := by
  unfold mOf
  rw [mAr_s, upd_other h.2.2, mAr_s, upd_other h.2.1, mAr_s, upd_other h.1]; rfl
theorem mOf_3 {t q : Nat} {z x : Int32} : (mOf σ t q z x).2.2 30 3 = nI (q + 1) := by unfold mOf; rw [mAr_s, upd_same]
theorem mOf_v {t q : Nat} {z x : Int32} : (mOf σ t q z x).2.2 30 (5314 + q) = x := by
  unfold mOf
  rw [mAr_s, upd_other (by omega), mAr_s, upd_other (by omega), mAr_s, upd_same]
theorem mOf_i {t q : Nat} {z x : Int32} : (mOf σ t q z x).2.2 30 (8414 + q) = 0 := by
  unfold mOf
  rw [mAr_s, upd_other (by omega), mAr_s, upd_same]
theorem FC_of {t : Nat} {z x : Int32} (hq : q < 3100) : FCt (fun i => i = 3 ∨ i = 8414 + q) σ (mOf σ t q z x) := by
  refine ⟨fun j _ _ h3 _ h5 => ?_, fun a i h1 h2 _ h4 => ?_, mOf_r (by decide)⟩
  · show upd (upd σ.1 59 _) 64 _ j = _
    rw [upd_other h5, upd_other h3]
  · by_cases e : a = 30
    · subst e
      exact mOf_o ⟨fun e => h2 (by rw [e]; unfold Zn; omega), fun e => h4 ⟨rfl, Or.inr e⟩, fun e => h4 ⟨rfl, Or.inl e⟩⟩
    · rw [mOf_r e]
/-- the totals -/
theorem UT_of {g : Nat → Prop} {l : List Nat} {B h v : Nat} (hS : HS g l B h σ) (hU : UT σ) (hq : q < 3100) (h3 : σ.2.2 30 3 = nI q) (gv : v < 3 ∨ g v) (hle : ∀ P, σ.1 63 = nI P → P ≤ 20 → StS σ + szN (σ.2.2 28) v + suN (PtS σ) P ≤ 40000) : UT (mOf σ t q (nI (StS σ + szN (σ.2.2 28) v)) (nI v)) := by
  have bv := HS_vb hS gv
  have U := hU
  obtain ⟨h64, P, h63, hP, h65, h32, hl, _⟩ := U
  obtain ⟨c, c1, c2, c3⟩ := UT_cw hU
  have s64 : (mOf σ t q (nI (StS σ + szN (σ.2.2 28) v)) (nI v)).1 64 = nI (StS σ + szN (σ.2.2 28) v) := rfl
  have s63 : (mOf σ t q (nI (StS σ + szN (σ.2.2 28) v)) (nI v)).1 63 = σ.1 63 := rfl
  have s65 : (mOf σ t q (nI (StS σ + szN (σ.2.2 28) v)) (nI v)).1 65 = σ.1 65 := rfl
  have s30 : (mOf σ t q (nI (StS σ + szN (σ.2.2 28) v)) (nI v)).1 30 = σ.1 30 := rfl
  have r : ∀ a, a ≠ 30 → (mOf σ t q (nI (StS σ + szN (σ.2.2 28) v)) (nI v)).2.2 a = σ.2.2 a := fun a h => mOf_r h
  have o : ∀ i, i ≠ 5314 + q ∧ i ≠ 8414 + q ∧ i ≠ 3 → (mOf σ t q (nI (StS σ + szN (σ.2.2 28) v)) (nI v)).2.2 30 i = σ.2.2 30 i := fun i h => mOf_o h
  have n3 : (mOf σ t q (nI (StS σ + szN (σ.2.2 28) v)) (nI v)).2.2 30 3 = nI (q + 1) := mOf_3
  have nv : (mOf σ t q (nI (StS σ + szN (σ.2.2 28) v)) (nI v)).2.2 30 (5314 + q) = nI v := mOf_v
  generalize mOf σ t q (nI (StS σ + szN (σ.2.2 28) v)) (nI v) = ρ at *
  have st : ∀ j, StI (ρ.2.2 30) 0 j ↔ (StI (σ.2.2 30) 0 j ∨ j = 5314 + q) := fun j => by
    unfold StI
    rw [show (0 + 3) = 3 from rfl, n3, h3, o (0 + 1) (by omega), c1, n_cl (p := q) (by omega), n_cl (p := q + 1) (by omega), n_cl (p := c) (by omega)]
    omega
  have nu : ∀ j, NUa (kC σ) (ρ.2.2 30) 0 j ↔ NUa (kC σ) (σ.2.2 30) 0 j := fun j => NUa_m (fun j h1 h2 _ => o _ (by omega))
  have bi : ∀ j, StI (σ.2.2 30) 0 j → j ≠ 5314 + q ∧ j ≠ 8414 + q ∧ j ≠ 3 := fun j hj => by
    unfold StI at hj
    rw [show (0 + 3) = 3 from rfl, h3, c1, n_cl (p := q) (by omega), n_cl (p := c) (by omega)] at hj
    omega
  have ci : CtA (kC σ) (ρ.2.2 30) 0 (5314 + q) := ⟨(st _).mpr (Or.inr (by omega)), by rintro (z | z) <;> omega⟩
  have cn : ¬ CtA (kC σ) (σ.2.2 30) 0 (5314 + q) := fun z => (bi _ z.1).1 (by omega)
  have sS : StS ρ = StS σ + szN (σ.2.2 28) v := by
    have := suN_1 (f := szP (σ.2.2 28) (kC σ) (σ.2.2 30) 0) (g := szP (σ.2.2 28) (kC σ) (ρ.2.2 30) 0) (i := 5314 + q) (n := 11514) (by omega) (fun j _ hj => by
      unfold szP
      have e : CtA (kC σ) (ρ.2.2 30) 0 j ↔ CtA (kC σ) (σ.2.2 30) 0 j := by
        unfold CtA; rw [st, nu]
        constructor
        · intro z; exact ⟨z.1.resolve_right (by omega), z.2⟩
        · intro z; exact ⟨Or.inl z.1, z.2⟩
      by_cases y : CtA (kC σ) (σ.2.2 30) 0 j
      · rw [if_pos y, if_pos (e.mpr y), o _ (bi _ y.1)]
      · rw [if_neg y, if_neg (fun z => y (e.mp z))])
    have g0 : szP (σ.2.2 28) (kC σ) (ρ.2.2 30) 0 (5314 + q) = szN (σ.2.2 28) v := by
      unfold szP
      rw [if_pos ci, Nat.zero_add, nv, n_cl (by omega)]
    have f0 : szP (σ.2.2 28) (kC σ) (σ.2.2 30) 0 (5314 + q) = 0 := by unfold szP; rw [if_neg cn]
    rw [f0, g0] at this
    unfold StS
    rw [r 28 (by decide), kC_r (r 20 (by decide)) (r 21 (by decide)) s30]
    unfold SzS
    omega
  refine UT_30 hU (fun a h1 _ => r a h1) s63 s65 s30 (by rw [s64, sS]) (Or.inr (fun P h1 h2 => by rw [sS]; exact hle P h1 h2)) (fun i h1 h2 => ?_) (CWa_c ⟨c, c1, c2, c3⟩ (o _ (by omega)) (fun j h1 h2 => o _ (by omega)))
  have h2 := (nu i).mp h2
  rcases (st i).mp h1 with z | z
  · rw [o i (bi i z)]; exact UT_nu hU i z h2
  · rw [z] at h2
    rcases h2 with y | y <;> omega
/-- behind openFor -/
def OFq (b t w XC q : Nat) (σ1 σ2 : MS) (r1 r2 : Int32 × MS) : Prop := FCt (fun i => i = 3 ∨ i = 8414 + q) σ1 r1.2 ∧ FCt (fun i => i = 3 ∨ i = 8414 + q) σ2 r2.2 ∧ UT r1.2 ∧ UT r2.2 ∧ ((∃ w', w ≤ w' ∧ EI t w' XC r1.2 r2.2 ∧ r1.2.2.2 30 3 = nI (q + 1) ∧ ItS r1.2 (q + 1)) ∨ (EZ t b r1.2 ∧ EZ t b r2.2))
theorem E_openFor {e : Nat} (hX : XC ≤ 402000) (ht : t ≤ w + 17000) (hS : Sc1 T FN lc cn σ1) (hI : EI t w XC σ1 σ2) (U1 : UT σ1) (U2 : UT σ2) (he : (1 ≤ e ∧ e < LNo T % 70001)) (hW : Wx0 T FN lc (T 7 e)) (hq : q < 3100) (h3 : σ1.2.2 30 3 = nI q) (hIt : ItS σ1 q) {L1 L2 : Nat → Int32} (d1 : L1 1 = nI e) (d2 : L2 1 = nI e) : T2 (fun k => x_openFor k 0 L1 σ1) (fun k => x_openFor k 0 L2 σ2) (OFq 179300 t w XC q σ1 σ2) := by
  have hS2 := Sc1_ei hS hI
  refine T2_suc (fun k => by rw [x_openFor]) (fun k => by rw [x_openFor]) ?_
  rw [d1, d2]
  refine T2_chk (n_in (by omega) (by omega)) (n_in (by omega) (by omega)) ?_
  rw [n_cl (p := e) (by omega), hS.1.1.1 7 _ (by omega) (by omega) (by omega), hS2.1.1.1 7 _ (by omega) (by omega) (by omega)]
  refine T2_ob (E_eval hX ht hS.1 hW hI rfl rfl) (fun r1 r2 hr => ?_)
  obtain ⟨f1, f2, hr⟩ := hr
  have V1 := UT_fe f1 U1
  have V2 := UT_fe f2 U2
  rcases hr with ⟨w2, hw2, hJ⟩ | ⟨z1, z2⟩
  case inr =>
    refine T2_ite ⟨fun z => absurd z (EZ_le z1), fun z => absurd z (EZ_le z2)⟩ (fun z _ => absurd z (EZ_le z1)) (fun _ _ => ?_)
    exact T2_some ⟨FC_fe f1, FC_fe f2, V1, V2, Or.inr ⟨z1, z2⟩⟩
  obtain ⟨e1, e2⟩ := EI_e hJ
  rw [e1, e2]
  refine T2_ite Iff.rfl (fun _ _ => ?_) (fun z _ => absurd (by decide) z)
  have g3 : r1.2.2.2 30 3 = nI q := by rw [f1.2.1 30 3 (by unfold AlR; omega) (by unfold Zn; omega) (by omega)]; exact h3
  have it1 := ItS_fs (FS_fe f1) h3 (by omega) (Nat.le_refl _) hIt
  generalize r1.2 = τ1 at *
  generalize r2.2 = τ2 at *
  obtain ⟨t1, t2⟩ := EI_59 hJ
  have hJ0 := hJ
  have hD := EI_dn (show t ≤ t + 1 by omega) hJ
  obtain ⟨g1, l1, B1, h1, X1, g2, l2, B2, h2, X2, m1, m2, hR, _⟩ := hJ0
  obtain ⟨va, vb, va1, va2, va3, va4, va5, va6, va7⟩ := hR.1 29 t (Or.inl ⟨rfl, by omega⟩) (by unfold VwR; omega)
  have al : ∀ j, AlS j → τ2.1 j = τ1.1 j := fun j h => (hR.2.2.1 j h).symm
  have k3 : τ2.2.2 30 3 = nI q := (hR.2.1 30 3 (by unfold AlR; omega) (by unfold Zn; omega) (InA_4 (by omega))).symm.trans g3
  obtain ⟨sz, _, kd⟩ := EVb_sz va5
  have F1 : FE σ1 (mSc τ1 59 (nI t)) := FE_tr f1 (FE_sc (by omega))
  have F2 : FE σ2 (mSc τ2 59 (nI t)) := FE_tr f2 (FE_sc (by omega))
  refine T2_suc (fun k => by rw [x_openFor]) (fun k => by rw [x_openFor]) ?_
  refine T2_ob (T2_t (s_pop t1 (by omega) _) (s_pop t2 (by omega) _)) (fun y z hy => ?_)
  rw [hy.1, hy.2, va1, va3]
  refine T2_ob (T2_t (s_isRow (σ := mSc τ1 59 (nI t)) (HS_c m1.1 rfl rfl rfl) va2 rfl) (s_isRow (σ := mSc τ2 59 (nI t)) (HS_c m2.1 rfl rfl rfl) va4 rfl)) (fun y z hy => ?_)
  obtain ⟨⟨y1, y2⟩, ⟨z1, z2⟩⟩ := hy
  have y2 : (y.1 = 0 ∧ kdN (τ1.2.2 28) va < 4) ∨ (y.1 = 1 ∧ 4 ≤ kdN (τ1.2.2 28) va) := y2
  have z2 : (z.1 = 0 ∧ kdN (τ2.2.2 28) vb < 4) ∨ (z.1 = 1 ∧ 4 ≤ kdN (τ2.2.2 28) vb) := z2
  rw [kd] at z2
  rw [y1, z1]
  have fail : ∀ c : Nat, c ≤ 11 → ¬ nI c = 0 → T2 (fun k => ob (x_fail k 0 (upd (fun _ => 0) 1 (nI c)) (mSc τ1 59 (nI t))) (fun r => some (0, r.2))) (fun k => ob (x_fail k 0 (upd (fun _ => 0) 1 (nI c)) (mSc τ2 59 (nI t))) (fun r => some (0, r.2))) (OFq 179300 t w XC q σ1 σ2) := fun c c1 c2 => by
    refine T2_ob (T2_t (s_fail _ _) (s_fail _ _)) (fun y z hy => ?_)
    rw [hy.1, hy.2]
    obtain ⟨z1, z2⟩ := E_er (a := t) (b := 179300) (e := c) (by omega) hD c1 c2 (Nat.le_refl _) (by omega)
    exact T2_some ⟨FC_fe (FE_tr F1 FE_er), FC_fe (FE_tr F2 FE_er), UT_fe (FE_tr F1 FE_er) U1, UT_fe (FE_tr F2 FE_er) U2, Or.inr ⟨z1, z2⟩⟩
  refine T2_ite ?_ (fun y0 _ => ?_) (fun y0 _ => ?_)
  · rcases y2 with y2 | y2 <;> rcases z2 with z2 | z2
    · rw [y2.1, z2.1]
    · omega
    · omega
    · rw [y2.1, z2.1]
  · exact fail 1 (by omega) (by decide)
  have k4 : 4 ≤ kdN (τ1.2.2 28) va := by
    rcases y2 with y2 | y2
    · exact absurd y2.1 y0
    · exact y2.2
  have bs := szN_b m1.1 va2
  have W1 := V1
  have W2 := V2
  obtain ⟨h64, P, h63, hP, h65, _, hl, _⟩ := W1
  obtain ⟨k64, P', k63, hP', k65, _, kl, _⟩ := W2
  have eS : StS τ2 = StS τ1 := (n_eq (by omega) (by omega)).mp (k64.symm.trans ((al 64 (by unfold AlS; omega)).trans h64))
  have eP : P' = P := (n_eq (by omega) (by omega)).mp (k63.symm.trans ((al 63 (by unfold AlS; omega)).trans h63))
  subst eP
  have eR : suN (PtS τ2) P' = suN (PtS τ1) P' := (n_eq (by omega) (by omega)).mp (k65.symm.trans ((al 65 (by unfold AlS; omega)).trans h65))
  refine T2_suc (fun k => by rw [x_openFor]) (fun k => by rw [x_openFor]) ?_
  refine T2_ob (T2_t (s_size (σ := mSc τ1 59 (nI t)) (HS_c m1.1 rfl rfl rfl) va2 rfl) (s_size (σ := mSc τ2 59 (nI t)) (HS_c m2.1 rfl rfl rfl) va4 rfl)) (fun y z hy => ?_)
  rw [hy.1, hy.2]
  have ar : τ1.1 64 + τ1.1 65 + nI (szN (τ1.2.2 28) va) = nI (StS τ1 + suN (PtS τ1) P' + szN (τ1.2.2 28) va) := by
    rw [h64, h65, n_add (by omega), n_add (by omega)]
  have ar2 : τ2.1 64 + τ2.1 65 + nI (szN (τ1.2.2 28) va) = nI (StS τ1 + suN (PtS τ1) P' + szN (τ1.2.2 28) va) := by
    rw [al 64 (by unfold AlS; omega), al 65 (by unfold AlS; omega)]; exact ar
  have sz' : szN ((mSc τ2 59 (nI t)).2.2 28) vb = szN (τ1.2.2 28) va := sz
  show T2 (fun k => if τ1.1 64 + τ1.1 65 + nI (szN (τ1.2.2 28) va) ≤ 40000 then x_openFor k 3 (upd L1 2 (nI va)) (mSc τ1 59 (nI t)) else ob (x_fail k 0 (upd (fun _ => 0) 1 6) (mSc τ1 59 (nI t))) (fun r3 => some (0, r3.2))) (fun k => if τ2.1 64 + τ2.1 65 + nI (szN ((mSc τ2 59 (nI t)).2.2 28) vb) ≤ 40000 then x_openFor k 3 (upd L2 2 (nI vb)) (mSc τ2 59 (nI t)) else ob (x_fail k 0 (upd (fun _ => 0) 1 6) (mSc τ2 59 (nI t))) (fun r3 => some (0, r3.2))) _
  rw [sz', ar, ar2]
  refine T2_ite Iff.rfl (fun le _ => ?_) (fun _ _ => fail 6 (by omega) (by decide))
  have le := (n_le (q := 40000) (by omega) (by decide)).mp le
  -- the end
  have tail : ∀ (τ : MS) (v : Nat) (L : Nat → Int32) (g : Nat → Prop) (l : List Nat) (B h : Nat), HS g l B h τ → (v < 3 ∨ g v) → τ.1 64 = nI (StS τ) → StS τ ≤ 40000 → szN (τ.2.2 28) v ≤ 1000 → τ.2.2 30 3 = nI q → L 2 = nI v → Tm (fun k => x_openFor k 3 L (mSc τ 59 (nI t))) (fun r => r = (0, mOf τ t q (nI (StS τ + szN (τ.2.2 28) v)) (nI v))) := by
    intro τ v L g l B h hS gv h64 hle hsz h3 d
    refine Tm_suc (fun k => by rw [x_openFor]) ?_
    refine Tm_ob (s_size (σ := mSc τ 59 (nI t)) (HS_c hS rfl rfl rfl) gv (by exact d)) (fun r hr => ?_)
    rw [hr]
    show Tm (fun k => x_openFor k 4 L (mSc (mSc τ 59 (nI t)) 64 (τ.1 64 + nI (szN (τ.2.2 28) v)))) _
    rw [h64, n_add (by omega)]
    refine Tm_suc (fun k => by rw [x_openFor]) ?_
    refine Tm_chk (by decide) ?_
    show Tm (fun k => if ¬ (5314 + τ.2.2 30 (3 : Int32).toNatClampNeg < 0 ∨ 11514 ≤ (5314 + τ.2.2 30 (3 : Int32).toNatClampNeg).toNatClampNeg) then x_openFor k 5 L (mAr (mSc (mSc τ 59 (nI t)) 64 (nI (StS τ + szN (τ.2.2 28) v))) 30 (5314 + τ.2.2 30 (3 : Int32).toNatClampNeg).toNatClampNeg (L 2)) else none) _
    rw [show (3 : Int32).toNatClampNeg = 3 from by decide, h3, show (5314 : Int32) + nI q = nI (5314 + q) from n_add (p := 5314) (by omega)]
    refine Tm_chk (n_in (by omega) (by omega)) ?_
    rw [n_cl (p := 5314 + q) (by omega), d]
    have y3 : (mAr (mSc (mSc τ 59 (nI t)) 64 (nI (StS τ + szN (τ.2.2 28) v))) 30 (5314 + q) (nI v)).2.2 30 3 = nI q := by
      rw [mAr_s, upd_other (by omega)]; exact h3
    refine Tm_suc (fun k => by rw [x_openFor]) ?_
    refine Tm_chk (by decide) ?_
    rw [show (3 : Int32).toNatClampNeg = 3 from by decide, y3, show (8414 : Int32) + nI q = nI (8414 + q) from n_add (p := 8414) (by omega)]
    refine Tm_chk (n_in (by omega) (by omega)) ?_
    rw [n_cl (p := 8414 + q) (by omega)]
    have y4 : (mAr (mAr (mSc (mSc τ 59 (nI t)) 64 (nI (StS τ + szN (τ.2.2 28) v))) 30 (5314 + q) (nI v)) 30 (8414 + q) 0).2.2 30 3 = nI q := by
      rw [mAr_s, upd_other (by omega)]; exact y3
    refine Tm_suc (fun k => by rw [x_openFor]) ?_
    refine Tm_chk (by decide) ?_
    refine Tm_chk (by decide) ?_
    show Tm (fun k => some (0, mAr (mAr (mAr (mSc (mSc τ 59 (nI t)) 64 (nI (StS τ + szN (τ.2.2 28) v))) 30 (5314 + q) (nI v)) 30 (8414 + q) 0) 30 (3 : Int32).toNatClampNeg ((mAr (mAr (mSc (mSc τ 59 (nI t)) 64 (nI (StS τ + szN (τ.2.2 28) v))) 30 (5314 + q) (nI v)) 30 (8414 + q) 0).2.2 30 (3 : Int32).toNatClampNeg + 1))) _
    rw [show (3 : Int32).toNatClampNeg = 3 from by decide, y4, n_add1]
    exact Tm_some rfl
  refine T2_mono (T2_t (tail τ1 va _ g1 l1 B1 h1 m1.1 va2 h64 (by omega) (by omega) g3 rfl) (tail τ2 vb _ g2 l2 B2 h2 m2.1 va4 k64 (by omega) (by rw [sz]; omega) k3 rfl)) (fun y z hy => ?_)
  rw [hy.1, hy.2, sz, eS]
  have w1 := UT_of (t := t) m1.1 V1 hq g3 va2 (fun P h1 h2 => by
    have : P = P' := (n_eq (by omega) (by omega)).mp (h1.symm.trans h63)
    rw [this]; omega)
  have w2' := UT_of (t := t) m2.1 V2 hq k3 va4 (fun P h1 h2 => by
    have : P = P' := (n_eq (by omega) (by omega)).mp (h1.symm.trans k63)
    rw [this, eS, eR, sz]; omega)
  rw [sz, eS] at w2'
  refine ⟨FC_tr (FC_fe f1) (FC_of hq), FC_tr (FC_fe f2) (FC_of hq), w1, w2', Or.inl ⟨w2, hw2, ?_, mOf_3, ?_⟩⟩
  · refine EI_mv hJ (fun j hj => ?_) (fun j hj => ?_) rfl rfl (fun a _ h _ _ _ => mOf_r h) (fun a _ h _ _ _ => mOf_r h) rfl ?_ (fun j hj hn => ?_) (fun j hj hn => ?_) (fun j hn => ?_) (fun j hj => ?_) (fun a j ha z => ?_)
    · show upd (upd τ1.1 59 _) 64 _ j = _
      rw [upd_other (by omega), upd_other (by omega)]
    · show upd (upd τ2.1 59 _) 64 _ j = _
      rw [upd_other (by omega), upd_other (by omega)]
    · obtain ⟨P, e, y1, y2, y3, y4, ⟨c, n, z1, z2, z3, z4⟩, y6⟩ := m1.2.1
      refine ⟨P, e, y1, y2, y3, y4, ⟨c, q + 1, (mOf_o (by omega)).trans z1, z2, mOf_3, by omega⟩, ?_⟩
      rw [mOf_r (by decide)]; exact y6
    · by_cases e3 : j = 3
      · rw [e3, mOf_3, mOf_3]
      · by_cases e8 : j = 8414 + q
        · rw [e8, mOf_i, mOf_i]
        · have e5 : j ≠ 5314 + q := fun e => hj (by rw [e]; unfold Zn; omega)
          rw [mOf_o ⟨e5, e8, e3⟩, mOf_o ⟨e5, e8, e3⟩]; 
          refine hR.2.1 30 j (by unfold AlR; omega) hj (fun y => hn ?_)
          unfold InA at y ⊢
          rcases y with y | y
          · refine Or.inl ⟨rfl, ?_⟩
            have y := y.2
            unfold IaN at y ⊢
            rw [Nat.zero_add, Nat.zero_add, Nat.zero_add] at y ⊢
            rw [g3, n_cl (p := q) (by omega)] at y
            rw [mOf_3, mOf_o (i := 1) (by omega), mOf_o (i := 2) (by omega), n_cl (p := q + 1) (by omega)]
            omega
          · omega
    · rw [mOf_r (by decide), mOf_r (by decide)]; exact hR.2.1 31 j (by unfold AlR; omega) hj (fun y => hn (InA_31 (σ := τ1) rfl (mOf_r (by decide)) y))
    · rw [mOf_r (by decide), mOf_r (by decide)]; exact hR.2.1 32 j (by unfold AlR; omega) (by unfold Zn; omega) (fun y => hn (InA_32 (σ := τ1) rfl y))
    · show upd (upd τ1.1 59 _) 64 _ j = upd (upd τ2.1 59 _) 64 _ j
      by_cases e4 : j = 64
      · rw [e4, upd_same, upd_same]
      · by_cases e5 : j = 59
        · rw [e5]; rfl
        · rw [upd_other e4, upd_other e4, upd_other e5, upd_other e5]; exact hR.2.2.1 j hj
    · by_cases e5 : a = 30 ∧ j = 5314 + q
      · refine Or.inl ⟨29, t, by unfold VwR; omega, Or.inl ⟨rfl, by omega⟩, ?_, ?_⟩
        · rw [e5.1, e5.2, mOf_v, va1]
        · rw [e5.1, e5.2, mOf_v, va3]
      · have z' : RtP (t + 1) τ1 a j := by
          rcases z with z | ⟨z, y⟩ | ⟨z, p, hp, y⟩ | z | z
          · exact Or.inl ⟨z.1, by omega⟩
          · refine Or.inr (Or.inl ⟨z, ?_⟩)
            unfold StI at y ⊢
            rw [show (0 + 3) = 3 from rfl, mOf_3, mOf_o (i := 0 + 1) (by omega), n_cl (p := q + 1) (by omega)] at y
            rw [show (0 + 3) = 3 from rfl, g3, n_cl (p := q) (by omega)]
            omega
          · refine Or.inr (Or.inr (Or.inl ⟨z, p, hp, ?_⟩))
            rw [mOf_r (by decide)] at y; exact y
          · exact Or.inr (Or.inr (Or.inr (Or.inl z)))
          · have : a = 34 ∨ a = 36 ∨ a = 37 ∨ a = 38 ∨ a = 40 := by omega
            omega
        have o : ∀ (τ : MS) (z x : Int32), (mOf τ t q z x).2.2 a j = τ.2.2 a j := fun τ z x => by
          by_cases e : a = 30
          · subst e
            have zn := Zn_rt m1.2.1 z' (by unfold AlR; omega)
            exact mOf_o ⟨fun e => e5 ⟨rfl, e⟩, fun e => by unfold Zn at zn; omega, fun e => by unfold Zn at zn; omega⟩
          · rw [mOf_r e]
        exact Or.inl ⟨a, j, by unfold VwR; omega, z', o _ _ _, o _ _ _⟩
  · intro i hi
    by_cases e : i = q
    · subst e
      unfold szV
      rw [mOf_r (by decide), mOf_v, mOf_i, n_cl (p := va) (by omega)]
      have gv := kdN_ge m1.1 va2 (by omega)
      obtain ⟨k, n, s, hh, go, b1, b2⟩ := HS_at m1.1 gv
      refine ⟨k4, n, 0, ?_, go.2.2.2.2.2.2.2.1, rfl, by omega⟩
      show (if va < 3 then 0 else τ1.2.2 28 (va + 1)) = nI n
      rw [if_neg (by omega)]; exact go.2.1
    · have := it1 i (by omega)
      unfold szV at this ⊢
      rw [mOf_r (by decide), mOf_o (i := 5314 + i) (by omega), mOf_o (i := 8414 + i) (by omega)]
      exact this
/-- the i-th of a list -/
def nxt (T : Nat → Nat → Int32) : Nat → Int32 → Int32
  | 0, x => x
  | i + 1, x => nxt T i (T 9 x.toNatClampNeg)
/-- the i-th iterator of a for -/
theorem s_iterOf {k : Nat} {x : Int32} (hT : ∀ a i, 4 ≤ a → a ≤ 11 → ((a ≤ 9 → (1 ≤ i ∧ i < LNo T % 70001)) ∧ (10 ≤ a → i < SNo T % 402)) → σ.2.2 a i = T a i) {m i : Nat} (hm : (1 ≤ m ∧ m < LNo T % 70001)) (hL : ItL T FN lc cn k (T 5 m)) (hi : i < k) {L : Nat → Int32} (d1 : L 1 = nI m) (d2 : L 2 = nI i) (hk : k ≤ 100) : Tm (fun n => x_iterOf n 0 L σ) (fun r => r.2 = σ ∧ r.1 = nxt T i (T 5 m) ∧ ∃ e, r.1 = nI e ∧ (1 ≤ e ∧ e < LNo T % 70001) ∧ (∃ q, 1 ≤ q ∧ q ≤ 60 ∧ NmL T lc cn q (T 6 e)) ∧ Wx0 T FN lc (T 7 e) ∧ ItL T FN lc cn (k - i - 1) (T 9 e)) := by
  have lp : ∀ (d j : Nat) (x : Int32) (N : Nat → Int32), d + j = i → ItL T FN lc cn (k - j) x → N 2 = nI i → N 3 = x → N 4 = nI j → Tm (fun n => x_iterOf n 1 N σ) (fun r => r.2 = σ ∧ r.1 = nxt T d x ∧ ∃ e, r.1 = nI e ∧ (1 ≤ e ∧ e < LNo T % 70001) ∧ (∃ q, 1 ≤ q ∧ q ≤ 60 ∧ NmL T lc cn q (T 6 e)) ∧ Wx0 T FN lc (T 7 e) ∧ ItL T FN lc cn (k - i - 1) (T 9 e)) := by
    intro d
    induction d with
    | zero =>
      intro j x N hj hx n2 n3 n4
      have e : j = i := by omega
      subst e
      refine Tm_suc (fun n => by rw [x_iterOf]) ?_
      rw [n2, n4]
      refine Tm_ite (fun _ => ?_) (fun z => absurd (Int32.le_refl _) z)
      refine Tm_suc (fun n => by rw [x_iterOf]) ?_
      rw [n3]
      obtain ⟨c, ec⟩ : ∃ c, k - j = c + 1 := ⟨k - j - 1, by omega⟩
      rw [ec] at hx
      obtain ⟨e, xe, he, h1, h2, h3⟩ := hx
      exact Tm_some ⟨rfl, rfl, e, xe, he, h1, h2, by rw [show k - j - 1 = c by omega]; exact h3⟩
    | succ d ih =>
      intro j x N hj hx n2 n3 n4
      obtain ⟨c, ec⟩ : ∃ c, k - j = c + 1 := ⟨k - j - 1, by omega⟩
      rw [ec] at hx
      obtain ⟨e, xe, he, h1, h2, h3⟩ := hx
      refine Tm_suc (fun n => by rw [x_iterOf]) ?_
      rw [n2, n3, n4, xe]
      refine Tm_ite (fun z => ?_) (fun _ => ?_)
      · have := (n_le (by omega) (by omega)).mp z
        omega
      refine Tm_chk (n_in (by omega) (by omega)) ?_
      rw [n_cl (p := e) (by omega), hT 9 _ (by omega) (by omega) (by omega), n_add1]
      have en : nxt T (d + 1) (nI e) = nxt T d (T 9 e) := by
        show nxt T d (T 9 (nI e).toNatClampNeg) = _
        rw [n_cl (p := e) (by omega)]
      rw [en]
      exact ih (j + 1) (T 9 e) _ (by omega) (by rw [show k - (j + 1) = c by omega]; exact h3) n2 rfl rfl
  refine Tm_suc (fun n => by rw [x_iterOf]) ?_
  rw [d1]
  refine Tm_chk (n_in (by omega) (by omega)) ?_
  rw [n_cl (p := m) (by omega), hT 5 _ (by omega) (by omega) (by omega)]
  exact lp i 0 (T 5 m) _ rfl hL d2 rfl rfl
end OPF
end JnS239

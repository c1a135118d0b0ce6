/-! Statements on both sides (reference): a target is written. -/
theorem n_am1 {p : Nat} (h : p < 2147483647) : nI (p + 1) + (-1) = nI p := by
  rw [← Int32.sub_eq_add_neg]; exact n_sub1 h
section WRT
variable {T : Nat → Nat → Int32} {FN : Nat → Nat → Prop} {lc cn : Nat → Prop} {t w XC k u p s : Nat} {σ σ1 σ2 ρ : MS} {ch : Nat → Nat}
theorem w_9 {τ : MS} {N : Nat → Int32} : Tm (fun n => x_write n 9 N τ) (fun r => r = (0, τ)) := Tm_suc (fun n => by rw [x_write]) (Tm_some rfl)
/-- with an error the top goes back -/
theorem w_z {i : Nat} (hi : (1 ≤ ch i ∧ ch i < LNo T % 70001)) {τ : MS} (he : ¬ τ.1 56 = 0) {N : Nat → Int32} (n8 : N 8 = nI (ch i)) (n4 : N 4 = nI t) : Tm (fun n => x_write n 2 N τ) (fun r => r = (0, mSc τ 59 (nI t))) := by
  have w7 : Tm (fun n => x_write n 7 N τ) (fun r => r = (0, mSc τ 59 (nI t))) := by
    refine Tm_suc (fun n => by rw [x_write]) ?_
    rw [n4]
    refine Tm_suc (fun n => by rw [x_write]) ?_
    exact Tm_ite (fun z => absurd z he) (fun _ => w_9)
  refine Tm_suc (fun n => by rw [x_write]) ?_
  rw [n8]
  refine Tm_chk (n_in (by omega) (by omega)) ?_
  exact Tm_ite (fun _ => w7) (fun _ => Tm_ite (fun z => absurd z he) (fun _ => w7))
theorem s_writeZ {τ : MS} (he : ¬ τ.1 56 ≤ 0) {L : Nat → Int32} : Tm (fun n => x_write n 0 L τ) (fun r => r = (0, τ)) := by
  refine Tm_suc (fun n => by rw [x_write]) ?_
  exact Tm_ite (fun z => absurd z he) (fun _ => Tm_some rfl)
theorem SQ_z {b a : Nat} {τ1 τ2 : MS} (f1 : FE σ1 τ1) (f2 : FE σ2 τ2) (U1 : UT σ1) (U2 : UT σ2) (ha : t ≤ a) (hb : t ≤ b) (z1 : EZ a b τ1) (z2 : EZ a b τ2) : SQ b t w XC σ1 σ2 (mSc τ1 59 (nI t)) (mSc τ2 59 (nI t)) := ⟨FS_tr (FS_fe f1) (FS_sc (by omega)), FS_tr (FS_fe f2) (FS_sc (by omega)), UT_c (UT_fe f1 U1) rfl rfl rfl rfl, UT_c (UT_fe f2 U2) rfl rfl rfl rfl, Or.inr ⟨EZ_dn z1 ha hb, EZ_dn z2 ha hb⟩⟩
/-- the loop of write: part by part from the last one -/
theorem w_lp (hX : XC ≤ 402000) (h : Tgt T FN lc k ch) (hn : NmW T lc cn (ch 0) s) (hS : Sc1 T FN lc cn σ1) (hS2 : Sc1 T FN lc cn σ2) (U1 : UT σ1) (U2 : UT σ2) {TP : Nat} (hTP : t ≤ TP ∧ TP ≤ 130000 ∧ k ≤ TP) (hu : u + kys T ch k ≤ t) : ∀ (i : Nat), i ≤ k → ∀ (w' : Nat) (τ1 τ2 : MS) (N1 N2 : Nat → Int32), w ≤ w' → FE σ1 τ1 → FE σ2 τ2 → PKp t σ1 τ1 → EI (TP + 1) w' XC τ1 τ2 → N1 4 = nI t → N2 4 = nI t → N1 5 = nI (u + kys T ch i) → N2 5 = nI (u + kys T ch i) → N1 6 = nI (TP + i - k) → N2 6 = nI (TP + i - k) → N1 7 = nI TP → N2 7 = nI TP → N1 8 = nI (ch i) → N2 8 = nI (ch i) → T2 (fun n => x_write n 2 N1 τ1) (fun n => x_write n 2 N2 τ2) (fun r1 r2 => SQ 179300 t w XC σ1 σ2 r1.2 r2.2 ∧ (r1.2.1 56 = 0 → PKp t σ1 r1.2)) := by
  have tb : ∀ (τ1 τ2 : MS), FE σ1 τ1 → FE σ2 τ2 → ∀ a i, 4 ≤ a → a ≤ 9 → (1 ≤ i ∧ i < LNo T % 70001) → τ1.2.2 a i = T a i ∧ τ2.2.2 a i = T a i := fun τ1 τ2 f1 f2 a i h1 h2 h3 => ⟨(STb_fe hS.1.1 f1).1 a i h1 (by omega) ⟨fun _ => h3, fun z => by omega⟩, (STb_fe hS2.1.1 f2).1 a i h1 (by omega) ⟨fun _ => h3, fun z => by omega⟩⟩
  intro i
  induction i with
  | zero =>
    intro _ w' τ1 τ2 N1 N2 hw f1 f2 pk hJ a4 b4 a5 b5 a6 b6 a7 b7 a8 b8
    have b0 := h.1 0 (by omega)
    obtain ⟨e1, e2⟩ := EI_e hJ
    refine T2_suc (fun n => by rw [x_write]) (fun n => by rw [x_write]) ?_
    rw [a8, b8]
    refine T2_chk (n_in (by omega) (by omega)) (n_in (by omega) (by omega)) ?_
    rw [n_cl (p := ch 0) (by omega), (tb τ1 τ2 f1 f2 4 _ (by omega) (by omega) (by omega)).1, (tb τ1 τ2 f1 f2 4 _ (by omega) (by omega) (by omega)).2]
    refine T2_ite Iff.rfl (fun _ _ => ?_) (fun z _ => absurd h.2.1.1 z)
    refine T2_suc (fun n => by rw [x_write]) (fun n => by rw [x_write]) ?_
    rw [a4, b4]
    refine T2_suc (fun n => by rw [x_write]) (fun n => by rw [x_write]) ?_
    show T2 (fun n => if τ1.1 56 = 0 then _ else _) (fun n => if τ2.1 56 = 0 then _ else _) _
    rw [e1, e2, a7, b7, a8, b8]
    refine T2_ite Iff.rfl (fun _ _ => ?_) (fun z _ => absurd rfl z)
    refine T2_chk (n_in (by omega) (by omega)) (n_in (by omega) (by omega)) ?_
    rw [n_cl (p := TP) (by omega)]
    refine T2_ob (E_asgDP (u := t) (i := TP) hX (Sc1_fs hS (FS_fe f1)) hJ (UT_fe f1 U1) (UT_fe f2 U2) hn (by omega) (by omega) rfl rfl rfl rfl) (fun r1 r2 hr => ?_)
    obtain ⟨⟨g1, g2, g3, g4, g5⟩, as⟩ := hr
    have pk9 : PKp t σ1 r1.2 := PK_tr pk (PK_28 (as.1 28 (by decide)) (fun i _ => by rw [as.1 29 (by decide)]))
    refine T2_mono (T2_t w_9 w_9) (fun q1 q2 hq => ?_)
    rw [hq.1, hq.2]
    refine ⟨⟨FS_tr (FS_fe f1) g1, FS_tr (FS_fe f2) g2, g3, g4, ?_⟩, fun _ => pk9⟩
    rcases g5 with ⟨w2, hw2, g5⟩ | ⟨z1, z2⟩
    · exact Or.inl ⟨w2, by omega, g5⟩
    · exact Or.inr ⟨EZ_mo z1 (Nat.le_refl _) (by omega), EZ_mo z2 (Nat.le_refl _) (by omega)⟩
  | succ i ih =>
    intro hi w' τ1 τ2 N1 N2 hw f1 f2 pk hJ a4 b4 a5 b5 a6 b6 a7 b7 a8 b8
    have bi := h.1 i (by omega)
    have bj := h.1 (i + 1) hi
    have km := kys_mo (T := T) (ch := ch) (i := i + 1) (j := k) (by omega)
    have ek : kys T ch (i + 1) = kys T ch i + (if T 4 (ch (i + 1)) = 22 then 2 else 1) := rfl
    have k12 : 1 ≤ (if T 4 (ch (i + 1)) = 22 then 2 else 1) ∧ (if T 4 (ch (i + 1)) = 22 then 2 else 1) ≤ 2 := by split <;> omega
    obtain ⟨c6, c9, c4, c7, c8⟩ := h.2.2 i (by omega)
    obtain ⟨e1, e2⟩ := EI_e hJ
    rw [show TP + (i + 1) - k = TP + i - k + 1 by omega] at a6 b6
    -- behind an operation
    have five : ∀ (r1 r2 : MS) (g1 : Nat → Prop) (l1 : List Nat) (B1 h1 X1 : Nat) (g2 : Nat → Prop) (l2 : List Nat) (B2 h2 X2 : Nat), FE σ1 r1 → FE σ2 r2 → PKp t σ1 r1 → EIx (TP + 1) w' XC r1 r2 g1 l1 B1 h1 X1 g2 l2 B2 h2 X2 → ∀ (s1 s2 : Int32 × MS) (O1 O2 : Nat → Int32), O1 100 = s1.1 → O2 100 = s2.1 → O1 102 = nI TP → O2 102 = nI TP → O1 4 = nI t → O2 4 = nI t → O1 5 = nI (u + kys T ch i) → O2 5 = nI (u + kys T ch i) → O1 6 = nI (TP + i - k) → O2 6 = nI (TP + i - k) → O1 7 = nI TP → O2 7 = nI TP → O1 8 = nI (ch (i + 1)) → O2 8 = nI (ch (i + 1)) → (SO (TP + 1) w' XC g1 r1 s1 ∧ SO (TP + 1) w' XC g2 r2 s2 ∧ KS 8600 s1 s2 ∧ s1.2.1 95 = r1.1 95 ∧ s2.2.1 95 = r2.1 95) → T2 (fun n => x_write n 5 O1 s1.2) (fun n => x_write n 5 O2 s2.2) (fun r1 r2 => SQ 179300 t w XC σ1 σ2 r1.2 r2.2 ∧ (r1.2.1 56 = 0 → PKp t σ1 r1.2)) := by
      intro r1 r2 g1 l1 B1 h1 X1 g2 l2 B2 h2 X2 p1 p2 pk2 hX' s1 s2 O1 O2 o100 p100 o102 p102 o4 p4 o5 p5 o6 p6 o7 p7 o8 p8 hs
      obtain ⟨s1', s2', s3, s4, s5⟩ := hs
      obtain ⟨m1, m2, bR, j1, j2, _, _, _, _, _, _, _, ⟨ty1, ty2⟩, a, z1, z2⟩ := hX'
      refine T2_suc (fun n => by rw [x_write]) (fun n => by rw [x_write]) ?_
      rw [o100, p100, o102, p102]
      refine E_anS m1 m2 bR j1 j2 (by omega) ty1 ty2 ⟨a, s4.trans z1, z2⟩ (s4.trans ((bR.2.2.1 95 (by unfold AlS; omega)).trans s5.symm)) s1' s2' s3 (fun v1 v2 k1 k2 pk3 hv => ?_)
      have y1 := FE_tr p1 k1
      have y2 := FE_tr p2 k2
      refine T2_chk (n_in (by omega) (by omega)) (n_in (by omega) (by omega)) ?_
      rw [n_cl (p := TP) (by omega)]
      refine T2_suc (fun n => by rw [x_write]) (fun n => by rw [x_write]) ?_
      rw [o8, p8]
      refine T2_chk (n_in (by omega) (by omega)) (n_in (by omega) (by omega)) ?_
      rw [n_cl (p := ch (i + 1)) (by omega)]
      show T2 (fun n => x_write n 2 (upd O1 8 ((mAr v1.2 29 TP v1.1).2.2 6 (ch (i + 1)))) (mAr v1.2 29 TP v1.1)) (fun n => x_write n 2 (upd O2 8 ((mAr v2.2 29 TP v2.1).2.2 6 (ch (i + 1)))) (mAr v2.2 29 TP v2.1)) _
      rw [(tb _ _ y1 y2 6 _ (by omega) (by omega) (by omega)).1, (tb _ _ y1 y2 6 _ (by omega) (by omega) (by omega)).2, c6]
      rcases hv with ⟨w2, hw2, hv⟩ | ⟨y3, y4⟩
      · exact ih (by omega) w2 _ _ _ _ (by omega) y1 y2 (PK_tr pk2 (PK_mo (by omega) pk3)) hv o4 p4 o5 p5 o6 p6 o7 p7 rfl rfl
      · refine T2_mono (T2_t (w_z bi (EZ_e y3) rfl o4) (w_z bi (EZ_e y4) rfl p4)) (fun q1 q2 hq => ?_)
        rw [hq.1, hq.2]
        exact ⟨SQ_z y1 y2 U1 U2 (show t ≤ TP + 1 by omega) (by omega) (EZ_mo y3 (Nat.le_refl _) (by omega)) (EZ_mo y4 (Nat.le_refl _) (by omega)), fun z => absurd (show (mAr v1.2 29 TP v1.1).1 56 = 0 from z) (EZ_e y3)⟩
    refine T2_suc (fun n => by rw [x_write]) (fun n => by rw [x_write]) ?_
    rw [a8, b8, e1, e2]
    refine T2_chk (n_in (by omega) (by omega)) (n_in (by omega) (by omega)) ?_
    rw [n_cl (p := ch (i + 1)) (by omega), (tb τ1 τ2 f1 f2 4 _ (by omega) (by omega) (by omega)).1, (tb τ1 τ2 f1 f2 4 _ (by omega) (by omega) (by omega)).2]
    refine T2_ite Iff.rfl (fun z _ => absurd z (Tgt_7 h (by omega) hi)) (fun _ _ => ?_)
    refine T2_ite Iff.rfl (fun _ _ => ?_) (fun z _ => absurd rfl z)
    refine T2_chk (n_in3 (by omega) (by omega)) (n_in3 (by omega) (by omega)) ?_
    refine T2_ob (T2_t (s_keysP h (by omega) rfl) (s_keysP h (by omega) rfl)) (fun y z hy => ?_)
    rw [hy.1, hy.2]
    have ek5 : nI (u + kys T ch (i + 1)) - nI (if T 4 (ch (i + 1)) = 22 then 2 else 1) = nI (u + kys T ch i) := by
      rw [n_sub (by omega) (by omega), show u + kys T ch (i + 1) - (if T 4 (ch (i + 1)) = 22 then 2 else 1) = u + kys T ch i by omega]
    rw [a5, b5, a6, b6, a7, b7]
    refine T2_ob (E_swP (by omega) (by omega) hJ) (fun r1 r2 hr => ?_)
    obtain ⟨hr, pk4⟩ := hr
    obtain ⟨k1, k2, g1, l1, B1, h1, X1, g2, l2, B2, h2, X2, hX', rm1, rm2⟩ := hr
    have ff1 := FE_tr f1 k1
    have ff2 := FE_tr f2 k2
    have fv := five r1.2 r2.2 g1 l1 B1 h1 X1 g2 l2 B2 h2 X2 ff1 ff2 (PK_tr pk (PK_mo (by omega) pk4)) hX'
    have hX0 := hX'
    obtain ⟨m1, m2, aR, _, _, t1, o1, o2, _⟩ := hX'
    have t2 : r2.2.1 59 = nI (TP + 1) := (aR.2.2.1 59 (by unfold AlS; omega)).symm.trans t1
    refine T2_chk (n_in (by omega) (by omega)) (n_in (by omega) (by omega)) ?_
    refine T2_chk (n_in3 (by omega) (by omega)) (n_in3 (by omega) (by omega)) ?_
    rw [(tb _ _ ff1 ff2 4 _ (by omega) (by omega) (by omega)).1, (tb _ _ ff1 ff2 4 _ (by omega) (by omega) (by omega)).2]
    have P1 : VP g1 l1 B1 h1 (TP + 1) r1.2 := ⟨m1.1, t1, by omega, ⟨0, o1, by decide⟩⟩
    have P2 : VP g2 l2 B2 h2 (TP + 1) r2.2 := ⟨m2.1, t2, by omega, ⟨0, o2, by decide⟩⟩
    obtain ⟨va, vb, va1, va2, va3, va4, va5, va6, va7⟩ := aR.1 29 (TP + i - k) (Or.inl ⟨rfl, by omega⟩) (by unfold VwR; omega)
    obtain ⟨vc, vd, vc1, vc2, vc3, vc4, vc5, vc6, vc7⟩ := aR.1 29 (u + kys T ch i) (Or.inl ⟨rfl, by omega⟩) (by unfold VwR; omega)
    obtain ⟨vx, vy, vx1, vx2, vx3, vx4, vx5, vx6, vx7⟩ := aR.1 29 TP (Or.inl ⟨rfl, by omega⟩) (by unfold VwR; omega)
    have em : nI (TP + i - k + 1) + (-1) = nI (TP + i - k) := n_am1 (by omega)
    show T2 (fun n => if T 4 (ch (i + 1)) = 21 then (if ¬ (nI (TP + i - k + 1) + (-1) < 0 ∨ 185000 ≤ (nI (TP + i - k + 1) + (-1)).toNatClampNeg) then (if ¬ (nI (u + kys T ch (i + 1)) - nI (if T 4 (ch (i + 1)) = 22 then 2 else 1) < 0 ∨ 185000 ≤ (nI (u + kys T ch (i + 1)) - nI (if T 4 (ch (i + 1)) = 22 then 2 else 1)).toNatClampNeg) then _ else _) else _) else _) (fun n => if T 4 (ch (i + 1)) = 21 then (if ¬ (nI (TP + i - k + 1) + (-1) < 0 ∨ 185000 ≤ (nI (TP + i - k + 1) + (-1)).toNatClampNeg) then (if ¬ (nI (u + kys T ch (i + 1)) - nI (if T 4 (ch (i + 1)) = 22 then 2 else 1) < 0 ∨ 185000 ≤ (nI (u + kys T ch (i + 1)) - nI (if T 4 (ch (i + 1)) = 22 then 2 else 1)).toNatClampNeg) then _ else _) else _) else _) _
    rw [em, ek5, n_cl (p := TP) (by omega), n_cl (p := TP + i - k) (by omega), n_cl (p := u + kys T ch i) (by omega), va1, va3, vc1, vc3, vx1, vx3]
    refine T2_ite Iff.rfl (fun _ _ => ?_) (fun n21 _ => ?_)
    · refine T2_chk (n_in3 (by omega) (by omega)) (n_in3 (by omega) (by omega)) ?_
      refine T2_chk (n_in3 (by omega) (by omega)) (n_in3 (by omega) (by omega)) ?_
      refine T2_ob (E_opq (by omega) hX0 (s_putAt P1 va2 vc2 vx2 rfl rfl rfl) (s_putAt P2 va4 vc4 vx4 rfl rfl rfl) (fun n => k_putAt m1.1 m2.1 o1 o2 t1 t2 (by omega) (by omega) (by omega) va2 va4 va5 vc2 vc4 vc5 vx2 vx4 vx5 rfl rfl rfl rfl rfl rfl (fun j hj => ?_)) (fun k => wl_putAt k _ _ _) (fun k => wl_putAt k _ _ _) (c := 8600) (by omega)) (fun s1 s2 hs => fv s1 s2 _ _ rfl rfl rfl rfl a4 b4 rfl rfl rfl rfl a7 b7 a8 b8 hs)
      rw [upd_other (by omega), upd_other (by omega), upd_other (by omega), upd_other (by omega), upd_other (by omega), upd_other (by omega)]
    have three : ∀ (O1 O2 : Nat → Int32), O1 101 = nI TP → O2 101 = nI TP → O1 4 = nI t → O2 4 = nI t → O1 5 = nI (u + kys T ch i) → O2 5 = nI (u + kys T ch i) → O1 6 = nI (TP + i - k) → O2 6 = nI (TP + i - k) → O1 7 = nI TP → O2 7 = nI TP → O1 8 = nI (ch (i + 1)) → O2 8 = nI (ch (i + 1)) → O1 9 = nI vx → O2 9 = nI vy → T2 (fun n => x_write n 3 O1 r1.2) (fun n => x_write n 3 O2 r2.2) (fun r1 r2 => SQ 179300 t w XC σ1 σ2 r1.2 r2.2 ∧ (r1.2.1 56 = 0 → PKp t σ1 r1.2)) := by
      intro O1 O2 o101 p101 o4 p4 o5 p5 o6 p6 o7 p7 o8 p8 o9 p9
      refine T2_suc (fun n => by rw [x_write]) (fun n => by rw [x_write]) ?_
      rw [o8, p8, o5, p5, o6, p6, o9, p9, o101, p101]
      refine T2_chk (n_in (by omega) (by omega)) (n_in (by omega) (by omega)) ?_
      rw [n_cl (p := ch (i + 1)) (by omega), (tb _ _ ff1 ff2 4 _ (by omega) (by omega) (by omega)).1, (tb _ _ ff1 ff2 4 _ (by omega) (by omega) (by omega)).2]
      refine T2_ite Iff.rfl (fun _ _ => ?_) (fun n23 _ => ?_)
      · refine T2_chk (n_in (by omega) (by omega)) (n_in (by omega) (by omega)) ?_
        refine T2_chk (n_in (by omega) (by omega)) (n_in (by omega) (by omega)) ?_
        rw [n_cl (p := TP + i - k) (by omega), n_cl (p := u + kys T ch i) (by omega), va1, va3, vc1, vc3]
        exact T2_ob (E_opq (by omega) hX0 (s_putImage P1 va2 vc2 vx2 rfl rfl rfl) (s_putImage P2 va4 vc4 vx4 rfl rfl rfl) (fun n => k_putImage m1.1 m2.1 o1 o2 t1 t2 (by omega) (by omega) (by omega) va2 va4 va5 vc2 vc4 vc5 vx2 vx4 vx5 rfl rfl rfl rfl rfl rfl) (fun k => wl_putImage k _ _ _) (fun k => wl_putImage k _ _ _) (c := 8600) (by omega)) (fun s1 s2 hs => fv s1 s2 _ _ rfl rfl rfl rfl o4 p4 o5 p5 o6 p6 o7 p7 o8 p8 hs)
      · have y22 : T 4 (ch (i + 1)) = 22 := by
          rcases c4 with z | z | z
          · exact absurd z n21
          · exact z
          · exact absurd z n23
        rw [if_pos y22] at ek
        refine T2_suc (fun n => by rw [x_write]) (fun n => by rw [x_write]) ?_
        have q5 : (upd O1 101 (nI TP)) 5 = nI (u + kys T ch i) := o5
        have r5 : (upd O2 101 (nI TP)) 5 = nI (u + kys T ch i) := p5
        have q6 : (upd O1 101 (nI TP)) 6 = nI (TP + i - k) := o6
        have r6 : (upd O2 101 (nI TP)) 6 = nI (TP + i - k) := p6
        have q9 : (upd O1 101 (nI TP)) 9 = nI vx := o9
        have r9 : (upd O2 101 (nI TP)) 9 = nI vy := p9
        rw [q5, r5, q6, r6, q9, r9, n_add1]
        refine T2_chk (n_in (by omega) (by omega)) (n_in (by omega) (by omega)) ?_
        refine T2_chk (n_in (by omega) (by omega)) (n_in (by omega) (by omega)) ?_
        refine T2_chk (n_in (by omega) (by omega)) (n_in (by omega) (by omega)) ?_
        obtain ⟨ve, vf, ve1, ve2, ve3, ve4, ve5, ve6, ve7⟩ := aR.1 29 (u + kys T ch i + 1) (Or.inl ⟨rfl, by omega⟩) (by unfold VwR; omega)
        rw [n_cl (p := TP + i - k) (by omega), n_cl (p := u + kys T ch i) (by omega), n_cl (p := u + kys T ch i + 1) (by omega), va1, va3, vc1, vc3, ve1, ve3]
        exact T2_ob (E_op hX0 (s_putSlice P1 va2 vc2 ve2 vx2 rfl rfl rfl rfl) (s_putSlice P2 va4 vc4 ve4 vx4 rfl rfl rfl rfl) (fun n => k_putSlice m1.1 m2.1 o1 o2 t1 t2 (by omega) (by omega) (by omega) va2 va4 va5 vc2 vc4 vc5 ve2 ve4 ve5 vx2 vx4 vx5 rfl rfl rfl rfl rfl rfl rfl rfl) (fun k => wl_putSlice k _ _ _) (fun k => wl_putSlice k _ _ _) (c := 8600) (by omega)) (fun s1 s2 hs => fv s1 s2 _ _ rfl rfl rfl rfl o4 p4 o5 p5 o6 p6 o7 p7 o8 p8 hs)
    exact three _ _ rfl rfl a4 b4 rfl rfl rfl rfl a7 b7 a8 b8 rfl rfl
/-- a target is written -/
theorem E_writeP (hX : XC ≤ 402000) (h : Tgt T FN lc k ch) (hn : NmW T lc cn (ch 0) s) (ht : t + k ≤ 120000 ∧ t ≤ 90000) (hu : u + kys T ch k ≤ t) (hp : p < t) (hS : Sc1 T FN lc cn σ1) (hI : EI t w XC σ1 σ2) (U1 : UT σ1) (U2 : UT σ2) {L1 L2 : Nat → Int32} (d1 : L1 1 = nI (ch k)) (d2 : L2 1 = nI (ch k)) (u1 : L1 2 = nI u) (u2 : L2 2 = nI u) (q1 : L1 3 = nI p) (q2 : L2 3 = nI p) : T2 (fun n => x_write n 0 L1 σ1) (fun n => x_write n 0 L2 σ2) (fun r1 r2 => SQ 179301 t w XC σ1 σ2 r1.2 r2.2 ∧ (r1.2.1 56 = 0 → PKp t σ1 r1.2)) := by
  have hS2 := Sc1_ei hS hI
  have bk := h.1 k (Nat.le_refl _)
  have tb : ∀ (τ1 τ2 : MS), FE σ1 τ1 → FE σ2 τ2 → ∀ a i, 4 ≤ a → a ≤ 9 → (1 ≤ i ∧ i < LNo T % 70001) → τ1.2.2 a i = T a i ∧ τ2.2.2 a i = T a i := fun τ1 τ2 f1 f2 a i h1 h2 h3 => ⟨(STb_fe hS.1.1 f1).1 a i h1 (by omega) ⟨fun _ => h3, fun z => by omega⟩, (STb_fe hS2.1.1 f2).1 a i h1 (by omega) ⟨fun _ => h3, fun z => by omega⟩⟩
  obtain ⟨e1, e2⟩ := EI_e hI
  obtain ⟨t1, t2⟩ := EI_59 hI
  refine T2_suc (fun n => by rw [x_write]) (fun n => by rw [x_write]) ?_
  rw [e1, e2]
  refine T2_ite Iff.rfl (fun _ _ => ?_) (fun z _ => absurd (by decide) z)
  refine T2_suc (fun n => by rw [x_write]) (fun n => by rw [x_write]) ?_
  refine T2_ob (E_readPartsP (fl := 0) hX h ht hu hS.1 hI d1 d2 u1 u2 rfl rfl) (fun r1 r2 hr => ?_)
  obtain ⟨⟨f1, f2, hr⟩, pk⟩ := hr
  rw [if_pos rfl] at hr
  have r4 : ∀ i, (1 ≤ i ∧ i < LNo T % 70001) → _ := fun i hi => tb _ _ f1 f2 4 i (by omega) (by omega) hi
  have r6 : ∀ i, (1 ≤ i ∧ i < LNo T % 70001) → _ := fun i hi => tb _ _ f1 f2 6 i (by omega) (by omega) hi
  refine T2_ob (T2_t (s_keysIn h (fun i hi => (r4 i hi).1) (fun i hi => (r6 i hi).1) (by omega) d1) (s_keysIn h (fun i hi => (r4 i hi).2) (fun i hi => (r6 i hi).2) (by omega) d2)) (fun y z hy => ?_)
  rw [hy.1, hy.2, q1, q2, t1, t2, u1, u2, d1, d2]
  refine T2_chk (n_in (by omega) (by omega)) (n_in (by omega) (by omega)) ?_
  rw [n_cl (p := p) (by omega)]
  show T2 (fun n => ob (x_push n 0 (upd (fun _ => 0) 1 (r1.2.2.2 29 p)) r1.2) (fun r4 => x_write n 2 (upd (upd (upd (upd (upd L1 4 (nI t)) 5 (nI u + nI (kys T ch k))) 6 (r1.2.1 59)) 7 (r1.2.1 59)) 8 (nI (ch k))) r4.2)) (fun n => ob (x_push n 0 (upd (fun _ => 0) 1 (r2.2.2.2 29 p)) r2.2) (fun r4 => x_write n 2 (upd (upd (upd (upd (upd L2 4 (nI t)) 5 (nI u + nI (kys T ch k))) 6 (r2.2.1 59)) 7 (r2.2.1 59)) 8 (nI (ch k))) r4.2)) _
  rw [n_add (p := u) (by omega)]
  rcases hr with ⟨w2, hw2, hJ⟩ | ⟨z1, z2⟩
  · obtain ⟨s1, s2⟩ := EI_59 hJ
    rw [s1, s2]
    refine T2_ob (T2_and (E_prt (a := 29) (i := p) hJ (by omega) (Or.inl ⟨rfl, by omega⟩) (by unfold VwR; omega) rfl rfl) (T2_t (s_push s1 (by omega) _) (s_push s2 (by omega) _))) (fun v1 v2 hv => ?_)
    obtain ⟨⟨k1, k2, hv⟩, hs1, _⟩ := hv
    have pk0 : PKp t σ1 v1.2 := by rw [hs1]; exact PK_tr (pk (EI_e hJ).1) (PK_pu (by omega))
    refine T2_mono (w_lp (TP := t + 1 + (k - 1)) (w := w) hX h hn hS hS2 U1 U2 (by omega) hu k (Nat.le_refl _) w2 v1.2 v2.2 _ _ (by omega) (FE_tr f1 k1) (FE_tr f2 k2) pk0 hv rfl rfl rfl rfl (by rw [Nat.add_sub_cancel]; rfl) (by rw [Nat.add_sub_cancel]; rfl) rfl rfl rfl rfl) (fun x1 x2 hx => ?_)
    obtain ⟨⟨y1, y2, y3, y4, y5⟩, pk1⟩ := hx
    exact ⟨⟨y1, y2, y3, y4, y5.imp id (fun z => ⟨EZ_mo z.1 (Nat.le_refl _) (by omega), EZ_mo z.2 (Nat.le_refl _) (by omega)⟩)⟩, pk1⟩
  · have pz : ∀ (τ : MS), EZ t 179300 τ → Tm (fun n => x_push n 0 (upd (fun _ => 0) 1 (τ.2.2 29 p)) τ) (fun r => FE τ r.2 ∧ EZ t 179301 r.2) := fun τ hz => by
      obtain ⟨g, l, B, h', t', mm, c1, c2, c3, c4, c5, c6, c7⟩ := hz
      refine Tm_mono (s_push c1 (by omega) _) (fun r hr => ?_)
      rw [hr]
      exact ⟨FE_pu, EZ_pu mm c1 c2 (by omega) c4 c5 c6 c7 (mm.2.2.1 29 p (Or.inl ⟨rfl, by omega⟩))⟩
    refine T2_ob (T2_t (pz _ z1) (pz _ z2)) (fun v1 v2 hv => ?_)
    obtain ⟨⟨k1, y1⟩, ⟨k2, y2⟩⟩ := hv
    refine T2_mono (T2_t (w_z bk (EZ_e y1) rfl rfl) (w_z bk (EZ_e y2) rfl rfl)) (fun x1 x2 hx => ?_)
    rw [hx.1, hx.2]
    exact ⟨SQ_z (FE_tr f1 k1) (FE_tr f2 k2) U1 U2 (Nat.le_refl _) (by omega) y1 y2, fun z => absurd (show v1.2.1 56 = 0 from z) (EZ_e y1)⟩
theorem E_write (hX : XC ≤ 402000) (h : Tgt T FN lc k ch) (hn : NmW T lc cn (ch 0) s) (ht : t + k ≤ 120000 ∧ t ≤ 90000) (hu : u + kys T ch k ≤ t) (hp : p < t) (hS : Sc1 T FN lc cn σ1) (hI : EI t w XC σ1 σ2) (U1 : UT σ1) (U2 : UT σ2) {L1 L2 : Nat → Int32} (d1 : L1 1 = nI (ch k)) (d2 : L2 1 = nI (ch k)) (u1 : L1 2 = nI u) (u2 : L2 2 = nI u) (q1 : L1 3 = nI p) (q2 : L2 3 = nI p) : T2 (fun n => x_write n 0 L1 σ1) (fun n => x_write n 0 L2 σ2) (fun r1 r2 => SQ 179301 t w XC σ1 σ2 r1.2 r2.2) := T2_mono (E_writeP hX h hn ht hu hp hS hI U1 U2 d1 d2 u1 u2 q1 q2) (fun r1 r2 hr => hr.1)
end WRT

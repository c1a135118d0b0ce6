/-! A statement is begun on both sides (reference): kind by kind. -/
/-- statements by their kinds -/
def SWk (T : Nat → Nat → Int32) (FN : Nat → Nat → Prop) (S : Nat → Nat → Nat → Nat → Prop) : Prop := SPt T FN S ∧ ∀ un d v n, S un d v n →
  ((T 4 n = 40 ∨ T 4 n = 41) → ∃ k ch s, T 5 n = nI (ch k) ∧ Tgt T FN (lcU un T) k ch ∧ NmW T (lcU un T) (cnU un T) (ch 0) s ∧ kys T ch k + 10 + KBn T ≤ 17000 ∧ Wx0 T FN (lcU un T) (T 6 n)) ∧
  (T 4 n = 42 → ∃ q KK, KK + 12 + KBn T ≤ 17000 ∧ q ≤ 20000 ∧ TgL T FN (lcU un T) (cnU un T) q KK (T 5 n) ∧ Wx0 T FN (lcU un T) (T 6 n)) ∧
  (T 4 n = 43 → ∃ ka kb sa sb cha chb, Tgt T FN (lcU un T) ka cha ∧ NmW T (lcU un T) (cnU un T) (cha 0) sa ∧ Tgt T FN (lcU un T) kb chb ∧ NmW T (lcU un T) (cnU un T) (chb 0) sb ∧ T 5 n = nI (cha ka) ∧ T 6 n = nI (chb kb) ∧ kys T cha ka + kys T chb kb + 14 + KBn T ≤ 17000) ∧
  (T 4 n = 45 → ∀ pr np, T 7 n = nI pr → pr < 41 → T 18 pr = nI np → np ≤ 8 → (∀ i, i < np → ¬ T 20 (60 * (1 + pr) + i) = 0) ∧ (T 17 pr = -1 ∨ ∃ b v', T 17 pr = nI b ∧ S (1 + pr) 0 v' b)) ∧
  (T 4 n = 47 → Wx0 T FN (lcU un T) (T 5 n) ∧ BdE T S un d v n (T 6 n)) ∧
  ((T 4 n = 49 ∨ T 4 n = 50) → hlp T d n) ∧
  (T 4 n = 51 → ¬ un = 0 ∧ (T 5 n = -1 ∨ Wx0 T FN (lcU un T) (T 5 n))) ∧
  (T 4 n = 52 → ∃ q, q + 9 + KBn T ≤ 17000 ∧ ExL T FN (lcU un T) q (T 5 n)) ∧
  (T 4 n = 53 → Wx0 T FN (lcU un T) (T 5 n))
theorem ob_as (f : Nat → Option (Int32 × MS)) (g h : Nat → Int32 × MS → Option (Int32 × MS)) : (fun k => ob (f k) (fun r5 => ob (g k r5) (fun r6 => h k r6))) = (fun k => ob (ob (f k) (fun r5 => g k r5)) (fun r6 => h k r6)) := by
  funext k
  cases f k with
  | none => rfl
  | some r => rfl
section BGN
variable {T : Nat → Nat → Int32} {FN : Nat → Nat → Prop} {S : Nat → Nat → Nat → Nat → Prop} {σ1 σ2 ζ1 ζ2 : MS}
/-- kind by kind -/
theorem E_kinds (hW : SWf T FN S) (hK : SWk T FN S) (hKB : 9 + KBn T ≤ 17000) {c un d v n : Nat} {F : List Nat} {r1 r2 : MS} (hM : Mid T FN S 0 0 400000 ζ1 ζ2 r1 r2) (hP : Pos T S c un d v n F r1) {L1 L2 : Nat → Int32} (d1 : L1 1 = nI n) (d2 : L2 1 = nI n) : T2 (fun k => if T 4 n = 40 then x_begin k 10 L1 r1 else if T 4 n = 41 then x_begin k 10 L1 r1 else if T 4 n = 42 then x_begin k 11 L1 r1 else if T 4 n = 43 then x_begin k 12 L1 r1 else if T 4 n = 44 then x_begin k 13 L1 r1 else if T 4 n = 45 then x_begin k 14 L1 r1 else if T 4 n = 46 then x_begin k 15 L1 r1 else if T 4 n = 47 then x_begin k 16 L1 r1 else if T 4 n = 48 then x_begin k 17 L1 r1 else if T 4 n = 49 then x_begin k 18 L1 r1 else if T 4 n = 50 then x_begin k 18 L1 r1 else if T 4 n = 51 then x_begin k 19 L1 r1 else if T 4 n = 52 then x_begin k 20 L1 r1 else if T 4 n = 53 then x_begin k 21 L1 r1 else if T 4 n = 54 then x_begin k 23 L1 r1 else if T 4 n = 55 then x_begin k 24 L1 r1 else x_begin k 25 L1 r1) (fun k => if T 4 n = 40 then x_begin k 10 L2 r2 else if T 4 n = 41 then x_begin k 10 L2 r2 else if T 4 n = 42 then x_begin k 11 L2 r2 else if T 4 n = 43 then x_begin k 12 L2 r2 else if T 4 n = 44 then x_begin k 13 L2 r2 else if T 4 n = 45 then x_begin k 14 L2 r2 else if T 4 n = 46 then x_begin k 15 L2 r2 else if T 4 n = 47 then x_begin k 16 L2 r2 else if T 4 n = 48 then x_begin k 17 L2 r2 else if T 4 n = 49 then x_begin k 18 L2 r2 else if T 4 n = 50 then x_begin k 18 L2 r2 else if T 4 n = 51 then x_begin k 19 L2 r2 else if T 4 n = 52 then x_begin k 20 L2 r2 else if T 4 n = 53 then x_begin k 21 L2 r2 else if T 4 n = 54 then x_begin k 23 L2 r2 else if T 4 n = 55 then x_begin k 24 L2 r2 else x_begin k 25 L2 r2) (fun q1 q2 => BgQ T FN S ζ1 ζ2 q1.2 q2.2) := by
  obtain ⟨hE, U1, U2, B1, B2, kp, pq, ou⟩ := id hM
  obtain ⟨_, _, ⟨n7, _, _⟩, _, _⟩ := Pos_b hW hP
  have hSc := Pos_sc B1 hP
  have hSn := LVs_S hP.2.2.1
  obtain ⟨hSP, hKn⟩ := hK
  obtain ⟨p44, p46⟩ := hSP un d v n hSn
  obtain ⟨k40, k42, k43, k45, k47, k49, k51, k52, k53⟩ := hKn un d v n hSn
  have oe : ∀ {t XC : Nat} {s1 s2 : MS}, XC ≤ 401000 → OuQ T FN S t 0 XC ζ1 ζ2 s1 s2 → OuE T FN S 0 ζ1 ζ2 s1 s2 := fun hX h => ⟨_, _, hX, h⟩
  -- an assignment
  have asg : (T 4 n = 40 ∨ T 4 n = 41) → T2 (fun k => x_begin k 10 L1 r1) (fun k => x_begin k 10 L2 r2) (fun q1 q2 => BgQ T FN S ζ1 ζ2 q1.2 q2.2) := by
    intro hk
    obtain ⟨k, ch, s, x5, hT, hN, hb, h6⟩ := k40 hk
    refine T2_suc (fun k => by rw [x_begin]) (fun k => by rw [x_begin]) ?_
    refine T2_ob (E_assignTo (Q := OuE T FN S 0 ζ1 ζ2) (by omega) n7 hT hN x5 h6 hb hSc hE U1 U2 ⟨fun τ1 τ2 f1 f2 V1 V2 z1 z2 => ?_, fun t w τ1 τ2 ht f1 f2 V1 V2 hJ K1 K2 q1 q2 => ?_⟩ (by exact d1) (by exact d2)) (fun s1 s2 hs => E_end hs)
    · exact oe (XC := 400000) (by omega) (OuQ_z (I := fun _ => False) hM (FC_fs f1) (FC_fs f2) V1 V2 (Nat.le_refl _) z1 z2)
    · exact T2_mono (E_pass (w := w) hW (by omega) ht (Nat.le_refl _) (Mid_fc (I := fun _ => False) hM (FC_fs f1) (FC_fs f2) hJ V1 V2) (Pos_fs hW f1 hP) q1 q2) (fun a b hab => oe (by omega) (OuQ_mo hab (Nat.zero_le _)))
  refine T2_ite Iff.rfl (fun z _ => asg (Or.inl z)) (fun _ _ => ?_)
  refine T2_ite Iff.rfl (fun z _ => asg (Or.inr z)) (fun _ _ => ?_)
  refine T2_ite Iff.rfl (fun z _ => ?_) (fun _ _ => ?_)
  · obtain ⟨q, KK, hb, hq, hL, h6⟩ := k42 z
    refine T2_suc (fun k => by rw [x_begin]) (fun k => by rw [x_begin]) ?_
    exact T2_ob (E_partsTo (t := 0) (KK := KK) hW (by omega) (by omega) hq (Nat.le_refl _) hM hP hL h6 (by exact d1) (by exact d2)) (fun s1 s2 hs => E_end hs)
  refine T2_ite Iff.rfl (fun z _ => ?_) (fun _ _ => ?_)
  · obtain ⟨ka, kb, sa, sb, cha, chb, a1, a2, a3, a4, a5, a6, a7⟩ := k43 z
    refine T2_suc (fun k => by rw [x_begin]) (fun k => by rw [x_begin]) ?_
    exact T2_ob (E_takeFrom (t := 0) hW (by omega) (Nat.le_refl _) hM hP a1 a2 a3 a4 a5 a6 (by omega) (by exact d1) (by exact d2)) (fun s1 s2 hs => E_end hs)
  refine T2_ite Iff.rfl (fun z _ => ?_) (fun _ _ => ?_)
  · obtain ⟨a, s, xa, hn⟩ := p44 z
    refine T2_suc (fun k => by rw [x_begin]) (fun k => by rw [x_begin]) ?_
    refine T2_ob (E_makePoint hW (by omega) (by omega) (Or.inl z) hM hP (by exact d1) (by exact d2)) (fun s1 s2 hs => ?_)
    rw [d1, d2]
    refine T2_chk (n_in (by omega) (by omega)) (n_in (by omega) (by omega)) ?_
    rw [n_cl (p := n) (by omega)]
    rcases hs with ⟨hN, hPn⟩ | ⟨⟨V1, V2, C1, C2, kp'⟩, z1, z2⟩
    · rw [hN.2.2.2.1.1.1 5 _ (by omega) (by omega) (by omega), hN.2.2.2.2.1.1.1 5 _ (by omega) (by omega) (by omega), xa]
      rw [ob_as (fun k => x_assign k 0 (upd (upd (fun _ => 0) 1 (nI a)) 2 2) s1.2) (fun k r5 => x_pass k 0 (upd (fun _ => 0) 1 (nI n)) r5.2) (fun k r6 => x_begin k 26 L1 r6.2), ob_as (fun k => x_assign k 0 (upd (upd (fun _ => 0) 1 (nI a)) 2 2) s2.2) (fun k r5 => x_pass k 0 (upd (fun _ => 0) 1 (nI n)) r5.2) (fun k r6 => x_begin k 26 L2 r6.2)]
      exact T2_ob (E_asgP (w := 0) (e := 2) hW (by omega) (by omega) (by omega) (Nat.le_refl _) hN hPn hn rfl rfl rfl rfl rfl rfl) (fun a b hab => E_end (oe (by omega) hab))
    · refine T2_ob (T2_t (s_asgZ (EZ_le z1)) (s_asgZ (EZ_le z2))) (fun a b hab => ?_)
      rw [hab.1, hab.2]
      refine T2_ob (T2_t (s_passZ (EZ_e z1)) (s_passZ (EZ_e z2))) (fun a b hab => ?_)
      rw [hab.1, hab.2]
      exact E_end (oe (t := 0) (XC := 400000) (by omega) (Or.inr ⟨⟨V1, V2, C1, C2, kp'⟩, z1, z2⟩))
  refine T2_ite Iff.rfl (fun z _ => ?_) (fun _ _ => ?_)
  · refine T2_suc (fun k => by rw [x_begin]) (fun k => by rw [x_begin]) ?_
    exact T2_ob (E_beginCall (w := 0) hW (by omega) (by omega) (Nat.le_refl _) hM hP z (k45 z) (by exact d1) (by exact d2)) (fun s1 s2 hs => E_end (oe (by omega) hs))
  refine T2_ite Iff.rfl (fun z _ => ?_) (fun _ _ => ?_)
  · obtain ⟨q, hB⟩ := p46 z
    refine T2_suc (fun k => by rw [x_begin]) (fun k => by rw [x_begin]) ?_
    rw [d1, d2]
    refine T2_chk (n_in (by omega) (by omega)) (n_in (by omega) (by omega)) ?_
    rw [n_cl (p := n) (by omega), B1.1.1 5 _ (by omega) (by omega) (by omega), B2.1.1 5 _ (by omega) (by omega) (by omega)]
    refine T2_ob ?_ (fun s1 s2 hs => E_end (w := 0) (oe (XC := 400000) (t := 0) (by omega) hs))
    refine T2_suc (fun k => by rw [x_decide]) (fun k => by rw [x_decide]) ?_
    exact E_decide (w := 0) hW (by omega) (by omega) z (q + 1) 0 (T 5 n) r1 r2 _ _ (Nat.le_refl _) hM hP hB rfl rfl rfl rfl
  refine T2_ite Iff.rfl (fun z _ => ?_) (fun _ _ => ?_)
  · obtain ⟨h5, h6⟩ := k47 z
    refine T2_suc (fun k => by rw [x_begin]) (fun k => by rw [x_begin]) ?_
    exact T2_ob (E_testAgain (w := 0) hW (by omega) (by omega) (Nat.le_refl _) hM hP z h5 h6 (by exact d1) (by exact d2)) (fun s1 s2 hs => E_end (oe (by omega) hs))
  refine T2_ite Iff.rfl (fun z _ => ?_) (fun _ _ => ?_)
  · refine T2_suc (fun k => by rw [x_begin]) (fun k => by rw [x_begin]) ?_
    exact T2_ob (E_beginFor (w := 0) hW (by omega) (by omega) (Nat.le_refl _) hM hP z (by exact d1) (by exact d2)) (fun s1 s2 hs => E_end (oe (by omega) hs))
  have lea : (T 4 n = 49 ∨ T 4 n = 50) → T2 (fun k => x_begin k 18 L1 r1) (fun k => x_begin k 18 L2 r2) (fun q1 q2 => BgQ T FN S ζ1 ζ2 q1.2 q2.2) := fun hk => by
    refine T2_suc (fun k => by rw [x_begin]) (fun k => by rw [x_begin]) ?_
    exact T2_ob (E_leave (w := 0) hW (by omega) (by omega) (Nat.le_refl _) hM hP (k49 hk) (by exact d1) (by exact d2)) (fun s1 s2 hs => E_end (oe (by omega) hs))
  refine T2_ite Iff.rfl (fun z _ => lea (Or.inl z)) (fun _ _ => ?_)
  refine T2_ite Iff.rfl (fun z _ => lea (Or.inr z)) (fun _ _ => ?_)
  refine T2_ite Iff.rfl (fun z _ => ?_) (fun _ _ => ?_)
  · obtain ⟨hu, h5⟩ := k51 z
    refine T2_suc (fun k => by rw [x_begin]) (fun k => by rw [x_begin]) ?_
    exact T2_ob (E_returns (w := 0) hW (by omega) (by omega) (Nat.le_refl _) hM hP hu h5 (by exact d1) (by exact d2)) (fun s1 s2 hs => E_end (oe (by omega) hs))
  refine T2_ite Iff.rfl (fun z _ => ?_) (fun _ _ => ?_)
  · obtain ⟨q, hb, hL⟩ := k52 z
    refine T2_suc (fun k => by rw [x_begin]) (fun k => by rw [x_begin]) ?_
    exact T2_ob (E_prints (t := 0) (q := q) hW (by omega) (by omega) (Nat.le_refl _) hM hP hL (by exact d1) (by exact d2)) (fun s1 s2 hs => E_end hs)
  refine T2_ite Iff.rfl (fun z _ => ?_) (fun _ _ => ?_)
  · -- assert
    have h5 := k53 z
    have b22 : ∀ (w' : Nat) (s1 s2 : MS), FE r1 s1 → FE r2 s2 → EI 0 w' 400000 s1 s2 → T2 (fun k => x_begin k 22 L1 s1) (fun k => x_begin k 22 L2 s2) (fun q1 q2 => BgQ T FN S ζ1 ζ2 q1.2 q2.2) := fun w' s1 s2 f1 f2 hJ => by
      refine T2_suc (fun k => by rw [x_begin]) (fun k => by rw [x_begin]) ?_
      exact T2_ob (E_pass (w := 0) hW (by omega) (by omega) (Nat.zero_le _) (Mid_fc (I := fun _ => False) hM (FC_fe f1) (FC_fe f2) hJ (UT_fe f1 U1) (UT_fe f2 U2)) (Pos_fs hW (FS_fe f1) hP) (by exact d1) (by exact d2)) (fun a b hab => E_end (oe (by omega) hab))
    have b22Z : ∀ (s1 s2 : MS), FE r1 s1 → FE r2 s2 → EZ 0 179300 s1 → EZ 0 179300 s2 → T2 (fun k => x_begin k 22 L1 s1) (fun k => x_begin k 22 L2 s2) (fun q1 q2 => BgQ T FN S ζ1 ζ2 q1.2 q2.2) := fun s1 s2 f1 f2 z1 z2 => by
      refine T2_suc (fun k => by rw [x_begin]) (fun k => by rw [x_begin]) ?_
      refine T2_ob (T2_t (s_passZ (EZ_e z1)) (s_passZ (EZ_e z2))) (fun a b hab => ?_)
      rw [hab.1, hab.2]
      exact E_end (oe (XC := 400000) (by omega) (OuQ_z (I := fun _ => False) hM (FC_fe f1) (FC_fe f2) (UT_fe f1 U1) (UT_fe f2 U2) (by omega) z1 z2))
    refine T2_suc (fun k => by rw [x_begin]) (fun k => by rw [x_begin]) ?_
    rw [d1, d2]
    refine T2_chk (n_in (by omega) (by omega)) (n_in (by omega) (by omega)) ?_
    rw [n_cl (p := n) (by omega), B1.1.1 5 _ (by omega) (by omega) (by omega), B2.1.1 5 _ (by omega) (by omega) (by omega)]
    refine T2_ob (E_hold (by omega) (by omega) hSc.1 h5 hE rfl rfl) (fun s1 s2 hs => ?_)
    obtain ⟨a1, f1, f2, a4⟩ := hs
    refine T2_ite (by rw [a1]) (fun _ _ => ?_) (fun nz _ => ?_)
    · refine T2_ob (T2_t (s_fail _ _) (s_fail _ _)) (fun y1 y2 hy => ?_)
      rw [hy.1, hy.2]
      rcases a4 with ⟨w', _, hJ⟩ | ⟨z1, z2, _⟩
      · obtain ⟨z1, z2⟩ := E_er (a := 0) (b := 179300) (e := 8) (by omega) hJ (by omega) (by decide) (Nat.le_refl _) (by omega)
        exact b22Z _ _ (FE_tr f1 FE_er) (FE_tr f2 FE_er) z1 z2
      · show T2 (fun k => x_begin k 22 L1 (mEr s1.2 8)) (fun k => x_begin k 22 L2 (mEr s2.2 8)) _
        rw [mEr_id (EZ_e z1), mEr_id (EZ_e z2)]
        exact b22Z _ _ f1 f2 z1 z2
    · rcases a4 with ⟨w', _, hJ⟩ | ⟨_, _, z0⟩
      · exact b22 w' _ _ f1 f2 hJ
      · exact absurd z0 nz
  refine T2_ite Iff.rfl (fun z _ => ?_) (fun _ _ => ?_)
  · -- stop
    refine T2_suc (fun k => by rw [x_begin]) (fun k => by rw [x_begin]) ?_
    show T2 (fun k => x_begin k 26 L1 (mSc r1 102 1)) (fun k => x_begin k 26 L2 (mSc r2 102 1)) _
    have bs : ∀ σ : MS, Bs T FN σ → Bs T FN (mSc σ 102 1) := fun σ h => ⟨h.1, h.2.1, h.2.2.1, h.2.2.2.1, h.2.2.2.2.1, h.2.2.2.2.2⟩
    refine E_end (w := 0) (oe (t := 0) (XC := 400000) (by omega) (Or.inl ⟨0, Nat.le_refl _, ⟨EI_s (by omega) hE, UT_c U1 rfl rfl rfl rfl, UT_c U2 rfl rfl rfl rfl, bs _ B1, bs _ B2, fun j hj => ?_, pq, ou⟩, Or.inr rfl⟩))
    have := kp j hj
    exact ⟨(upd_other (by omega)).trans this.1, (upd_other (by omega)).trans this.2⟩
  refine T2_ite Iff.rfl (fun z _ => ?_) (fun _ _ => ?_)
  · refine T2_suc (fun k => by rw [x_begin]) (fun k => by rw [x_begin]) ?_
    exact T2_ob (E_succeed (w := 0) hW (by omega) (by omega) (Nat.le_refl _) hM hP (by exact d1) (by exact d2)) (fun s1 s2 hs => E_end (oe (by omega) hs))
  · refine T2_suc (fun k => by rw [x_begin]) (fun k => by rw [x_begin]) ?_
    exact T2_ob (E_backTrack (w := 0) hW hSP (by omega) (by omega) (Nat.le_refl _) hM) (fun s1 s2 hs => E_end (oe (by omega) hs))
/-- a statement is begun -/
theorem E_begin (hW : SWf T FN S) (hK : SWk T FN S) (hKB : 9 + KBn T ≤ 17000) (hI : IV0 T FN S σ1 σ2) {c un d v n : Nat} {F : List Nat} (hP : Pos T S c un d v n F σ1) {L1 L2 : Nat → Int32} (d1 : L1 1 = nI n) (d2 : L2 1 = nI n) : T2 (fun k => x_begin k 0 L1 σ1) (fun k => x_begin k 0 L2 σ2) (fun r1 r2 => ∃ y, BgQ T FN S (zB σ1 (σ1.1 103 + 1) y) (zB σ2 (σ1.1 103 + 1) y) r1.2 r2.2) := by
  refine E_begin9 hW hI hP d1 d2 (fun x y r1 r2 ex hM hPr _ _ => ?_)
  subst ex
  exact T2_mono (E_kinds hW hK hKB hM hPr d1 d2) (fun q1 q2 h => ⟨y, h⟩)
end BGN

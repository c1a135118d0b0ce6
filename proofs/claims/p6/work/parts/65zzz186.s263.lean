/-! Statements on both sides (reference): parts of a tuple are written. -/
/-- targets of a tuple (32: none), with K keys -/
def TgL (T : Nat → Nat → Int32) (FN : Nat → Nat → Prop) (lc cn : Nat → Prop) : Nat → Nat → Int32 → Prop
  | 0, K, x => x = -1 ∧ K = 0
  | q + 1, K, x => ∃ e, x = nI e ∧ (1 ≤ e ∧ e < LNo T % 70001) ∧ ((T 4 e = 32 ∧ TgL T FN lc cn q K (T 9 e)) ∨ (¬ T 4 e = 32 ∧ ∃ k ch s K', e = ch k ∧ Tgt T FN lc k ch ∧ NmW T lc cn (ch 0) s ∧ K = kys T ch k + K' ∧ TgL T FN lc cn q K' (T 9 e)))
/-- with an error the top is lowered by one -/
theorem EZ_d1 {a b : Nat} {σ : MS} (h : EZ (a + 1) b σ) (hb : b ≤ 200000) : EZ a b (mSc σ 59 (σ.1 59 - 1)) := by
  obtain ⟨g, l, B, h', t, hM, h59, ha, hb', he, hE, hw, hc⟩ := h
  obtain ⟨t', rfl⟩ : ∃ t', t = t' + 1 := ⟨t - 1, by omega⟩
  rw [h59, n_sub1 (by omega)]
  exact ⟨g, l, B, h', t', MI_59 (MI_mo hM (by omega)), rfl, by omega, by omega, he, hE, hw, hc⟩
section PTO
variable {T : Nat → Nat → Int32} {FN : Nat → Nat → Prop} {S : Nat → Nat → Nat → Nat → Prop} {t w XC : Nat} {σ1 σ2 : MS}
/-- parts of a tuple are written -/
theorem E_partsTo (hW : SWf T FN S) (hXC : XC ≤ 401000) {c un d v n w' q KK : Nat} {F : List Nat} {τ1 τ2 : MS} (ht : t + KK + 12 + KBn T ≤ 17000) (hq : q ≤ 20000) (hw : w ≤ w') (hM : Mid T FN S t w' XC σ1 σ2 τ1 τ2) (hP : Pos T S c un d v n F τ1) (hL : TgL T FN (lcU un T) (cnU un T) q KK (T 5 n)) (h6 : Wx0 T FN (lcU un T) (T 6 n)) {L1 L2 : Nat → Int32} (d1 : L1 1 = nI n) (d2 : L2 1 = nI n) : T2 (fun k => x_partsTo k 0 L1 τ1) (fun k => x_partsTo k 0 L2 τ2) (fun r1 r2 => OuE T FN S w σ1 σ2 r1.2 r2.2) := by
  obtain ⟨hE, U1, U2, B1, B2, kp⟩ := id hM
  have w6 := EI_w hE
  obtain ⟨_, _, ⟨n7, _, _⟩, pb3, pb4⟩ := Pos_b hW hP
  have hSc := Pos_sc B1 hP
  have hSc2 := Sc1_ei hSc hE
  obtain ⟨s1, s2⟩ := EI_59 hE
  have fz : ∀ (b : Nat) (ν1 ν2 : MS), FSt τ1 ν1 → FSt τ2 ν2 → UT ν1 → UT ν2 → b ≤ 179400 → EZ t b ν1 → EZ t b ν2 → OuE T FN S w σ1 σ2 ν1 ν2 := fun b ν1 ν2 f1 f2 V1 V2 hb z1 z2 => ⟨t, XC, hXC, OuQ_z (I := fun _ => False) hM (FC_fs f1) (FC_fs f2) V1 V2 hb z1 z2⟩
  -- pass with an error
  have twelveZ : ∀ (ν1 ν2 : MS) (K1 K2 : Nat → Int32), FSt τ1 ν1 → FSt τ2 ν2 → UT ν1 → UT ν2 → EZ t 179301 ν1 → EZ t 179301 ν2 → T2 (fun k => x_partsTo k 12 K1 ν1) (fun k => x_partsTo k 12 K2 ν2) (fun r1 r2 => OuE T FN S w σ1 σ2 r1.2 r2.2) := by
    intro ν1 ν2 K1 K2 f1 f2 V1 V2 z1 z2
    refine T2_suc (fun k => by rw [x_partsTo]) (fun k => by rw [x_partsTo]) ?_
    refine T2_ob (T2_t (s_passZ (EZ_e z1)) (s_passZ (EZ_e z2))) (fun r1 r2 hr => ?_)
    rw [hr.1, hr.2]
    exact T2_some (fz 179301 ν1 ν2 f1 f2 V1 V2 (by omega) z1 z2)
  have sevenZ : ∀ (ν1 ν2 : MS) (x : Int32) (K1 K2 : Nat → Int32), FSt τ1 ν1 → FSt τ2 ν2 → UT ν1 → UT ν2 → EZ t 179301 ν1 → EZ t 179301 ν2 → K1 5 = x → K2 5 = x → T2 (fun k => x_partsTo k 7 K1 ν1) (fun k => x_partsTo k 7 K2 ν2) (fun r1 r2 => OuE T FN S w σ1 σ2 r1.2 r2.2) := by
    intro ν1 ν2 x K1 K2 f1 f2 V1 V2 z1 z2 k5 l5
    refine T2_suc (fun k => by rw [x_partsTo]) (fun k => by rw [x_partsTo]) ?_
    rw [k5, l5]
    refine T2_ite Iff.rfl (fun _ _ => twelveZ _ _ _ _ f1 f2 V1 V2 z1 z2) (fun _ _ => ?_)
    exact T2_ite ⟨fun z => absurd z (EZ_e z1), fun z => absurd z (EZ_e z2)⟩ (fun z _ => absurd z (EZ_e z1)) (fun _ _ => twelveZ _ _ _ _ f1 f2 V1 V2 z1 z2)
  -- the writes
  have seven : ∀ (q K : Nat) (x : Int32) (j i w2 : Nat) (ν1 ν2 : MS) (K1 K2 : Nat → Int32), TgL T FN (lcU un T) (cnU un T) q K x → i + K = KK → q + j ≤ 20000 → w ≤ w2 → FSt τ1 ν1 → FSt τ2 ν2 → UT ν1 → UT ν2 → EI (t + KK + 1) w2 XC ν1 ν2 → (szV ν1 29 (t + KK)).2.1 = 5 → K1 1 = nI n → K2 1 = nI n → K1 2 = nI (t + i) → K2 2 = nI (t + i) → K1 3 = nI (t + KK) → K2 3 = nI (t + KK) → K1 4 = nI j → K2 4 = nI j → K1 5 = x → K2 5 = x → T2 (fun k => x_partsTo k 7 K1 ν1) (fun k => x_partsTo k 7 K2 ν2) (fun r1 r2 => OuE T FN S w σ1 σ2 r1.2 r2.2) := by
    intro q
    induction q with
    | zero =>
      intro K x j i w2 ν1 ν2 K1 K2 hL hi hj hw2 f1 f2 V1 V2 hJ kd k1 l1 k2 l2 k3 l3 k4 l4 k5 l5
      obtain ⟨hx, _⟩ := hL
      refine T2_suc (fun k => by rw [x_partsTo]) (fun k => by rw [x_partsTo]) ?_
      rw [k5, l5, hx]
      refine T2_ite Iff.rfl (fun _ _ => ?_) (fun z _ => absurd rfl z)
      refine T2_suc (fun k => by rw [x_partsTo]) (fun k => by rw [x_partsTo]) ?_
      exact T2_ob (E_pass (t := t + KK + 1) hW hXC (by omega) hw2 (Mid_fc (I := fun _ => False) hM (FC_fs f1) (FC_fs f2) hJ V1 V2) (Pos_fs hW f1 hP) (by exact k1) (by exact l1)) (fun r1 r2 hr => T2_some ⟨t + KK + 1, XC, hXC, hr⟩)
    | succ q ih =>
      intro K x j i w2 ν1 ν2 K1 K2 hL hi hj hw2 f1 f2 V1 V2 hJ kd k1 l1 k2 l2 k3 l3 k4 l4 k5 l5
      obtain ⟨e, xe, he, hL⟩ := hL
      obtain ⟨e1, e2⟩ := EI_e hJ
      have S1 := Sc1_fs hSc f1
      have S2 := Sc1_fs hSc2 f2
      -- on to the next one
      have eleven : ∀ (w3 i' K' : Nat) (ρ1 ρ2 : MS) (M1 M2 : Nat → Int32), TgL T FN (lcU un T) (cnU un T) q K' (T 9 e) → i' + K' = KK → w ≤ w3 → FSt τ1 ρ1 → FSt τ2 ρ2 → UT ρ1 → UT ρ2 → ((EI (t + KK + 1) w3 XC ρ1 ρ2 ∧ (szV ρ1 29 (t + KK)).2.1 = 5) ∨ (EZ t 179301 ρ1 ∧ EZ t 179301 ρ2)) → M1 1 = nI n → M2 1 = nI n → M1 2 = nI (t + i') → M2 2 = nI (t + i') → M1 3 = nI (t + KK) → M2 3 = nI (t + KK) → M1 4 = nI j → M2 4 = nI j → M1 5 = nI e → M2 5 = nI e → T2 (fun k => x_partsTo k 11 M1 ρ1) (fun k => x_partsTo k 11 M2 ρ2) (fun r1 r2 => OuE T FN S w σ1 σ2 r1.2 r2.2) := by
        intro w3 i' K' ρ1 ρ2 M1 M2 hL' hi' hw3 g1 g2 W1 W2 hor m1 n1 m2 n2 m3 n3 m4 n4 m5 n5
        refine T2_suc (fun k => by rw [x_partsTo]) (fun k => by rw [x_partsTo]) ?_
        rw [m5, n5, m4, n4, n_add1]
        refine T2_chk (n_in (by omega) (by omega)) (n_in (by omega) (by omega)) ?_
        rw [n_cl (p := e) (by omega), (Sc1_fs hSc g1).1.1.1 9 _ (by omega) (by omega) (by omega), (Sc1_fs hSc2 g2).1.1.1 9 _ (by omega) (by omega) (by omega)]
        rcases hor with ⟨hJ', kd'⟩ | ⟨z1, z2⟩
        · exact ih K' (T 9 e) (j + 1) i' w3 ρ1 ρ2 _ _ hL' hi' (by omega) hw3 g1 g2 W1 W2 hJ' kd' m1 n1 m2 n2 m3 n3 rfl rfl rfl rfl
        · exact sevenZ ρ1 ρ2 (T 9 e) _ _ g1 g2 W1 W2 z1 z2 rfl rfl
      refine T2_suc (fun k => by rw [x_partsTo]) (fun k => by rw [x_partsTo]) ?_
      rw [k5, l5, xe, e1, e2]
      refine T2_ite Iff.rfl (fun z _ => absurd z (ne_m1 he)) (fun _ _ => ?_)
      refine T2_ite Iff.rfl (fun _ _ => ?_) (fun z _ => absurd rfl z)
      refine T2_chk (n_in (by omega) (by omega)) (n_in (by omega) (by omega)) ?_
      rw [n_cl (p := e) (by omega), S1.1.1.1 4 _ (by omega) (by omega) (by omega), S2.1.1.1 4 _ (by omega) (by omega) (by omega)]
      refine T2_ite Iff.rfl (fun z32 _ => ?_) (fun z32 _ => ?_)
      · have hL' : TgL T FN (lcU un T) (cnU un T) q K (T 9 e) := by
          rcases hL with z | z
          · exact z.2
          · exact absurd z32 z.1
        exact eleven w2 i K ν1 ν2 _ _ hL' hi hw2 f1 f2 V1 V2 (Or.inl ⟨hJ, kd⟩) k1 l1 k2 l2 k3 l3 k4 l4 (k5.trans xe) (l5.trans xe)
      obtain ⟨kk, ch, s, K', ech, hT, hN, eK, hL'⟩ : ∃ kk ch s K', e = ch kk ∧ Tgt T FN (lcU un T) kk ch ∧ NmW T (lcU un T) (cnU un T) (ch 0) s ∧ K = kys T ch kk + K' ∧ TgL T FN (lcU un T) (cnU un T) q K' (T 9 e) := by
        rcases hL with z | z
        · exact absurd z.1 z32
        · exact z.2
      have kge := kys_ge (T := T) (ch := ch) (i := kk)
      have hJ0 := hJ
      obtain ⟨g1, l1', D1, hh1, X1, g2, l2', D2, hh2, X2, hX⟩ := hJ0
      have rt : RtP (t + KK + 1) ν1 29 (t + KK) := Or.inl ⟨rfl, by omega⟩
      obtain ⟨va, vb, a1, a2, a3, a4, a5, a6, a7⟩ := hX.2.2.1.1 29 (t + KK) rt (by unfold VwR; omega)
      have kda : kdN (ν1.2.2 28) va = 5 := by
        have : (szV ν1 29 (t + KK)).2.1 = kdN (ν1.2.2 28) va := by unfold szV; rw [a1, n_cl (p := va) (by omega)]
        rw [← this]; exact kd
      have ga := kdN_ge hX.1.1 a2 (by omega)
      obtain ⟨kx, p, hO⟩ := OE_of hX.1.1 hX.2.1.1 ga a4 a5
      obtain ⟨gv1, gv2, o3, o4, o5, o6, o7, o8, o9, o10, o11, o12, o13, o14, o15, o16, o17⟩ := hO
      -- a value is written
      have nine : ∀ (x1 x2 : Int32) (M1 M2 : Nat → Int32), (∀ (g1 : Nat → Prop) (l1 : List Nat) (B1 h1 X1 : Nat) (g2 : Nat → Prop) (l2 : List Nat) (B2 h2 X2 : Nat), EIx (t + KK + 1) w2 XC ν1 ν2 g1 l1 B1 h1 X1 g2 l2 B2 h2 X2 → VC g1 g2 (ν1.2.2 28) (ν2.2.2 28) x1 x2 ∧ (∃ m, x1 = nI m ∧ (m < 3 ∨ Rch (ν1.2.2 28) (RoS (t + KK + 1) ν1) m)) ∧ ∃ m, x2 = nI m ∧ (m < 3 ∨ Rch (ν2.2.2 28) (RoS (t + KK + 1) ν2) m)) → M1 1 = nI n → M2 1 = nI n → M1 2 = nI (t + i) → M2 2 = nI (t + i) → M1 3 = nI (t + KK) → M2 3 = nI (t + KK) → M1 4 = nI j → M2 4 = nI j → M1 5 = nI e → M2 5 = nI e → M1 100 = x1 → M2 100 = x2 → T2 (fun k => x_partsTo k 9 M1 ν1) (fun k => x_partsTo k 9 M2 ν2) (fun r1 r2 => OuE T FN S w σ1 σ2 r1.2 r2.2) := by
        intro x1 x2 M1 M2 hx m1 n1 m2 n2 m3 n3 m4 n4 m5 n5 m100 n100
        obtain ⟨p1, p2⟩ := EI_59 hJ
        refine T2_suc (fun k => by rw [x_partsTo]) (fun k => by rw [x_partsTo]) ?_
        refine T2_ob (T2_and (E_pr hJ (by omega) hx (by exact m100) (by exact n100)) (T2_t (s_push p1 (by omega) _) (s_push p2 (by omega) _))) (fun r1 r2 hr => ?_)
        obtain ⟨⟨h1, h2, hK⟩, hs1, _⟩ := hr
        have pk0 : PKp (t + KK + 1) ν1 r1.2 := by rw [hs1]; exact PK_pu (Nat.le_refl _)
        obtain ⟨y1, y2⟩ := EI_59 hK
        rw [y1, y2, n_sub1 (by omega), m5, n5, m2, n2, ech]
        refine T2_ob (E_writeP (t := t + KK + 1 + 1) (u := t + i) (p := t + KK + 1) (by omega) hT hN (by omega) (by omega) (by omega) (Sc1_fs S1 (FS_fe h1)) hK (UT_fe h1 V1) (UT_fe h2 V2) rfl rfl rfl rfl rfl rfl) (fun u1 u2 hu => ?_)
        obtain ⟨⟨c1, c2, c3, c4, c5⟩, pk⟩ := hu
        show T2 (fun k => x_partsTo k 10 M1 (mSc u1.2 59 (u1.2.1 59 - 1))) (fun k => x_partsTo k 10 M2 (mSc u2.2 59 (u2.2.1 59 - 1))) _
        have G1 : FSt τ1 (mSc u1.2 59 (u1.2.1 59 - 1)) := FS_tr f1 (FS_tr (FS_fe h1) (FS_tr c1 (FS_sc (by omega))))
        have G2 : FSt τ2 (mSc u2.2 59 (u2.2.1 59 - 1)) := FS_tr f2 (FS_tr (FS_fe h2) (FS_tr c2 (FS_sc (by omega))))
        have W1 : UT (mSc u1.2 59 (u1.2.1 59 - 1)) := UT_c c3 rfl rfl rfl rfl
        have W2 : UT (mSc u2.2 59 (u2.2.1 59 - 1)) := UT_c c4 rfl rfl rfl rfl
        have hor : ∃ w3, w ≤ w3 ∧ ((EI (t + KK + 1) w3 XC (mSc u1.2 59 (u1.2.1 59 - 1)) (mSc u2.2 59 (u2.2.1 59 - 1)) ∧ (szV (mSc u1.2 59 (u1.2.1 59 - 1)) 29 (t + KK)).2.1 = 5) ∨ (EZ t 179301 (mSc u1.2 59 (u1.2.1 59 - 1)) ∧ EZ t 179301 (mSc u2.2 59 (u2.2.1 59 - 1)))) := by
          rcases c5 with ⟨w3, hw3, hU⟩ | ⟨z1, z2⟩
          · obtain ⟨y3, y4⟩ := EI_59 hU
            refine ⟨w3, by omega, Or.inl ⟨?_, ?_⟩⟩
            · rw [y3, y4, n_sub1 (by omega)]
              exact EI_dn (by omega) hU
            · have k1' := pk (EI_e hU).1 (t + KK) (by omega)
              have k2' := pk0 (t + KK) (by omega)
              show (szV u1.2 29 (t + KK)).2.1 = 5
              rw [k1', k2']; exact kd
          · exact ⟨w2, hw2, Or.inr ⟨EZ_mo (EZ_d1 z1 (by omega)) (by omega) (Nat.le_refl _), EZ_mo (EZ_d1 z2 (by omega)) (by omega) (Nat.le_refl _)⟩⟩
        obtain ⟨w3, hw3, hor⟩ := hor
        generalize mSc u1.2 59 (u1.2.1 59 - 1) = π1 at *
        generalize mSc u2.2 59 (u2.2.1 59 - 1) = π2 at *
        have T1 := Sc1_fs hSc G1
        have T2' := Sc1_fs hSc2 G2
        refine T2_suc (fun k => by rw [x_partsTo]) (fun k => by rw [x_partsTo]) ?_
        refine T2_ob (T2_t (s_keysIn hT (fun i hi => T1.1.1.1 4 i (by omega) (by omega) (by omega)) (fun i hi => T1.1.1.1 6 i (by omega) (by omega) (by omega)) (by omega) (by exact (m5.trans (by rw [ech])))) (s_keysIn hT (fun i hi => T2'.1.1.1 4 i (by omega) (by omega) (by omega)) (fun i hi => T2'.1.1.1 6 i (by omega) (by omega) (by omega)) (by omega) (by exact (n5.trans (by rw [ech]))))) (fun y1 y2 hy => ?_)
        rw [hy.1, hy.2, m2, n2]
        show T2 (fun k => x_partsTo k 11 (upd M1 2 (nI (t + i) + nI (kys T ch kk))) π1) (fun k => x_partsTo k 11 (upd M2 2 (nI (t + i) + nI (kys T ch kk))) π2) _
        rw [n_add (p := t + i) (by omega)]
        exact eleven w3 (i + kys T ch kk) K' π1 π2 _ _ hL' (by omega) hw3 G1 G2 W1 W2 hor m1 n1 (by show nI (t + i + kys T ch kk) = _; congr 1; omega) (by show nI (t + i + kys T ch kk) = _; congr 1; omega) m3 n3 m4 n4 m5 n5
      rw [k3, l3]
      refine T2_chk (n_in (by omega) (by omega)) (n_in (by omega) (by omega)) ?_
      rw [n_cl (p := t + KK) (by omega), a1, a3, n_add1, n_add1]
      refine T2_chk (n_in (by omega) (by omega)) (n_in (by omega) (by omega)) ?_
      rw [n_cl (p := va + 1) (by omega), n_cl (p := vb + 1) (by omega), o11, o12, k4, l4]
      refine T2_ite Iff.rfl (fun _ _ => ?_) (fun z _ => ?_)
      · refine T2_suc (fun k => by rw [x_partsTo]) (fun k => by rw [x_partsTo]) ?_
        exact nine 0 0 _ _ (fun _ _ _ _ _ _ _ _ _ _ _ => ⟨VC_00, ⟨0, rfl, Or.inl (by decide)⟩, ⟨0, rfl, Or.inl (by decide)⟩⟩) k1 l1 k2 l2 k3 l3 k4 l4 (k5.trans xe) (l5.trans xe) rfl rfl
      · have jp : j < p := by
          have : ¬ p ≤ j := fun y => z ((n_le (by omega) (by omega)).mpr y)
          omega
        have ea : ∀ x : Nat, x < 1740000 → nI x + 4 + nI j = nI (x + 4 + j) := fun x hx => by
          rw [show nI x + 4 = nI (x + 4) from n_add (q := 4) (by omega), n_add (by omega)]
        rw [ea va a6, ea vb a7]
        refine T2_chk (n_in (by omega) (by omega)) (n_in (by omega) (by omega)) ?_
        rw [n_cl (p := va + 4 + j) (by omega), n_cl (p := vb + 4 + j) (by omega)]
        refine nine (ν1.2.2 28 (va + 4 + j)) (ν2.2.2 28 (vb + 4 + j)) _ _ (fun g1 l1 B1 h1 X1 g2 l2 B2 h2 X2 hE => ?_) k1 l1 k2 l2 k3 l3 k4 l4 (k5.trans xe) (l5.trans xe) rfl rfl
        obtain ⟨a', b', q1, q2, _, _, _, q6, q7, q8, _⟩ := Rt_val hE rt (by unfold VwR; omega) a1 a3 a6 a7 (by omega) o11 o6 jp
        rw [q1, q2]
        exact ⟨q6, ⟨a', rfl, q7⟩, ⟨b', rfl, q8⟩⟩
  -- the tuple
  have three : ∀ (ρ1 ρ2 : MS) (K1 K2 : Nat → Int32), FE τ1 ρ1 → FE τ2 ρ2 → ((∃ w2, w' ≤ w2 ∧ EI (t + KK) w2 XC ρ1 ρ2) ∨ (EZ t 179300 ρ1 ∧ EZ t 179300 ρ2)) → K1 1 = nI n → K2 1 = nI n → K1 2 = nI t → K2 2 = nI t → T2 (fun k => x_partsTo k 3 K1 ρ1) (fun k => x_partsTo k 3 K2 ρ2) (fun r1 r2 => OuE T FN S w σ1 σ2 r1.2 r2.2) := by
    intro ρ1 ρ2 K1 K2 f1 f2 hor k1 l1 k2 l2
    have fourZ : ∀ (ν1 ν2 : MS) (M1 M2 : Nat → Int32), FE τ1 ν1 → FE τ2 ν2 → EZ t 179300 ν1 → EZ t 179300 ν2 → T2 (fun k => x_partsTo k 4 M1 ν1) (fun k => x_partsTo k 4 M2 ν2) (fun r1 r2 => OuE T FN S w σ1 σ2 r1.2 r2.2) := by
      intro ν1 ν2 M1 M2 g1 g2 z1 z2
      refine T2_suc (fun k => by rw [x_partsTo]) (fun k => by rw [x_partsTo]) ?_
      refine T2_ite ⟨fun z => absurd z (EZ_le z1), fun z => absurd z (EZ_le z2)⟩ (fun z _ => absurd z (EZ_le z1)) (fun _ _ => ?_)
      exact T2_some (fz 179300 ν1 ν2 (FS_fe g1) (FS_fe g2) (UT_fe g1 U1) (UT_fe g2 U2) (by omega) z1 z2)
    refine T2_suc (fun k => by rw [x_partsTo]) (fun k => by rw [x_partsTo]) ?_
    rcases hor with ⟨w2, hw2, hJ⟩ | ⟨z1, z2⟩
    case inr =>
      refine T2_ite ⟨fun z => absurd z (EZ_e z1), fun z => absurd z (EZ_e z2)⟩ (fun z _ => absurd z (EZ_e z1)) (fun _ _ => ?_)
      exact fourZ ρ1 ρ2 _ _ f1 f2 z1 z2
    obtain ⟨e1, e2⟩ := EI_e hJ
    rw [e1, e2, k1, l1]
    refine T2_ite Iff.rfl (fun _ _ => ?_) (fun z _ => absurd rfl z)
    refine T2_chk (n_in (by omega) (by omega)) (n_in (by omega) (by omega)) ?_
    rw [n_cl (p := n) (by omega), (STb_fe B1.1 f1).1 6 _ (by omega) (by omega) (by omega), (STb_fe B2.1 f2).1 6 _ (by omega) (by omega) (by omega)]
    refine T2_ob (E_eval (by omega) (by omega) (Sc0_fe hSc.1 f1) h6 hJ rfl rfl) (fun r1 r2 hr => ?_)
    obtain ⟨j1, j2, hr⟩ := hr
    have F1 := FE_tr f1 j1
    have F2 := FE_tr f2 j2
    rcases hr with ⟨w3, hw3, hK⟩ | ⟨z1, z2⟩
    case inr => exact fourZ _ _ _ _ F1 F2 (EZ_mo z1 (by omega) (Nat.le_refl _)) (EZ_mo z2 (by omega) (Nat.le_refl _))
    have V1 := UT_fe F1 U1
    have V2 := UT_fe F2 U2
    obtain ⟨x1, x2⟩ := EI_e hK
    obtain ⟨p1, p2⟩ := EI_59 hK
    have hK0 := hK
    obtain ⟨g1, l1', D1, hh1, X1, g2, l2', D2, hh2, X2, hX⟩ := hK0
    obtain ⟨va, vb, a1, a2, a3, a4, a5, a6, a7⟩ := hX.2.2.1.1 29 (t + KK) (Or.inl ⟨rfl, by omega⟩) (by unfold VwR; omega)
    have k6 := kdN_6 hX.1.1 a2
    refine T2_suc (fun k => by rw [x_partsTo]) (fun k => by rw [x_partsTo]) ?_
    rw [x1, x2]
    refine T2_ite Iff.rfl (fun _ _ => ?_) (fun z _ => absurd (by decide) z)
    refine T2_suc (fun k => by rw [x_partsTo]) (fun k => by rw [x_partsTo]) ?_
    rw [p1, p2, n_sub1 (by omega)]
    refine T2_chk (n_in (by omega) (by omega)) (n_in (by omega) (by omega)) ?_
    rw [n_cl (p := t + KK) (by omega), a1, a3]
    refine T2_ob (T2_t (s_kind hX.1.1 a2 rfl) (s_kind hX.2.1.1 a4 rfl)) (fun c d hcd => ?_)
    rw [hcd.1, hcd.2, (EVb_sz a5).2.2]
    refine T2_ite Iff.rfl (fun z _ => ?_) (fun _ _ => ?_)
    · have z5 : kdN (r1.2.2.2 28) va = 5 := (n_eq (q := 5) (by omega) (by decide)).mp z
      have kd : (szV r1.2 29 (t + KK)).2.1 = 5 := by
        have : (szV r1.2 29 (t + KK)).2.1 = kdN (r1.2.2.2 28) va := by unfold szV; rw [a1, n_cl (p := va) (by omega)]
        rw [this]; exact z5
      refine T2_suc (fun k => by rw [x_partsTo]) (fun k => by rw [x_partsTo]) ?_
      show T2 (fun k => if ¬ (K1 1 < 0 ∨ 70000 ≤ (K1 1).toNatClampNeg) then _ else _) (fun k => if ¬ (K2 1 < 0 ∨ 70000 ≤ (K2 1).toNatClampNeg) then _ else _) _
      rw [k1, l1]
      refine T2_chk (n_in (by omega) (by omega)) (n_in (by omega) (by omega)) ?_
      refine seven q KK (T 5 n) 0 0 w3 r1.2 r2.2 _ _ hL (by omega) (by omega) (by omega) (FS_fe F1) (FS_fe F2) V1 V2 hK kd k1 l1 k2 l2 rfl rfl rfl rfl ?_ ?_
      · show r1.2.2.2 5 (K1 1).toNatClampNeg = T 5 n
        rw [k1, n_cl (p := n) (by omega), (STb_fe B1.1 F1).1 5 _ (by omega) (by omega) (by omega)]
      · show r2.2.2.2 5 (K2 1).toNatClampNeg = T 5 n
        rw [l1, n_cl (p := n) (by omega), (STb_fe B2.1 F2).1 5 _ (by omega) (by omega) (by omega)]
    · refine T2_ob (T2_t (s_fail _ _) (s_fail _ _)) (fun y z hy => ?_)
      rw [hy.1, hy.2]
      obtain ⟨z1, z2⟩ := E_er (a := t) (b := 179300) (e := 1) (by omega) hK (by omega) (by decide) (by omega) (by omega)
      exact T2_some (fz 179300 _ _ (FS_tr (FS_fe F1) (FS_fe FE_er)) (FS_tr (FS_fe F2) (FS_fe FE_er)) (UT_fe FE_er V1) (UT_fe FE_er V2) (by omega) z1 z2)
  -- the keys
  have lp : ∀ (q K : Nat) (x : Int32) (i : Nat) (ρ1 ρ2 : MS) (K1 K2 : Nat → Int32), TgL T FN (lcU un T) (cnU un T) q K x → i + K = KK → FE τ1 ρ1 → FE τ2 ρ2 → ((∃ w2, w' ≤ w2 ∧ EI (t + i) w2 XC ρ1 ρ2) ∨ (EZ t 179300 ρ1 ∧ EZ t 179300 ρ2)) → K1 1 = nI n → K2 1 = nI n → K1 2 = nI t → K2 2 = nI t → K1 3 = x → K2 3 = x → T2 (fun k => x_partsTo k 1 K1 ρ1) (fun k => x_partsTo k 1 K2 ρ2) (fun r1 r2 => OuE T FN S w σ1 σ2 r1.2 r2.2) := by
    intro q
    induction q with
    | zero =>
      intro K x i ρ1 ρ2 K1 K2 hL hi f1 f2 hor k1 l1 k2 l2 k3 l3
      obtain ⟨hx, hK0⟩ := hL
      have ei : i = KK := by omega
      subst ei
      refine T2_suc (fun k => by rw [x_partsTo]) (fun k => by rw [x_partsTo]) ?_
      rw [k3, l3, hx]
      refine T2_ite Iff.rfl (fun _ _ => ?_) (fun z _ => absurd rfl z)
      exact three ρ1 ρ2 _ _ f1 f2 hor k1 l1 k2 l2
    | succ q ih =>
      intro K x i ρ1 ρ2 K1 K2 hL hi f1 f2 hor k1 l1 k2 l2 k3 l3
      obtain ⟨e, xe, he, hL⟩ := hL
      refine T2_suc (fun k => by rw [x_partsTo]) (fun k => by rw [x_partsTo]) ?_
      rw [k3, l3, xe]
      refine T2_ite Iff.rfl (fun z _ => absurd z (ne_m1 he)) (fun _ _ => ?_)
      rcases hor with ⟨w2, hw2, hJ⟩ | ⟨z1, z2⟩
      case inr =>
        refine T2_ite ⟨fun z => absurd z (EZ_e z1), fun z => absurd z (EZ_e z2)⟩ (fun z _ => absurd z (EZ_e z1)) (fun _ _ => ?_)
        exact three ρ1 ρ2 _ _ f1 f2 (Or.inr ⟨z1, z2⟩) k1 l1 k2 l2
      obtain ⟨e1, e2⟩ := EI_e hJ
      rw [e1, e2]
      refine T2_ite Iff.rfl (fun _ _ => ?_) (fun z _ => absurd rfl z)
      refine T2_chk (n_in (by omega) (by omega)) (n_in (by omega) (by omega)) ?_
      rw [n_cl (p := e) (by omega), (STb_fe B1.1 f1).1 4 _ (by omega) (by omega) (by omega), (STb_fe B2.1 f2).1 4 _ (by omega) (by omega) (by omega)]
      have b2 : ∀ (π1 π2 : MS) (i' K' : Nat), TgL T FN (lcU un T) (cnU un T) q K' (T 9 e) → i' + K' = KK → FE τ1 π1 → FE τ2 π2 → ((∃ w2, w' ≤ w2 ∧ EI (t + i') w2 XC π1 π2) ∨ (EZ t 179300 π1 ∧ EZ t 179300 π2)) → T2 (fun k => x_partsTo k 2 K1 π1) (fun k => x_partsTo k 2 K2 π2) (fun r1 r2 => OuE T FN S w σ1 σ2 r1.2 r2.2) := by
        intro π1 π2 i' K' hL' hi' j1 j2 hor'
        refine T2_suc (fun k => by rw [x_partsTo]) (fun k => by rw [x_partsTo]) ?_
        rw [k3, l3, xe]
        refine T2_chk (n_in (by omega) (by omega)) (n_in (by omega) (by omega)) ?_
        rw [n_cl (p := e) (by omega), (STb_fe B1.1 j1).1 9 _ (by omega) (by omega) (by omega), (STb_fe B2.1 j2).1 9 _ (by omega) (by omega) (by omega)]
        exact ih K' (T 9 e) i' π1 π2 _ _ hL' hi' j1 j2 hor' k1 l1 k2 l2 rfl rfl
      rcases hL with ⟨z32, hL'⟩ | ⟨z32, kk, ch, s, K', ech, hT, hN, eK, hL'⟩
      · refine T2_ite Iff.rfl (fun _ _ => ?_) (fun z _ => absurd z32 z)
        exact b2 ρ1 ρ2 i K hL' hi f1 f2 (Or.inl ⟨w2, hw2, hJ⟩)
      · refine T2_ite Iff.rfl (fun z _ => absurd z z32) (fun _ _ => ?_)
        rw [ech]
        refine T2_ob (E_workParts (by omega) hT (by omega) (Sc0_fe hSc.1 f1) hJ rfl rfl) (fun r1 r2 hr => ?_)
        obtain ⟨j1, j2, hr⟩ := hr
        refine b2 r1.2 r2.2 (i + kys T ch kk) K' hL' (by omega) (FE_tr f1 j1) (FE_tr f2 j2) (hr.imp (fun ⟨w3, h3, h⟩ => ⟨w3, by omega, ?_⟩) (fun ⟨a, b⟩ => ⟨EZ_mo a (by omega) (Nat.le_refl _), EZ_mo b (by omega) (Nat.le_refl _)⟩))
        rw [← Nat.add_assoc]; exact h
  refine T2_suc (fun k => by rw [x_partsTo]) (fun k => by rw [x_partsTo]) ?_
  rw [d1, d2]
  refine T2_chk (n_in (by omega) (by omega)) (n_in (by omega) (by omega)) ?_
  rw [n_cl (p := n) (by omega), B1.1.1 5 _ (by omega) (by omega) (by omega), B2.1.1 5 _ (by omega) (by omega) (by omega), s1, s2]
  exact lp q KK (T 5 n) 0 τ1 τ2 _ _ hL (by omega) FE_rf FE_rf (Or.inl ⟨w', Nat.le_refl _, hE⟩) d1 d2 rfl rfl rfl rfl
end PTO

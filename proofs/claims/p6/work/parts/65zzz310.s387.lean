/-! The class: procs are called, and end. -/
section CSY
variable {g g' g2 : Nat → Prop} {l l' l2 : List Nat} {t t' t2 : Nat} {σ σ' σ2 : CS} {L : LV} {x y i : Int32} {M M' U U' : Nat → Int32} {K K' K2 K3 K4 KB : Nat → Option Int32} {c : Ct} {B f0 u0 : Nat} {fs : List FrT} {u d : Nat} {r : List Nat} {pb nf nc sq rk : Nat}
theorem Tm_oB {o : Option Bool} {b : Bool} {f : Nat → Bool → Option (Int32 × CS)} {Q : Int32 × CS → Prop} (e : o = some b) (h : Tm (fun k => f k b) Q) : Tm (fun k => oB o (f k)) Q := by
  rw [e]; exact h
/-- fields of the run alone, where statements run -/
theorem MIn_fw (mi : MIn c g l t K K2 K3 K4 B KB σ) (e2 : σ'.2 = σ.2) (ej : ∀ j, ¬ ((1811 ≤ j ∧ j ≤ 1816) ∨ (1900 ≤ j ∧ j ≤ 1911)) → σ'.1 j = σ.1 j) (h1 : B ≤ uN (σ'.1 1902)) (h2 : uN (σ'.1 1902) ≤ uN (σ.1 1902)) (lf : uN (σ'.1 1903) + uN (σ'.1 1814) ≤ 10240000) : MIn c g l t K K2 K3 K4 B KB σ' ∧ Mw σ σ' := by
  have md : Mw σ σ' := ⟨fun j hj => ej j (by omega), fun _ _ => by rw [e2], fun _ _ => by rw [e2], ⟨fun _ _ => by show σ'.2.2.2.2.1 _ = _; rw [e2], by show _ ≤ σ'.2.2.2.2.1 20; rw [e2]; exact Nat.le_refl _⟩, by rw [e2], by rw [e2]⟩
  obtain ⟨st1, st2, st3⟩ := mi.2.1.1
  have n20 : sN σ' 20 = sN σ 20 := by show σ'.2.2.2.2.1 20 = _; rw [e2]
  have v := VI_w mi.2.1 md (by rw [e2]) ⟨fun _ z => z, fun p _ => by rw [e2]⟩ (K' := K) (by rw [n20]; omega) (by rw [n20]; exact st2) (by rw [e2]; exact fun j hj => st3 j (by omega))
  exact ⟨MIn_w mi md (HQ_fr mi.1 (ej 1 (by decide)) (by rw [e2]) (by rw [e2])) v mi.2.2.2.2.2.1 h1 lf, md⟩
theorem c_callProc {ws : Nat} {ms : List Nat} (hms : ∀ i, i ∈ ms → i < bsl) (p : Pre c g l t K K2 K3 K4 B KB f0 u0 σ fs u d (250000 :: (bsl + ws) :: ms) pb nf nc sq) {pc v : Nat} (cs : tcS c u) (hpc : σ.1 1900 = nI (pc + 1)) (hp : pc + 1 < 36865) (h1 : L.1 1 = nI v) (hv : 1 ≤ v ∧ v < 41) (kv : tcS c v) (k : d = tcP c v) (d2 : ws ≤ 200) (fb0 : tcF c u ≤ ws) (pf : tcP c v ≤ tcF c v ∧ tcF c v ≤ 1000) (nx : ∃ rb, tcD c (pc + 1) = some (u, 0 + 1 + tcP c v, ((bsl + ws) :: ms), rb) ∧ rb ≤ RK ∧ ∃ rk', tcD c (tcE c v) = some (v, 0, (bsl + tcF c v) :: Vl (tcF c v), rk') ∧ rk' + rb < rk) : Tm (fun k => f_X3_callProc k 0 L σ) (fun q => q.1.1 = 0 ∧ IO c B KB f0 u0 σ (mu σ (qv nf sq rk)) ((0, 0), q.2.1, (q.2.2.1 + 0, q.2.2.2 + 0))) := by
  have mi := p.1
  have ty := p.2.1
  obtain ⟨st1, st2, st3⟩ := mi.2.1.1
  have ts := TyS_sp ty
  have fb : tcF c u ≤ bt 0 ((bsl + ws) :: ms) := by rw [bt_0]; exact fb0
  have rf := SL_rf (v := 0) (by decide) (show SL K _ _ _ ((250000 + 0) :: (bsl + ws) :: ms) from ty.1)
  have fbB : B ≤ uN (σ.1 1902) - (4 + tcP c v) := by
    obtain ⟨pd, es⟩ := Pre_dp (x := nI (d + 4)) (d' := 0) (r' := (bsl + ws) :: ms) p (by
      rw [u_n (by omega)]
      exact ⟨fun K lo hi h => ⟨(SL_rf (v := 0) (by decide) (show SL K _ _ _ ((250000 + 0) :: (bsl + ws) :: ms) from h)).1, (SL_rf (v := 0) (by decide) (show SL K _ _ _ ((250000 + 0) :: (bsl + ws) :: ms) from h)).2.1⟩, fun K pb m h => h.2 (by unfold bsl; omega)⟩) fb
    have q := pd.1.2.2.2.2.2.2.1.2
    have q' : B ≤ uN (σ.1 1902 - nI (d + 4)) := q
    rw [es, u_n (by omega)] at q'
    omega
  obtain ⟨b, eb, _⟩ := mi.2.2.1
  have cr := (Ct_row mi.2.2.1 eb).2.2 v (by omega)
  have cs0 := FC_S _ _ _ _ _ _ _ ty.2.1 cs
  have en8 := ty.2.2.2.2.2.1 cs0
  have n50 := ty.2.2.2.2.2.2.1
  have e9 : uN (σ.1 1900) = pc + 1 := by rw [hpc, u_n (by omega)]
  have e1 : uN (L.1 1) = v := by rw [h1, u_n (by omega)]
  have i1 : ¬ (L.1 1 < 0 ∨ 42 ≤ (L.1 1).toNatClampNeg) := u_in (by omega) (by decide)
  have c1 : (L.1 1).toNatClampNeg = v := by rw [u_cl (by omega)]; exact e1
  have fail : ∀ a : Int32, ¬ a = 0 → Tm (fun k => Jvm.Pilot.CSetHouseLaw_law_r7351_1de140.op (y_X3_fail k 0 (lI lZ 1 a) σ) (fun r2 => some ((0, 0), r2.2, (0, 0)))) (fun q => q.1.1 = 0 ∧ IO c B KB f0 u0 σ (mu σ (qv nf sq rk)) ((0, 0), q.2.1, (q.2.2.1 + 0, q.2.2.2 + 0))) := by
    intro a a0
    refine Tm_op c_fail (fun q e => ?_)
    rw [e]
    refine Tm_some ⟨rfl, ha_fin p rfl (fun j hj => ?_) rfl (f13 a0)⟩
    show upd (upd σ.1 1813 _) 1812 1 j = _
    rw [upd_other (by omega), upd_other (by omega)]
  refine Tm_suc (fun k => by rw [f_X3_callProc]) ?_
  refine Tm_ite (fun c50 => ?_) (fun _ => fail _ (by decide))
  have u50 : uN (50 : Int32) = 50 := rfl
  rw [u_ltn (by omega) (by decide), u50, en8] at c50
  have b4 : ∀ L' : LV, L'.1 1 = L.1 1 → Tm (fun k => f_X3_callProc k 4 L' σ) (fun q => q.1.1 = 0 ∧ IO c B KB f0 u0 σ (mu σ (qv nf sq rk)) ((0, 0), q.2.1, (q.2.2.1 + 0, q.2.2.2 + 0))) := by
    intro L' l1
    have slτ : uN (σ.1 1901) + 8 + tcP c v ≤ uN (σ.1 1902) ∧ ∀ p, uN (σ.1 1902) - tcP c v ≤ p → p < uN (σ.1 1902) → K p = none := by
      rw [← k]; exact ⟨by have := rf.2.2.2.1; omega, rf.2.2.1⟩
    refine Tm_suc (fun k => by rw [f_X3_callProc]) ?_
    refine Tm_oxc (c_enter (v := v) mi slτ (by omega) (by omega) pf (by show L'.1 1 = _; rw [l1]; exact h1)) (fun q z => by rw [z.1]) (fun q z => ?_)
    obtain ⟨z1, z2, z3, z4, z5, K', z6, z7⟩ := z
    generalize hH : uI (uI (uI q.2.1 1908 (q.2.1.1 1908 + 1)) 1909 ((uI q.2.1 1908 (q.2.1.1 1908 + 1)).1 1909 + L'.1 3)) 1910 (L'.1 3) = ρ
    have ρe : ∀ j, ¬ (j = 1908 ∨ j = 1909 ∨ j = 1910) → ρ.1 j = q.2.1.1 j := fun j hj => by
      rw [← hH]
      show upd (upd (upd q.2.1.1 1908 _) 1909 _) 1910 _ j = _
      rw [upd_other (by omega), upd_other (by omega), upd_other (by omega)]
    have ρ2 : ρ.2 = q.2.1.2 := by rw [← hH]; rfl
    have ρ8 : ρ.1 1908 = σ.1 1908 + 1 := by
      have e : ρ.1 1908 = q.2.1.1 1908 + 1 := by rw [← hH]; rfl
      rw [e, z4 1908 (by decide)]
    have mt := MIn_fw (σ' := ρ) z6 ρ2 (fun j hj => ρe j (by omega)) (by rw [ρe 1902 (by decide)]; exact z6.2.2.2.2.2.2.1.2) (by rw [ρe 1902 (by decide)]; exact Nat.le_refl _) (by rw [ρe 1903 (by decide), ρe 1814 (by decide)]; exact z6.2.2.2.2.2.2.2.1)
    refine Tm_suc (fun k => by rw [f_X3_callProc]) ?_
    refine Tm_some ⟨rfl, ?_⟩
    have ph := Ph_s (σ := q.2.1) (σ' := ρ) (by rw [ρ2])
    have z21 := z2.1
    have z22 := z2.2
    refine ⟨rfl, ⟨by show q.2.2.1 + 0 + 0 + PhC ρ ≤ _; omega, by show q.2.2.2 + 0 + 0 + PhS ρ ≤ _; omega⟩, Mw_M (Mw_t (Mw_d z3) mt.2), fun n => absurd cs0 n, g, l, t, K', K2, K3, K4, mt.1, fun h0 => ?_, fun h0 => ?_⟩
    rotate_left
    · rcases z7 with z7 | z7
      · exact Or.inl (by show ¬ ρ.1 1813 = 0; rw [ρe 1813 (by decide)]; exact z7.2)
      · exact absurd ((ρe 1812 (by decide)).trans (z7.1.trans p.2.2.2.1)) h0
    have h0' : ρ.1 1812 = 0 := h0
    rw [ρe 1812 (by decide)] at h0'
    rcases z7 with z7 | ⟨a1, a2, a3, a4, a5⟩
    · rw [z7.1] at h0'
      exact absurd h0' (by decide)
    generalize hF : uN (σ.1 1902) - tcP c v - 4 = f at *
    obtain ⟨rb, n1, n2, rk', r1, r2⟩ := nx
    have hd := Kh_i (K := K) (f := f) (a := rwN (uN (σ.1 1900) % 268435456)) (b := rwN (uN (σ.1 1901) % 268435456)) (e := rwN (uN (L'.1 1) % 268435456)) (h := rwN (uN (σ.1 1910) % 268435456))
    have sl0 : SL K (uN (σ.1 1901) + 4) f 0 ((bsl + ws) :: ms) := by
      have z := rf.2.1
      rw [show uN (σ.1 1902) - (d + 4) = f from by omega] at z
      exact z
    have sl0e := (SL_le _ _ _ sl0).2
    have e0 : uN (σ.1 1900) % 268435456 = pc + 1 := by omega
    have e01 : uN (σ.1 1901) % 268435456 = uN (σ.1 1901) := by omega
    have e03 : uN (L'.1 1) % 268435456 = v := by rw [l1]; omega
    have ty' : TyS c K' K4 f0 u0 ρ ((uN (σ.1 1901), u, 0, ((bsl + ws) :: ms), pb, nf, nc, sq) :: fs) v 0 ((bsl + tcF c v) :: Vl (tcF c v)) pb nf (nc + 1) (sq + rb) := by
      unfold TyS
      rw [ρe 1901 (by decide), ρe 1902 (by decide), ρe 1815 (by decide), ρe 1811 (by decide), a2, a3, z4 1815 (by decide), z4 1811 (by decide), ρ8]
      refine ⟨SL_mkV (by omega) (by omega) (fun p h1 h2 => a5 p h1 (by omega)), ⟨⟨pc + 1, rb, rwN v, rwN (uN (σ.1 1910) % 268435456), ⟨?_, ?_, ?_, ?_⟩, ⟨rwN_r (by omega), rwN_r (by omega), by omega⟩, ?_, fb, pf.1, ⟨n2, ty.2.2.2.2.2.2.2.1⟩, Or.inr ⟨kv, cs, hv, n1, ⟨rfl, ws, ms, d2, rfl, hms⟩, rfl, rfl, rfl, rfl, rfl⟩⟩, ?_⟩, by rw [bt_0]; exact Nat.le_refl _, ty.2.2.2.1, ty.2.2.2.2.1, fun _ => ?_, by omega, by omega, PaM_0 (Vl_b _ (by omega))⟩
      · rw [a4 f (by omega)]; exact hd.1.trans (by rw [e0])
      · rw [a4 (f + 1) (by omega)]
        exact hd.2.1.trans (by rw [e01])
      · rw [a4 (f + 2) (by omega)]; exact hd.2.2.1.trans (by rw [e03])
      · rw [a4 (f + 3) (by omega)]; exact hd.2.2.2
      · exact SL_eq _ _ _ (fun p h1 h2 => by rw [a4 p (by omega)]; exact Kh_o (Or.inl h2)) sl0
      · exact FC_k ty.2.1 (fun p hp => by rw [a4 p (by omega)]; exact Kh_o (Or.inl (by omega))) (fun _ _ => rfl)
      · rw [u_inc (by omega), en8]
    refine ⟨qv nf (sq + rb) rk', ⟨by rw [ρe 1905 (by decide), z4 1905 (by decide)]; exact p.2.2.1, v, 0, (bsl + tcF c v) :: Vl (tcF c v), rk', _, _, _, _, _, Or.inl ⟨ty', by rw [ρe 1900 (by decide), z5]; exact r1, rfl⟩⟩, ?_⟩
    unfold mu qv
    rw [ρe 1905 (by decide), z4 1905 (by decide), ρe 1814 (by decide), z4 1814 (by decide)]
    omega
  have b3 : ∀ L' : LV, L'.1 1 = L.1 1 → Tm (fun k => f_X3_callProc k 3 L' σ) (fun q => q.1.1 = 0 ∧ IO c B KB f0 u0 σ (mu σ (qv nf sq rk)) ((0, 0), q.2.1, (q.2.2.1 + 0, q.2.2.2 + 0))) := by
    intro L' l1
    refine Tm_suc (fun k => by rw [f_X3_callProc]) ?_
    exact Tm_ite (fun _ => b4 _ l1) (fun _ => fail _ (by decide))
  have b2 : ∀ (m : Nat) (L' : LV), m ≤ d → L'.1 1 = L.1 1 → uN (L'.1 4) + m = uN (σ.1 1902) → Tm (fun k => f_X3_callProc k 2 L' σ) (fun q => q.1.1 = 0 ∧ IO c B KB f0 u0 σ (mu σ (qv nf sq rk)) ((0, 0), q.2.1, (q.2.2.1 + 0, q.2.2.2 + 0))) := by
    intro m
    induction m with
    | zero =>
      intro L' md l1 l4
      refine Tm_suc (fun k => by rw [f_X3_callProc]) ?_
      exact Tm_yes (by rw [u_le (by omega) (by omega)]; omega) (b3 _ l1)
    | succ m ih =>
      intro L' md l1 l4
      refine Tm_suc (fun k => by rw [f_X3_callProc]) ?_
      refine Tm_no (by rw [u_le (by omega) (by omega)]; omega) ?_
      refine Tm_chk (u_in (by omega) (by omega)) ?_
      refine Tm_op (c_size1 mi.1 (by show Gv g (σ.2.2.1 20 (L'.1 4).toNatClampNeg); rw [u_cl (by omega)]; exact (Ty_v p (by omega) (by omega)))) (fun q z => ?_)
      have e : q.2 = σ := z.1
      rw [e]
      refine ih _ (by omega) l1 ?_
      show uN (L'.1 4 + 1) + m = _
      rw [u_inc (by omega)]; omega
  refine Tm_suc (fun k => by rw [f_X3_callProc]) ?_
  refine Tm_oP eb ?_
  refine Tm_chk i1 ?_
  refine Tm_oP eb ?_
  refine Tm_chk i1 ?_
  refine b2 (tcP c v) _ (by omega) rfl ?_
  show uN (σ.1 1902 - σ.2.2.1 (pR14 b) (L.1 1).toNatClampNeg) + _ = _
  rw [c1, u_sub (by omega), cr.2.1]
  omega
theorem c_endProc (p : Pre c g l t K K2 K3 K4 B KB f0 u0 σ fs u d r pb nf nc sq) (hd : 1 ≤ d) (cs : tcS c u) (hu : ¬ u = u0) (hr : 1 ≤ rk) (vp : ∀ i, i < tcP c u → i < 500000 ∧ HasM (500000 + i) r) : Tm (fun k => y_X3_endProc k 0 L σ) (fun q => IO c B KB f0 u0 σ (mu σ (qv nf sq rk)) ((0, 0), q.2, (0, 0))) := by
  have mi := p.1
  have ty := p.2.1
  obtain ⟨st1, st2, st3⟩ := mi.2.1.1
  have ts := TyS_sp ty
  have cs0 := FC_S _ _ _ _ _ _ _ ty.2.1 cs
  have gpv : ∀ i, i < tcP c u → Gv g (σ.2.2.1 20 (uN (σ.1 1901) + 4 + i)) := fun i hi => by
    have hv := SL_hv (vp i hi).1 _ _ _ ty.1 (vp i hi).2
    exact Rwk_v st3 (by omega) hv.2
  obtain ⟨t1, t2, t3, t4, t5, t6, t7⟩ := ty
  cases fs with
  | nil => exact absurd t2.2.1 hu
  | cons w fs =>
    obtain ⟨⟨bk, rb, z2, z3, ⟨a0, a1, a2, a3⟩, ⟨b1, b2, b3⟩, s, f1, f2, f3, kk⟩, wt⟩ := t2
    have kp : tcS c w.2.1 ∧ (1 ≤ u ∧ u < 41) ∧ tcD c bk = some (w.2.1, w.2.2.1 + 1 + tcP c u, w.2.2.2.1, rb) ∧ (w.2.2.1 = 0 ∧ ∃ (w5 : Nat) (ms : List Nat), w5 ≤ 200 ∧ w.2.2.2.1 = (bsl + w5) :: ms ∧ ∀ i, i ∈ ms → i < bsl) ∧ z2 = rwN u ∧ pb = w.2.2.2.2.1 ∧ nf = w.2.2.2.2.2.1 ∧ nc = w.2.2.2.2.2.2.1 + 1 ∧ sq = w.2.2.2.2.2.2.2 + rb := by
      rcases kk with z | z
      · exact absurd z.1 cs.1
      · exact z.2
    obtain ⟨k1, k2, k3, k4, k5, k6, k7, k8, k9⟩ := kp
    have sle := SL_le _ _ _ s
    have v0 := pin_v st3 (by omega) a0 (rwN_r b3)
    have v1 := pin_v st3 (by omega) a1 (rwN_r (by omega))
    have v2 := pin_v st3 (by omega) a2 b1
    have v3 := pin_v st3 (by omega) a3 b2
    have e8 := t6 cs0
    generalize hfp : uN (σ.1 1901) = fp at *
    have u1 : uN (1 : Int32) = 1 := rfl
    have u2 : uN (2 : Int32) = 2 := rfl
    have u3 : uN (3 : Int32) = 3 := rfl
    have u4 : uN (4 : Int32) = 4 := rfl
    have gh := (Ty_v p (q := (uN (σ.1 1902) - 1)) (by omega) (by omega))
    have n20 : sN σ 20 ≤ 2147483648 := by omega
    obtain ⟨b, eb, _⟩ := mi.2.2.1
    have cr := (Ct_row mi.2.2.1 eb).2.2 u (by omega)
    have bB : B ≤ fp := by
      rcases p.2.2.2.2 with z | z
      · have y := (FC_f0 _ _ _ _ _ _ _ wt).1
        omega
      · rcases FC_B _ _ _ _ _ _ _ wt with e | e
        · rw [e.1] at sle
          rw [e.2] at f1
          omega
        · omega
    -- the end
    have b5 : ∀ (τ : CS) (f : Nat → Int32) (L' : LV), τ.2 = σ.2 → (∀ j, ¬ (j = 1900 ∨ j = 1901 ∨ j = 1902 ∨ j = 1908 ∨ j = 1909 ∨ j = 1910) → τ.1 j = σ.1 j) → uN (τ.1 1900) = bk → uN (τ.1 1901) = w.1 → uN (τ.1 1908) = w.2.2.2.2.2.2.1 → uN (L'.1 2) = fp → uN (L'.1 3) = tcP c u → (∀ j, j < fp → f j = σ.2.2.1 20 j) → (∀ j, fp ≤ j → j < fp + 1 + tcP c u → Gv g (f j)) → Tm (fun k => y_X3_endProc k 5 L' (uF τ 20 f)) (fun q => IO c B KB f0 u0 σ (mu σ (qv nf sq rk)) ((0, 0), q.2, (0, 0))) := by
      intro τ f L' τ2 τe e0 e1 e08 l2 l3 g1 g2'
      have esp : uN (L'.1 2 + 1 + L'.1 3) = fp + 1 + tcP c u := by rw [u_add (by rw [u_inc (by omega)]; omega), u_inc (by omega), l2, l3]
      refine Tm_suc (fun k => by rw [y_X3_endProc]) ?_
      generalize hH : uI (uF τ 20 f) 1902 (L'.1 2 + 1 + L'.1 3) = ρ
      have ρe : ∀ j, ¬ j = 1902 → ρ.1 j = τ.1 j := fun j hj => by rw [← hH]; exact upd_other hj
      have ρsp : uN (ρ.1 1902) = fp + 1 + tcP c u := by rw [← hH]; exact esp
      have ρz : ρ.2.1 = σ.2.1 ∧ ρ.2.2.2 = σ.2.2.2 := by rw [← hH]; exact ⟨by show τ.2.1 = _; rw [τ2], by show τ.2.2.2 = _; rw [τ2]⟩
      have ρk : ∀ k, ¬ k = 20 → ρ.2.2.1 k = σ.2.2.1 k := fun k hk => by
        rw [← hH]
        show updG τ.2.2.1 20 f k = _
        rw [updG_other hk, τ2]
      have ρf : ρ.2.2.1 20 = f := by rw [← hH]; rfl
      have mw : Mw σ ρ := ⟨fun j hj => (ρe j (by omega)).trans (τe j (by omega)), fun j _ => by rw [ρz.1], fun k hk => ρk k (by omega), ⟨fun k _ => by show ρ.2.2.2.2.1 k = _; rw [ρz.2], by show _ ≤ ρ.2.2.2.2.1 20; rw [ρz.2]; exact Nat.le_refl _⟩, by rw [ρz.2], by rw [ρz.2]⟩
      have n20' : sN ρ 20 = sN σ 20 := by show ρ.2.2.2.2.1 20 = _; rw [ρz.2]
      have rw1 : Rwk g (ρ.2.2.1 3) (Kw K fp (1 + tcP c u) none) (ρ.2.2.1 20) (uN (ρ.1 1902)) := by
        rw [ρsp, ρf, ρk 3 (by decide)]
        intro j hj
        rcases Nat.lt_or_ge j fp with y | y
        · rw [g1 j y, Kw_o (Or.inl y)]; exact st3 j (by omega)
        · rw [Kw_i y (by omega)]
          exact Rwn (g2' j y hj)
      have vi := VI_w mi.2.1 mw (ρk 23 (by decide)) ⟨fun _ z => z, fun p _ => by rw [ρk 3 (by decide)]⟩ (by rw [ρsp, n20']; omega) (by rw [n20']; exact st2) rw1
      have hq : HQ g l t ρ := HQ_fr mi.1 ((ρe 1 (by decide)).trans (τe 1 (by decide))) (ρk 3 (by decide)) (by rw [ρz.2])
      refine Tm_some ?_
      refine IO_w mi cs0 rfl (CoP_0 (by rw [ρz.2])) mw hq vi (fun j hj => by rw [Kw_o (Or.inl (by omega))]; exact mi.2.2.2.2.2.1 j hj) (by show B ≤ uN (ρ.1 1902); rw [ρsp]; omega) (by show uN (ρ.1 1903) + uN (ρ.1 1814) ≤ _; rw [ρe 1903 (by decide), τe 1903 (by decide), ρe 1814 (by decide), τe 1814 (by decide)]; exact mi.2.2.2.2.2.2.2.1) (fun _ => ?_) (fun z => absurd ((ρe 1812 (by decide)).trans ((τe 1812 (by decide)).trans p.2.2.2.1)) z)
      have ty' : TyS c (Kw K fp (1 + tcP c u) none) K4 f0 u0 ρ fs w.2.1 (w.2.2.1 + 1 + tcP c u) w.2.2.2.1 pb nf w.2.2.2.2.2.2.1 w.2.2.2.2.2.2.2 := by
        unfold TyS
        rw [ρsp, ρe 1901 (by decide), e1, ρe 1815 (by decide), τe 1815 (by decide), ρe 1811 (by decide), τe 1811 (by decide), ρe 1908 (by decide), e08]
        refine ⟨?_, ?_, ?_, t4, t5, fun _ => rfl, by omega, f3.2, ?_⟩
        · have z := SL_pu (1 + tcP c u) s
          rw [show fp + (1 + tcP c u) = fp + 1 + tcP c u from by omega, show w.2.2.1 + (1 + tcP c u) = w.2.2.1 + 1 + tcP c u from by omega] at z
          exact z
        · rw [k6, k7]
          exact FC_k wt (fun p hp => Kw_o (Or.inl (by omega))) (fun _ _ => rfl)
        · rw [show w.2.2.1 + 1 + tcP c u = w.2.2.1 + (1 + tcP c u) from by omega]
          exact Nat.le_trans f1 (bt_m _ _ _)
        · obtain ⟨_, w5, ms, _, e5, h5⟩ := k4
          rw [e5]
          exact PaM_0 h5
      refine ⟨qv nf w.2.2.2.2.2.2.2 rb, ⟨by rw [ρe 1905 (by decide), τe 1905 (by decide)]; exact p.2.2.1, _, _, _, rb, _, _, _, _, _, Or.inl ⟨ty', by rw [ρe 1900 (by decide), e0]; exact k3, rfl⟩⟩, ?_⟩
      show mu ρ _ < _
      unfold mu qv
      rw [ρe 1905 (by decide), τe 1905 (by decide), ρe 1814 (by decide), τe 1814 (by decide)]
      omega
    have b4 : ∀ (τ : CS), τ.2 = σ.2 → (∀ j, ¬ (j = 1900 ∨ j = 1901 ∨ j = 1902 ∨ j = 1908 ∨ j = 1909 ∨ j = 1910) → τ.1 j = σ.1 j) → uN (τ.1 1900) = bk → uN (τ.1 1901) = w.1 → uN (τ.1 1908) = w.2.2.2.2.2.2.1 → ∀ (m : Nat) (L' : LV) (f : Nat → Int32), uN (L'.1 2) = fp → uN (L'.1 3) = tcP c u → uN (L'.1 4) + m = tcP c u + 1 → 1 ≤ uN (L'.1 4) → (∀ j, j < fp ∨ fp + uN (L'.1 4) ≤ j → f j = σ.2.2.1 20 j) → (∀ j, fp ≤ j → j < fp + uN (L'.1 4) → Gv g (f j)) → Tm (fun k => y_X3_endProc k 4 L' (uF τ 20 f)) (fun q => IO c B KB f0 u0 σ (mu σ (qv nf sq rk)) ((0, 0), q.2, (0, 0))) := by
      intro τ τ2 τe e0 e1 e08 m
      have es : sN τ 20 = sN σ 20 := by show τ.2.2.2.2.1 20 = _; rw [τ2]
      induction m with
      | zero =>
        intro L' f l2 l3 l4 l4' g1 g2'
        refine Tm_suc (fun k => by rw [y_X3_endProc]) ?_
        refine Tm_yes (by rw [u_ltn (by omega) (by omega)]; omega) ?_
        exact b5 τ f L' τ2 τe e0 e1 e08 l2 l3 (fun j hj => g1 j (Or.inl hj)) (fun j h1 h2 => g2' j h1 (by omega))
      | succ m ih =>
        intro L' f l2 l3 l4 l4' g1 g2'
        have ea : uN (L'.1 2 + 4 - 1 + L'.1 4) = fp + 3 + uN (L'.1 4) := by
          have e5 : uN (L'.1 2 + 4 - 1) = fp + 3 := by rw [u_sub (by rw [u_add (by omega)]; omega), u_add (by omega), l2, u4, u1]; omega
          rw [u_add (by omega), e5]
        have eb' : uN (L'.1 2 + L'.1 4) = fp + uN (L'.1 4) := by rw [u_add (by omega), l2]
        refine Tm_suc (fun k => by rw [y_X3_endProc]) ?_
        refine Tm_no (by rw [u_ltn (by omega) (by omega)]; omega) ?_
        refine Tm_chk (u_in (x := L'.1 2 + 4 - 1 + L'.1 4) (by show _ < sN τ 20; rw [es]; omega) (by show sN τ 20 ≤ _; rw [es]; exact n20)) ?_
        refine Tm_chk (u_in (x := L'.1 2 + L'.1 4) (by show _ < sN τ 20; rw [es]; omega) (by show sN τ 20 ≤ _; rw [es]; exact n20)) ?_
        rw [uF_a]
        refine ih _ _ l2 l3 ?_ ?_ ?_ ?_
        · show uN (L'.1 4 + 1) + m = _
          rw [u_inc (by omega)]; omega
        · show 1 ≤ uN (L'.1 4 + 1)
          rw [u_inc (by omega)]; omega
        · show ∀ j, j < fp ∨ fp + uN (L'.1 4 + 1) ≤ j → upd f (L'.1 2 + L'.1 4).toNatClampNeg _ j = _
          rw [u_inc (by omega), u_cl (by omega), eb']
          intro j hj
          rw [upd_other (by omega)]
          exact g1 j (by omega)
        · show ∀ j, fp ≤ j → j < fp + uN (L'.1 4 + 1) → Gv g (upd f (L'.1 2 + L'.1 4).toNatClampNeg (f (L'.1 2 + 4 - 1 + L'.1 4).toNatClampNeg) j)
          rw [u_inc (by omega), u_cl (x := L'.1 2 + L'.1 4) (by omega), eb', u_cl (by omega), ea]
          intro j h1 h2
          by_cases y : j = fp + uN (L'.1 4)
          · rw [y, upd_same, g1 _ (by omega)]
            have z := gpv (uN (L'.1 4) - 1) (by omega)
            rw [show fp + 4 + (uN (L'.1 4) - 1) = fp + 3 + uN (L'.1 4) by omega] at z
            exact z
          · rw [upd_other y]
            exact g2' j h1 (by omega)
    have b3' : ∀ (τ : CS) (L' : LV), τ.2 = σ.2 → (∀ j, ¬ (j = 1900 ∨ j = 1901 ∨ j = 1902 ∨ j = 1908 ∨ j = 1909 ∨ j = 1910) → τ.1 j = σ.1 j) → uN (τ.1 1900) = bk → uN (τ.1 1901) = w.1 → uN (τ.1 1908) = w.2.2.2.2.2.2.1 → uN (L'.1 2) = fp → uN (L'.1 3) = tcP c u → Gv g (L'.1 1) → Tm (fun k => y_X3_endProc k 3 L' τ) (fun q => IO c B KB f0 u0 σ (mu σ (qv nf sq rk)) ((0, 0), q.2, (0, 0))) := by
      intro τ L' τ2 τe e0 e1 e08 l2 l3 gx
      have es : sN τ 20 = sN σ 20 := by show τ.2.2.2.2.1 20 = _; rw [τ2]
      refine Tm_suc (fun k => by rw [y_X3_endProc]) ?_
      refine Tm_chk (u_in (x := L'.1 2) (by rw [es]; omega) (by rw [es]; exact n20)) ?_
      refine b4 τ τ2 τe e0 e1 e08 (tcP c u) (lI L' 4 1) (upd (τ.2.2.1 20) (L'.1 2).toNatClampNeg (L'.1 1)) l2 l3 ?_ ?_ ?_ ?_
      · show 1 + _ = _
        omega
      · show 1 ≤ 1
        exact Nat.le_refl _
      · show ∀ j, j < fp ∨ fp + 1 ≤ j → _
        rw [u_cl (by omega), l2, τ2]
        intro j hj
        rw [upd_other (by omega)]
      · show ∀ j, fp ≤ j → j < fp + 1 → _
        rw [u_cl (by omega), l2]
        intro j h1 h2
        rw [show j = fp from by omega, upd_same]
        exact gx
    have b2' : ∀ (τ : CS) (L' : LV), τ.2 = σ.2 → (∀ j, ¬ (j = 1900 ∨ j = 1901 ∨ j = 1902 ∨ j = 1908 ∨ j = 1909 ∨ j = 1910) → τ.1 j = σ.1 j) → uN (τ.1 1900) = bk → uN (τ.1 1901) = w.1 → uN (τ.1 1908) = w.2.2.2.2.2.2.1 → uN (L'.1 2) = fp → uN (L'.1 3) = tcP c u → Gv g (L'.1 1) → Tm (fun k => y_X3_endProc k 2 L' τ) (fun q => IO c B KB f0 u0 σ (mu σ (qv nf sq rk)) ((0, 0), q.2, (0, 0))) := by
      intro τ L' τ2 τe e0 e1 e08 l2 l3 gx
      have ei : uN (L'.1 2 + 3) = fp + 3 := by rw [u_add (by omega), l2, u3]
      have es : sN τ 20 = sN σ 20 := by show τ.2.2.2.2.1 20 = _; rw [τ2]
      refine Tm_suc (fun k => by rw [y_X3_endProc]) ?_
      refine Tm_chk (u_in (x := L'.1 2 + 3) (by show _ < sN τ 20; rw [es]; omega) (by show sN τ 20 ≤ _; rw [es]; exact n20)) ?_
      refine Tm_oc c_unraw (fun q e => ?_)
      rw [e]
      refine b3' _ _ τ2 (fun j hj => ?_) e0 e1 e08 l2 l3 gx
      show upd (upd τ.1 1909 _) 1910 _ j = _
      rw [upd_other (by omega), upd_other (by omega)]
      exact τe j (by omega)
    have b1' : ∀ (τ : CS) (L' : LV), τ.2 = σ.2 → (∀ j, ¬ (j = 1900 ∨ j = 1902) → τ.1 j = σ.1 j) → uN (τ.1 1900) = bk → uN (L'.1 2) = fp → uN (L'.1 3) = tcP c u → Gv g (L'.1 1) → Tm (fun k => y_X3_endProc k 1 L' τ) (fun q => IO c B KB f0 u0 σ (mu σ (qv nf sq rk)) ((0, 0), q.2, (0, 0))) := by
      intro τ L' τ2 τe e0 l2 l3 gx
      have ei : uN (L'.1 2 + 1) = fp + 1 := by rw [u_inc (by omega), l2]
      have es : sN τ 20 = sN σ 20 := by show τ.2.2.2.2.1 20 = _; rw [τ2]
      refine Tm_suc (fun k => by rw [y_X3_endProc]) ?_
      refine Tm_chk (u_in (x := L'.1 2 + 1) (by rw [es]; omega) (by rw [es]; exact n20)) ?_
      refine Tm_oc c_unraw (fun q e => ?_)
      rw [e]
      refine b2' _ _ τ2 (fun j hj => ?_) e0 ?_ ?_ l2 l3 gx
      · show upd (upd τ.1 1901 _) 1908 _ j = _
        rw [upd_other (by omega), upd_other (by omega)]
        exact τe j (by omega)
      · show uN (nI (uN (τ.2.2.1 20 (L'.1 2 + 1).toNatClampNeg) % 268435456)) = _
        rw [u_cl (by omega), ei, τ2, v1, u_n (by omega), unr (by omega)]
      · show uN (τ.1 1908 - 1) = _
        rw [τe 1908 (by decide), u_sub (by omega), u1, e8]; omega
    have ei : uN (σ.1 1901 + 2) = fp + 2 := by rw [u_add (by omega), hfp, u2]
    refine Tm_suc (fun k => by rw [y_X3_endProc]) ?_
    refine Tm_oc (c_pop (by omega) st1 st2.2) (fun q e => ?_)
    rw [e.1]
    refine Tm_oB eb ?_
    refine Tm_chk (u_in (x := σ.1 1901 + 2) (by show _ < sN σ 20; omega) (by show sN σ 20 ≤ _; exact n20)) ?_
    refine Tm_oc c_unraw (fun q2 e2 => ?_)
    rw [e2]
    have e4 : nI (uN (σ.2.2.1 20 (σ.1 1901 + 2).toNatClampNeg) % 268435456) = nI u := by
      rw [u_cl (by omega), ei, v2, k5, unr (by omega)]
    have e4' : uN (nI (uN (σ.2.2.1 20 (σ.1 1901 + 2).toNatClampNeg) % 268435456)) = u := by rw [e4, u_n (by omega)]
    refine Tm_chk (u_in (x := nI (uN (σ.2.2.1 20 (σ.1 1901 + 2).toNatClampNeg) % 268435456)) (by omega) (by decide)) ?_
    refine Tm_chk (u_in (x := σ.1 1901) (by show _ < sN σ 20; omega) (by show sN σ 20 ≤ _; exact n20)) ?_
    refine Tm_oc c_unraw (fun q3 e3 => ?_)
    rw [e3]
    refine b1' _ _ rfl (fun j hj => ?_) ?_ hfp ?_ gh
    · show upd (upd σ.1 1902 _) 1900 _ j = _
      rw [upd_other (by omega), upd_other (by omega)]
    · show uN (nI (uN (σ.2.2.1 20 (σ.1 1901).toNatClampNeg) % 268435456)) = _
      rw [u_cl (by omega), hfp, v0, u_n (by omega), unr (by omega)]
    · show uN (σ.2.2.1 (pR14 b) (nI (uN (σ.2.2.1 20 (σ.1 1901 + 2).toNatClampNeg) % 268435456)).toNatClampNeg) = _
      rw [u_cl (x := nI (uN (σ.2.2.1 20 (σ.1 1901 + 2).toNatClampNeg) % 268435456)) (by omega), e4']
      exact cr.2.1
end CSY

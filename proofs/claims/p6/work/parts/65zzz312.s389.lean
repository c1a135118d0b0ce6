/-! The class: points are given up. -/
section CTA
variable {g g' g2 : Nat → Prop} {l l' l2 : List Nat} {t t' t2 : Nat} {σ σ' σ2 : CS} {L : LV} {x y i : Int32} {M M' U U' : Nat → Int32} {K K' K2 K2' K3 K4 KB : Nat → Option Int32} {c : Ct} {B f0 u0 : Nat} {fs : List FrT} {u d : Nat} {r : List Nat} {pb nf nc sq rk : Nat}
/-- the run's numbers and its stack, and fewer points -/
theorem MIn_p (mi : MIn c g l t K K2 K3 K4 B KB σ) {f : Nat → Int32} (e2 : σ'.2 = (uF σ 20 f).2) (ej : ∀ j, ¬ ((1811 ≤ j ∧ j ≤ 1816) ∨ (1900 ≤ j ∧ j ≤ 1913)) → σ'.1 j = σ.1 j) (pok : POK c K2 (sN σ 20) (uN (σ'.1 1912)) (uN (σ'.1 1913))) (h12 : uN (σ'.1 1912) ≤ 20) (h13 : uN (σ'.1 1913) ≤ uN (σ.1 1913)) (hs : uN (σ'.1 1902) ≤ sN σ 20) (hf : Rwk g (σ.2.2.1 3) K' f (uN (σ'.1 1902))) (hb : B ≤ uN (σ'.1 1902)) (hk : ∀ j, j < B → K' j = KB j) (lf : uN (σ'.1 1903) + uN (σ'.1 1814) ≤ 10240000) : MIn c g l t K' K2 K3 K4 B KB σ' ∧ MFr σ σ' := by
  obtain ⟨m1, m2, m3, m4, m5, m6, m7, m8, m9, m10, m11⟩ := mi
  obtain ⟨v1, v2, v3, v4, v5, v6, v7, v8⟩ := m2
  have ρk : ∀ k, ¬ k = 20 → σ'.2.2.1 k = σ.2.2.1 k := fun k hk => by rw [e2]; exact updG_other hk
  have ρ20 : σ'.2.2.1 20 = f := by rw [e2]; rfl
  have ρn : ∀ k, sN σ' k = sN σ k := fun k => by show σ'.2.2.2.2.1 k = _; rw [e2]; rfl
  have p8 : ∀ i, sPi σ' i = sPi σ i := fun i => by show σ'.2.2.2.2.2.2 i = _; rw [e2]; rfl
  have us : usI σ' = usI σ := by
    unfold usI
    rw [p8, ej 2405 (by decide), ej 2403 (by decide), ej (100 * (28 + sPi σ 8) + 2) (by omega), ej (100 * (28 + sPi σ 8) + 13) (by omega)]
  have mf : MFr σ σ' := ⟨fun j hj => ej j (by omega), fun j _ => by rw [e2]; rfl, fun k hk => ⟨ρk k (by unfold rwM at hk; omega), ρn k⟩, by rw [e2]; rfl, by rw [e2]; rfl⟩
  refine ⟨⟨HQ_fr m1 (ej 1 (by decide)) (ρk 3 (by decide)) (by rw [e2]; rfl), ?_, CtL_M m3 mf, by rw [ρn]; exact pok, SVK_g m5 (fun j h1 h2 => ej j (by omega)) (ρk 27 (by decide)) p8 (by rw [ρn]; exact Nat.le_refl _) (by rw [ρn]; exact Nat.le_refl _), hk, ⟨m7.1, hb⟩, lf, h12, by rw [ej 1914 (by decide)]; exact m10, by rw [ej 1915 (by decide)]; exact m11⟩, mf⟩
  refine ⟨⟨by rw [ρn]; exact hs, by rw [ρn]; exact v1.2.1, by rw [ρ20, ρk 3 (by decide)]; exact hf⟩, by rw [ρk 23 (by decide), ρk 3 (by decide)]; exact v2, ⟨?_, by rw [ρn]; exact v3.2.1, ?_⟩, by rw [ρk 67 (by decide), ρk 3 (by decide)]; exact v4, by rw [p8]; exact v5, by rw [us, ρn]; exact v6, by rw [ρn]; exact v7, by rw [us, ρk 26 (by decide), ρk 3 (by decide)]; exact v8⟩
  · rw [ρn]
    have := v3.1
    omega
  · rw [ρk 21 (by decide), ρk 3 (by decide)]
    exact fun j hj => v3.2.2 j (by omega)
theorem c_leavePoint (p : Pre c g l t K K2 K3 K4 B KB f0 u0 σ fs u d r pb nf nc sq) {pc : Nat} (cs : tcS c u) (hz : f0 = 0 ∧ u0 = 0) (hpc : σ.1 1900 = nI (pc + 1)) (hp : pc + 1 < 36865) (n0 : L.1 1 = 0 → Nx c (pc + 1) u d r rk) (n1 : ¬ L.1 1 = 0 → 72 * (RK + 1) ≤ rk) : Tm (fun k => f_X3_leavePoint k 0 L σ) (fun q => q.1.1 = 0 ∧ IO c B KB f0 u0 σ (mu σ (qv nf sq rk)) ((0, 0), q.2.1, (q.2.2.1 + 0, q.2.2.2 + 0))) := by
  have mi := p.1
  have ty := p.2.1
  have v3 := mi.2.1.2.2.1
  obtain ⟨st1, st2, st3⟩ := mi.2.1.1
  have ts := TyS_sp ty
  have cs0 := FC_S _ _ _ _ _ _ _ ty.2.1 cs
  have m9 := mi.2.2.2.2.2.2.2.2.1
  have pok := mi.2.2.2.1
  refine Tm_suc (fun k => by rw [f_X3_leavePoint]) ?_
  refine Tm_ite (fun _ => ?_) (fun cn => ?_)
  · refine Tm_op c_fail (fun q e => ?_)
    rw [e]
    refine Tm_some ⟨rfl, ha_fin p rfl (fun j hj => ?_) rfl (f13 (by decide))⟩
    show upd (upd σ.1 1813 _) 1812 1 j = _
    rw [upd_other (by omega), upd_other (by omega)]
  have u0' : uN (0 : Int32) = 0 := rfl
  have cn' : ¬ uN (σ.1 1912) = 0 := fun z => cn (u_eq.2 (by rw [z]; exact u0'.symm))
  obtain ⟨n, hn⟩ : ∃ n, uN (σ.1 1912) = n + 1 := ⟨uN (σ.1 1912) - 1, by omega⟩
  rw [hn] at pok
  obtain ⟨off, pcp, fpp, spp, ncp, z4, z5, e13, ⟨a0, a1, a2, a3, a4, a5⟩, ⟨rz4, rz5, spN⟩, run, pokn⟩ := pok
  have rs := RUN_sp run
  obtain ⟨ru, rd, rr, rsq, rfs, rms, ⟨w1, w1m⟩, w2, w3, w4, w5, w6, w7, w8, w9, w10, w11, w12⟩ := run
  have n21 := v3.2.1
  have t21 := v3.1
  have s21 : sN σ 21 ≤ 2147483648 := by omega
  have pin : ∀ {q : Nat} {v : Int32}, q < uN (σ.1 1913) → K2 q = some v → Rr v → σ.2.2.1 21 q = v := fun h k hr => (((v3.2.2 _ h).2.2 _ k).resolve_right (mk_nm hr)).1
  have p0 := pin (by omega) a0 (rwN_r (by omega))
  have p1 := pin (by omega) a1 (rwN_r (by omega))
  have p2 := pin (by omega) a2 (rwN_r (by omega))
  have p3 := pin (by omega) a3 (rwN_r (by omega))
  have u1 : uN (1 : Int32) = 1 := rfl
  have u2 : uN (2 : Int32) = 2 := rfl
  have u3 : uN (3 : Int32) = 3 := rfl
  have u4 : uN (4 : Int32) = 4 := rfl
  have u5 : uN (5 : Int32) = 5 := rfl
  have u6 : uN (6 : Int32) = 6 := rfl
  have et : uN (σ.1 1913 - 6) = off + spp := by rw [u_sub (by omega), u6]; omega
  have et2 : uN (σ.1 1913 - 6 + 2) = off + spp + 2 := by rw [u_add (by omega), et, u2]
  have et4 : uN (σ.1 1913 - 6 + 4) = off + spp + 4 := by rw [u_add (by omega), et, u4]
  have kbn : ∀ j, KB j = KH j := by
    rcases p.2.2.2.2 with y | y
    · have := mi.2.2.2.2.2.2.1.1
      omega
    · exact y.1
  have bB : B ≤ 4 + tcF c 0 := by
    rcases p.2.2.2.2 with y | y
    · have := mi.2.2.2.2.2.2.1.1
      omega
    · have y2 := y.2
      rw [hz.1, hz.2] at y2
      omega
  -- all is as then
  have b8 : ∀ (τ : CS) (L' : LV), τ.2 = (uF σ 20 (va_cpy (σ.2.2.1 21) (σ.2.2.1 20) off 0 spp)).2 → (∀ j, ¬ (j = 1900 ∨ j = 1901 ∨ j = 1902 ∨ (1908 ≤ j ∧ j ≤ 1913)) → τ.1 j = σ.1 j) → uN (τ.1 1900) = pcp → uN (τ.1 1901) = fpp → uN (τ.1 1902) = spp → uN (τ.1 1908) = ncp → uN (τ.1 1912) = n → uN (τ.1 1913) = off → 72 * (RK + 1) ≤ rk → Tm (fun k => f_X3_leavePoint k 8 L' τ) (fun q => q.1.1 = 0 ∧ IO c B KB f0 u0 σ (mu σ (qv nf sq rk)) ((0, 0), q.2.1, (q.2.2.1 + 0, q.2.2.2 + 0))) := by
    intro τ L' τ2 τe t0 t1 t2' t8 t12 t13 hrk
    have cpy : ∀ j, j < spp → va_cpy (σ.2.2.1 21) (σ.2.2.1 20) off 0 spp j = σ.2.2.1 21 (off + j) := by
      intro j hj
      unfold va_cpy
      rw [if_pos (by omega), Nat.sub_zero]
    have hf : Rwk g (σ.2.2.1 3) (fun j => K2 (off + j)) (va_cpy (σ.2.2.1 21) (σ.2.2.1 20) off 0 spp) (uN (τ.1 1902)) := by
      rw [t2']
      intro j hj
      rw [cpy j hj]
      exact v3.2.2 (off + j) (by omega)
    have mt := MIn_p (σ' := τ) (K' := fun j => K2 (off + j)) mi τ2 (fun j hj => τe j (by omega)) (by rw [t12, t13]; exact pokn) (by rw [t12]; omega) (by rw [t13]; omega) (by rw [t2']; exact spN) hf (by rw [t2']; omega) (fun j hj => (w12 j (by omega)).trans (kbn j).symm) (by rw [τe 1903 (by decide), τe 1814 (by decide)]; exact mi.2.2.2.2.2.2.2.1)
    obtain ⟨miτ, mf⟩ := mt
    have st' := miτ.2.1.1
    refine Tm_suc (fun k => by rw [f_X3_leavePoint]) ?_
    refine Tm_oxc (c_push st'.1 st'.2.1) (fun q z => by rw [z.1]) (fun q z => ?_)
    have z' : PuO τ (-1879048192) 1 q := z
    have pm := pu_MIn (σ' := q.2.1) (x := -1879048192) miτ (Or.inl ⟨by decide, by decide⟩) z' rfl (fun _ _ => rfl)
    obtain ⟨q1, q2, q3⟩ := pm
    refine Tm_suc (fun k => by rw [f_X3_leavePoint]) ?_
    refine Tm_some ⟨rfl, ?_⟩
    have ph := Ph_s (σ := σ) (σ' := τ) (by rw [τ2]; rfl)
    have c1 : q.2.2.1 + 0 + PhC q.2.1 ≤ PhC τ := q3.1
    have c2 : q.2.2.2 + 0 + PhS q.2.1 ≤ PhS τ := q3.2
    refine ⟨rfl, ⟨by show q.2.2.1 + 0 + 0 + PhC q.2.1 ≤ _; omega, by show q.2.2.2 + 0 + 0 + PhS q.2.1 ≤ _; omega⟩, MFr_t mf (Md_M q2), fun n => absurd cs0 n, g, l, t, _, _, _, _, q1, fun h0 => ?_, fun h0 => ?_⟩
    rotate_left
    · rcases z'.2.2.2.2.2.2 with y | y
      · exact absurd (y.2.2.2.1.trans ((τe 1812 (by decide)).trans p.2.2.2.1)) h0
      · exact Or.inl y.2.2.2.2
    have h0' : q.2.1.1 1812 = 0 := h0
    obtain ⟨a1, a2, a3, a4, a5, a6, a7⟩ := z'
    rcases a7 with ⟨b1, b2, b3, b4, b5, b6⟩ | ⟨b1, b2, b3, b4⟩
    · rw [t2'] at b1 ⊢
      have fe : ∀ j, ¬ (j = 1 ∨ j = 404 ∨ j = 1203 ∨ j = 1812 ∨ j = 1813 ∨ j = 1902 ∨ j = 1905) → q.2.1.1 j = τ.1 j := fun j hj => a3.1 j (by omega)
      have fb := (FC_b _ _ _ _ _ _ _ ty.2.1).2.2 cs
      have ty' : TyS c (Kw (fun j => K2 (off + j)) spp 1 none) K4 f0 u0 q.2.1 rfs ru 1 ((bsl + rd) :: rms) 0 0 ncp rsq := by
        unfold TyS
        rw [fe 1901 (by decide), t1, b1, fe 1815 (by decide), τe 1815 (by decide), fe 1811 (by decide), τe 1811 (by decide), fe 1908 (by decide), t8]
        refine ⟨SL_pu 1 w3, ?_, ?_, ⟨?_, by decide⟩, ?_, fun _ => rfl, w9, by omega, PaM_0 w1m⟩
        · rw [hz.1, hz.2]
          exact FC_k w8 (fun p hp => Kw_o (Or.inl (by omega))) (fun p hp => absurd hp (Nat.not_lt_zero p))
        · rw [bt_0]; exact w5
        · rw [ty.2.2.2.1.1]; exact fb.1
        · rw [ty.2.2.2.2.1]; exact fb.2.1
      refine ⟨qv 0 rsq rr, ⟨by rw [b6, τe 1905 (by decide)]; exact p.2.2.1, ru, 1, ((bsl + rd) :: rms), rr, rfs, 0, 0, ncp, rsq, Or.inl ⟨ty', by rw [fe 1900 (by decide), t0]; exact w1, rfl⟩⟩, ?_⟩
      have sqb := (FC_b _ _ _ _ _ _ _ w8).2.1
      have e1 : ncp * RK ≤ 50 * RK := Nat.mul_le_mul_right _ w9
      unfold mu qv
      rw [b6, τe 1905 (by decide), fe 1814 (by decide), τe 1814 (by decide)]
      have e2 : (20 - 0) * (RK + 1) = 20 * (RK + 1) := rfl
      rw [e2]
      omega
    · rw [b3] at h0'
      exact absurd h0' (by decide)
  have eP : ∀ {z : Int32}, σ.2.2.1 21 (uN z) = σ.2.2.1 21 (uN z) := rfl
  have b7 : ∀ (τ : CS) (L' : LV), τ.2 = σ.2 → (∀ j, ¬ (j = 1900 ∨ j = 1901 ∨ j = 1902 ∨ (1908 ≤ j ∧ j ≤ 1913)) → τ.1 j = σ.1 j) → uN (τ.1 1900) = pcp → uN (τ.1 1901) = fpp → uN (τ.1 1902) = spp → uN (τ.1 1908) = ncp → uN (τ.1 1912) = n → uN (τ.1 1913) = off → 72 * (RK + 1) ≤ rk → uN (L'.1 2) = off + spp → uN (L'.1 3) = spp → Tm (fun k => f_X3_leavePoint k 7 L' τ) (fun q => q.1.1 = 0 ∧ IO c B KB f0 u0 σ (mu σ (qv nf sq rk)) ((0, 0), q.2.1, (q.2.2.1 + 0, q.2.2.2 + 0))) := by
    intro τ L' τ2 τe t0 t1 t2' t8 t12 t13 hrk l2 l3
    have es : uN (L'.1 2 - L'.1 3) = off := by rw [u_sub (by omega)]; omega
    have n1' : sN τ 21 = sN σ 21 := by show τ.2.2.2.2.1 21 = _; rw [τ2]
    have n2' : sN τ 20 = sN σ 20 := by show τ.2.2.2.2.1 20 = _; rw [τ2]
    refine Tm_suc (fun k => by rw [f_X3_leavePoint]) ?_
    refine Tm_chk ⟨?_, by decide, ?_, ?_, ?_⟩ ?_
    · rw [u_neg]; omega
    · rw [u_neg]; omega
    · rw [u_cl (by omega), u_cl (by omega), n1']; omega
    · show 0 + (L'.1 3).toNatClampNeg ≤ _
      rw [u_cl (by omega), n2']; omega
    refine b8 _ _ ?_ τe t0 t1 t2' t8 t12 t13 hrk
    rw [u_cl (x := L'.1 2 - L'.1 3) (by omega), u_cl (x := L'.1 3) (by omega), es, l3]
    show (τ.2.1, updG τ.2.2.1 20 (va_cpy (τ.2.2.1 21) (τ.2.2.1 20) off 0 spp), τ.2.2.2) = _
    rw [τ2]
    rfl
  have b6 : ∀ (τ : CS) (L' : LV), τ.2 = σ.2 → (∀ j, ¬ (j = 1900 ∨ j = 1901 ∨ j = 1902 ∨ (1908 ≤ j ∧ j ≤ 1913)) → τ.1 j = σ.1 j) → uN (τ.1 1900) = pcp → uN (τ.1 1901) = fpp → uN (τ.1 1902) = spp → uN (τ.1 1908) = ncp → uN (τ.1 1912) = n → uN (τ.1 1913) = off → 72 * (RK + 1) ≤ rk → uN (L'.1 2) = off + spp → uN (L'.1 3) = spp → Tm (fun k => f_X3_leavePoint k 6 L' τ) (fun q => q.1.1 = 0 ∧ IO c B KB f0 u0 σ (mu σ (qv nf sq rk)) ((0, 0), q.2.1, (q.2.2.1 + 0, q.2.2.2 + 0))) := by
    intro τ L' τ2 τe t0 t1 t2' t8 t12 t13 hrk l2 l3
    have e5 : uN (L'.1 2 + 5) = off + spp + 5 := by rw [u_add (by omega), l2, u5]
    have n1' : sN τ 21 = sN σ 21 := by show τ.2.2.2.2.1 21 = _; rw [τ2]
    refine Tm_suc (fun k => by rw [f_X3_leavePoint]) ?_
    refine Tm_chk (u_in (x := L'.1 2 + 5) (by show _ < sN τ 21; omega) (by show sN τ 21 ≤ _; omega)) ?_
    refine Tm_op c_unraw (fun q e => ?_)
    rw [e]
    refine b7 _ _ τ2 (fun j hj => ?_) t0 t1 t2' t8 t12 t13 hrk l2 l3
    show upd (upd τ.1 1909 _) 1910 _ j = _
    rw [upd_other (by omega), upd_other (by omega)]
    exact τe j hj
  have b5 : ∀ (τ : CS) (L' : LV), τ.2 = σ.2 → (∀ j, ¬ (j = 1900 ∨ j = 1901 ∨ j = 1911 ∨ j = 1912 ∨ j = 1913) → τ.1 j = σ.1 j) → uN (τ.1 1900) = pcp → uN (τ.1 1901) = fpp → uN (τ.1 1912) = n → uN (τ.1 1913) = off → 72 * (RK + 1) ≤ rk → uN (L'.1 2) = off + spp → uN (L'.1 3) = spp → Tm (fun k => f_X3_leavePoint k 5 L' τ) (fun q => q.1.1 = 0 ∧ IO c B KB f0 u0 σ (mu σ (qv nf sq rk)) ((0, 0), q.2.1, (q.2.2.1 + 0, q.2.2.2 + 0))) := by
    intro τ L' τ2 τe t0 t1 t12 t13 hrk l2 l3
    have e3 : uN (L'.1 2 + 3) = off + spp + 3 := by rw [u_add (by omega), l2, u3]
    have n1' : sN τ 21 = sN σ 21 := by show τ.2.2.2.2.1 21 = _; rw [τ2]
    refine Tm_suc (fun k => by rw [f_X3_leavePoint]) ?_
    refine Tm_chk (u_in (x := L'.1 2 + 3) (by show _ < sN τ 21; omega) (by show sN τ 21 ≤ _; omega)) ?_
    refine Tm_op c_unraw (fun q e => ?_)
    rw [e]
    refine b6 _ _ τ2 (fun j hj => ?_) t0 t1 l3 ?_ t12 t13 hrk l2 l3
    · show upd (upd τ.1 1902 _) 1908 _ j = _
      rw [upd_other (by omega), upd_other (by omega)]
      exact τe j (by omega)
    · show uN (nI (uN (τ.2.2.1 21 (L'.1 2 + 3).toNatClampNeg) % 268435456)) = _
      rw [u_cl (by omega), e3, τ2, p3, u_n (by omega), unr (by omega)]
  have b4 : ∀ (τ : CS) (L' : LV), τ.2 = σ.2 → (∀ j, ¬ (j = 1911 ∨ j = 1912 ∨ j = 1913) → τ.1 j = σ.1 j) → uN (L'.1 100) = pcp → uN (τ.1 1912) = n → uN (τ.1 1913) = off → 72 * (RK + 1) ≤ rk → uN (L'.1 2) = off + spp → uN (L'.1 3) = spp → Tm (fun k => f_X3_leavePoint k 4 L' τ) (fun q => q.1.1 = 0 ∧ IO c B KB f0 u0 σ (mu σ (qv nf sq rk)) ((0, 0), q.2.1, (q.2.2.1 + 0, q.2.2.2 + 0))) := by
    intro τ L' τ2 τe t0 t12 t13 hrk l2 l3
    have e1 : uN (L'.1 2 + 1) = off + spp + 1 := by rw [u_inc (by omega), l2]
    have n1' : sN τ 21 = sN σ 21 := by show τ.2.2.2.2.1 21 = _; rw [τ2]
    refine Tm_suc (fun k => by rw [f_X3_leavePoint]) ?_
    refine Tm_chk (u_in (x := L'.1 2 + 1) (by show _ < sN τ 21; omega) (by show sN τ 21 ≤ _; omega)) ?_
    refine Tm_op c_unraw (fun q e => ?_)
    rw [e]
    refine b5 _ _ τ2 (fun j hj => ?_) t0 ?_ t12 t13 hrk l2 l3
    · show upd (upd τ.1 1900 _) 1901 _ j = _
      rw [upd_other (by omega), upd_other (by omega)]
      exact τe j (by omega)
    · show uN (nI (uN (τ.2.2.1 21 (L'.1 2 + 1).toNatClampNeg) % 268435456)) = _
      rw [u_cl (by omega), e1, τ2, p1, u_n (by omega), unr (by omega)]
  have b2 : ∀ (τ : CS) (L' : LV), τ.2 = σ.2 → (∀ j, ¬ j = 1912 → τ.1 j = σ.1 j) → uN (τ.1 1912) = n → L'.1 1 = L.1 1 → uN (L'.1 2) = off + spp → uN (L'.1 3) = spp → Tm (fun k => f_X3_leavePoint k 2 L' τ) (fun q => q.1.1 = 0 ∧ IO c B KB f0 u0 σ (mu σ (qv nf sq rk)) ((0, 0), q.2.1, (q.2.2.1 + 0, q.2.2.2 + 0))) := by
    intro τ L' τ2 τe t12 l1 l2 l3
    have es : uN (L'.1 2 - L'.1 3) = off := by rw [u_sub (by omega)]; omega
    have n1' : sN τ 21 = sN σ 21 := by show τ.2.2.2.2.1 21 = _; rw [τ2]
    refine Tm_suc (fun k => by rw [f_X3_leavePoint]) ?_
    refine Tm_ite (fun c0 => ?_) (fun c0 => ?_)
    · refine Tm_suc (fun k => by rw [f_X3_leavePoint]) ?_
      generalize hH : uI (uI τ 1911 (τ.1 1911 - L'.1 4)) 1913 (L'.1 2 - L'.1 3) = ρ
      have ρe : ∀ j, ¬ (j = 1911 ∨ j = 1912 ∨ j = 1913) → ρ.1 j = σ.1 j := fun j hj => by
        rw [← hH]
        show upd (upd τ.1 1911 _) 1913 _ j = _
        rw [upd_other (by omega), upd_other (by omega)]
        exact τe j (by omega)
      have ρ12 : uN (ρ.1 1912) = n := by rw [← hH]; exact t12
      have ρ13 : uN (ρ.1 1913) = off := by rw [← hH]; exact es
      have ρ2 : ρ.2 = (uF σ 20 (σ.2.2.1 20)).2 := by rw [uF_id, ← hH]; exact τ2
      have e02 := ρe 1902 (by decide)
      have mt := MIn_p (σ' := ρ) (K' := K) mi ρ2 (fun j hj => ρe j (by omega)) (by rw [ρ12, ρ13]; exact pokn) (by rw [ρ12]; omega) (by rw [ρ13]; omega) (by rw [e02]; exact st1) (by rw [e02]; exact st3) (by rw [e02]; exact mi.2.2.2.2.2.2.1.2) mi.2.2.2.2.2.1 (by rw [ρe 1903 (by decide), ρe 1814 (by decide)]; exact mi.2.2.2.2.2.2.2.1)
      have nx := n0 (by rw [← l1]; exact c0)
      refine Tm_some ⟨rfl, ⟨rfl, CoP_0 (by rw [ρ2]; rfl), mt.2, fun n => absurd cs0 n, g, l, t, K, K2, K3, K4, mt.1, fun _ => ?_, fun z => absurd ((ρe 1812 (by decide)).trans p.2.2.2.1) z⟩⟩
      refine go_n (TyS_k ty ⟨ρe 1901 (by decide), ρe 1815 (by decide), ρe 1811 (by decide), ρe 1908 (by decide)⟩ (by rw [e02]; exact ty.1) (fun _ _ => rfl) ty.2.2.1 ty.2.2.2.2.2.2.2.2) p.2.2.1 (ρe 1905 (by decide)) (ρe 1814 (by decide)) ?_
      rw [ρe 1900 (by decide), hpc, u_n (by omega)]
      exact nx
    · have hrk := n1 (by rw [← l1]; exact c0)
      refine Tm_chk (u_in (x := L'.1 2) (by show _ < sN τ 21; omega) (by show sN τ 21 ≤ _; omega)) ?_
      refine Tm_op c_unraw (fun q e => ?_)
      rw [e]
      refine b4 _ _ τ2 (fun j hj => ?_) ?_ t12 es hrk l2 l3
      · show upd (upd τ.1 1911 _) 1913 _ j = _
        rw [upd_other (by omega), upd_other (by omega)]
        exact τe j (by omega)
      · show uN (nI (uN (τ.2.2.1 21 (L'.1 2).toNatClampNeg) % 268435456)) = _
        rw [u_cl (by omega), l2, τ2, p0, u_n (by omega), unr (by omega)]
  refine Tm_suc (fun k => by rw [f_X3_leavePoint]) ?_
  refine Tm_chk (u_in (x := σ.1 1913 - 6 + 2) (by omega) s21) ?_
  refine Tm_op c_unraw (fun q e => ?_)
  rw [e]
  refine Tm_chk (u_in (x := σ.1 1913 - 6 + 4) (by show _ < sN σ 21; omega) s21) ?_
  refine Tm_op c_unraw (fun q2 e2 => ?_)
  rw [e2]
  refine b2 _ _ rfl (fun j hj => upd_other hj) ?_ rfl et ?_
  · show uN (σ.1 1912 - 1) = n
    rw [u_sub (by omega), u1]; omega
  · show uN (nI (uN (σ.2.2.1 21 (σ.1 1913 - 6 + 2).toNatClampNeg) % 268435456)) = _
    rw [u_cl (by omega), et2, p2, u_n (by omega), unr (by omega)]
end CTA

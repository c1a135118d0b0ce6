/-! The class: two values pushed; fold. -/
section CTM
variable {g g' g2 : Nat → Prop} {l l' l2 : List Nat} {t t' t2 : Nat} {σ σ' σ2 : CS} {L : LV} {x y i : Int32} {M M' U U' : Nat → Int32} {K K' K2 K2' K3 K4 K4' KB : Nat → Option Int32} {c : Ct} {B f0 u0 : Nat} {fs : List FrT} {u d : Nat} {r r' : List Nat} {pb nf nc sq rk : Nat}
/-- a value pushed, pinned or not -/
theorem pu_MK (mi : MIn c g l t K K2 K3 K4 B KB σ) {mk : Option Int32} (hm : (mk = none ∧ Gv g x) ∨ (mk = some x ∧ Rr x) ∨ (mk = some mkC ∧ Gw g x)) {q : RS} (h : PuO σ x 1 q) : MIn c g l t (Kw K (uN (σ.1 1902)) 1 mk) K2 K3 K4 B KB q.2.1 ∧ Md σ q.2.1 := by
  obtain ⟨st1, st2, st3⟩ := mi.2.1.1
  obtain ⟨h1, h2, h3, h4, h5, h6, h7⟩ := h
  have md : Md σ q.2.1 := Md_S h3
  have hq : HQ g l t q.2.1 := HQ_fs mi.1 h4.1 h4.2 (fun k hk => h3.2.2.2.1.1 k hk)
  have b := mi.2.2.2.2.2.2.1.2
  have e23 : q.2.1.2.2.1 23 = σ.2.2.1 23 := h3.2.2.1 23 (by decide)
  have r3 : q.2.1.2.2.1 3 = σ.2.2.1 3 := h4.2
  have kb : ∀ j, j < B → Kw K (uN (σ.1 1902)) 1 mk j = KB j := fun j hj => by rw [Kw_o (Or.inl (by omega))]; exact mi.2.2.2.2.2.1 j hj
  refine ⟨?_, md⟩
  rcases h7 with ⟨a1, a2, a3, a4, a5, a6⟩ | ⟨a1, a2, a3, a4⟩
  · have rw1 : Rwk g (q.2.1.2.2.1 3) (Kw K (uN (σ.1 1902)) 1 mk) (q.2.1.2.2.1 20) (uN (q.2.1.1 1902)) := by
      rw [a1, r3]
      intro j hj
      rcases Nat.lt_or_ge j (uN (σ.1 1902)) with z | z
      · rw [h6 j z, Kw_o (Or.inl z)]
        exact st3 j z
      · rw [a3 j z hj, Kw_i z hj]
        rcases hm with m | m | m
        · rw [m.1]; exact Rwn m.2
        · rw [m.1]; exact Rwp m.2
        · rw [m.1]; exact Rwc m.2
    have v := VI_20 mi.2.1 md e23 ⟨fun _ z => z, fun p _ => by rw [r3]⟩ (by rw [a1]; exact a2) h5 rw1
    exact MIn_d mi md hq v kb (by rw [a1]; omega)
  · have rw1 : Rwk g (q.2.1.2.2.1 3) (Kw K (uN (σ.1 1902)) 1 mk) (q.2.1.2.2.1 20) (uN (q.2.1.1 1902)) := by
      rw [a1, r3]
      intro j hj
      rw [h6 j hj, Kw_o (Or.inl hj)]
      exact st3 j hj
    have v := VI_20 mi.2.1 md e23 ⟨fun _ z => z, fun p _ => by rw [r3]⟩ (by rw [a1]; exact a2) h5 rw1
    exact MIn_d mi md hq v kb (by rw [a1]; exact b)
/-- two values pushed -/
theorem pu_2 (mi : MIn c g l t K K2 K3 K4 B KB σ) {mk mk2 : Option Int32} (h0 : σ.1 1812 = 0) (hm : (mk = none ∧ Gv g x) ∨ (mk = some x ∧ Rr x) ∨ (mk = some mkC ∧ Gw g x)) (hm2 : (mk2 = none ∧ Gv g y) ∨ (mk2 = some y ∧ Rr y) ∨ (mk2 = some mkC ∧ Gw g y)) {q1 q2 : RS} (h1 : PuO σ x 1 q1) (h2 : PuO q1.2.1 y 1 q2) {m : Nat} (run : q2.2.1.1 1812 = 0 → uN (q2.2.1.1 1902) = uN (σ.1 1902) + 2 → (∀ j, j < uN (σ.1 1902) → q2.2.1.2.2.1 20 j = σ.2.2.1 20 j) → q2.2.1.2.2.1 20 (uN (σ.1 1902)) = x → q2.2.1.2.2.1 20 (uN (σ.1 1902) + 1) = y → q2.2.1.2.2.1 3 = σ.2.2.1 3 → (∀ j, ¬ (j = 1 ∨ j = 404 ∨ j = 1203 ∨ j = 1812 ∨ j = 1813 ∨ j = 1902) → q2.2.1.1 j = σ.1 j) → ∃ z, RunT c (Kw (Kw K (uN (σ.1 1902)) 1 mk) (uN (σ.1 1902) + 1) 1 mk2) K4 f0 u0 q2.2.1 z ∧ mu q2.2.1 z < m) : IO c B KB f0 u0 σ m ((0, 0), q2.2.1, (q1.2.2.1 + (q2.2.2.1 + 0), q1.2.2.2 + (q2.2.2.2 + 0))) := by
  have p1 := pu_MK mi hm h1
  have p2 := pu_MK p1.1 hm2 h2
  have md := Md_t p1.2 p2.2
  have c1 := h1.2.1
  have c2 := h2.2.1
  have c11 := c1.1
  have c12 := c1.2
  have c21 := c2.1
  have c22 := c2.2
  refine ⟨rfl, ⟨by show q1.2.2.1 + (q2.2.2.1 + 0) + PhC q2.2.1 ≤ _; omega, by show q1.2.2.2 + (q2.2.2.2 + 0) + PhS q2.2.1 ≤ _; omega⟩, Md_M md, fun _ => Md_E md, ?_⟩
  obtain ⟨a1, a2, a3, a4, a5, a6, a7⟩ := h1
  obtain ⟨b1, b2, b3, b4, b5, b6, b7⟩ := h2
  have hzz : ¬ q2.2.1.1 1812 = 0 → Hz (tcS c u0) q2.2.1 := by
    intro z
    rcases b7 with e | e
    · rcases a7 with d | d
      · exact absurd (e.2.2.2.1.trans (d.2.2.2.1.trans h0)) z
      · refine Or.inl ?_
        rw [e.2.2.2.2.1]
        exact d.2.2.2.2
    · exact Or.inl e.2.2.2.2
  by_cases z0 : q2.2.1.1 1812 = 0
  · rcases b7 with ⟨e1, e2, e3, e4, e5, e6⟩ | ⟨e1, e2, e3, e4⟩
    · rcases a7 with ⟨d1, d2, d3, d4, d5, d6⟩ | ⟨d1, d2, d3, d4⟩
      · refine ⟨g, l, t, _, K2, K3, K4, p2.1, fun _ => ?_, hzz⟩
        rw [d1]
        refine run z0 (by rw [e1, d1]) (fun j hj => ?_) ?_ ?_ (by rw [b4.2, a4.2]) (fun j hj => ?_)
        · rw [b6 j (by rw [d1]; omega), a6 j hj]
        · rw [b6 _ (by rw [d1]; omega)]
          exact d3 _ (Nat.le_refl _) (by omega)
        · exact e3 _ (by rw [d1]; exact Nat.le_refl _) (by rw [d1]; omega)
        · by_cases j5 : j = 1905
          · rw [j5, e6, d6]
          · rw [b3.1 j (by omega), a3.1 j (by omega)]
      · rw [e4, d3] at z0
        exact absurd z0 (by decide)
    · rw [e3] at z0
      exact absurd z0 (by decide)
  · exact ⟨g, l, t, _, K2, K3, K4, p2.1, fun z => absurd z z0, hzz⟩
theorem c_fold (p : Pre c g l t K K2 K3 K4 B KB f0 u0 σ fs u d r pb nf nc sq) {pc rk' : Nat} (hd : 1 ≤ d) (hp : pc + 1 ≤ tcN c) (hN : tcN c ≤ 36864) (hpc : σ.1 1900 = nI (pc + 1)) {e0 : Nat} {r1 : List Nat} (hre : r = e0 :: r1) (hd2 : d + 1 < 250000) (tD : tcD c (pc + 1) = some (u + 100, 0, (750000 + (d + 1)) :: r, rk')) (hr : 1000 ≤ rk' ∧ rk' ≤ rk) (nS : NxS c (pc + 2) u d r) : Tm (fun k => f_X3_fold k 0 L σ) (fun q => q.1.1 = 0 ∧ IO c B KB f0 u0 σ (mu σ (qv nf sq rk)) ((0, 0), q.2.1, (q.2.2.1 + 0, q.2.2.2 + 0))) := by
  have mi := p.1
  have ty := p.2.1
  obtain ⟨st1, st2, st3⟩ := mi.2.1.1
  have ts := TyS_sp ty
  have u1 : uN (1 : Int32) = 1 := rfl
  have ea : uN (σ.1 1902 - 1) = uN (σ.1 1902) - 1 := by rw [u_sub (by omega), u1]
  have c1 : (σ.1 1902 - 1).toNatClampNeg = uN (σ.1 1902) - 1 := by rw [u_cl (by omega), ea]
  have i1 : ¬ (σ.1 1902 - 1 < 0 ∨ sN σ 20 ≤ (σ.1 1902 - 1).toNatClampNeg) := u_in (by omega) (by omega)
  have epc : uN (σ.1 1900) = pc + 1 := by rw [hpc, u_n (by omega)]
  generalize hh : σ.2.2.1 20 (uN (σ.1 1902) - 1) = h
  have gh : Gv g h := by rw [← hh]; exact (Ty_v p (by omega) (by omega))
  have kl := kdC_lt (σ.2.2.1 3) h
  have b2 : ∀ (σ' : CS) (L' : LV) (Q : RS → Prop), Q ((0, 0), σ', (0, 0)) → Tm (fun k => f_X3_fold k 2 L' σ') Q := by
    intro σ' L' Q h
    refine Tm_suc (fun k => by rw [f_X3_fold]) ?_
    exact Tm_some h
  refine Tm_suc (fun k => by rw [f_X3_fold]) ?_
  refine Tm_chk i1 ?_
  rw [c1, hh]
  refine Tm_op (c_kind mi.1 gh) (fun q z => ?_)
  rw [z]
  have e0 : (lI lZ 1 h).1 1 = h := rfl
  rw [e0]
  refine Tm_ite (fun k5 => ?_) (fun _ => ?_)
  · have k5' : (5 : Int32) ≤ nI (kdC (σ.2.2.1 3) h) := k5
    have u5 : uN (5 : Int32) = 5 := rfl
    rw [u_le (by decide) (by rw [u_n (by omega)]; omega), u5, u_n (by omega)] at k5'
    refine Tm_suc (fun k => by rw [f_X3_fold]) ?_
    refine Tm_op (c_length mi.1 gh) (fun q2 z2 => ?_)
    rw [z2]
    refine Tm_ite (fun _ => ?_) (fun _ => ?_)
    · refine Tm_op (c_replace mi.1 (Gv_om g) (by show 1 ≤ uN (σ.1 1902); omega) st1 st2.2 p.2.2.1) (fun q3 z3 => ?_)
      have f9 : q3.2.1 1900 = σ.1 1900 := z3.1.1 1900 (by decide)
      rw [f9]
      refine b2 _ _ _ ⟨rfl, ?_⟩
      exact re_fin (σ' := uI q3.2 1900 (σ.1 1900 + 1)) p hd (Gv_om g) z3 rfl (fun j hj => upd_other hj) (by
        show NxS c (uN (σ.1 1900 + 1)) u d r
        rw [u_inc (by omega), epc]; exact nS) _
    · have sq5 := Sq5_k (σ := σ) gh k5'
      refine Tm_suc (fun k => by rw [f_X3_fold]) ?_
      refine Tm_op (c_member mi.1 sq5.1 sq5.2) (fun q3 z3 => ?_)
      rw [z3]
      have gm := mbC_g (y := 0) mi.1 sq5.1 sq5.2
      refine Tm_oxc (c_push st1 st2) (fun q z => by rw [z.1]) (fun q4 z4 => ?_)
      refine Tm_op c_raw (fun q5 z5 => ?_)
      rw [z5]
      have p4 := pu_MK (mk := none) mi (Or.inl ⟨rfl, gm⟩) z4
      have st4 := p4.1.2.1.1
      refine Tm_oxc (c_push st4.1 st4.2.1) (fun q z => by rw [z.1]) (fun q6 z6 => ?_)
      refine b2 _ _ _ ⟨rfl, ?_⟩
      refine pu_2 (mk := none) (mk2 := some mkC) (y := rwN 1) mi p.2.2.2.1 (Or.inl ⟨rfl, gm⟩) (Or.inr (Or.inr ⟨rfl, Gw_rr (rwN_r (by decide))⟩)) z4 z6 (fun _ n2 hb hx hy r3 fe => ?_)
      have hs : SL (Kw (Kw K (uN (σ.1 1902)) 1 none) (uN (σ.1 1902) + 1) 1 (some mkC)) (uN (σ.1 1901) + 4) (uN (q6.2.1.1 1902)) 0 ((750000 + (d + 1)) :: r) := by
        rw [n2, hre]
        have z := SL_pu 1 ty.1
        rw [hre] at z
        exact SL_ct z hd2
      have eb : bt 0 ((750000 + (d + 1)) :: r) = bt d r := by
        show (if bsl ≤ 750000 + (d + 1) then 750000 + (d + 1) - bsl else bt ((750000 + (d + 1)) / 2) r) = _
        rw [if_neg (by unfold bsl; omega), hre]
        exact bt_c _ _ _ _
      have ty' := TyS_k (σ' := q6.2.1) ty ⟨fe 1901 (by decide), fe 1815 (by decide), fe 1811 (by decide), fe 1908 (by decide)⟩ hs (fun p hp => by rw [Kw_o (Or.inl (by omega)), Kw_o (Or.inl (by omega))]) (by rw [eb]; exact ty.2.2.1) ⟨fun cc => absurd cc (by unfold bsl; omega), fun _ => ty.2.2.2.2.2.2.2.2⟩
      refine ⟨_, ⟨by rw [fe 1905 (by decide)]; exact p.2.2.1, u, 0, (750000 + (d + 1)) :: r, rk', fs, pb, nf, nc, sq, Or.inr ⟨d + 1, r, ⟨rfl, rfl, by omega, hd2⟩, ty', by rw [fe 1900 (by decide), epc]; exact tD, ⟨by
        rw [n2, r3, show uN (σ.1 1902) + 2 - 3 = uN (σ.1 1902) - 1 by omega, hb _ (by omega), hh]
        exact k5', by
        rw [n2, show uN (σ.1 1902) + 2 - 1 = uN (σ.1 1902) + 1 by omega, hy, rwN_u (by decide)]
        decide⟩, rfl⟩⟩, ?_⟩
      rw [n2, show uN (σ.1 1902) + 2 - 1 = uN (σ.1 1902) + 1 by omega, hy, unr (by decide)]
      unfold mu qv
      rw [fe 1814 (by decide), fe 1905 (by decide)]
      omega
  · refine Tm_op c_fail (fun q3 e3 => ?_)
    rw [e3]
    refine b2 _ _ _ ⟨rfl, ha_fin p rfl (fun j hj => ?_) rfl (f13 (by decide))⟩
    show upd (upd σ.1 1813 _) 1812 1 j = _
    rw [upd_other (by omega), upd_other (by omega)]
end CTM

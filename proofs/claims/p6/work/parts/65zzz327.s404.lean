/-! The class: one more of a tuple that is gathered. -/
section CTP
variable {g g' g2 : Nat → Prop} {l l' l2 : List Nat} {t t' t2 : Nat} {σ σ' σ2 : CS} {L : LV} {x y i : Int32} {M M' U U' : Nat → Int32} {K K' K2 K2' K3 K4 K4' KB : Nat → Option Int32} {c : Ct} {B f0 u0 : Nat} {fs : List FrT} {u d : Nat} {r r' : List Nat} {pb nf nc sq rk : Nat}
/-- a place of the stack written, pinned or not -/
theorem MIn_wr (mi : MIn c g l t K K2 K3 K4 B KB σ) {mk : Option Int32} (hm : (mk = none ∧ Gv g x) ∨ (mk = some x ∧ Rr x)) {j : Nat} (hB : B ≤ j) : MIn c g l t (Kw K j 1 mk) K2 K3 K4 B KB (uA σ 20 j x) ∧ Md σ (uA σ 20 j x) := by
  obtain ⟨st1, st2, st3⟩ := mi.2.1.1
  have md : Md σ (uA σ 20 j x) := Md_A σ (by decide) _ _
  have rw1 : Rwk g ((uA σ 20 j x).2.2.1 3) (Kw K j 1 mk) ((uA σ 20 j x).2.2.1 20) (uN ((uA σ 20 j x).1 1902)) := by
    intro i hi
    have hi' : i < uN (σ.1 1902) := hi
    show Gw g (upd (σ.2.2.1 20) j x i) ∧ (Kw K j 1 mk i = none → Gv g (upd (σ.2.2.1 20) j x i)) ∧ ∀ v, Kw K j 1 mk i = some v → (upd (σ.2.2.1 20) j x i = v ∧ Rr v) ∨ (Mkd g (σ.2.2.1 3) v (upd (σ.2.2.1 20) j x i))
    by_cases e : i = j
    · rw [e, upd_same, Kw_i (Nat.le_refl _) (by omega)]
      rcases hm with m | m
      · rw [m.1]; exact Rwn m.2
      · rw [m.1]; exact Rwp m.2
    · rw [upd_other e, Kw_o (by omega)]
      exact st3 i hi'
  have v := VI_20 mi.2.1 md rfl ⟨fun _ z => z, fun _ _ => rfl⟩ st1 st2 rw1
  exact ⟨MIn_d mi md (HQ_fr mi.1 rfl rfl rfl) v (fun i hi => by rw [Kw_o (Or.inl (by omega))]; exact mi.2.2.2.2.2.1 i hi) mi.2.2.2.2.2.2.1.2, md⟩
theorem c_gatherIntoTuple (p : Pre c g l t K K2 K3 K4 B KB f0 u0 σ fs u 0 (d :: r) pb nf nc sq) (hd : d < 250000) (d2 : d % 2 = 0) (gx : Gv g (L.1 1)) (nx : Nx c (uN (σ.1 1900)) u 0 (d :: r) rk) : Tm (fun k => f_X3_gatherIntoTuple k 0 L σ) (fun q => q.1.1 = 0 ∧ IO c B KB f0 u0 σ (mu σ (qv nf sq rk)) ((0, 0), q.2.1, (q.2.2.1 + 0, q.2.2.2 + 0))) := by
  have b5 : 250000 < bsl := by decide
  have pcopy := p
  obtain ⟨mi, ty, w, h0, bo⟩ := p
  obtain ⟨st1, st2, st3⟩ := mi.2.1.1
  have u1 : uN (1 : Int32) = 1 := rfl
  have u2 : uN (2 : Int32) = 2 := rfl
  obtain ⟨b, n, z, a1, a2, a3, a4, a5, a6, a7⟩ := ty.1.2.1 (by omega) hd
  have v1 := pin_v st3 (by omega) a4 (rwN_r (by omega))
  have v2 := pin_v st3 (by omega) a5 a6.1
  have sb := SL_le _ _ _ a2
  have bB : B ≤ b := by
    obtain ⟨b', n', z', f1, f2, f3, f4, f5, f6, _, pp⟩ := Pre_gd pcopy hd
    have y := (pp (nI b') (u_n (by omega))).1.2.2.2.2.2.2.1.2
    have y' : B ≤ uN (nI b') := y
    rw [u_n (by omega)] at y'
    have s1 := pp (nI b') (u_n (by omega))
    rcases bo with q | q
    · have := (FC_f0 _ _ _ _ _ _ _ ty.2.1).1
      omega
    · have y2 := FC_B _ _ _ _ _ _ _ ty.2.1
      have q3 := ty.2.2.1
      have e : bt 0 (d :: r) = bt (d / 2) r := by
        show (if bsl ≤ d then d - bsl else bt (d / 2) r) = _
        rw [if_neg (by omega)]
      rw [e] at q3
      rcases y2 with y3 | y3
      · rw [y3.2] at q3
        omega
      · omega
  have ea : uN (σ.1 1902 - 1) = b + n + 1 := by rw [u_sub (by omega), u1]; omega
  have ea2 : uN (σ.1 1902 - 2) = b + n := by rw [u_sub (by omega), u2]; omega
  have c1 : (σ.1 1902 - 1).toNatClampNeg = b + n + 1 := by rw [u_cl (by omega), ea]
  have c2 : (σ.1 1902 - 2).toNatClampNeg = b + n := by rw [u_cl (by omega), ea2]
  have i1 : ¬ (σ.1 1902 - 1 < 0 ∨ sN σ 20 ≤ (σ.1 1902 - 1).toNatClampNeg) := u_in (by omega) (by omega)
  have i2 : ¬ (σ.1 1902 - 2 < 0 ∨ sN σ 20 ≤ (σ.1 1902 - 2).toNatClampNeg) := u_in (by omega) (by omega)
  have b1 : ∀ L' : LV, Tm (fun k => f_X3_gatherIntoTuple k 1 L' σ) (fun q => q.1.1 = 0 ∧ IO c B KB f0 u0 σ (mu σ (qv nf sq rk)) ((0, 0), q.2.1, (q.2.2.1 + 0, q.2.2.2 + 0))) := by
    intro L'
    refine Tm_suc (fun k => by rw [f_X3_gatherIntoTuple]) ?_
    exact Tm_some ⟨rfl, fl_fin pcopy rfl (fun _ _ => rfl) nx⟩
  have b4 : ∀ L' : LV, Tm (fun k => f_X3_gatherIntoTuple k 4 L' σ) (fun q => q.1.1 = 0 ∧ IO c B KB f0 u0 σ (mu σ (qv nf sq rk)) ((0, 0), q.2.1, (q.2.2.1 + 0, q.2.2.2 + 0))) := by
    intro L'
    refine Tm_suc (fun k => by rw [f_X3_gatherIntoTuple]) ?_
    refine Tm_op c_raw (fun q1 z1 => ?_)
    rw [z1]
    refine Tm_chk i1 ?_
    refine Tm_some ⟨rfl, ?_⟩
    show IO c B KB f0 u0 σ (mu σ (qv nf sq rk)) ((0, 0), uA σ 20 (σ.1 1902 - 1).toNatClampNeg (rwN 3000), (0, 0))
    rw [c1]
    have m1 := MIn_wr (x := rwN 3000) (mk := some (rwN 3000)) (j := b + n + 1) mi (Or.inr ⟨rfl, rwN_r (by decide)⟩) (by omega)
    refine ⟨rfl, CoP_0 rfl, Md_M m1.2, fun _ => Md_E m1.2, g, l, t, _, K2, K3, K4, m1.1, fun _ => ?_, fun z => absurd h0 z⟩
    have hs : SL (Kw K (b + n + 1) 1 (some (rwN 3000))) (uN (σ.1 1901) + 4) (uN (σ.1 1902)) 0 (d :: r) := by
      refine ⟨fun cc => absurd cc (by omega), fun _ _ => ⟨b, n, rwN 3000, a1, SL_eq _ _ _ (fun p h1 h2 => Kw_o (Or.inl (by omega))) a2, fun p h1 h2 => ?_, ?_, Kw_i (Nat.le_refl _) (by omega), ⟨rwN_r (by decide), fun y => absurd y (by omega)⟩, fun p h1 h2 => absurd h2 (by omega)⟩, fun _ c5 => absurd hd c5⟩
      · rw [Kw_o (Or.inl (by omega))]; exact a3 p h1 h2
      · rw [Kw_o (Or.inl (by omega))]; exact a4
    exact go_n (TyS_k (σ' := uA σ 20 (b + n + 1) (rwN 3000)) ty ⟨rfl, rfl, rfl, rfl⟩ hs (fun p hp => Kw_o (Or.inl (by omega))) ty.2.2.1 ty.2.2.2.2.2.2.2.2) w rfl rfl nx
  have b3 : ∀ L' : LV, L'.1 1 = L.1 1 → L'.1 2 = nI n → Tm (fun k => f_X3_gatherIntoTuple k 3 L' σ) (fun q => q.1.1 = 0 ∧ IO c B KB f0 u0 σ (mu σ (qv nf sq rk)) ((0, 0), q.2.1, (q.2.2.1 + 0, q.2.2.2 + 0))) := by
    intro L' l1 l2
    have e21 : uN (L'.1 2 + 1) % 268435456 = n + 1 := by rw [l2, u_inc (by rw [u_n (by omega)]; omega), u_n (by omega)]; omega
    have m1 := MIn_wr (x := L.1 1) (mk := none) (j := b + n) mi (Or.inl ⟨rfl, gx⟩) (by omega)
    have m2 := MIn_wr (x := rwN (n + 1)) (mk := some (rwN (n + 1))) (j := b + n + 1) m1.1 (Or.inr ⟨rfl, rwN_r (by omega)⟩) (by omega)
    have st2' := m2.1.2.1.1
    have gz : Gw g z := Gw_rr a6.1
    refine Tm_suc (fun k => by rw [f_X3_gatherIntoTuple]) ?_
    refine Tm_chk i1 ?_
    refine Tm_chk i2 ?_
    refine Tm_op c_raw (fun q1 z1 => ?_)
    rw [z1]
    refine Tm_chk i1 ?_
    show Tm (fun k => f_X3_gatherIntoTuple k 5 (lI L' 5 (σ.2.2.1 20 (σ.1 1902 - 1).toNatClampNeg)) (uA (uA σ 20 (σ.1 1902 - 2).toNatClampNeg (L'.1 1)) 20 (σ.1 1902 - 1).toNatClampNeg (rwN (uN (L'.1 2 + 1) % 268435456)))) _
    rw [c1, c2, e21, l1, v2]
    generalize hτ : uA (uA σ 20 (b + n) (L.1 1)) 20 (b + n + 1) (rwN (n + 1)) = τ at m2 st2'
    have eτ : ∀ j, τ.1 j = σ.1 j := fun j => by rw [← hτ]; rfl
    have sτ : τ.2.2.2.2.1 = σ.2.2.2.2.1 := by rw [← hτ]; rfl
    refine Tm_suc (fun k => by rw [f_X3_gatherIntoTuple]) ?_
    refine Tm_oxc (c_push st2'.1 st2'.2.1) (fun q z => by rw [z.1]) (fun q4 z4 => ?_)
    have z4' : PuO τ z 1 q4 := z4
    have m4 := pu_MK (mk := some mkC) m2.1 (Or.inr (Or.inr ⟨rfl, gz⟩)) z4'
    refine Tm_op c_raw (fun q5 z5 => ?_)
    rw [z5]
    obtain ⟨h1, h2, h3, h4, h5, h6, h7⟩ := z4'
    have sp : 1 ≤ uN (q4.2.1.1 1902) ∧ uN (q4.2.1.1 1902) ≤ sN q4.2.1 20 ∧ B ≤ uN (q4.2.1.1 1902) - 1 := by
      rcases h7 with y | y
      · rw [y.1, eτ]
        have := y.2.1
        rw [eτ] at this
        exact ⟨by omega, by omega, by omega⟩
      · rw [y.1, eτ]
        have := y.2.1
        rw [eτ] at this
        exact ⟨by omega, by omega, by omega⟩
    have ea4 : uN (q4.2.1.1 1902 - 1) = uN (q4.2.1.1 1902) - 1 := by rw [u_sub (by rw [u1]; exact sp.1), u1]
    have c4 : (q4.2.1.1 1902 - 1).toNatClampNeg = uN (q4.2.1.1 1902) - 1 := by rw [u_cl (by omega), ea4]
    refine Tm_chk (u_in (by rw [ea4]; show _ < sN q4.2.1 20; omega) (by show sN q4.2.1 20 ≤ _; omega)) ?_
    refine Tm_some ⟨rfl, ?_⟩
    generalize hv : rwN (uN ((lI lZ 0 ((lI L' 5 z).1 4)).1 0) % 268435456) = rv
    have rvr : Rr rv := by rw [← hv]; exact rwN_r (Nat.mod_lt _ (by decide))
    show IO c B KB f0 u0 σ (mu σ (qv nf sq rk)) ((0, 0), uA q4.2.1 20 (q4.2.1.1 1902 - 1).toNatClampNeg rv, (q4.2.2.1 + 0, q4.2.2.2 + 0))
    rw [c4]
    have m5 := MIn_wr (x := rv) (mk := some rv) (j := uN (q4.2.1.1 1902) - 1) m4.1 (Or.inr ⟨rfl, rvr⟩) sp.2.2
    have md := Md_t (Md_t m1.2 m2.2) (Md_t m4.2 m5.2)
    have ph := Ph_s (σ := σ) (σ' := τ) sτ
    have ph2 := Ph_s (σ := q4.2.1) (σ' := uA q4.2.1 20 (uN (q4.2.1.1 1902) - 1) rv) rfl
    have k1 := h2.1
    have k2 := h2.2
    refine ⟨rfl, ⟨by show q4.2.2.1 + 0 + PhC (uA q4.2.1 20 (uN (q4.2.1.1 1902) - 1) rv) ≤ _; omega, by show q4.2.2.2 + 0 + PhS (uA q4.2.1 20 (uN (q4.2.1.1 1902) - 1) rv) ≤ _; omega⟩, Md_M md, fun _ => Md_E md, g, l, t, _, K2, K3, K4, m5.1, fun zz => ?_, fun zz => ?_⟩
    rotate_left
    · rcases h7 with y | y
      · exact absurd (y.2.2.2.1.trans ((eτ 1812).trans h0)) zz
      · exact Or.inl y.2.2.2.2
    have z0 : q4.2.1.1 1812 = 0 := zz
    rcases h7 with ⟨y1, y2, y3, y4, y5, y6⟩ | ⟨y1, y2, y3, y4⟩
    · have fe : ∀ j, ¬ (j = 1 ∨ j = 404 ∨ j = 1203 ∨ j = 1812 ∨ j = 1813 ∨ j = 1902 ∨ j = 1905) → q4.2.1.1 j = σ.1 j := fun j hj => (h3.1 j (by omega)).trans (eτ j)
      have hi1 : uN (q4.2.1.1 1902) = b + n + 3 := by rw [y1, eτ]; omega
      have hiT : uN (τ.1 1902) = b + n + 2 := by rw [eτ]; omega
      have hs : SL (Kw (Kw (Kw (Kw K (b + n) 1 none) (b + n + 1) 1 (some (rwN (n + 1)))) (uN (τ.1 1902)) 1 (some mkC)) (uN (q4.2.1.1 1902) - 1) 1 (some rv)) (uN (σ.1 1901) + 4) (uN (q4.2.1.1 1902)) 0 (d :: r) := by
        rw [hi1, hiT, show b + n + 3 - 1 = b + n + 2 by omega]
        refine ⟨fun cc => absurd cc (by omega), fun _ _ => ⟨b, n + 1, rv, by omega, SL_eq _ _ _ (fun p h1 h2 => ?_) a2, fun p h1 h2 => ?_, ?_, ?_, ⟨rvr, fun y => absurd y (by omega)⟩, fun p h1 h2 => absurd h2 (by omega)⟩, fun _ c5 => absurd hd c5⟩
        · rw [Kw_o (Or.inl (by omega)), Kw_o (Or.inl (by omega)), Kw_o (Or.inl (by omega)), Kw_o (Or.inl (by omega))]
        · rw [Kw_o (Or.inl (by omega)), Kw_o (Or.inl (by omega)), Kw_o (Or.inl (by omega))]
          rcases Nat.lt_or_ge p (b + n) with y | y
          · rw [Kw_o (Or.inl y)]; exact a3 p h1 y
          · exact Kw_i y (by omega)
        · rw [Kw_o (Or.inl (by omega)), Kw_o (Or.inl (by omega)), Kw_i (by omega) (by omega)]
        · exact Kw_i (by omega) (by omega)
      refine go_n (TyS_k (σ' := uA q4.2.1 20 (uN (q4.2.1.1 1902) - 1) rv) ty ⟨fe 1901 (by decide), fe 1815 (by decide), fe 1811 (by decide), fe 1908 (by decide)⟩ hs (fun p hp => ?_) ty.2.2.1 ty.2.2.2.2.2.2.2.2) w (y6.trans (eτ 1905)) (fe 1814 (by decide)) ?_
      · rw [Kw_o (Or.inl (by omega)), Kw_o (Or.inl (by omega)), Kw_o (Or.inl (by omega)), Kw_o (Or.inl (by omega))]
      · show Nx c (uN (q4.2.1.1 1900)) u 0 (d :: r) rk
        rw [fe 1900 (by decide)]; exact nx
    · rw [y3] at z0
      exact absurd z0 (by decide)
  have b2 : ∀ L' : LV, L'.1 1 = L.1 1 → L'.1 2 = nI n → Tm (fun k => f_X3_gatherIntoTuple k 2 L' σ) (fun q => q.1.1 = 0 ∧ IO c B KB f0 u0 σ (mu σ (qv nf sq rk)) ((0, 0), q.2.1, (q.2.2.1 + 0, q.2.2.2 + 0))) := by
    intro L' l1 l2
    refine Tm_suc (fun k => by rw [f_X3_gatherIntoTuple]) ?_
    refine Tm_op (c_size1 mi.1 (by show Gv g (L'.1 1); rw [l1]; exact gx)) (fun q z => ?_)
    have e : q.2 = σ := z.1
    rw [e]
    refine Tm_ite (fun _ => b3 _ l1 l2) (fun _ => Tm_ite (fun _ => b4 _) (fun _ => Tm_ite (fun _ => b3 _ l1 l2) (fun _ => b4 _)))
  refine Tm_suc (fun k => by rw [f_X3_gatherIntoTuple]) ?_
  refine Tm_chk i2 ?_
  rw [c2]
  refine Tm_op c_unraw (fun q5 z5 => ?_)
  rw [z5]
  refine Tm_chk i1 ?_
  refine Tm_op c_unraw (fun q6 z6 => ?_)
  rw [z6]
  have en : nI (uN ((lI lZ 0 (σ.2.2.1 20 (b + n))).1 0) % 268435456) = nI n := by
    show nI (uN (σ.2.2.1 20 (b + n)) % 268435456) = nI n
    rw [v1, unr (by omega)]
  rw [en]
  refine Tm_ite (fun _ => b1 _) (fun _ => Tm_ite (fun _ => Tm_ite (fun _ => b2 _ rfl rfl) (fun _ => b1 _)) (fun _ => b2 _ rfl rfl))
end CTP

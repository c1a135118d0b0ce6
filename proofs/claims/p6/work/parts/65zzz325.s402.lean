/-! The class: gathering begins; a tuple is joined. -/
section CTN
variable {g g' g2 : Nat → Prop} {l l' l2 : List Nat} {t t' t2 : Nat} {σ σ' σ2 : CS} {L : LV} {x y i : Int32} {M M' U U' : Nat → Int32} {K K' K2 K2' K3 K4 K4' KB : Nat → Option Int32} {c : Ct} {B f0 u0 : Nat} {fs : List FrT} {u d : Nat} {r r' : List Nat} {pb nf nc sq rk : Nat}
/-- the uppermost values become gathered ones -/
theorem SL_jn {lo hi n : Nat} {z : Int32} (h : SL K lo hi (d + n) r) {f : Nat} (hf : f < 2) (hd : 2 * d + f < 250000) (hz : Rr z) (hc : f = 1 → 1000 < uN z % 268435456 → 1 ≤ n) : SL (Kw (Kw K hi 1 (some (rwN n))) (hi + 1) 1 (some z)) lo (hi + 2) 0 ((2 * d + f) :: r) := by
  have e2 : (2 * d + f) / 2 = d := by omega
  have le := (SL_le _ _ _ h).2
  have b5 : 250000 < bsl := by decide
  refine ⟨fun cc => absurd cc (by omega), fun _ _ => ⟨hi - n, n, z, by omega, by rw [e2]; exact SL_eq _ _ _ (fun p h1 h2 => by rw [Kw_o (Or.inl (by omega)), Kw_o (Or.inl (by omega))]) (SL_pop r hi d n h), fun p h1 h2 => ?_, ?_, ?_, ⟨hz, fun y => hc (by omega)⟩, fun p h1 h2 => absurd h2 (by omega)⟩, fun _ c5 => absurd hd c5⟩
  · rw [Kw_o (Or.inl (by omega)), Kw_o (Or.inl (by omega))]
    exact SL_top _ _ _ h p (by omega) (by omega)
  · rw [show hi - n + n = hi by omega, Kw_o (Or.inl (by omega)), Kw_i (Nat.le_refl _) (by omega)]
  · rw [show hi - n + n + 1 = hi + 1 by omega, Kw_i (Nat.le_refl _) (by omega)]
theorem jn_fin {n : Nat} (p : Pre c g l t K K2 K3 K4 B KB f0 u0 σ fs u (d + n) r pb nf nc sq) {f : Nat} (hf : f < 2) (hd : 2 * d + f < 250000) (hn : n < 268435456) (hz : Rr y) (hc : f = 1 → 1000 < uN y % 268435456 → 1 ≤ n) {q1 q2 : RS} (h1 : PuO σ (rwN n) 1 q1) (h2 : PuO q1.2.1 y 1 q2) (nx : Nx c (uN (σ.1 1900)) u 0 ((2 * d + f) :: r) rk) : IO c B KB f0 u0 σ (mu σ (qv nf sq rk)) ((0, 0), q2.2.1, (q1.2.2.1 + (q2.2.2.1 + 0), q1.2.2.2 + (q2.2.2.2 + 0))) := by
  have b5 : 250000 < bsl := by decide
  have mi := p.1
  have ty := p.2.1
  refine pu_2 (mk := some (rwN n)) (mk2 := some y) mi p.2.2.2.1 (Or.inr (Or.inl ⟨rfl, rwN_r hn⟩)) (Or.inr (Or.inl ⟨rfl, hz⟩)) h1 h2 (fun _ n2 hb hx hy r3 fe => ?_)
  obtain ⟨rk', k1, k2, k3⟩ := nx
  have hs : SL (Kw (Kw K (uN (σ.1 1902)) 1 (some (rwN n))) (uN (σ.1 1902) + 1) 1 (some y)) (uN (σ.1 1901) + 4) (uN (q2.2.1.1 1902)) 0 ((2 * d + f) :: r) := by
    rw [n2]
    exact SL_jn ty.1 hf hd hz hc
  have ts := TyS_sp ty
  have ty' := TyS_k (σ' := q2.2.1) ty ⟨fe 1901 (by decide), fe 1815 (by decide), fe 1811 (by decide), fe 1908 (by decide)⟩ hs (fun p hp => by rw [Kw_o (Or.inl (by omega)), Kw_o (Or.inl (by omega))]) k3 ⟨fun cc => absurd cc (by omega), fun _ => ty.2.2.2.2.2.2.2.2⟩
  exact go_n ty' p.2.2.1 (fe 1905 (by decide)) (fe 1814 (by decide)) ⟨rk', by rw [fe 1900 (by decide)]; exact k1, k2, k3⟩
theorem c_gather1 (p : Pre c g l t K K2 K3 K4 B KB f0 u0 σ fs u d r pb nf nc sq) {f : Nat} (hf : f < 2) (hd : 2 * d + f < 250000) (nx : Nx c (uN (σ.1 1900)) u 0 ((2 * d + f) :: r) rk) : Tm (fun k => f_X3_gather k 1 L σ) (IO c B KB f0 u0 σ (mu σ (qv nf sq rk))) := by
  have b5 : 250000 < bsl := by decide
  have mi := p.1
  obtain ⟨st1, st2, st3⟩ := mi.2.1.1
  refine Tm_suc (fun k => by rw [f_X3_gather]) ?_
  refine Tm_op c_raw (fun q1 z1 => ?_)
  rw [z1]
  refine Tm_oxc (c_push st1 st2) (fun q z => by rw [z.1]) (fun q4 z4 => ?_)
  have z4' : PuO σ (rwN 0) 1 q4 := z4
  refine Tm_op c_raw (fun q5 z5 => ?_)
  rw [z5]
  have p4 := pu_MK (mk := some (rwN 0)) mi (Or.inr (Or.inl ⟨rfl, rwN_r (by decide)⟩)) z4'
  have st4 := p4.1.2.1.1
  refine Tm_oxc (c_push st4.1 st4.2.1) (fun q z => by rw [z.1]) (fun q6 z6 => ?_)
  have z6' : PuO q4.2.1 (rwN 1) 1 q6 := z6
  refine Tm_suc (fun k => by rw [f_X3_gather]) ?_
  have zz := jn_fin (n := 0) (d := d) (y := rwN 1) (q1 := q4) (q2 := q6) p hf hd (by decide) (rwN_r (by decide)) (fun _ z => absurd z (by decide)) z4' z6' nx
  exact Tm_some zz
theorem c_joinTuple {n : Nat} (p : Pre c g l t K K2 K3 K4 B KB f0 u0 σ fs u (d + n) r pb nf nc sq) {f : Nat} (hf : f < 2) (hd : 2 * d + f < 250000) (n1 : 1 ≤ n) (h1 : uN (L.1 1) = n) (nx : Nx c (uN (σ.1 1900)) u 0 ((2 * d + f) :: r) rk) : Tm (fun k => f_X3_joinTuple k 0 L σ) (fun q => q.1.1 = 0 ∧ IO c B KB f0 u0 σ (mu σ (qv nf sq rk)) ((0, 0), q.2.1, (q.2.2.1 + 0, q.2.2.2 + 0))) := by
  have b5 : 250000 < bsl := by decide
  have mi := p.1
  obtain ⟨st1, st2, st3⟩ := mi.2.1.1
  have ts := TyS_sp p.2.1
  have b6 : ∀ (L' : LV) (q4 : RS), PuO σ (rwN n) 1 q4 → Tm (fun k => f_X3_joinTuple k 6 L' q4.2.1) (fun q => q.1.1 = 0 ∧ IO c B KB f0 u0 σ (mu σ (qv nf sq rk)) ((0, 0), q.2.1, (q4.2.2.1 + (q.2.2.1 + 0), q4.2.2.2 + (q.2.2.2 + 0)))) := by
    intro L' q4 z4
    have p4 := pu_MK (mk := some (rwN n)) mi (Or.inr (Or.inl ⟨rfl, rwN_r (by omega)⟩)) z4
    have st4 := p4.1.2.1.1
    refine Tm_suc (fun k => by rw [f_X3_joinTuple]) ?_
    refine Tm_op c_raw (fun q5 z5 => ?_)
    rw [z5]
    refine Tm_oxc (c_push st4.1 st4.2.1) (fun q z => by rw [z.1]) (fun q6 z6 => ?_)
    have z6' : PuO q4.2.1 (rwN (uN (L'.1 100) % 268435456)) 1 q6 := z6
    have zz := jn_fin (n := n) (y := rwN (uN (L'.1 100) % 268435456)) (q1 := q4) (q2 := q6) p hf hd (by omega) (rwN_r (Nat.mod_lt _ (by decide))) (fun _ _ => n1) z4 z6' nx
    exact Tm_some ⟨rfl, zz⟩
  have b2 : ∀ L' : LV, L'.1 1 = L.1 1 → Tm (fun k => f_X3_joinTuple k 2 L' σ) (fun q => q.1.1 = 0 ∧ IO c B KB f0 u0 σ (mu σ (qv nf sq rk)) ((0, 0), q.2.1, (q.2.2.1 + 0, q.2.2.2 + 0))) := by
    intro L' l1
    refine Tm_suc (fun k => by rw [f_X3_joinTuple]) ?_
    refine Tm_op c_raw (fun q1 z1 => ?_)
    rw [z1]
    refine Tm_oxc (c_push st1 st2) (fun q z => by rw [z.1]) (fun q4 z4 => ?_)
    have z4' : PuO σ (rwN n) 1 q4 := by
      have e : uN (L'.1 1) % 268435456 = n := by rw [l1, h1]; omega
      rw [← e]; exact z4
    refine Tm_ite (fun _ => ?_) (fun _ => ?_)
    · refine Tm_suc (fun k => by rw [f_X3_joinTuple]) ?_
      exact b6 _ _ z4'
    · exact b6 _ _ z4'
  have b1 : ∀ (k : Nat) (L' : LV), k ≤ n → L'.1 1 = L.1 1 → uN (L'.1 4) + k = uN (σ.1 1902) → Tm (fun k => f_X3_joinTuple k 1 L' σ) (fun q => q.1.1 = 0 ∧ IO c B KB f0 u0 σ (mu σ (qv nf sq rk)) ((0, 0), q.2.1, (q.2.2.1 + 0, q.2.2.2 + 0))) := by
    intro k
    induction k with
    | zero =>
      intro L' kn l1 l4
      refine Tm_suc (fun k => by rw [f_X3_joinTuple]) ?_
      exact Tm_yes (by rw [u_le (by omega) (by omega)]; omega) (b2 _ l1)
    | succ k ih =>
      intro L' kn l1 l4
      have b7 : ∀ L2 : LV, L2.1 1 = L.1 1 → L2.1 4 = L'.1 4 → Tm (fun k => f_X3_joinTuple k 7 L2 σ) (fun q => q.1.1 = 0 ∧ IO c B KB f0 u0 σ (mu σ (qv nf sq rk)) ((0, 0), q.2.1, (q.2.2.1 + 0, q.2.2.2 + 0))) := by
        intro L2 m1 m4
        refine Tm_suc (fun k => by rw [f_X3_joinTuple]) ?_
        refine ih _ (by omega) m1 ?_
        show uN (L2.1 4 + 1) + k = _
        rw [m4, u_inc (by omega)]
        omega
      have b3 : ∀ L2 : LV, L2.1 1 = L.1 1 → L2.1 4 = L'.1 4 → Tm (fun k => f_X3_joinTuple k 3 L2 σ) (fun q => q.1.1 = 0 ∧ IO c B KB f0 u0 σ (mu σ (qv nf sq rk)) ((0, 0), q.2.1, (q.2.2.1 + 0, q.2.2.2 + 0))) := by
        intro L2 m1 m4
        refine Tm_suc (fun k => by rw [f_X3_joinTuple]) ?_
        exact b7 _ m1 m4
      have b4 : ∀ L2 : LV, L2.1 1 = L.1 1 → L2.1 4 = L'.1 4 → Tm (fun k => f_X3_joinTuple k 4 L2 σ) (fun q => q.1.1 = 0 ∧ IO c B KB f0 u0 σ (mu σ (qv nf sq rk)) ((0, 0), q.2.1, (q.2.2.1 + 0, q.2.2.2 + 0))) := by
        intro L2 m1 m4
        refine Tm_suc (fun k => by rw [f_X3_joinTuple]) ?_
        exact b7 _ m1 m4
      have i4 : ¬ (L'.1 4 < 0 ∨ sN σ 20 ≤ (L'.1 4).toNatClampNeg) := u_in (by omega) (by omega)
      refine Tm_suc (fun k => by rw [f_X3_joinTuple]) ?_
      refine Tm_no (by rw [u_le (by omega) (by omega)]; omega) ?_
      refine Tm_chk i4 ?_
      refine Tm_op (c_size1 mi.1 (by show Gv g (σ.2.2.1 20 (L'.1 4).toNatClampNeg); rw [u_cl (by omega)]; exact (Ty_v p (by omega) (by omega)))) (fun q z => ?_)
      have e : q.2 = σ := z.1
      rw [e]
      refine Tm_ite (fun _ => ?_) (fun _ => b3 _ l1 rfl)
      refine Tm_chk i4 ?_
      refine Tm_ite (fun _ => b4 _ l1 rfl) (fun _ => Tm_ite (fun _ => b4 _ l1 rfl) (fun _ => b3 _ l1 rfl))
  refine Tm_suc (fun k => by rw [f_X3_joinTuple]) ?_
  refine b1 n _ (Nat.le_refl _) rfl ?_
  show uN (σ.1 1902 - L.1 1) + n = _
  rw [u_sub (by omega), h1]
  omega
end CTN

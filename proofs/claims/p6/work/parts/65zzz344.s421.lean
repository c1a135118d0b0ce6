/-! The class: BEGIN, END_VIEW. -/
section CUF
variable {g g' g2 : Nat → Prop} {l l' l2 : List Nat} {t t' t2 : Nat} {σ σ' σ2 τ τ' φ : CS} {L : LV} {x y z i : Int32} {M M' U U' : Nat → Int32} {K K' K0 K2 K2' K3 K3' K4 K4' KB : Nat → Option Int32} {c : Ct} {B f0 u0 a T : Nat} {fs : List FrT} {u d : Nat} {r r' : List Nat} {pb nf nc sq rk : Nat}
/-- what BEGIN asks -/
def Ok0 (c : Ct) (pc u d : Nat) (r : List Nat) (rk : Nat) : Prop := d = 0 ∧ ∃ (w : Nat) (ms : List Nat), r = (bsl + w) :: ms ∧ (∀ i, i ∈ ms → i < bsl) ∧ w ≤ 200 ∧ u < 41 ∧ tcS c u ∧ rk ≤ RK ∧ NxS c (pc + 1) u 0 r
/-- the run that stands at it -/
theorem RUN_b (p : Pre c g l t K K2 K3 K4 B KB f0 u0 σ fs u d r pb nf nc sq) {pc : Nat} (hz : f0 = 0 ∧ u0 = 0) (hp : pc < 268435456) (tD : tcD c pc = some (u, d, r, rk)) (ok : Ok0 c pc u d r rk) : RUN c K pc (uN (σ.1 1901)) (uN (σ.1 1902)) nc 0 := by
  obtain ⟨d0, w, ms, k1, k2, k3, k4, k5, k6, k7⟩ := ok
  obtain ⟨mi, ty, w5, h0, bo⟩ := p
  subst d0
  subst k1
  have fcb := (FC_b _ _ _ _ _ _ _ ty.2.1).2.2 k5
  refine ⟨u, w, rk, sq, fs, ms, ⟨tD, k2⟩, k6, ty.1, k3, by have z := ty.2.2.1; rw [bt_0] at z; exact z, k5, k4, ?_, ty.2.2.2.2.2.2.1, hp, ?_⟩
  · have z := ty.2.1
    rw [hz.1, hz.2, fcb.1, fcb.2.1] at z
    exact FC_k z (fun _ _ => rfl) (fun p hp => absurd hp (Nat.not_lt_zero p))
  · have tb := TyS_B ty
    rw [hz.1, hz.2] at tb
    refine ⟨by omega, fun j hj => ?_⟩
    have m7 := mi.2.2.2.2.2.2.1.1
    rw [mi.2.2.2.2.2.1 j (by omega)]
    rcases bo with y | y
    · omega
    · exact y.1 j
theorem c_begin (p : Pre c g l t K K2 K3 K4 B KB f0 u0 σ fs u d r pb nf nc sq) {pc : Nat} (hz : f0 = 0 ∧ u0 = 0) (h1 : L.1 1 = 0) (h3 : L.1 3 = nI pc) (hp : pc + 1 ≤ tcN c) (hN : tcN c ≤ 36864) (hpc : σ.1 1900 = nI (pc + 1)) (h7 : σ.1 1907 = 0) (tD : tcD c pc = some (u, d, r, rk)) (ok : Ok0 c pc u d r rk) : Tm (fun k => f_X3_flow k 0 L σ) (fun q => IO c B KB f0 u0 σ (mu σ (qv nf sq rk)) q ∨ Sd c B KB f0 u0 σ q) := by
  have mi := p.1
  have run := RUN_b p hz (by omega) tD ok
  have hx : uN (σ.1 1900) = pc + 1 := by rw [hpc, u_n (by omega)]
  have e3 : uN (L.1 3) = pc := by rw [h3, u_n (by omega)]
  obtain ⟨st1, st2, st3⟩ := mi.2.1.1
  obtain ⟨pt1, pt2, pt3⟩ := mi.2.1.2.2.1
  obtain ⟨m8, m9, m10, m11⟩ := mi.2.2.2.2.2.2.2
  have ty := p.2.1
  obtain ⟨d0, w, ms, k1, k2, k3, k4, cs, k6, k7⟩ := ok
  have cs0 := FC_S _ _ _ _ _ _ _ ty.2.1 cs
  have e08 : uN (σ.1 1908) = nc := ty.2.2.2.2.2.1 cs0
  have rn : RnO c K K2 (uI σ 1900 (L.1 3)) := by
    unfold RnO
    rw [uI_s, uI_o (by decide), uI_o (by decide), uI_o (by decide), uI_o (by decide), uI_o (by decide), uI_o (by decide), uI_o (by decide), uI_o (by decide), uI_o (by decide), e3, e08]
    exact ⟨run, ⟨h7, p.2.2.1⟩, ⟨by omega, m9, m10, m11, st1, pt1⟩, mi.2.2.2.1⟩
  have b9 : ∀ (τ : CS) (L' : LV) (K5 : Nat → Option Int32) (n1 n2 : Nat), SvF σ τ → MIn c g l t K K2 K5 K4 B KB τ → L'.1 3 = L.1 3 → n1 + PhC τ ≤ PhC σ → n2 + PhS τ ≤ PhS σ → Tm (fun k => f_X3_flow k 9 L' τ) (fun q => (fun z : RS => IO c B KB f0 u0 σ (mu σ (qv nf sq rk)) z ∨ Sd c B KB f0 u0 σ z) (q.1, q.2.1, (n1 + q.2.2.1, n2 + q.2.2.2))) := by
    intro τ L' K5 n1 n2 sf m l3 c1 c2
    have f := sf.1
    have mb := m.2.2.2.2.2.2.1.2
    refine Tm_suc (fun k => by rw [f_X3_flow]) ?_
    refine Tm_op c_beginS (fun q z => ?_)
    refine Tm_suc (fun k => by rw [f_X3_flow]) ?_
    refine Tm_some ?_
    rcases z with ⟨z1, z2⟩ | ⟨z1, z2⟩
    · right
      have z2' : q.2 = uI (uI τ 1900 (L.1 3)) 1812 1 := by rw [z2]; show uI (uI τ 1900 (L'.1 3)) 1812 1 = _; rw [l3]
      show Sd c B KB f0 u0 σ ((0, 0), q.2, (n1 + 0, n2 + 0))
      rw [z2']
      have o : ∀ j, ¬ (j = 1900 ∨ j = 1812) → (uI (uI τ 1900 (L.1 3)) 1812 1).1 j = σ.1 j ∨ True := fun _ _ => Or.inr trivial
      have mt := MIn_fl (σ' := uI (uI τ 1900 (L.1 3)) 1812 1) m rfl (fun j hj => by rw [uI_o (by omega), uI_o (by omega)]) (by rw [uI_o (by decide), uI_o (by decide)]; exact mb) (by rw [uI_o (by decide), uI_o (by decide)]; exact Nat.le_refl _)
      have ph := Ph_s (σ := τ) (σ' := uI (uI τ 1900 (L.1 3)) 1812 1) rfl
      refine ⟨rfl, ⟨by show n1 + 0 + PhC (uI (uI τ 1900 (L.1 3)) 1812 1) ≤ _; omega, by show n2 + 0 + PhS (uI (uI τ 1900 (L.1 3)) 1812 1) ≤ _; omega⟩, MFr_t (SvF_M sf) (Md_M mt.2), fun n => absurd cs0 n, g, l, t, K, K2, K5, K4, mt.1, uI_s, Or.inl ⟨cs0, ?_, ?_⟩⟩
      · show uN ((uI (uI τ 1900 (L.1 3)) 1812 1).1 1905) ≤ 60000
        rw [uI_o (by decide), uI_o (by decide), f 1905 (by decide)]; exact p.2.2.1
      show RUN c K (uN ((uI (uI τ 1900 (L.1 3)) 1812 1).1 1900)) (uN ((uI (uI τ 1900 (L.1 3)) 1812 1).1 1901)) (uN ((uI (uI τ 1900 (L.1 3)) 1812 1).1 1902)) (uN ((uI (uI τ 1900 (L.1 3)) 1812 1).1 1908)) 0
      rw [uI_o (by decide), uI_s, uI_o (by decide), uI_o (by decide), uI_o (by decide), uI_o (by decide), uI_o (by decide), uI_o (by decide), e3, f 1901 (by decide), f 1902 (by decide), f 1908 (by decide), e08]
      exact run
    · left
      have lp : 0 < uN (τ.1 1814) := by
        rcases Nat.eq_zero_or_pos (uN (τ.1 1814)) with y | y
        · exact absurd (u_eq.2 y) z1
        · exact y
      have m8' : uN (τ.1 1903) + uN (τ.1 1814) ≤ 10240000 := m.2.2.2.2.2.2.2.1
      have u1 : uN (1 : Int32) = 1 := rfl
      have el : uN (τ.1 1814 - 1) = uN (τ.1 1814) - 1 := by rw [u_sub (by omega), u1]
      have eb : uN (τ.1 1903 + 1) = uN (τ.1 1903) + 1 := u_inc (by omega)
      show IO c B KB f0 u0 σ (mu σ (qv nf sq rk)) ((0, 0), q.2, (n1 + 0, n2 + 0))
      rw [z2]
      generalize hφ : uI (uI (uI (uI τ 1814 (τ.1 1814 - 1)) 1903 (τ.1 1903 + 1)) 1904 ((lI (lI lZ 1 (L'.1 2)) 2 (L'.1 3)).1 1)) 1905 0 = φ
      have oe : φ.2 = τ.2 := by rw [← hφ]; rfl
      have o : ∀ j, ¬ (j = 1814 ∨ j = 1903 ∨ j = 1904 ∨ j = 1905) → φ.1 j = τ.1 j := fun j hj => by rw [← hφ, uI_o (by omega), uI_o (by omega), uI_o (by omega), uI_o (by omega)]
      have o5 : φ.1 1905 = 0 := by rw [← hφ, uI_s]
      have o4 : uN (φ.1 1814) = uN (τ.1 1814) - 1 := by rw [← hφ, uI_o (by decide), uI_o (by decide), uI_o (by decide), uI_s]; exact el
      have o3 : uN (φ.1 1903) = uN (τ.1 1903) + 1 := by rw [← hφ, uI_o (by decide), uI_o (by decide), uI_s]; exact eb
      have fe : ∀ j, ¬ (j = 1814 ∨ j = 1903 ∨ j = 1904 ∨ j = 1905 ∨ (2400 ≤ j ∧ j < 2410) ∨ (2800 ≤ j ∧ j < 3700)) → φ.1 j = σ.1 j := fun j hj => (o j (by omega)).trans (f j (by omega))
      have mt := MIn_fw (σ' := φ) m oe (fun j hj => o j (by omega)) (by rw [o 1902 (by decide)]; exact mb) (by rw [o 1902 (by decide)]; exact Nat.le_refl _) (by omega)
      have ph := Ph_s (σ := τ) (σ' := φ) (by rw [oe])
      obtain ⟨rk', ⟨d', r', q1, q2, q3⟩, q4, q5⟩ := k7
      have tyf : TyS c K K4 f0 u0 φ fs u d r pb nf nc sq := TyS_k ty ⟨fe 1901 (by decide), fe 1815 (by decide), fe 1811 (by decide), fe 1908 (by decide)⟩ (by rw [fe 1902 (by decide)]; exact ty.1) (fun _ _ => rfl) ty.2.2.1 ty.2.2.2.2.2.2.2.2
      have ql := qv_lt ty q4
      refine ⟨rfl, ⟨by show n1 + 0 + PhC φ ≤ _; omega, by show n2 + 0 + PhS φ ≤ _; omega⟩, MFr_t (SvF_M sf) (Mw_M mt.2), fun n => absurd cs0 n, g, l, t, K, K2, K5, K4, mt.1, fun _ => ⟨qv nf sq rk', ⟨by show uN (φ.1 1905) ≤ _; rw [o5]; exact Nat.zero_le _, u, d', r', rk', fs, pb, nf, nc, sq, Or.inl ⟨TyS_rs tyf (by rw [d0]; exact q2) q3, ?_, rfl⟩⟩, ?_⟩, fun zz => absurd ((fe 1812 (by decide)).trans p.2.2.2.1) zz⟩
      · show tcD c (uN (φ.1 1900)) = _
        rw [fe 1900 (by decide), hx]; exact q1
      · show mu φ (qv nf sq rk') < mu σ (qv nf sq rk)
        unfold mu
        have z0 : uN (0 : Int32) = 0 := rfl
        rw [o4, f 1814 (by decide), o5, z0]
        rw [f 1814 (by decide)] at lp
        have e : uN (σ.1 1814) * (60002 * QK) = (uN (σ.1 1814) - 1) * (60002 * QK) + 60002 * QK := by
          have := Nat.succ_mul (uN (σ.1 1814) - 1) (60002 * QK)
          rw [show (uN (σ.1 1814) - 1).succ = uN (σ.1 1814) by omega] at this
          exact this
        omega
  have b9' : ∀ (L' : LV), L'.1 3 = L.1 3 → Tm (fun k => f_X3_flow k 9 L' σ) (fun q => IO c B KB f0 u0 σ (mu σ (qv nf sq rk)) q ∨ Sd c B KB f0 u0 σ q) := by
    intro L' l3
    refine Tm_mono (b9 σ L' K3 0 0 (SvF_r σ) mi l3 (by omega) (by omega)) (fun q z => ?_)
    have z' : IO c B KB f0 u0 σ (mu σ (qv nf sq rk)) (q.1, q.2.1, (0 + q.2.2.1, 0 + q.2.2.2)) ∨ Sd c B KB f0 u0 σ (q.1, q.2.1, (0 + q.2.2.1, 0 + q.2.2.2)) := z
    rw [Nat.zero_add, Nat.zero_add] at z'
    exact z'
  have b10 : ∀ (L' : LV), L'.1 3 = L.1 3 → Tm (fun k => f_X3_flow k 10 L' σ) (fun q => IO c B KB f0 u0 σ (mu σ (qv nf sq rk)) q ∨ Sd c B KB f0 u0 σ q) := by
    intro L' l3
    refine Tm_suc (fun k => by rw [f_X3_flow]) ?_
    rw [l3]
    refine Tm_oxc (c_save (L := lI lZ 1 (L.1 3)) mi rn) (fun q z => by rw [z.1]) (fun q z => ?_)
    obtain ⟨z1, z2, z3, K6, z4⟩ := z
    exact b9 _ _ K6 _ _ z3 z4 l3 z2.1 z2.2
  refine Tm_suc (fun k => by rw [f_X3_flow]) ?_
  refine Tm_yes h1 ?_
  refine Tm_suc (fun k => by rw [f_X3_flow]) ?_
  refine Tm_ite (fun _ => b9' _ rfl) (fun _ => Tm_ite (fun _ => b10 _ rfl) (fun _ => Tm_ite (fun _ => b10 _ rfl) (fun _ => b9' _ rfl)))
/-- END_VIEW -/
theorem c_endView (p : Pre c g l t K K2 K3 K4 B KB f0 u0 σ fs u d r pb nf nc sq) (hd : 1 ≤ d) (hu : u0 = 41) {op : Nat} (h0 : 10 ≤ op) (ho : op < 256) (h1 : L.1 1 = nI op) : Tm (fun k => f_X3_flow k 0 L σ) (Sd c B KB f0 u0 σ) := by
  have mi := p.1
  have ts := TyS_sp p.2.1
  have mb := mi.2.2.2.2.2.2.1.2
  have gt : Gv g (σ.2.2.1 20 (uN (σ.1 1902) - 1)) := Ty_v p (by omega) (by omega)
  refine Tm_mono (c_flowV h0 ho h1) (fun q z => ?_)
  have mt := MIn_fl (σ' := uI σ 1812 1) mi rfl (fun j hj => uI_o (by omega)) (by rw [uI_o (by decide)]; exact mb) (by rw [uI_o (by decide)]; exact Nat.le_refl _)
  rw [z]
  refine ⟨rfl, CoP_0 rfl, Md_M mt.2, fun _ => Md_E mt.2, g, l, t, K, K2, K3, K4, mt.1, uI_s, Or.inr ⟨hu, ?_, ?_⟩⟩
  · show f0 + 4 < uN ((uI σ 1812 1).1 1902)
    rw [uI_o (by decide)]; omega
  · show Gv g ((uI σ 1812 1).2.2.1 20 (uN ((uI σ 1812 1).1 1902) - 1))
    rw [uI_o (by decide)]; exact gt
end CUF

/-! The class: gathered. -/
section CTO
variable {g g' g2 : Nat → Prop} {l l' l2 : List Nat} {t t' t2 : Nat} {σ σ' σ2 : CS} {L : LV} {x y i : Int32} {M M' U U' : Nat → Int32} {K K' K2 K2' K3 K4 K4' KB : Nat → Option Int32} {c : Ct} {B f0 u0 : Nat} {fs : List FrT} {u d : Nat} {r r' : List Nat} {pb nf nc sq rk : Nat}
/-- what is gathered, its numbers, and the stack without it -/
theorem Pre_gd (p : Pre c g l t K K2 K3 K4 B KB f0 u0 σ fs u 0 (d :: r) pb nf nc sq) (hd : d < 250000) : ∃ (b n : Nat) (z : Int32), uN (σ.1 1902) = b + n + 2 ∧ σ.2.2.1 20 (b + n) = rwN n ∧ σ.2.2.1 20 (b + n + 1) = z ∧ Rr z ∧ (d % 2 = 1 → 1000 < uN z % 268435456 → 1 ≤ n) ∧ uN (σ.1 1901) + 4 + d / 2 ≤ b ∧ (∀ q, b ≤ q → q < b + n → Gv g (σ.2.2.1 20 q)) ∧ ∀ x, uN x = b → Pre c g l t K K2 K3 K4 B KB f0 u0 (uI σ 1902 x) fs u (d / 2) r pb nf nc sq := by
  have b5 : 250000 < bsl := by decide
  obtain ⟨mi, ty, w, h0, bo⟩ := p
  obtain ⟨st1, st2, st3⟩ := mi.2.1.1
  have sl := ty.1
  obtain ⟨b, n, z, a1, a2, a3, a4, a5, a6, a7⟩ := sl.2.1 (by omega) hd
  have v1 := pin_v st3 (by omega) a4 (rwN_r (by omega))
  have v2 := pin_v st3 (by omega) a5 a6.1
  have sb := SL_le _ _ _ a2
  refine ⟨b, n, z, by omega, v1, v2, a6.1, a6.2, sb.2, fun q q1 q2 => (st3 q (by omega)).2.1 (a3 q q1 q2), fun x hx => ?_⟩
  have e5 : (uI σ 1902 x).1 1902 = x := rfl
  have md : Md σ (uI σ 1902 x) := Md_i σ (by decide) _
  have hb : tcF c u ≤ bt (d / 2) r := by
    have q := ty.2.2.1
    have e : bt 0 (d :: r) = bt (d / 2) r := by
      show (if bsl ≤ d then d - bsl else bt (d / 2) r) = _
      rw [if_neg (by omega)]
    rw [← e]; exact q
  have v := VI_20 (σ' := uI σ 1902 x) mi.2.1 md rfl ⟨fun _ z => z, fun _ _ => rfl⟩ (K' := K) (by rw [e5, hx]; show _ ≤ sN σ 20; omega) st2 (by rw [e5, hx]; exact fun j hj => st3 j (by omega))
  have ty' : TyS c K K4 f0 u0 (uI σ 1902 x) fs u (d / 2) r pb nf nc sq := TyS_k (σ' := uI σ 1902 x) ty ⟨rfl, rfl, rfl, rfl⟩ (by rw [e5, hx]; exact a2) (fun _ _ => rfl) hb (ty.2.2.2.2.2.2.2.2.2 (by omega))
  have ts := FC_f0 _ _ _ _ _ _ _ ty.2.1
  have bb : B ≤ b := by
    rcases bo with y | y
    · have := ts.1
      omega
    · have y1 := TyS_B ty'
      rw [e5, hx] at y1
      omega
  exact ⟨MIn_d mi md (HQ_fr mi.1 rfl rfl rfl) v mi.2.2.2.2.2.1 (by rw [e5, hx]; exact bb), ty', w, h0, bo⟩
theorem c_gathered (p : Pre c g l t K K2 K3 K4 B KB f0 u0 σ fs u 0 (d :: r) pb nf nc sq) (hd : d < 250000) (nS : NxS c (uN (σ.1 1900)) u (d / 2 + 1) r) : Tm (fun k => f_X3_gathered k 0 L σ) (fun q => q.1.1 = 0 ∧ IO c B KB f0 u0 σ (mu σ (qv nf sq rk)) ((0, 0), q.2.1, (q.2.2.1 + 0, q.2.2.2 + 0))) := by
  have b5 : 250000 < bsl := by decide
  have mi := p.1
  obtain ⟨st1, st2, st3⟩ := mi.2.1.1
  obtain ⟨b, n, z, e1, v1, v2, rz, zc, bl, gvs, pp⟩ := Pre_gd p hd
  have u1 : uN (1 : Int32) = 1 := rfl
  have u2 : uN (2 : Int32) = 2 := rfl
  have ea : uN (σ.1 1902 - 1) = b + n + 1 := by rw [u_sub (by omega), u1]; omega
  have ea2 : uN (σ.1 1902 - 2) = b + n := by rw [u_sub (by omega), u2]; omega
  have c1 : (σ.1 1902 - 1).toNatClampNeg = b + n + 1 := by rw [u_cl (by omega), ea]
  have c2 : (σ.1 1902 - 2).toNatClampNeg = b + n := by rw [u_cl (by omega), ea2]
  have i1 : ¬ (σ.1 1902 - 1 < 0 ∨ sN σ 20 ≤ (σ.1 1902 - 1).toNatClampNeg) := u_in (by omega) (by omega)
  have i2 : ¬ (σ.1 1902 - 2 < 0 ∨ sN σ 20 ≤ (σ.1 1902 - 2).toNatClampNeg) := u_in (by omega) (by omega)
  have eb : uN (σ.1 1902 - 2 - nI n) = b := by rw [u_sub (by rw [u_n (by omega), ea2]; omega), u_n (by omega), ea2]; omega
  have pd := pp _ eb
  have b3 : ∀ (σ' : CS) (L' : LV) (Q : RS → Prop), Q ((0, 0), σ', (0, 0)) → Tm (fun k => f_X3_gathered k 3 L' σ') Q := by
    intro σ' L' Q h
    refine Tm_suc (fun k => by rw [f_X3_gathered]) ?_
    exact Tm_some h
  generalize hτ : uI σ 1902 (σ.1 1902 - 2 - nI n) = τ at pd
  have md : Md σ τ := by rw [← hτ]; exact Md_i σ (by decide) _
  have es : τ.2.2.2.2.1 = σ.2.2.2.2.1 := by rw [← hτ]; rfl
  have fe : ∀ j, ¬ j = 1902 → τ.1 j = σ.1 j := fun j hj => by rw [← hτ]; exact upd_other hj
  have r20 : τ.2.2.1 = σ.2.2.1 := by rw [← hτ]; rfl
  have s20 : sN τ 20 = sN σ 20 := by show τ.2.2.2.2.1 20 = _; rw [es]
  have fail : ∀ (L' : LV) (a : Int32), ¬ a = 0 → Tm (fun k => Jvm.Pilot.CSetHouseLaw_law_r7351_1de140.op (y_X3_fail k 0 (lI lZ 1 a) τ) (fun r5 => f_X3_gathered k 3 L' r5.2)) (fun q => q.1.1 = 0 ∧ IO c B KB f0 u0 σ (mu σ (qv nf sq rk)) ((0, 0), q.2.1, (q.2.2.1 + 0, q.2.2.2 + 0))) := by
    intro L' a a0
    refine Tm_op c_fail (fun q e => ?_)
    rw [e]
    refine b3 _ _ _ ⟨rfl, IO_b md es (ha_fin pd rfl (fun j hj => ?_) rfl (f13 a0))⟩
    show upd (upd τ.1 1813 _) 1812 1 j = _
    rw [upd_other (by omega), upd_other (by omega)]
  have b6 : ∀ (L' : LV) (q : Int32 × CS), L'.1 100 = q.1 → Va g t τ q → Tm (fun k => f_X3_gathered k 6 L' q.2) (fun q => q.1.1 = 0 ∧ IO c B KB f0 u0 σ (mu σ (qv nf sq rk)) ((0, 0), q.2.1, (q.2.2.1 + 0, q.2.2.2 + 0))) := by
    intro L' q l100 v
    obtain ⟨g', l', t', ga, v⟩ := v
    refine Tm_suc (fun k => by rw [f_X3_gathered]) ?_
    rw [l100]
    refine Tm_oxc (giX (Pre_Ga pd ga) (Md_t md (Md_S (Sm_A ga.2.2.2.2))) (by rw [ga.2.2.2.2.2.2.2]; exact es) ((ga.2.2.2.2.1 1905 (by decide)).trans (fe 1905 (by decide))) ((ga.2.2.2.2.1 1814 (by decide)).trans (fe 1814 (by decide))) (v.elim id Gv_rw) (by rw [ga.2.2.2.2.1 1900 (by decide), fe 1900 (by decide)]; exact nS) (qv nf sq rk)) (fun q4 z4 => z4.1) (fun q4 z4 => ?_)
    exact b3 _ _ _ ⟨rfl, z4.2⟩
  have hs : ∀ j, j < n → Gv g (τ.2.2.1 20 (b + j)) := fun j hj => by rw [r20]; exact gvs _ (by omega) (by omega)
  have b2 : ∀ L' : LV, L'.1 2 = nI n → uN (L'.1 4) = b → Tm (fun k => f_X3_gathered k 2 L' τ) (fun q => q.1.1 = 0 ∧ IO c B KB f0 u0 σ (mu σ (qv nf sq rk)) ((0, 0), q.2.1, (q.2.2.1 + 0, q.2.2.2 + 0))) := by
    intro L' l2 l4
    have e2 : uN (L'.1 2) = n := by rw [l2, u_n (by omega)]
    refine Tm_suc (fun k => by rw [f_X3_gathered]) ?_
    refine Tm_ite (fun _ => ?_) (fun _ => fail _ _ (by decide))
    refine Tm_suc (fun k => by rw [f_X3_gathered]) ?_
    refine Tm_ite (fun _ => ?_) (fun _ => ?_)
    · refine Tm_suc (fun k => by rw [f_X3_gathered]) ?_
      refine Tm_op (c_makeTuple20 pd.1.1 (by rw [s20]; omega) (fun _ _ => ?_)) (fun q3 z => ?_)
      · show uN (L'.1 4) + uN (L'.1 2) ≤ sN τ 20 ∧ ∀ j, j < uN (L'.1 2) → Gv g (τ.2.2.1 20 (uN (L'.1 4) + j))
        rw [l4, e2, s20]
        exact ⟨by omega, hs⟩
      · exact b6 _ q3 rfl (Va_M pd.1.1 (AXf_r _) z)
    · refine Tm_op (c_makeRow20 (kd := 6) pd.1.1 (Or.inr rfl) (by rw [s20]; omega) rfl (fun _ _ => ?_)) (fun q3 z => ?_)
      · show uN (L'.1 4) + uN (L'.1 2) ≤ sN τ 20 ∧ ∀ j, j < uN (L'.1 2) → Gv g (τ.2.2.1 20 (uN (L'.1 4) + j))
        rw [l4, e2, s20]
        exact ⟨by omega, hs⟩
      · exact b6 _ q3 rfl (Va_M pd.1.1 (AXf_r _) z)
  refine Tm_suc (fun k => by rw [f_X3_gathered]) ?_
  refine Tm_chk i2 ?_
  rw [c2]
  refine Tm_op c_unraw (fun q5 z5 => ?_)
  rw [z5]
  refine Tm_chk i1 ?_
  refine Tm_op c_unraw (fun q6 z6 => ?_)
  rw [z6]
  have en : nI (uN ((lI lZ 0 (σ.2.2.1 20 (b + n))).1 0) % 268435456) = nI n := by
    show nI (uN (σ.2.2.1 20 (b + n)) % 268435456) = nI n
    rw [v1, unr (by omega)]
  rw [en]
  show Tm (fun k => f_X3_gathered k 1 _ (uI σ 1902 (σ.1 1902 - 2 - nI n))) _
  rw [hτ]
  refine Tm_suc (fun k => by rw [f_X3_gathered]) ?_
  refine Tm_ite (fun _ => b2 _ rfl eb) (fun _ => ?_)
  refine Tm_ite (fun _ => b2 _ rfl eb) (fun _ => ?_)
  refine Tm_chk (by rw [s20]; exact u_in (by show uN (σ.1 1902 - 2 - nI n) < _; omega) (by omega)) ?_
  refine Tm_ite (fun _ => fail _ _ (by decide)) (fun _ => b2 _ rfl eb)
end CTO

/-! The class: a set is joined. -/
section CTQ
variable {g g' g2 : Nat → Prop} {l l' l2 : List Nat} {t t' t2 : Nat} {σ σ' σ2 : CS} {L : LV} {x y i : Int32} {M M' U U' : Nat → Int32} {K K' K2 K2' K3 K4 K4' KB : Nat → Option Int32} {c : Ct} {B f0 u0 : Nat} {fs : List FrT} {u d : Nat} {r r' : List Nat} {pb nf nc sq rk : Nat}
/-- other values in the uppermost places -/
theorem Pre_F (p : Pre c g l t K K2 K3 K4 B KB f0 u0 σ fs u d r pb nf nc sq) {f : Nat → Int32} (hf : ∀ j, j < uN (σ.1 1902) → (f j = σ.2.2.1 20 j ∨ (uN (σ.1 1902) ≤ j + d ∧ Gv g (f j)))) : Pre c g l t K K2 K3 K4 B KB f0 u0 (uF σ 20 f) fs u d r pb nf nc sq := by
  obtain ⟨mi, ty, w, h0, bo⟩ := p
  obtain ⟨st1, st2, st3⟩ := mi.2.1.1
  have md : Md σ (uF σ 20 f) := Md_F σ (by decide) f
  have v := VI_20 (σ' := uF σ 20 f) (K' := K) mi.2.1 md rfl ⟨fun _ z => z, fun _ _ => rfl⟩ st1 st2 (by
    intro j hj
    have hj' : j < uN (σ.1 1902) := hj
    show Gw g (f j) ∧ (K j = none → Gv g (f j)) ∧ ∀ v, K j = some v → (f j = v ∧ Rr v) ∨ (Mkd g (σ.2.2.1 3) v (f j))
    rcases hf j hj' with e | e
    · rw [e]; exact st3 j hj'
    · rw [SL_top _ _ _ ty.1 j e.1 hj']
      exact Rwn e.2)
  exact ⟨MIn_d mi md (HQ_fr mi.1 rfl rfl rfl) v mi.2.2.2.2.2.1 mi.2.2.2.2.2.2.1.2, ty, w, h0, bo⟩
theorem c_joinSet {m : Nat} (p : Pre c g l t K K2 K3 K4 B KB f0 u0 σ fs u (d + m) r pb nf nc sq) {f : Nat} (hf : f < 2) (hd : 2 * d + f < 250000) (m1 : 1 ≤ m) (fb : ∀ n, tcF c u ≤ bt (d + n) r) (h1 : uN (L.1 1) = m) (nx : Nx c (uN (σ.1 1900)) u 0 ((2 * d + f) :: r) rk) : Tm (fun k => f_X3_joinSet k 0 L σ) (fun q => q.1.1 = 0 ∧ IO c B KB f0 u0 σ (mu σ (qv nf sq rk)) ((0, 0), q.2.1, (q.2.2.1 + 0, q.2.2.2 + 0))) := by
  have b5 : 250000 < bsl := by decide
  have mi := p.1
  obtain ⟨st1, st2, st3⟩ := mi.2.1.1
  have ts := TyS_sp p.2.1
  have es : uN (σ.1 1902 - L.1 1) = uN (σ.1 1902) - m := by rw [u_sub (by omega), h1]
  have b11 : ∀ (τ : CS) (n : Nat), Pre c g l t K K2 K3 K4 B KB f0 u0 τ fs u (d + n) r pb nf nc sq → Md σ τ → τ.2.2.2.2.1 = σ.2.2.2.2.1 → τ.1 1905 = σ.1 1905 → τ.1 1900 = σ.1 1900 → n < 268435456 → ∀ (L' : LV) (q4 : RS), (f = 1 → 1000 < uN (L'.1 100) % 268435456 → 1 ≤ n) → PuO τ (rwN n) 1 q4 → Tm (fun k => f_X3_joinSet k 11 L' q4.2.1) (fun q => q.1.1 = 0 ∧ IO c B KB f0 u0 σ (mu σ (qv nf sq rk)) ((0, 0), q.2.1, (q4.2.2.1 + (q.2.2.1 + 0), q4.2.2.2 + (q.2.2.2 + 0)))) := by
    intro τ n pt md eN w5 w9 hn L' q4 cl z4
    have p4 := pu_MK (mk := some (rwN n)) pt.1 (Or.inr (Or.inl ⟨rfl, rwN_r hn⟩)) z4
    have st4 := p4.1.2.1.1
    refine Tm_suc (fun k => by rw [f_X3_joinSet]) ?_
    refine Tm_op c_raw (fun q5 z5 => ?_)
    rw [z5]
    refine Tm_oxc (c_push st4.1 st4.2.1) (fun q z => by rw [z.1]) (fun q6 z6 => ?_)
    have z6' : PuO q4.2.1 (rwN (uN (L'.1 100) % 268435456)) 1 q6 := z6
    have zz := jn_fin (rk := rk) (n := n) (y := rwN (uN (L'.1 100) % 268435456)) (q1 := q4) (q2 := q6) pt hf hd hn (rwN_r (Nat.mod_lt _ (by decide))) (fun e1 e2 => cl e1 (by rw [unr (Nat.mod_lt _ (by decide))] at e2; exact e2)) z4 z6' (by rw [w9]; exact nx)
    rw [mu_e w5 (md.1 1814 (by decide))] at zz
    exact Tm_some ⟨rfl, IO_b md eN zz⟩
  have b6 : ∀ (L' : LV) (τ : CS) (n : Nat), Pre c g l t K K2 K3 K4 B KB f0 u0 τ fs u (d + m) r pb nf nc sq → Md σ τ → τ.2.2.2.2.1 = σ.2.2.2.2.1 → (∀ j, τ.1 j = σ.1 j) → n ≤ m → L'.1 2 = σ.1 1902 - L.1 1 → uN (L'.1 3) = n → (n = 0 → L'.1 4 = 1) → L'.1 101 = σ.1 1902 - L.1 1 → Gv g (L'.1 100) → Tm (fun k => f_X3_joinSet k 6 L' τ) (fun q => q.1.1 = 0 ∧ IO c B KB f0 u0 σ (mu σ (qv nf sq rk)) ((0, 0), q.2.1, (q.2.2.1 + 0, q.2.2.2 + 0))) := by
    intro L' τ n pt md eN eT nm l2 l3 l4 l101 gx
    have s20 : sN τ 20 = sN σ 20 := by show τ.2.2.2.2.1 20 = _; rw [eN]
    have tsT := TyS_sp pt.2.1
    have kt : K (uN (σ.1 1902) - m) = none := SL_top _ _ _ p.2.1.1 _ (by omega) (by omega)
    obtain ⟨p1, g1⟩ := Pre_s pt kt gx
    have e23 : uN (L'.1 2 + L'.1 3) = uN (σ.1 1902) - m + n := by rw [l2, u_add (by omega), es, l3]
    obtain ⟨pd, ed⟩ := Pre_dr (x := nI (m - n)) (d' := d + n) (n := m - n) p1 (by omega) (u_n (by omega)) (fb n)
    have ex : (uA τ 20 (uN (σ.1 1902) - m) (L'.1 100)).1 1902 - nI (m - n) = L'.1 2 + L'.1 3 := by
      refine u_eq.2 ?_
      show uN (τ.1 1902 - nI (m - n)) = _
      rw [eT, u_sub (by rw [u_n (by omega)]; omega), u_n (by omega), e23]
      omega
    rw [ex] at pd
    have c101 : (L'.1 101).toNatClampNeg = uN (σ.1 1902) - m := by rw [l101, u_cl (by omega), es]
    have md2 : Md σ (uI (uA τ 20 (uN (σ.1 1902) - m) (L'.1 100)) 1902 (L'.1 2 + L'.1 3)) := Md_t md (Md_t (Md_A τ (by decide) _ _) (Md_i _ (by decide) _))
    have st' := pd.1.2.1.1
    refine Tm_suc (fun k => by rw [f_X3_joinSet]) ?_
    refine Tm_chk (u_in (by rw [l101, es, s20]; omega) (by rw [s20]; omega)) ?_
    rw [c101]
    refine Tm_op c_raw (fun q1 z1 => ?_)
    rw [z1]
    refine Tm_suc (fun k => by rw [f_X3_joinSet]) ?_
    refine Tm_oxc (c_push st'.1 st'.2.1) (fun q z => by rw [z.1]) (fun q4 z4 => ?_)
    have e3 : uN (L'.1 3) % 268435456 = n := by rw [l3]; omega
    have z4' : PuO (uI (uA τ 20 (uN (σ.1 1902) - m) (L'.1 100)) 1902 (L'.1 2 + L'.1 3)) (rwN n) 1 q4 := by
      rw [← e3]; exact z4
    have cz : ∀ v : Int32, (n = 0 → v = 1 ∨ ¬ (L'.1 4 ≤ 1000)) → f = 1 → 1000 < uN v % 268435456 → 1 ≤ n := by
      intro v hv _ h
      rcases Nat.eq_zero_or_pos n with y | y
      · exfalso
        rcases hv y with z | z
        · rw [z] at h
          exact absurd h (by decide)
        · rw [l4 y] at z
          exact absurd z (by decide)
      · exact y
    refine Tm_ite (fun _ => ?_) (fun c4 => ?_)
    · refine Tm_suc (fun k => by rw [f_X3_joinSet]) ?_
      exact b11 _ n pd md2 eN (eT 1905) (eT 1900) (by omega) _ q4 (cz _ (fun y => Or.inl (l4 y))) z4'
    · exact b11 _ n pd md2 eN (eT 1905) (eT 1900) (by omega) _ q4 (cz _ (fun y => Or.inr c4)) z4'
  have b1 : ∀ (k : Nat) (L' : LV) (τ : CS) (n : Nat), Pre c g l t K K2 K3 K4 B KB f0 u0 τ fs u (d + m) r pb nf nc sq → Md σ τ → τ.2.2.2.2.1 = σ.2.2.2.2.1 → (∀ j, τ.1 j = σ.1 j) → L'.1 1 = L.1 1 → L'.1 2 = σ.1 1902 - L.1 1 → uN (L'.1 3) = n → (n = 0 → L'.1 4 = 1) → uN (L'.1 6) + k = uN (σ.1 1902) → uN (σ.1 1902) - m + n ≤ uN (L'.1 6) → Tm (fun k => f_X3_joinSet k 1 L' τ) (fun q => q.1.1 = 0 ∧ IO c B KB f0 u0 σ (mu σ (qv nf sq rk)) ((0, 0), q.2.1, (q.2.2.1 + 0, q.2.2.2 + 0))) := by
    intro k
    induction k with
    | zero =>
      intro L' τ n pt md eN eT l1 l2 l3 l4 l6 l7
      have s20 : sN τ 20 = sN σ 20 := by show τ.2.2.2.2.1 20 = _; rw [eN]
      have stT := pt.1.2.1.1.2.2
      refine Tm_suc (fun k => by rw [f_X3_joinSet]) ?_
      refine Tm_yes (by rw [l1, l2, u_le (by rw [u_add (by omega)]; omega) (by omega), u_add (by omega)]; omega) ?_
      refine Tm_suc (fun k => by rw [f_X3_joinSet]) ?_
      refine Tm_ite (fun _ => ?_) (fun _ => ?_)
      · refine Tm_suc (fun k => by rw [f_X3_joinSet]) ?_
        refine Tm_chk (u_in (by show uN (L'.1 2) < _; rw [l2, es, s20]; omega) (by rw [s20]; omega)) ?_
        refine b6 _ τ n pt md eN eT (by omega) l2 l3 l4 l2 ?_
        show Gv g (τ.2.2.1 20 (L'.1 2).toNatClampNeg)
        rw [l2, u_cl (by omega), es]
        exact Ty_v pt (by rw [eT]; omega) (by rw [eT]; omega)
      · exact b6 _ τ n pt md eN eT (by omega) l2 l3 l4 l2 (Gv_om g)
    | succ k ih =>
      intro L' τ n pt md eN eT l1 l2 l3 l4 l6 l7
      have s20 : sN τ 20 = sN σ 20 := by show τ.2.2.2.2.1 20 = _; rw [eN]
      have stT := pt.1.2.1.1.2.2
      have b9 : ∀ (L2 : LV) (τ2 : CS) (n2 : Nat), Pre c g l t K K2 K3 K4 B KB f0 u0 τ2 fs u (d + m) r pb nf nc sq → Md σ τ2 → τ2.2.2.2.2.1 = σ.2.2.2.2.1 → (∀ j, τ2.1 j = σ.1 j) → L2.1 1 = L.1 1 → L2.1 2 = σ.1 1902 - L.1 1 → uN (L2.1 3) = n2 → (n2 = 0 → L2.1 4 = 1) → L2.1 6 = L'.1 6 → n2 ≤ n + 1 → Tm (fun k => f_X3_joinSet k 9 L2 τ2) (fun q => q.1.1 = 0 ∧ IO c B KB f0 u0 σ (mu σ (qv nf sq rk)) ((0, 0), q.2.1, (q.2.2.1 + 0, q.2.2.2 + 0))) := by
        intro L2 τ2 n2 pt2 md2 eN2 eT2 m1' m2' m3' m4' m6' hn2
        refine Tm_suc (fun k => by rw [f_X3_joinSet]) ?_
        refine ih _ τ2 n2 pt2 md2 eN2 eT2 m1' m2' m3' m4' ?_ ?_
        · show uN (L2.1 6 + 1) + k = _
          rw [m6', u_inc (by omega)]; omega
        · show _ ≤ uN (L2.1 6 + 1)
          rw [m6', u_inc (by omega)]; omega
      have b7 : ∀ L2 : LV, L2.1 1 = L'.1 1 → L2.1 2 = L'.1 2 → L2.1 3 = L'.1 3 → L2.1 4 = L'.1 4 → L2.1 6 = L'.1 6 → Gv g (L2.1 7) → Tm (fun k => f_X3_joinSet k 7 L2 τ) (fun q => q.1.1 = 0 ∧ IO c B KB f0 u0 σ (mu σ (qv nf sq rk)) ((0, 0), q.2.1, (q.2.2.1 + 0, q.2.2.2 + 0))) := by
        intro L2 k1 k2 k3 k4 k6 gx
        have e2 : uN (L2.1 2) = uN (σ.1 1902) - m := by rw [k2, l2, es]
        have e3 : uN (L2.1 3) = n := by rw [k3]; exact l3
        have e23 : uN (L2.1 2 + L2.1 3) = uN (σ.1 1902) - m + n := by rw [u_add (by omega), e2, e3]
        refine Tm_suc (fun k => by rw [f_X3_joinSet]) ?_
        refine Tm_ite (fun _ => b9 _ τ n pt md eN eT (k1.trans l1) (k2.trans l2) e3 (fun y => k4.trans (l4 y)) k6 (by omega)) (fun _ => ?_)
        refine Tm_op (c_insert20 (s := uN (σ.1 1902) - m) (n := n) (e := uN (σ.1 1902) - m + n) pt.1.1 (by rw [s20]; omega) e2 e3 e23 (Nat.le_refl _) (by rw [s20]; omega) (fun j j1 j2 => Ty_v pt (by rw [eT]; omega) (by rw [eT]; omega)) gx) (fun q z => ?_)
        rcases z with ⟨z1, z2⟩ | ⟨z1, fn, z2, z3, z4, z5, z6⟩
        · rw [z2]
          refine Tm_yes z1 ?_
          exact b9 _ τ n pt md eN eT (k1.trans l1) (k2.trans l2) e3 (fun y => k4.trans (l4 y)) k6 (by omega)
        · rw [z2]
          refine Tm_no (by rw [z1]; decide) ?_
          have pF := Pre_F (f := fn) pt (fun j hj => by
            rw [eT] at hj ⊢
            rcases Nat.lt_or_ge j (uN (σ.1 1902) - m) with y | y
            · exact Or.inl (z3 j y)
            · rcases Nat.lt_or_ge j (uN (σ.1 1902) - m + n + 1) with y2 | y2
              · exact Or.inr ⟨by omega, z4 j y y2⟩
              · exact Or.inl (z6 j (by omega)))
          refine Tm_op (c_size1 pF.1.1 gx) (fun q2 y2 => ?_)
          have e : q2.2 = uF τ 20 fn := y2.1
          rw [e]
          refine b9 _ (uF τ 20 fn) (n + 1) pF (Md_t md (Md_F τ (by decide) fn)) eN eT (k1.trans l1) (k2.trans l2) ?_ (fun y => absurd y (by omega)) k6 (Nat.le_refl _)
          show uN (L2.1 3 + 1) = n + 1
          rw [u_inc (by omega), e3]
      have gi : Gv g (τ.2.2.1 20 (L'.1 6).toNatClampNeg) := by rw [u_cl (by omega)]; exact Ty_v pt (by rw [eT]; omega) (by rw [eT]; omega)
      have b3 : ∀ L2 : LV, L2.1 1 = L'.1 1 → L2.1 2 = L'.1 2 → L2.1 3 = L'.1 3 → L2.1 4 = L'.1 4 → L2.1 6 = L'.1 6 → Gv g (L2.1 7) → Tm (fun k => f_X3_joinSet k 3 L2 τ) (fun q => q.1.1 = 0 ∧ IO c B KB f0 u0 σ (mu σ (qv nf sq rk)) ((0, 0), q.2.1, (q.2.2.1 + 0, q.2.2.2 + 0))) := by
        intro L2 k1 k2 k3 k4 k6 gx
        refine Tm_suc (fun k => by rw [f_X3_joinSet]) ?_
        exact b7 _ k1 k2 k3 k4 k6 gx
      have b4 : ∀ L2 : LV, L2.1 1 = L'.1 1 → L2.1 2 = L'.1 2 → L2.1 3 = L'.1 3 → L2.1 4 = L'.1 4 → L2.1 6 = L'.1 6 → Gv g (L2.1 7) → Tm (fun k => f_X3_joinSet k 4 L2 τ) (fun q => q.1.1 = 0 ∧ IO c B KB f0 u0 σ (mu σ (qv nf sq rk)) ((0, 0), q.2.1, (q.2.2.1 + 0, q.2.2.2 + 0))) := by
        intro L2 k1 k2 k3 k4 k6 gx
        refine Tm_suc (fun k => by rw [f_X3_joinSet]) ?_
        exact b7 _ k1 k2 k3 k4 k6 gx
      refine Tm_suc (fun k => by rw [f_X3_joinSet]) ?_
      refine Tm_no (by rw [l1, l2, u_le (by rw [u_add (by omega)]; omega) (by omega), u_add (by omega)]; omega) ?_
      refine Tm_chk (u_in (by rw [s20]; omega) (by rw [s20]; omega)) ?_
      refine Tm_ite (fun _ => Tm_ite (fun _ => b3 _ rfl rfl rfl rfl rfl gi) (fun _ => b4 _ rfl rfl rfl rfl rfl gi)) (fun _ => b3 _ rfl rfl rfl rfl rfl gi)
  refine Tm_suc (fun k => by rw [f_X3_joinSet]) ?_
  refine b1 m _ σ 0 p (Md_r σ) rfl (fun _ => rfl) rfl rfl rfl (fun _ => rfl) ?_ ?_
  · show uN (σ.1 1902 - L.1 1) + m = _
    omega
  · show _ ≤ uN (σ.1 1902 - L.1 1)
    omega
end CTQ

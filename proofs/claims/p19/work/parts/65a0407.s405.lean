section JnS405
/-! The class: a set is joined. -/
section CTQ
variable {g g' g2 : Nat → Prop} {l l' l2 : List Nat} {t t' t2 : Nat} {σ σ' σ2 : CS} {L : LV} {x y i : Int32} {M M' U U' : Nat → Int32} {K K' K2 K2' K3 K4 K4' KB : Nat → Option Int32} {c : Ct} {B f0 u0 : Nat} {fs : List FrT} {u d : Nat} {r r' : List Nat} {pb nf nc sq rk : Nat}
/-- other values in the uppermost places -/
theorem Pre_F (p : Pre c g l t K K2 K3 K4 B KB f0 u0 σ fs u d r pb nf nc sq) {f : Nat → Int32} (hf : ∀ j, j < uN (σ.1 1902) → (f j = σ.2.2.1 20 j ∨ (uN (σ.1 1902) ≤ j + d ∧ Gv g (f j)))) : Pre c g l t K K2 K3 K4 B KB f0 u0 (uF σ 20 f) fs u d r pb nf nc sq := by
  obtain ⟨mi, ty, w, h0, bo⟩ := p
  obtain ⟨st1, st2, st3⟩ := mi.2.1.1
  have md : Md σ (uF σ 20 f) := Md_F σ (by decide) f
  have v := VI_20 (σ' := uF σ 20 f) (K' := K) mi.2.1 md rfl ⟨fun _ z => z, fun _ _ => rfl⟩ st1 st2 (by
    intro j hj
    have hj' : j < uN (σ.1 1902) := hj
    show Gw g (f j) ∧ (K j = none → Gv g (f j)) ∧ ∀ v, K j = some v → (f j = v ∧ Rr v) ∨ (Mkd g (σ.2.2.1 3) v (f j))
    rcases hf j hj' with e | e
    · rw [e]; exact st3 j hj'
    · rw [SL_top _ _ _ ty.1 j e.1 hj']
      exact Rwn e.2)
  exact ⟨MIn_d mi md (HQ_fr mi.1 rfl rfl rfl) v mi.2.2.2.2.2.1 mi.2.2.2.2.2.2.1.2, ty, w, h0, bo⟩
theorem c_joinSet {m : Nat} (p : Pre c g l t K K2 K3 K4 B KB f0 u0 σ fs u (d + m) r pb nf nc sq) {f : Nat} (hf : f < 2) (hd : 2 * d + f < 250000) (m1 : 1 ≤ m) (fb : ∀ n, tcF c u ≤ bt (d + n) r) (h1 : uN (L.1 1) = m) (nx : Nx c (uN (σ.1 1900)) u 0 ((2 * d + f) :: r) rk) : Tm (fun k => f_X3_joinSet k 0 L σ) (fun q => q.1.1 = 0 ∧ IO c B KB f0 u0 σ (mu σ (qv nf sq rk)) ((0, 0), q.2.1, (q.2.2.1 + 0, q.2.2.2 + 0))) := by
  have b5 : 250000 < bsl := by decide
  have mi := p.1
  obtain ⟨st1, st2, st3⟩ := mi.2.1.1
  have ts := TyS_sp p.2.1
  have es : uN (σ.1 1902 - L.1 1) = uN (σ.1 1902) - m := by rw [u_sub (by omega), h1]
  have b11 : ∀ (τ : CS) (n : Nat), Pre c g l t K K2 K3 K4 B KB f0 u0 τ fs u (d + n) r pb nf nc sq → Md σ τ → τ.2.2.2.2.1 = σ.2.2.2.2.1 → τ.1 1905 = σ.1 1905 → τ.1 1900 = σ.1 1900 → n < 268435456 → ∀ (L' : LV) (q4 : RS), (f = 1 → 1000 < uN (L'.1 100) % 268435456 → 1 ≤ n) → PuO τ (rwN n) 1 q4 → Tm (fun k => f_X3_joinSet k 11 L' q4.2.1) (fun q => q.1.1 = 0 ∧ IO c B KB f0 u0 σ (mu σ (qv nf sq rk)) ((0, 0), q.2.1, (q4.2.2.1 + (q.2.2.1 + 0), q4.2.2.2 + (q.2.2.2 + 0)))) := by
    intro τ n pt md eN w5 w9 hn L' q4 cl z4
    have p4 := pu_MK (mk := some (rwN n)) pt.1 (Or.inr (Or.inl ⟨rfl, rwN_r hn⟩)) z4
    have st4 := p4.1.2.1.1
    refine Tm_suc (fun k => by rw [f_X3_joinSet]) ?_
    refine Tm_op c_raw (fun q5 z5 => ?_)
    rw [z5]
    refine Tm_oxc (c_push st4.1 st4.2.1) (fun q z => by rw [z.1]) (fun q6 z6 => ?_)
    have z6' : PuO q4.2.1 (rwN (uN (L'.1 100) % 268435456)) 1 q6 := z6
    have zz := jn_fin (rk := rk) (n := n) (y := rwN (uN (L'.1 100) % 268435456)) (q1 := q4) (q2 := q6) pt hf hd hn (rwN_r (Nat.mod_lt _ (by decide))) (fun e1 e2 => cl e1 (by rw [unr (Nat.mod_lt _ (by decide))] at e2; exact e2)) z4 z6' (by rw [w9]; exact nx)
    rw [mu_e w5 (md.1 1814 (by decide))] at zz
    exact Tm_some ⟨rfl, IO_b md eN zz⟩
  have b6 : ∀ (L' : LV) (τ : CS) (n : Nat), Pre c g l t K K2 K3 K4 B KB f0 u0 τ fs u (d + m) r pb nf nc sq → Md σ τ → τ.2.2.2.2.1 = σ.2.2.2.2.1 → (∀ j, τ.1 j = σ.1 j) → n ≤ m → L'.1 2 = σ.1 1902 - L.1 1 → uN (L'.1 3) = n → (n = 0 → L'.1 4 = 1) → L'.1 101 = σ.1 1902 - L.1 1 → Gv g (L'.1 100) → Tm (fun k => f_X3_joinSet k 6 L' τ) (fun q => q.1.1 = 0 ∧ IO c B KB f0 u0 σ (mu σ (qv nf sq rk)) ((0, 0), q.2.1, (q.2.2.1 + 0, q.2.2.2 + 0))) := by
    intro L' τ n pt md eN eT nm l2 l3 l4 l101 gx
    have s20 : sN τ 20 = sN σ 20 := by show τ.2.2.2.2.1 20 = _; rw [eN]
    have tsT := TyS_sp pt.2.1
    have kt : K (uN (σ.1 1902) - m) = none := SL_top _ _ _ p.2.1.1 _ (by omega) (by omega)
    obtain ⟨p1, g1⟩ := Pre_s pt kt gx
    have e23 : uN (L'.1 2 + L'.1 3) = uN (σ.1 1902) - m + n := by rw [l2, u_add (by omega), es, l3]
    obtain ⟨pd, ed⟩ := Pre_dr (x := nI (m - n)) (d' := d + n) (n := m - n) p1 (by omega) (u_n (by omega)) (fb n)
    have ex : (uA τ 20 (uN (σ.1 1902) - m) (L'.1 100)).1 1902 - nI (m - n) = L'.1 2 + L'.1 3 := by
      refine u_eq.2 ?_
      show uN (τ.1 1902 - nI (m - n)) = _
      rw [eT, u_sub (by rw [u_n (by omega)]; omega), u_n (by omega), e23]
      omega
    rw [ex] at pd
    have c101 : (L'.1 101).toNatClampNeg = uN (σ.1 1902) - m := by rw [l101, u_cl (by omega), es]
    have md2 : Md σ (uI (uA τ 20 (uN (σ.1 1902) - m) (L'.1 100)) 1902 (L'.1 2 + L'.1 3)) := Md_t md (Md_t (Md_A τ (by decide) _ _) (Md_i _ (by decide) _))
    have st' := pd.1.2.1.1
    refine Tm_suc (fun k => by rw [f_X3_joinSet]) ?_
    refine Tm_chk (u_in (by rw [l101, es, s20]; omega) (by rw [s20]; omega)) ?_
    rw [c101]
    refine Tm_op c_raw (fun q1 z1 => ?_)
    rw [z1]
    refine Tm_suc (fun k => by rw [f_X3_joinSet]) ?_
    refine Tm_oxc (c_push st'.1 st'.2.1) (fun q z => by rw [z.1]) (fun q4 z4 => ?_)
    have e3 : uN (L'.1 3) % 268435456 = n := by rw [l3]; omega
    have z4' : PuO (uI (uA τ 20 (uN (σ.1 1902) - m) (L'.1 100)) 1902 (L'.1 2 + L'.1 3)) (rwN n) 1 q4 := by
      rw [← e3]; exact z4
    have cz : ∀ v : Int32, (n = 0 → v = 1 ∨ ¬ (L'.1 4 ≤ 1000)) → f = 1 → 1000 < uN v % 268435456 → 1 ≤ n := by
      intro v hv _ h
      rcases Nat.eq_zero_or_pos n with y | y
      · exfalso
        rcases hv y with z | z
        · rw [z] at h
          exact absurd h (by decide)
        · rw [l4 y] at z
          exact absurd z (by decide)
      · exact y
    refine Tm_ite (fun _ => ?_) (fun c4 => ?_)
    · refine Tm_suc (fun k => by rw [f_X3_joinSet]) ?_
      exact b11 _ n pd md2 eN (eT 1905) (eT 1900) (by omega) _ q4 (cz _ (fun y => Or.inl (l4 y))) z4'
    · exact b11 _ n pd md2 eN (eT 1905) (eT 1900) (by omega) _ q4 (cz _ (fun y => Or.inr c4)) z4'
  have b1 : ∀ (k : Nat) (L' : LV) (τ : CS) (n : Nat), Pre c g l t K K2 K3 K4 B KB f0 u0 τ fs u (d + m) r pb nf nc sq → Md σ τ → τ.2.2.2.2.1 = σ.2.2.2.2.1 → (∀ j, τ.1 j = σ.1 j) → L'.1 1 = L.1 1 → L'.1 2 = σ.1 1902 - L.1 1 → uN (L'.1 3) = n → (n = 0 → L'.1 4 = 1) → uN (L'.1 6) + k = uN (σ.1 1902) → uN (σ.1 1902) - m + n ≤ uN (L'.1 6) → Tm (fun k => f_X3_joinSet k 1 L' τ) (fun q => q.1.1 = 0 ∧ IO c B KB f0 u0 σ (mu σ (qv nf sq rk)) ((0, 0), q.2.1, (q.2.2.1 + 0, q.2.2.2 + 0))) := by
    intro k
    induction k with
    | zero =>
      intro L' τ n pt md eN eT l1 l2 l3 l4 l6 l7
      have s20 : sN τ 20 = sN σ 20 := by show τ.2.2.2.2.1 20 = _; rw [eN]
      have stT := pt.1.2.1.1.2.2
      refine Tm_suc (fun k => by rw [f_X3_joinSet]) ?_
      refine Tm_yes (by rw [l1, l2, u_le (by rw [u_add (by omega)]; omega) (by omega), u_add (by omega)]; omega) ?_
      refine Tm_suc (fun k => by rw [f_X3_joinSet]) ?_
      refine Tm_ite (fun _ => ?_) (fun _ => ?_)
      · refine Tm_suc (fun k => by rw [f_X3_joinSet]) ?_
        refine Tm_chk (u_in (by show uN (L'.1 2) < _; rw [l2, es, s20]; omega) (by rw [s20]; omega)) ?_
        refine b6 _ τ n pt md eN eT (by omega) l2 l3 l4 l2 ?_
        show Gv g (τ.2.2.1 20 (L'.1 2).toNatClampNeg)
        rw [l2, u_cl (by omega), es]
        exact Ty_v pt (by rw [eT]; omega) (by rw [eT]; omega)
      · exact b6 _ τ n pt md eN eT (by omega) l2 l3 l4 l2 (Gv_om g)
    | succ k ih =>
      intro L' τ n pt md eN eT l1 l2 l3 l4 l6 l7
      have s20 : sN τ 20 = sN σ 20 := by show τ.2.2.2.2.1 20 = _; rw [eN]
      have stT := pt.1.2.1.1.2.2
      have b9 : ∀ (L2 : LV) (τ2 : CS) (n2 : Nat), Pre c g l t K K2 K3 K4 B KB f0 u0 τ2 fs u (d + m) r pb nf nc sq → Md σ τ2 → τ2.2.2.2.2.1 = σ.2.2.2.2.1 → (∀ j, τ2.1 j = σ.1 j) → L2.1 1 = L.1 1 → L2.1 2 = σ.1 1902 - L.1 1 → uN (L2.1 3) = n2 → (n2 = 0 → L2.1 4 = 1) → L2.1 6 = L'.1 6 → n2 ≤ n + 1 → Tm (fun k => f_X3_joinSet k 9 L2 τ2) (fun q => q.1.1 = 0 ∧ IO c B KB f0 u0 σ (mu σ (qv nf sq rk)) ((0, 0), q.2.1, (q.2.2.1 + 0, q.2.2.2 + 0))) := by
        intro L2 τ2 n2 pt2 md2 eN2 eT2 m1' m2' m3' m4' m6' hn2
        refine Tm_suc (fun k => by rw [f_X3_joinSet]) ?_
        refine ih _ τ2 n2 pt2 md2 eN2 eT2 m1' m2' m3' m4' ?_ ?_
        · show uN (L2.1 6 + 1) + k = _
          rw [m6', u_inc (by omega)]; omega
        · show _ ≤ uN (L2.1 6 + 1)
          rw [m6', u_inc (by omega)]; omega
      have b7 : ∀ L2 : LV, L2.1 1 = L'.1 1 → L2.1 2 = L'.1 2 → L2.1 3 = L'.1 3 → L2.1 4 = L'.1 4 → L2.1 6 = L'.1 6 → Gv g (L2.1 7) → Tm (fun k => f_X3_joinSet k 7 L2 τ) (fun q => q.1.1 = 0 ∧ IO c B KB f0 u0 σ (mu σ (qv nf sq rk)) ((0, 0), q.2.1, (q.2.2.1 + 0, q.2.2.2 + 0))) := by
        intro L2 k1 k2 k3 k4 k6 gx
        have e2 : uN (L2.1 2) = uN (σ.1 1902) - m := by rw [k2, l2, es]
        have e3 : uN (L2.1 3) = n := by rw [k3]; exact l3
        have e23 : uN (L2.1 2 + L2.1 3) = uN (σ.1 1902) - m + n := by rw [u_add (by omega), e2, e3]
        refine Tm_suc (fun k => by rw [f_X3_joinSet]) ?_
        refine Tm_ite (fun _ => b9 _ τ n pt md eN eT (k1.trans l1) (k2.trans l2) e3 (fun y => k4.trans (l4 y)) k6 (by omega)) (fun _ => ?_)
        refine Tm_op (c_insert20 (s := uN (σ.1 1902) - m) (n := n) (e := uN (σ.1 1902) - m + n) pt.1.1 (by rw [s20]; omega) e2 e3 e23 (Nat.le_refl _) (by rw [s20]; omega) (fun j j1 j2 => Ty_v pt (by rw [eT]; omega) (by rw [eT]; omega)) gx) (fun q z => ?_)
        rcases z with ⟨z1, z2⟩ | ⟨z1, fn, z2, z3, z4, z5, z6⟩
        · rw [z2]
          refine Tm_yes z1 ?_
          exact b9 _ τ n pt md eN eT (k1.trans l1) (k2.trans l2) e3 (fun y => k4.trans (l4 y)) k6 (by omega)
        · rw [z2]
          refine Tm_no (by rw [z1]; decide) ?_
          have pF := Pre_F (f := fn) pt (fun j hj => by
            rw [eT] at hj ⊢
            rcases Nat.lt_or_ge j (uN (σ.1 1902) - m) with y | y
            · exact Or.inl (z3 j y)
            · rcases Nat.lt_or_ge j (uN (σ.1 1902) - m + n + 1) with y2 | y2
              · exact Or.inr ⟨by omega, z4 j y y2⟩
              · exact Or.inl (z6 j (by omega)))
          refine Tm_op (c_size1 pF.1.1 gx) (fun q2 y2 => ?_)
          have e : q2.2 = uF τ 20 fn := y2.1
          rw [e]
          refine b9 _ (uF τ 20 fn) (n + 1) pF (Md_t md (Md_F τ (by decide) fn)) eN eT (k1.trans l1) (k2.trans l2) ?_ (fun y => absurd y (by omega)) k6 (Nat.le_refl _)
          show uN (L2.1 3 + 1) = n + 1
          rw [u_inc (by omega), e3]
      have gi : Gv g (τ.2.2.1 20 (L'.1 6).toNatClampNeg) := by rw [u_cl (by omega)]; exact Ty_v pt (by rw [eT]; omega) (by rw [eT]; omega)
      have b3 : ∀ L2 : LV, L2.1 1 = L'.1 1 → L2.1 2 = L'.1 2 → L2.1 3 = L'.1 3 → L2.1 4 = L'.1 4 → L2.1 6 = L'.1 6 → Gv g (L2.1 7) → Tm (fun k => f_X3_joinSet k 3 L2 τ) (fun q => q.1.1 = 0 ∧ IO c B KB f0 u0 σ (mu σ (qv nf sq rk)) ((0, 0), q.2.1, (q.2.2.1 + 0, q.2.2.2 + 0))) := by
        intro L2 k1 k2 k3 k4 k6 gx
        refine Tm_suc (fun k => by rw [f_X3_joinSet]) ?_
        exact b7 _ k1 k2 k3 k4 k6 gx
      have b4 : ∀ L2 : LV, L2.1 1 = L'.1 1 → L2.1 2 = L'.1 2 → L2.1 3 = L'.1 3 → L2.1 4 = L'.1 4 → L2.1 6 = L'.1 6 → Gv g (L2.1 7) → Tm (fun k => f_X3_joinSet k 4 L2 τ) (fun q => q.1.1 = 0 ∧ IO c B KB f0 u0 σ (mu σ (qv nf sq rk)) ((0, 0), q.2.1, (q.2.2.1 + 0, q.2.2.2 + 0))) := by
        intro L2 k1 k2 k3 k4 k6 gx
        refine Tm_suc (fun k => by rw [f_X3_joinSet]) ?_
        exact b7 _ k1 k2 k3 k4 k6 gx
      refine Tm_suc (fun k => by rw [f_X3_joinSet]) ?_
      refine Tm_no (by rw [l1, l2, u_le (by rw [u_add (by omega)]; omega) (by omega), u_add (by omega)]; omega) ?_
      refine Tm_chk (u_in (by rw [s20]; omega) (by rw [s20]; omega)) ?_
      refine Tm_ite (fun _ => Tm_ite (fun _ => b3 _ rfl rfl rfl rfl rfl gi) (fun _ => b4 _ rfl rfl rfl rfl rfl gi)) (fun _ => b3 _ rfl rfl rfl rfl rfl gi)
  refine Tm_suc (fun k => by rw [f_X3_joinSet]) ?_
  refine b1 m _ σ 0 p (Md_r σ) rfl (fun _ => rfl) rfl rfl rfl (fun _ => rfl) ?_ ?_
  · show uN (σ.1 1902 - L.1 1) + m = _
    omega
  · show _ ≤ uN (σ.1 1902 - L.1 1)
    omega
end CTQ
end JnS405
section JnS406
/-! The class: one more of a set that is gathered. -/
section CTR
variable {g g' g2 : Nat → Prop} {l l' l2 : List Nat} {t t' t2 : Nat} {σ σ' σ2 : CS} {L : LV} {x y i : Int32} {M M' U U' : Nat → Int32} {K K' K2 K2' K3 K4 K4' KB : Nat → Option Int32} {c : Ct} {B f0 u0 : Nat} {fs : List FrT} {u d : Nat} {r r' : List Nat} {pb nf nc sq rk : Nat}
/-- whatever the first is -/
theorem c_compareW (h : HQ g l t σ) (hx : Gw g (L.1 1)) (hy : Gv g (L.1 2)) : Tm (fun k => y_X1_compare k 0 L σ) (fun r => r.2 = σ) := by
  rcases hx with hx | hx
  · exact Tm_mono (c_compare h hx hy) (fun r q => q)
  · have hx' : 4026531840 ≤ uN (L.1 1) := hx
    have b8 : ∀ L' : LV, Tm (fun k => y_H1 k 60 0 8 L' σ) (fun r => r.2 = σ) := fun L' => Tm_suc (fun k => h1_8 k _ _ _) (Tm_some rfl)
    have b7 : ∀ L' : LV, Tm (fun k => y_H1 k 60 0 7 L' σ) (fun r => r.2 = σ) := fun L' => Tm_suc (fun k => h1_7 k _ _ _) (b8 _)
    have b11 : ∀ L' : LV, Tm (fun k => y_H1 k 60 0 11 L' σ) (fun r => r.2 = σ) := fun L' => Tm_suc (fun k => h1_11 k _ _ _) (Tm_some rfl)
    have b10 : ∀ L' : LV, Tm (fun k => y_H1 k 60 0 10 L' σ) (fun r => r.2 = σ) := fun L' => Tm_suc (fun k => h1_10 k _ _ _) (b11 _)
    have n1 : ¬ (0 : Int32) ≤ L.1 1 := by rw [u_nn]; omega
    have e7 : uN (L.1 1) / 268435456 % 8 = 7 := by have := u_lt (L.1 1); omega
    have b5 : ∀ L' : LV, L'.1 1 = L.1 1 → L'.1 2 = L.1 2 → L'.1 3 = nI 7 → (uN (L.1 2) < 2147483648 → ¬ L'.1 100 = nI 7) → Tm (fun k => y_H1 k 60 0 5 L' σ) (fun r => r.2 = σ) := by
      intro L' l1 l2 l3 l100
      refine Tm_suc (fun k => h1_5 k _ _ _) ?_
      refine Tm_ite (fun q => ?_) (fun _ => Tm_ite (fun _ => b7 _) (fun _ => b8 _))
      refine Tm_suc (fun k => h1_6 k _ _ _) ?_
      rw [l1, l2]
      refine Tm_no n1 ?_
      have n2 : ¬ (0 : Int32) ≤ L.1 2 := by
        rw [u_nn]
        intro lt
        exact l100 lt (by rw [← q]; exact l3)
      refine Tm_no n2 ?_
      exact Tm_ite (fun _ => b10 _) (fun _ => b11 _)
    show Tm (fun k => y_H1 k 60 0 0 L σ) _
    refine Tm_suc (fun k => h1_0 k _ _ _) ?_
    refine Tm_ite (fun _ => Tm_some rfl) (fun _ => ?_)
    refine Tm_suc (fun k => h1_1 k _ _ _) ?_
    refine Tm_no n1 ?_
    refine Tm_suc (fun k => h1_3 k _ _ _) ?_
    have k7 : (((((L.1 1).toUInt32 >>> ((28 : Int32).toUInt32 &&& Int32.toUInt32 31)).toInt32)) &&& 7) = nI 7 := by rw [e_imm, e7]
    refine Tm_ite (fun c2 => ?_) (fun c2 => ?_)
    · have c2' : (0 : Int32) ≤ L.1 2 := c2
      rw [u_nn] at c2'
      refine Tm_suc (fun k => h1_4 k _ _ _) ?_
      refine Tm_chk (in_g h hy c2') ?_
      refine b5 _ rfl rfl k7 (fun lt => ?_)
      show ¬ (σ.2.2.1 3 (L.1 2).toNatClampNeg &&& 7) = nI 7
      have cg := (HQ_c h (Gv_c hy c2').2).2.2.2.2.2.2.1
      rw [e_knd, u_cl (by omega), u_eq, u_n (by omega), u_n (by omega)]
      omega
    · have c2' : ¬ (0 : Int32) ≤ L.1 2 := c2
      rw [u_nn] at c2'
      exact b5 _ rfl rfl k7 (fun lt => absurd lt c2')
theorem c_sameW (h : HQ g l t σ) (hx : Gw g (L.1 1)) (hy : Gv g (L.1 2)) : Tm (fun k => y_X1_same k 0 L σ) (fun r => r.2 = σ ∧ (r.1 = 0 ∨ r.1 = 1)) := by
  have b1 : Tm (fun k => y_X1_same k 1 L σ) (fun r => r.2 = σ ∧ (r.1 = 0 ∨ r.1 = 1)) := by
    refine Tm_suc (fun k => by rw [y_X1_same]) ?_
    refine Tm_suc (fun k => by rw [y_X1_same]) ?_
    refine Tm_chk (Or.inr rfl) ?_
    exact Tm_some ⟨rfl, Or.inr rfl⟩
  have b2 : Tm (fun k => y_X1_same k 2 L σ) (fun r => r.2 = σ ∧ (r.1 = 0 ∨ r.1 = 1)) := by
    refine Tm_suc (fun k => by rw [y_X1_same]) ?_
    refine Tm_suc (fun k => by rw [y_X1_same]) ?_
    refine Tm_chk (Or.inl rfl) ?_
    exact Tm_some ⟨rfl, Or.inl rfl⟩
  refine Tm_suc (fun k => by rw [y_X1_same]) ?_
  refine Tm_ite (fun _ => b1) (fun _ => Tm_ite (fun _ => b2) (fun c1 => Tm_ite (fun _ => b2) (fun c2 => ?_)))
  rw [u_neg] at c1 c2
  refine Tm_chk (in_g h (Or.inr (Gw_c hx (by omega))) (by omega)) ?_
  refine Tm_chk (in_g h hy (by omega)) ?_
  refine Tm_ite (fun _ => ?_) (fun _ => b2)
  refine Tm_oc (c_compareW h hx hy) (fun r hr => ?_)
  have e : r.2 = σ := hr
  rw [e]
  exact Tm_ite (fun _ => b1) (fun _ => b2)
def InO20W (g : Nat → Prop) (σ : CS) (s n e : Nat) (r : Int32 × CS) : Prop := (r.1 = 0 ∧ r.2 = σ) ∨ (r.1 = 1 ∧ ∃ f, r.2 = uF σ 20 f ∧ (∀ j, j < s → f j = σ.2.2.1 20 j) ∧ (∀ j, s ≤ j → j < s + n + 1 → Gw g (f j)) ∧ (∀ j, s + n ≤ j → j < e → f (j + 1) = σ.2.2.1 20 j) ∧ (∀ j, e < j → f j = σ.2.2.1 20 j))
theorem c_insert20W (h : HQ g l t σ) (hN : sN σ 20 ≤ 1000000000) {s n e : Nat} (h2 : uN (L.1 2) = s) (h3 : uN (L.1 3) = n) (h4 : uN (L.1 4) = e) (he : s + n ≤ e) (he2 : e + 1 ≤ sN σ 20) (hv : ∀ j, s ≤ j → j < s + n → Gw g (σ.2.2.1 20 j)) (hx : Gv g (L.1 5)) : Tm (fun k => y_X0_insert__z20 k 0 L σ) (InO20W g σ s n e) := by
  have e23 : uN (L.1 2 + L.1 3) = s + n := by rw [u_add (by omega), h2, h3]
  have b6 : ∀ L' : LV, L'.1 4 = L.1 4 → L'.1 5 = L.1 5 → s ≤ uN (L'.1 6) → uN (L'.1 6) ≤ s + n → Tm (fun k => y_X0_insert__z20 k 6 L' σ) (InO20W g σ s n e) := by
    intro L' a4 a5 p1 p2
    have e1 : uN (L'.1 6 + 1) = uN (L'.1 6) + 1 := u_inc (by omega)
    have e2 : uN (L'.1 4 - L'.1 6) = e - uN (L'.1 6) := by rw [a4, u_sub (by omega), h4]
    refine Tm_suc (fun k => by rw [y_X0_insert__z20]) ?_
    refine Tm_chk ⟨by rw [u_neg]; omega, by rw [u_neg]; omega, by rw [u_neg]; omega, by rw [u_cl (by omega), u_cl (by omega), e2]; omega, by rw [u_cl (by omega), u_cl (by omega), e1, e2]; omega⟩ ?_
    refine Tm_chk (u_in (by show uN (L'.1 6) < sN σ 20; omega) (by show sN σ 20 ≤ 2147483648; omega)) ?_
    rw [uF_a]
    refine Tm_some (Or.inr ⟨rfl, _, rfl, ?_⟩)
    rw [u_cl (x := L'.1 6) (by omega), u_cl (x := L'.1 6 + 1) (by omega), u_cl (x := L'.1 4 - L'.1 6) (by omega), e1, e2, a5]
    refine ⟨fun j hj => ?_, fun j hj1 hj2 => ?_, fun j hj1 hj2 => ?_, fun j hj => ?_⟩
    · rw [upd_other (by omega)]
      unfold va_cpy
      rw [if_neg (by omega)]
    · by_cases c : j = uN (L'.1 6)
      · rw [c, upd_same]; exact Or.inl hx
      · rw [upd_other c]
        unfold va_cpy
        by_cases d : uN (L'.1 6) + 1 ≤ j ∧ j < uN (L'.1 6) + 1 + (e - uN (L'.1 6))
        · rw [if_pos d]
          exact hv _ (by omega) (by omega)
        · rw [if_neg d]
          exact hv _ hj1 (by omega)
    · rw [upd_other (by omega)]
      unfold va_cpy
      rw [if_pos ⟨by omega, by omega⟩]
      show σ.2.2.1 20 (uN (L'.1 6) + (j + 1 - (uN (L'.1 6) + 1))) = σ.2.2.1 20 j
      rw [show uN (L'.1 6) + (j + 1 - (uN (L'.1 6) + 1)) = j from by omega]
    · rw [upd_other (by omega)]
      unfold va_cpy
      rw [if_neg (by omega)]
  have b3 : ∀ L' : LV, L'.1 2 = L.1 2 → L'.1 3 = L.1 3 → L'.1 4 = L.1 4 → L'.1 5 = L.1 5 → s ≤ uN (L'.1 6) → uN (L'.1 6) ≤ s + n → Tm (fun k => y_X0_insert__z20 k 3 L' σ) (InO20W g σ s n e) := by
    intro L' a2 a3 a4 a5 p1 p2
    refine Tm_suc (fun k => by rw [y_X0_insert__z20]) ?_
    rw [a2, a3]
    refine Tm_ite (fun _ => b6 _ a4 a5 p1 p2) (fun c => ?_)
    rw [u_le (by omega) (by omega), e23] at c
    refine Tm_chk (u_in (by omega) (by omega)) ?_
    refine Tm_oc (c_sameW h ?_ ?_) (fun r q => ?_)
    · show Gw g (σ.2.2.1 20 (L'.1 6).toNatClampNeg)
      rw [u_cl (by omega)]
      exact hv _ p1 (by omega)
    · show Gv g (L'.1 5); rw [a5]; exact hx
    · have e : r.2 = σ := q.1
      rw [e]
      exact Tm_ite (fun _ => b6 _ a4 a5 p1 p2) (fun _ => Tm_some (Or.inl ⟨rfl, rfl⟩))
  have b2 : ∀ (m : Nat) (L' : LV), uN (L'.1 8) + m = 32 → L'.1 2 = L.1 2 → L'.1 3 = L.1 3 → L'.1 4 = L.1 4 → L'.1 5 = L.1 5 → s ≤ uN (L'.1 6) → uN (L'.1 6) ≤ s + n → uN (L'.1 7) ≤ s + n → Tm (fun k => y_X0_insert__z20 k 2 L' σ) (InO20W g σ s n e) := by
    intro m
    induction m with
    | zero =>
      intro L' a8 a2 a3 a4 a5 p1 p2 p3
      refine Tm_suc (fun k => by rw [y_X0_insert__z20]) ?_
      exact Tm_yes (by rw [u_le (by decide) (by omega)]; show 32 ≤ _; omega) (b3 _ a2 a3 a4 a5 p1 p2)
    | succ m ih =>
      intro L' a8 a2 a3 a4 a5 p1 p2 p3
      have b5 : ∀ L2 : LV, L2.1 8 = L'.1 8 → L2.1 2 = L.1 2 → L2.1 3 = L.1 3 → L2.1 4 = L.1 4 → L2.1 5 = L.1 5 → s ≤ uN (L2.1 6) → uN (L2.1 6) ≤ s + n → uN (L2.1 7) ≤ s + n → Tm (fun k => y_X0_insert__z20 k 5 L2 σ) (InO20W g σ s n e) := by
        intro L2 z8 z2 z3 z4 z5 q1 q2 q3
        refine Tm_suc (fun k => by rw [y_X0_insert__z20]) ?_
        refine ih _ ?_ ?_ ?_ ?_ ?_ ?_ ?_ ?_
        · show uN (L2.1 8 + 1) + m = 32
          rw [z8, u_inc (by omega)]; omega
        · exact z2
        · exact z3
        · exact z4
        · exact z5
        · exact q1
        · exact q2
        · exact q3
      have eh : uN ((((L'.1 6) + (L'.1 7)).toUInt32 >>> ((1 : Int32).toUInt32 &&& Int32.toUInt32 31)).toInt32) = (uN (L'.1 6) + uN (L'.1 7)) / 2 := by
        rw [u_shr1, u_add (by omega)]
      refine Tm_suc (fun k => by rw [y_X0_insert__z20]) ?_
      refine Tm_ite (fun _ => b3 _ a2 a3 a4 a5 p1 p2) (fun _ => Tm_ite (fun _ => b3 _ a2 a3 a4 a5 p1 p2) (fun c => ?_))
      rw [u_le (by omega) (by omega)] at c
      refine Tm_chk (u_in (by omega) (by omega)) ?_
      refine Tm_oc (c_compareW h ?_ ?_) (fun r q => ?_)
      · show Gw g (σ.2.2.1 20 (((((L'.1 6) + (L'.1 7)).toUInt32 >>> ((1 : Int32).toUInt32 &&& Int32.toUInt32 31)).toInt32)).toNatClampNeg)
        rw [u_cl (by omega), eh]
        exact hv _ (by omega) (by omega)
      · show Gv g (L'.1 5); rw [a5]; exact hx
      · have e : r.2 = σ := q
        rw [e]
        refine Tm_ite (fun _ => ?_) (fun _ => ?_)
        · refine Tm_suc (fun k => by rw [y_X0_insert__z20]) ?_
          refine b5 _ ?_ ?_ ?_ ?_ ?_ ?_ ?_ ?_
          · rfl
          · exact a2
          · exact a3
          · exact a4
          · exact a5
          · exact p1
          · exact p2
          · show uN ((((L'.1 6) + (L'.1 7)).toUInt32 >>> ((1 : Int32).toUInt32 &&& Int32.toUInt32 31)).toInt32) ≤ _
            omega
        · refine b5 _ ?_ ?_ ?_ ?_ ?_ ?_ ?_ ?_
          · rfl
          · exact a2
          · exact a3
          · exact a4
          · exact a5
          · show s ≤ uN ((((L'.1 6) + (L'.1 7)).toUInt32 >>> ((1 : Int32).toUInt32 &&& Int32.toUInt32 31)).toInt32 + 1)
            rw [u_inc (by omega)]; omega
          · show uN ((((L'.1 6) + (L'.1 7)).toUInt32 >>> ((1 : Int32).toUInt32 &&& Int32.toUInt32 31)).toInt32 + 1) ≤ _
            rw [u_inc (by omega)]; omega
          · exact p3
  have b1 : ∀ L' : LV, L'.1 2 = L.1 2 → L'.1 3 = L.1 3 → L'.1 4 = L.1 4 → L'.1 5 = L.1 5 → s ≤ uN (L'.1 6) → uN (L'.1 6) ≤ s + n → uN (L'.1 7) ≤ s + n → Tm (fun k => y_X0_insert__z20 k 1 L' σ) (InO20W g σ s n e) := by
    intro L' a2 a3 a4 a5 p1 p2 p3
    refine Tm_suc (fun k => by rw [y_X0_insert__z20]) ?_
    refine b2 32 _ ?_ ?_ ?_ ?_ ?_ ?_ ?_ ?_
    · rfl
    · exact a2
    · exact a3
    · exact a4
    · exact a5
    · exact p1
    · exact p2
    · exact p3
  have low : Tm (fun k => y_X0_insert__z20 k 1 (lI (lI L 6 (L.1 2)) 7 (L.1 2 + L.1 3)) σ) (InO20W g σ s n e) := by
    refine b1 _ rfl rfl rfl rfl ?_ ?_ ?_
    · show s ≤ uN (L.1 2); omega
    · show uN (L.1 2) ≤ _; omega
    · show uN (L.1 2 + L.1 3) ≤ _; omega
  refine Tm_suc (fun k => by rw [y_X0_insert__z20]) ?_
  refine Tm_ite (fun _ => low) (fun c => ?_)
  rw [u_le (by omega) (by decide)] at c
  have c1 : 1 ≤ uN (L.1 3) := Nat.lt_of_not_le c
  have e1 : uN (L.1 2 + L.1 3 - 1) = s + n - 1 := by
    rw [u_sub (by rw [e23]; show 1 ≤ _; omega), e23]; rfl
  refine Tm_chk (u_in (by omega) (by omega)) ?_
  refine Tm_oc (c_compareW h ?_ hx) (fun r q => ?_)
  · show Gw g (σ.2.2.1 20 (L.1 2 + L.1 3 - 1).toNatClampNeg)
    rw [u_cl (by omega), e1]
    exact hv _ (by omega) (by omega)
  · have e : r.2 = σ := q
    rw [e]
    refine Tm_ite (fun _ => low) (fun _ => ?_)
    refine b1 _ rfl rfl rfl rfl ?_ ?_ ?_
    · show s ≤ uN (L.1 2 + L.1 3); omega
    · show uN (L.1 2 + L.1 3) ≤ _; omega
    · show uN (L.1 2 + L.1 3) ≤ _; omega
theorem c_insert20B (h : HQ g l t σ) (hN : sN σ 20 ≤ 1000000000) {s n e : Nat} (h2 : uN (L.1 2) = s) (h3 : uN (L.1 3) = n) (h4 : uN (L.1 4) = e) (he : s + n ≤ e) (he2 : e + 1 ≤ sN σ 20) (hv : ∀ j, s ≤ j → j < s + n → Gw g (σ.2.2.1 20 j)) (hx : Gv g (L.1 5)) : Tm (fun k => y_X0_insert__z20 k 0 L σ) (fun r => InO20W g σ s n e r ∧ ((∀ j, s ≤ j → j < s + n → Gv g (σ.2.2.1 20 j)) → InO20 g σ s n e r)) := by
  by_cases z : ∀ j, s ≤ j → j < s + n → Gv g (σ.2.2.1 20 j)
  · exact Tm_mono (Tm_and (c_insert20W h hN h2 h3 h4 he he2 hv hx) (c_insert20 h hN h2 h3 h4 he he2 z hx)) (fun r q => ⟨q.1, fun _ => q.2⟩)
  · exact Tm_mono (c_insert20W h hN h2 h3 h4 he he2 hv hx) (fun r q => ⟨q, fun y => absurd y z⟩)
def Knn (K : Nat → Option Int32) (a b : Nat) : Nat → Option Int32 := fun j => if j < a then K j else if j < b then none else some mkC
theorem MIn_F (mi : MIn c g l t K K2 K3 K4 B KB σ) {f : Nat → Int32} {a b : Nat} (hf : ∀ j, j < uN (σ.1 1902) → Gw g (f j)) (ha : ∀ j, j < a → f j = σ.2.2.1 20 j) (hb : ∀ j, a ≤ j → j < b → j < uN (σ.1 1902) → Gv g (f j)) (hB : ∀ j, a ≤ j → j < B → (KB j = none ∧ j < b) ∨ (KB j = some mkC ∧ b ≤ j)) : MIn c g l t (Knn K a b) K2 K3 K4 B KB (uF σ 20 f) ∧ Md σ (uF σ 20 f) := by
  obtain ⟨st1, st2, st3⟩ := mi.2.1.1
  have md : Md σ (uF σ 20 f) := Md_F σ (by decide) f
  have v := VI_20 (σ' := uF σ 20 f) (K' := Knn K a b) mi.2.1 md rfl ⟨fun _ z => z, fun _ _ => rfl⟩ st1 st2 (by
    intro j hj
    have hj' : j < uN (σ.1 1902) := hj
    show Gw g (f j) ∧ (Knn K a b j = none → Gv g (f j)) ∧ ∀ v, Knn K a b j = some v → (f j = v ∧ Rr v) ∨ Mkd g (σ.2.2.1 3) v (f j)
    unfold Knn
    by_cases e : j < a
    · rw [if_pos e, ha j e]; exact st3 j hj'
    · rw [if_neg e]
      by_cases e2 : j < b
      · rw [if_pos e2]; exact Rwn (hb j (by omega) e2 hj')
      · rw [if_neg e2]; exact Rwc (hf j hj'))
  refine ⟨MIn_d mi md (HQ_fr mi.1 rfl rfl rfl) v (fun j hj => ?_) mi.2.2.2.2.2.2.1.2, md⟩
  unfold Knn
  by_cases e : j < a
  · rw [if_pos e]; exact mi.2.2.2.2.2.1 j hj
  · rcases hB j (by omega) hj with z | z
    · rw [if_neg e, if_pos z.2]; exact z.1.symm
    · rw [if_neg e, if_neg (by omega)]; exact z.1.symm
theorem c_gatherIntoSet (p : Pre c g l t K K2 K3 K4 B KB f0 u0 σ fs u 0 (d :: r) pb nf nc sq) (hd : d < 250000) (d2 : d % 2 = 1) (gx : Gv g (L.1 1)) (nx : Nx c (uN (σ.1 1900)) u 0 (d :: r) rk) : Tm (fun k => f_X3_gatherIntoSet k 0 L σ) (fun q => q.1.1 = 0 ∧ IO c B KB f0 u0 σ (mu σ (qv nf sq rk)) ((0, 0), q.2.1, (q.2.2.1 + 0, q.2.2.2 + 0))) := by
  have bg5 : 250000 < bsl := by decide
  have pcopy := p
  obtain ⟨mi, ty, w, h0, bo⟩ := p
  obtain ⟨st1, st2, st3⟩ := mi.2.1.1
  have u1 : uN (1 : Int32) = 1 := rfl
  have u2 : uN (2 : Int32) = 2 := rfl
  obtain ⟨b, n, z, a1, a2, a3, a4, a5, a6, a7⟩ := ty.1.2.1 (by omega) hd
  have v1 := pin_v st3 (by omega) a4 (rwN_r (by omega))
  have v2 := pin_v st3 (by omega) a5 a6.1
  have sb := SL_le _ _ _ a2
  have f01 := (FC_f0 _ _ _ _ _ _ _ ty.2.1).1
  have bB : B ≤ b ∧ (B ≤ b - 1 ∨ ∀ j, KB j = KH j) := by
    rcases bo with q | q
    · exact ⟨by omega, Or.inl (by omega)⟩
    · have y2 := FC_B _ _ _ _ _ _ _ ty.2.1
      have q3 := ty.2.2.1
      have e : bt 0 (d :: r) = bt (d / 2) r := by
        show (if bsl ≤ d then d - bsl else bt (d / 2) r) = _
        rw [if_neg (by omega)]
      rw [e] at q3
      refine ⟨?_, Or.inr q.1⟩
      rcases y2 with y3 | y3
      · rw [y3.2] at q3
        omega
      · omega
  have ea : uN (σ.1 1902 - 1) = b + n + 1 := by rw [u_sub (by omega), u1]; omega
  have ea2 : uN (σ.1 1902 - 2) = b + n := by rw [u_sub (by omega), u2]; omega
  have c1 : (σ.1 1902 - 1).toNatClampNeg = b + n + 1 := by rw [u_cl (by omega), ea]
  have c2 : (σ.1 1902 - 2).toNatClampNeg = b + n := by rw [u_cl (by omega), ea2]
  have i1 : ¬ (σ.1 1902 - 1 < 0 ∨ sN σ 20 ≤ (σ.1 1902 - 1).toNatClampNeg) := u_in (by omega) (by omega)
  have i2 : ¬ (σ.1 1902 - 2 < 0 ∨ sN σ 20 ≤ (σ.1 1902 - 2).toNatClampNeg) := u_in (by omega) (by omega)
  have eb : uN (σ.1 1902 - 2 - nI n) = b := by rw [u_sub (by rw [u_n (by omega), ea2]; omega), u_n (by omega), ea2]; omega
  have cb : (σ.1 1902 - 2 - nI n).toNatClampNeg = b := by rw [u_cl (by omega), eb]
  have b4 : 1 ≤ n → ∀ L' : LV, L'.1 101 = σ.1 1902 - 2 - nI n → Gv g (L'.1 100) → Tm (fun k => f_X3_gatherIntoSet k 4 L' σ) (fun q => q.1.1 = 0 ∧ IO c B KB f0 u0 σ (mu σ (qv nf sq rk)) ((0, 0), q.2.1, (q.2.2.1 + 0, q.2.2.2 + 0))) := by
    intro n1 L' l101 gv
    obtain ⟨p1, g1⟩ := Pre_s pcopy (a3 b (Nat.le_refl _) (by omega)) gv
    refine Tm_suc (fun k => by rw [f_X3_gatherIntoSet]) ?_
    rw [l101]
    refine Tm_chk (u_in (by omega) (by omega)) ?_
    rw [cb]
    exact Tm_some ⟨rfl, fl_go p1 g1 rfl (fun _ _ => rfl) nx⟩
  have b5 : ∀ (L' : LV) (σ' : CS) (Q : RS → Prop), Q ((0, 0), σ', (0, 0)) → Tm (fun k => f_X3_gatherIntoSet k 5 L' σ') Q := by
    intro L' σ' Q h
    refine Tm_suc (fun k => by rw [f_X3_gatherIntoSet]) ?_
    exact Tm_some h
  have b2 : ∀ L' : LV, L'.1 1 = L.1 1 → L'.1 3 = nI n → Tm (fun k => f_X3_gatherIntoSet k 2 L' σ) (fun q => q.1.1 = 0 ∧ IO c B KB f0 u0 σ (mu σ (qv nf sq rk)) ((0, 0), q.2.1, (q.2.2.1 + 0, q.2.2.2 + 0))) := by
    intro L' l1 l3
    refine Tm_suc (fun k => by rw [f_X3_gatherIntoSet]) ?_
    refine Tm_oxc (c_push st1 st2) (fun q z => by rw [z.1]) (fun q4 z4 => ?_)
    have m4 := pu_MK (mk := none) mi (Or.inl ⟨rfl, Gv_om g⟩) z4
    obtain ⟨h1, h2, h3, h4, h5, h6, h7⟩ := z4
    have s4 : (uN (q4.2.1.1 1902) = uN (σ.1 1902) + 1 ∧ q4.2.1.1 1812 = σ.1 1812 ∧ q4.2.1.1 1905 = σ.1 1905) ∨ (uN (q4.2.1.1 1902) = uN (σ.1 1902) ∧ q4.2.1.1 1812 = 1) := by
      rcases h7 with y | y
      · exact Or.inl ⟨y.1, y.2.2.2.1, y.2.2.2.2.2⟩
      · exact Or.inr ⟨by rw [y.1], y.2.2.1⟩
    have hzz : ¬ q4.2.1.1 1812 = 0 → ¬ q4.2.1.1 1813 = 0 := by
      intro zz
      rcases h7 with y | y
      · exact absurd (y.2.2.2.1.trans h0) zz
      · exact y.2.2.2.2
    have st4 := m4.1.2.1.1
    have k1 := h2.1
    have k2 := h2.2
    have fe : ∀ j, ¬ (j = 1 ∨ j = 404 ∨ j = 1203 ∨ j = 1812 ∨ j = 1813 ∨ j = 1902 ∨ j = 1905) → q4.2.1.1 j = σ.1 j := fun j hj => h3.1 j (by omega)
    have es : uN (q4.2.1.1 1902 - 1) = uN (q4.2.1.1 1902) - 1 := by rw [u_sub (by rw [u1]; omega), u1]
    have es2 : uN (q4.2.1.1 1902 - 1 - 2 - L'.1 3) = uN (q4.2.1.1 1902) - 3 - n := by
      rw [l3, u_sub (by rw [u_n (by omega), u_sub (by rw [u2, es]; omega), es, u2]; omega), u_n (by omega), u_sub (by rw [u2, es]; omega), es, u2]
      omega
    have m0 := MIn_fl (σ' := uI q4.2.1 1902 (q4.2.1.1 1902 - 1)) m4.1 rfl (fun j hj => upd_other (by omega)) (by show B ≤ uN (q4.2.1.1 1902 - 1); rw [es]; omega) (by show uN (q4.2.1.1 1902 - 1) ≤ _; rw [es]; omega)
    have st40 : uN (q4.2.1.1 1902) ≤ sN q4.2.1 20 := st4.1
    have st41 := st4.2.1
    refine Tm_op (c_insert20B (s := uN (q4.2.1.1 1902) - 3 - n) (n := n) (e := uN (q4.2.1.1 1902) - 1) m0.1.1 (by show sN q4.2.1 20 ≤ _; omega) es2 (by show uN (L'.1 3) = n; rw [l3, u_n (by omega)]) es (by omega) (by show _ ≤ sN q4.2.1 20; omega) (fun j j1 j2 => (st4.2.2 j (by omega)).1) (by show Gv g (L'.1 1); rw [l1]; exact gx)) (fun q zi => ?_)
    obtain ⟨zi, ziG⟩ := zi
    rcases zi with ⟨z1, z2⟩ | ⟨z1, fn, z2, z3, z4', z5, z6⟩
    · rw [z2]
      refine Tm_yes z1 ?_
      refine b5 _ _ _ ⟨rfl, ?_⟩
      have md := Md_t m4.2 m0.2
      have ph := Ph_s (σ := q4.2.1) (σ' := uI q4.2.1 1902 (q4.2.1.1 1902 - 1)) rfl
      refine ⟨rfl, ⟨by show q4.2.2.1 + (0 + 0) + PhC (uI q4.2.1 1902 (q4.2.1.1 1902 - 1)) ≤ _; omega, by show q4.2.2.2 + (0 + 0) + PhS (uI q4.2.1 1902 (q4.2.1.1 1902 - 1)) ≤ _; omega⟩, Md_M md, fun _ => Md_E md, g, l, t, _, K2, K3, K4, m0.1, fun zz => ?_, fun zz => Or.inl (hzz zz)⟩
      have z0 : q4.2.1.1 1812 = 0 := zz
      rcases s4 with s | s
      · refine go_n (TyS_k (σ' := uI q4.2.1 1902 (q4.2.1.1 1902 - 1)) ty ⟨fe 1901 (by decide), fe 1815 (by decide), fe 1811 (by decide), fe 1908 (by decide)⟩ ?_ (fun p hp => Kw_o (Or.inl (by omega))) ty.2.2.1 ty.2.2.2.2.2.2.2.2) w s.2.2 (fe 1814 (by decide)) (by show Nx c (uN (q4.2.1.1 1900)) u 0 (d :: r) rk; rw [fe 1900 (by decide)]; exact nx)
        show SL _ _ (uN (q4.2.1.1 1902 - 1)) 0 (d :: r)
        rw [es, s.1, show uN (σ.1 1902) + 1 - 1 = uN (σ.1 1902) by omega]
        exact SL_eq _ _ _ (fun p h1 h2 => Kw_o (Or.inl h2)) ty.1
      · rw [s.2] at z0
        exact absurd z0 (by decide)
    · rw [z2]
      refine Tm_no (by rw [z1]; decide) ?_
      have gin : (∀ j, uN (q4.2.1.1 1902) - 3 - n ≤ j → j < uN (q4.2.1.1 1902) - 3 - n + n → Gv g (q4.2.1.2.2.1 20 j)) → ∀ j, uN (q4.2.1.1 1902) - 3 - n ≤ j → j < uN (q4.2.1.1 1902) - 3 - n + n + 1 → Gv g (fn j) := by
        intro hg
        rcases ziG hg with y | ⟨_, fn', y2, _, y4, _⟩
        · exfalso
          rw [y.1] at z1
          exact absurd z1 (by decide)
        · have e : fn' = fn := by
            have z := y2.symm.trans z2
            have z' := congrArg (fun s : CS => s.2.2.1 20) z
            exact z'
          rw [← e]; exact y4
      have old : ∀ j, j < uN (σ.1 1902) → q4.2.1.2.2.1 20 j = σ.2.2.1 20 j := h6
      obtain ⟨bb, bb1, bb2, bb3⟩ : ∃ bb, (uN (q4.2.1.1 1902) = uN (σ.1 1902) + 1 → bb = uN (q4.2.1.1 1902) - 2) ∧ (∀ j, uN (q4.2.1.1 1902) - 3 - n ≤ j → j < bb → Gv g (fn j)) ∧ (∀ j, uN (q4.2.1.1 1902) - 3 - n ≤ j → j < B → (KB j = none ∧ j < bb) ∨ (KB j = some mkC ∧ bb ≤ j)) := by
        rcases s4 with s | s
        · refine ⟨uN (q4.2.1.1 1902) - 2, fun _ => rfl, fun j j1 j2 => gin (fun i i1 i2 => ?_) j j1 (by omega), fun j j1 j2 => absurd j2 (by omega)⟩
          rw [old i (by omega)]
          exact (st3 i (by omega)).2.1 (a3 i (by omega) (by omega))
        · by_cases y : B ≤ b - 1
          · exact ⟨uN (q4.2.1.1 1902) - 3 - n, fun z => absurd z (by omega), fun j j1 j2 => absurd j2 (by omega), fun j j1 j2 => absurd j2 (by omega)⟩
          · have kn0 := bB.2.resolve_left y
            by_cases y5 : b - 1 < 4
            · exact ⟨uN (q4.2.1.1 1902) - 3 - n, fun z => absurd z (by omega), fun j j1 j2 => absurd j2 (by omega), fun j j1 j2 => Or.inr ⟨(kn0 j).trans (KH_c (by omega)), j1⟩⟩
            have kn : ∀ j, 4 ≤ j → KB j = none := fun j hj => (kn0 j).trans (KH_n hj)
            refine ⟨uN (q4.2.1.1 1902) - 3 - n + 1, fun z => absurd z (by omega), fun j j1 j2 => gin (fun i i1 i2 => ?_) j j1 (by omega), fun j j1 j2 => Or.inl ⟨kn j (by omega), by omega⟩⟩
            rw [old i (by omega)]
            refine (st3 i (by omega)).2.1 ?_
            by_cases y3 : i < b
            · rw [mi.2.2.2.2.2.1 i (by omega)]; exact kn i (by omega)
            · exact a3 i (by omega) (by omega)
      have mF := MIn_F (f := fn) (a := uN (q4.2.1.1 1902) - 3 - n) (b := bb) m4.1 (fun j hj => by
        rcases Nat.lt_or_ge j (uN (q4.2.1.1 1902) - 3 - n) with y | y
        · rw [z3 j y]; exact (st4.2.2 j hj).1
        · rcases Nat.lt_or_ge j (uN (q4.2.1.1 1902) - 3 - n + n + 1) with y2 | y2
          · exact z4' j y y2
          · have q5 := z5 (j - 1) (by omega) (by omega)
            rw [show j - 1 + 1 = j by omega] at q5
            rw [q5]; exact (st4.2.2 (j - 1) (by omega)).1) z3 (fun j j1 j2 _ => bb2 j j1 j2) bb3
      have mA := MIn_wr (x := rwN (n + 1)) (mk := some (rwN (n + 1))) (j := uN (q4.2.1.1 1902) - 2) mF.1 (Or.inr ⟨rfl, rwN_r (by omega)⟩) (by omega)
      have e0 : q4.2.1.1 1902 - 1 + 1 = q4.2.1.1 1902 := by
        refine u_eq.2 ?_
        rw [u_inc (by omega), es]; omega
      have em2 : uN (q4.2.1.1 1902 - 2) = uN (q4.2.1.1 1902) - 2 := by rw [u_sub (by rw [u2]; omega), u2]
      have cm2 : (q4.2.1.1 1902 - 2).toNatClampNeg = uN (q4.2.1.1 1902) - 2 := by rw [u_cl (by omega), em2]
      have cm1 : (q4.2.1.1 1902 - 1).toNatClampNeg = uN (q4.2.1.1 1902) - 1 := by rw [u_cl (by omega), es]
      refine Tm_op c_raw (fun q5 z5' => ?_)
      rw [z5']
      have e31 : uN (L'.1 3 + 1) % 268435456 = n + 1 := by rw [l3, u_inc (by rw [u_n (by omega)]; omega), u_n (by omega)]; omega
      show Tm (fun k => f_X3_gatherIntoSet k 6 (lI (lI L' 100 (rwN (uN (L'.1 3 + 1) % 268435456))) 101 (q4.2.1.1 1902 - 1 + 1 - 2)) (uI (uF (uI q4.2.1 1902 (q4.2.1.1 1902 - 1)) 20 fn) 1902 (q4.2.1.1 1902 - 1 + 1))) _
      rw [e31, e0]
      have b8 : ∀ L2 : LV, L2.1 101 = q4.2.1.1 1902 - 1 → Tm (fun k => f_X3_gatherIntoSet k 8 L2 (uA (uI (uF (uI q4.2.1 1902 (q4.2.1.1 1902 - 1)) 20 fn) 1902 (q4.2.1.1 1902)) 20 (uN (q4.2.1.1 1902) - 2) (rwN (n + 1)))) (fun q => q.1.1 = 0 ∧ IO c B KB f0 u0 σ (mu σ (qv nf sq rk)) ((0, 0), q.2.1, (q4.2.2.1 + (q.2.2.1 + 0), q4.2.2.2 + (q.2.2.2 + 0)))) := by
        intro L2 m101
        refine Tm_suc (fun k => by rw [f_X3_gatherIntoSet]) ?_
        refine Tm_op c_raw (fun q6 z6' => ?_)
        rw [z6', m101]
        refine Tm_chk (u_in (by rw [es]; show _ < sN q4.2.1 20; omega) (by show sN q4.2.1 20 ≤ _; omega)) ?_
        rw [cm1]
        refine b5 _ _ _ ⟨rfl, ?_⟩
        generalize hv : rwN (uN ((lI lZ 0 (L2.1 100)).1 0) % 268435456) = rv
        have rvr : Rr rv := by rw [← hv]; exact rwN_r (Nat.mod_lt _ (by decide))
        have mB := MIn_wr (x := rv) (mk := some rv) (j := uN (q4.2.1.1 1902) - 1) mA.1 (Or.inr ⟨rfl, rvr⟩) (by omega)
        have mZ := MIn_fl (σ' := uA (uA (uI (uF (uI q4.2.1 1902 (q4.2.1.1 1902 - 1)) 20 fn) 1902 (q4.2.1.1 1902)) 20 (uN (q4.2.1.1 1902) - 2) (rwN (n + 1))) 20 (uN (q4.2.1.1 1902) - 1) rv) mB.1 rfl (fun j hj => by
          show upd (upd q4.2.1.1 1902 _) 1902 _ j = q4.2.1.1 j
          rw [upd_other (by omega), upd_other (by omega)]) (by show B ≤ uN (q4.2.1.1 1902); omega) (Nat.le_refl _)
        have md := Md_t m4.2 (Md_t mF.2 (Md_t mA.2 (Md_t mB.2 mZ.2)))
        have ph := Ph_s (σ := q4.2.1) (σ' := uA (uA (uI (uF (uI q4.2.1 1902 (q4.2.1.1 1902 - 1)) 20 fn) 1902 (q4.2.1.1 1902)) 20 (uN (q4.2.1.1 1902) - 2) (rwN (n + 1))) 20 (uN (q4.2.1.1 1902) - 1) rv) rfl
        refine ⟨rfl, ⟨by show q4.2.2.1 + (0 + 0) + PhC (uA (uA (uI (uF (uI q4.2.1 1902 (q4.2.1.1 1902 - 1)) 20 fn) 1902 (q4.2.1.1 1902)) 20 (uN (q4.2.1.1 1902) - 2) (rwN (n + 1))) 20 (uN (q4.2.1.1 1902) - 1) rv) ≤ _; omega, by show q4.2.2.2 + (0 + 0) + PhS (uA (uA (uI (uF (uI q4.2.1 1902 (q4.2.1.1 1902 - 1)) 20 fn) 1902 (q4.2.1.1 1902)) 20 (uN (q4.2.1.1 1902) - 2) (rwN (n + 1))) 20 (uN (q4.2.1.1 1902) - 1) rv) ≤ _; omega⟩, Md_M md, fun _ => Md_E md, g, l, t, _, K2, K3, K4, mZ.1, fun zz => ?_, fun zz => Or.inl (hzz zz)⟩
        have z0 : q4.2.1.1 1812 = 0 := zz
        rcases s4 with s | s
        · have hs : SL (Kw (Kw (Knn (Kw K (uN (σ.1 1902)) 1 none) (uN (q4.2.1.1 1902) - 3 - n) bb) (uN (q4.2.1.1 1902) - 2) 1 (some (rwN (n + 1)))) (uN (q4.2.1.1 1902) - 1) 1 (some rv)) (uN (σ.1 1901) + 4) (uN (q4.2.1.1 1902)) 0 (d :: r) := by
            have hi1 : uN (q4.2.1.1 1902) = b + n + 3 := by omega
            have hbb := bb1 s.1
            rw [hbb, hi1, show b + n + 3 - 3 - n = b by omega, show b + n + 3 - 2 = b + n + 1 by omega, show b + n + 3 - 1 = b + n + 2 by omega]
            refine ⟨fun cc => absurd cc (by omega), fun _ _ => ⟨b, n + 1, rv, by omega, SL_eq _ _ _ (fun p h1 h2 => ?_) a2, fun p h1 h2 => ?_, ?_, ?_, ⟨rvr, fun _ _ => by omega⟩, fun p h1 h2 => absurd h2 (by omega)⟩, fun _ c5 => absurd hd c5⟩
            · rw [Kw_o (Or.inl (by omega)), Kw_o (Or.inl (by omega))]
              unfold Knn
              rw [if_pos h2, Kw_o (Or.inl (by omega))]
            · rw [Kw_o (Or.inl (by omega)), Kw_o (Or.inl (by omega))]
              unfold Knn
              rw [if_neg (by omega), if_pos (by omega)]
            · rw [Kw_o (Or.inl (by omega)), Kw_i (by omega) (by omega)]
            · exact Kw_i (by omega) (by omega)
          refine go_n (TyS_k (σ' := uA (uA (uI (uF (uI q4.2.1 1902 (q4.2.1.1 1902 - 1)) 20 fn) 1902 (q4.2.1.1 1902)) 20 (uN (q4.2.1.1 1902) - 2) (rwN (n + 1))) 20 (uN (q4.2.1.1 1902) - 1) rv) ty ⟨fe 1901 (by decide), fe 1815 (by decide), fe 1811 (by decide), fe 1908 (by decide)⟩ hs (fun p hp => ?_) ty.2.2.1 ty.2.2.2.2.2.2.2.2) w s.2.2 (fe 1814 (by decide)) (by show Nx c (uN (q4.2.1.1 1900)) u 0 (d :: r) rk; rw [fe 1900 (by decide)]; exact nx)
          rw [Kw_o (Or.inl (by omega)), Kw_o (Or.inl (by omega))]
          unfold Knn
          rw [if_pos (by omega), Kw_o (Or.inl (by omega))]
        · rw [s.2] at z0
          exact absurd z0 (by decide)
      have gA : Gv g (L'.1 1) := by rw [l1]; exact gx
      have hqA : HQ g l t (uA (uI (uF (uI q4.2.1 1902 (q4.2.1.1 1902 - 1)) 20 fn) 1902 (q4.2.1.1 1902)) 20 (uN (q4.2.1.1 1902) - 2) (rwN (n + 1))) := HQ_fr mA.1.1 rfl rfl rfl
      refine Tm_suc (fun k => by rw [f_X3_gatherIntoSet]) ?_
      show Tm (fun k => if ¬ (q4.2.1.1 1902 - 2 < 0 ∨ sN q4.2.1 20 ≤ (q4.2.1.1 1902 - 2).toNatClampNeg) then Jvm.Pilot.CSetHouseLaw_law_r6264_2ea8b6.op (y_X1_size k 0 (lI lZ 1 (L'.1 1)) (uA (uI (uF (uI q4.2.1 1902 (q4.2.1.1 1902 - 1)) 20 fn) 1902 (q4.2.1.1 1902)) 20 (q4.2.1.1 1902 - 2).toNatClampNeg (rwN (n + 1)))) (fun r2 => if L'.1 4 + r2.1 ≤ 1000 then f_X3_gatherIntoSet k 7 (lI (lI (lI L' 100 (rwN (n + 1))) 101 (q4.2.1.1 1902 - 2)) 100 (q4.2.1.1 1902 - 1)) r2.2 else f_X3_gatherIntoSet k 8 (lI (lI (lI (lI L' 100 (rwN (n + 1))) 101 (q4.2.1.1 1902 - 2)) 100 3000) 101 (q4.2.1.1 1902 - 1)) r2.2) else none) _
      refine Tm_chk (u_in (by rw [em2]; omega) (by omega)) ?_
      rw [cm2]
      refine Tm_op (c_size1 hqA gA) (fun q6 z6' => ?_)
      have e6 : q6.2 = _ := z6'.1
      rw [e6]
      refine Tm_ite (fun _ => ?_) (fun _ => b8 _ rfl)
      refine Tm_suc (fun k => by rw [f_X3_gatherIntoSet]) ?_
      refine Tm_op (c_size1 hqA gA) (fun q7 z7' => ?_)
      have e7 : q7.2 = _ := z7'.1
      rw [e7]
      exact b8 _ rfl
  have b1 : ∀ L' : LV, L'.1 1 = L.1 1 → L'.1 3 = nI n → L'.1 4 = nI (uN z % 268435456) → Tm (fun k => f_X3_gatherIntoSet k 1 L' σ) (fun q => q.1.1 = 0 ∧ IO c B KB f0 u0 σ (mu σ (qv nf sq rk)) ((0, 0), q.2.1, (q.2.2.1 + 0, q.2.2.2 + 0))) := by
    intro L' l1 l3 l4
    refine Tm_suc (fun k => by rw [f_X3_gatherIntoSet]) ?_
    refine Tm_ite (fun _ => b2 _ l1 l3) (fun c4 => ?_)
    have n1 : 1 ≤ n := by
      refine a6.2 d2 ?_
      rw [l4, u_le (by rw [u_n (by omega)]; omega) (by decide), u_n (by omega)] at c4
      have u1000 : uN (1000 : Int32) = 1000 := rfl
      rw [u1000] at c4
      omega
    rw [l3]
    refine Tm_ite (fun _ => b4 n1 _ rfl (by show Gv g (L'.1 1); rw [l1]; exact gx)) (fun _ => ?_)
    refine Tm_suc (fun k => by rw [f_X3_gatherIntoSet]) ?_
    refine Tm_chk (u_in (by show uN (σ.1 1902 - 2 - nI n) < _; omega) (by omega)) ?_
    refine b4 n1 _ rfl ?_
    show Gv g (σ.2.2.1 20 (σ.1 1902 - 2 - nI n).toNatClampNeg)
    rw [cb]
    exact (st3 b (by omega)).2.1 (a3 b (Nat.le_refl _) (by omega))
  refine Tm_suc (fun k => by rw [f_X3_gatherIntoSet]) ?_
  refine Tm_chk i2 ?_
  rw [c2]
  refine Tm_op c_unraw (fun q5 z5 => ?_)
  rw [z5]
  refine Tm_chk i1 ?_
  refine Tm_op c_unraw (fun q6 z6 => ?_)
  rw [z6]
  have en : nI (uN ((lI lZ 0 (σ.2.2.1 20 (b + n))).1 0) % 268435456) = nI n := by
    show nI (uN (σ.2.2.1 20 (b + n)) % 268435456) = nI n
    rw [v1, unr (by omega)]
  rw [en]
  have ez : nI (uN (σ.2.2.1 20 (σ.1 1902 - 1).toNatClampNeg) % 268435456) = nI (uN z % 268435456) := by rw [c1, v2]
  refine Tm_ite (fun _ => Tm_ite (fun _ => ?_) (fun _ => b1 _ rfl rfl ez)) (fun _ => b1 _ rfl rfl ez)
  refine Tm_op c_fail (fun q e => ?_)
  rw [e]
  refine Tm_some ⟨rfl, ha_fin pcopy rfl (fun j hj => ?_) rfl (f13 (by decide))⟩
  show upd (upd σ.1 1813 _) 1812 1 j = _
  rw [upd_other (by omega), upd_other (by omega)]
end CTR
end JnS406
section JnS407
/-! The class: gathering whole, parts. -/
section CTR
variable {g g' g2 : Nat → Prop} {l l' l2 : List Nat} {t t' t2 : Nat} {σ σ' σ2 : CS} {L : LV} {x y i : Int32} {M M' U U' : Nat → Int32} {K K' K2 K2' K3 K4 K4' KB : Nat → Option Int32} {c : Ct} {B f0 u0 : Nat} {fs : List FrT} {u d : Nat} {r r' : List Nat} {pb nf nc sq rk : Nat}
def Ok5 (c : Ct) (pc u d : Nat) (r : List Nat) (rk op : Nat) (num : Int32) : Prop := (op = 80 → ∃ f, f < 2 ∧ 2 * d + f < 250000 ∧ Nx c (pc + 1) u 0 ((2 * d + f) :: r) rk) ∧ (op = 81 → ∃ e s, d = 1 ∧ r = e :: s ∧ e < 250000 ∧ e % 2 = 1 ∧ Nx c (pc + 1) u 0 r rk) ∧ (op = 82 → ∃ e s, d = 1 ∧ r = e :: s ∧ e < 250000 ∧ e % 2 = 0 ∧ Nx c (pc + 1) u 0 r rk) ∧ (op = 83 ∨ op = 84 ∨ 87 ≤ op → ∃ e s, d = 0 ∧ r = e :: s ∧ e < 250000 ∧ NxS c (pc + 1) u (e / 2 + 1) s) ∧ (op = 85 → ∃ d' m f, d = d' + m ∧ uN num = m ∧ 1 ≤ m ∧ f < 2 ∧ 2 * d' + f < 250000 ∧ (∀ n, tcF c u ≤ bt (d' + n) r) ∧ Nx c (pc + 1) u 0 ((2 * d' + f) :: r) rk) ∧ (op = 86 → ∃ d' m f, d = d' + m ∧ uN num = m ∧ 1 ≤ m ∧ f < 2 ∧ 2 * d' + f < 250000 ∧ Nx c (pc + 1) u 0 ((2 * d' + f) :: r) rk)
theorem c_gather (p : Pre c g l t K K2 K3 K4 B KB f0 u0 σ fs u d r pb nf nc sq) {pc op : Nat} (ho : op < 256) (h80 : 80 ≤ op) (h1 : L.1 1 = nI op) (hp : pc + 1 ≤ tcN c) (hN : tcN c ≤ 36864) (hpc : σ.1 1900 = nI (pc + 1)) (ok : Ok5 c pc u d r rk op (L.1 2)) : Tm (fun k => f_X3_gather k 0 L σ) (IO c B KB f0 u0 σ (mu σ (qv nf sq rk))) := by
  have mi := p.1
  obtain ⟨st1, st2, st3⟩ := mi.2.1.1
  have ts := TyS_sp p.2.1
  have hx : uN (σ.1 1900) = pc + 1 := by rw [hpc, u_n (by omega)]
  obtain ⟨o80, o81, o82, o83, o85, o86⟩ := ok
  have b7 : ∀ (L' : LV) (σ' : CS) (Q : RS → Prop), Q ((0, 0), σ', (0, 0)) → Tm (fun k => f_X3_gather k 7 L' σ') Q := by
    intro L' σ' Q h
    refine Tm_suc (fun k => by rw [f_X3_gather]) ?_
    exact Tm_some h
  have fin : ∀ (L' : LV) (x : Nat → Option RS), Tm x (fun q => q.1.1 = 0 ∧ IO c B KB f0 u0 σ (mu σ (qv nf sq rk)) ((0, 0), q.2.1, (q.2.2.1 + 0, q.2.2.2 + 0))) → Tm (fun k => ox (x k) (fun r1 => f_X3_gather k 7 L' r1.2.1)) (IO c B KB f0 u0 σ (mu σ (qv nf sq rk))) := fun L' x h => Tm_oxc h (fun q z => z.1) (fun q z => b7 _ _ _ z.2)
  have b4 : (op = 83 ∨ op = 84 ∨ 87 ≤ op) → ∀ L' : LV, Tm (fun k => f_X3_gather k 4 L' σ) (IO c B KB f0 u0 σ (mu σ (qv nf sq rk))) := by
    intro hop L'
    obtain ⟨e, s, e1, e2, e3, e4⟩ := o83 hop
    have b11 : ∀ L2 : LV, Tm (fun k => f_X3_gather k 11 L2 σ) (IO c B KB f0 u0 σ (mu σ (qv nf sq rk))) := by
      intro L2
      have p0 : Pre c g l t K K2 K3 K4 B KB f0 u0 σ fs u 0 (e :: s) pb nf nc sq := by rw [← e1, ← e2]; exact p
      refine Tm_suc (fun k => by rw [f_X3_gather]) ?_
      exact fin _ _ (c_gathered p0 e3 (by rw [hx]; exact e4))
    refine Tm_suc (fun k => by rw [f_X3_gather]) ?_
    refine Tm_ite (fun _ => b11 _) (fun _ => ?_)
    refine Tm_suc (fun k => by rw [f_X3_gather]) ?_
    exact b11 _
  -- one more is gathered
  have pop : ∀ (e : Nat) (s : List Nat), d = 1 → r = e :: s → Nx c (pc + 1) u 0 r rk → Pre c g l t K K2 K3 K4 B KB f0 u0 (uI σ 1902 (σ.1 1902 - 1)) fs u 0 (e :: s) pb nf nc sq ∧ 1 ≤ uN (σ.1 1902) := by
    intro e s e1 e2 nx
    obtain ⟨pd, es⟩ := Pre_dr (x := 1) (d' := 0) (n := 1) p e1 rfl nx.choose_spec.2.2
    rw [e2] at pd
    exact ⟨pd, by omega⟩
  have muE : mu (uI σ 1902 (σ.1 1902 - 1)) (qv nf sq rk) = mu σ (qv nf sq rk) := mu_e rfl rfl _
  refine Tm_suc (fun k => by rw [f_X3_gather]) ?_
  rw [h1]
  refine Tm_ite (fun q => ?_) (fun q1 => Tm_ite (fun q => ?_) (fun q2 => Tm_ite (fun q => ?_) (fun q3 => Tm_ite (fun q => ?_) (fun q4 => Tm_ite (fun q => ?_) (fun q5 => Tm_ite (fun q => ?_) (fun q6 => Tm_ite (fun q => ?_) (fun q7 => ?_)))))))
  · obtain ⟨f, f2, f5, nx⟩ := o80 ((op_n ho (by decide)).1 q)
    exact c_gather1 p f2 f5 (by rw [hx]; exact nx)
  · obtain ⟨e, s, e1, e2, e3, e4, nx⟩ := o81 ((op_n ho (by decide)).1 q)
    obtain ⟨pd, s1⟩ := pop e s e1 e2 nx
    have gh := (Ty_v p (q := (uN (σ.1 1902) - 1)) (by omega) (by omega))
    have b9 : ∀ L2 : LV, L2.1 101 = σ.2.2.1 20 (uN (σ.1 1902) - 1) → Tm (fun k => f_X3_gather k 9 L2 (uI σ 1902 (σ.1 1902 - 1))) (IO c B KB f0 u0 σ (mu σ (qv nf sq rk))) := by
      intro L2 l2
      refine Tm_suc (fun k => by rw [f_X3_gather]) ?_
      refine fin _ _ (Tm_mono (c_gatherIntoSet (rk := rk) pd e3 e4 (by show Gv g (L2.1 101); rw [l2]; exact gh) (by show Nx c (uN (σ.1 1900)) u 0 (e :: s) rk; rw [hx, ← e2]; exact nx)) (fun q z => ⟨z.1, ?_⟩))
      have z2 := z.2
      rw [muE] at z2
      exact IO_g (Go_dr σ _) z2
    refine Tm_suc (fun k => by rw [f_X3_gather]) ?_
    refine Tm_op (c_pop s1 st1 st2.2) (fun q2 z => ?_)
    rw [z.1]
    refine Tm_ite (fun _ => ?_) (fun _ => b9 _ rfl)
    refine Tm_suc (fun k => by rw [f_X3_gather]) ?_
    exact b9 _ rfl
  · obtain ⟨e, s, e1, e2, e3, e4, nx⟩ := o82 ((op_n ho (by decide)).1 q)
    obtain ⟨pd, s1⟩ := pop e s e1 e2 nx
    have gh := (Ty_v p (q := (uN (σ.1 1902) - 1)) (by omega) (by omega))
    refine Tm_suc (fun k => by rw [f_X3_gather]) ?_
    refine Tm_op (c_pop s1 st1 st2.2) (fun q2 z => ?_)
    rw [z.1]
    refine fin _ _ (Tm_mono (c_gatherIntoTuple (rk := rk) pd e3 e4 gh (by show Nx c (uN (σ.1 1900)) u 0 (e :: s) rk; rw [hx, ← e2]; exact nx)) (fun q z => ⟨z.1, ?_⟩))
    have z2 := z.2
    rw [muE] at z2
    exact IO_g (Go_dr σ _) z2
  · exact b4 (Or.inl ((op_n ho (by decide)).1 q)) _
  · exact b4 (Or.inr (Or.inl ((op_n ho (by decide)).1 q))) _
  · obtain ⟨d', m, f, e1, e2, e3, e4, e5, e6, nx⟩ := o85 ((op_n ho (by decide)).1 q)
    have p0 : Pre c g l t K K2 K3 K4 B KB f0 u0 σ fs u (d' + m) r pb nf nc sq := by rw [← e1]; exact p
    refine Tm_suc (fun k => by rw [f_X3_gather]) ?_
    exact fin _ _ (c_joinSet p0 e4 e5 e3 e6 e2 (by rw [hx]; exact nx))
  · obtain ⟨d', m, f, e1, e2, e3, e4, e5, nx⟩ := o86 ((op_n ho (by decide)).1 q)
    have p0 : Pre c g l t K K2 K3 K4 B KB f0 u0 σ fs u (d' + m) r pb nf nc sq := by rw [← e1]; exact p
    refine Tm_suc (fun k => by rw [f_X3_gather]) ?_
    exact fin _ _ (c_joinTuple p0 e4 e5 e3 e2 (by rw [hx]; exact nx))
  · have nn : ∀ n, n < 256 → ¬ nI op = nI n → ¬ op = n := fun n hn z e => z ((op_n ho hn).2 e)
    refine b4 ?_ _
    have a1 := nn 80 (by decide) q1
    have a2 := nn 81 (by decide) q2
    have a3 := nn 82 (by decide) q3
    have a4 := nn 83 (by decide) q4
    have a5 := nn 84 (by decide) q5
    have a6 := nn 85 (by decide) q6
    have a7 := nn 86 (by decide) q7
    omega
/-- the stack's top is known to be a tuple from here on -/
theorem Pre_mt {w d0 : Nat} {ms : List Nat} (p : Pre c g l t K K2 K3 K4 B KB f0 u0 σ fs u (d0 + 1) ((bsl + w) :: ms) pb nf nc sq) (hd : d0 < 250000) (hb : tcF c u ≤ w) (k5 : kdC (σ.2.2.1 3) (σ.2.2.1 20 (uN (σ.1 1902) - 1)) = 5) : Pre c g l t (Kw K (uN (σ.1 1902) - 1) 1 (some mkT)) K2 K3 K4 B KB f0 u0 σ fs u 0 ((500000 + d0) :: (bsl + w) :: ms) pb nf nc sq := by
  obtain ⟨mi, ty, w0, h0, bo⟩ := p
  obtain ⟨st1, st2, st3⟩ := mi.2.1.1
  have ts := TyS_sp ty
  have b5 : 500000 < bsl := by decide
  have bw : bt (d0 + 1) ((bsl + w) :: ms) = w := bt_0 _ _ _
  rw [bw] at ts
  have s0 := (SL_0 ty.1).1
  have eb : bt 0 ((500000 + d0) :: (bsl + w) :: ms) = w := by
    show (if bsl ≤ 500000 + d0 then 500000 + d0 - bsl else bt ((500000 + d0) / 2) ((bsl + w) :: ms)) = w
    rw [if_neg (by unfold bsl; omega), bt_0]
  have bB : B ≤ uN (σ.1 1902) - 1 := by
    rcases bo with y | y
    · omega
    · rcases FC_B _ _ _ _ _ _ _ ty.2.1 with e | e
      · rw [e.2] at hb
        omega
      · omega
  have rw1 : Rwk g (σ.2.2.1 3) (Kw K (uN (σ.1 1902) - 1) 1 (some mkT)) (σ.2.2.1 20) (uN (σ.1 1902)) := by
    intro j hj
    by_cases e : j = uN (σ.1 1902) - 1
    · rw [e, Kw_i (Nat.le_refl _) (by omega)]
      refine Rwt ((st3 _ (by omega)).2.1 (SL_top _ _ _ ty.1 _ (by omega) (by omega))) (fun lt => ?_)
      unfold kdC at k5
      rw [if_pos lt] at k5
      omega
    · rw [Kw_o (by omega)]
      exact st3 j hj
  have v := VI_20 (σ' := σ) mi.2.1 (Md_r σ) rfl ⟨fun _ z => z, fun _ _ => rfl⟩ st1 st2 rw1
  refine ⟨MIn_d mi (Md_r σ) mi.1 v (fun j hj => by rw [Kw_o (Or.inl (by omega))]; exact mi.2.2.2.2.2.1 j hj) mi.2.2.2.2.2.2.1.2, ?_, w0, h0, bo⟩
  exact TyS_k (σ' := σ) ty ⟨rfl, rfl, rfl, rfl⟩ (SL_mt ty.1 hd) (fun p hp => Kw_o (Or.inl (by omega))) (by rw [eb]; exact hb) ⟨fun cc => absurd cc (by unfold bsl; omega), fun _ => ty.2.2.2.2.2.2.2.2⟩
def Ok6 (c : Ct) (pc u d : Nat) (r : List Nat) (rk op : Nat) (num : Int32) : Prop := (op = 96 ∨ op = 98 → ∃ d', d = d' + 2 ∧ NxS c (pc + 1) u (d' + 1) r) ∧ (op = 97 → ∃ d', d = d' + 3 ∧ NxS c (pc + 1) u (d' + 1) r) ∧ (op = 99 → ∃ v s, d = 0 ∧ r = (500000 + v) :: s ∧ v < 250000 ∧ Nx c (pc + 1) u 1 r rk) ∧ (op = 100 → ∃ d0 w ms, d = d0 + 1 ∧ r = (bsl + w) :: ms ∧ d0 < 250000 ∧ tcF c u ≤ w ∧ Nx c (pc + 1) u 0 ((500000 + d0) :: r) rk) ∧ (101 ≤ op → 1 ≤ d ∧ pc + 1 < tcN c ∧ Nx c (uN (nI pc + tcC c (pc + 1))) u (d + 1) r rk ∧ NxS c (pc + 2) u (d + 1) r)
theorem c_partly (p : Pre c g l t K K2 K3 K4 B KB f0 u0 σ fs u d r pb nf nc sq) {pc op : Nat} (ho : op < 256) (h96 : 96 ≤ op) (h1 : L.1 1 = nI op) (h3 : L.1 3 = nI pc) (hp : pc + 1 ≤ tcN c) (hN : tcN c ≤ 36864) (hpc : σ.1 1900 = nI (pc + 1)) (ok : Ok6 c pc u d r rk op (L.1 2)) : Tm (fun k => f_X3_partly k 0 L σ) (IO c B KB f0 u0 σ (mu σ (qv nf sq rk))) := by
  have mi := p.1
  obtain ⟨st1, st2, st3⟩ := mi.2.1.1
  have ts := TyS_sp p.2.1
  have hx : uN (σ.1 1900) = pc + 1 := by rw [hpc, u_n (by omega)]
  have u1 : uN (1 : Int32) = 1 := rfl
  obtain ⟨o96, o97, o99, o100, o101⟩ := ok
  have b6 : ∀ (σ' : CS) (L' : LV) (Q : RS → Prop), Q ((0, 0), σ', (0, 0)) → Tm (fun k => f_X3_partly k 6 L' σ') Q := by
    intro σ' L' Q h
    refine Tm_suc (fun k => by rw [f_X3_partly]) ?_
    exact Tm_some h
  have re : ∀ (g' : Nat → Prop) (l' : List Nat) (t' : Nat) (σ' : CS) (x : Int32) (d' : Nat) (L' : LV), Pre c g' l' t' K K2 K3 K4 B KB f0 u0 σ' fs u d' r pb nf nc sq → 1 ≤ d' → Md σ σ' → σ'.2.2.2.2.1 = σ.2.2.2.2.1 → σ'.1 1905 = σ.1 1905 → σ'.1 1900 = σ.1 1900 → Gv g' x → NxS c (pc + 1) u d' r → Tm (fun k => Jvm.Pilot.CSetHouseLaw_law_r6264_2ea8b6.op (y_X3_replace k 0 (lI lZ 1 x) σ') (fun r2 => f_X3_partly k 6 L' r2.2)) (IO c B KB f0 u0 σ (mu σ (qv nf sq rk))) := by
    intro g' l' t' σ' x d' L' p' hd md es e5 e9 gx nx
    refine Tm_op (reX p' hd md es e5 (md.1 1814 (by decide)) gx (by rw [e9, hx]; exact nx) (qv nf sq rk)) (fun q z => ?_)
    exact b6 _ _ _ z
  have b1 : ∀ d', d = d' + 2 → NxS c (pc + 1) u (d' + 1) r → Tm (fun k => f_X3_partly k 1 L σ) (IO c B KB f0 u0 σ (mu σ (qv nf sq rk))) := by
    intro d' k1 k2
    obtain ⟨pd, es⟩ := Pre_dr (x := 1) (d' := d' + 1) (n := 1) p (by omega) rfl k2.choose_spec.2.2
    have ea : uN (σ.1 1902 - 1 - 1) = uN (σ.1 1902) - 2 := by rw [u_sub (by omega), es]; omega
    have ga : Gv g (σ.2.2.1 20 (σ.1 1902 - 1 - 1).toNatClampNeg) := by rw [u_cl (by omega), ea]; exact (Ty_v p (by omega) (by omega))
    have gb : Gv g (σ.2.2.1 20 (σ.1 1902 - 1).toNatClampNeg) := by rw [u_cl (by omega), es]; exact (Ty_v p (by omega) (by omega))
    refine Tm_suc (fun k => by rw [f_X3_partly]) ?_
    refine Tm_chk (u_in (by show uN (σ.1 1902 - 1 - 1) < sN σ 20; omega) (by show sN σ 20 ≤ _; omega)) ?_
    refine Tm_chk (u_in (by show uN (σ.1 1902 - 1) < sN σ 20; omega) (by show sN σ 20 ≤ _; omega)) ?_
    refine Tm_op (c_part pd.1.1 ga gb (Gv_om g)) (fun q3 z => ?_)
    obtain ⟨g', l', t', ga', v⟩ := z
    exact re g' l' t' q3.2 q3.1 (d' + 1) L (Pre_Ga pd ga') (by omega) (Md_t (Md_i σ (by decide) _) (Md_S (Sm_A ga'.2.2.2.2))) (by rw [ga'.2.2.2.2.2.2.2]; rfl) (ga'.2.2.2.2.1 1905 (by decide)) (ga'.2.2.2.2.1 1900 (by decide)) (v.elim id Gv_rw) k2
  refine Tm_suc (fun k => by rw [f_X3_partly]) ?_
  rw [h1]
  refine Tm_ite (fun q => ?_) (fun q1 => Tm_ite (fun q => ?_) (fun q2 => Tm_ite (fun q => ?_) (fun q3 => Tm_ite (fun q => ?_) (fun q4 => Tm_ite (fun q => ?_) (fun q5 => ?_)))))
  · obtain ⟨d', k1, k2⟩ := o96 (Or.inl ((op_n ho (by decide)).1 q))
    exact b1 d' k1 k2
  · obtain ⟨d', k1, k2⟩ := o97 ((op_n ho (by decide)).1 q)
    obtain ⟨pd, es⟩ := Pre_dr (x := 2) (d' := d' + 1) (n := 2) p (by omega) rfl k2.choose_spec.2.2
    have e1 : uN (σ.1 1902 - 2 - 1) = uN (σ.1 1902) - 3 := by rw [u_sub (by omega), es]; omega
    have e2 : uN (σ.1 1902 - 2 + 1) = uN (σ.1 1902) - 1 := by rw [u_inc (by omega), es]; omega
    have g1 : Gv g (σ.2.2.1 20 (σ.1 1902 - 2 - 1).toNatClampNeg) := by rw [u_cl (by omega), e1]; exact (Ty_v p (by omega) (by omega))
    have g2' : Gv g (σ.2.2.1 20 (σ.1 1902 - 2).toNatClampNeg) := by rw [u_cl (by omega), es]; exact (Ty_v p (by omega) (by omega))
    have g3 : Gv g (σ.2.2.1 20 (σ.1 1902 - 2 + 1).toNatClampNeg) := by rw [u_cl (by omega), e2]; exact (Ty_v p (by omega) (by omega))
    refine Tm_suc (fun k => by rw [f_X3_partly]) ?_
    refine Tm_chk (u_in (by show uN (σ.1 1902 - 2 - 1) < sN σ 20; omega) (by show sN σ 20 ≤ _; omega)) ?_
    refine Tm_chk (u_in (by show uN (σ.1 1902 - 2) < sN σ 20; omega) (by show sN σ 20 ≤ _; omega)) ?_
    refine Tm_chk (u_in (by show uN (σ.1 1902 - 2 + 1) < sN σ 20; omega) (by show sN σ 20 ≤ _; omega)) ?_
    refine Tm_op (c_part pd.1.1 g1 g2' g3) (fun q3 z => ?_)
    obtain ⟨g', l', t', ga', v⟩ := z
    exact re g' l' t' q3.2 q3.1 (d' + 1) L (Pre_Ga pd ga') (by omega) (Md_t (Md_i σ (by decide) _) (Md_S (Sm_A ga'.2.2.2.2))) (by rw [ga'.2.2.2.2.2.2.2]; rfl) (ga'.2.2.2.2.1 1905 (by decide)) (ga'.2.2.2.2.1 1900 (by decide)) (v.elim id Gv_rw) k2
  · obtain ⟨d', k1, k2⟩ := o96 (Or.inr ((op_n ho (by decide)).1 q))
    exact b1 d' k1 k2
  · obtain ⟨v, s, k1, k2, k3, nx⟩ := o99 ((op_n ho (by decide)).1 q)
    have sl := p.2.1.1
    rw [k1, k2] at sl
    have dt := SL_dt k3 sl
    have ea : uN (σ.1 1902 - 1) = uN (σ.1 1902) - 1 := by rw [u_sub (by omega), u1]
    have ec : (σ.1 1902 - 1).toNatClampNeg = uN (σ.1 1902) - 1 := by rw [u_cl (by omega), ea]
    have gt := st3 (uN (σ.1 1902) - 1) (by omega)
    have nt0 : Gv g (σ.2.2.1 20 (uN (σ.1 1902) - 1)) ∧ NoT (σ.2.2.1 3) (σ.2.2.1 20 (uN (σ.1 1902) - 1)) := by
      rcases gt.2.2 _ (by have := dt.2.2; rw [Nat.sub_zero] at this; exact this) with z | z
      · have y : 4026531840 ≤ uN mkT := z.2
        exact absurd y (by decide)
      · exact mk_t z
    have nt := nt0.2
    have sq5 : uN (σ.2.2.1 20 (uN (σ.1 1902) - 1)) < 2147483648 → 5 ≤ kdC (σ.2.2.1 3) (σ.2.2.1 20 (uN (σ.1 1902) - 1)) := by
      intro lt
      unfold kdC
      rw [if_pos lt]
      exact nt lt
    refine Tm_suc (fun k => by rw [f_X3_partly]) ?_
    refine Tm_chk (u_in (by omega) (by omega)) ?_
    rw [ec]
    refine Tm_op (c_member mi.1 nt0.1 sq5) (fun q6 z6 => ?_)
    rw [z6]
    refine Tm_oxc (c_push st1 st2) (fun q z => by rw [z.1]) (fun q z => ?_)
    refine b6 _ _ _ (pu_fin (n := 1) p (mbC_g mi.1 nt0.1 sq5) z rfl (fun _ _ => rfl) ?_)
    rw [z.2.2.1.1 1900 (by decide), hx, k1]
    exact nx
  · obtain ⟨d0, w, ms, k1, k2, k3, k4, nx⟩ := o100 ((op_n ho (by decide)).1 q)
    have ea : uN (σ.1 1902 - 1) = uN (σ.1 1902) - 1 := by rw [u_sub (by omega), u1]
    have ec : (σ.1 1902 - 1).toNatClampNeg = uN (σ.1 1902) - 1 := by rw [u_cl (by omega), ea]
    have gt := st3 (uN (σ.1 1902) - 1) (by omega)
    refine Tm_suc (fun k => by rw [f_X3_partly]) ?_
    refine Tm_chk (u_in (by omega) (by omega)) ?_
    rw [ec]
    refine Tm_op (c_kind mi.1 (Ty_v p (by omega) (by omega))) (fun q6 z6 => ?_)
    rw [z6]
    refine Tm_ite (fun c5 => ?_) (fun _ => ?_)
    · have k5 : kdC (σ.2.2.1 3) (σ.2.2.1 20 (uN (σ.1 1902) - 1)) = 5 := kd_n (n := 5) (by decide) c5
      have p0 : Pre c g l t K K2 K3 K4 B KB f0 u0 σ fs u (d0 + 1) ((bsl + w) :: ms) pb nf nc sq := by rw [← k1, ← k2]; exact p
      refine b6 _ _ _ (fl_fin (Pre_mt p0 k3 k4 k5) rfl (fun _ _ => rfl) ?_)
      rw [hx, ← k2]
      exact nx
    · refine Tm_op c_fail (fun q e => ?_)
      rw [e]
      refine b6 _ _ _ (ha_fin p rfl (fun j hj => ?_) rfl (f13 (by decide)))
      show upd (upd σ.1 1813 _) 1812 1 j = _
      rw [upd_other (by omega), upd_other (by omega)]
  · have nn : ∀ n, n < 256 → ¬ nI op = nI n → ¬ op = n := fun n hn z e => z ((op_n ho hn).2 e)
    obtain ⟨k1, k2, k3, k4⟩ := o101 (by
      have a1 := nn 96 (by decide) q1
      have a2 := nn 97 (by decide) q2
      have a3 := nn 98 (by decide) q3
      have a4 := nn 99 (by decide) q4
      have a5 := nn 100 (by decide) q5
      omega)
    refine Tm_suc (fun k => by rw [f_X3_partly]) ?_
    exact Tm_oxc (c_takeFrom p k1 h3 k2 hN k3 k4) (fun q z => z.1) (fun q z => b6 _ _ _ z.2)
end CTR
end JnS407
section JnS408
/-! The class: midway in an instruction. -/
section CTS
variable {g g' g2 : Nat → Prop} {l l' l2 : List Nat} {t t' t2 : Nat} {σ σ' σ2 τ τ' : CS} {L : LV} {x y i : Int32} {M M' U U' : Nat → Int32} {K K' K0 K2 K2' K3 K4 K4' KB : Nat → Option Int32} {c : Ct} {B f0 u0 a T : Nat} {fs : List FrT} {u d : Nat} {r r' : List Nat} {pb nf nc sq rk : Nat}
theorem MFr_R (a : RmF σ σ') : MFr σ σ' := ⟨fun j hj => a.1.1 j (by omega), fun j _ => by rw [a.2.1], fun k hk => by
  unfold rwM at hk
  exact ⟨a.2.2.1 k (by omega), a.2.2.2.1 k (by omega)⟩, a.2.2.2.2.1, by rw [a.2.2.2.2.2]⟩
/-- between instructions, where room was made -/
theorem MIn_rm (mi : MIn c g l t K K2 K3 K4 B KB σ) {q : RS} (h : RmO K K2 K3 K4 σ q) : ∃ (g' : Nat → Prop) (l' : List Nat) (t' : Nat), MIn c g' l' t' K K2 K3 K4 B KB q.2.1 := by
  obtain ⟨-, -, f, -, g', l', t', hq, v⟩ := h
  have e : ∀ j, ¬ (j = 1 ∨ j = 2403 ∨ j = 2404 ∨ j = 2405) → q.2.1.1 j = σ.1 j := f.1.1
  have n20 : sN q.2.1 20 = sN σ 20 := f.2.2.2.1 20 (by decide)
  have n21 : sN q.2.1 21 = sN σ 21 := f.2.2.2.1 21 (by decide)
  have ep : ∀ i, sPi q.2.1 i = sPi σ i := fun i => by show q.2.1.2.2.2.2.2.2 i = _; rw [f.2.2.2.2.2]
  refine ⟨g', l', t', hq, v, CtL_M mi.2.2.1 (MFr_R f), ?_, ?_, mi.2.2.2.2.2.1, ?_, ?_, ?_⟩
  · rw [e 1912 (by decide), e 1913 (by decide), n20]; exact mi.2.2.2.1
  · have sv := mi.2.2.2.2.1
    rcases f.1.2 with z | z
    · refine SVK_g sv (fun j h1 h2 => ?_) (f.2.2.1 27 (by decide)) ep (by omega) (by omega)
      by_cases y : j = 2403 ∨ j = 2404 ∨ j = 2405
      · rcases y with y | y | y
        · rw [y]; exact z.1
        · rw [y]; exact z.2.1
        · rw [y]; exact z.2.2
      · exact e j (by omega)
    · refine ⟨?_, fun i hi => by rw [ep]; exact sv.2.1 i hi, fun i j hi hj y => ?_, fun i hi => ?_, fun hn => absurd z.2.2 hn⟩
      · rw [z.1, z.2.1]; exact ⟨⟨by decide, by decide⟩, fun i hi => absurd hi (by rw [z.2.1]; exact Nat.not_lt_zero i), fun hn => absurd z.2.2 hn⟩
      · rw [ep, ep] at y; exact sv.2.2.1 i j hi hj y
      · rw [z.2.1] at hi
        exact absurd hi (by show ¬ i < uN 0; exact Nat.not_lt_zero i)
  · rw [e 1902 (by decide)]; exact mi.2.2.2.2.2.2.1
  · rw [e 1903 (by decide), e 1814 (by decide)]; exact mi.2.2.2.2.2.2.2.1
  · rw [e 1912 (by decide), e 1914 (by decide), e 1915 (by decide)]; exact mi.2.2.2.2.2.2.2.2
/-- an operator worked -/
theorem MIn_Ga (mi : MIn c g l t K K2 K3 K4 B KB σ) (a : Ga g t σ g' l' t' σ') : MIn c g' l' t' K K2 K3 K4 B KB σ' ∧ Md σ σ' := by
  obtain ⟨a1, a2, a3, a4, a5⟩ := a
  have md : Md σ σ' := Md_S (Sm_A a5)
  obtain ⟨st1, st2, st3⟩ := mi.2.1.1
  have e5 : σ'.1 1902 = σ.1 1902 := a5.1 1902 (by decide)
  have n20 : sN σ' 20 = sN σ 20 := by show σ'.2.2.2.2.1 20 = _; rw [a5.2.2.2]
  have v := VI_20 mi.2.1 md (a5.2.2.1 23 (by decide)) ⟨a2, fun p hp => a3 p (HQ_c mi.1 hp).1⟩ (K' := K) (by rw [e5, n20]; exact st1) (by rw [n20]; exact st2) (by rw [e5, a5.2.2.1 20 (by decide)]; exact Rwk_g st3 ⟨a2, fun p hp => a3 p (HQ_c mi.1 hp).1⟩)
  exact ⟨MIn_d mi md a1 v mi.2.2.2.2.2.1 (by rw [e5]; exact mi.2.2.2.2.2.2.1.2), md⟩
/-- the top was replaced -/
theorem MIn_re (mi : MIn c g l t K K2 K3 K4 B KB σ) (hx : Gv g x) (hk : K (uN (σ.1 1902) - 1) = none) (h : ReO σ x σ') : MIn c g l t K K2 K3 K4 B KB σ' ∧ Md σ σ' := by
  obtain ⟨st1, st2, st3⟩ := mi.2.1.1
  obtain ⟨h1, h2, h3, h4⟩ := h
  have md : Md σ σ' := Md_S h1
  have n20 : sN σ' 20 = sN σ 20 := by show σ'.2.2.2.2.1 20 = _; rw [h2.2.2]
  have v := VI_20 mi.2.1 md (h1.2.2.1 23 (by decide)) ⟨fun _ z => z, fun p _ => by rw [h2.2.1]⟩ (K' := K) (by rw [h3, n20]; exact st1) (by rw [n20]; exact st2) (by
    rw [h3, h2.2.1]
    intro j hj
    rcases h4 with z | z
    · rw [z.1]; exact st3 j hj
    · rw [z.1]
      by_cases e : j = uN (σ.1 1902) - 1
      · rw [e, upd_same, hk]
        exact Rwn (hx)
      · rw [upd_other e]; exact st3 j hj)
  exact ⟨MIn_d mi md (HQ_fr mi.1 h2.1 h2.2.1 (by rw [h2.2.2])) v mi.2.2.2.2.2.1 (by rw [h3]; exact mi.2.2.2.2.2.2.1.2), md⟩
theorem c_isRoomN (h1 : uN (σ.1 1902) ≤ sN σ 20) (h2 : 1024 ≤ sN σ 20 ∧ sN σ 20 ≤ 91000) (hn : uN (L.1 1) ≤ 1000000) : Tm (fun k => f_X3_isRoomFor k 0 L σ) (fun q => q.1.2 = 1 ∨ (91000 < uN (σ.1 1902) + uN (L.1 1) ∧ q.2.1.1 1813 = 6)) := by
  have ea : uN (σ.1 1902 + L.1 1) = uN (σ.1 1902) + uN (L.1 1) := u_add (by omega)
  have b1 : ∀ σ' : CS, σ'.1 = σ.1 → sN σ' 20 ≤ 91000 → (sN σ' 20 < uN (σ.1 1902) + uN (L.1 1) → sN σ' 20 = 91000) → Tm (fun k => f_X3_isRoomFor k 1 L σ') (fun q => q.1.2 = 1 ∨ (91000 < uN (σ.1 1902) + uN (L.1 1) ∧ q.2.1.1 1813 = 6)) := by
    intro σ' e s hs
    refine Tm_suc (fun k => by rw [f_X3_isRoomFor]) ?_
    rw [e]
    refine Tm_ite (fun c => ?_) (fun c => ?_)
    · refine Tm_suc (fun k => by rw [f_X3_isRoomFor]) ?_
      exact Tm_some (Or.inl rfl)
    · have c' : ¬ σ.1 1902 + L.1 1 ≤ nI (sN σ' 20) := c
      rw [u_le (by omega) (by rw [u_n (by omega)]; omega), ea, u_n (by omega)] at c'
      have := hs (by omega)
      refine Tm_suc (fun k => by rw [f_X3_isRoomFor]) ?_
      exact Tm_some (Or.inr ⟨by omega, rfl⟩)
  refine Tm_suc (fun k => by rw [f_X3_isRoomFor]) ?_
  refine Tm_chk ⟨by decide, by decide, by omega⟩ ?_
  refine Tm_ite (fun c => ?_) (fun c => ?_)
  · refine Tm_adR ?_
    exact Tm_mono (b1 (uZ σ 20 91000) rfl (Nat.le_refl _) (fun _ => rfl)) (fun r q => q)
  · refine b1 σ rfl h2.2 (fun lt => ?_)
    rcases Nat.lt_or_ge (sN σ 20) 91000 with z | z
    · exfalso
      refine c ⟨?_, z⟩
      show nI (sN σ 20) < σ.1 1902 + L.1 1
      rw [u_ltn (by rw [u_n (by omega)]; omega) (by omega), ea, u_n (by omega)]
      exact lt
    · omega
theorem c_push2 (h1 : uN (σ.1 1902) ≤ sN σ 20) (h2 : 1024 ≤ sN σ 20 ∧ sN σ 20 ≤ 91000) : Tm (fun k => f_X3_push k 0 L σ) (fun q => PuO σ (L.1 1) 1 q ∧ (uN (q.2.1.1 1902) = uN (σ.1 1902) + 1 ∨ (¬ q.2.1.1 1813 = 0 ∧ uN (σ.1 1902) = 91000))) := by
  refine Tm_and (c_push h1 h2) ?_
  have b1 : ∀ σ' : CS, σ'.1 = σ.1 → uN (σ.1 1902) < sN σ' 20 → sN σ' 20 ≤ 91000 → Tm (fun k => f_X3_push k 1 L σ') (fun q => uN (q.2.1.1 1902) = uN (σ.1 1902) + 1 ∨ (¬ q.2.1.1 1813 = 0 ∧ uN (σ.1 1902) = 91000)) := by
    intro σ' e s s2
    refine Tm_suc (fun k => by rw [f_X3_push]) ?_
    refine Tm_chk (u_in (by rw [e]; omega) (by omega)) ?_
    refine Tm_suc (fun k => by rw [f_X3_push]) ?_
    refine Tm_some (Or.inl ?_)
    show uN (σ'.1 1902 + 1) = _
    rw [e]; exact u_inc (by omega)
  refine Tm_suc (fun k => by rw [f_X3_push]) ?_
  refine Tm_ite (fun c => ?_) (fun c => ?_)
  · have c' : σ.1 1902 < nI (sN σ 20) := c
    rw [u_ltn (by omega) (by rw [u_n (by omega)]; omega), u_n (by omega)] at c'
    exact b1 σ rfl (by omega) h2.2
  · refine Tm_oxc (Tm_and (c_isRoomFor h1 h2 (by show uN 1 ≤ _; decide)) (c_isRoomN h1 h2 (by show uN 1 ≤ _; decide))) (fun r q => q.1.1) (fun r q => ?_)
    obtain ⟨⟨q1, q2, σ', w, q3⟩, q4⟩ := q
    have z := Wz_20 w h1 h2
    rcases q3 with v | v
    · rw [v.1, v.2.1]
      refine Tm_no (by decide) ?_
      exact b1 σ' z.1 (by have := v.2.2; have e : uN ((lI lZ 1 1).1 1) = 1 := rfl; omega) z.2.2.1.2
    · rw [v.1]
      refine Tm_yes rfl ?_
      refine Tm_suc (fun k => by rw [f_X3_push]) ?_
      rcases q4 with y | y
      · rw [v.1] at y
        exact absurd y (by decide)
      · refine Tm_some (Or.inr ⟨?_, ?_⟩)
        · show ¬ r.2.1.1 1813 = 0
          rw [y.2]; decide
        · have e : uN ((lI lZ 1 1).1 1) = 1 := rfl
          omega
theorem c_replace2 (h : HQ g l t σ) (hx : Gv g (L.1 1)) (h1 : 1 ≤ uN (σ.1 1902)) (h2 : uN (σ.1 1902) ≤ sN σ 20) (h3 : sN σ 20 ≤ 91000) (w : uN (σ.1 1905) ≤ 60000) : Tm (fun k => y_X3_replace k 0 L σ) (fun r => ReO σ (L.1 1) r.2 ∧ (r.2.1 1813 = 0 → uN (r.2.1 1905) ≤ 60000)) := by
  refine Tm_and (c_replace h hx h1 h2 h3 w) ?_
  have u1 : uN (1 : Int32) = 1 := rfl
  have es : uN (σ.1 1902 - 1) = uN (σ.1 1902) - 1 := by rw [u_sub (by omega), u1]
  refine Tm_suc (fun k => by rw [y_X3_replace]) ?_
  refine Tm_oc c_isError (fun r q => ?_)
  have e : r.2 = σ := q.1.1
  rw [e]
  refine Tm_ite (fun _ => ?_) (fun _ => ?_)
  · refine Tm_suc (fun k => by rw [y_X3_replace]) ?_
    refine Tm_chk (u_in (by omega) (by omega)) ?_
    refine Tm_oc (c_size1 (HQ_f h (k := 20) (by decide) _) hx) (fun r2 q2 => ?_)
    have e2 : r2.2 = uA σ 20 (σ.1 1902 - 1).toNatClampNeg (L.1 1) := q2.1
    rw [e2]
    refine Tm_oc c_spend (fun r3 e3 => ?_)
    rw [e3]
    refine Tm_suc (fun k => by rw [y_X3_replace]) ?_
    refine Tm_some (fun z => ?_)
    have z' : (spS (uA σ 20 (σ.1 1902 - 1).toNatClampNeg (L.1 1)) r2.1).1 1813 = 0 := z
    show uN ((spS (uA σ 20 (σ.1 1902 - 1).toNatClampNeg (L.1 1)) r2.1).1 1905) ≤ _
    have w' : uN ((uA σ 20 (σ.1 1902 - 1).toNatClampNeg (L.1 1)).1 1905) ≤ 60000 := w
    generalize uA σ 20 (σ.1 1902 - 1).toNatClampNeg (L.1 1) = ρ at *
    have q3 := q2.2.2
    have e6 : uN (60000 : Int32) = 60000 := rfl
    have ea : uN (ρ.1 1905 + r2.1) = uN (ρ.1 1905) + uN r2.1 := u_add (by omega)
    unfold spS at z' ⊢
    split
    · rename_i cc
      rw [u_le (by omega) (by decide), e6] at cc
      exact cc
    · rename_i cc
      rw [if_neg cc] at z'
      exact absurd z' (by show ¬ (11 : Int32) = 0; decide)
  · refine Tm_oc c_fail (fun r2 e2 => ?_)
    rw [e2]
    refine Tm_suc (fun k => by rw [y_X3_replace]) ?_
    exact Tm_some (fun _ => w)
/-- midway: values above T are plain; T: where the stack ended -/
def Wj (c : Ct) (g : Nat → Prop) (l : List Nat) (t : Nat) (K K2 K3 K4 : Nat → Option Int32) (B : Nat) (KB K0 : Nat → Option Int32) (a T : Nat) (σ τ : CS) : Prop := MIn c g l t K K2 K3 K4 B KB τ ∧ (∀ p, p < a → K p = K0 p) ∧ (∀ p, a ≤ p → K p = none) ∧ (a ≤ T ∧ T ≤ uN (τ.1 1902)) ∧ (∀ j, ¬ (j = 1 ∨ j = 404 ∨ j = 1203 ∨ j = 1812 ∨ j = 1813 ∨ j = 1902 ∨ j = 1905 ∨ (2403 ≤ j ∧ j ≤ 2405)) → τ.1 j = σ.1 j) ∧ MFr σ τ ∧ (τ.1 1812 = 0 → uN (σ.1 1905) ≤ uN (τ.1 1905) ∧ uN (τ.1 1905) ≤ 60000) ∧ (τ.1 1813 = 0 → uN (τ.1 1905) ≤ 60000) ∧ (¬ τ.1 1812 = 0 → ¬ τ.1 1813 = 0)
/-- pins above the stack's top don't matter -/
def Kc (K : Nat → Option Int32) (s : Nat) : Nat → Option Int32 := fun p => if p < s then K p else none
theorem MIn_kc (mi : MIn c g l t K K2 K3 K4 B KB σ) : MIn c g l t (Kc K (uN (σ.1 1902))) K2 K3 K4 B KB σ := by
  have b := mi.2.2.2.2.2.2.1.2
  obtain ⟨m1, ⟨v1, v2⟩, m3, m4, m5, m6, m7⟩ := mi
  refine ⟨m1, ⟨⟨v1.1, v1.2.1, fun j hj => ?_⟩, v2⟩, m3, m4, m5, fun j hj => ?_, m7⟩
  · have e : Kc K (uN (σ.1 1902)) j = K j := if_pos hj
    rw [e]; exact v1.2.2 j hj
  · have e : Kc K (uN (σ.1 1902)) j = K j := if_pos (by omega)
    rw [e]; exact m6 j hj
theorem Wj_0 (p : Pre c g l t K K2 K3 K4 B KB f0 u0 σ fs u d r pb nf nc sq) (hk : ∀ p, a ≤ p → p < uN (σ.1 1902) → K p = none) (ha : a ≤ uN (σ.1 1902)) (v : Int32) : Wj c g l t (Kc K (uN (σ.1 1902))) K2 K3 K4 B KB (Kc K (uN (σ.1 1902))) a (uN (σ.1 1902)) (uI σ 1900 v) (uI σ 1900 v) := by
  have pi := Pre_i (j := 1900) p (by decide) v
  refine ⟨MIn_kc pi.1, fun _ _ => rfl, fun q hq => ?_, ⟨ha, Nat.le_refl _⟩, fun _ _ => rfl, MFr_r _, fun _ => ⟨Nat.le_refl _, p.2.2.1⟩, fun _ => p.2.2.1, fun z => absurd p.2.2.2.1 z⟩
  unfold Kc
  split
  · rename_i h
    exact hk q hq h
  · rfl
theorem Wj_rm (h : Wj c g l t K K2 K3 K4 B KB K0 a T σ τ) {q : RS} (z : RmO K K2 K3 K4 τ q) : ∃ (g' : Nat → Prop) (l' : List Nat) (t' : Nat), Wj c g' l' t' K K2 K3 K4 B KB K0 a T σ q.2.1 := by
  obtain ⟨h1, h2, h3, h4, h5, h6, h7, h8, h9⟩ := h
  obtain ⟨g', l', t', mi⟩ := MIn_rm h1 z
  have f := z.2.2.1
  have e : ∀ j, ¬ (j = 1 ∨ j = 2403 ∨ j = 2404 ∨ j = 2405) → q.2.1.1 j = τ.1 j := f.1.1
  refine ⟨g', l', t', mi, h2, h3, by rw [e 1902 (by decide)]; exact h4, fun j hj => (e j (by omega)).trans (h5 j hj), MFr_t h6 (MFr_R f), ?_, ?_, ?_⟩
  · rw [e 1812 (by decide), e 1905 (by decide)]; exact h7
  · rw [e 1813 (by decide), e 1905 (by decide)]; exact h8
  · rw [e 1812 (by decide), e 1813 (by decide)]; exact h9
theorem Wj_pu (h : Wj c g l t K K2 K3 K4 B KB K0 a T σ τ) (gx : Gv g x) {q : RS} (z : PuO τ x 1 q) (z2 : uN (q.2.1.1 1902) = uN (τ.1 1902) + 1 ∨ (¬ q.2.1.1 1813 = 0 ∧ uN (τ.1 1902) = 91000)) : Wj c g l t (Kw K (uN (τ.1 1902)) 1 none) K2 K3 K4 B KB K0 a T σ q.2.1 := by
  obtain ⟨h1, h2, h3, h4, h5, h6, h7, h8, h9⟩ := h
  obtain ⟨mi, md⟩ := pu_MK (mk := none) h1 (Or.inl ⟨rfl, gx⟩) z
  have z3 := z.2.2.1
  refine ⟨mi, fun p hp => by rw [Kw_o (Or.inl (by omega))]; exact h2 p hp, fun p hp => ?_, ⟨h4.1, ?_⟩, fun j hj => (z3.1 j (by omega)).trans (h5 j hj), MFr_t h6 (Md_M md), fun y => ?_, fun y => ?_, fun y => ?_⟩
  · unfold Kw
    split
    · rfl
    · exact h3 p hp
  · rcases z.2.2.2.2.2.2 with y | y
    · have := y.1
      omega
    · rw [y.1]; exact h4.2
  · rcases z.2.2.2.2.2.2 with v | v
    · rw [v.2.2.2.1] at y
      rw [v.2.2.2.2.2]; exact h7 y
    · rw [v.2.2.1] at y
      exact absurd y (by decide)
  · rcases z.2.2.2.2.2.2 with v | v
    · rw [v.2.2.2.2.1] at y
      rw [v.2.2.2.2.2]; exact h8 y
    · exact absurd y v.2.2.2.2
  · rcases z.2.2.2.2.2.2 with v | v
    · rw [v.2.2.2.1] at y
      rw [v.2.2.2.2.1]; exact h9 y
    · exact v.2.2.2.2
theorem Wj_ga (h : Wj c g l t K K2 K3 K4 B KB K0 a T σ τ) (ga : Ga g t τ g' l' t' τ') : Wj c g' l' t' K K2 K3 K4 B KB K0 a T σ τ' := by
  obtain ⟨h1, h2, h3, h4, h5, h6, h7, h8, h9⟩ := h
  obtain ⟨mi, md⟩ := MIn_Ga h1 ga
  have e := ga.2.2.2.2.1
  refine ⟨mi, h2, h3, by rw [e 1902 (by decide)]; exact h4, fun j hj => (e j (by omega)).trans (h5 j hj), MFr_t h6 (Md_M md), ?_, ?_, ?_⟩
  · rw [e 1812 (by decide), e 1905 (by decide)]; exact h7
  · rw [e 1813 (by decide), e 1905 (by decide)]; exact h8
  · rw [e 1812 (by decide), e 1813 (by decide)]; exact h9
theorem Wj_re (h : Wj c g l t K K2 K3 K4 B KB K0 a T σ τ) (gx : Gv g x) (ha : a + 1 ≤ uN (τ.1 1902)) (z : ReO τ x τ') (w : τ'.1 1813 = 0 → uN (τ'.1 1905) ≤ 60000) : Wj c g l t K K2 K3 K4 B KB K0 a T σ τ' := by
  obtain ⟨h1, h2, h3, h4, h5, h6, h7, h8, h9⟩ := h
  obtain ⟨mi, md⟩ := MIn_re h1 gx (h3 _ (by omega)) z
  refine ⟨mi, h2, h3, by rw [z.2.2.1]; exact h4, fun j hj => (z.1.1 j (by omega)).trans (h5 j hj), MFr_t h6 (Md_M md), fun y => ?_, w, fun y => ?_⟩
  · rcases z.2.2.2 with v | v
    · rw [v.2.1] at y
      exact absurd y (by decide)
    · rcases v.2.2 with v | v
      · rw [v.1] at y
        exact absurd y (by decide)
      · rw [v.1] at y
        have := h7 y
        omega
  · rcases z.2.2.2 with v | v
    · exact v.2.2
    · rcases v.2.2 with v2 | v2
      · exact v2.2
      · rw [v2.1] at y
        rcases v.2.1.2 with e | e
        · rw [e]; exact h9 y
        · exact e
end CTS
end JnS408
section JnS409
/-! The class: targets are read. -/
section CTT
variable {g g' g2 : Nat → Prop} {l l' l2 : List Nat} {t t' t2 : Nat} {σ σ' σ2 τ τ' : CS} {L : LV} {x y i : Int32} {M M' U U' : Nat → Int32} {K K' K0 K2 K2' K3 K4 K4' KB : Nat → Option Int32} {c : Ct} {B f0 u0 a T : Nat} {fs : List FrT} {u d : Nat} {r r' : List Nat} {pb nf nc sq rk : Nat}
theorem Tm_oxk {x : Nat → Option RS} {f : Nat → RS → Option RS} {P Q : RS → Prop} {n1 n2 : Nat} (t : Tm x P) (hz : ∀ r, P r → r.1.1 = 0) (h : ∀ r, P r → Tm (fun k => f k r) (fun q => Q (q.1, q.2.1, (n1 + r.2.2.1 + q.2.2.1, n2 + r.2.2.2 + q.2.2.2)))) : Tm (fun k => ox (x k) (f k)) (fun q => Q (q.1, q.2.1, (n1 + q.2.2.1, n2 + q.2.2.2))) :=
  Tm_oxc (Q := fun q => Q (q.1, q.2.1, (n1 + q.2.2.1, n2 + q.2.2.2))) t hz (fun r p => Tm_mono (h r p) (fun q z => by
    show Q (q.1, q.2.1, (n1 + (r.2.2.1 + q.2.2.1), n2 + (r.2.2.2 + q.2.2.2)))
    rw [← Nat.add_assoc, ← Nat.add_assoc]; exact z))
/-- it goes on, lower, perhaps behind work -/
theorem go_w (ty : TyS c K K4 f0 u0 σ' fs u d r pb nf nc sq) (w1 : uN (σ.1 1905) ≤ uN (σ'.1 1905)) (w2 : uN (σ'.1 1905) ≤ 60000) (e4 : σ'.1 1814 = σ.1 1814) (n : Nx c (uN (σ'.1 1900)) u d r rk) : ∃ q, RunT c K K4 f0 u0 σ' q ∧ mu σ' q < mu σ (qv nf sq rk) := by
  obtain ⟨rk', ⟨d', r', h1, hr, hb⟩, h2, h3⟩ := n
  refine ⟨qv nf sq rk', ⟨w2, u, d', r', rk', fs, pb, nf, nc, sq, Or.inl ⟨TyS_rs ty hr hb, h1, rfl⟩⟩, ?_⟩
  have e : (60000 - uN (σ'.1 1905)) * QK ≤ (60000 - uN (σ.1 1905)) * QK := Nat.mul_le_mul_right _ (by omega)
  unfold mu qv
  rw [e4]
  omega
/-- the end of such an instruction: n plain places more -/
theorem Wj_fin (p : Pre c g l t K K2 K3 K4 B KB f0 u0 σ fs u d r pb nf nc sq) {v : Int32} (hk : ∀ p, a ≤ p → p < uN (σ.1 1902) → K p = none) (h : Wj c g' l' t' K' K2 K3 K4 B KB (Kc K (uN (σ.1 1902))) a (uN (σ.1 1902)) (uI σ 1900 v) τ) {n n1 n2 : Nat} (hs : τ.1 1812 = 0 → uN (τ.1 1902) = uN (σ.1 1902) + n) (c1 : n1 + PhC τ ≤ PhC σ) (c2 : n2 + PhS τ ≤ PhS σ) (nx : Nx c (uN v) u (d + n) r rk) : IO c B KB f0 u0 σ (mu σ (qv nf sq rk)) ((0, 0), τ, (n1, n2)) := by
  obtain ⟨h1, h2, h3, h4, h5, h6, h7, h8, h9⟩ := h
  have ty := p.2.1
  have ts := TyS_sp ty
  have fe : ∀ j, ¬ (j = 1 ∨ j = 404 ∨ j = 1203 ∨ j = 1812 ∨ j = 1813 ∨ j = 1902 ∨ j = 1905 ∨ (2403 ≤ j ∧ j ≤ 2405) ∨ j = 1900) → τ.1 j = σ.1 j := fun j hj => (h5 j (by omega)).trans (upd_other (by omega))
  have e9 : τ.1 1900 = v := h5 1900 (by decide)
  refine ⟨rfl, ⟨c1, c2⟩, MFr_t (Md_M (Md_i σ (by decide) v)) h6, fun _ j j1 j2 j3 => ?_, g', l', t', K', K2, K3, K4, h1, fun z => ?_, fun z => Or.inl (h9 z)⟩
  · by_cases z : j = 1912 ∨ j = 1913 ∨ j < 1912
    · exact fe j (by omega)
    · omega
  · have z0 : τ.1 1812 = 0 := z
    have hw := h7 z0
    have hw' : uN (σ.1 1905) ≤ uN (τ.1 1905) := hw.1
    have ke : ∀ p, p < uN (σ.1 1902) → K' p = K p := fun p hp => by
      rcases Nat.lt_or_ge p a with y | y
      · rw [h2 p y]
        exact if_pos hp
      · rw [h3 p y, hk p y hp]
    have hsl : SL K' (uN (σ.1 1901) + 4) (uN (τ.1 1902)) (d + n) r := by
      rw [hs z0]
      exact SL_push r _ d n (fun p h1 h2 => h3 p (by omega)) (SL_eq _ _ _ (fun p _ h2 => ke p h2) ty.1)
    refine go_w (TyS_k ty ⟨fe 1901 (by decide), fe 1815 (by decide), fe 1811 (by decide), fe 1908 (by decide)⟩ hsl (fun p hp => ke p (by omega)) (Nat.le_trans ty.2.2.1 (bt_m d n r)) ty.2.2.2.2.2.2.2.2) hw' hw.2 (fe 1814 (by decide)) ?_
    show Nx c (uN (τ.1 1900)) u (d + n) r rk
    rw [e9]; exact nx
/-- how many values parts have -/
def Wd (C : Nat → Int32) (p : Nat) : Nat → Nat
  | 0 => 0
  | n + 1 => Wd C p n + (if C (p + n) = 97 then 2 else 1)
theorem Wd_le (C : Nat → Int32) (p : Nat) : ∀ n, n ≤ Wd C p n
  | 0 => Nat.le_refl _
  | n + 1 => by
    have := Wd_le C p n
    show n + 1 ≤ Wd C p n + (if C (p + n) = 97 then 2 else 1)
    split <;> omega
theorem Wd_mo (C : Nat → Int32) (p : Nat) {m n : Nat} (h : m ≤ n) : Wd C p m + (n - m) ≤ Wd C p n := by
  induction n with
  | zero => have e : m = 0 := by omega
            rw [e]; exact Nat.le_refl _
  | succ n ih =>
    rcases Nat.lt_or_ge n m with y | y
    · have e : m = n + 1 := by omega
      rw [e]; omega
    · have := ih y
      show Wd C p m + (n + 1 - m) ≤ Wd C p n + (if C (p + n) = 97 then 2 else 1)
      split <;> omega
theorem c_read (p : Pre c g l t K K2 K3 K4 B KB f0 u0 σ fs u d r pb nf nc sq) {pc P D : Nat} (h2 : L.1 2 = nI pc) (hP : uN (tcC c (pc + 2)) = P) (hD : uN (tcC c (pc + 1)) = D) (hc : pc + 3 + P ≤ tcN c) (hN : tcN c ≤ 36864) (hs : uN (L.1 1) < uN (σ.1 1902)) (hd : D ≤ uN (σ.1 1902)) (hw : Wd (tcC c) (pc + 3) P ≤ D) (hvl : ∀ q, uN (σ.1 1902) ≤ q + D → q < uN (σ.1 1902) → K q = none ∨ K q = some mkT) (gsl : Gv g (σ.2.2.1 20 (uN (L.1 1)))) (nx : Nx c (pc + 3 + P) u (d + 1) r rk) : Tm (fun k => f_X3_read k 0 L σ) (fun q => q.1.1 = 0 ∧ IO c B KB f0 u0 σ (mu σ (qv nf sq rk)) ((0, 0), q.2.1, (q.2.2.1 + 0, q.2.2.2 + 0))) := by
  have mi := p.1
  obtain ⟨st1, st2, st3⟩ := mi.2.1.1
  have u1 : uN (1 : Int32) = 1 := rfl
  have u2 : uN (2 : Int32) = 2 := rfl
  have u3 : uN (3 : Int32) = 3 := rfl
  have e2 : uN (L.1 2) = pc := by rw [h2, u_n (by omega)]
  have e21 : uN (L.1 2 + 1) = pc + 1 := by rw [u_inc (by omega), e2]
  have e22 : uN (L.1 2 + 2) = pc + 2 := by rw [u_add (by omega), e2, u2]
  have e23 : uN (L.1 2 + 3) = pc + 3 := by rw [u_add (by omega), e2, u3]
  have c21 : (L.1 2 + 1).toNatClampNeg = pc + 1 := by rw [u_cl (by omega)]; exact e21
  have c22 : (L.1 2 + 2).toNatClampNeg = pc + 2 := by rw [u_cl (by omega)]; exact e22
  have evv : uN (L.1 2 + 3 + tcC c (pc + 2)) = pc + 3 + P := by rw [u_add (by omega), e23, hP]
  generalize hv : L.1 2 + 3 + tcC c (pc + 2) = v at *
  have hk : ∀ p, uN (σ.1 1902) ≤ p → p < uN (σ.1 1902) → K p = none := fun p h1 h2 => absurd h2 (by omega)
  have w0 := Wj_0 p hk (Nat.le_refl _) v
  generalize hT : uN (σ.1 1902) = T at *
  have fin : ∀ (q : RS), q.1 = (0, 0) → IO c B KB f0 u0 σ (mu σ (qv nf sq rk)) ((0, 0), q.2.1, (q.2.2.1 + 0, q.2.2.2 + 0)) → q.1.1 = 0 ∧ IO c B KB f0 u0 σ (mu σ (qv nf sq rk)) ((0, 0), q.2.1, (q.2.2.1 + 0, q.2.2.2 + 0)) := fun q e h => ⟨by rw [e], h⟩
  have b1 : ∀ (m : Nat) (L' : LV) (τ : CS) (n1 n2 : Nat) (g' : Nat → Prop) (l' : List Nat) (t' : Nat) (K' : Nat → Option Int32), Wj c g' l' t' K' K2 K3 K4 B KB (Kc K T) T T (uI σ 1900 v) τ → n1 + PhC τ ≤ PhC σ → n2 + PhS τ ≤ PhS σ → (uN (τ.1 1902) = T + 1 ∨ (¬ τ.1 1813 = 0 ∧ τ.1 1812 = 1)) → uN (L'.1 5) + m = P → L'.1 2 = L.1 2 → L'.1 4 = tcC c (pc + 2) → uN (L'.1 3) = T - D + Wd (tcC c) (pc + 3) (uN (L'.1 5)) → Tm (fun k => f_X3_read k 1 L' τ) (fun q => (fun z : RS => z.1.1 = 0 ∧ IO c B KB f0 u0 σ (mu σ (qv nf sq rk)) ((0, 0), z.2.1, (z.2.2.1 + 0, z.2.2.2 + 0))) (q.1, q.2.1, (n1 + q.2.2.1, n2 + q.2.2.2))) := by
    intro m
    induction m with
    | zero =>
      intro L' τ n1 n2 g' l' t' K' w k1 k2 sp m5 m2 m4 m3
      refine Tm_suc (fun k => by rw [f_X3_read]) ?_
      refine Tm_yes (by rw [m4, u_le (by omega) (by omega)]; omega) ?_
      refine Tm_suc (fun k => by rw [f_X3_read]) ?_
      refine Tm_some ⟨rfl, ?_⟩
      rw [← hT] at w
      exact Wj_fin (n := 1) p (by rw [hT]; exact hk) w (fun z => by
        rcases sp with y | y
        · rw [hT]; exact y
        · rw [y.2] at z; exact absurd z (by decide)) k1 k2 (by rw [evv]; exact nx)
    | succ m ih =>
      intro L' τ n1 n2 g' l' t' K' w k1 k2 sp m5 m2 m4 m3
      refine Tm_suc (fun k => by rw [f_X3_read]) ?_
      refine Tm_no (by rw [m4, u_le (by omega) (by omega)]; omega) ?_
      refine Tm_ite (fun c13 => ?_) (fun c13 => ?_)
      · have sp1 : uN (τ.1 1902) = T + 1 := by
          rcases sp with y | y
          · exact y
          · exact absurd c13 y.1
        refine Tm_oxk (Q := fun z : RS => z.1.1 = 0 ∧ IO c B KB f0 u0 σ (mu σ (qv nf sq rk)) ((0, 0), z.2.1, (z.2.2.1 + 0, z.2.2.2 + 0))) (c_makeRoom w.1.1 w.1.2.1) (fun q z => by rw [z.1]) (fun q3 z3 => ?_)
        obtain ⟨g3, l3, t3, w3⟩ := Wj_rm w z3
        have f3 := z3.2.2.1.1.1
        have s3 := w3.1.2.1.1
        have sp3 : uN (q3.2.1.1 1902) = T + 1 := by rw [f3 1902 (by decide)]; exact sp1
        have z13 : q3.2.1.1 1813 = 0 := (f3 1813 (by decide)).trans c13
        have k31 := z3.2.1.1
        have k32 := z3.2.1.2
        obtain ⟨b, eb, _⟩ := w3.1.2.2.1
        have cr := Ct_row w3.1.2.2.1 eb
        have ei : uN (L'.1 2 + 3 + L'.1 5) = pc + 3 + uN (L'.1 5) := by rw [m2, u_add (by omega), e23]
        have mo := Wd_mo (tcC c) (pc + 3) (m := uN (L'.1 5)) (n := P) (by omega)
        have e1 : uN (q3.2.1.1 1902 - 1) = T := by rw [u_sub (by omega), u1]; omega
        have e31 : uN (L'.1 3 + 1) = uN (L'.1 3) + 1 := u_inc (by omega)
        refine Tm_oP eb ?_
        refine Tm_chk (u_in (by rw [ei, cr.2.1]; omega) (by rw [cr.2.1]; omega)) ?_
        refine Tm_chk (u_in (by omega) (by omega)) ?_
        refine Tm_chk (u_in (by omega) (by omega)) ?_
        refine Tm_chk (u_in (by omega) (by omega)) ?_
        rw [cr.1, u_cl (x := L'.1 2 + 3 + L'.1 5) (by omega), ei, u_cl (x := q3.2.1.1 1902 - 1) (by omega), e1, u_cl (x := L'.1 3) (by omega), u_cl (x := L'.1 3 + 1) (by omega), e31]
        have gvv : ∀ q, T - D ≤ q → q ≤ T → Gv g3 (q3.2.1.2.2.1 20 q) := by
          intro q q1 q2
          by_cases y : q = T
          · rw [y]; exact (s3.2.2 T (by omega)).2.1 (w3.2.2.1 T (Nat.le_refl _))
          · have ke : K' q = K q := (w3.2.1 q (by omega)).trans (if_pos (by omega))
            rcases hvl q (by omega) (by omega) with y | y
            · exact (s3.2.2 q (by omega)).2.1 (ke.trans y)
            · rcases (s3.2.2 q (by omega)).2.2 _ (ke.trans y) with z | z
              · have y : 4026531840 ≤ uN mkT := z.2
                exact absurd y (by decide)
              · exact (mk_t z).1
        refine Tm_op (c_part w3.1.1 (gvv T (by omega) (Nat.le_refl _)) (gvv (uN (L'.1 3)) (by omega) (by omega)) (gvv (uN (L'.1 3) + 1) (by omega) (by omega))) (fun q9 z9 => ?_)
        obtain ⟨g9, l9, t9, ga, vv⟩ := z9
        have w9 := Wj_ga w3 ga
        have s9 := w9.1.2.1.1
        have a9 := ga.2.2.2.2.1
        have sp9 : uN (q9.2.1 1902) = T + 1 := by rw [a9 1902 (by decide)]; exact sp3
        have gv9 : Gv g9 q9.1 := vv.elim id Gv_rw
        refine Tm_op (c_replace2 w9.1.1 gv9 (by omega) s9.1 s9.2.1.2 (w9.2.2.2.2.2.2.2.1 (by rw [a9 1813 (by decide)]; exact z13))) (fun q10 z10 => ?_)
        have w10 := Wj_re w9 gv9 (by omega) z10.1 z10.2
        have sp10 : uN (q10.2.1 1902) = T + 1 := by rw [z10.1.2.2.1]; exact sp9
        have ph1 := Ph_s (σ := q3.2.1) (σ' := q9.2) (by rw [ga.2.2.2.2.2.2.2])
        have ph2 := Ph_s (σ := q9.2) (σ' := q10.2) (by rw [z10.1.2.1.2.2])
        have b4 : ∀ L2 : LV, L2.1 2 = L.1 2 → L2.1 4 = tcC c (pc + 2) → L2.1 5 = L'.1 5 → L2.1 101 = L'.1 3 → uN (L2.1 100) = (if tcC c (pc + 3 + uN (L'.1 5)) = 97 then 2 else 1) → Tm (fun k => f_X3_read k 4 L2 q10.2) (fun q => (fun z : RS => z.1.1 = 0 ∧ IO c B KB f0 u0 σ (mu σ (qv nf sq rk)) ((0, 0), z.2.1, (z.2.2.1 + 0, z.2.2.2 + 0))) (q.1, q.2.1, (n1 + q3.2.2.1 + q.2.2.1, n2 + q3.2.2.2 + q.2.2.2))) := by
          intro L2 o2 o4 o5 o101 o100
          have le2 : uN (L2.1 100) ≤ 2 := by rw [o100]; split <;> omega
          refine Tm_suc (fun k => by rw [f_X3_read]) ?_
          refine ih _ _ _ _ _ _ _ _ w10 (by omega) (by omega) (Or.inl sp10) ?_ o2 o4 ?_
          · show uN (L2.1 5 + 1) + m = P
            rw [o5, u_inc (by omega)]; omega
          · show uN (L2.1 101 + L2.1 100) = T - D + Wd (tcC c) (pc + 3) (uN (L2.1 5 + 1))
            rw [o5, u_inc (by omega), o101, u_add (by omega), o100, m3]
            show _ = T - D + (Wd (tcC c) (pc + 3) (uN (L'.1 5)) + (if tcC c (pc + 3 + uN (L'.1 5)) = 97 then 2 else 1))
            omega
        refine Tm_ite (fun c97 => ?_) (fun c97 => ?_)
        · refine b4 _ m2 m4 rfl rfl ?_
          rw [if_pos c97]; rfl
        · refine Tm_suc (fun k => by rw [f_X3_read]) ?_
          refine b4 _ m2 m4 rfl rfl ?_
          rw [if_neg c97]; rfl
      · refine Tm_suc (fun k => by rw [f_X3_read]) ?_
        refine Tm_some ⟨rfl, ?_⟩
        rw [← hT] at w
        exact Wj_fin (n := 1) p (by rw [hT]; exact hk) w (fun z => by
          rcases sp with y | y
          · rw [hT]; exact y
          · rw [y.2] at z; exact absurd z (by decide)) k1 k2 (by rw [evv]; exact nx)
  obtain ⟨b, eb, _⟩ := mi.2.2.1
  have cr := Ct_row mi.2.2.1 eb
  refine Tm_suc (fun k => by rw [f_X3_read]) ?_
  refine Tm_oP eb ?_
  refine Tm_chk (u_in (by rw [e21, cr.2.1]; omega) (by rw [cr.2.1]; omega)) ?_
  refine Tm_oP eb ?_
  refine Tm_chk (u_in (by rw [e22, cr.2.1]; omega) (by rw [cr.2.1]; omega)) ?_
  rw [cr.1, c21, c22, hv]
  have i1 : ¬ (L.1 1 < 0 ∨ sN (uI σ 1900 v) 20 ≤ (L.1 1).toNatClampNeg) := u_in (by show uN (L.1 1) < sN σ 20; omega) (by show sN σ 20 ≤ _; omega)
  refine Tm_chk i1 ?_
  have gx : Gv g (σ.2.2.1 20 (L.1 1).toNatClampNeg) := by rw [u_cl (by omega)]; exact gsl
  refine Tm_oxc (c_push2 (σ := uI σ 1900 v) (by show uN (σ.1 1902) ≤ sN σ 20; omega) st2) (fun q z => by rw [z.1.1]) (fun q6 z6 => ?_)
  have e02 : uN ((uI σ 1900 v).1 1902) = T := hT
  have w6 := Wj_pu w0 gx z6.1 z6.2
  have k61 := z6.1.2.1.1
  have k62 := z6.1.2.1.2
  have ph := Ph_s (σ := σ) (σ' := uI σ 1900 v) rfl
  refine b1 P _ _ q6.2.2.1 q6.2.2.2 _ _ _ _ w6 (by omega) (by omega) ?_ (by show uN (0 : Int32) + P = P; show 0 + P = P; omega) rfl rfl ?_
  · rcases z6.2 with y | y
    · left; rw [y, e02]
    · right
      refine ⟨y.1, ?_⟩
      rcases z6.1.2.2.2.2.2.2 with x | x
      · have := x.2.1
        have := z6.1.2.2.2.2.1.2
        rw [y.2] at *
        omega
      · exact x.2.2.1
  · show uN (σ.1 1902 - tcC c (pc + 1)) = T - D + Wd (tcC c) (pc + 3) (uN (0 : Int32))
    rw [u_sub (by omega), hD, hT]
    show T - D = T - D + 0
    omega
end CTT
end JnS409
section JnS410
/-! The class: targets are written. -/
section CTU
variable {g g' g2 : Nat → Prop} {l l' l2 : List Nat} {t t' t2 : Nat} {σ σ' σ2 τ τ' : CS} {L : LV} {x y z i : Int32} {M M' U U' : Nat → Int32} {K K' K0 K2 K2' K3 K4 K4' KB : Nat → Option Int32} {c : Ct} {B f0 u0 a T : Nat} {fs : List FrT} {u d : Nat} {r r' : List Nat} {pb nf nc sq rk : Nat}
/-- values above T are given up -/
theorem Wj_dr (h : Wj c g l t K K2 K3 K4 B KB K0 a T σ τ) (hB : B ≤ T) (h1 : T ≤ uN x) (h2 : uN x ≤ uN (τ.1 1902)) : Wj c g l t K K2 K3 K4 B KB K0 a T σ (uI τ 1902 x) := by
  obtain ⟨w1, w2, w3, w4, w5, w6, w7, w8, w9⟩ := h
  have e : ∀ j, ¬ j = 1902 → (uI τ 1902 x).1 j = τ.1 j := fun j hj => upd_other hj
  have md : Md τ (uI τ 1902 x) := Md_i τ (by decide) x
  obtain ⟨st1, st2, st3⟩ := w1.2.1.1
  have e5 : (uI τ 1902 x).1 1902 = x := rfl
  have v := VI_20 (σ' := uI τ 1902 x) w1.2.1 md rfl ⟨fun _ z => z, fun _ _ => rfl⟩ (K' := K) (by rw [e5]; show _ ≤ sN τ 20; omega) st2 (by rw [e5]; exact fun j hj => st3 j (by omega))
  refine ⟨?_, w2, w3, ⟨w4.1, by rw [e5]; exact h1⟩, fun j hj => (e j (by omega)).trans (w5 j hj), MFr_t w6 (Md_M md), w7, w8, w9⟩
  refine MIn_d w1 md (HQ_fr w1.1 rfl rfl rfl) v w1.2.2.2.2.2.1 ?_
  rw [e5]
  omega
theorem c_assignX (h : HQ g l t σ) {j : Nat} (h1 : uN (L.1 1) = j) (jl : j < sN σ 20) (s9 : sN σ 20 ≤ 91000) (gx : Gv g (L.1 2)) (gj : Gw g (σ.2.2.1 20 j)) : Tm (fun k => y_X3_assign k 0 L σ) (fun q => q.2 = uI (uI σ 1813 6) 1812 1 ∨ ∃ x y, q.2 = uA (uI (uI σ 1909 x) 1910 y) 20 j (L.1 2)) := by
  have c1 : (L.1 1).toNatClampNeg = j := by rw [u_cl (by omega)]; exact h1
  have i1 : ¬ (L.1 1 < 0 ∨ sN σ 20 ≤ (L.1 1).toNatClampNeg) := u_in (by omega) (by omega)
  have b3 : ∀ (L' : LV) (x : Int32), L'.1 1 = L.1 1 → L'.1 2 = L.1 2 → Tm (fun k => y_X3_assign k 3 L' (uI σ 1909 x)) (fun q => q.2 = uI (uI σ 1813 6) 1812 1 ∨ ∃ x y, q.2 = uA (uI (uI σ 1909 x) 1910 y) 20 j (L.1 2)) := by
    intro L' x l1 l2
    refine Tm_suc (fun k => by rw [y_X3_assign]) ?_
    refine Tm_chk (by rw [l1]; exact i1) ?_
    rw [l1, c1, l2]
    exact Tm_some (Or.inr ⟨x, _, rfl⟩)
  have b1 : ∀ (L' : LV), L'.1 1 = L.1 1 → L'.1 2 = L.1 2 → Tm (fun k => y_X3_assign k 1 L' σ) (fun q => q.2 = uI (uI σ 1813 6) 1812 1 ∨ ∃ x y, q.2 = uA (uI (uI σ 1909 x) 1910 y) 20 j (L.1 2)) := by
    intro L' l1 l2
    refine Tm_suc (fun k => by rw [y_X3_assign]) ?_
    refine Tm_ite (fun _ => ?_) (fun _ => ?_)
    · refine Tm_suc (fun k => by rw [y_X3_assign]) ?_
      exact b3 _ _ l1 l2
    · exact b3 _ _ l1 l2
  refine Tm_suc (fun k => by rw [y_X3_assign]) ?_
  refine Tm_oc (c_size1 h gx) (fun q z => ?_)
  have e : q.2 = σ := z.1
  rw [e]
  refine Tm_chk i1 ?_
  refine Tm_oc (c_sizeW h (by show Gw g (σ.2.2.1 20 (L.1 1).toNatClampNeg); rw [c1]; exact gj)) (fun q2 z2 => ?_)
  have e2 : q2.2 = σ := z2.1
  rw [e2]
  refine Tm_ite (fun _ => b1 _ rfl rfl) (fun _ => Tm_ite (fun _ => b1 _ rfl rfl) (fun _ => ?_))
  refine Tm_oc c_fail (fun q3 e3 => ?_)
  rw [e3]
  exact Tm_some (Or.inl rfl)
/-- a slot that may be written -/
def SlW (K : Nat → Option Int32) (fp d : Nat) (r : List Nat) (j : Nat) : Prop := K j = none ∨ ∃ n, j = fp + 4 + n ∧ n < bt d r ∧ SlB r ∧ AllM (fun i => ¬ i = n) r
/-- a variable was written; the stack is as long as before -/
theorem Wj_as (p : Pre c g l t K K2 K3 K4 B KB f0 u0 σ fs u d r pb nf nc sq) (cs : tcS c u0) {v : Int32} (hk : ∀ p, a ≤ p → p < uN (σ.1 1902) → K p = none) (h : Wj c g' l' t' K' K2 K3 K4 B KB (Kc K (uN (σ.1 1902))) a (uN (σ.1 1902)) (uI σ 1900 v) τ) {j n1 n2 : Nat} (jl : j < uN (σ.1 1902)) (hj : SlW K (uN (σ.1 1901)) d r j) (gz : Gv g' z) (c1 : n1 + PhC τ ≤ PhC σ) (c2 : n2 + PhS τ ≤ PhS σ) (nx : Nx c (uN v) u d r rk) : IO c B KB f0 u0 σ (mu σ (qv nf sq rk)) ((0, 0), uI (uA (uI (uI τ 1909 x) 1910 y) 20 j z) 1902 (σ.1 1902), (n1, n2)) := by
  obtain ⟨w1, w2, w3, w4, w5, w6, w7, w8, w9⟩ := h
  have ty := p.2.1
  have bo := p.2.2.2.2
  have ts := TyS_sp ty
  have mb := p.1.2.2.2.2.2.2.1.2
  have fe : ∀ j, ¬ (j = 1 ∨ j = 404 ∨ j = 1203 ∨ j = 1812 ∨ j = 1813 ∨ j = 1902 ∨ j = 1905 ∨ (2403 ≤ j ∧ j ≤ 2405) ∨ j = 1900) → τ.1 j = σ.1 j := fun j hj => (w5 j (by omega)).trans (upd_other (by omega))
  have e9 : τ.1 1900 = v := w5 1900 (by decide)
  have ke : ∀ p, p < uN (σ.1 1902) → K' p = K p := fun p hp => by
    rcases Nat.lt_or_ge p a with y | y
    · rw [w2 p y]
      exact if_pos hp
    · rw [w3 p y, hk p y hp]
  have ue : ∀ j, ¬ (j = 1909 ∨ j = 1910 ∨ j = 1902) → (uI (uI (uI τ 1909 x) 1910 y) 1902 (σ.1 1902)).1 j = τ.1 j := fun j hj => by
    show upd (upd (upd τ.1 1909 x) 1910 y) 1902 _ j = _
    rw [upd_other (by omega), upd_other (by omega), upd_other (by omega)]
  have m1 := MIn_fw (σ' := uI (uI (uI τ 1909 x) 1910 y) 1902 (σ.1 1902)) w1 rfl (fun j hj => ue j (by omega)) mb w4.2 (by rw [ue 1903 (by decide), ue 1814 (by decide)]; exact w1.2.2.2.2.2.2.2.1)
  obtain ⟨mi1, mw1⟩ := m1
  show IO c B KB f0 u0 σ (mu σ (qv nf sq rk)) ((0, 0), uA (uI (uI (uI τ 1909 x) 1910 y) 1902 (σ.1 1902)) 20 j z, (n1, n2))
  have r2 : (uI (uI (uI τ 1909 x) 1910 y) 1902 (σ.1 1902)).2 = τ.2 := rfl
  have s2 : (uI (uI (uI τ 1909 x) 1910 y) 1902 (σ.1 1902)).1 1902 = σ.1 1902 := rfl
  generalize uI (uI (uI τ 1909 x) 1910 y) 1902 (σ.1 1902) = ρ at *
  have md : Md ρ (uA ρ 20 j z) := Md_A ρ (by decide) _ _
  obtain ⟨st1, st2, st3⟩ := mi1.2.1.1
  have rw1 : Rwk g' (ρ.2.2.1 3) (Kw K' j 1 none) (upd (ρ.2.2.1 20) j z) (uN (ρ.1 1902)) := by
    intro i hi
    by_cases e : i = j
    · rw [e, upd_same, Kw_i (Nat.le_refl _) (by omega)]
      exact Rwn (gz)
    · rw [upd_other e, Kw_o (by omega)]
      exact st3 i hi
  have vv := VI_20 (σ' := uA ρ 20 j z) mi1.2.1 md rfl ⟨fun _ z => z, fun _ _ => rfl⟩ st1 st2 rw1
  have kb : ∀ i, i < B → Kw K' j 1 none i = KB i := by
    intro i hi
    by_cases e : i = j
    · rw [Kw_i (by omega) (by omega)]
      rcases hj with q | ⟨n, q1, q2, q3, q4⟩
      · have k1 := w1.2.2.2.2.2.1 i hi
        rw [ke i (by omega), e, q] at k1
        rw [e]; exact k1
      · rcases bo with y | y
        · omega
        · exact ((y.1 i).trans (KH_n (by omega))).symm
    · rw [Kw_o (by omega)]
      exact w1.2.2.2.2.2.1 i hi
  have mi2 := MIn_d mi1 md (HQ_fr mi1.1 rfl rfl rfl) vv kb (by show B ≤ uN (ρ.1 1902); rw [s2]; exact mb)
  have ph := Ph_s (σ := τ) (σ' := uA ρ 20 j z) (by show ρ.2.2.2.2.1 = _; rw [r2])
  refine ⟨rfl, ⟨by show n1 + PhC (uA ρ 20 j z) ≤ _; omega, by show n2 + PhS (uA ρ 20 j z) ≤ _; omega⟩, MFr_t (Md_M (Md_i σ (by decide) v)) (MFr_t w6 (MFr_t (Mw_M mw1) (Md_M md))), fun n => absurd cs n, g', l', t', _, K2, K3, K4, mi2, fun z0 => ?_, fun z0 => Or.inl (by
    have z1 : ¬ ρ.1 1812 = 0 := z0
    show ¬ ρ.1 1813 = 0
    rw [ue 1812 (by decide)] at z1
    rw [ue 1813 (by decide)]
    exact w9 z1)⟩
  have z0' : ρ.1 1812 = 0 := z0
  rw [ue 1812 (by decide)] at z0'
  have hw := w7 z0'
  have hw1 : uN (σ.1 1905) ≤ uN (τ.1 1905) := hw.1
  have e05 : (uA ρ 20 j z).1 1905 = τ.1 1905 := ue 1905 (by decide)
  have fe2 : ∀ j', ¬ (j' = 1 ∨ j' = 404 ∨ j' = 1203 ∨ j' = 1812 ∨ j' = 1813 ∨ j' = 1902 ∨ j' = 1905 ∨ (2403 ≤ j' ∧ j' ≤ 2405) ∨ j' = 1900 ∨ j' = 1909 ∨ j' = 1910) → (uA ρ 20 j z).1 j' = σ.1 j' := fun j' hj' => (ue j' (by omega)).trans (fe j' (by omega))
  have sK' : SL K' (uN (σ.1 1901) + 4) (uN (σ.1 1902)) d r := SL_eq _ _ _ (fun p _ h2 => ke p h2) ty.1
  have hsl : SL (Kw K' j 1 none) (uN (σ.1 1901) + 4) (uN ((uA ρ 20 j z).1 1902)) d r := by
    show SL (Kw K' j 1 none) _ (uN (ρ.1 1902)) d r
    rw [s2]
    rcases hj with q | ⟨n, q1, q2, q3, q4⟩
    · refine SL_eq _ _ _ (fun p _ _ => ?_) sK'
      unfold Kw
      split
      · rename_i e
        rw [show p = j by omega, ke j jl, q]
      · rfl
    · exact SL_sl (Or.inl rfl) (fun i s q b => by
        by_cases y : i % 500000 = n
        · exact Or.inr ⟨by omega, Mkk_n (fun lt => q.2 (by omega))⟩
        · exact Or.inl ⟨q.1, by omega⟩) r r _ _ q3 (by omega) (by omega) (Mrl_rf _ q4) sK'
  have hkk : ∀ p, p < uN (σ.1 1901) + 4 → Kw K' j 1 none p = K p := by
    intro p hp
    by_cases e : p = j
    · rcases hj with q | ⟨n, q1, q2, q3, q4⟩
      · rw [Kw_i (by omega) (by omega), e, q]
      · omega
    · rw [Kw_o (by omega)]; exact ke p (by omega)
  refine go_w (TyS_k ty ⟨fe2 1901 (by decide), fe2 1815 (by decide), fe2 1811 (by decide), fe2 1908 (by decide)⟩ hsl hkk ty.2.2.1 ty.2.2.2.2.2.2.2.2) (by rw [e05]; exact hw1) (by rw [e05]; exact hw.2) (fe2 1814 (by decide)) ?_
  show Nx c (uN (ρ.1 1900)) u d r rk
  rw [ue 1900 (by decide), e9]; exact nx
end CTU
end JnS410

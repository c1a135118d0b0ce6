/-! The class: funcs are called, and end. -/
section CSX
variable {g g' g2 : Nat → Prop} {l l' l2 : List Nat} {t t' t2 : Nat} {σ σ' σ2 : CS} {L : LV} {x y i : Int32} {M M' U U' : Nat → Int32} {K K' K2 K3 K4 KB : Nat → Option Int32} {c : Ct} {B f0 u0 : Nat} {fs : List FrT} {u d : Nat} {r : List Nat} {pb nf nc sq rk : Nat}
/-- where a call comes back to -/
def NxR (c : Ct) (p u d : Nat) (r : List Nat) : Prop := ∃ rk, tcD c p = some (u, d, r, rk) ∧ rk ≤ RK ∧ tcF c u ≤ bt d r
/-- fields alone -/
theorem MIn_fl (mi : MIn c g l t K K2 K3 K4 B KB σ) (e2 : σ'.2 = σ.2) (ej : ∀ j, ¬ (j = 1811 ∨ j = 1812 ∨ j = 1813 ∨ j = 1815 ∨ j = 1816 ∨ j = 1900 ∨ j = 1901 ∨ j = 1902 ∨ j = 1905) → σ'.1 j = σ.1 j) (h1 : B ≤ uN (σ'.1 1902)) (h2 : uN (σ'.1 1902) ≤ uN (σ.1 1902)) : MIn c g l t K K2 K3 K4 B KB σ' ∧ Md σ σ' := by
  have md : Md σ σ' := ⟨fun j hj => ej j (by omega), fun _ _ => by rw [e2], fun _ _ => by rw [e2], ⟨fun _ _ => by show σ'.2.2.2.2.1 _ = _; rw [e2], by show _ ≤ σ'.2.2.2.2.1 20; rw [e2]; exact Nat.le_refl _⟩, by rw [e2], by rw [e2]⟩
  obtain ⟨st1, st2, st3⟩ := mi.2.1.1
  have n20 : sN σ' 20 = sN σ 20 := by show σ'.2.2.2.2.1 20 = _; rw [e2]
  have v := VI_20 mi.2.1 md (by rw [e2]) ⟨fun _ z => z, fun p _ => by rw [e2]⟩ (K' := K) (by rw [n20]; omega) (by rw [n20]; exact st2) (by rw [e2]; exact fun j hj => st3 j (by omega))
  exact ⟨MIn_d mi md (HQ_fr mi.1 (ej 1 (by decide)) (by rw [e2]) (by rw [e2])) v mi.2.2.2.2.2.1 h1, md⟩
/-- places below those in use now -/
theorem fr_B (p : Pre c g l t K K2 K3 K4 B KB f0 u0 σ fs u d r pb nf nc sq) {d' n : Nat} (e : d = d' + n) (hb : tcF c u ≤ bt d' r) : B ≤ uN (σ.1 1902) - n := by
  have ts := TyS_sp p.2.1
  have st := p.1.2.1.1
  have z := Pre_dr (x := nI n) p e (u_n (by omega)) hb
  have q := z.1.1.2.2.2.2.2.2.1.2
  have q' : B ≤ uN (σ.1 1902 - nI n) := q
  rw [z.2] at q'
  exact q'
theorem c_callFunc {r0 : List Nat} (p : Pre c g l t K K2 K3 K4 B KB f0 u0 σ fs u d r0 pb nf nc sq) {pc v d0 : Nat} (hpc : σ.1 1900 = nI (pc + 1)) (hp : pc + 1 < tcN c) (hN : tcN c ≤ 36864) (h1 : L.1 1 = nI v) (hv : v < 41) (kv : tcK c v) (k : d = tcP c v ∧ r0 = (250000 + d0) :: r ∧ d0 < 250000) (fb : tcF c u ≤ bt d0 r) (pf : tcP c v ≤ tcF c v ∧ tcF c v ≤ 1000) (ps : uN (tcC c (pc + 1) >>> ((8 : Int32) &&& 31)) ≤ 180) (pm : ∀ (K : Nat → Option Int32) (pb : Nat), PaM K pb 180 r → PaM K pb (uN (tcC c (pc + 1) >>> ((8 : Int32) &&& 31))) r) (nx : NxR c (pc + 2) u (d0 + 1) r) (en : NxR c (tcE c v) v 0 ((bsl + tcF c v) :: Vl (tcF c v))) : Tm (fun k => f_X3_callFunc k 0 L σ) (fun q => q.1.1 = 0 ∧ IO c B KB f0 u0 σ (mu σ (qv nf sq rk)) ((0, 0), q.2.1, (q.2.2.1 + 0, q.2.2.2 + 0))) := by
  have mi := p.1
  have ty := p.2.1
  obtain ⟨st1, st2, st3⟩ := mi.2.1.1
  have ts := TyS_sp ty
  obtain ⟨k0, k00, kd⟩ := k
  subst k00
  have rf := SL_rf kd ty.1
  have fbB : B ≤ uN (σ.1 1902) - (4 + tcP c v) := by
    obtain ⟨pd, es⟩ := Pre_dp (x := nI (d + 4)) (d' := d0) (r' := r) p (by
      rw [u_n (by omega)]
      exact ⟨fun K lo hi h => ⟨(SL_rf kd h).1, (SL_rf kd h).2.1⟩, fun K pb m h => h.2 (by unfold bsl; omega)⟩) fb
    have q := pd.1.2.2.2.2.2.2.1.2
    have q' : B ≤ uN (σ.1 1902 - nI (d + 4)) := q
    rw [es, u_n (by omega)] at q'
    omega
  obtain ⟨b, eb, _⟩ := mi.2.2.1
  have cr := Ct_row mi.2.2.1 eb
  have e9 : uN (σ.1 1900) = pc + 1 := by rw [hpc, u_n (by omega)]
  have i9 : ¬ (σ.1 1900 < 0 ∨ sN σ (pR0 (sKd σ b)) ≤ (σ.1 1900).toNatClampNeg) := u_in (by rw [e9, cr.2.1]; exact hp) (by rw [cr.2.1]; omega)
  have c9 : (σ.1 1900).toNatClampNeg = pc + 1 := by rw [u_cl (by omega)]; exact e9
  have nf20 := ty.2.2.2.1
  have b1 : ∀ L' : LV, Tm (fun k => f_X3_callFunc k 1 L' σ) (fun q => q.1.1 = 0 ∧ IO c B KB f0 u0 σ (mu σ (qv nf sq rk)) ((0, 0), q.2.1, (q.2.2.1 + 0, q.2.2.2 + 0))) := by
    intro L'
    refine Tm_suc (fun k => by rw [f_X3_callFunc]) ?_
    refine Tm_op c_fail (fun q e => ?_)
    rw [e]
    refine Tm_some ⟨rfl, ha_fin p rfl (fun j hj => ?_) rfl (f13 (by decide))⟩
    show upd (upd σ.1 1813 _) 1812 1 j = _
    rw [upd_other (by omega), upd_other (by omega)]
  refine Tm_suc (fun k => by rw [f_X3_callFunc]) ?_
  refine Tm_oP eb ?_
  refine Tm_chk i9 ?_
  refine Tm_oP eb ?_
  refine Tm_chk i9 ?_
  refine Tm_ite (fun _ => b1 _) (fun c20 => ?_)
  have u20 : uN (20 : Int32) = 20 := rfl
  rw [u_le (by decide) (by omega), u20, nf20.1] at c20
  refine Tm_ite (fun _ => ?_) (fun _ => b1 _)
  rw [c9, cr.1]
  generalize tcC c (pc + 1) &&& 255 = dp
  generalize hps : tcC c (pc + 1) >>> ((8 : Int32) &&& 31) = px at *
  have e11 := ty.2.2.2.2.1
  have fcb := (FC_b _ _ _ _ _ _ _ ty.2.1).1
  refine Tm_suc (fun k => by rw [f_X3_callFunc]) ?_
  -- the state with its counts
  show Tm (fun k => f_X3_callFunc k 3 (lI (lI L 2 dp) 3 px) (uI (uI (uI σ 1815 (σ.1 1815 + 1)) 1816 (σ.1 1816 + dp)) 1811 (σ.1 1811 + px))) _
  generalize hH : uI (uI (uI σ 1815 (σ.1 1815 + 1)) 1816 (σ.1 1816 + dp)) 1811 (σ.1 1811 + px) = τ
  have τe : ∀ j, ¬ (j = 1811 ∨ j = 1815 ∨ j = 1816) → τ.1 j = σ.1 j := fun j hj => by
    rw [← hH]
    show upd (upd (upd σ.1 1815 _) 1816 _) 1811 _ j = _
    rw [upd_other (by omega), upd_other (by omega), upd_other (by omega)]
  have τ15 : uN (τ.1 1815) = nf + 1 := by
    have e : τ.1 1815 = σ.1 1815 + 1 := by rw [← hH]; rfl
    rw [e, u_inc (by omega), nf20.1]
  have τ11 : uN (τ.1 1811) = pb + uN px := by
    have e : τ.1 1811 = σ.1 1811 + px := by rw [← hH]; rfl
    rw [e, u_add (by omega), e11]
  have τ2 : τ.2 = σ.2 := by rw [← hH]; rfl
  have e02 := τe 1902 (by decide)
  have e01 := τe 1901 (by decide)
  have mt := MIn_fl (σ' := τ) mi τ2 (fun j hj => τe j (by omega)) (by rw [e02]; exact mi.2.2.2.2.2.2.1.2) (by rw [e02]; exact Nat.le_refl _)
  obtain ⟨miτ, mdτ⟩ := mt
  have slτ : uN (τ.1 1901) + 8 + tcP c v ≤ uN (τ.1 1902) ∧ ∀ p, uN (τ.1 1902) - tcP c v ≤ p → p < uN (τ.1 1902) → K p = none := by
    rw [e01, e02, ← k0]; exact ⟨by have := rf.2.2.2.1; omega, rf.2.2.1⟩
  refine Tm_suc (fun k => by rw [f_X3_callFunc]) ?_
  refine Tm_oxc (c_enter (v := v) miτ slτ (by rw [e02]; omega) (by omega) pf h1) (fun q z => by rw [z.1]) (fun q z => ?_)
  obtain ⟨z1, z2, z3, z4, z5, K', z6, z7⟩ := z
  refine Tm_some ⟨rfl, ?_⟩
  have ph := Ph_s (σ := σ) (σ' := τ) (by rw [τ2])
  have z21 := z2.1
  have z22 := z2.2
  have mdq := Md_t mdτ z3
  refine ⟨rfl, ⟨by show q.2.2.1 + 0 + 0 + PhC q.2.1 ≤ _; omega, by show q.2.2.2 + 0 + 0 + PhS q.2.1 ≤ _; omega⟩, Md_M mdq, fun _ => Md_E mdq, g, l, t, K', K2, K3, K4, z6, fun h0 => ?_, fun h0 => ?_⟩
  rotate_left
  · rcases z7 with z7 | z7
    · exact Or.inl z7.2
    · exact absurd (z7.1.trans ((τe 1812 (by decide)).trans p.2.2.2.1)) h0
  rcases z7 with z7 | ⟨a1, a2, a3, a4, a5⟩
  · have h0' : q.2.1.1 1812 = 0 := h0
    rw [z7.1] at h0'
    exact absurd h0' (by decide)
  rw [e02] at a2 a3 a4 a5
  generalize hF : uN (σ.1 1902) - tcP c v - 4 = f at *
  obtain ⟨rk', r1, r2, r3⟩ := en
  obtain ⟨rb, n1, n2, n3⟩ := nx
  have hd := Kh_i (K := K) (f := f) (a := rwN (uN (τ.1 1900 + 1) % 268435456)) (b := rwN (uN (τ.1 1901) % 268435456)) (e := rwN (uN dp % 268435456)) (h := rwN (uN px % 268435456))
  have sl0 : SL K (uN (σ.1 1901) + 4) f d0 r := by
    have z := rf.2.1
    rw [show uN (σ.1 1902) - (d + 4) = f from by omega] at z
    exact z
  have sl0e := (SL_le _ _ _ sl0).2
  have e0 : uN (τ.1 1900 + 1) % 268435456 = pc + 2 := by
    rw [u_inc (by rw [τe 1900 (by decide)]; omega), τe 1900 (by decide), e9]; omega
  have ty' : TyS c K' K4 f0 u0 q.2.1 ((uN (σ.1 1901), u, d0, r, pb, nf, nc, sq) :: fs) v 0 ((bsl + tcF c v) :: Vl (tcF c v)) (pb + uN px) (nf + 1) nc sq := by
    unfold TyS
    rw [a2, a3, z4 1815 (by decide), z4 1811 (by decide), z4 1908 (by decide), τ15, τ11, τe 1908 (by decide)]
    refine ⟨SL_mkV (by omega) (by omega) (fun p h1 h2 => a5 p h1 (by omega)), ⟨⟨pc + 2, rb, rwN (uN dp % 268435456), rwN (uN px % 268435456), ⟨?_, ?_, ?_, ?_⟩, ⟨rwN_r (by omega), rwN_r (by omega), by omega⟩, ?_, fb, pf.1, ⟨n2, ty.2.2.2.2.2.2.2.1⟩, Or.inl ⟨kv, n1, ?_, ?_, rfl, rfl, rfl, ?_⟩⟩, ?_⟩, by rw [bt_0]; exact Nat.le_refl _, ⟨rfl, by omega⟩, rfl, ty.2.2.2.2.2.1, ty.2.2.2.2.2.2.1, by omega, PaM_0 (Vl_b _ (by omega))⟩
    · rw [a4 f (by omega), ← e0]; exact hd.1
    · rw [a4 (f + 1) (by omega)]
      have e1 : uN (τ.1 1901) % 268435456 = uN (σ.1 1901) := by rw [e01]; omega
      exact hd.2.1.trans (by rw [e1])
    · rw [a4 (f + 2) (by omega)]; exact hd.2.2.1
    · rw [a4 (f + 3) (by omega)]; exact hd.2.2.2
    · exact SL_eq _ _ _ (fun p h1 h2 => by rw [a4 p (by omega)]; exact Kh_o (Or.inl h2)) sl0
    · show pb + uN px = pb + uN (rwN (uN px % 268435456)) % 268435456
      rw [rwN_u (by omega)]; omega
    · rw [rwN_u (by omega)]; omega
    · have z := pm K4 pb (ty.2.2.2.2.2.2.2.2.2 (by unfold bsl; omega))
      rw [rwN_u (by omega), show (4026531840 + uN px % 268435456) % 268435456 = uN px from by omega]
      exact z
    · exact FC_k ty.2.1 (fun p hp => by rw [a4 p (by omega)]; exact Kh_o (Or.inl (by omega))) (fun _ _ => rfl)
  refine ⟨qv (nf + 1) sq rk', ⟨by rw [z4 1905 (by decide), τe 1905 (by decide)]; exact p.2.2.1, v, 0, (bsl + tcF c v) :: Vl (tcF c v), rk', _, _, _, _, _, Or.inl ⟨ty', by rw [z5]; exact r1, rfl⟩⟩, ?_⟩
  unfold mu qv
  rw [z4 1905 (by decide), τe 1905 (by decide), z4 1814 (by decide), τe 1814 (by decide)]
  have e20 : (20 - nf) * (RK + 1) = (20 - (nf + 1)) * (RK + 1) + (RK + 1) := by
    rw [show 20 - nf = (20 - (nf + 1)) + 1 from by omega, Nat.add_mul, Nat.one_mul]
  omega
theorem c_pop (h1 : 1 ≤ uN (σ.1 1902)) (h2 : uN (σ.1 1902) ≤ sN σ 20) (h3 : sN σ 20 ≤ 91000) : Tm (fun k => y_X3_pop k 0 L σ) (fun q => q = (σ.2.2.1 20 (uN (σ.1 1902) - 1), uI σ 1902 (σ.1 1902 - 1)) ∧ uN (σ.1 1902 - 1) = uN (σ.1 1902) - 1) := by
  have u1 : uN (1 : Int32) = 1 := rfl
  have es : uN (σ.1 1902 - 1) = uN (σ.1 1902) - 1 := by rw [u_sub (by omega), u1]
  refine Tm_suc (fun k => by rw [y_X3_pop]) ?_
  refine Tm_chk (u_in (x := σ.1 1902 - 1) (by show uN (σ.1 1902 - 1) < sN σ 20; omega) (by show sN σ 20 ≤ _; omega)) ?_
  refine Tm_some ⟨Prod.ext ?_ rfl, es⟩
  show σ.2.2.1 20 (σ.1 1902 - 1).toNatClampNeg = _
  rw [u_cl (by omega), es]
/-- what a pin says -/
theorem mk_nr {v : Int32} (h : Rr v) : ¬ v = mkR := fun e => by
  rw [e] at h
  exact absurd h (by show ¬ 4026531840 ≤ uN mkR; decide)
theorem mk_nm {x v : Int32} (h : Rr v) : ¬ Mkd g M v x := fun z => by
  rcases z with z | z | z
  · exact mk_nr h z.1
  · rw [z.1] at h
    exact absurd h (by show ¬ 4026531840 ≤ uN mkT; decide)
  · rw [z] at h
    exact absurd h (by show ¬ 4026531840 ≤ uN mkC; decide)
theorem mk_w {x : Int32} (h : Mkd g M mkR x) : Gv g x ∧ NoW M x := by
  rcases h with z | z | z
  · exact z.2
  · exact absurd z.1 (by decide)
  · exact absurd z (by decide)
theorem mk_t {x : Int32} (h : Mkd g M mkT x) : Gv g x ∧ NoT M x := by
  rcases h with z | z | z
  · exact absurd z.1 (by decide)
  · exact z.2
  · exact absurd z (by decide)
theorem pin_v (st : Rwk g M K (σ.2.2.1 20) (uN (σ.1 1902))) {p : Nat} {v : Int32} (h : p < uN (σ.1 1902)) (k : K p = some v) (hr : Rr v) : σ.2.2.1 20 p = v := (((st p h).2.2 v k).resolve_right (mk_nm hr)).1
theorem PaM_up {pb m m' : Nat} (h : m ≤ m') : ∀ r : List Nat, PaM K pb m r → PaM K pb m' r
  | [], _ => trivial
  | e :: r, q => ⟨fun c i h1 h2 => ⟨by have z := (q.1 c i h1 h2).1; omega, (q.1 c i h1 h2).2⟩, fun c => PaM_up h r (q.2 c)⟩
theorem unr {n : Nat} (h : n < 268435456) : uN (rwN n) % 268435456 = n := by rw [rwN_u h]; omega
theorem c_endFunc (p : Pre c g l t K K2 K3 K4 B KB f0 u0 σ fs u d r pb nf nc sq) (hd : 1 ≤ d) (ku : tcK c u) (hu0 : ¬ tcK c u0) (q0 : Nat) : Tm (fun k => f_X3_endFunc k 0 L σ) (fun q => q.1.1 = 0 ∧ IO c B KB f0 u0 σ (mu σ q0) ((0, 0), q.2.1, (q.2.2.1 + 0, q.2.2.2 + 0))) := by
  have mi := p.1
  have ty := p.2.1
  obtain ⟨st1, st2, st3⟩ := mi.2.1.1
  have ts := TyS_sp ty
  obtain ⟨t1, t2, t3, t4, t5, t6, t7⟩ := ty
  cases fs with
  | nil =>
    exfalso
    have e := t2.2.1
    rw [e] at ku
    exact hu0 ku
  | cons w fs =>
    obtain ⟨⟨bk, rb, z2, z3, ⟨a0, a1, a2, a3⟩, ⟨b1, b2, b3⟩, s, f1, f2, f3, kk⟩, wt⟩ := t2
    have kf : tcK c u ∧ tcD c bk = some (w.2.1, w.2.2.1 + 1, w.2.2.2.1, rb) ∧ pb = w.2.2.2.2.1 + uN z3 % 268435456 ∧ uN z3 % 268435456 ≤ 180 ∧ nf = w.2.2.2.2.2.1 + 1 ∧ nc = w.2.2.2.2.2.2.1 ∧ sq = w.2.2.2.2.2.2.2 ∧ PaM K4 w.2.2.2.2.1 (uN z3 % 268435456) w.2.2.2.1 := by
      rcases kk with z | z
      · exact z
      · exact absurd ku z.1.1
    obtain ⟨-, k2, k3, k4, k5, k6, k7, k8⟩ := kf
    have sle := SL_le _ _ _ s
    have v0 := pin_v st3 (by omega) a0 (rwN_r b3)
    have v1 := pin_v st3 (by omega) a1 (rwN_r (by omega))
    have v2 := pin_v st3 (by omega) a2 b1
    have v3 := pin_v st3 (by omega) a3 b2
    generalize hfp : uN (σ.1 1901) = fp at *
    have u1 : uN (1 : Int32) = 1 := rfl
    have u2 : uN (2 : Int32) = 2 := rfl
    have u3 : uN (3 : Int32) = 3 := rfl
    have gh := (Ty_v p (q := (uN (σ.1 1902) - 1)) (by omega) (by omega))
    have n20 : sN σ 20 ≤ 2147483648 := by omega
    have b3 : ∀ (τ : CS) (L' : LV), τ.2 = σ.2 → (∀ j, ¬ (j = 1811 ∨ j = 1815 ∨ j = 1816 ∨ j = 1900 ∨ j = 1901 ∨ j = 1902) → τ.1 j = σ.1 j) → uN (τ.1 1900) = bk → uN (τ.1 1901) = w.1 → uN (τ.1 1815) = w.2.2.2.2.2.1 → uN (τ.1 1811) = w.2.2.2.2.1 → Gv g (L'.1 1) → uN (L'.1 2) = fp → Tm (fun k => f_X3_endFunc k 3 L' τ) (fun q => q.1.1 = 0 ∧ IO c B KB f0 u0 σ (mu σ q0) ((0, 0), q.2.1, (q.2.2.1 + 0, q.2.2.2 + 0))) := by
      intro τ L' τ2 τe e0 e1 e15 e11 gx l2
      refine Tm_suc (fun k => by rw [f_X3_endFunc]) ?_
      generalize hH : uI τ 1902 (L'.1 2) = ρ
      have ρe : ∀ j, ¬ j = 1902 → ρ.1 j = τ.1 j := fun j hj => by rw [← hH]; exact upd_other hj
      have ρ2 : ρ.2 = σ.2 := by rw [← hH]; exact τ2
      have ρsp : uN (ρ.1 1902) = fp := by rw [← hH]; exact l2
      have bb : B ≤ fp := by
        rcases p.2.2.2.2 with z | z
        · have y := (FC_f0 _ _ _ _ _ _ _ wt).1
          omega
        · rcases FC_B _ _ _ _ _ _ _ wt with e | e
          · rw [e.1] at sle
            rw [e.2] at f1
            omega
          · omega
      have mt := MIn_fl (σ' := ρ) mi ρ2 (fun j hj => (ρe j (by omega)).trans (τe j (by omega))) (by rw [ρsp]; exact bb) (by rw [ρsp]; omega)
      have ty' : TyS c K K4 f0 u0 ρ fs w.2.1 w.2.2.1 w.2.2.2.1 w.2.2.2.2.1 w.2.2.2.2.2.1 w.2.2.2.2.2.2.1 w.2.2.2.2.2.2.2 := by
        unfold TyS
        rw [ρe 1901 (by decide), e1, ρsp, ρe 1815 (by decide), e15, ρe 1811 (by decide), e11, ρe 1908 (by decide), τe 1908 (by decide), ← k6]
        refine ⟨s, by rw [k6]; exact wt, f1, ⟨rfl, by omega⟩, rfl, t6, t7.1, f3.2, PaM_up k4 _ k8⟩
      have pr : Pre c g l t K K2 K3 K4 B KB f0 u0 ρ fs w.2.1 w.2.2.1 w.2.2.2.1 w.2.2.2.2.1 w.2.2.2.2.2.1 w.2.2.2.2.2.2.1 w.2.2.2.2.2.2.2 := ⟨mt.1, ty', by rw [ρe 1905 (by decide), τe 1905 (by decide)]; exact p.2.2.1, by rw [ρe 1812 (by decide), τe 1812 (by decide)]; exact p.2.2.2.1, p.2.2.2.2⟩
      refine Tm_oxc (giX pr mt.2 (by rw [ρ2]) ((ρe 1905 (by decide)).trans (τe 1905 (by decide))) ((ρe 1814 (by decide)).trans (τe 1814 (by decide))) gx ?_ q0) (fun q z => z.1) (fun q z => ?_)
      · rw [ρe 1900 (by decide), e0]
        exact ⟨rb, NxD_r k2 (Nat.le_trans f1 (bt_m _ 1 _)), by omega, Nat.le_trans f1 (bt_m _ 1 _)⟩
      · exact Tm_some ⟨rfl, z.2⟩
    have b2' : ∀ (τ : CS) (L' : LV), τ.2 = σ.2 → (∀ j, ¬ (j = 1811 ∨ j = 1815 ∨ j = 1816 ∨ j = 1900 ∨ j = 1901 ∨ j = 1902) → τ.1 j = σ.1 j) → uN (L'.1 100) = bk → uN (τ.1 1815) = w.2.2.2.2.2.1 → uN (τ.1 1811) = w.2.2.2.2.1 → Gv g (L'.1 1) → uN (L'.1 2) = fp → Tm (fun k => f_X3_endFunc k 2 L' τ) (fun q => q.1.1 = 0 ∧ IO c B KB f0 u0 σ (mu σ q0) ((0, 0), q.2.1, (q.2.2.1 + 0, q.2.2.2 + 0))) := by
      intro τ L' τ2 τe e0 e15 e11 gx l2
      have ei : uN (L'.1 2 + 1) = fp + 1 := by rw [u_inc (by omega), l2]
      have es : sN τ 20 = sN σ 20 := by show τ.2.2.2.2.1 20 = _; rw [τ2]
      refine Tm_suc (fun k => by rw [f_X3_endFunc]) ?_
      refine Tm_chk (u_in (x := L'.1 2 + 1) (by show _ < sN τ 20; rw [es]; omega) (by show sN τ 20 ≤ _; rw [es]; exact n20)) ?_
      refine Tm_op c_unraw (fun q e => ?_)
      rw [e]
      refine b3 _ _ τ2 (fun j hj => ?_) e0 ?_ e15 e11 gx l2
      · show upd (upd τ.1 1900 _) 1901 _ j = _
        rw [upd_other (by omega), upd_other (by omega)]
        exact τe j (by omega)
      · show uN (nI (uN (τ.2.2.1 20 (L'.1 2 + 1).toNatClampNeg) % 268435456)) = _
        rw [u_cl (by omega), ei, τ2, v1, u_n (by omega), unr (by omega)]
    have b1' : ∀ (τ : CS) (L' : LV), τ.2 = σ.2 → (∀ j, ¬ (j = 1815 ∨ j = 1816 ∨ j = 1902) → τ.1 j = σ.1 j) → uN (τ.1 1815) = w.2.2.2.2.2.1 → Gv g (L'.1 1) → uN (L'.1 2) = fp → Tm (fun k => f_X3_endFunc k 1 L' τ) (fun q => q.1.1 = 0 ∧ IO c B KB f0 u0 σ (mu σ q0) ((0, 0), q.2.1, (q.2.2.1 + 0, q.2.2.2 + 0))) := by
      intro τ L' τ2 τe e15 gx l2
      have ei : uN (L'.1 2 + 3) = fp + 3 := by rw [u_add (by omega), l2, u3]
      have es : sN τ 20 = sN σ 20 := by show τ.2.2.2.2.1 20 = _; rw [τ2]
      refine Tm_suc (fun k => by rw [f_X3_endFunc]) ?_
      refine Tm_chk (u_in (x := L'.1 2 + 3) (by rw [es]; omega) (by rw [es]; exact n20)) ?_
      refine Tm_op c_unraw (fun q e => ?_)
      rw [e]
      refine Tm_chk (u_in (x := L'.1 2) (by show _ < sN τ 20; rw [es]; omega) (by show sN τ 20 ≤ _; rw [es]; exact n20)) ?_
      refine Tm_op c_unraw (fun q2 e2 => ?_)
      rw [e2]
      refine b2' _ _ τ2 (fun j hj => ?_) ?_ ?_ ?_ gx l2
      · show upd τ.1 1811 _ j = _
        rw [upd_other (by omega)]
        exact τe j (by omega)
      · show uN (nI (uN (τ.2.2.1 20 (L'.1 2).toNatClampNeg) % 268435456)) = _
        rw [u_cl (by omega), l2, τ2, v0, u_n (by omega), unr (by omega)]
      · exact e15
      · show uN (τ.1 1811 - nI (uN (τ.2.2.1 20 (L'.1 2 + 3).toNatClampNeg) % 268435456)) = _
        have ev : uN (nI (uN (τ.2.2.1 20 (L'.1 2 + 3).toNatClampNeg) % 268435456)) = uN z3 % 268435456 := by rw [u_cl (by omega), ei, τ2, v3, u_n (by omega)]
        rw [u_sub (by rw [ev, τe 1811 (by decide)]; omega), ev, τe 1811 (by decide)]
        omega
    have ei : uN (σ.1 1901 + 2) = fp + 2 := by rw [u_add (by omega), hfp, u2]
    refine Tm_suc (fun k => by rw [f_X3_endFunc]) ?_
    refine Tm_op (c_pop (by omega) st1 st2.2) (fun q e => ?_)
    rw [e.1]
    refine Tm_chk (u_in (x := σ.1 1901 + 2) (by show _ < sN σ 20; omega) (by show sN σ 20 ≤ _; exact n20)) ?_
    refine Tm_op c_unraw (fun q2 e2 => ?_)
    rw [e2]
    refine b1' _ _ rfl (fun j hj => ?_) ?_ gh hfp
    · show upd (upd (upd σ.1 1902 _) 1815 _) 1816 _ j = _
      rw [upd_other (by omega), upd_other (by omega), upd_other (by omega)]
    · show uN (σ.1 1815 - 1) = _
      rw [u_sub (by omega), u1, t4.1]; omega
end CSX

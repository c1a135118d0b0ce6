/-! The class: instructions that make values. -/
section CSV
variable {g g' g2 : Nat → Prop} {l l' l2 : List Nat} {t t' t2 : Nat} {σ σ' σ2 : CS} {L : LV} {x y i : Int32} {M M' U U' : Nat → Int32} {K K' K2 K3 K4 KB : Nat → Option Int32} {c : Ct} {B f0 u0 : Nat} {fs : List FrT} {u d : Nat} {r : List Nat} {pb nf nc sq rk : Nat}
/-- a value is given behind steps that came first -/
theorem giX (p : Pre c g' l' t' K K2 K3 K4 B KB f0 u0 σ' fs u d r pb nf nc sq) (md : Md σ σ') (es : σ'.2.2.2.2.1 = σ.2.2.2.2.1) (e5 : σ'.1 1905 = σ.1 1905) (e4 : σ'.1 1814 = σ.1 1814) (gx : Gv g' x) (nx : NxS c (uN (σ'.1 1900)) u (d + 1) r) (q0 : Nat) : Tm (fun k => f_X3_give k 0 (lI lZ 1 x) σ') (fun q => q.1.1 = 0 ∧ IO c B KB f0 u0 σ (mu σ q0) ((0, 0), q.2.1, (q.2.2.1 + 0, q.2.2.2 + 0))) := by
  have st' := p.1.2.1.1
  have ts' := TyS_sp p.2.1
  refine Tm_mono (c_give p.1.1 gx (by omega) st'.1 st'.2.1 p.2.2.1) (fun q z => ⟨by rw [z.1], ?_⟩)
  rw [← mu_e e5 e4]
  refine IO_b md es (gi_fin (σ' := q.2.1) p gx z rfl (fun _ _ => rfl) ?_ _)
  rw [z.2.2.1.1 1900 (by decide)]
  exact nx
/-- a value takes the top's place behind steps that came first -/
theorem reX (p : Pre c g' l' t' K K2 K3 K4 B KB f0 u0 σ' fs u d r pb nf nc sq) (hd : 1 ≤ d) (md : Md σ σ') (es : σ'.2.2.2.2.1 = σ.2.2.2.2.1) (e5 : σ'.1 1905 = σ.1 1905) (e4 : σ'.1 1814 = σ.1 1814) (gx : Gv g' x) (nx : NxS c (uN (σ'.1 1900)) u d r) (q0 : Nat) : Tm (fun k => y_X3_replace k 0 (lI lZ 1 x) σ') (fun q => IO c B KB f0 u0 σ (mu σ q0) ((0, 0), q.2, (0, 0))) := by
  have st' := p.1.2.1.1
  have ts' := TyS_sp p.2.1
  refine Tm_mono (c_replace p.1.1 gx (by omega) st'.1 st'.2.1.2 p.2.2.1) (fun q z => ?_)
  rw [← mu_e e5 e4]
  refine IO_b md es (re_fin (σ' := q.2) p hd gx z rfl (fun _ _ => rfl) ?_ _)
  rw [z.1.1 1900 (by decide)]
  exact nx
theorem Pre_L (p : Pre c g l t K K2 K3 K4 B KB f0 u0 σ fs u d r pb nf nc sq) (v : Int64) : Pre c g l t K K2 K3 K4 B KB f0 u0 (uL σ 1916 v) fs u d r pb nf nc sq := by
  obtain ⟨mi, ty, w, h0, bo⟩ := p
  have md : Md σ (uL σ 1916 v) := ⟨fun _ _ => rfl, fun j hj => if_neg hj, fun _ _ => rfl, ⟨fun _ _ => rfl, Nat.le_refl _⟩, rfl, rfl⟩
  have vi := VI_20 (σ' := uL σ 1916 v) mi.2.1 md rfl ⟨fun _ z => z, fun _ _ => rfl⟩ (K' := K) mi.2.1.1.1 mi.2.1.1.2.1 mi.2.1.1.2.2
  exact ⟨MIn_d mi md (HQ_fr mi.1 rfl rfl rfl) vi mi.2.2.2.2.2.1 mi.2.2.2.2.2.2.1.2, ty, w, h0, bo⟩
theorem Md_L (σ : CS) (v : Int64) : Md σ (uL σ 1916 v) := ⟨fun _ _ => rfl, fun j hj => if_neg hj, fun _ _ => rfl, ⟨fun _ _ => rfl, Nat.le_refl _⟩, rfl, rfl⟩
theorem c_nextDraw (h1 : 1 ≤ uN (L.1 1)) (h2 : uN (L.1 1) < 2147483648) : Tm (fun k => y_X3_nextDraw k 0 L σ) (fun q => (∃ v, q.2 = uL σ 1916 v) ∧ uN q.1 < uN (L.1 1)) := by
  have e := u_of (L.1 1)
  refine Tm_suc (fun k => by rw [y_X3_nextDraw]) ?_
  refine Tm_no (by
    intro z
    rw [i_le, u_int (L.1 1), if_pos h2] at z
    have z' : (uN (L.1 1) : Int) ≤ 0 := z
    omega) ?_
  refine Tm_no (by
    intro z
    rw [e] at z
    have z2 := congrArg Int64.toInt z
    rw [w_int h2] at z2
    have e0 : (0 : Int64).toInt = 0 := rfl
    rw [e0] at z2
    omega) ?_
  refine Tm_suc (fun k => by rw [y_X3_nextDraw]) ?_
  refine Tm_some ⟨⟨_, rfl⟩, ?_⟩
  show uN _ < uN (L.1 1)
  obtain ⟨m, m1, m2⟩ := dw_up ((uL σ 1916 (σ.2.1 1916 * 6364136223846793005 + 1442695040888963407)).2.1 1916).toUInt64
  obtain ⟨i, i1, i2⟩ := dw_mod m2 m1 h1 h2
  rw [← e] at i2
  show uN (Int64.toInt32 _) < uN (L.1 1)
  rw [i2, u_n (by omega)]
  exact i1
/-- drawn -/
def DrO (g : Nat → Prop) (t : Nat) (σ : CS) (q : Int32 × CS) : Prop := ∃ σ1, (σ1 = σ ∨ ∃ v, σ1 = uL σ 1916 v) ∧ Va g t σ1 q
theorem c_drawn (h : HQ g l t σ) (hx : Gv g (L.1 1)) : Tm (fun k => y_X3_drawn k 0 L σ) (DrO g t σ) := by
  have kl := kdC_lt (σ.2.2.1 3) (L.1 1)
  have ll := lnC_lt (σ.2.2.1 3) (L.1 1)
  have hL : ∀ v, HQ g l t (uL σ 1916 v) := fun v => HQ_fr h rfl rfl rfl
  have b3 : ∀ (L' : LV) (σ1 : CS), (σ1 = σ ∨ ∃ v, σ1 = uL σ 1916 v) → Gv g (L'.1 100) → Tm (fun k => y_X3_drawn k 3 L' σ1) (DrO g t σ) := by
    intro L' σ1 e gx
    refine Tm_suc (fun k => by rw [y_X3_drawn]) ?_
    refine Tm_some ⟨σ1, e, ?_⟩
    have h1 : HQ g l t σ1 := by
      rcases e with e | ⟨v, e⟩
      · rw [e]; exact h
      · rw [e]; exact hL v
    exact Va_g h1 (AXf_r σ1) gx
  have er : ∀ z : Int32, Rw z → DrO g t σ (z, σ) := fun z hz => ⟨σ, Or.inl rfl, Va_e h (AXf_r σ) hz⟩
  have b8 : ∀ L' : LV, Tm (fun k => y_X3_drawn k 8 L' σ) (DrO g t σ) := by
    intro L'
    refine Tm_suc (fun k => by rw [y_X3_drawn]) ?_
    exact Tm_some (er _ ePlace)
  have b6 : ∀ L' : LV, L'.1 1 = L.1 1 → Tm (fun k => y_X3_drawn k 6 L' σ) (DrO g t σ) := by
    intro L' a1
    refine Tm_suc (fun k => by rw [y_X3_drawn]) ?_
    refine Tm_ite (fun _ => b8 _) (fun c1 => ?_)
    refine Tm_oc (c_isBelow h (by show Gv g (L'.1 1); rw [a1]; exact hx)) (fun q z => ?_)
    have e : q.2 = σ := z.1
    rw [e]
    refine Tm_ite (fun _ => ?_) (fun _ => b8 _)
    have n1 : 1 ≤ uN (L'.1 100) ∧ uN (L'.1 100) < 2147483648 := by
      rw [i_lt, u_int (L'.1 100)] at c1
      have c2 : ¬ (if uN (L'.1 100) < 2147483648 then (uN (L'.1 100) : Int) else (uN (L'.1 100) : Int) - 4294967296) < 1 := c1
      have := u_lt (L'.1 100)
      split at c2 <;> omega
    refine Tm_suc (fun k => by rw [y_X3_drawn]) ?_
    refine Tm_oc (c_nextDraw n1.1 n1.2) (fun q2 z2 => ?_)
    obtain ⟨⟨v, e2⟩, _⟩ := z2
    rw [e2]
    exact Tm_oc (c_of (hL v)) (fun q3 z3 => Tm_some ⟨_, Or.inr ⟨v, rfl⟩, Va_V z3⟩)
  refine Tm_suc (fun k => by rw [y_X3_drawn]) ?_
  refine Tm_ocE (c_kind h hx) ?_
  refine Tm_ite (fun c4 => ?_) (fun c4 => ?_)
  · refine Tm_suc (fun k => by rw [y_X3_drawn]) ?_
    refine Tm_ite (fun c2 => ?_) (fun _ => Tm_some (er _ eKind))
    have k2 : kdC (σ.2.2.1 3) (L.1 1) = 2 := kd_n (n := 2) (by decide) c2
    refine Tm_suc (fun k => by rw [y_X3_drawn]) ?_
    refine Tm_ite (fun cc => ?_) (fun _ => ?_)
    · have cc' : 0 ≤ L.1 1 := cc
      rw [u_nn] at cc'
      refine Tm_suc (fun k => by rw [y_X3_drawn]) ?_
      refine Tm_ocE (c_length h hx) ?_
      refine Tm_ite (fun c1 => ?_) (fun _ => ?_)
      · have c1' : nI (lnC (σ.2.2.1 3) (L.1 1)) = 1 := c1
        rw [u_eq, u_n (by omega)] at c1'
        have u1 : uN (1 : Int32) = 1 := rfl
        have w1 : uN (1 : Int32) ≤ hdW (uN (σ.2.2.1 3 (uN (L.1 1)))) := by
          unfold kdC at k2
          unfold lnC at c1'
          rw [if_pos cc'] at k2 c1'
          unfold hdK at k2
          unfold hdW
          rw [if_neg (by omega)]
          omega
        refine Tm_chk (in_gi (y := 1) h hx cc' w1).1 ?_
        exact b6 _ rfl
      · refine Tm_suc (fun k => by rw [y_X3_drawn]) ?_
        exact b6 _ rfl
    · refine Tm_oc c_number (fun q z => ?_)
      have e : q.2 = σ := z
      rw [e]
      exact b6 _ rfl
  · have c4' : ¬ nI (kdC (σ.2.2.1 3) (L.1 1)) < 4 := c4
    have u4 : uN (4 : Int32) = 4 := rfl
    rw [u_ltn (by rw [u_n (by omega)]; omega) (by decide), u_n (by omega), u4] at c4'
    refine Tm_ocE (c_length h hx) ?_
    refine Tm_ite (fun _ => b3 _ _ (Or.inl rfl) (Gv_om g)) (fun c0 => ?_)
    have c0' : ¬ nI (lnC (σ.2.2.1 3) (L.1 1)) = 0 := c0
    rw [u_eq, u_n (by omega)] at c0'
    have u0 : uN (0 : Int32) = 0 := rfl
    rw [u0] at c0'
    have el : uN (nI (lnC (σ.2.2.1 3) (L.1 1))) = lnC (σ.2.2.1 3) (L.1 1) := u_n (by omega)
    refine Tm_suc (fun k => by rw [y_X3_drawn]) ?_
    refine Tm_oc (c_nextDraw (by show 1 ≤ uN (nI (lnC (σ.2.2.1 3) (L.1 1))); omega) (by show uN (nI (lnC (σ.2.2.1 3) (L.1 1))) < _; omega)) (fun q2 z2 => ?_)
    obtain ⟨⟨v, e2⟩, z3⟩ := z2
    have z3' : uN q2.1 < uN (nI (lnC (σ.2.2.1 3) (L.1 1))) := z3
    rw [e2]
    refine Tm_oc (c_taken (hL v) hx ?_) (fun q3 z4 => ?_)
    · show (kdC (σ.2.2.1 3) (L.1 1) = 4 ∧ uN q2.1 < lnC (σ.2.2.1 3) (L.1 1)) ∨ 5 ≤ kdC (σ.2.2.1 3) (L.1 1)
      rcases Nat.lt_or_ge (kdC (σ.2.2.1 3) (L.1 1)) 5 with w | w
      · exact Or.inl ⟨by omega, by omega⟩
      · exact Or.inr w
    · have e3 : q3.2 = uL σ 1916 v := z4.1
      rw [e3]
      exact b3 _ _ (Or.inr ⟨v, rfl⟩) z4.2
theorem MFr_i (σ : CS) {j : Nat} (hj : (1800 ≤ j ∧ j < 1820) ∨ (1900 ≤ j ∧ j < 1917)) (x : Int32) : MFr σ (uI σ j x) := ⟨fun i hi => upd_other (by omega), fun _ _ => rfl, fun _ _ => ⟨rfl, rfl⟩, rfl, rfl⟩
theorem EvF_i (σ : CS) {j : Nat} (hj : j < 1903 ∨ 1914 ≤ j ∨ j = 1905) (x : Int32) : EvF σ (uI σ j x) := fun i h1 h2 h3 => upd_other (by omega)
theorem Pre_at (p : Pre c g l t K K2 K3 K4 B KB f0 u0 σ fs u d r pb nf nc sq) {j : Nat} (hj : j = 1914 ∨ j = 1915) (hx : (j = 1914 → uN x ≤ 1000000) ∧ (j = 1915 → uN x ≤ 2000000000)) : Pre c g l t K K2 K3 K4 B KB f0 u0 (uI σ j x) fs u d r pb nf nc sq := by
  obtain ⟨mi, ty, w, h0, bo⟩ := p
  have e : ∀ i, ¬ i = j → (uI σ j x).1 i = σ.1 i := fun i hi => upd_other hi
  obtain ⟨m1, m2, m3, m4, m5, m6, m7, m8, m9, m10, m11⟩ := mi
  have us : usI (uI σ j x) = usI σ := by
    unfold usI
    show (if (uI σ j x).1 2405 = 0 then (uI σ j x).1 2403 else (uI σ j x).1 2403 + (uI σ j x).1 (100 * (28 + sPi σ 8) + 2) + (uI σ j x).1 (100 * (28 + sPi σ 8) + 13)) = _
    rw [e 2405 (by omega), e 2403 (by omega), e (100 * (28 + sPi σ 8) + 2) (by omega), e (100 * (28 + sPi σ 8) + 13) (by omega)]
  have v : VI g K K2 K3 K4 (uI σ j x) := by
    obtain ⟨v1, v2, v3, v4, v5, v6, v7, v8⟩ := m2
    refine ⟨?_, v2, ?_, v4, v5, by rw [us]; exact v6, v7, by rw [us]; exact v8⟩
    · rw [e 1902 (by omega)]; exact v1
    · rw [e 1913 (by omega)]; exact v3
  have sv : SVK c K3 (uI σ j x) := by
    have ef : ∀ p i, (uI σ j x).1 (100 * (28 + p) + i) = σ.1 (100 * (28 + p) + i) := fun p i => e _ (by omega)
    have sr : ∀ p s, SvR c K3 σ p s → SvR c K3 (uI σ j x) p s := by
      intro p s h
      unfold SvR
      rw [ef p 0, ef p 1, ef p 2, ef p 8, ef p 7, ef p 5, ef p 13, ef p 12, ef p 14, ef p 15]
      exact h
    obtain ⟨h1, h2, h3, h4, h5⟩ := m5
    refine ⟨⟨by rw [e 2404 (by omega), e 2403 (by omega)]; exact h1.1, SVB_e h1.1.1 h2 (fun i _ _ => e i (by omega)) (fun _ => rfl) h1.2⟩, h2, h3, fun i hi => ?_, fun hn => ?_⟩
    · rw [e 2404 (by omega)] at hi
      have z := h4 i hi
      rw [ef, ef, e 2403 (by omega), e 2404 (by omega)]
      exact ⟨sr _ _ z.1, z.2⟩
    · rw [e 2405 (by omega)] at hn
      have z := h5 hn
      rw [ef, ef, e 2403 (by omega)]
      exact ⟨sr _ _ z.1, z.2⟩
  refine ⟨⟨HQ_fr m1 (e 1 (by omega)) rfl rfl, v, m3, ?_, sv, m6, ?_, ?_, ?_, ?_, ?_⟩, TyS_k ty ⟨e 1901 (by omega), e 1815 (by omega), e 1811 (by omega), e 1908 (by omega)⟩ (by rw [e 1902 (by omega)]; exact ty.1) (fun _ _ => rfl) ty.2.2.1 ty.2.2.2.2.2.2.2.2, by rw [e 1905 (by omega)]; exact w, by rw [e 1812 (by omega)]; exact h0, bo⟩
  · rw [e 1912 (by omega), e 1913 (by omega)]; exact m4
  · rw [e 1902 (by omega)]; exact m7
  · rw [e 1903 (by omega), e 1814 (by omega)]; exact m8
  · rw [e 1912 (by omega)]; exact m9
  · rcases hj with z | z
    · subst z
      exact hx.1 rfl
    · rw [e 1914 (by omega)]; exact m10
  · rcases hj with z | z
    · rw [e 1915 (by omega)]; exact m11
    · subst z
      exact hx.2 rfl
theorem c_newAtom (p : Pre c g l t K K2 K3 K4 B KB f0 u0 σ fs u d r pb nf nc sq) (nx : NxS c (uN (σ.1 1900)) u (d + 1) r) (q0 : Nat) : Tm (fun k => f_X3_newAtom k 0 L σ) (fun q => q.1.1 = 0 ∧ IO c B KB f0 u0 σ (mu σ q0) ((0, 0), q.2.1, (q.2.2.1 + 0, q.2.2.2 + 0))) := by
  have m10 := p.1.2.2.2.2.2.2.2.2.2.1
  refine Tm_suc (fun k => by rw [f_X3_newAtom]) ?_
  refine Tm_ite (fun c1 => ?_) (fun _ => ?_)
  · have e6 : uN (1000000 : Int32) = 1000000 := rfl
    rw [u_ltn (by omega) (by decide), e6] at c1
    have ei : uN (σ.1 1914 + 1) = uN (σ.1 1914) + 1 := u_inc (by omega)
    have pa := Pre_at (x := σ.1 1914 + 1) p (Or.inl rfl) ⟨fun _ => by omega, fun z => absurd z (by decide)⟩
    have st' := pa.1.2.1.1
    have ts' := TyS_sp pa.2.1
    have gx : Gv g (-1342177280 ||| (σ.1 1914 + 1)) := by
      left
      rw [u_orB (k := 28) (a := 11) (by omega) (by decide)]
      have e0 : uN (-1342177280) = 2952790016 := rfl
      omega
    refine Tm_suc (fun k => by rw [f_X3_newAtom]) ?_
    refine Tm_oxc (c_give pa.1.1 gx (by omega) st'.1 st'.2.1 pa.2.2.1) (fun q z => by rw [z.1]) (fun q z => ?_)
    refine Tm_some ⟨rfl, ?_⟩
    rw [← mu_e (σ := σ) (σ' := uI σ 1914 (σ.1 1914 + 1)) rfl rfl]
    refine IO_c (MFr_i σ (by decide) _) (EvF_i σ (by decide) _) rfl (gi_fin (σ' := q.2.1) pa gx z rfl (fun _ _ => rfl) ?_ q0)
    rw [z.2.2.1.1 1900 (by decide)]
    exact nx
  · refine Tm_op c_fail (fun q e => ?_)
    rw [e]
    refine Tm_some ⟨rfl, ?_⟩
    exact ha_fin p rfl (fun j hj => by
      show upd (upd σ.1 1813 _) 1812 1 j = _
      rw [upd_other (by omega), upd_other (by omega)]) rfl (f13 (by decide))
def Ok3 (c : Ct) (pc u d : Nat) (r : List Nat) (rk op : Nat) (num : Int32) : Prop := (op = 48 ∨ op = 49 → ∃ d', d = d' + uN num ∧ tcF c u ≤ bt d' r ∧ NxS c (pc + 1) u (d' + 1) r) ∧ (op = 50 ∨ op = 51 → ∃ d', d = d' + 2 ∧ NxS c (pc + 1) u (d' + 1) r) ∧ (op = 52 ∨ op = 53 → ∃ d', d = d' + 3 ∧ NxS c (pc + 1) u (d' + 1) r) ∧ (op = 54 → NxS c (pc + 1) u (d + 1) r) ∧ (55 ≤ op → 1 ≤ d ∧ NxS c (pc + 1) u d r)
theorem c_makeValue (p : Pre c g l t K K2 K3 K4 B KB f0 u0 σ fs u d r pb nf nc sq) {pc op : Nat} (ho : op < 256) (h48 : 48 ≤ op) (h1 : L.1 1 = nI op) (hp : pc + 1 ≤ tcN c) (hN : tcN c ≤ 36864) (hpc : σ.1 1900 = nI (pc + 1)) (ok : Ok3 c pc u d r rk op (L.1 2)) : Tm (fun k => f_X3_makeValue k 0 L σ) (IO c B KB f0 u0 σ (mu σ (qv nf sq rk))) := by
  have mi := p.1
  have ty := p.2.1
  have w := p.2.2.1
  obtain ⟨st1, st2, st3⟩ := mi.2.1.1
  have ts := TyS_sp ty
  have b7 : ∀ (σ' : CS) (L' : LV) (Q : RS → Prop), Q ((0, 0), σ', (0, 0)) → Tm (fun k => f_X3_makeValue k 7 L' σ') Q := by
    intro σ' L' Q h
    refine Tm_suc (fun k => by rw [f_X3_makeValue]) ?_
    exact Tm_some h
  have u1 : uN (1 : Int32) = 1 := rfl
  have u2 : uN (2 : Int32) = 2 := rfl
  have epc : uN (nI (pc + 1)) = pc + 1 := u_n (by omega)
  obtain ⟨o48, o50, o52, o54, o55⟩ := ok
  -- values given and taking the top's place
  have gi : ∀ (g' : Nat → Prop) (l' : List Nat) (t' : Nat) (σ' : CS) (x : Int32) (d' : Nat) (L' : LV), Pre c g' l' t' K K2 K3 K4 B KB f0 u0 σ' fs u d' r pb nf nc sq → Md σ σ' → σ'.2.2.2.2.1 = σ.2.2.2.2.1 → σ'.1 1905 = σ.1 1905 → σ'.1 1900 = σ.1 1900 → Gv g' x → NxS c (pc + 1) u (d' + 1) r → Tm (fun k => ox (f_X3_give k 0 (lI lZ 1 x) σ') (fun r2 => f_X3_makeValue k 7 L' r2.2.1)) (IO c B KB f0 u0 σ (mu σ (qv nf sq rk))) := by
    intro g' l' t' σ' x d' L' p' md es e5 e9 gx nx
    refine Tm_oxc (giX p' md es e5 (md.1 1814 (by decide)) gx (by rw [e9, hpc, epc]; exact nx) (qv nf sq rk)) (fun q z => z.1) (fun q z => ?_)
    exact b7 _ _ _ z.2
  have re : ∀ (g' : Nat → Prop) (l' : List Nat) (t' : Nat) (σ' : CS) (x : Int32) (d' : Nat) (L' : LV), Pre c g' l' t' K K2 K3 K4 B KB f0 u0 σ' fs u d' r pb nf nc sq → 1 ≤ d' → Md σ σ' → σ'.2.2.2.2.1 = σ.2.2.2.2.1 → σ'.1 1905 = σ.1 1905 → σ'.1 1900 = σ.1 1900 → Gv g' x → NxS c (pc + 1) u d' r → Tm (fun k => Jvm.Pilot.CSetHouseLaw_law_r7351_1de140.op (y_X3_replace k 0 (lI lZ 1 x) σ') (fun r2 => f_X3_makeValue k 7 L' r2.2)) (IO c B KB f0 u0 σ (mu σ (qv nf sq rk))) := by
    intro g' l' t' σ' x d' L' p' hd md es e5 e9 gx nx
    refine Tm_op (reX p' hd md es e5 (md.1 1814 (by decide)) gx (by rw [e9, hpc, epc]; exact nx) (qv nf sq rk)) (fun q z => ?_)
    exact b7 _ _ _ z
  refine Tm_suc (fun k => by rw [f_X3_makeValue]) ?_
  rw [h1]
  refine Tm_ite (fun q => ?_) (fun q1 => Tm_ite (fun q => ?_) (fun q2 => ?_))
  · obtain ⟨d', k1, k2, k3⟩ := o48 (Or.inl ((op_n ho (by decide)).1 q))
    obtain ⟨pd, es⟩ := Pre_dr p k1 rfl k2
    have es' : uN ((uI σ 1902 (σ.1 1902 - L.1 2)).1 1902) = uN (σ.1 1902) - uN (L.1 2) := es
    refine Tm_suc (fun k => by rw [f_X3_makeValue]) ?_
    refine Tm_op (c_setOf (s := uN (σ.1 1902) - uN (L.1 2)) (n := uN (L.1 2)) pd.1.1 (by show sN σ 20 ≤ _; omega) es rfl (by show _ ≤ sN σ 20; omega) (fun j hj => (Ty_v p (by omega) (by omega)))) (fun q3 z => ?_)
    obtain ⟨f, hf, g', l', t', ga, v⟩ := z
    have pf := Pre_f (f := f) pd (fun j hj => hf j (Or.inl (by rw [es'] at hj; exact hj)))
    have pg := Pre_Ga pf ga
    refine gi g' l' t' q3.2 q3.1 d' L pg (Md_t (Md_i σ (by decide) _) (Md_t (Md_F _ (by decide) f) (Md_S (Sm_A ga.2.2.2.2)))) (by rw [ga.2.2.2.2.2.2.2]; rfl) (ga.2.2.2.2.1 1905 (by decide)) (ga.2.2.2.2.1 1900 (by decide)) (v.elim id Gv_rw) k3
  · obtain ⟨d', k1, k2, k3⟩ := o48 (Or.inr ((op_n ho (by decide)).1 q))
    obtain ⟨pd, es⟩ := Pre_dr p k1 rfl k2
    have es' : uN ((uI σ 1902 (σ.1 1902 - L.1 2)).1 1902) = uN (σ.1 1902) - uN (L.1 2) := es
    refine Tm_suc (fun k => by rw [f_X3_makeValue]) ?_
    refine Tm_op (c_makeTuple20 pd.1.1 (by show sN σ 20 ≤ _; omega) (fun _ _ => ?_)) (fun q3 z => ?_)
    · show uN (σ.1 1902 - L.1 2) + uN (L.1 2) ≤ sN σ 20 ∧ ∀ j, j < uN (L.1 2) → Gv g (σ.2.2.1 20 (uN (σ.1 1902 - L.1 2) + j))
      rw [es]
      exact ⟨by omega, fun j hj => (Ty_v p (by omega) (by omega))⟩
    · obtain ⟨g', l', t', ga, v⟩ := Va_M pd.1.1 (AXf_r _) z
      have pg := Pre_Ga pd ga
      exact gi g' l' t' q3.2 q3.1 d' L pg (Md_t (Md_i σ (by decide) _) (Md_S (Sm_A ga.2.2.2.2))) (by rw [ga.2.2.2.2.2.2.2]; rfl) (ga.2.2.2.2.1 1905 (by decide)) (ga.2.2.2.2.1 1900 (by decide)) (v.elim id Gv_rw) k3
  -- progressions
  have b9 : ∀ (L' : LV) (σ' : CS) (d' : Nat), Pre c g l t K K2 K3 K4 B KB f0 u0 σ' fs u d' r pb nf nc sq → 1 ≤ d' → Md σ σ' → σ'.2.2.2.2.1 = σ.2.2.2.2.1 → σ'.1 1905 = σ.1 1905 → σ'.1 1900 = σ.1 1900 → NxS c (pc + 1) u d' r → Gv g (L'.1 103) → Gv g (L'.1 102) → Gv g (L'.1 101) → Tm (fun k => f_X3_makeValue k 9 L' σ') (IO c B KB f0 u0 σ (mu σ (qv nf sq rk))) := by
    intro L' σ' d' p' hd md es e5 e9 nx g3 g2' g1
    refine Tm_suc (fun k => by rw [f_X3_makeValue]) ?_
    refine Tm_op (c_progression p'.1.1 g3 g2' g1) (fun q3 z => ?_)
    obtain ⟨g', l', t', ga, v⟩ := z
    exact re g' l' t' q3.2 q3.1 d' L' (Pre_Ga p' ga) hd (Md_t md (Md_S (Sm_A ga.2.2.2.2))) (by rw [ga.2.2.2.2.2.2.2]; exact es) ((ga.2.2.2.2.1 1905 (by decide)).trans e5) ((ga.2.2.2.2.1 1900 (by decide)).trans e9) (v.elim id Gv_rw) nx
  have b11 : ∀ (L' : LV) (g' : Nat → Prop) (l' : List Nat) (t' : Nat) (σ' : CS) (d' : Nat), Pre c g' l' t' K K2 K3 K4 B KB f0 u0 σ' fs u d' r pb nf nc sq → 1 ≤ d' → Md σ σ' → σ'.2.2.2.2.1 = σ.2.2.2.2.1 → σ'.1 1905 = σ.1 1905 → σ'.1 1900 = σ.1 1900 → NxS c (pc + 1) u d' r → Gv g' (L'.1 100) → Tm (fun k => f_X3_makeValue k 11 L' σ') (IO c B KB f0 u0 σ (mu σ (qv nf sq rk))) := by
    intro L' g' l' t' σ' d' p' hd md es e5 e9 nx gx
    refine Tm_suc (fun k => by rw [f_X3_makeValue]) ?_
    exact re g' l' t' σ' _ d' L' p' hd md es e5 e9 gx nx
  have b13 : ∀ (L' : LV) (σ' : CS) (d' : Nat), Pre c g l t K K2 K3 K4 B KB f0 u0 σ' fs u d' r pb nf nc sq → 1 ≤ d' → Md σ σ' → σ'.2.2.2.2.1 = σ.2.2.2.2.1 → σ'.1 1905 = σ.1 1905 → σ'.1 1900 = σ.1 1900 → NxS c (pc + 1) u d' r → Gv g (L'.1 103) → Gv g (L'.1 102) → Gv g (L'.1 101) → Tm (fun k => f_X3_makeValue k 13 L' σ') (IO c B KB f0 u0 σ (mu σ (qv nf sq rk))) := by
    intro L' σ' d' p' hd md es e5 e9 nx g3 g2' g1
    refine Tm_suc (fun k => by rw [f_X3_makeValue]) ?_
    refine Tm_op (c_progression p'.1.1 g3 g2' g1) (fun q3 z => ?_)
    obtain ⟨g', l', t', ga, v⟩ := z
    exact b11 _ g' l' t' q3.2 d' (Pre_Ga p' ga) hd (Md_t md (Md_S (Sm_A ga.2.2.2.2))) (by rw [ga.2.2.2.2.2.2.2]; exact es) ((ga.2.2.2.2.1 1905 (by decide)).trans e5) ((ga.2.2.2.2.1 1900 (by decide)).trans e9) nx (v.elim id Gv_rw)
  have b3 : ∀ d', d = d' + 2 → NxS c (pc + 1) u (d' + 1) r → Tm (fun k => f_X3_makeValue k 3 L σ) (IO c B KB f0 u0 σ (mu σ (qv nf sq rk))) := by
    intro d' k1 k2
    obtain ⟨pd, es⟩ := Pre_dr (x := 1) (d' := d' + 1) (n := 1) p (by omega) rfl k2.choose_spec.2.2
    have ea : uN (σ.1 1902 - 1 - 1) = uN (σ.1 1902) - 2 := by rw [u_sub (by omega), es]; omega
    have ga0 := (Ty_v p (q := (uN (σ.1 1902) - 2)) (by omega) (by omega))
    have gb0 := (Ty_v p (q := (uN (σ.1 1902) - 1)) (by omega) (by omega))
    have ga : Gv g (σ.2.2.1 20 (σ.1 1902 - 1 - 1).toNatClampNeg) := by rw [u_cl (by omega), ea]; exact ga0
    have gb : Gv g (σ.2.2.1 20 (σ.1 1902 - 1).toNatClampNeg) := by rw [u_cl (by omega), es]; exact gb0
    refine Tm_suc (fun k => by rw [f_X3_makeValue]) ?_
    refine Tm_chk (u_in (by show uN (σ.1 1902 - 1 - 1) < sN σ 20; omega) (by show sN σ 20 ≤ _; omega)) ?_
    refine Tm_chk (u_in (by show uN (σ.1 1902 - 1) < sN σ 20; omega) (by show sN σ 20 ≤ _; omega)) ?_
    refine Tm_ite (fun _ => ?_) (fun _ => ?_)
    · exact b9 _ _ _ pd (by omega) (Md_i σ (by decide) _) rfl rfl rfl k2 ga (Gv_om g) gb
    · refine Tm_suc (fun k => by rw [f_X3_makeValue]) ?_
      exact b9 _ _ _ pd (by omega) (Md_i σ (by decide) _) rfl rfl rfl k2 ga (Gv_om g) gb
  have b4 : ∀ d', d = d' + 3 → NxS c (pc + 1) u (d' + 1) r → Tm (fun k => f_X3_makeValue k 4 L σ) (IO c B KB f0 u0 σ (mu σ (qv nf sq rk))) := by
    intro d' k1 k2
    obtain ⟨pd, es⟩ := Pre_dr (x := 2) (d' := d' + 1) (n := 2) p (by omega) rfl k2.choose_spec.2.2
    have e1 : uN (σ.1 1902 - 2 - 1) = uN (σ.1 1902) - 3 := by rw [u_sub (by omega), es]; omega
    have e2 : uN (σ.1 1902 - 2 + 1) = uN (σ.1 1902) - 1 := by rw [u_inc (by omega), es]; omega
    have g1 : Gv g (σ.2.2.1 20 (σ.1 1902 - 2 - 1).toNatClampNeg) := by rw [u_cl (by omega), e1]; exact (Ty_v p (by omega) (by omega))
    have g2' : Gv g (σ.2.2.1 20 (σ.1 1902 - 2).toNatClampNeg) := by rw [u_cl (by omega), es]; exact (Ty_v p (by omega) (by omega))
    have g3 : Gv g (σ.2.2.1 20 (σ.1 1902 - 2 + 1).toNatClampNeg) := by rw [u_cl (by omega), e2]; exact (Ty_v p (by omega) (by omega))
    refine Tm_suc (fun k => by rw [f_X3_makeValue]) ?_
    refine Tm_chk (u_in (by show uN (σ.1 1902 - 2) < sN σ 20; omega) (by show sN σ 20 ≤ _; omega)) ?_
    refine Tm_ite (fun _ => ?_) (fun _ => ?_)
    · exact b11 _ g l t _ _ pd (by omega) (Md_i σ (by decide) _) rfl rfl rfl k2 (Gv_rw eKind)
    · refine Tm_suc (fun k => by rw [f_X3_makeValue]) ?_
      refine Tm_chk (u_in (by show uN (σ.1 1902 - 2 - 1) < sN σ 20; omega) (by show sN σ 20 ≤ _; omega)) ?_
      refine Tm_chk (u_in (by show uN (σ.1 1902 - 2 + 1) < sN σ 20; omega) (by show sN σ 20 ≤ _; omega)) ?_
      refine Tm_ite (fun _ => ?_) (fun _ => ?_)
      · exact b13 _ _ _ pd (by omega) (Md_i σ (by decide) _) rfl rfl rfl k2 g1 g2' g3
      · refine Tm_suc (fun k => by rw [f_X3_makeValue]) ?_
        exact b13 _ _ _ pd (by omega) (Md_i σ (by decide) _) rfl rfl rfl k2 g1 g2' g3
  refine Tm_ite (fun q => ?_) (fun q3 => Tm_ite (fun q => ?_) (fun q4 => Tm_ite (fun q => ?_) (fun q5 => Tm_ite (fun q => ?_) (fun q6 => Tm_ite (fun q => ?_) (fun q7 => ?_)))))
  · obtain ⟨d', k1, k2⟩ := o50 (Or.inl ((op_n ho (by decide)).1 q))
    exact b3 d' k1 k2
  · obtain ⟨d', k1, k2⟩ := o50 (Or.inr ((op_n ho (by decide)).1 q))
    exact b3 d' k1 k2
  · obtain ⟨d', k1, k2⟩ := o52 (Or.inl ((op_n ho (by decide)).1 q))
    exact b4 d' k1 k2
  · obtain ⟨d', k1, k2⟩ := o52 (Or.inr ((op_n ho (by decide)).1 q))
    exact b4 d' k1 k2
  · have k1 := o54 ((op_n ho (by decide)).1 q)
    refine Tm_suc (fun k => by rw [f_X3_makeValue]) ?_
    refine Tm_oxc (c_newAtom p (by rw [hpc, epc]; exact k1) (qv nf sq rk)) (fun q z => z.1) (fun q z => ?_)
    exact b7 _ _ _ z.2
  · have nn : ∀ n, n < 256 → ¬ nI op = nI n → ¬ op = n := fun n hn z e => z ((op_n ho hn).2 e)
    obtain ⟨k1, k2⟩ := o55 (by
      have a1 := nn 48 (by decide) q1
      have a2 := nn 49 (by decide) q2
      have a3 := nn 50 (by decide) q3
      have a4 := nn 51 (by decide) q4
      have a5 := nn 52 (by decide) q5
      have a6 := nn 53 (by decide) q6
      have a7 := nn 54 (by decide) q7
      omega)
    have ea : uN (σ.1 1902 - 1) = uN (σ.1 1902) - 1 := by rw [u_sub (by omega), u1]
    refine Tm_suc (fun k => by rw [f_X3_makeValue]) ?_
    refine Tm_chk (u_in (by omega) (by omega)) ?_
    refine Tm_op (c_drawn mi.1 (by show Gv g (σ.2.2.1 20 (σ.1 1902 - 1).toNatClampNeg); rw [u_cl (by omega), ea]; exact (Ty_v p (by omega) (by omega)))) (fun q8 z => ?_)
    obtain ⟨σ1, e1, g', l', t', ga, v⟩ := z
    have p1 : Pre c g l t K K2 K3 K4 B KB f0 u0 σ1 fs u d r pb nf nc sq ∧ Md σ σ1 ∧ σ1.1 = σ.1 ∧ σ1.2.2 = σ.2.2 := by
      rcases e1 with e | ⟨v, e⟩
      · rw [e]; exact ⟨p, Md_r σ, rfl, rfl⟩
      · rw [e]; exact ⟨Pre_L p v, Md_L σ v, rfl, rfl⟩
    obtain ⟨p1, m1, f1, f2⟩ := p1
    exact re g' l' t' q8.2 q8.1 d L (Pre_Ga p1 ga) k1 (Md_t m1 (Md_S (Sm_A ga.2.2.2.2))) (by rw [ga.2.2.2.2.2.2.2, f2]) (by rw [ga.2.2.2.2.1 1905 (by decide), f1]) (by rw [ga.2.2.2.2.1 1900 (by decide), f1]) (v.elim id Gv_rw) k2
end CSV

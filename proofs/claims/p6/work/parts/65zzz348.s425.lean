/-! The class: advance. -/
section CUJ
variable {g g' g2 : Nat → Prop} {l l' l2 : List Nat} {t t' t2 : Nat} {σ σ' σ2 τ τ' φ : CS} {L : LV} {x y z i : Int32} {M M' U U' : Nat → Int32} {K K' K0 K2 K2' K3 K3' K4 K4' KB : Nat → Option Int32} {c : Ct} {B f0 u0 a T : Nat} {fs : List FrT} {u d : Nat} {r r' : List Nat} {pb nf nc sq rk : Nat}
theorem c_fill23 : Tm (fun k => y_J7_fill_53178__a23 k 0 L σ) (fun r => ∃ f, r.2 = uF σ 23 f ∧ ∀ j, j < 3780 → f j = L.1 1) := by
  have e3 : uN (Int32.ofNat 3780) = 3780 := rfl
  have b1 : ∀ (m : Nat) (L' : LV) (f : Nat → Int32), L'.1 1 = L.1 1 → L'.1 3 = Int32.ofNat 3780 → uN (L'.1 2) + m = 3780 → (∀ j, j < uN (L'.1 2) → f j = L.1 1) → Tm (fun k => y_J7_fill_53178__a23 k 1 L' (uF σ 23 f)) (fun r => ∃ f, r.2 = uF σ 23 f ∧ ∀ j, j < 3780 → f j = L.1 1) := by
    intro m
    induction m with
    | zero =>
      intro L' f l1 l3 hm hf
      refine Tm_suc (fun k => by rw [y_J7_fill_53178__a23]) ?_
      refine Tm_yes (by rw [l3, u_le (by decide) (by omega), e3]; omega) ?_
      refine Tm_suc (fun k => by rw [y_J7_fill_53178__a23]) ?_
      exact Tm_some ⟨f, rfl, fun j hj => hf j (by omega)⟩
    | succ m ih =>
      intro L' f l1 l3 hm hf
      have c2 : (L'.1 2).toNatClampNeg = uN (L'.1 2) := u_cl (by omega)
      have e2 : uN (L'.1 2 + 1) = uN (L'.1 2) + 1 := u_inc (by omega)
      refine Tm_suc (fun k => by rw [y_J7_fill_53178__a23]) ?_
      refine Tm_no (by rw [l3, u_le (by decide) (by omega), e3]; omega) ?_
      refine Tm_chk (u_in (by omega) (by decide)) ?_
      have eq : uA (uF σ 23 f) 23 (L'.1 2).toNatClampNeg (L'.1 1) = uF σ 23 (upd f (uN (L'.1 2)) (L.1 1)) := by
        rw [c2, l1]
        show uF (uF σ 23 f) 23 (upd ((uF σ 23 f).2.2.1 23) (uN (L'.1 2)) (L.1 1)) = _
        rw [uF_s]
        show (σ.1, σ.2.1, updG (updG σ.2.2.1 23 f) 23 _, σ.2.2.2) = (σ.1, σ.2.1, updG σ.2.2.1 23 _, σ.2.2.2)
        rw [updG_updG]
      rw [eq]
      refine ih _ _ l1 l3 ?_ (fun j hj => ?_)
      · show uN (L'.1 2 + 1) + m = 3780
        omega
      · have hj' : j < uN (L'.1 2 + 1) := hj
        by_cases q : j = uN (L'.1 2)
        · rw [q, upd_same]
        · rw [upd_other q]
          exact hf j (by omega)
  have eq0 : σ = uF σ 23 (σ.2.2.1 23) := by
    show σ = (σ.1, σ.2.1, updG σ.2.2.1 23 (σ.2.2.1 23), σ.2.2.2)
    have e : updG σ.2.2.1 23 (σ.2.2.1 23) = σ.2.2.1 := by
      funext k
      by_cases q : k = 23
      · rw [q, updG_same]
      · rw [updG_other q]
    rw [e]
  refine Tm_suc (fun k => by rw [y_J7_fill_53178__a23]) ?_
  rw [show (fun k => y_J7_fill_53178__a23 k 1 (lI (lI L 2 0) 3 (Int32.ofNat 3780)) σ) = (fun k => y_J7_fill_53178__a23 k 1 (lI (lI L 2 0) 3 (Int32.ofNat 3780)) (uF σ 23 (σ.2.2.1 23))) by rw [← eq0]]
  exact b1 3780 _ _ rfl rfl rfl (fun j hj => absurd hj (Nat.not_lt_zero j))
/-- where the near one is wanted: nothing hangs on it -/
theorem SVK_8 (h : SVK c K σ) (x : Int32) : SVK c K (uI σ 2408 x) := by
  have o : ∀ j, ¬ j = 2408 → (uI σ 2408 x).1 j = σ.1 j := fun j hj => uI_o hj
  obtain ⟨⟨h1, h2, h2'⟩, h3, h4, h5, h6⟩ := h
  have ef : ∀ i j, i < 9 → (uI σ 2408 x).1 (100 * (28 + sPi σ i) + j) = σ.1 (100 * (28 + sPi σ i) + j) := fun i j hi => o _ (by omega)
  refine ⟨⟨by rw [o 2404 (by decide), o 2403 (by decide)]; exact h1, fun i hi => ?_, fun hn => ?_⟩, h3, h4, fun i hi => ?_, fun hn => ?_⟩
  · rw [o 2404 (by decide)] at hi
    have z := h2 i hi
    show uN ((uI σ 2408 x).1 (100 * (28 + sPi σ i) + 3)) < _ ∧ uN ((uI σ 2408 x).1 (100 * (28 + sPi σ i) + 3)) ≤ _ ∧ _
    rw [ef i 3 (by omega), o 2407 (by decide)]
    refine ⟨z.1, z.2.1, fun k k1 k2 => ?_⟩
    rw [o 2404 (by decide)] at k2
    show uN ((uI σ 2408 x).1 (100 * (28 + sPi σ i) + 3)) < uN ((uI σ 2408 x).1 (100 * (28 + sPi σ k) + 3))
    rw [ef i 3 (by omega), ef k 3 (by omega)]
    exact z.2.2 k k1 k2
  · rw [o 2405 (by decide)] at hn
    show uN ((uI σ 2408 x).1 (100 * (28 + sPi σ 8) + 3)) ≤ _
    rw [ef 8 3 (by decide)]
    exact h2' hn
  · rw [o 2404 (by decide)] at hi
    have z := h5 i hi
    refine ⟨SvR_m z.1 (fun j _ => ef i j (by omega)) rfl rfl (fun _ _ => rfl), ?_, fun k k1 k2 => ?_⟩
    · show uN (σ.2.2.1 27 i) + uN ((uI σ 2408 x).1 (100 * (28 + sPi σ i) + 2)) + uN ((uI σ 2408 x).1 (100 * (28 + sPi σ i) + 13)) ≤ uN ((uI σ 2408 x).1 2403)
      rw [ef i 2 (by omega), ef i 13 (by omega), o 2403 (by decide)]
      exact z.2.1
    · rw [o 2404 (by decide)] at k2
      show uN (σ.2.2.1 27 i) + uN ((uI σ 2408 x).1 (100 * (28 + sPi σ i) + 2)) + uN ((uI σ 2408 x).1 (100 * (28 + sPi σ i) + 13)) ≤ uN (σ.2.2.1 27 k)
      rw [ef i 2 (by omega), ef i 13 (by omega)]
      exact z.2.2 k k1 k2
  · rw [o 2405 (by decide)] at hn
    have z := h6 hn
    refine ⟨?_, ?_, ?_⟩
    · rw [o 2403 (by decide)]
      exact SvR_m z.1 (fun j _ => ef 8 j (by decide)) rfl rfl (fun _ _ => rfl)
    · rw [o 2403 (by decide)]; exact z.2.1
    · show uN ((uI σ 2408 x).1 2403) + uN ((uI σ 2408 x).1 (100 * (28 + sPi σ 8) + 2)) + uN ((uI σ 2408 x).1 (100 * (28 + sPi σ 8) + 13)) ≤ 20000
      rw [ef 8 2 (by decide), ef 8 13 (by decide), o 2403 (by decide)]
      exact z.2.2
theorem MIn_28 (mi : MIn c g l t K K2 K3 K4 B KB σ) (x : Int32) : MIn c g l t K K2 K3 K4 B KB (uI σ 2408 x) := by
  obtain ⟨v1, v2, v3, v4, v5, v6, v7, v8⟩ := mi.2.1
  have us : usI (uI σ 2408 x) = usI σ := by
    unfold usI
    show (if (uI σ 2408 x).1 2405 = 0 then (uI σ 2408 x).1 2403 else (uI σ 2408 x).1 2403 + (uI σ 2408 x).1 (100 * (28 + sPi σ 8) + 2) + (uI σ 2408 x).1 (100 * (28 + sPi σ 8) + 13)) = _
    rw [uI_o (i := 2405) (by decide), uI_o (i := 2403) (by decide), uI_o (i := 100 * (28 + sPi σ 8) + 2) (by omega), uI_o (i := 100 * (28 + sPi σ 8) + 13) (by omega)]
  exact MIn_9 mi (SvF_i σ (by decide) x) (SVK_8 mi.2.2.2.2.1 x) ⟨by rw [us]; exact v6, v7, by rw [us]; exact v8⟩
/-- between the house's calls, while there is a run -/
def Mst (c : Ct) (σ : CS) : Prop := BY False σ ∧ uN (σ.1 1902) ≤ 10404 ∧ ∃ (g : Nat → Prop) (l : List Nat) (t : Nat) (K K2 K3 K4 : Nat → Option Int32), MIn c g l t K K2 K3 K4 (4 + tcF c 0) KH σ ∧ (σ.1 1907 = 0 → uN (σ.1 1905) ≤ 60000 ∧ RUN c K (uN (σ.1 1900)) (uN (σ.1 1901)) (uN (σ.1 1902)) (uN (σ.1 1908)) 0)
theorem c_expect : Tm (fun k => y_X9_expect k 0 L σ) (fun q => ∃ x, q.2 = uI σ 2408 x) := by
  refine Tm_suc (fun k => by rw [y_X9_expect]) ?_
  refine Tm_ite (fun _ => ?_) (fun _ => ?_)
  · refine Tm_suc (fun k => by rw [y_X9_expect]) ?_
    refine Tm_suc (fun k => by rw [y_X9_expect]) ?_
    exact Tm_some ⟨_, rfl⟩
  · refine Tm_suc (fun k => by rw [y_X9_expect]) ?_
    exact Tm_some ⟨_, rfl⟩
theorem c_advance (ms : Mst c σ) (ck : CkA c) (k0 : tcS c 0) (f0' : tcF c 0 ≤ 1000) (hn : uN (σ.1 1903) + uN (L.1 1) ≤ 10240000) : Tm (fun k => f_X3_advance k 0 L σ) (fun q => q.1 = (0, 0) ∧ CoP σ q ∧ MFr σ q.2.1 ∧ Mst c q.2.1) := by
  have ms0 := ms
  obtain ⟨by0, sp0, g, l, t, K, K2, K3, K4, mi, rn⟩ := ms
  obtain ⟨b, eb, cb⟩ := mi.2.2.1
  have b1 : ∀ (L' : LV), Tm (fun k => f_X3_advance k 1 L' σ) (fun q => q.1 = (0, 0) ∧ CoP σ q ∧ MFr σ q.2.1 ∧ Mst c q.2.1) := by
    intro L'
    refine Tm_suc (fun k => by rw [f_X3_advance]) ?_
    exact Tm_some ⟨rfl, CoP_0 rfl, Md_M (Md_r σ), ms0⟩
  refine Tm_suc (fun k => by rw [f_X3_advance]) ?_
  rw [eb]
  show Tm (fun k => if σ.1 1907 = 0 then f_X3_advance k 2 L σ else f_X3_advance k 1 L σ) _
  refine Tm_ite (fun c7 => ?_) (fun _ => b1 _)
  obtain ⟨w5, run⟩ := rn c7
  have mb := mi.2.2.2.2.2.2.1.2
  have mt := MIn_fw (σ' := uI σ 1814 (L.1 1)) mi rfl (fun j hj => uI_o (by omega)) (by rw [uI_o (by decide)]; exact mb) (by rw [uI_o (by decide)]; exact Nat.le_refl _) (by rw [uI_o (by decide), uI_s]; exact hn)
  refine Tm_suc (fun k => by rw [f_X3_advance]) ?_
  refine Tm_op (Tm_By (c_expect (σ := uI σ 1814 (L.1 1))) (fun k => kb_y_X9_expect _ _ _ _ (BY_I (by decide) by0))) (fun q z => ?_)
  obtain ⟨⟨x, zx⟩, byx⟩ := z
  have mx := MIn_28 mt.1 x
  rw [← zx] at mx
  have o : ∀ j, ¬ (j = 1814 ∨ j = 2408) → q.2.1 j = σ.1 j := fun j hj => by rw [zx, uI_o (by omega), uI_o (by omega)]
  have o4 : q.2.1 1814 = L.1 1 := by rw [zx, uI_o (by decide), uI_s]
  have fx : MFr σ q.2 := by rw [zx]; exact MFr_t (Mw_M mt.2) (SvF_M (SvF_i _ (by decide) x))
  have phx := Ph_s (σ := σ) (σ' := q.2) (by rw [zx]; rfl)
  have ex := c_execute (f0 := 0) (u0 := 0) (L := lZ) mx byx (fun _ => by rw [o 1907 (by decide)]; exact c7) ck k0.1 (fun _ => ⟨rfl, rfl⟩) (Or.inr ⟨fun _ => rfl, by omega⟩) (fun τ e e15 e11 => RunT_of (by rw [e 1900 (by decide), e 1901 (by decide), e 1902 (by decide), e 1908 (by decide), o 1900 (by decide), o 1901 (by decide), o 1902 (by decide), o 1908 (by decide)]; exact run) (by rw [e 1905 (by decide), o 1905 (by decide)]; exact w5) e15 e11 (by rw [e 1814 (by decide), o4]; omega))
  refine Tm_oxc ex (fun r s => by rw [s.1]) (fun q3 s => ?_)
  obtain ⟨s1, ⟨c1, c2⟩, s2, s3, s4, g', l', t', K', K2', K3', K4', m', s6⟩ := s
  have s7 := (s6.resolve_left (fun y => by obtain ⟨_, _, _, y⟩ := y; exact absurd y (Nat.not_lt_zero _))).2
  refine Tm_ite (fun c13 => ?_) (fun c13 => ?_)
  · refine Tm_suc (fun k => by rw [f_X3_advance]) ?_
    refine Tm_some ⟨rfl, ⟨by show q3.2.2.1 + 0 + PhC q3.2.1 ≤ _; omega, by show q3.2.2.2 + 0 + PhS q3.2.1 ≤ _; omega⟩, MFr_t fx s2, BY_f s4, ?_, g', l', t', K', K2', K3', K4', m', fun c7' => ?_⟩
    · show uN (q3.2.1.1 1902) ≤ 10404
      rcases s7 with y | y | y
      · rcases y with y | y
        · exact absurd c13 y
        · exact y.2.2
      · exact (RUN_sp y.2.2).1
      · exact absurd y.1 (by decide)
    rcases s7 with y | y | y
    · rcases y with y | y
      · exact absurd c13 y
      · have c7'' : q3.2.1.1 1907 = 0 := c7'
        rw [c7''] at y
        exact absurd y.2.1 (by decide)
    · exact ⟨y.2.1, y.2.2⟩
    · exact absurd y.1 (by decide)
  · refine Tm_op (Tm_By c_fill23 (fun k => kb_y_J7_fill_53178__a23 _ _ _ _ s4)) (fun q4 z4 => ?_)
    obtain ⟨⟨f, zf, hf⟩, by4⟩ := z4
    have m4 : MIn c g' l' t' K' K2' K3' (fun _ => none) (4 + tcF c 0) KH q4.2 := by
      rw [zf]
      obtain ⟨m1, ⟨v1, v2, v3⟩, m3, m4, m5, m6⟩ := m'
      have md : Md q3.2.1 (uF q3.2.1 23 f) := Md_F q3.2.1 (by decide) f
      have rk4 : Rwk g' ((uF q3.2.1 23 f).2.2.1 3) (fun _ => none) ((uF q3.2.1 23 f).2.2.1 23) 3780 := by
        rw [uF_s]
        intro j hj
        rw [hf j hj]
        exact Rwn (Gv_om g')
      exact ⟨HQ_fr m1 rfl rfl rfl, ⟨v1, rk4, v3⟩, CtL_M m3 (Md_M md), m4, SVK_d md m5, m6⟩
    have f4 : MFr q3.2.1 q4.2 := by rw [zf]; exact Md_M (Md_F q3.2.1 (by decide) f)
    have ph4 := Ph_s (σ := q3.2.1) (σ' := q4.2) (by rw [zf]; rfl)
    generalize q4.2 = ω at *
    obtain ⟨b', eb', cb'⟩ := m4.2.2.1
    have cr := (Ct_row m4.2.2.1 eb').2.2 0 (by decide)
    have e4 : uN (4 : Int32) = 4 := rfl
    have ef : uN (4 + ω.2.2.1 (pR18 b') 0) = 4 + tcF c 0 := by rw [u_add (by rw [cr.2.2, e4]; omega), cr.2.2, e4]
    have mb4 := m4.2.2.2.2.2.2.1.2
    refine Tm_suc (fun k => by rw [f_X3_advance]) ?_
    refine Tm_oP (b := b') eb' ?_
    refine Tm_chk (by decide) ?_
    refine Tm_suc (fun k => by rw [f_X3_advance]) ?_
    have mf := MIn_fw (σ' := uI (uI (uI (uI ω 1906 (ω.1 1813)) 1907 2) 1901 0) 1902 (4 + ω.2.2.1 (pR18 b') 0)) m4 rfl (fun j hj => by rw [uI_o (by omega), uI_o (by omega), uI_o (by omega), uI_o (by omega)]) (by rw [uI_s, ef]; exact Nat.le_refl _) (by rw [uI_s, ef]; exact mb4) (by rw [uI_o (by decide), uI_o (by decide), uI_o (by decide), uI_o (by decide), uI_o (by decide), uI_o (by decide), uI_o (by decide), uI_o (by decide)]; exact m4.2.2.2.2.2.2.2.1)
    have ph5 := Ph_s (σ := ω) (σ' := uI (uI (uI (uI ω 1906 (ω.1 1813)) 1907 2) 1901 0) 1902 (4 + ω.2.2.1 (pR18 b') 0)) rfl
    refine Tm_some ⟨rfl, ⟨?_, ?_⟩, MFr_t (MFr_t (MFr_t fx s2) f4) (Mw_M mf.2), BY_I (by decide) (BY_I (by decide) (BY_7 (Or.inr (fun y => y)) (BY_I (by decide) (BY_f by4)))), ?_, g', l', t', K', K2', K3', _, mf.1, fun c7' => ?_⟩
    · show q3.2.2.1 + 0 + PhC (uI (uI (uI (uI ω 1906 (ω.1 1813)) 1907 2) 1901 0) 1902 (4 + ω.2.2.1 (pR18 b') 0)) ≤ _
      omega
    · show q3.2.2.2 + 0 + PhS (uI (uI (uI (uI ω 1906 (ω.1 1813)) 1907 2) 1901 0) 1902 (4 + ω.2.2.1 (pR18 b') 0)) ≤ _
      omega
    · show uN ((uI (uI (uI (uI ω 1906 (ω.1 1813)) 1907 2) 1901 0) 1902 (4 + ω.2.2.1 (pR18 b') 0)).1 1902) ≤ 10404
      rw [uI_s, ef]; omega
    · have z : (uI (uI (uI (uI ω 1906 (ω.1 1813)) 1907 2) 1901 0) 1902 (4 + ω.2.2.1 (pR18 b') 0)).1 1907 = 0 := c7'
      rw [uI_o (by decide), uI_o (by decide), uI_s] at z
      exact absurd z (by decide)
end CUJ

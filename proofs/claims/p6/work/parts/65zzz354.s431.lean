/-! The class: an exp that is asked. -/
section CUP
variable {g g' g2 : Nat → Prop} {l l' l2 : List Nat} {t t' t2 : Nat} {σ σ' σ2 τ τ' φ : CS} {L : LV} {x y z i : Int32} {K K' K0 K2 K2' K3 K3' K4 K4' KB : Nat → Option Int32} {c : Ct} {B f0 u0 a T : Nat}
/-- a run stands, over this heap -/
def MsG (c : Ct) (g : Nat → Prop) (l : List Nat) (t : Nat) (σ : CS) : Prop := BY False σ ∧ uN (σ.1 1902) ≤ 10404 ∧ ∃ (K K2 K3 K4 : Nat → Option Int32), MIn c g l t K K2 K3 K4 (4 + tcF c 0) KH σ ∧ (σ.1 1907 = 0 → uN (σ.1 1905) ≤ 60000 ∧ RUN c K (uN (σ.1 1900)) (uN (σ.1 1901)) (uN (σ.1 1902)) (uN (σ.1 1908)) 0)
theorem MsG_s (h : MsG c g l t σ) : Mst c σ := by
  obtain ⟨h1, h2, K, K2, K3, K4, h3⟩ := h
  exact ⟨h1, h2, g, l, t, K, K2, K3, K4, h3⟩
theorem MsG_o (h : Mst c σ) : ∃ g l t, MsG c g l t σ := by
  obtain ⟨h1, h2, g, l, t, K, K2, K3, K4, h3⟩ := h
  exact ⟨g, l, t, h1, h2, K, K2, K3, K4, h3⟩
/-- the run set back where it stood -/
theorem MIn_ev (mi : MIn c g l t K K2 K3 K4 B KB σ) (o : ∀ j, ¬ (j = 1819 ∨ j = 1900 ∨ j = 1901 ∨ j = 1902 ∨ j = 1905) → σ'.1 j = σ.1 j) (ol : ∀ j, ¬ j = 1916 → σ'.2.1 j = σ.2.1 j) (e2 : σ'.2.2 = σ.2.2) (h2 : uN (σ'.1 1902) ≤ uN (σ.1 1902)) (hb : 4 + tcF c 0 ≤ uN (σ'.1 1902)) (kh : ∀ j, j < 4 + tcF c 0 → K j = KH j) : MIn c g l t K K2 K3 K4 (4 + tcF c 0) KH σ' ∧ MFr σ σ' := by
  obtain ⟨m1, ⟨v1, v2, v3, v4, v5, v6, v7, v8⟩, m3, m4, m5, m6, m7, m8, m9, m10, m11⟩ := mi
  have qn : ∀ k, sN σ' k = sN σ k := fun k => by show σ'.2.2.2.2.1 k = _; rw [e2]
  have qp : ∀ i, sPi σ' i = sPi σ i := fun i => by show σ'.2.2.2.2.2.2 i = _; rw [e2]
  have mf : MFr σ σ' := ⟨fun j hj => o j (by omega), fun j hj => ol j (by omega), fun k hk => ⟨by rw [e2], qn k⟩, by rw [e2], by rw [e2]⟩
  have usE : usI σ' = usI σ := by
    unfold usI
    rw [qp, o 2405 (by decide), o 2403 (by decide), o (100 * (28 + sPi σ 8) + 2) (by omega), o (100 * (28 + sPi σ 8) + 13) (by omega)]
  refine ⟨⟨HQ_ft m1 (o 1 (by decide)) (by rw [e2]) (qn 3) (qn 1) (qn 2), ⟨⟨?_, ?_, ?_⟩, ?_, ⟨?_, ?_, ?_⟩, ?_, ?_, ?_, ?_, ?_⟩, CtL_M m3 mf, ?_, SVK_g m5 (fun j h1 h2 => o j (by omega)) (by rw [e2]) qp (by rw [qn]; exact Nat.le_refl _) (by rw [qn]; exact Nat.le_refl _), kh, ⟨Nat.le_refl _, hb⟩, by rw [o 1903 (by decide), o 1814 (by decide)]; exact m8, by rw [o 1912 (by decide)]; exact m9, by rw [o 1914 (by decide)]; exact m10, by rw [o 1915 (by decide)]; exact m11⟩, mf⟩
  · rw [qn]; have := v1.1; omega
  · rw [qn]; exact v1.2.1
  · rw [e2]; exact fun j hj => v1.2.2 j (by omega)
  · rw [e2]; exact v2
  · rw [o 1913 (by decide), qn]; exact v3.1
  · rw [qn]; exact v3.2.1
  · rw [o 1913 (by decide), e2]; exact v3.2.2
  · rw [e2]; exact v4
  · rw [qp]; exact v5
  · rw [usE, qn]; exact v6
  · rw [qn]; exact v7
  · rw [usE, e2]; exact v8
  · rw [o 1912 (by decide), o 1913 (by decide), qn]; exact m4
/-- where an exp that is asked begins -/
def EnV (c : Ct) (pc : Nat) : Prop := tcF c 41 = 0 ∧ ∃ rk, rk ≤ RK ∧ tcD c pc = some (41, 0, [bsl], rk)
theorem c_evaluate (ms : Mst c σ) (ck : CkA c) (en : EnV c (uN (L.1 1))) : Tm (fun k => f_X3_evaluate k 0 L σ) (fun q => q.1.1 = 0 ∧ q.2.1.1 1903 = σ.1 1903 ∧ CoP σ q ∧ MFr σ q.2.1 ∧ ∃ g l t, MsG c g l t q.2.1 ∧ Gw g q.1.2) := by
  obtain ⟨by0, sp0, g, l, t, K, K2, K3, K4, mi0, rn⟩ := ms
  obtain ⟨f41, rk, rk1, tD⟩ := en
  have kh := mi0.2.2.2.2.2.1
  have spB := mi0.2.2.2.2.2.2.1.2
  have st := mi0.2.1.1
  have mi : MIn c g l t K K2 K3 K4 (uN (σ.1 1902)) K σ := ⟨mi0.1, mi0.2.1, mi0.2.2.1, mi0.2.2.2.1, mi0.2.2.2.2.1, fun _ _ => rfl, ⟨spB, Nat.le_refl _⟩, mi0.2.2.2.2.2.2.2⟩
  have ns : ¬ tcS c 41 := fun z => z.2 rfl
  have e4 : uN (4 : Int32) = 4 := rfl
  have b2 : ∀ (L' : LV) (ρ : CS) (n1 n2 : Nat) (g' : Nat → Prop) (l' : List Nat) (t' : Nat) (K' K2' K3' K4' : Nat → Option Int32), L'.1 2 = σ.1 1900 → L'.1 3 = σ.1 1901 → L'.1 4 = σ.1 1902 → L'.1 5 = σ.1 1905 → Gw g' (L'.1 8) → MIn c g' l' t' K' K2' K3' K4' (uN (σ.1 1902)) K ρ → MFr σ ρ → BY False ρ → (∀ j, 1903 ≤ j → j < 1914 → ¬ j = 1905 → ρ.1 j = σ.1 j) → (n1 + PhC ρ ≤ PhC σ ∧ n2 + PhS ρ ≤ PhS σ) → Tm (fun k => f_X3_evaluate k 2 L' ρ) (fun q => q.1.1 = 0 ∧ q.2.1.1 1903 = σ.1 1903 ∧ CoP σ (q.1, q.2.1, (n1 + q.2.2.1, n2 + q.2.2.2)) ∧ MFr σ q.2.1 ∧ ∃ g l t, MsG c g l t q.2.1 ∧ Gw g q.1.2) := by
    intro L' ρ n1 n2 g' l' t' K' K2' K3' K4' l2 l3 l4 l5 hg m mf by3 ev co
    refine Tm_suc (fun k => by rw [f_X3_evaluate]) ?_
    refine Tm_suc (fun k => by rw [f_X3_evaluate]) ?_
    refine Tm_suc (fun k => by rw [f_X3_evaluate]) ?_
    rw [l2, l3, l4, l5]
    generalize hψ : uL (uI (uI (uI (uI (uI ρ 1819 (ρ.1 1905)) 1900 (σ.1 1900)) 1901 (σ.1 1901)) 1902 (σ.1 1902)) 1905 (σ.1 1905)) 1916 (L'.2.1 6) = ψ
    have o : ∀ j, ¬ (j = 1819 ∨ j = 1900 ∨ j = 1901 ∨ j = 1902 ∨ j = 1905) → ψ.1 j = ρ.1 j := fun j hj => by
      rw [← hψ]
      show (uI (uI (uI (uI (uI ρ 1819 (ρ.1 1905)) 1900 (σ.1 1900)) 1901 (σ.1 1901)) 1902 (σ.1 1902)) 1905 (σ.1 1905)).1 j = _
      rw [uI_o (by omega), uI_o (by omega), uI_o (by omega), uI_o (by omega), uI_o (by omega)]
    have o0 : ψ.1 1900 = σ.1 1900 := by rw [← hψ]; rfl
    have o1 : ψ.1 1901 = σ.1 1901 := by rw [← hψ]; rfl
    have o2 : ψ.1 1902 = σ.1 1902 := by rw [← hψ]; rfl
    have o5 : ψ.1 1905 = σ.1 1905 := by rw [← hψ]; rfl
    have ol : ∀ j, ¬ j = 1916 → ψ.2.1 j = ρ.2.1 j := fun j hj => by
      rw [← hψ]
      show updW ρ.2.1 1916 _ j = _
      rw [updW_other hj]
    have oe : ψ.2.2 = ρ.2.2 := by rw [← hψ]; rfl
    have bp : BY False ψ := by
      rw [← hψ]
      exact BY_L (BY_I (by decide) (BY_I (by decide) (BY_I (by decide) (BY_I (by decide) (BY_I (by decide) by3)))))
    have kb := m.2.2.2.2.2.1
    have mE := MIn_ev (σ' := ψ) m o ol oe (by rw [o2]; exact m.2.2.2.2.2.2.1.2) (by rw [o2]; exact spB) (fun j hj => by rw [kb j (by omega)]; exact kh j hj)
    have ph := Ph_s (σ := ρ) (σ' := ψ) (by rw [oe])
    refine Tm_some ⟨rfl, ?_, ⟨?_, ?_⟩, MFr_t mf mE.2, g', l', t', ⟨bp, ?_, K', K2', K3', K4', mE.1, fun c7 => ?_⟩, hg⟩
    · show ψ.1 1903 = _
      rw [o 1903 (by decide)]; exact ev 1903 (by decide) (by decide) (by decide)
    · show n1 + 0 + PhC ψ ≤ _
      omega
    · show n2 + 0 + PhS ψ ≤ _
      omega
    · show uN (ψ.1 1902) ≤ _
      rw [o2]; exact sp0
    · have c7' : ψ.1 1907 = 0 := c7
      rw [o 1907 (by decide), ev 1907 (by decide) (by decide) (by decide)] at c7'
      obtain ⟨w5, run⟩ := rn c7'
      show uN (ψ.1 1905) ≤ 60000 ∧ RUN c K' (uN (ψ.1 1900)) (uN (ψ.1 1901)) (uN (ψ.1 1902)) (uN (ψ.1 1908)) 0
      rw [o0, o1, o2, o5, o 1908 (by decide), ev 1908 (by decide) (by decide) (by decide)]
      exact ⟨w5, RUN_eq run (fun p hp => kb p hp)⟩
  refine Tm_suc (fun k => by rw [f_X3_evaluate]) ?_
  generalize hτ : uI (uI (uI σ 1901 (σ.1 1902)) 1900 (L.1 1)) 1905 0 = τ
  have a : ∀ j, ¬ (j = 1900 ∨ j = 1901 ∨ j = 1905) → τ.1 j = σ.1 j := fun j hj => by rw [← hτ, uI_o (by omega), uI_o (by omega), uI_o (by omega)]
  have a0 : τ.1 1900 = L.1 1 := by rw [← hτ]; rfl
  have a1 : τ.1 1901 = σ.1 1902 := by rw [← hτ]; rfl
  have a5 : τ.1 1905 = 0 := by rw [← hτ]; rfl
  have ae : τ.2 = σ.2 := by rw [← hτ]; rfl
  have byt : BY False τ := by rw [← hτ]; exact BY_I (by decide) (BY_I (by decide) (BY_I (by decide) by0))
  have mt := MIn_fl (σ' := τ) mi ae (fun j hj => a j (by omega)) (by rw [a 1902 (by decide)]; exact Nat.le_refl _) (by rw [a 1902 (by decide)]; exact Nat.le_refl _)
  have st' := mt.1.2.1.1
  have pht := Ph_s (σ := σ) (σ' := τ) (by rw [ae])
  refine Tm_suc (fun k => by rw [f_X3_evaluate]) ?_
  refine Tm_oxc (Tm_and (Tm_Bf (c_pushAll (σ := τ) (L := lI (lI lZ 1 (-268435456)) 2 4) st'.1 st'.2.1 (by show uN (4 : Int32) ≤ _; decide)) (fun k => kb_f_X3_pushAll _ _ _ _ byt)) (c_pushAllY (σ := τ) (L := lI (lI lZ 1 (-268435456)) 2 4) (by rw [a 1902 (by decide)]; show _ + uN (4 : Int32) ≤ _; rw [e4]; omega) st'.2.1.2)) (fun q z => by rw [z.1.1.1]) (fun q z => ?_)
  obtain ⟨⟨z, byq⟩, zy⟩ := z
  have z0 : PuO τ (-268435456) 4 q := z
  have zy' : uN (q.2.1.1 1902) = uN (σ.1 1902) + 4 := by
    have y : uN (q.2.1.1 1902) = uN (τ.1 1902) + uN (4 : Int32) := zy
    rw [y, a 1902 (by decide), e4]
  have mp := pu_C mt.1 (Gw_rt g) z0
  obtain ⟨z1, ⟨z2, z2'⟩, z3, z4, z5, z6, z7⟩ := z0
  have q5 : q.2.1.1 1905 = 0 := by
    rcases z7 with y | y
    · rw [y.2.2.2.2.2, a5]
    · rw [y.2.2.2.1, a5]
  have qe : ∀ j, ¬ (j = 1 ∨ j = 404 ∨ j = 1203 ∨ j = 1812 ∨ j = 1813 ∨ j = 1902 ∨ j = 1905) → q.2.1.1 j = τ.1 j := fun j hj => z3.1 j hj
  have K1e : Kw K (uN (τ.1 1902)) 4 (some mkC) = Kw K (uN (σ.1 1902)) 4 (some mkC) := by rw [a 1902 (by decide)]
  have mp1 := mp.1
  rw [K1e] at mp1
  have hl := mp1.2.2.2.2.2.2.2.1
  have ex := c_execute (f0 := uN (σ.1 1902)) (u0 := 41) (L := lZ) mp1 byq (fun y => absurd y ns) ck ck.2.1 (fun y => absurd y ns) (Or.inl ⟨by omega, kh⟩) (fun ρ e e15 e11 => by
    have f1 : ρ.1 1901 = σ.1 1902 := by rw [e 1901 (by decide), qe 1901 (by decide), a1]
    have f2 : uN (ρ.1 1902) = uN (σ.1 1902) + 4 := by rw [e 1902 (by decide)]; exact zy'
    have f0 : ρ.1 1900 = L.1 1 := by rw [e 1900 (by decide), qe 1900 (by decide), a0]
    have f5 : ρ.1 1905 = 0 := by rw [e 1905 (by decide)]; exact q5
    have ty : TyS c (Kw K (uN (σ.1 1902)) 4 (some mkC)) K4 (uN (σ.1 1902)) 41 ρ [] 41 0 [bsl] 0 0 0 0 := by
      refine ⟨?_, ⟨by rw [f1], rfl, rfl, rfl, rfl, rfl⟩, by rw [f41]; exact Nat.zero_le _, ⟨by rw [e15]; rfl, by decide⟩, by rw [e11]; rfl, fun y => absurd y ns, by decide, by decide, PaM_0 (w := 0) (ms := []) (fun i hi => absurd hi List.not_mem_nil)⟩
      rw [f1, f2]
      exact SL_mkV (w := 0) (by decide) (by omega) (fun p h1 h2 => absurd h2 (by omega))
    refine ⟨qv 0 0 rk, ⟨by rw [f5]; decide, 41, 0, [bsl], rk, [], 0, 0, 0, 0, Or.inl ⟨ty, by rw [f0]; exact tD, rfl⟩⟩, ?_⟩
    exact mu_lt (by rw [e 1814 (by decide)]; omega) (qv_lt (rk := rk) ty (by omega)))
  refine Tm_oxc ex (fun r s => by rw [s.1]) (fun q3 s => ?_)
  obtain ⟨s1, ⟨c1, c2⟩, s2, s3, s4, g', l', t', K', K2', K3', K4', m', s6⟩ := s
  have s7 := (s6.resolve_left (fun y => by obtain ⟨_, _, _, y⟩ := y; exact absurd y (Nat.not_lt_zero _))).2
  have mf3 : MFr σ q3.2.1 := MFr_t (MFr_t (Md_M mt.2) (Md_M mp.2)) s2
  have ev3 : ∀ j, 1903 ≤ j → j < 1914 → ¬ j = 1905 → q3.2.1.1 j = σ.1 j := fun j j1 j2 j3 => by rw [s3 ns j j1 j2 j3, qe j (by omega), a j (by omega)]
  have sp3 := m'.2.2.2.2.2.2.1.2
  have st3 := m'.2.1.1
  have u1 : uN (1 : Int32) = 1 := rfl
  have ea : uN (q3.2.1.1 1902 - 1) = uN (q3.2.1.1 1902) - 1 := by rw [u_sub (by omega), u1]
  refine Tm_chk (u_in (by omega) (by omega)) ?_
  refine Tm_ite (fun c13 => ?_) (fun c13 => ?_)
  · refine Tm_mono (b2 _ _ (q.2.2.1 + q3.2.2.1) (q.2.2.2 + q3.2.2.2) g' l' t' K' K2' K3' K4' rfl rfl rfl rfl ?_ m' mf3 (BY_f s4) ev3 ⟨by omega, by omega⟩) (fun r z => ?_)
    · show Gw g' (q3.2.1.2.2.1 20 (q3.2.1.1 1902 - 1).toNatClampNeg)
      rw [u_cl (by omega), ea]
      rcases s7 with y | y | y
      · rcases y with y | y
        · exact absurd c13 y
        · exact absurd y.1 ns
      · exact absurd y.1 ns
      · exact Or.inl y.2.2
    · show r.1.1 = 0 ∧ r.2.1.1 1903 = σ.1 1903 ∧ CoP σ (r.1, r.2.1, (q.2.2.1 + (q3.2.2.1 + r.2.2.1), q.2.2.2 + (q3.2.2.2 + r.2.2.2))) ∧ _
      rw [← Nat.add_assoc, ← Nat.add_assoc]
      exact z
  · refine Tm_op (Tm_By c_fill23 (fun k => kb_y_J7_fill_53178__a23 _ _ _ _ s4)) (fun q4 z4 => ?_)
    obtain ⟨⟨f, zf, hf⟩, by4⟩ := z4
    have m4 : MIn c g' l' t' K' K2' K3' (fun _ => none) (uN (σ.1 1902)) K q4.2 := by
      rw [zf]
      obtain ⟨m1, ⟨v1, v2, v3⟩, m3, m4, m5, m6⟩ := m'
      have md : Md q3.2.1 (uF q3.2.1 23 f) := Md_F q3.2.1 (by decide) f
      have rk4 : Rwk g' ((uF q3.2.1 23 f).2.2.1 3) (fun _ => none) ((uF q3.2.1 23 f).2.2.1 23) 3780 := by
        rw [uF_s]
        intro j hj
        rw [hf j hj]
        exact Rwn (Gv_om g')
      exact ⟨HQ_fr m1 rfl rfl rfl, ⟨v1, rk4, v3⟩, CtL_M m3 (Md_M md), m4, SVK_d md m5, m6⟩
    have f4 : MFr q3.2.1 q4.2 := by rw [zf]; exact Md_M (Md_F q3.2.1 (by decide) f)
    have ph4 := Ph_s (σ := q3.2.1) (σ' := q4.2) (by rw [zf]; rfl)
    have e4' : ∀ j, q4.2.1 j = q3.2.1.1 j := fun j => by rw [zf]; rfl
    generalize q4.2 = ω at *
    refine Tm_op c_raw (fun q5 z5 => ?_)
    rw [z5]
    refine Tm_mono (b2 _ ω (q.2.2.1 + q3.2.2.1) (q.2.2.2 + q3.2.2.2) g' l' t' K' K2' K3' _ rfl rfl rfl rfl ?_ m4 (MFr_t mf3 f4) (BY_f by4) (fun j j1 j2 j3 => by rw [e4']; exact ev3 j j1 j2 j3) ⟨by omega, by omega⟩) (fun r z => ?_)
    · show Gw g' (rwN (uN (ω.1 1813) % 268435456))
      exact Gw_rr (rwN_r (by omega))
    · show r.1.1 = 0 ∧ r.2.1.1 1903 = σ.1 1903 ∧ CoP σ (r.1, r.2.1, (q.2.2.1 + (q3.2.2.1 + r.2.2.1), q.2.2.2 + (q3.2.2.2 + r.2.2.2))) ∧ _
      rw [← Nat.add_assoc, ← Nat.add_assoc]
      exact z
end CUP

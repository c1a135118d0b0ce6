section JnS388
/-! The class: points. -/
section CSZ
variable {g g' g2 : Nat → Prop} {l l' l2 : List Nat} {t t' t2 : Nat} {σ σ' σ2 : CS} {L : LV} {x y i : Int32} {M M' U U' : Nat → Int32} {K K' K2 K2' K3 K4 KB : Nat → Option Int32} {c : Ct} {B f0 u0 : Nat} {fs : List FrT} {u d : Nat} {r : List Nat} {pb nf nc sq rk : Nat}
theorem SVK_g (h : SVK c K3 σ) (e1 : ∀ j, 2400 ≤ j → j < 3700 → σ'.1 j = σ.1 j) (e2 : σ'.2.2.1 27 = σ.2.2.1 27) (e3 : ∀ i, sPi σ' i = sPi σ i) (n20 : sN σ 20 ≤ sN σ' 20) (n21 : sN σ 21 ≤ sN σ' 21) : SVK c K3 σ' := by
  have ef : ∀ p j, p < 9 → j < 100 → σ'.1 (100 * (28 + p) + j) = σ.1 (100 * (28 + p) + j) := fun p j hp hj => e1 _ (by omega) (by omega)
  have sv : ∀ p s, p < 9 → SvR c K3 σ p s → SvR c K3 σ' p s := by
    intro p s hp h
    unfold SvR
    rw [ef p 0 hp (by decide), ef p 1 hp (by decide), ef p 2 hp (by decide), ef p 8 hp (by decide), ef p 7 hp (by decide), ef p 5 hp (by decide), ef p 13 hp (by decide), ef p 12 hp (by decide), ef p 14 hp (by decide), ef p 15 hp (by decide)]
    exact ⟨h.1, h.2.1, ⟨h.2.2.1.1, h.2.2.1.2.1, h.2.2.1.2.2.1, h.2.2.1.2.2.2.1, Nat.le_trans h.2.2.1.2.2.2.2.1 n20, Nat.le_trans h.2.2.1.2.2.2.2.2 n21⟩, POK_eq n20 _ _ (fun _ _ => rfl) h.2.2.2⟩
  obtain ⟨h1, h2, h3, h4, h5⟩ := h
  refine ⟨?_, fun i hi => by rw [e3]; exact h2 i hi, fun i j hi hj e => ?_, fun i hi => ?_, fun hn => ?_⟩
  · exact ⟨by rw [e1 2404 (by decide) (by decide), e1 2403 (by decide) (by decide)]; exact h1.1, SVB_e h1.1.1 h2 e1 e3 h1.2⟩
  · rw [e3, e3] at e; exact h3 i j hi hj e
  · rw [e1 2404 (by decide) (by decide)] at hi
    have z := h4 i hi
    have p9 := h2 i (by omega)
    rw [e3, e2, ef _ 2 p9 (by decide), ef _ 13 p9 (by decide), e1 2403 (by decide) (by decide), e1 2404 (by decide) (by decide)]
    exact ⟨sv _ _ p9 z.1, z.2⟩
  · rw [e1 2405 (by decide) (by decide)] at hn
    have z := h5 hn
    have p9 := h2 8 (by decide)
    rw [e3, e2, ef _ 2 p9 (by decide), ef _ 13 p9 (by decide), e1 2403 (by decide) (by decide)]
    exact ⟨sv _ _ p9 z.1, z.2⟩
/-- behind steps that cost something -/
theorem IO_k {q : RS} {m c1 c2 : Nat} (a : MFr σ σ') (ev : EvF σ σ') (h1 : c1 + PhC σ' ≤ PhC σ) (h2 : c2 + PhS σ' ≤ PhS σ) (h : IO c B KB f0 u0 σ' m q) : IO c B KB f0 u0 σ m (q.1, q.2.1, (c1 + q.2.2.1, c2 + q.2.2.2)) := by
  obtain ⟨k1, k2, k3, k4, k5⟩ := h
  have k21 := k2.1
  have k22 := k2.2
  exact ⟨k1, ⟨by show c1 + q.2.2.1 + PhC q.2.1 ≤ _; omega, by show c2 + q.2.2.2 + PhS q.2.1 ≤ _; omega⟩, MFr_t a k3, fun n j j1 j2 j3 => (k4 n j j1 j2 j3).trans (ev j j1 j2 j3), k5⟩
theorem HQ_ft (h : HQ g l t σ) (e1 : σ'.1 1 = σ.1 1) (e3 : σ'.2.2.1 3 = σ.2.2.1 3) (n3 : sN σ' 3 = sN σ 3) (n1 : sN σ' 1 = sN σ 1) (n2 : sN σ' 2 = sN σ 2) : HQ g l t σ' := by
  obtain ⟨a, b, c, d, e, f, i⟩ := h
  unfold HQ
  rw [e1, e3, n3, n1, n2]
  exact ⟨a, b, c, d, e, f, i⟩
/-- the points' row is made longer -/
theorem Pre_z21 (p : Pre c g l t K K2 K3 K4 B KB f0 u0 σ fs u d r pb nf nc sq) : Pre c g l t K K2 K3 K4 B KB f0 u0 (uZ σ 21 44200) fs u d r pb nf nc sq ∧ MFr σ (uZ σ 21 44200) := by
  obtain ⟨mi, ty, w, h0, bo⟩ := p
  obtain ⟨m1, m2, m3, m4, m5, m6⟩ := mi
  have mf : MFr σ (uZ σ 21 44200) := by
    refine ⟨fun _ _ => rfl, fun _ _ => rfl, fun k hk => ?_, rfl, rfl⟩
    have k21 : ¬ k = 21 := by unfold rwM at hk; omega
    exact ⟨updG_other k21, if_neg k21⟩
  obtain ⟨v1, v2, v3, v4, v5, v6, v7, v8⟩ := m2
  have r21 : Rwk g (σ.2.2.1 3) K2 (fun i => if i < sN σ 21 then σ.2.2.1 21 i else 0) (uN (σ.1 1913)) := by
    intro j hj
    show Gw g (if j < sN σ 21 then σ.2.2.1 21 j else 0) ∧ (K2 j = none → Gv g (if j < sN σ 21 then σ.2.2.1 21 j else 0)) ∧ ∀ v, K2 j = some v → ((if j < sN σ 21 then σ.2.2.1 21 j else 0) = v ∧ Rr v) ∨ (Mkd g (σ.2.2.1 3) v (if j < sN σ 21 then σ.2.2.1 21 j else 0))
    rw [if_pos (by have := v3.1; omega)]
    exact v3.2.2 j hj
  refine ⟨⟨⟨HQ_ft m1 rfl rfl rfl rfl rfl, ⟨v1, v2, ⟨?_, ?_, r21⟩, v4, v5, v6, v7, v8⟩, CtL_M m3 mf, m4, SVK_g m5 (fun _ _ _ => rfl) rfl (fun _ => rfl) (Nat.le_refl _) ?_, m6⟩, ty, w, h0, bo⟩, mf⟩
  · show uN (σ.1 1913) ≤ 44200
    have := v3.1
    have := v3.2.1
    omega
  · show 44200 ≤ 44200
    exact Nat.le_refl _
  · show sN σ 21 ≤ 44200
    exact v3.2.1
/-- numbers that a point keeps -/
def vp (σ : CS) : Nat → Int32
  | 0 => rwN (uN (σ.1 1900) % 268435456)
  | 1 => rwN (uN (σ.1 1901) % 268435456)
  | 2 => rwN (uN (σ.1 1902) % 268435456)
  | 3 => rwN (uN (σ.1 1908) % 268435456)
  | 4 => rwN (uN (σ.1 1909) % 268435456)
  | _ => rwN (uN (σ.1 1910) % 268435456)
theorem vp_r (σ : CS) : ∀ i, Rr (vp σ i)
  | 0 => rwN_r (by omega)
  | 1 => rwN_r (by omega)
  | 2 => rwN_r (by omega)
  | 3 => rwN_r (by omega)
  | 4 => rwN_r (by omega)
  | _ + 5 => rwN_r (by omega)
/-- a point on its way into its row -/
def PtC (σ : CS) (top : Nat) (f : Nat → Int32) (n : Nat) : Prop := (∀ j, j < top → f j = σ.2.2.1 21 j) ∧ (∀ j, j < uN (σ.1 1902) → f (top + j) = σ.2.2.1 20 j) ∧ ∀ i, i < n → f (top + uN (σ.1 1902) + i) = vp σ i
theorem PtC_s {top n : Nat} {f : Nat → Int32} (h : PtC σ top f n) : PtC σ top (upd f (top + uN (σ.1 1902) + n) (vp σ n)) (n + 1) := by
  refine ⟨fun j hj => ?_, fun j hj => ?_, fun i hi => ?_⟩
  · rw [upd_other (by omega)]; exact h.1 j hj
  · rw [upd_other (by omega)]; exact h.2.1 j hj
  · by_cases z : i = n
    · rw [z, upd_same]
    · rw [upd_other (by omega)]; exact h.2.2 i (by omega)
/-- places of a point -/
def Kp (K K2 : Nat → Option Int32) (top sp : Nat) (v : Nat → Int32) : Nat → Option Int32 := fun j => if j < top then K2 j else if j < top + sp then K (j - top) else some (v (j - top - sp))
theorem mp_4 {ws : Nat} {ms : List Nat} (hms : ∀ i, i ∈ ms → i < bsl) (p : Pre c g l t K K2 K3 K4 B KB f0 u0 σ fs u 0 ((bsl + ws) :: ms) pb nf nc sq) {pc : Nat} (cs : tcS c u) (hz : f0 = 0 ∧ u0 = 0) (hu : u < 41) (hd : ws ≤ 200) (hpc : σ.1 1900 = nI (pc + 1)) (hp : pc + 1 < 36865) (nx : Nx c (pc + 1) u 1 ((bsl + ws) :: ms) rk) (nr : NxR c (pc + 1) u 1 ((bsl + ws) :: ms)) (hn : uN (σ.1 1912) < 20) (h1 : L.1 1 = σ.1 1913) (ht : uN (σ.1 1913) + uN (σ.1 1902) + 6 ≤ sN σ 21) : Tm (fun k => f_X3_makePoint k 4 L σ) (fun q => q.1.1 = 0 ∧ IO c B KB f0 u0 σ (mu σ (qv nf sq rk)) ((0, 0), q.2.1, (q.2.2.1 + 0, q.2.2.2 + 0))) := by
  have mi := p.1
  have ty := p.2.1
  obtain ⟨m1, m2, m3, m4, m5, m6, m7, m8, m9, m10, m11⟩ := mi
  obtain ⟨v1, v2, v3, v4, v5, v6, v7, v8⟩ := m2
  obtain ⟨st1, st2, st3⟩ := v1
  have ts := TyS_sp ty
  have cs0 := FC_S _ _ _ _ _ _ _ ty.2.1 cs
  generalize hT : uN (σ.1 1913) = top at *
  have n21 := v3.2.1
  have s21 : sN σ 21 ≤ 2147483648 := by omega
  have e1 : uN (L.1 1) = top := by rw [h1]; exact hT
  have u1 : uN (1 : Int32) = 1 := rfl
  have u2 : uN (2 : Int32) = 2 := rfl
  have u3 : uN (3 : Int32) = 3 := rfl
  have u4 : uN (4 : Int32) = 4 := rfl
  have u5 : uN (5 : Int32) = 5 := rfl
  have u6 : uN (6 : Int32) = 6 := rfl
  generalize hS : uN (σ.1 1902) = sp at *
  -- the last steps
  have b10 : ∀ (L' : LV) (f : Nat → Int32) (τ : CS), PtC σ top f 6 → τ.2 = (uF σ 21 f).2 → (∀ j, ¬ (j = 1911 ∨ j = 1912 ∨ j = 1913) → τ.1 j = σ.1 j) → uN (τ.1 1912) = uN (σ.1 1912) + 1 → uN (τ.1 1913) = top + sp + 6 → Tm (fun k => f_X3_makePoint k 10 L' τ) (fun q => q.1.1 = 0 ∧ IO c B KB f0 u0 σ (mu σ (qv nf sq rk)) ((0, 0), q.2.1, (q.2.2.1 + 0, q.2.2.2 + 0))) := by
    intro L' f τ hf τ2 τe e12 e13
    refine Tm_suc (fun k => by rw [f_X3_makePoint]) ?_
    generalize hH : uI τ 1911 (τ.1 1911 + τ.1 1909) = ρ
    have ρe : ∀ j, ¬ (j = 1911 ∨ j = 1912 ∨ j = 1913) → ρ.1 j = σ.1 j := fun j hj => by
      rw [← hH]
      show upd τ.1 1911 _ j = _
      rw [upd_other (by omega)]
      exact τe j hj
    have ρ12 : ρ.1 1912 = τ.1 1912 := by rw [← hH]; rfl
    have ρ13 : ρ.1 1913 = τ.1 1913 := by rw [← hH]; rfl
    have ρ2 : ρ.2 = (uF σ 21 f).2 := by rw [← hH]; exact τ2
    have ρk : ∀ k, ¬ k = 21 → ρ.2.2.1 k = σ.2.2.1 k := fun k hk => by rw [ρ2]; exact updG_other hk
    have ρ21 : ρ.2.2.1 21 = f := by rw [ρ2]; rfl
    have ρn : ∀ k, sN ρ k = sN σ k := fun k => by show ρ.2.2.2.2.1 k = _; rw [ρ2]; rfl
    have mf : MFr σ ρ := ⟨fun j hj => ρe j (by omega), fun j _ => by rw [ρ2]; rfl, fun k hk => ⟨ρk k (by unfold rwM at hk; omega), ρn k⟩, by rw [ρ2]; rfl, by rw [ρ2]; rfl⟩
    have us : usI ρ = usI σ := by
      have p8 : sPi ρ 8 = sPi σ 8 := by show ρ.2.2.2.2.2.2 8 = _; rw [ρ2]; rfl
      unfold usI
      rw [p8, ρe 2405 (by decide), ρe 2403 (by decide), ρe (100 * (28 + sPi σ 8) + 2) (by omega), ρe (100 * (28 + sPi σ 8) + 13) (by omega)]
    have rk2 : Rwk g (σ.2.2.1 3) (Kp K K2 top sp (vp σ)) f (top + sp + 6) := by
      intro j hj
      unfold Kp
      by_cases z1 : j < top
      · rw [if_pos z1, hf.1 j z1]
        exact v3.2.2 j z1
      · rw [if_neg z1]
        by_cases z2 : j < top + sp
        · rw [if_pos z2]
          have q := hf.2.1 (j - top) (by omega)
          rw [show top + (j - top) = j from by omega] at q
          rw [q]
          exact st3 _ (by omega)
        · rw [if_neg z2]
          have q := hf.2.2 (j - top - sp) (by omega)
          rw [hS, show top + sp + (j - top - sp) = j from by omega] at q
          rw [q]
          exact Rwp (vp_r σ _)
    have vi : VI g K (Kp K K2 top sp (vp σ)) K3 K4 ρ := by
      refine ⟨?_, ?_, ⟨?_, ?_, ?_⟩, ?_, ?_, ?_, ?_, ?_⟩
      · rw [ρe 1902 (by decide), hS, ρn, ρk 20 (by decide), ρk 3 (by decide)]; exact ⟨st1, st2, st3⟩
      · rw [ρk 23 (by decide), ρk 3 (by decide)]; exact v2
      · rw [ρ13, e13, ρn]; exact ht
      · rw [ρn]; exact n21
      · rw [ρ13, e13, ρ21, ρk 3 (by decide)]; exact rk2
      · rw [ρk 67 (by decide), ρk 3 (by decide)]; exact v4
      · show ρ.2.2.2.2.2.2 8 < 9
        rw [ρ2]; exact v5
      · rw [us, ρn]; exact v6
      · rw [ρn]; exact v7
      · rw [us, ρk 26 (by decide), ρk 3 (by decide)]; exact v8
    have fcb := (FC_b _ _ _ _ _ _ _ ty.2.1).2.2 cs
    obtain ⟨rk', r1, r2, r3⟩ := nr
    have run : RUN c K (pc + 1) (uN (σ.1 1901)) sp nc 1 := by
      refine ⟨u, ws, rk', sq, fs, ms, ⟨r1, hms⟩, r2, ?_, hd, by have z := ty.2.2.1; rw [bt_0] at z; exact z, cs, hu, ?_, ty.2.2.2.2.2.2.1, by omega, ?_⟩
      · have z := ty.1
        rw [hS] at z
        exact z
      · have z := ty.2.1
        rw [hz.1, hz.2, fcb.1, fcb.2.1] at z
        exact FC_k z (fun _ _ => rfl) (fun p hp => absurd hp (Nat.not_lt_zero p))
      · have tb := TyS_B ty
        rw [hz.1, hz.2, hS] at tb
        refine ⟨by omega, fun j hj => ?_⟩
        rw [m6 j (by omega)]
        rcases p.2.2.2.2 with y | y
        · omega
        · exact y.1 j
    have e8 := ty.2.2.2.2.2.1 cs0
    have n50 := ty.2.2.2.2.2.2.1
    have pok : POK c (Kp K K2 top sp (vp σ)) (sN ρ 20) (uN (ρ.1 1912)) (uN (ρ.1 1913)) := by
      rw [ρ12, ρ13, e12, e13, ρn]
      have kp : ∀ i, Kp K K2 top sp (vp σ) (top + sp + i) = some (vp σ i) := fun i => by
        unfold Kp
        rw [if_neg (by omega), if_neg (by omega), show top + sp + i - top - sp = i from by omega]
      have k0 := kp 0
      refine ⟨top, pc + 1, uN (σ.1 1901), sp, nc, vp σ 4, vp σ 5, rfl, ⟨?_, ?_, ?_, ?_, kp 4, kp 5⟩, ⟨vp_r σ 4, vp_r σ 5, st1⟩, ?_, ?_⟩
      · rw [Nat.add_zero] at k0
        rw [k0]
        show some (rwN (uN (σ.1 1900) % 268435456)) = _
        rw [hpc, u_n (by omega), Nat.mod_eq_of_lt (by omega)]
      · rw [kp 1]
        show some (rwN (uN (σ.1 1901) % 268435456)) = _
        rw [Nat.mod_eq_of_lt (by omega)]
      · rw [kp 2]
        show some (rwN (uN (σ.1 1902) % 268435456)) = _
        rw [hS, Nat.mod_eq_of_lt (by omega)]
      · rw [kp 3]
        show some (rwN (uN (σ.1 1908) % 268435456)) = _
        rw [e8, Nat.mod_eq_of_lt (by omega)]
      · refine RUN_eq run (fun j hj => ?_)
        show Kp K K2 top sp (vp σ) (top + j) = K j
        unfold Kp
        rw [if_neg (by omega), if_pos (by omega), show top + j - top = j from by omega]
      · refine POK_eq (Nat.le_refl _) _ _ (fun j hj => ?_) m4
        unfold Kp
        rw [if_pos hj]
    have miρ : MIn c g l t K (Kp K K2 top sp (vp σ)) K3 K4 B KB ρ := by
      refine ⟨HQ_fr m1 (ρe 1 (by decide)) (ρk 3 (by decide)) (by rw [ρ2]; rfl), vi, CtL_M m3 mf, pok, SVK_g m5 (fun j h1 h2 => ρe j (by omega)) (ρk 27 (by decide)) (fun i => by show ρ.2.2.2.2.2.2 i = _; rw [ρ2]; rfl) (by rw [ρn]; exact Nat.le_refl _) (by rw [ρn]; exact Nat.le_refl _), m6, ?_, ?_, ?_, ?_, ?_⟩
      · rw [ρe 1902 (by decide), hS]; exact m7
      · rw [ρe 1903 (by decide), ρe 1814 (by decide)]; exact m8
      · rw [ρ12, e12]; omega
      · rw [ρe 1914 (by decide)]; exact m10
      · rw [ρe 1915 (by decide)]; exact m11
    refine Tm_oxc (c_push (by rw [ρe 1902 (by decide), hS, ρn]; exact st1) (by rw [ρn]; exact st2)) (fun q z => by rw [z.1]) (fun q z => ?_)
    have z' : PuO ρ (-1879048191) 1 q := z
    have pm := pu_MIn (σ' := q.2.1) (x := -1879048191) miρ (Or.inl ⟨by decide, by decide⟩) z' rfl (fun _ _ => rfl)
    refine Tm_some ⟨rfl, ?_⟩
    have ph := Ph_s (σ := σ) (σ' := ρ) (by rw [ρ2]; rfl)
    obtain ⟨p1, p2, p3⟩ := pm
    have c1 : q.2.2.1 + 0 + PhC q.2.1 ≤ PhC ρ := p3.1
    have c2 : q.2.2.2 + 0 + PhS q.2.1 ≤ PhS ρ := p3.2
    refine ⟨rfl, ⟨by show q.2.2.1 + 0 + 0 + PhC q.2.1 ≤ _; omega, by show q.2.2.2 + 0 + 0 + PhS q.2.1 ≤ _; omega⟩, MFr_t mf (Md_M p2), fun n => absurd cs0 n, g, l, t, _, _, _, _, p1, fun h0 => ?_, fun h0 => ?_⟩
    rotate_left
    · rcases z'.2.2.2.2.2.2 with y | y
      · exact absurd (y.2.2.2.1.trans ((ρe 1812 (by decide)).trans p.2.2.2.1)) h0
      · exact Or.inl y.2.2.2.2
    have h0' : q.2.1.1 1812 = 0 := h0
    obtain ⟨a1, a2, a3, a4, a5, a6, a7⟩ := z'
    rcases a7 with ⟨b1, b2, b3, b4, b5, b6⟩ | ⟨b1, b2, b3, b4⟩
    · have q2 : uN (ρ.1 1902) = sp := by rw [ρe 1902 (by decide)]; exact hS
      rw [q2] at b1 ⊢
      have fe : ∀ j, ¬ (j = 1 ∨ j = 404 ∨ j = 1203 ∨ j = 1812 ∨ j = 1813 ∨ j = 1902 ∨ j = 1905 ∨ j = 1911 ∨ j = 1912 ∨ j = 1913) → q.2.1.1 j = σ.1 j := fun j hj => (a3.1 j (by omega)).trans (ρe j (by omega))
      have hs : SL (Kw K sp 1 none) (uN (σ.1 1901) + 4) (uN (q.2.1.1 1902)) (0 + 1) ((bsl + ws) :: ms) := by
        rw [b1]
        have z := ty.1
        rw [hS] at z
        exact SL_pu 1 z
      have tyn := TyS_k ty ⟨fe 1901 (by decide), fe 1815 (by decide), fe 1811 (by decide), fe 1908 (by decide)⟩ hs (fun p hp => Kw_o (Or.inl (by omega))) r3 ty.2.2.2.2.2.2.2.2
      refine go_n tyn p.2.2.1 (b6.trans (ρe 1905 (by decide))) (fe 1814 (by decide)) ?_
      rw [fe 1900 (by decide), hpc, u_n (by omega)]
      exact nx
    · rw [b3] at h0'
      exact absurd h0' (by decide)
  have b9 : ∀ (L' : LV) (f : Nat → Int32) (τ : CS), τ = uF σ 21 f → PtC σ top f 5 → uN (L'.1 1) = top + sp → uN (L'.1 101) = top + sp + 5 → L'.1 100 = vp σ 5 → Tm (fun k => f_X3_makePoint k 9 L' τ) (fun q => q.1.1 = 0 ∧ IO c B KB f0 u0 σ (mu σ (qv nf sq rk)) ((0, 0), q.2.1, (q.2.2.1 + 0, q.2.2.2 + 0))) := by
    intro L' f τ e hf l1 l101 l100
    subst e
    have ps := PtC_s hf
    rw [hS] at ps
    refine Tm_suc (fun k => by rw [f_X3_makePoint]) ?_
    refine Tm_chk (u_in (x := L'.1 101) (by show _ < sN σ 21; omega) s21) ?_
    refine b10 _ (upd f (top + sp + 5) (vp σ 5)) _ ps ?_ (fun j hj => ?_) ?_ ?_
    · show (uA (uF σ 21 f) 21 (L'.1 101).toNatClampNeg (L'.1 100)).2 = _
      rw [uF_a, u_cl (by omega), l101, l100]
    · show upd (upd σ.1 1913 _) 1912 _ j = _
      rw [upd_other (by omega), upd_other (by omega)]
    · show uN (σ.1 1912 + 1) = _
      rw [u_inc (by omega)]
    · show uN (L'.1 1 + 6) = _
      rw [u_add (by omega), l1, u6]
  have b8 : ∀ (L' : LV) (f : Nat → Int32) (τ : CS), τ = uF σ 21 f → PtC σ top f 4 → uN (L'.1 1) = top + sp → Tm (fun k => f_X3_makePoint k 8 L' τ) (fun q => q.1.1 = 0 ∧ IO c B KB f0 u0 σ (mu σ (qv nf sq rk)) ((0, 0), q.2.1, (q.2.2.1 + 0, q.2.2.2 + 0))) := by
    intro L' f τ e hf l1
    subst e
    have ps := PtC_s hf
    rw [hS] at ps
    have e4 : uN (L'.1 1 + 4) = top + sp + 4 := by rw [u_add (by omega), l1, u4]
    refine Tm_suc (fun k => by rw [f_X3_makePoint]) ?_
    refine Tm_op c_raw (fun q1 z1 => ?_)
    rw [z1]
    refine Tm_chk (u_in (x := L'.1 1 + 4) (by show _ < sN σ 21; omega) s21) ?_
    refine Tm_op c_raw (fun q2 z2 => ?_)
    rw [z2]
    refine b9 _ (upd f (top + sp + 4) (vp σ 4)) _ ?_ ps l1 ?_ rfl
    · show uA (uF σ 21 f) 21 (L'.1 1 + 4).toNatClampNeg (vp σ 4) = _
      rw [uF_a, u_cl (by omega), e4]
    · show uN (L'.1 1 + 5) = _
      rw [u_add (by omega), l1, u5]
  have b7 : ∀ (L' : LV) (f : Nat → Int32) (τ : CS), τ = uF σ 21 f → PtC σ top f 2 → uN (L'.1 1) = top + sp → uN (L'.1 101) = top + sp + 2 → L'.1 100 = vp σ 2 → Tm (fun k => f_X3_makePoint k 7 L' τ) (fun q => q.1.1 = 0 ∧ IO c B KB f0 u0 σ (mu σ (qv nf sq rk)) ((0, 0), q.2.1, (q.2.2.1 + 0, q.2.2.2 + 0))) := by
    intro L' f τ e hf l1 l101 l100
    subst e
    have ps := PtC_s (PtC_s hf)
    rw [hS] at ps
    have e3 : uN (L'.1 1 + 3) = top + sp + 3 := by rw [u_add (by omega), l1, u3]
    refine Tm_suc (fun k => by rw [f_X3_makePoint]) ?_
    refine Tm_chk (u_in (x := L'.1 101) (by show _ < sN σ 21; omega) s21) ?_
    refine Tm_op c_raw (fun q2 z2 => ?_)
    rw [z2]
    refine Tm_chk (u_in (x := L'.1 1 + 3) (by show _ < sN σ 21; omega) s21) ?_
    refine b8 _ (upd (upd f (top + sp + 2) (vp σ 2)) (top + sp + 3) (vp σ 3)) _ ?_ ps l1
    show uA (uA (uF σ 21 f) 21 (L'.1 101).toNatClampNeg (L'.1 100)) 21 (L'.1 1 + 3).toNatClampNeg (vp σ 3) = _
    rw [uF_a, uF_a, u_cl (x := L'.1 101) (by omega), u_cl (x := L'.1 1 + 3) (by omega), e3, l101, l100]
  have b6 : ∀ (L' : LV) (f : Nat → Int32) (τ : CS), τ = uF σ 21 f → PtC σ top f 1 → uN (L'.1 1) = top + sp → Tm (fun k => f_X3_makePoint k 6 L' τ) (fun q => q.1.1 = 0 ∧ IO c B KB f0 u0 σ (mu σ (qv nf sq rk)) ((0, 0), q.2.1, (q.2.2.1 + 0, q.2.2.2 + 0))) := by
    intro L' f τ e hf l1
    subst e
    have ps := PtC_s hf
    rw [hS] at ps
    have e1' : uN (L'.1 1 + 1) = top + sp + 1 := by rw [u_inc (by omega), l1]
    refine Tm_suc (fun k => by rw [f_X3_makePoint]) ?_
    refine Tm_op c_raw (fun q1 z1 => ?_)
    rw [z1]
    refine Tm_chk (u_in (x := L'.1 1 + 1) (by show _ < sN σ 21; omega) s21) ?_
    refine Tm_op c_raw (fun q2 z2 => ?_)
    rw [z2]
    refine b7 _ (upd f (top + sp + 1) (vp σ 1)) _ ?_ ps l1 ?_ rfl
    · show uA (uF σ 21 f) 21 (L'.1 1 + 1).toNatClampNeg (vp σ 1) = _
      rw [uF_a, u_cl (by omega), e1']
    · show uN (L'.1 1 + 2) = _
      rw [u_add (by omega), l1, u2]
  have e02 : uN (σ.1 1902) = sp := hS
  refine Tm_suc (fun k => by rw [f_X3_makePoint]) ?_
  refine Tm_chk ⟨by decide, ?_, ?_, ?_, ?_⟩ ?_
  · rw [u_neg]; omega
  · rw [u_neg]; omega
  · show 0 + (σ.1 1902).toNatClampNeg ≤ sN σ 20
    rw [u_cl (by omega)]; omega
  · show (L.1 1).toNatClampNeg + (σ.1 1902).toNatClampNeg ≤ sN σ 21
    rw [u_cl (by omega), u_cl (by omega)]; omega
  generalize hf0 : va_cpy (σ.2.2.1 20) (σ.2.2.1 21) (0 : Int32).toNatClampNeg (L.1 1).toNatClampNeg (σ.1 1902).toNatClampNeg = fa
  have pf0 : PtC σ top fa 0 := by
    rw [← hf0, u_cl (x := L.1 1) (by omega), u_cl (x := σ.1 1902) (by omega), e1, e02]
    refine ⟨fun j hj => ?_, fun j hj => ?_, fun i hi => absurd hi (Nat.not_lt_zero i)⟩
    · unfold va_cpy
      rw [if_neg (by omega)]
    · rw [e02] at hj
      unfold va_cpy
      rw [if_pos (by omega)]
      show σ.2.2.1 20 (0 + (top + j - top)) = _
      rw [show 0 + (top + j - top) = j from by omega]
  have ps := PtC_s pf0
  rw [hS, Nat.add_zero] at ps
  have es : uN (L.1 1 + σ.1 1902) = top + sp := by rw [u_add (by omega), e1, e02]
  refine Tm_suc (fun k => by rw [f_X3_makePoint]) ?_
  refine Tm_op c_raw (fun q1 z1 => ?_)
  rw [z1]
  refine Tm_chk (u_in (x := L.1 1 + σ.1 1902) (by show _ < sN σ 21; omega) s21) ?_
  refine b6 _ (upd fa (top + sp) (vp σ 0)) _ ?_ ps es
  show uA (uF σ 21 fa) 21 (L.1 1 + σ.1 1902).toNatClampNeg (vp σ 0) = _
  rw [uF_a, u_cl (by omega), es]
theorem c_makePoint {ws : Nat} {ms : List Nat} (hms : ∀ i, i ∈ ms → i < bsl) (p : Pre c g l t K K2 K3 K4 B KB f0 u0 σ fs u 0 ((bsl + ws) :: ms) pb nf nc sq) {pc : Nat} (cs : tcS c u) (hz : f0 = 0 ∧ u0 = 0) (hu : u < 41) (hd : ws ≤ 200) (hpc : σ.1 1900 = nI (pc + 1)) (hp : pc + 1 < 36865) (nx : Nx c (pc + 1) u 1 ((bsl + ws) :: ms) rk) (nr : NxR c (pc + 1) u 1 ((bsl + ws) :: ms)) : Tm (fun k => f_X3_makePoint k 0 L σ) (fun q => q.1.1 = 0 ∧ IO c B KB f0 u0 σ (mu σ (qv nf sq rk)) ((0, 0), q.2.1, (q.2.2.1 + 0, q.2.2.2 + 0))) := by
  have fail : ∀ (τ : CS) (m : Nat), Pre c g l t K K2 K3 K4 B KB f0 u0 τ fs u 0 ((bsl + ws) :: ms) pb nf nc sq → Tm (fun k => Jvm.Pilot.CSetHouseLaw_law_r6264_2ea8b6.op (y_X3_fail k 0 (lI lZ 1 6) τ) (fun r2 => some ((0, 0), r2.2, (0, 0)))) (fun q => q.1.1 = 0 ∧ IO c B KB f0 u0 τ m ((0, 0), q.2.1, (q.2.2.1 + 0, q.2.2.2 + 0))) := by
    intro τ m pt
    refine Tm_op c_fail (fun q e => ?_)
    rw [e]
    refine Tm_some ⟨rfl, ha_fin pt rfl (fun j hj => ?_) rfl (f13 (by decide))⟩
    show upd (upd τ.1 1813 _) 1812 1 j = _
    rw [upd_other (by omega), upd_other (by omega)]
  have b1 : ∀ L' : LV, Tm (fun k => f_X3_makePoint k 1 L' σ) (fun q => q.1.1 = 0 ∧ IO c B KB f0 u0 σ (mu σ (qv nf sq rk)) ((0, 0), q.2.1, (q.2.2.1 + 0, q.2.2.2 + 0))) := by
    intro L'
    refine Tm_suc (fun k => by rw [f_X3_makePoint]) ?_
    exact fail σ _ p
  have m9 := p.1.2.2.2.2.2.2.2.2.1
  have v3 := p.1.2.1.2.2.1
  have st := p.1.2.1.1
  have u6 : uN (6 : Int32) = 6 := rfl
  have ea : uN (σ.1 1913 + σ.1 1902 + 6) = uN (σ.1 1913) + uN (σ.1 1902) + 6 := by
    have e1 : uN (σ.1 1913 + σ.1 1902) = uN (σ.1 1913) + uN (σ.1 1902) := u_add (by omega)
    rw [u_add (by omega), e1, u6]
  refine Tm_suc (fun k => by rw [f_X3_makePoint]) ?_
  refine Tm_ite (fun _ => b1 _) (fun c20 => ?_)
  have u20 : uN (20 : Int32) = 20 := rfl
  rw [u_le (by decide) (by omega), u20] at c20
  refine Tm_ite (fun _ => ?_) (fun _ => b1 _)
  have b3 : ∀ (τ : CS), Pre c g l t K K2 K3 K4 B KB f0 u0 τ fs u 0 ((bsl + ws) :: ms) pb nf nc sq → τ.1 = σ.1 → sN τ 21 ≤ 44200 → Tm (fun k => f_X3_makePoint k 3 (lI L 1 (σ.1 1913)) τ) (fun q => q.1.1 = 0 ∧ IO c B KB f0 u0 τ (mu τ (qv nf sq rk)) ((0, 0), q.2.1, (q.2.2.1 + 0, q.2.2.2 + 0))) := by
    intro τ pt e1 e21
    refine Tm_suc (fun k => by rw [f_X3_makePoint]) ?_
    refine Tm_ite (fun c3 => ?_) (fun _ => fail τ _ pt)
    have c3' : σ.1 1913 + τ.1 1902 + 6 ≤ nI (sN τ 21) := c3
    rw [e1, u_le (by omega) (by rw [u_n (by omega)]; omega), ea, u_n (by omega)] at c3'
    exact mp_4 hms pt cs hz hu hd (by rw [e1]; exact hpc) hp nx nr (by rw [e1]; omega) (by rw [e1]; rfl) (by rw [e1]; exact c3')
  refine Tm_suc (fun k => by rw [f_X3_makePoint]) ?_
  refine Tm_chk ⟨by decide, by decide, by omega⟩ ?_
  refine Tm_ite (fun cz => ?_) (fun _ => b3 σ p rfl v3.2.1)
  refine Tm_adR ?_
  obtain ⟨pz, mf⟩ := Pre_z21 p
  have ph := Ph_z21 (σ := σ) cz.2
  refine Tm_mono (b3 _ pz rfl (Nat.le_refl _)) (fun q z => ⟨z.1, ?_⟩)
  have zz := IO_k (c1 := 1) (c2 := 44200) mf (fun _ _ _ _ => rfl) (by omega) (by omega) z.2
  show IO c B KB f0 u0 σ (mu σ (qv nf sq rk)) ((0, 0), q.2.1, (1 + q.2.2.1 + 0, 44200 + q.2.2.2 + 0))
  rw [show (1 + q.2.2.1 + 0, 44200 + q.2.2.2 + 0) = (1 + (q.2.2.1 + 0), 44200 + (q.2.2.2 + 0)) from by rw [Nat.add_assoc, Nat.add_assoc]]
  exact zz
end CSZ
end JnS388
section JnS389
/-! The class: points are given up. -/
section CTA
variable {g g' g2 : Nat → Prop} {l l' l2 : List Nat} {t t' t2 : Nat} {σ σ' σ2 : CS} {L : LV} {x y i : Int32} {M M' U U' : Nat → Int32} {K K' K2 K2' K3 K4 KB : Nat → Option Int32} {c : Ct} {B f0 u0 : Nat} {fs : List FrT} {u d : Nat} {r : List Nat} {pb nf nc sq rk : Nat}
/-- the run's numbers and its stack, and fewer points -/
theorem MIn_p (mi : MIn c g l t K K2 K3 K4 B KB σ) {f : Nat → Int32} (e2 : σ'.2 = (uF σ 20 f).2) (ej : ∀ j, ¬ ((1811 ≤ j ∧ j ≤ 1816) ∨ (1900 ≤ j ∧ j ≤ 1913)) → σ'.1 j = σ.1 j) (pok : POK c K2 (sN σ 20) (uN (σ'.1 1912)) (uN (σ'.1 1913))) (h12 : uN (σ'.1 1912) ≤ 20) (h13 : uN (σ'.1 1913) ≤ uN (σ.1 1913)) (hs : uN (σ'.1 1902) ≤ sN σ 20) (hf : Rwk g (σ.2.2.1 3) K' f (uN (σ'.1 1902))) (hb : B ≤ uN (σ'.1 1902)) (hk : ∀ j, j < B → K' j = KB j) (lf : uN (σ'.1 1903) + uN (σ'.1 1814) ≤ 10240000) : MIn c g l t K' K2 K3 K4 B KB σ' ∧ MFr σ σ' := by
  obtain ⟨m1, m2, m3, m4, m5, m6, m7, m8, m9, m10, m11⟩ := mi
  obtain ⟨v1, v2, v3, v4, v5, v6, v7, v8⟩ := m2
  have ρk : ∀ k, ¬ k = 20 → σ'.2.2.1 k = σ.2.2.1 k := fun k hk => by rw [e2]; exact updG_other hk
  have ρ20 : σ'.2.2.1 20 = f := by rw [e2]; rfl
  have ρn : ∀ k, sN σ' k = sN σ k := fun k => by show σ'.2.2.2.2.1 k = _; rw [e2]; rfl
  have p8 : ∀ i, sPi σ' i = sPi σ i := fun i => by show σ'.2.2.2.2.2.2 i = _; rw [e2]; rfl
  have us : usI σ' = usI σ := by
    unfold usI
    rw [p8, ej 2405 (by decide), ej 2403 (by decide), ej (100 * (28 + sPi σ 8) + 2) (by omega), ej (100 * (28 + sPi σ 8) + 13) (by omega)]
  have mf : MFr σ σ' := ⟨fun j hj => ej j (by omega), fun j _ => by rw [e2]; rfl, fun k hk => ⟨ρk k (by unfold rwM at hk; omega), ρn k⟩, by rw [e2]; rfl, by rw [e2]; rfl⟩
  refine ⟨⟨HQ_fr m1 (ej 1 (by decide)) (ρk 3 (by decide)) (by rw [e2]; rfl), ?_, CtL_M m3 mf, by rw [ρn]; exact pok, SVK_g m5 (fun j h1 h2 => ej j (by omega)) (ρk 27 (by decide)) p8 (by rw [ρn]; exact Nat.le_refl _) (by rw [ρn]; exact Nat.le_refl _), hk, ⟨m7.1, hb⟩, lf, h12, by rw [ej 1914 (by decide)]; exact m10, by rw [ej 1915 (by decide)]; exact m11⟩, mf⟩
  refine ⟨⟨by rw [ρn]; exact hs, by rw [ρn]; exact v1.2.1, by rw [ρ20, ρk 3 (by decide)]; exact hf⟩, by rw [ρk 23 (by decide), ρk 3 (by decide)]; exact v2, ⟨?_, by rw [ρn]; exact v3.2.1, ?_⟩, by rw [ρk 67 (by decide), ρk 3 (by decide)]; exact v4, by rw [p8]; exact v5, by rw [us, ρn]; exact v6, by rw [ρn]; exact v7, by rw [us, ρk 26 (by decide), ρk 3 (by decide)]; exact v8⟩
  · rw [ρn]
    have := v3.1
    omega
  · rw [ρk 21 (by decide), ρk 3 (by decide)]
    exact fun j hj => v3.2.2 j (by omega)
theorem c_leavePoint (p : Pre c g l t K K2 K3 K4 B KB f0 u0 σ fs u d r pb nf nc sq) {pc : Nat} (cs : tcS c u) (hz : f0 = 0 ∧ u0 = 0) (hpc : σ.1 1900 = nI (pc + 1)) (hp : pc + 1 < 36865) (n0 : L.1 1 = 0 → Nx c (pc + 1) u d r rk) (n1 : ¬ L.1 1 = 0 → 72 * (RK + 1) ≤ rk) : Tm (fun k => f_X3_leavePoint k 0 L σ) (fun q => q.1.1 = 0 ∧ IO c B KB f0 u0 σ (mu σ (qv nf sq rk)) ((0, 0), q.2.1, (q.2.2.1 + 0, q.2.2.2 + 0))) := by
  have mi := p.1
  have ty := p.2.1
  have v3 := mi.2.1.2.2.1
  obtain ⟨st1, st2, st3⟩ := mi.2.1.1
  have ts := TyS_sp ty
  have cs0 := FC_S _ _ _ _ _ _ _ ty.2.1 cs
  have m9 := mi.2.2.2.2.2.2.2.2.1
  have pok := mi.2.2.2.1
  refine Tm_suc (fun k => by rw [f_X3_leavePoint]) ?_
  refine Tm_ite (fun _ => ?_) (fun cn => ?_)
  · refine Tm_op c_fail (fun q e => ?_)
    rw [e]
    refine Tm_some ⟨rfl, ha_fin p rfl (fun j hj => ?_) rfl (f13 (by decide))⟩
    show upd (upd σ.1 1813 _) 1812 1 j = _
    rw [upd_other (by omega), upd_other (by omega)]
  have u0' : uN (0 : Int32) = 0 := rfl
  have cn' : ¬ uN (σ.1 1912) = 0 := fun z => cn (u_eq.2 (by rw [z]; exact u0'.symm))
  obtain ⟨n, hn⟩ : ∃ n, uN (σ.1 1912) = n + 1 := ⟨uN (σ.1 1912) - 1, by omega⟩
  rw [hn] at pok
  obtain ⟨off, pcp, fpp, spp, ncp, z4, z5, e13, ⟨a0, a1, a2, a3, a4, a5⟩, ⟨rz4, rz5, spN⟩, run, pokn⟩ := pok
  have rs := RUN_sp run
  obtain ⟨ru, rd, rr, rsq, rfs, rms, ⟨w1, w1m⟩, w2, w3, w4, w5, w6, w7, w8, w9, w10, w11, w12⟩ := run
  have n21 := v3.2.1
  have t21 := v3.1
  have s21 : sN σ 21 ≤ 2147483648 := by omega
  have pin : ∀ {q : Nat} {v : Int32}, q < uN (σ.1 1913) → K2 q = some v → Rr v → σ.2.2.1 21 q = v := fun h k hr => (((v3.2.2 _ h).2.2 _ k).resolve_right (mk_nm hr)).1
  have p0 := pin (by omega) a0 (rwN_r (by omega))
  have p1 := pin (by omega) a1 (rwN_r (by omega))
  have p2 := pin (by omega) a2 (rwN_r (by omega))
  have p3 := pin (by omega) a3 (rwN_r (by omega))
  have u1 : uN (1 : Int32) = 1 := rfl
  have u2 : uN (2 : Int32) = 2 := rfl
  have u3 : uN (3 : Int32) = 3 := rfl
  have u4 : uN (4 : Int32) = 4 := rfl
  have u5 : uN (5 : Int32) = 5 := rfl
  have u6 : uN (6 : Int32) = 6 := rfl
  have et : uN (σ.1 1913 - 6) = off + spp := by rw [u_sub (by omega), u6]; omega
  have et2 : uN (σ.1 1913 - 6 + 2) = off + spp + 2 := by rw [u_add (by omega), et, u2]
  have et4 : uN (σ.1 1913 - 6 + 4) = off + spp + 4 := by rw [u_add (by omega), et, u4]
  have kbn : ∀ j, KB j = KH j := by
    rcases p.2.2.2.2 with y | y
    · have := mi.2.2.2.2.2.2.1.1
      omega
    · exact y.1
  have bB : B ≤ 4 + tcF c 0 := by
    rcases p.2.2.2.2 with y | y
    · have := mi.2.2.2.2.2.2.1.1
      omega
    · have y2 := y.2
      rw [hz.1, hz.2] at y2
      omega
  -- all is as then
  have b8 : ∀ (τ : CS) (L' : LV), τ.2 = (uF σ 20 (va_cpy (σ.2.2.1 21) (σ.2.2.1 20) off 0 spp)).2 → (∀ j, ¬ (j = 1900 ∨ j = 1901 ∨ j = 1902 ∨ (1908 ≤ j ∧ j ≤ 1913)) → τ.1 j = σ.1 j) → uN (τ.1 1900) = pcp → uN (τ.1 1901) = fpp → uN (τ.1 1902) = spp → uN (τ.1 1908) = ncp → uN (τ.1 1912) = n → uN (τ.1 1913) = off → 72 * (RK + 1) ≤ rk → Tm (fun k => f_X3_leavePoint k 8 L' τ) (fun q => q.1.1 = 0 ∧ IO c B KB f0 u0 σ (mu σ (qv nf sq rk)) ((0, 0), q.2.1, (q.2.2.1 + 0, q.2.2.2 + 0))) := by
    intro τ L' τ2 τe t0 t1 t2' t8 t12 t13 hrk
    have cpy : ∀ j, j < spp → va_cpy (σ.2.2.1 21) (σ.2.2.1 20) off 0 spp j = σ.2.2.1 21 (off + j) := by
      intro j hj
      unfold va_cpy
      rw [if_pos (by omega), Nat.sub_zero]
    have hf : Rwk g (σ.2.2.1 3) (fun j => K2 (off + j)) (va_cpy (σ.2.2.1 21) (σ.2.2.1 20) off 0 spp) (uN (τ.1 1902)) := by
      rw [t2']
      intro j hj
      rw [cpy j hj]
      exact v3.2.2 (off + j) (by omega)
    have mt := MIn_p (σ' := τ) (K' := fun j => K2 (off + j)) mi τ2 (fun j hj => τe j (by omega)) (by rw [t12, t13]; exact pokn) (by rw [t12]; omega) (by rw [t13]; omega) (by rw [t2']; exact spN) hf (by rw [t2']; omega) (fun j hj => (w12 j (by omega)).trans (kbn j).symm) (by rw [τe 1903 (by decide), τe 1814 (by decide)]; exact mi.2.2.2.2.2.2.2.1)
    obtain ⟨miτ, mf⟩ := mt
    have st' := miτ.2.1.1
    refine Tm_suc (fun k => by rw [f_X3_leavePoint]) ?_
    refine Tm_oxc (c_push st'.1 st'.2.1) (fun q z => by rw [z.1]) (fun q z => ?_)
    have z' : PuO τ (-1879048192) 1 q := z
    have pm := pu_MIn (σ' := q.2.1) (x := -1879048192) miτ (Or.inl ⟨by decide, by decide⟩) z' rfl (fun _ _ => rfl)
    obtain ⟨q1, q2, q3⟩ := pm
    refine Tm_suc (fun k => by rw [f_X3_leavePoint]) ?_
    refine Tm_some ⟨rfl, ?_⟩
    have ph := Ph_s (σ := σ) (σ' := τ) (by rw [τ2]; rfl)
    have c1 : q.2.2.1 + 0 + PhC q.2.1 ≤ PhC τ := q3.1
    have c2 : q.2.2.2 + 0 + PhS q.2.1 ≤ PhS τ := q3.2
    refine ⟨rfl, ⟨by show q.2.2.1 + 0 + 0 + PhC q.2.1 ≤ _; omega, by show q.2.2.2 + 0 + 0 + PhS q.2.1 ≤ _; omega⟩, MFr_t mf (Md_M q2), fun n => absurd cs0 n, g, l, t, _, _, _, _, q1, fun h0 => ?_, fun h0 => ?_⟩
    rotate_left
    · rcases z'.2.2.2.2.2.2 with y | y
      · exact absurd (y.2.2.2.1.trans ((τe 1812 (by decide)).trans p.2.2.2.1)) h0
      · exact Or.inl y.2.2.2.2
    have h0' : q.2.1.1 1812 = 0 := h0
    obtain ⟨a1, a2, a3, a4, a5, a6, a7⟩ := z'
    rcases a7 with ⟨b1, b2, b3, b4, b5, b6⟩ | ⟨b1, b2, b3, b4⟩
    · rw [t2'] at b1 ⊢
      have fe : ∀ j, ¬ (j = 1 ∨ j = 404 ∨ j = 1203 ∨ j = 1812 ∨ j = 1813 ∨ j = 1902 ∨ j = 1905) → q.2.1.1 j = τ.1 j := fun j hj => a3.1 j (by omega)
      have fb := (FC_b _ _ _ _ _ _ _ ty.2.1).2.2 cs
      have ty' : TyS c (Kw (fun j => K2 (off + j)) spp 1 none) K4 f0 u0 q.2.1 rfs ru 1 ((bsl + rd) :: rms) 0 0 ncp rsq := by
        unfold TyS
        rw [fe 1901 (by decide), t1, b1, fe 1815 (by decide), τe 1815 (by decide), fe 1811 (by decide), τe 1811 (by decide), fe 1908 (by decide), t8]
        refine ⟨SL_pu 1 w3, ?_, ?_, ⟨?_, by decide⟩, ?_, fun _ => rfl, w9, by omega, PaM_0 w1m⟩
        · rw [hz.1, hz.2]
          exact FC_k w8 (fun p hp => Kw_o (Or.inl (by omega))) (fun p hp => absurd hp (Nat.not_lt_zero p))
        · rw [bt_0]; exact w5
        · rw [ty.2.2.2.1.1]; exact fb.1
        · rw [ty.2.2.2.2.1]; exact fb.2.1
      refine ⟨qv 0 rsq rr, ⟨by rw [b6, τe 1905 (by decide)]; exact p.2.2.1, ru, 1, ((bsl + rd) :: rms), rr, rfs, 0, 0, ncp, rsq, Or.inl ⟨ty', by rw [fe 1900 (by decide), t0]; exact w1, rfl⟩⟩, ?_⟩
      have sqb := (FC_b _ _ _ _ _ _ _ w8).2.1
      have e1 : ncp * RK ≤ 50 * RK := Nat.mul_le_mul_right _ w9
      unfold mu qv
      rw [b6, τe 1905 (by decide), fe 1814 (by decide), τe 1814 (by decide)]
      have e2 : (20 - 0) * (RK + 1) = 20 * (RK + 1) := rfl
      rw [e2]
      omega
    · rw [b3] at h0'
      exact absurd h0' (by decide)
  have eP : ∀ {z : Int32}, σ.2.2.1 21 (uN z) = σ.2.2.1 21 (uN z) := rfl
  have b7 : ∀ (τ : CS) (L' : LV), τ.2 = σ.2 → (∀ j, ¬ (j = 1900 ∨ j = 1901 ∨ j = 1902 ∨ (1908 ≤ j ∧ j ≤ 1913)) → τ.1 j = σ.1 j) → uN (τ.1 1900) = pcp → uN (τ.1 1901) = fpp → uN (τ.1 1902) = spp → uN (τ.1 1908) = ncp → uN (τ.1 1912) = n → uN (τ.1 1913) = off → 72 * (RK + 1) ≤ rk → uN (L'.1 2) = off + spp → uN (L'.1 3) = spp → Tm (fun k => f_X3_leavePoint k 7 L' τ) (fun q => q.1.1 = 0 ∧ IO c B KB f0 u0 σ (mu σ (qv nf sq rk)) ((0, 0), q.2.1, (q.2.2.1 + 0, q.2.2.2 + 0))) := by
    intro τ L' τ2 τe t0 t1 t2' t8 t12 t13 hrk l2 l3
    have es : uN (L'.1 2 - L'.1 3) = off := by rw [u_sub (by omega)]; omega
    have n1' : sN τ 21 = sN σ 21 := by show τ.2.2.2.2.1 21 = _; rw [τ2]
    have n2' : sN τ 20 = sN σ 20 := by show τ.2.2.2.2.1 20 = _; rw [τ2]
    refine Tm_suc (fun k => by rw [f_X3_leavePoint]) ?_
    refine Tm_chk ⟨?_, by decide, ?_, ?_, ?_⟩ ?_
    · rw [u_neg]; omega
    · rw [u_neg]; omega
    · rw [u_cl (by omega), u_cl (by omega), n1']; omega
    · show 0 + (L'.1 3).toNatClampNeg ≤ _
      rw [u_cl (by omega), n2']; omega
    refine b8 _ _ ?_ τe t0 t1 t2' t8 t12 t13 hrk
    rw [u_cl (x := L'.1 2 - L'.1 3) (by omega), u_cl (x := L'.1 3) (by omega), es, l3]
    show (τ.2.1, updG τ.2.2.1 20 (va_cpy (τ.2.2.1 21) (τ.2.2.1 20) off 0 spp), τ.2.2.2) = _
    rw [τ2]
    rfl
  have b6 : ∀ (τ : CS) (L' : LV), τ.2 = σ.2 → (∀ j, ¬ (j = 1900 ∨ j = 1901 ∨ j = 1902 ∨ (1908 ≤ j ∧ j ≤ 1913)) → τ.1 j = σ.1 j) → uN (τ.1 1900) = pcp → uN (τ.1 1901) = fpp → uN (τ.1 1902) = spp → uN (τ.1 1908) = ncp → uN (τ.1 1912) = n → uN (τ.1 1913) = off → 72 * (RK + 1) ≤ rk → uN (L'.1 2) = off + spp → uN (L'.1 3) = spp → Tm (fun k => f_X3_leavePoint k 6 L' τ) (fun q => q.1.1 = 0 ∧ IO c B KB f0 u0 σ (mu σ (qv nf sq rk)) ((0, 0), q.2.1, (q.2.2.1 + 0, q.2.2.2 + 0))) := by
    intro τ L' τ2 τe t0 t1 t2' t8 t12 t13 hrk l2 l3
    have e5 : uN (L'.1 2 + 5) = off + spp + 5 := by rw [u_add (by omega), l2, u5]
    have n1' : sN τ 21 = sN σ 21 := by show τ.2.2.2.2.1 21 = _; rw [τ2]
    refine Tm_suc (fun k => by rw [f_X3_leavePoint]) ?_
    refine Tm_chk (u_in (x := L'.1 2 + 5) (by show _ < sN τ 21; omega) (by show sN τ 21 ≤ _; omega)) ?_
    refine Tm_op c_unraw (fun q e => ?_)
    rw [e]
    refine b7 _ _ τ2 (fun j hj => ?_) t0 t1 t2' t8 t12 t13 hrk l2 l3
    show upd (upd τ.1 1909 _) 1910 _ j = _
    rw [upd_other (by omega), upd_other (by omega)]
    exact τe j hj
  have b5 : ∀ (τ : CS) (L' : LV), τ.2 = σ.2 → (∀ j, ¬ (j = 1900 ∨ j = 1901 ∨ j = 1911 ∨ j = 1912 ∨ j = 1913) → τ.1 j = σ.1 j) → uN (τ.1 1900) = pcp → uN (τ.1 1901) = fpp → uN (τ.1 1912) = n → uN (τ.1 1913) = off → 72 * (RK + 1) ≤ rk → uN (L'.1 2) = off + spp → uN (L'.1 3) = spp → Tm (fun k => f_X3_leavePoint k 5 L' τ) (fun q => q.1.1 = 0 ∧ IO c B KB f0 u0 σ (mu σ (qv nf sq rk)) ((0, 0), q.2.1, (q.2.2.1 + 0, q.2.2.2 + 0))) := by
    intro τ L' τ2 τe t0 t1 t12 t13 hrk l2 l3
    have e3 : uN (L'.1 2 + 3) = off + spp + 3 := by rw [u_add (by omega), l2, u3]
    have n1' : sN τ 21 = sN σ 21 := by show τ.2.2.2.2.1 21 = _; rw [τ2]
    refine Tm_suc (fun k => by rw [f_X3_leavePoint]) ?_
    refine Tm_chk (u_in (x := L'.1 2 + 3) (by show _ < sN τ 21; omega) (by show sN τ 21 ≤ _; omega)) ?_
    refine Tm_op c_unraw (fun q e => ?_)
    rw [e]
    refine b6 _ _ τ2 (fun j hj => ?_) t0 t1 l3 ?_ t12 t13 hrk l2 l3
    · show upd (upd τ.1 1902 _) 1908 _ j = _
      rw [upd_other (by omega), upd_other (by omega)]
      exact τe j (by omega)
    · show uN (nI (uN (τ.2.2.1 21 (L'.1 2 + 3).toNatClampNeg) % 268435456)) = _
      rw [u_cl (by omega), e3, τ2, p3, u_n (by omega), unr (by omega)]
  have b4 : ∀ (τ : CS) (L' : LV), τ.2 = σ.2 → (∀ j, ¬ (j = 1911 ∨ j = 1912 ∨ j = 1913) → τ.1 j = σ.1 j) → uN (L'.1 100) = pcp → uN (τ.1 1912) = n → uN (τ.1 1913) = off → 72 * (RK + 1) ≤ rk → uN (L'.1 2) = off + spp → uN (L'.1 3) = spp → Tm (fun k => f_X3_leavePoint k 4 L' τ) (fun q => q.1.1 = 0 ∧ IO c B KB f0 u0 σ (mu σ (qv nf sq rk)) ((0, 0), q.2.1, (q.2.2.1 + 0, q.2.2.2 + 0))) := by
    intro τ L' τ2 τe t0 t12 t13 hrk l2 l3
    have e1 : uN (L'.1 2 + 1) = off + spp + 1 := by rw [u_inc (by omega), l2]
    have n1' : sN τ 21 = sN σ 21 := by show τ.2.2.2.2.1 21 = _; rw [τ2]
    refine Tm_suc (fun k => by rw [f_X3_leavePoint]) ?_
    refine Tm_chk (u_in (x := L'.1 2 + 1) (by show _ < sN τ 21; omega) (by show sN τ 21 ≤ _; omega)) ?_
    refine Tm_op c_unraw (fun q e => ?_)
    rw [e]
    refine b5 _ _ τ2 (fun j hj => ?_) t0 ?_ t12 t13 hrk l2 l3
    · show upd (upd τ.1 1900 _) 1901 _ j = _
      rw [upd_other (by omega), upd_other (by omega)]
      exact τe j (by omega)
    · show uN (nI (uN (τ.2.2.1 21 (L'.1 2 + 1).toNatClampNeg) % 268435456)) = _
      rw [u_cl (by omega), e1, τ2, p1, u_n (by omega), unr (by omega)]
  have b2 : ∀ (τ : CS) (L' : LV), τ.2 = σ.2 → (∀ j, ¬ j = 1912 → τ.1 j = σ.1 j) → uN (τ.1 1912) = n → L'.1 1 = L.1 1 → uN (L'.1 2) = off + spp → uN (L'.1 3) = spp → Tm (fun k => f_X3_leavePoint k 2 L' τ) (fun q => q.1.1 = 0 ∧ IO c B KB f0 u0 σ (mu σ (qv nf sq rk)) ((0, 0), q.2.1, (q.2.2.1 + 0, q.2.2.2 + 0))) := by
    intro τ L' τ2 τe t12 l1 l2 l3
    have es : uN (L'.1 2 - L'.1 3) = off := by rw [u_sub (by omega)]; omega
    have n1' : sN τ 21 = sN σ 21 := by show τ.2.2.2.2.1 21 = _; rw [τ2]
    refine Tm_suc (fun k => by rw [f_X3_leavePoint]) ?_
    refine Tm_ite (fun c0 => ?_) (fun c0 => ?_)
    · refine Tm_suc (fun k => by rw [f_X3_leavePoint]) ?_
      generalize hH : uI (uI τ 1911 (τ.1 1911 - L'.1 4)) 1913 (L'.1 2 - L'.1 3) = ρ
      have ρe : ∀ j, ¬ (j = 1911 ∨ j = 1912 ∨ j = 1913) → ρ.1 j = σ.1 j := fun j hj => by
        rw [← hH]
        show upd (upd τ.1 1911 _) 1913 _ j = _
        rw [upd_other (by omega), upd_other (by omega)]
        exact τe j (by omega)
      have ρ12 : uN (ρ.1 1912) = n := by rw [← hH]; exact t12
      have ρ13 : uN (ρ.1 1913) = off := by rw [← hH]; exact es
      have ρ2 : ρ.2 = (uF σ 20 (σ.2.2.1 20)).2 := by rw [uF_id, ← hH]; exact τ2
      have e02 := ρe 1902 (by decide)
      have mt := MIn_p (σ' := ρ) (K' := K) mi ρ2 (fun j hj => ρe j (by omega)) (by rw [ρ12, ρ13]; exact pokn) (by rw [ρ12]; omega) (by rw [ρ13]; omega) (by rw [e02]; exact st1) (by rw [e02]; exact st3) (by rw [e02]; exact mi.2.2.2.2.2.2.1.2) mi.2.2.2.2.2.1 (by rw [ρe 1903 (by decide), ρe 1814 (by decide)]; exact mi.2.2.2.2.2.2.2.1)
      have nx := n0 (by rw [← l1]; exact c0)
      refine Tm_some ⟨rfl, ⟨rfl, CoP_0 (by rw [ρ2]; rfl), mt.2, fun n => absurd cs0 n, g, l, t, K, K2, K3, K4, mt.1, fun _ => ?_, fun z => absurd ((ρe 1812 (by decide)).trans p.2.2.2.1) z⟩⟩
      refine go_n (TyS_k ty ⟨ρe 1901 (by decide), ρe 1815 (by decide), ρe 1811 (by decide), ρe 1908 (by decide)⟩ (by rw [e02]; exact ty.1) (fun _ _ => rfl) ty.2.2.1 ty.2.2.2.2.2.2.2.2) p.2.2.1 (ρe 1905 (by decide)) (ρe 1814 (by decide)) ?_
      rw [ρe 1900 (by decide), hpc, u_n (by omega)]
      exact nx
    · have hrk := n1 (by rw [← l1]; exact c0)
      refine Tm_chk (u_in (x := L'.1 2) (by show _ < sN τ 21; omega) (by show sN τ 21 ≤ _; omega)) ?_
      refine Tm_op c_unraw (fun q e => ?_)
      rw [e]
      refine b4 _ _ τ2 (fun j hj => ?_) ?_ t12 es hrk l2 l3
      · show upd (upd τ.1 1911 _) 1913 _ j = _
        rw [upd_other (by omega), upd_other (by omega)]
        exact τe j (by omega)
      · show uN (nI (uN (τ.2.2.1 21 (L'.1 2).toNatClampNeg) % 268435456)) = _
        rw [u_cl (by omega), l2, τ2, p0, u_n (by omega), unr (by omega)]
  refine Tm_suc (fun k => by rw [f_X3_leavePoint]) ?_
  refine Tm_chk (u_in (x := σ.1 1913 - 6 + 2) (by omega) s21) ?_
  refine Tm_op c_unraw (fun q e => ?_)
  rw [e]
  refine Tm_chk (u_in (x := σ.1 1913 - 6 + 4) (by show _ < sN σ 21; omega) s21) ?_
  refine Tm_op c_unraw (fun q2 e2 => ?_)
  rw [e2]
  refine b2 _ _ rfl (fun j hj => upd_other hj) ?_ rfl et ?_
  · show uN (σ.1 1912 - 1) = n
    rw [u_sub (by omega), u1]; omega
  · show uN (nI (uN (σ.2.2.1 21 (σ.1 1913 - 6 + 2).toNatClampNeg) % 268435456)) = _
    rw [u_cl (by omega), et2, p2, u_n (by omega), unr (by omega)]
end CTA
end JnS389
section JnS390
/-! The class: steps of iterators. -/
section CTB
variable {g g' g2 : Nat → Prop} {l l' l2 : List Nat} {t t' t2 : Nat} {σ σ' σ2 : CS} {L : LV} {x y i : Int32} {M M' U U' : Nat → Int32} {K K' K2 K2' K3 K4 K4' KB : Nat → Option Int32} {c : Ct} {B f0 u0 : Nat} {fs : List FrT} {u d : Nat} {r r' : List Nat} {pb nf nc sq rk : Nat}
/-- fewer marks -/
theorem SL_sb {Q : Nat → List Nat → Prop} {lo : Nat} (hQ : ∀ i s, Q i s → i < bsl → i ∈ s) : ∀ (r' r : List Nat) (hi d : Nat), Mrl Q r' r → SL K lo hi d r → SL K lo hi d r'
  | [], r, hi, d, h, q => by
    have e : r = [] := h
    subst e
    exact q
  | e :: r', r, hi, d, h, q => by
    obtain ⟨s, h1, h2, h3⟩ := h
    subst h1
    refine ⟨fun c => ?_, fun c c5 => ?_, fun c c5 => ?_⟩
    · obtain ⟨a1, a2, a3, a4⟩ := q.1 c
      exact ⟨fun i i1 i2 => a1 i (hQ i s (h2 c i i1) i2) i2, a2, a3, a4⟩
    · obtain ⟨b, n, z, a1, a2, a3⟩ := q.2.1 c c5
      exact ⟨b, n, z, a1, SL_sb hQ r' s b (e / 2) (h3 c) a2, a3⟩
    · obtain ⟨b, e0, r0, a1, a2, a3, a4⟩ := q.2.2 c c5
      obtain ⟨ms', e'⟩ := Mrl_hd (h3 c) a3
      exact ⟨b, e0, ms', a1, SL_sb hQ r' s b (e % 250000) (h3 c) a2, e', a4⟩
/-- marks of values, where there are some -/
theorem SL_av {Q : Nat → List Nat → Prop} {lo w : Nat} (hQ : ∀ i s, Q i s → i < bsl → i ∈ s ∨ (i % 500000 < w ∧ Mkk i (K (lo + i % 500000)))) : ∀ (r' r : List Nat) (hi d : Nat), bt d r = w → Mrl Q r' r → SL K lo hi d r → SL K lo hi d r'
  | [], r, hi, d, hw, h, q => by
    have e : r = [] := h
    subst e
    exact q
  | e :: r', r, hi, d, hw, h, q => by
    obtain ⟨s, h1, h2, h3⟩ := h
    subst h1
    refine ⟨fun c => ?_, fun c c5 => ?_, fun c c5 => ?_⟩
    · obtain ⟨a1, a2, a3, a4⟩ := q.1 c
      have eb : bt d (e :: s) = e - bsl := if_pos c
      rw [eb] at hw
      refine ⟨fun i i1 i2 => ?_, a2, a3, a4⟩
      rcases hQ i s (h2 c i i1) i2 with y | y
      · exact a1 i y i2
      · rw [hw]; exact y
    · obtain ⟨b, n, z, a1, a2, a3⟩ := q.2.1 c c5
      have eb : bt d (e :: s) = bt (e / 2) s := if_neg c
      exact ⟨b, n, z, a1, SL_av hQ r' s b (e / 2) (by rw [← eb]; exact hw) (h3 c) a2, a3⟩
    · obtain ⟨b, e0, r0, a1, a2, a3, a4⟩ := q.2.2 c c5
      have eb : bt d (e :: s) = bt (e / 2) s := if_neg c
      have eb2 : bt (e / 2) s = bt (e % 250000) s := by rw [a3]; exact bt_c _ _ _ _
      obtain ⟨ms', e'⟩ := Mrl_hd (h3 c) a3
      exact ⟨b, e0, ms', a1, SL_av hQ r' s b (e % 250000) (by rw [← eb2, ← eb]; exact hw) (h3 c) a2, e', a4⟩
theorem PaM_mr {Q : Nat → List Nat → Prop} {pb m : Nat} (hQ : ∀ i s, Q i s → bsl ≤ i → (i ∈ s ∧ K4' (pb + (i - bsl) % 500000) = K4 (pb + (i - bsl) % 500000)) ∨ ((i - bsl) % 500000 < m ∧ Mkk (i - bsl) (K4' (pb + (i - bsl) % 500000)))) : ∀ (r' r : List Nat), Mrl Q r' r → PaM K4 pb m r → PaM K4' pb m r'
  | [], r, h, q => trivial
  | e :: r', r, h, q => by
    obtain ⟨s, h1, h2, h3⟩ := h
    subst h1
    refine ⟨fun c i i1 i2 => ?_, fun c => PaM_mr hQ r' s (h3 c) (q.2 c)⟩
    rcases hQ i s (h2 c i i1) i2 with y | y
    · have z := q.1 c i y.1 i2
      exact ⟨z.1, by rw [y.2]; exact z.2⟩
    · exact y
/-- steps that leave work and place alone -/
def Go (c : Ct) (u0 : Nat) (σ σ' : CS) : Prop := MFr σ σ' ∧ (¬ tcS c u0 → EvF σ σ') ∧ σ'.2.2.2.2.1 = σ.2.2.2.2.1 ∧ σ'.1 1905 = σ.1 1905 ∧ σ'.1 1814 = σ.1 1814 ∧ σ'.1 1900 = σ.1 1900
theorem Go_r (σ : CS) : Go c u0 σ σ := ⟨MFr_r σ, fun _ _ _ _ _ => rfl, rfl, rfl, rfl, rfl⟩
theorem Go_t (a : Go c u0 σ σ') (b : Go c u0 σ' σ2) : Go c u0 σ σ2 := ⟨MFr_t a.1 b.1, fun n j h1 h2 h3 => (b.2.1 n j h1 h2 h3).trans (a.2.1 n j h1 h2 h3), b.2.2.1.trans a.2.2.1, b.2.2.2.1.trans a.2.2.2.1, b.2.2.2.2.1.trans a.2.2.2.2.1, b.2.2.2.2.2.trans a.2.2.2.2.2⟩
theorem IO_g {q : RS} {m : Nat} (a : Go c u0 σ σ') (h : IO c B KB f0 u0 σ' m q) : IO c B KB f0 u0 σ m q := by
  obtain ⟨h1, h2, h3, h4, h5⟩ := h
  have ph := Ph_s a.2.2.1
  exact ⟨h1, ⟨by rw [← ph.1]; exact h2.1, by rw [← ph.2]; exact h2.2⟩, MFr_t a.1 h3, fun n j j1 j2 j3 => (h4 n j j1 j2 j3).trans (a.2.1 n j j1 j2 j3), h5⟩
/-- a value in the row of slots that are passed -/
theorem Pre_23 (p : Pre c g l t K K2 K3 K4 B KB f0 u0 σ fs u d r pb nf nc sq) {j : Nat} (hj : pb ≤ j ∧ j < 3780) {mk : Option Int32} (hm : (mk = none ∧ Gv g x) ∨ (mk = some mkR ∧ Gv g x ∧ NoW (σ.2.2.1 3) x) ∨ (mk = some mkC ∧ Gw g x)) {Q : Nat → List Nat → Prop} (hr : Mrl Q r' r) (hQ1 : ∀ i s, Q i s → i < bsl → i ∈ s) (hQ2 : ∀ i s, Q i s → bsl ≤ i → (i ∈ s ∧ ¬ pb + (i - bsl) % 500000 = j) ∨ ((i - bsl) % 500000 < 180 ∧ pb + (i - bsl) % 500000 = j ∧ Mkk (i - bsl) mk)) : Pre c g l t K K2 K3 (Kw K4 j 1 mk) B KB f0 u0 (uA σ 23 j x) fs u d r' pb nf nc sq ∧ Go c u0 σ (uA σ 23 j x) := by
  obtain ⟨mi, ty, w, h0, bo⟩ := p
  have md : Md σ (uA σ 23 j x) := Md_A σ (by decide) _ _
  obtain ⟨m1, m2, m3, m4, m5, m6⟩ := mi
  obtain ⟨v1, v2, v3⟩ := m2
  have rk4 : Rwk g (σ.2.2.1 3) (Kw K4 j 1 mk) (upd (σ.2.2.1 23) j x) 3780 := by
    intro i hi
    by_cases e : i = j
    · rw [e, upd_same, Kw_i (Nat.le_refl _) (by omega)]
      rcases hm with z | z | z
      · rw [z.1]; exact Rwn z.2
      · rw [z.1]; exact Rwm z.2.1 z.2.2
      · rw [z.1]; exact Rwc z.2
    · rw [upd_other e, Kw_o (by omega)]
      exact v2 i hi
  refine ⟨⟨⟨HQ_fr m1 rfl rfl rfl, ⟨v1, rk4, v3⟩, CtL_M m3 (Md_M md), m4, SVK_d md m5, m6⟩, ?_, w, h0, bo⟩, Md_M md, fun _ => Md_E md, rfl, rfl, rfl, rfl⟩
  obtain ⟨t1, t2, t3, t4, t5, t6, t7, t8, t9⟩ := ty
  refine ⟨SL_sb hQ1 r' r _ _ hr t1, FC_k t2 (fun _ _ => rfl) (fun p hp => Kw_o (Or.inl (by omega))), by rw [Mrl_bt r' r d hr]; exact t3, t4, t5, t6, t7, t8, ?_⟩
  refine PaM_mr (fun i s q b => ?_) r' r hr t9
  rcases hQ2 i s q b with y | y
  · exact Or.inl ⟨y.1, Kw_o (by omega)⟩
  · right
    rw [y.2.1, Kw_i (Nat.le_refl _) (by omega)]
    exact ⟨y.1, y.2.2⟩
/-- fewer marks; the same otherwise -/
theorem Pre_sb (p : Pre c g l t K K2 K3 K4 B KB f0 u0 σ fs u d r pb nf nc sq) {Q : Nat → List Nat → Prop} (hr : Mrl Q r' r) (hQ : ∀ i s, Q i s → i ∈ s) : Pre c g l t K K2 K3 K4 B KB f0 u0 σ fs u d r' pb nf nc sq := by
  obtain ⟨mi, ty, w, h0, bo⟩ := p
  obtain ⟨t1, t2, t3, t4, t5, t6, t7, t8, t9⟩ := ty
  exact ⟨mi, ⟨SL_sb (fun i s q _ => hQ i s q) r' r _ _ hr t1, t2, by rw [Mrl_bt r' r d hr]; exact t3, t4, t5, t6, t7, t8, PaM_mr (fun i s q b => Or.inl ⟨hQ i s q, rfl⟩) r' r hr t9⟩, w, h0, bo⟩
/-- more marks of values -/
theorem Pre_av (p : Pre c g l t K K2 K3 K4 B KB f0 u0 σ fs u d r pb nf nc sq) {Q : Nat → List Nat → Prop} (hr : Mrl Q r' r) (hQ : ∀ i s, Q i s → i < bsl → i ∈ s ∨ (i % 500000 < bt d r ∧ Mkk i (K (uN (σ.1 1901) + 4 + i % 500000)))) (hQ2 : ∀ i s, Q i s → bsl ≤ i → i ∈ s ∨ ((i - bsl) % 500000 < 180 ∧ Mkk (i - bsl) (K4 (pb + (i - bsl) % 500000)))) : Pre c g l t K K2 K3 K4 B KB f0 u0 σ fs u d r' pb nf nc sq := by
  obtain ⟨mi, ty, w, h0, bo⟩ := p
  obtain ⟨t1, t2, t3, t4, t5, t6, t7, t8, t9⟩ := ty
  exact ⟨mi, ⟨SL_av hQ r' r _ _ rfl hr t1, t2, by rw [Mrl_bt r' r d hr]; exact t3, t4, t5, t6, t7, t8, PaM_mr (fun i s q b => (hQ2 i s q b).imp (fun z => ⟨z, rfl⟩) id) r' r hr t9⟩, w, h0, bo⟩
theorem Mkk_n {i : Nat} (h : ¬ i < 500000) : Mkk i none := ⟨fun z => absurd z h, Or.inl rfl⟩
theorem Mkk_r (i : Nat) : Mkk i (some mkR) := ⟨fun _ => rfl, Or.inr rfl⟩
/-- it goes on behind such steps -/
theorem fl_go (p : Pre c g' l' t' K' K2 K3 K4' B KB f0 u0 σ2 fs u d r pb nf nc sq) (a : Go c u0 σ σ2) (e2 : σ'.2 = σ2.2) (ej : ∀ j, ¬ j = 1900 → σ'.1 j = σ2.1 j) (nx : Nx c (uN (σ'.1 1900)) u d r rk) : IO c B KB f0 u0 σ (mu σ (qv nf sq rk)) ((0, 0), σ', (0, 0)) := by
  rw [← mu_e a.2.2.2.1 a.2.2.2.2.1]
  exact IO_g a (fl_fin p e2 ej nx)
theorem ha_go (p : Pre c g' l' t' K' K2 K3 K4' B KB f0 u0 σ2 fs u d r pb nf nc sq) (a : Go c u0 σ σ2) {m : Nat} (e2 : σ'.2 = σ2.2) (ej : ∀ j, ¬ (j = 1900 ∨ j = 1812 ∨ j = 1813 ∨ j = 1905) → σ'.1 j = σ2.1 j) (h1 : σ'.1 1812 = 1) (h13 : ¬ σ'.1 1813 = 0) : IO c B KB f0 u0 σ m ((0, 0), σ', (0, 0)) := IO_g a (ha_fin p e2 ej h1 h13)
theorem Go_dr (σ : CS) (x : Int32) : Go c u0 σ (uI σ 1902 x) := ⟨Md_M (Md_i σ (by decide) x), fun _ => Md_E (Md_i σ (by decide) x), rfl, rfl, rfl, rfl⟩
end CTB
end JnS390
section JnS391
/-! The class: iterators of exps. -/
section CTC
variable {g g' g2 : Nat → Prop} {l l' l2 : List Nat} {t t' t2 : Nat} {σ σ' σ2 : CS} {L : LV} {x y i : Int32} {M M' U U' : Nat → Int32} {K K' K2 K2' K3 K4 K4' KB : Nat → Option Int32} {c : Ct} {B f0 u0 : Nat} {fs : List FrT} {u d : Nat} {r r' : List Nat} {pb nf nc sq rk : Nat}
/-- a value was laid upon the stack, then one of work done -/
theorem pu_sp (p : Pre c g l t K K2 K3 K4 B KB f0 u0 σ fs u d r pb nf nc sq) (hx : Gv g x) {q : RS} (h : PuO σ x 1 q) {v : Int32} (nx : NxS c (uN v) u (d + 1) r) (q0 : Nat) : IO c B KB f0 u0 σ (mu σ q0) ((0, 0), spS (uI q.2.1 1900 v) 1, (q.2.2.1 + 0, q.2.2.2 + 0)) := by
  have pm := pu_MIn (σ' := uI q.2.1 1900 v) p.1 hx h rfl (fun j hj => upd_other hj)
  obtain ⟨m1, m2, m3⟩ := pm
  have ty := p.2.1
  have ts := TyS_sp ty
  generalize hH : uI q.2.1 1900 v = τ at *
  have s := spS_s τ 1
  have sm := spS_m τ 1
  have e02 := s.2.2
  have mt := MIn_fl (σ' := spS τ 1) m1 s.1 (fun j hj => by
    by_cases z : j = 1
    · rw [z]; exact s.2.1
    by_cases z2 : j = 404 ∨ j = 1203
    · unfold spS
      rcases z2 with e | e <;> subst e <;> split <;> rfl
    exact sm.1 j (by omega)) (by rw [e02]; exact m1.2.2.2.2.2.2.1.2) (by rw [e02]; exact Nat.le_refl _)
  have md := Md_t m2 mt.2
  have ph := Ph_s (σ := τ) (σ' := spS τ 1) (by rw [s.1])
  have c1 : q.2.2.1 + 0 + PhC τ ≤ PhC σ := m3.1
  have c2 : q.2.2.2 + 0 + PhS τ ≤ PhS σ := m3.2
  refine ⟨rfl, ⟨by show q.2.2.1 + 0 + PhC (spS τ 1) ≤ _; omega, by show q.2.2.2 + 0 + PhS (spS τ 1) ≤ _; omega⟩, Md_M md, fun _ => Md_E md, g, l, t, _, _, _, _, mt.1, fun z => ?_, fun z => ?_⟩
  rotate_left
  · have z0 : ¬ (spS τ 1).1 1812 = 0 := z
    refine Or.inl ?_
    show ¬ (spS τ 1).1 1813 = 0
    have s12 : τ.1 1812 = q.2.1.1 1812 := by rw [← hH]; rfl
    have s13 : τ.1 1813 = q.2.1.1 1813 := by rw [← hH]; rfl
    have s05 : τ.1 1905 = q.2.1.1 1905 := by rw [← hH]; rfl
    rcases h.2.2.2.2.2.2 with b | b
    · rcases spS_w (σ := τ) (n := 1) (by decide) (by decide) (by rw [s05, b.2.2.2.2.2]; exact p.2.2.1) with w | w
      · exact w.2
      · exfalso
        rw [w.1, s12, b.2.2.2.1] at z0
        exact z0 p.2.2.2.1
    · rcases spS_13 τ 1 with y | y
      · rw [y, s13]; exact b.2.2.2.2
      · exact y
  have z0 : (spS τ 1).1 1812 = 0 := z
  obtain ⟨a1, a2, a3, a4, a5, a6, a7⟩ := h
  have τj : ∀ j, ¬ j = 1900 → τ.1 j = q.2.1.1 j := fun j hj => by rw [← hH]; exact upd_other hj
  have τ9 : τ.1 1900 = v := by rw [← hH]; rfl
  rcases a7 with ⟨b1, b2, b3, b4, b5, b6⟩ | ⟨b1, b2, b3, b4⟩
  · have w5 : τ.1 1905 = σ.1 1905 := (τj 1905 (by decide)).trans b6
    have w := spS_w (σ := τ) (n := 1) (by decide) (by decide) (by rw [w5]; exact p.2.2.1)
    rcases w with w | w
    · rw [w.1] at z0
      exact absurd z0 (by decide)
    · have fe : ∀ j, ¬ (j = 1 ∨ j = 404 ∨ j = 1203 ∨ j = 1812 ∨ j = 1813 ∨ j = 1902 ∨ j = 1905 ∨ j = 1900) → (spS τ 1).1 j = σ.1 j := fun j hj => (sm.1 j (by omega)).trans ((τj j (by omega)).trans (a3.1 j (by omega)))
      have hs : SL (Kw K (uN (σ.1 1902)) 1 none) (uN (σ.1 1901) + 4) (uN ((spS τ 1).1 1902)) (d + 1) r := by
        rw [e02, τj 1902 (by decide), b1]; exact SL_pu 1 ty.1
      refine go_s (TyS_k ty ⟨fe 1901 (by decide), fe 1815 (by decide), fe 1811 (by decide), fe 1908 (by decide)⟩ hs (fun p hp => Kw_o (Or.inl (by omega))) (Nat.le_trans ty.2.2.1 (bt_m d 1 r)) ty.2.2.2.2.2.2.2.2) (by rw [← w5]; exact w.2.1) w.2.2 (fe 1814 (by decide)) ?_ q0
      rw [sm.1 1900 (by decide), τ9]
      exact nx
  · exfalso
    have t2 : τ.1 1812 = 1 := (τj 1812 (by decide)).trans b3
    unfold spS at z0
    split at z0
    · have z1 : τ.1 1812 = 0 := z0
      rw [t2] at z1
      exact absurd z1 (by decide)
    · exact absurd z0 (by show ¬ (1 : Int32) = 0; decide)
theorem Go_Md (a : Md σ σ') (es : σ'.2.2.2.2.1 = σ.2.2.2.2.1) (e5 : σ'.1 1905 = σ.1 1905) (e9 : σ'.1 1900 = σ.1 1900) : Go c u0 σ σ' := ⟨Md_M a, fun _ => Md_E a, es, e5, a.1 1814 (by decide), e9⟩
theorem c_goOver23 (p : Pre c g l t K K2 K3 K4 B KB f0 u0 σ fs u (d + 1) r pb nf nc sq) (fb : tcF c u ≤ bt d r) {n : Nat} (hn : n + 1 < 180) (h2 : uN (L.1 2) = pb + n) (h3 : L.1 3 = 0) (hr : Mrl (fun i s => i = bsl + n ∨ i ∈ s) r' r) (ha : AllM (fun i => bsl ≤ i → ¬ (i - bsl) % 500000 = n + 1) r') (nx : Nx c (uN (σ.1 1900)) u d r' rk) : Tm (fun k => y_X3_goOver__a23 k 0 L σ) (fun q => IO c B KB f0 u0 σ (mu σ (qv nf sq rk)) ((0, 0), q.2, (0, 0))) := by
  have mi := p.1
  have ty := p.2.1
  obtain ⟨st1, st2, st3⟩ := mi.2.1.1
  have ts := TyS_sp ty
  have fbb := (FC_b _ _ _ _ _ _ _ ty.2.1).1
  have n20 := ty.2.2.2.1.2
  have gh := (Ty_v p (q := (uN (σ.1 1902) - 1)) (by omega) (by omega))
  obtain ⟨pd, es⟩ := Pre_dr (x := 1) (d' := d) (n := 1) p rfl rfl fb
  have kl := kdC_lt (σ.2.2.1 3) (σ.2.2.1 20 (uN (σ.1 1902) - 1))
  refine Tm_suc (fun k => by rw [y_X3_goOver__a23]) ?_
  refine Tm_oc (c_pop (by omega) st1 st2.2) (fun q e => ?_)
  rw [e.1]
  refine Tm_ocE (c_kind pd.1.1 gh) ?_
  refine Tm_ite (fun c4 => ?_) (fun _ => ?_)
  · have c4' : (4 : Int32) ≤ nI (kdC (σ.2.2.1 3) (σ.2.2.1 20 (uN (σ.1 1902) - 1))) := c4
    have u4 : uN (4 : Int32) = 4 := rfl
    rw [u_le (by decide) (by rw [u_n (by omega)]; omega), u4, u_n (by omega)] at c4'
    have nw : NoW (σ.2.2.1 3) (σ.2.2.1 20 (uN (σ.1 1902) - 1)) := by
      intro lt
      unfold kdC at c4'
      rw [if_pos lt] at c4'
      omega
    generalize hh : σ.2.2.1 20 (uN (σ.1 1902) - 1) = hv at *
    refine Tm_suc (fun k => by rw [y_X3_goOver__a23]) ?_
    refine Tm_yes h3 ?_
    have e21 : uN (L.1 2 + 1) = pb + n + 1 := by rw [u_inc (by omega), h2]
    refine Tm_suc (fun k => by rw [y_X3_goOver__a23]) ?_
    refine Tm_chk (u_in (x := L.1 2) (by omega) (by decide)) ?_
    refine Tm_oc c_raw (fun q2 z2 => ?_)
    rw [z2]
    refine Tm_chk (u_in (x := L.1 2 + 1) (by omega) (by decide)) ?_
    refine Tm_suc (fun k => by rw [y_X3_goOver__a23]) ?_
    refine Tm_some ?_
    have p1 := Pre_23 (x := hv) (j := pb + n) (mk := some mkR) pd ⟨by omega, by omega⟩ (Or.inr (Or.inl ⟨rfl, gh, nw⟩)) hr (fun i s q b => by
      rcases q with q | q
      · rw [q] at b
        exact absurd b (by omega)
      · exact q) (fun i s q b => by
      rcases q with q | q
      · right
        rw [q]
        exact ⟨by omega, by omega, Mkk_r _⟩
      · by_cases y : pb + (i - bsl) % 500000 = pb + n
        · right
          exact ⟨by omega, y, Mkk_r _⟩
        · exact Or.inl ⟨q, y⟩)
    have p2 := Pre_23 (x := rwN (uN (0 : Int32) % 268435456)) (j := pb + n + 1) (mk := some mkC) p1.1 ⟨by omega, by omega⟩ (Or.inr (Or.inr ⟨rfl, Gw_rr (rwN_r (by omega))⟩)) (Mrl_rf _ ha) (fun i s q b => q.1) (fun i s q b => Or.inl ⟨q.1, by have := q.2 b; omega⟩)
    have ee : uA (uA (uI σ 1902 (σ.1 1902 - 1)) 23 (L.1 2).toNatClampNeg hv) 23 (L.1 2 + 1).toNatClampNeg (rwN (uN (0 : Int32) % 268435456)) = uA (uA (uI σ 1902 (σ.1 1902 - 1)) 23 (pb + n) hv) 23 (pb + n + 1) (rwN (uN (0 : Int32) % 268435456)) := by
      rw [u_cl (x := L.1 2) (by omega), u_cl (x := L.1 2 + 1) (by omega), h2, e21]
    show IO c B KB f0 u0 σ (mu σ (qv nf sq rk)) ((0, 0), uA (uA (uI σ 1902 (σ.1 1902 - 1)) 23 (L.1 2).toNatClampNeg hv) 23 (L.1 2 + 1).toNatClampNeg (rwN (uN (0 : Int32) % 268435456)), (0, 0))
    rw [ee]
    exact fl_go p2.1 (Go_t (Go_dr σ _) (Go_t p1.2 p2.2)) rfl (fun _ _ => rfl) nx
  · refine Tm_oc c_fail (fun q2 e2 => ?_)
    rw [e2]
    refine Tm_some (ha_go pd (Go_dr σ _) rfl (fun j hj => ?_) rfl (f13 (by decide)))
    show upd (upd (upd σ.1 1902 _) 1813 _) 1812 1 j = upd σ.1 1902 _ j
    rw [upd_other (by omega), upd_other (by omega)]
theorem c_letGo23 (p : Pre c g l t K K2 K3 K4 B KB f0 u0 σ fs u d r pb nf nc sq) {n : Nat} (hn : n + 1 < 180) (h2 : uN (L.1 2) = pb + n) (h3 : L.1 3 = 0) (ha : AllM (fun i => bsl ≤ i → ¬ (i - bsl) % 500000 = n + 1) r) : Tm (fun k => y_X3_letGo__a23 k 0 L σ) (fun q => ∃ K4', Pre c g l t K K2 K3 K4' B KB f0 u0 q.2 fs u d r pb nf nc sq ∧ Go c u0 σ q.2 ∧ ∀ j, q.2.1 j = σ.1 j) := by
  have ty := p.2.1
  have fbb := (FC_b _ _ _ _ _ _ _ ty.2.1).1
  have n20 := ty.2.2.2.1.2
  have e21 : uN (L.1 2 + 1) = pb + n + 1 := by rw [u_inc (by omega), h2]
  refine Tm_suc (fun k => by rw [y_X3_letGo__a23]) ?_
  refine Tm_yes h3 ?_
  refine Tm_suc (fun k => by rw [y_X3_letGo__a23]) ?_
  refine Tm_chk (u_in (x := L.1 2) (by omega) (by decide)) ?_
  refine Tm_chk (u_in (x := L.1 2 + 1) (by omega) (by decide)) ?_
  have om : NoW (σ.2.2.1 3) (-2147483648) := fun lt => absurd lt (by decide)
  have p1 := Pre_23 (x := -2147483648) (j := pb + n) (mk := some mkR) (r' := r) (Q := fun i s => i ∈ s ∧ True) p ⟨by omega, by omega⟩ (Or.inr (Or.inl ⟨rfl, Gv_om g, om⟩)) (Mrl_rf _ (by
      clear ha p ty h2 h3 fbb n20 e21 om
      induction r with
      | nil => exact trivial
      | cons e r ih => exact ⟨fun _ _ _ => trivial, fun _ => ih⟩)) (fun i s q b => q.1) (fun i s q b => by
    by_cases y : pb + (i - bsl) % 500000 = pb + n
    · right
      exact ⟨by omega, y, Mkk_r _⟩
    · exact Or.inl ⟨q.1, y⟩)
  have p2 := Pre_23 (x := -2147483648) (j := pb + n + 1) (mk := none) p1.1 ⟨by omega, by omega⟩ (Or.inl ⟨rfl, Gv_om g⟩) (Mrl_rf _ ha) (fun i s q b => q.1) (fun i s q b => Or.inl ⟨q.1, by have := q.2 b; omega⟩)
  refine Tm_some ?_
  have ee : uA (uA σ 23 (L.1 2).toNatClampNeg (-2147483648)) 23 (L.1 2 + 1).toNatClampNeg (-2147483648) = uA (uA σ 23 (pb + n) (-2147483648)) 23 (pb + n + 1) (-2147483648) := by
    rw [u_cl (x := L.1 2) (by omega), u_cl (x := L.1 2 + 1) (by omega), h2, e21]
  show ∃ K4', Pre c g l t K K2 K3 K4' B KB f0 u0 (uA (uA σ 23 (L.1 2).toNatClampNeg (-2147483648)) 23 (L.1 2 + 1).toNatClampNeg (-2147483648)) fs u d r pb nf nc sq ∧ Go c u0 σ (uA (uA σ 23 (L.1 2).toNatClampNeg (-2147483648)) 23 (L.1 2 + 1).toNatClampNeg (-2147483648)) ∧ ∀ j, σ.1 j = σ.1 j
  rw [ee]
  exact ⟨_, p2.1, Go_t p1.2 p2.2, fun _ => rfl⟩
end CTC
end JnS391
section JnS392
/-! The class: the next member, names (exps). -/
section CTD
variable {g g' g2 : Nat → Prop} {l l' l2 : List Nat} {t t' t2 : Nat} {σ σ' σ2 : CS} {L : LV} {x y i : Int32} {M M' U U' : Nat → Int32} {K K' K2 K2' K3 K4 K4' KB : Nat → Option Int32} {c : Ct} {B f0 u0 : Nat} {fs : List FrT} {u d : Nat} {r r' : List Nat} {pb nf nc sq rk : Nat}
theorem c_nextMember23 (p : Pre c g l t K K2 K3 K4 B KB f0 u0 σ fs u d r pb nf nc sq) {pc n : Nat} (h2 : uN (L.1 2) = pb + n) (h3 : L.1 3 = nI pc) (h4 : L.1 4 = 0) (hm : HasM (bsl + n) r) (hn : n + 1 < 180) (ha : AllM (fun i => bsl ≤ i → ¬ (i - bsl) % 500000 = n + 1) r) (hp : pc + 1 < tcN c) (hN : tcN c ≤ 36864) (hr : Mrl (fun i s => i ∈ s) r' r) (nE : Nx c (uN (nI pc + tcC c (pc + 1))) u d r' rk) (nS : NxS c (pc + 2) u (d + 1) r) : Tm (fun k => f_X3_nextMember__a23 k 0 L σ) (fun q => q.1.1 = 0 ∧ IO c B KB f0 u0 σ (mu σ (qv nf sq rk)) ((0, 0), q.2.1, (q.2.2.1 + 0, q.2.2.2 + 0))) := by
  have mi := p.1
  have ty := p.2.1
  have v2 := mi.2.1.2.1
  have fbb := (FC_b _ _ _ _ _ _ _ ty.2.1).1
  have n20 := ty.2.2.2.1.2
  have mk := PaM_has (show n < 500000 by omega) r ty.2.2.2.2.2.2.2.2 hm
  have e21 : uN (L.1 2 + 1) = pb + n + 1 := by rw [u_inc (by omega), h2]
  have c2 : (L.1 2).toNatClampNeg = pb + n := by rw [u_cl (by omega)]; exact h2
  have c21 : (L.1 2 + 1).toNatClampNeg = pb + n + 1 := by rw [u_cl (by omega)]; exact e21
  have gr := Rwk_v v2 (j := pb + n) (by omega) (Or.inr mk.2)
  have nw : NoW (σ.2.2.1 3) (σ.2.2.1 23 (pb + n)) := by
    rcases (v2 (pb + n) (by omega)).2.2 _ mk.2 with z | z
    · exact absurd rfl (mk_nr z.2)
    · exact (mk_w z).2
  have ll := lnC_lt (σ.2.2.1 3) (σ.2.2.1 23 (pb + n))
  have e3 : uN (L.1 3) = pc := by rw [h3, u_n (by omega)]
  have u2 : uN (2 : Int32) = 2 := rfl
  refine Tm_suc (fun k => by rw [f_X3_nextMember__a23]) ?_
  refine Tm_chk (u_in (x := L.1 2) (by omega) (by decide)) ?_
  refine Tm_chk (u_in (x := L.1 2 + 1) (by omega) (by decide)) ?_
  refine Tm_op c_unraw (fun q1 z1 => ?_)
  rw [z1]
  refine Tm_op (c_length mi.1 (by show Gv g (σ.2.2.1 23 (L.1 2).toNatClampNeg); rw [c2]; exact gr)) (fun q2 z2 => ?_)
  rw [z2]
  generalize hx : nI (uN ((lI lZ 0 (σ.2.2.1 23 (L.1 2 + 1).toNatClampNeg)).1 0) % 268435456) = nx
  have xl : uN nx < 268435456 := by rw [← hx, u_n (by omega)]; omega
  have el : (lI lZ 1 (σ.2.2.1 23 (L.1 2).toNatClampNeg)).1 1 = σ.2.2.1 23 (pb + n) := by rw [← c2]; rfl
  rw [el]
  refine Tm_ite (fun cl => ?_) (fun _ => ?_)
  · have cl' : nx < nI (lnC (σ.2.2.1 3) (σ.2.2.1 23 (pb + n))) := cl
    rw [u_ltn (by omega) (by rw [u_n (by omega)]; omega), u_n (by omega)] at cl'
    refine Tm_suc (fun k => by rw [f_X3_nextMember__a23]) ?_
    refine Tm_op c_raw (fun q3 z3 => ?_)
    rw [z3]
    refine Tm_chk (u_in (x := L.1 2 + 1) (by omega) (by decide)) ?_
    generalize hv : rwN (uN ((lI lZ 0 ((lI (lI L 5 (σ.2.2.1 23 (L.1 2).toNatClampNeg)) 6 nx).1 6 + 1)).1 0) % 268435456) = rv
    have rvr : Rr rv := by rw [← hv]; exact rwN_r (by omega)
    have p1 := Pre_23 (x := rv) (j := pb + n + 1) (mk := some mkC) p ⟨by omega, by omega⟩ (Or.inr (Or.inr ⟨rfl, Gw_rr rvr⟩)) (Mrl_rf _ ha) (fun i s q b => q.1) (fun i s q b => Or.inl ⟨q.1, by have := q.2 b; omega⟩)
    show Tm (fun k => Jvm.Pilot.CSetHouseLaw_law_r6264_2ea8b6.op (y_X1_taken k 0 (lI (lI lZ 1 (σ.2.2.1 23 (L.1 2).toNatClampNeg)) 2 nx) (uA σ 23 (L.1 2 + 1).toNatClampNeg rv)) (fun r3 => ox (f_X3_push k 0 (lI lZ 1 r3.1) r3.2) (fun r4 => f_X3_nextMember__a23 k 2 (lI (lI L 5 (σ.2.2.1 23 (L.1 2).toNatClampNeg)) 6 nx) (uI r4.2.1 1900 (L.1 3 + 2))))) _
    rw [c2, c21]
    obtain ⟨p1, g1⟩ := p1
    generalize hτ : uA σ 23 (pb + n + 1) rv = τ at *
    have τ3 : τ.2.2.1 3 = σ.2.2.1 3 := by rw [← hτ]; rfl
    refine Tm_op (c_taken p1.1.1 gr ?_) (fun q4 z4 => ?_)
    · show (kdC (τ.2.2.1 3) (σ.2.2.1 23 (pb + n)) = 4 ∧ uN nx < lnC (τ.2.2.1 3) (σ.2.2.1 23 (pb + n))) ∨ 5 ≤ kdC (τ.2.2.1 3) (σ.2.2.1 23 (pb + n))
      rw [τ3]
      generalize σ.2.2.1 23 (pb + n) = h at *
      by_cases lt : uN h < 2147483648
      · have cg := (HQ_c mi.1 (Gv_c gr lt).2).2.2.2.2.2.2.1
        have n2 := nw lt
        unfold kdC
        rw [if_pos lt]
        rcases cg with e | e | e | e
        · exact absurd e n2
        · exact Or.inl ⟨e, cl'⟩
        · exact Or.inr (by omega)
        · exact Or.inr (by omega)
      · unfold lnC at cl' ⊢
        unfold kdC
        rw [if_neg lt] at cl' ⊢
        rw [if_neg lt]
        by_cases e12 : uN h / 268435456 = 12
        · rw [if_pos e12] at cl' ⊢
          exact Or.inl ⟨by omega, cl'⟩
        · rw [if_neg e12] at cl'
          omega
    · have e4 : q4.2 = τ := z4.1
      rw [e4]
      have st' := p1.1.2.1.1
      refine Tm_oxc (c_push st'.1 st'.2.1) (fun q z => by rw [z.1]) (fun q5 z5 => ?_)
      refine Tm_suc (fun k => by rw [f_X3_nextMember__a23]) ?_
      refine Tm_op c_spend (fun q6 e6 => ?_)
      rw [e6]
      refine Tm_some ⟨rfl, ?_⟩
      rw [← mu_e g1.2.2.2.1 g1.2.2.2.2.1]
      refine IO_g g1 (pu_sp (v := L.1 3 + 2) p1 z4.2 z5 ?_ _)
      rw [u_add (by omega), e3, u2]
      exact nS
  · refine Tm_op (c_letGo23 p hn h2 h4 ha) (fun q3 z3 => ?_)
    obtain ⟨K4', pl, gl, fl⟩ := z3
    obtain ⟨b, eb, _⟩ := pl.1.2.2.1
    have cr := Ct_row pl.1.2.2.1 eb
    have e31 : uN (L.1 3 + 1) = pc + 1 := by rw [u_inc (by omega), e3]
    refine Tm_oP eb ?_
    refine Tm_chk (u_in (by rw [e31, cr.2.1]; exact hp) (by rw [cr.2.1]; omega)) ?_
    rw [u_cl (by omega), e31, cr.1]
    refine Tm_some ⟨rfl, ?_⟩
    have ps := Pre_sb pl hr (fun i s q => q)
    refine fl_go (σ' := uI q3.2 1900 (L.1 3 + tcC c (pc + 1))) ps gl rfl (fun j hj => upd_other hj) ?_
    show Nx c (uN (L.1 3 + tcC c (pc + 1))) u d r' rk
    rw [h3]
    exact nE
/-- names are set, or it halts -/
def SpO (c : Ct) (g : Nat → Prop) (l : List Nat) (t : Nat) (K K2 K3 : Nat → Option Int32) (B : Nat) (KB : Nat → Option Int32) (f0 u0 : Nat) (fs : List FrT) (u d : Nat) (r : List Nat) (pb nf nc sq n m : Nat) (σ : CS) (q : Int32 × CS) : Prop := ∃ (σ1 : CS) (K4 : Nat → Option Int32), Pre c g l t K K2 K3 K4 B KB f0 u0 σ1 fs u d r pb nf nc sq ∧ Go c u0 σ σ1 ∧ ((q.2 = σ1 ∧ ∀ k, k < m → K4 (pb + n + k) = none) ∨ (q.2.2 = σ1.2 ∧ (∀ j, ¬ (j = 1812 ∨ j = 1813) → q.2.1 j = σ1.1 j) ∧ q.2.1 1812 = 1 ∧ ¬ q.2.1 1813 = 0))
theorem SpO_io {n m : Nat} {q : Int32 × CS} {v : Int32} (hn : n + m ≤ 180) (h : SpO c g l t K K2 K3 B KB f0 u0 fs u d r pb nf nc sq n m σ q) (hr : Mrl (fun i s => i ∈ s ∨ (bsl + 500000 + n ≤ i ∧ i < bsl + 500000 + n + m)) r' r) (nx : Nx c (uN v) u d r' rk) : IO c B KB f0 u0 σ (mu σ (qv nf sq rk)) ((0, 0), uI q.2 1900 v, (0, 0)) := by
  obtain ⟨σ1, K4, p, a, ⟨h, hk⟩ | ⟨h1, h2, h3⟩⟩ := h
  · rw [h]
    have p' := Pre_av p hr (fun i s q b => by
      rcases q with q | q
      · exact Or.inl q
      · exact absurd b (by omega)) (fun i s q b => by
      rcases q with q | q
      · exact Or.inl q
      · right
        have z := hk (i - bsl - 500000 - n) (by omega)
        have e1 : (i - bsl) % 500000 = i - bsl - 500000 := by omega
        rw [e1, show pb + (i - bsl - 500000) = pb + n + (i - bsl - 500000 - n) by omega, z]
        exact ⟨by omega, Mkk_n (by omega)⟩)
    exact fl_go p' a rfl (fun j hj => upd_other hj) nx
  · refine ha_go p a h1 (fun j hj => ?_) ?_ ?_
    · show upd q.2.1 1900 v j = _
      rw [upd_other (by omega)]
      exact h2 j (by omega)
    · show upd q.2.1 1900 v 1812 = 1
      rw [upd_other (by decide)]
      exact h3.1
    · show ¬ upd q.2.1 1900 v 1813 = 0
      rw [upd_other (by decide)]
      exact h3.2
theorem c_spread23 (p : Pre c g l t K K2 K3 K4 B KB f0 u0 σ fs u (d + 1) r pb nf nc sq) (fb : tcF c u ≤ bt d r) {n m : Nat} (hn : n + m ≤ 180) (h2 : uN (L.1 2) = pb + n) (h3 : uN (L.1 3) = m) (h4 : L.1 4 = 0) (h13 : σ.1 1813 = 0) (hr : Mrl (fun i s => i ∈ s) r' r) (ha : AllM (fun i => ¬ (bsl + n ≤ i ∧ i < bsl + n + m)) r') : Tm (fun k => y_X3_spread__a23 k 0 L σ) (SpO c g l t K K2 K3 B KB f0 u0 fs u d r' pb nf nc sq n m σ) := by
  have mi := p.1
  have ty := p.2.1
  obtain ⟨st1, st2, st3⟩ := mi.2.1.1
  have ts := TyS_sp ty
  have fbb := (FC_b _ _ _ _ _ _ _ ty.2.1).1
  have n20 := ty.2.2.2.1.2
  have gh := (Ty_v p (q := (uN (σ.1 1902) - 1)) (by omega) (by omega))
  obtain ⟨pd0, es⟩ := Pre_dr (x := 1) (d' := d) (n := 1) p rfl rfl fb
  have pd := Pre_sb pd0 hr (fun i s q => q)
  have kl := kdC_lt (σ.2.2.1 3) (σ.2.2.1 20 (uN (σ.1 1902) - 1))
  have b1 : ∀ L' : LV, Tm (fun k => y_X3_spread__a23 k 1 L' (uI σ 1902 (σ.1 1902 - 1))) (SpO c g l t K K2 K3 B KB f0 u0 fs u d r' pb nf nc sq n m σ) := by
    intro L'
    refine Tm_suc (fun k => by rw [y_X3_spread__a23]) ?_
    refine Tm_oc c_fail (fun q2 e2 => ?_)
    rw [e2]
    refine Tm_some ⟨_, K4, pd, Go_dr σ _, Or.inr ⟨rfl, fun j hj => ?_, rfl, f13 (by decide)⟩⟩
    show upd (upd (upd σ.1 1902 _) 1813 _) 1812 1 j = upd σ.1 1902 _ j
    rw [upd_other (by omega), upd_other (by omega)]
  have b4 : ∀ (L' : LV) (τ : CS) (K4' : Nat → Option Int32), Pre c g l t K K2 K3 K4' B KB f0 u0 τ fs u d r' pb nf nc sq → Go c u0 σ τ → (∀ k, k < m → K4' (pb + n + k) = none) → Tm (fun k => y_X3_spread__a23 k 4 L' τ) (SpO c g l t K K2 K3 B KB f0 u0 fs u d r' pb nf nc sq n m σ) := by
    intro L' τ K4' pt gt hk
    refine Tm_suc (fun k => by rw [y_X3_spread__a23]) ?_
    exact Tm_some ⟨τ, K4', pt, gt, Or.inl ⟨rfl, hk⟩⟩
  have b3 : kdC (σ.2.2.1 3) (σ.2.2.1 20 (uN (σ.1 1902) - 1)) = 5 → ∀ (k : Nat) (L' : LV) (τ : CS) (K4' : Nat → Option Int32), Pre c g l t K K2 K3 K4' B KB f0 u0 τ fs u d r' pb nf nc sq → Go c u0 σ τ → τ.1 1813 = 0 → (∀ k, k < uN (L'.1 6) → K4' (pb + n + k) = none) → τ.2.2.1 3 = σ.2.2.1 3 → uN (L'.1 6) + k = m → L'.1 2 = L.1 2 → L'.1 3 = L.1 3 → L'.1 4 = 0 → L'.1 5 = σ.2.2.1 20 (uN (σ.1 1902) - 1) → Tm (fun k => y_X3_spread__a23 k 3 L' τ) (SpO c g l t K K2 K3 B KB f0 u0 fs u d r' pb nf nc sq n m σ) := by
    intro k5 k
    induction k with
    | zero =>
      intro L' τ K4' pt gt e13 hk t3 l6 l2 l3 l4 l5
      refine Tm_suc (fun k => by rw [y_X3_spread__a23]) ?_
      exact Tm_yes (by rw [l3, u_le (by omega) (by omega)]; omega) (b4 _ _ _ pt gt (fun k hk' => hk k (by omega)))
    | succ k ih =>
      intro L' τ K4' pt gt e13 hk t3 l6 l2 l3 l4 l5
      have sq5 : Sq5 g τ (L'.1 5) := by
        refine Sq5_k (by rw [l5]; exact gh) ?_
        rw [t3, l5]; omega
      have ea : uN (L'.1 2 + L'.1 6) = pb + n + uN (L'.1 6) := by rw [l2, u_add (by omega), h2]
      refine Tm_suc (fun k => by rw [y_X3_spread__a23]) ?_
      refine Tm_no (by rw [l3, u_le (by omega) (by omega)]; omega) ?_
      refine Tm_yes e13 ?_
      refine Tm_yes l4 ?_
      refine Tm_suc (fun k => by rw [y_X3_spread__a23]) ?_
      refine Tm_ocE (c_member pt.1.1 sq5.1 sq5.2) ?_
      refine Tm_chk (u_in (x := L'.1 2 + L'.1 6) (by omega) (by decide)) ?_
      rw [u_cl (by omega), ea]
      have p1 := Pre_23 (x := mbC (τ.2.2.1 3) (L'.1 5) (L'.1 6)) (j := pb + n + uN (L'.1 6)) (mk := none) pt ⟨by omega, by omega⟩ (Or.inl ⟨rfl, mbC_g pt.1.1 sq5.1 sq5.2⟩) (Mrl_rf _ ha) (fun i s q b => q.1) (fun i s q b => by
        by_cases y : pb + (i - bsl) % 500000 = pb + n + uN (L'.1 6)
        · right
          exact ⟨by omega, y, Mkk_n (by have := q.2; omega)⟩
        · exact Or.inl ⟨q.1, y⟩)
      refine Tm_suc (fun k => by rw [y_X3_spread__a23]) ?_
      refine ih _ _ _ p1.1 (Go_t gt p1.2) e13 ?_ t3 ?_ l2 l3 l4 l5
      · show ∀ k, k < uN (L'.1 6 + 1) → Kw K4' (pb + n + uN (L'.1 6)) 1 none (pb + n + k) = none
        rw [u_inc (by omega)]
        intro k hk'
        by_cases y : k = uN (L'.1 6)
        · rw [y]; exact Kw_i (Nat.le_refl _) (by omega)
        · rw [Kw_o (by omega)]; exact hk k (by omega)
      · show uN (L'.1 6 + 1) + k = m
        rw [u_inc (by omega)]; omega
  refine Tm_suc (fun k => by rw [y_X3_spread__a23]) ?_
  refine Tm_oc (c_pop (by omega) st1 st2.2) (fun q e => ?_)
  rw [e.1]
  refine Tm_ocE (c_kind pd.1.1 gh) ?_
  refine Tm_ite (fun c5 => ?_) (fun _ => b1 _)
  have k5 : kdC (σ.2.2.1 3) (σ.2.2.1 20 (uN (σ.1 1902) - 1)) = 5 := kd_n (n := 5) (by decide) c5
  refine Tm_ocE (c_length pd.1.1 gh) ?_
  refine Tm_ite (fun _ => ?_) (fun _ => b1 _)
  refine Tm_suc (fun k => by rw [y_X3_spread__a23]) ?_
  exact b3 k5 m _ _ K4 pd (Go_dr σ _) h13 (fun k hk => absurd hk (Nat.not_lt_zero k)) rfl (by show 0 + m = m; omega) rfl rfl h4 rfl
end CTD
end JnS392
section JnS393
/-! The class: slots of frames are written. -/
section CTE
variable {g g' g2 : Nat → Prop} {l l' l2 : List Nat} {t t' t2 : Nat} {σ σ' σ2 : CS} {L : LV} {x y i : Int32} {M M' U U' : Nat → Int32} {K K' K2 K2' K3 K4 K4' KB : Nat → Option Int32} {c : Ct} {B f0 u0 : Nat} {fs : List FrT} {u d : Nat} {r r' : List Nat} {pb nf nc sq rk : Nat}
/-- slots are at the bottom -/
def SlB : List Nat → Prop
  | [] => False
  | e :: r => ¬ bsl ≤ e → SlB r
theorem SL_sl {Q : Nat → List Nat → Prop} {lo p : Nat} {mk : Option Int32} (hm : Sk mk) (hQ : ∀ i s, Q i s → i < bsl → (i ∈ s ∧ ¬ lo + i % 500000 = p) ∨ (lo + i % 500000 = p ∧ Mkk i mk)) : ∀ (r' r : List Nat) (hi d : Nat), SlB r → lo ≤ p → p < lo + bt d r → Mrl Q r' r → SL K lo hi d r → SL (Kw K p 1 mk) lo hi d r'
  | [], r, hi, d, sb, _, _, h, q => by
    have e : r = [] := h
    subst e
    exact absurd sb id
  | e :: r', r, hi, d, sb, l1, l2, h, q => by
    obtain ⟨s, h1, h2, h3⟩ := h
    subst h1
    refine ⟨fun c => ?_, fun c c5 => ?_, fun c c5 => ?_⟩
    · obtain ⟨a1, a2, a3, a4⟩ := q.1 c
      have eb : bt d (e :: s) = e - bsl := if_pos c
      rw [eb] at l2
      refine ⟨fun i i1 i2 => ?_, a2, fun j j1 j2 => ?_, fun j j1 j2 => ?_⟩
      · rcases hQ i s (h2 c i i1) i2 with y | y
        · have z := a1 i y.1 i2
          exact ⟨z.1, by rw [Kw_o (by omega)]; exact z.2⟩
        · exact ⟨by omega, by rw [Kw_i (by omega) (by omega)]; exact y.2⟩
      · by_cases y : j = p
        · rw [Kw_i (by omega) (by omega)]; exact hm
        · rw [Kw_o (by omega)]; exact a3 j j1 j2
      · rw [Kw_o (by omega)]; exact a4 j j1 j2
    · obtain ⟨b, n, z, a1, a2, a3, a4, a5, a6, a7⟩ := q.2.1 c c5
      have eb : bt d (e :: s) = bt (e / 2) s := if_neg c
      rw [eb] at l2
      have sl := (SL_le s b (e / 2) a2).1
      exact ⟨b, n, z, a1, SL_sl hm hQ r' s b (e / 2) (sb c) l1 l2 (h3 c) a2, fun j h1 h2 => by rw [Kw_o (by omega)]; exact a3 j h1 h2, by rw [Kw_o (by omega)]; exact a4, by rw [Kw_o (by omega)]; exact a5, a6, fun j h1 h2 => by rw [Kw_o (by omega)]; exact a7 j h1 h2⟩
    · obtain ⟨b, e0, r0, a1, a2, a3, a4, a7⟩ := q.2.2 c c5
      have eb : bt d (e :: s) = bt (e / 2) s := if_neg c
      have eb2 : bt (e / 2) s = bt (e % 250000) s := by rw [a3]; exact bt_c _ _ _ _
      rw [eb, eb2] at l2
      have sl := (SL_le s b (e % 250000) a2).1
      obtain ⟨ms', e'⟩ := Mrl_hd (h3 c) a3
      exact ⟨b, e0, ms', a1, SL_sl hm hQ r' s b (e % 250000) (sb c) l1 l2 (h3 c) a2, e', fun j h1 h2 => by rw [Kw_o (by omega)]; exact a4 j h1 h2, fun j h1 h2 => by rw [Kw_o (by omega)]; exact a7 j h1 h2⟩
/-- a value into a slot of the frame in use -/
theorem Pre_20 (p : Pre c g l t K K2 K3 K4 B KB f0 u0 σ fs u d r pb nf nc sq) {n : Nat} (hn : n < bt d r) (sb : SlB r) {mk : Option Int32} (hm : (mk = none ∧ Gv g x) ∨ (mk = some mkR ∧ (Gv g x ∧ NoW (σ.2.2.1 3) x) ∧ tcF c u ≤ n) ∨ (mk = some mkC ∧ Gw g x ∧ tcF c u ≤ n)) {Q : Nat → List Nat → Prop} (hr : Mrl Q r' r) (hQ1 : ∀ i s, Q i s → i < bsl → (i ∈ s ∧ ¬ i % 500000 = n) ∨ (i % 500000 = n ∧ Mkk i mk)) (hQ2 : ∀ i s, Q i s → bsl ≤ i → i ∈ s) : Pre c g l t K K2 K3 K4 B KB f0 u0 σ fs u d r pb nf nc sq ∧ Pre c g l t (Kw K (uN (σ.1 1901) + 4 + n) 1 mk) K2 K3 K4 B KB f0 u0 (uA σ 20 (uN (σ.1 1901) + 4 + n) x) fs u d r' pb nf nc sq ∧ Go c u0 σ (uA σ 20 (uN (σ.1 1901) + 4 + n) x) := by
  refine ⟨p, ?_⟩
  obtain ⟨mi, ty, w, h0, bo⟩ := p
  have ts := TyS_sp ty
  have md : Md σ (uA σ 20 (uN (σ.1 1901) + 4 + n) x) := Md_A σ (by decide) _ _
  obtain ⟨st1, st2, st3⟩ := mi.2.1.1
  have rw1 : Rwk g (σ.2.2.1 3) (Kw K (uN (σ.1 1901) + 4 + n) 1 mk) (upd (σ.2.2.1 20) (uN (σ.1 1901) + 4 + n) x) (uN (σ.1 1902)) := by
    intro i hi
    by_cases e : i = uN (σ.1 1901) + 4 + n
    · rw [e, upd_same, Kw_i (Nat.le_refl _) (by omega)]
      rcases hm with z | z | z
      · rw [z.1]; exact Rwn z.2
      · rw [z.1]; exact Rwm z.2.1.1 z.2.1.2
      · rw [z.1]; exact Rwc z.2.1
    · rw [upd_other e, Kw_o (by omega)]
      exact st3 i hi
  have v := VI_20 (σ' := uA σ 20 (uN (σ.1 1901) + 4 + n) x) mi.2.1 md rfl ⟨fun _ z => z, fun _ _ => rfl⟩ st1 st2 rw1
  have kb : ∀ j, j < B → Kw K (uN (σ.1 1901) + 4 + n) 1 mk j = KB j := by
    intro j hj
    by_cases e : j = uN (σ.1 1901) + 4 + n
    · rw [Kw_i (by omega) (by omega)]
      rcases bo with y | y
      · omega
      · rw [y.1 j, KH_n (by omega)]
        have big : tcF c u ≤ n → mk = none := by
          intro z3
          exfalso
          rcases FC_B _ _ _ _ _ _ _ ty.2.1 with q | q
          · rw [q.2] at z3
            omega
          · omega
        rcases hm with z | z | z
        · exact z.1
        · exact big z.2.2
        · exact big z.2.2
    · rw [Kw_o (by omega)]
      exact mi.2.2.2.2.2.1 j hj
  refine ⟨⟨MIn_d mi md (HQ_fr mi.1 rfl rfl rfl) v kb mi.2.2.2.2.2.2.1.2, ?_, w, h0, bo⟩, Md_M md, fun _ => Md_E md, rfl, rfl, rfl, rfl⟩
  obtain ⟨t1, t2, t3, t4, t5, t6, t7, t8, t9⟩ := ty
  have e01 : uN ((uA σ 20 (uN (σ.1 1901) + 4 + n) x).1 1901) = uN (σ.1 1901) := rfl
  refine ⟨SL_sl (hm.imp (fun z => z.1) (fun z => z.imp (fun z => z.1) (fun z => z.1))) (fun i s q b => ?_) r' r _ _ sb (by omega) (by omega) hr t1, FC_k t2 (fun p hp => Kw_o (Or.inl (by omega))) (fun _ _ => rfl), by rw [Mrl_bt r' r d hr]; exact t3, t4, t5, t6, t7, t8, PaM_mr (fun i s q b => Or.inl ⟨hQ2 i s q b, rfl⟩) r' r hr t9⟩
  rcases hQ1 i s q b with y | y
  · exact Or.inl ⟨y.1, by have := y.2; omega⟩
  · exact Or.inr ⟨by omega, y.2⟩
/-- a value into a plain place -/
theorem Pre_s (p : Pre c g l t K K2 K3 K4 B KB f0 u0 σ fs u d r pb nf nc sq) {j : Nat} (hk : K j = none) (gx : Gv g x) : Pre c g l t K K2 K3 K4 B KB f0 u0 (uA σ 20 j x) fs u d r pb nf nc sq ∧ Go c u0 σ (uA σ 20 j x) := by
  obtain ⟨mi, ty, w, h0, bo⟩ := p
  have md : Md σ (uA σ 20 j x) := Md_A σ (by decide) _ _
  obtain ⟨st1, st2, st3⟩ := mi.2.1.1
  have rw1 : Rwk g (σ.2.2.1 3) K (upd (σ.2.2.1 20) j x) (uN (σ.1 1902)) := by
    intro i hi
    by_cases e : i = j
    · rw [e, upd_same, hk]
      exact Rwn (gx)
    · rw [upd_other e]
      exact st3 i hi
  have v := VI_20 (σ' := uA σ 20 j x) mi.2.1 md rfl ⟨fun _ z => z, fun _ _ => rfl⟩ st1 st2 rw1
  exact ⟨⟨MIn_d mi md (HQ_fr mi.1 rfl rfl rfl) v mi.2.2.2.2.2.1 mi.2.2.2.2.2.2.1.2, ty, w, h0, bo⟩, Md_M md, fun _ => Md_E md, rfl, rfl, rfl, rfl⟩
/-- a value, or a number, into a place of that kind -/
theorem Pre_sc (p : Pre c g l t K K2 K3 K4 B KB f0 u0 σ fs u d r pb nf nc sq) {j : Nat} (hk : K j = some mkC) (gx : Gw g x) : Pre c g l t K K2 K3 K4 B KB f0 u0 (uA σ 20 j x) fs u d r pb nf nc sq ∧ Go c u0 σ (uA σ 20 j x) := by
  obtain ⟨mi, ty, w, h0, bo⟩ := p
  have md : Md σ (uA σ 20 j x) := Md_A σ (by decide) _ _
  obtain ⟨st1, st2, st3⟩ := mi.2.1.1
  have rw1 : Rwk g (σ.2.2.1 3) K (upd (σ.2.2.1 20) j x) (uN (σ.1 1902)) := by
    intro i hi
    by_cases e : i = j
    · rw [e, upd_same, hk]
      exact Rwc gx
    · rw [upd_other e]
      exact st3 i hi
  have v := VI_20 (σ' := uA σ 20 j x) mi.2.1 md rfl ⟨fun _ z => z, fun _ _ => rfl⟩ st1 st2 rw1
  exact ⟨⟨MIn_d mi md (HQ_fr mi.1 rfl rfl rfl) v mi.2.2.2.2.2.1 mi.2.2.2.2.2.2.1.2, ty, w, h0, bo⟩, Md_M md, fun _ => Md_E md, rfl, rfl, rfl, rfl⟩
/-- TOTAL, where statements run -/
theorem Pre_tl (p : Pre c g l t K K2 K3 K4 B KB f0 u0 σ fs u d r pb nf nc sq) (cs : tcS c u0) {j : Nat} (hj : j = 1909 ∨ j = 1910) (x : Int32) : Pre c g l t K K2 K3 K4 B KB f0 u0 (uI σ j x) fs u d r pb nf nc sq ∧ Go c u0 σ (uI σ j x) := by
  obtain ⟨mi, ty, w, h0, bo⟩ := p
  have e : ∀ i, ¬ i = j → (uI σ j x).1 i = σ.1 i := fun i hi => upd_other hi
  have mt := MIn_fw (σ' := uI σ j x) mi rfl (fun i hi => e i (by omega)) (by rw [e 1902 (by omega)]; exact mi.2.2.2.2.2.2.1.2) (by rw [e 1902 (by omega)]; exact Nat.le_refl _) (by rw [e 1903 (by omega), e 1814 (by omega)]; exact mi.2.2.2.2.2.2.2.1)
  exact ⟨⟨mt.1, TyS_k ty ⟨e 1901 (by omega), e 1815 (by omega), e 1811 (by omega), e 1908 (by omega)⟩ (by rw [e 1902 (by omega)]; exact ty.1) (fun _ _ => rfl) ty.2.2.1 ty.2.2.2.2.2.2.2.2, by rw [e 1905 (by omega)]; exact w, by rw [e 1812 (by omega)]; exact h0, bo⟩, Mw_M mt.2, fun n => absurd cs n, rfl, e 1905 (by omega), e 1814 (by omega), e 1900 (by omega)⟩
/-- done, or it halts; places of the stack may be others -/
def SpK (P : (Nat → Option Int32) → Prop) (c : Ct) (g : Nat → Prop) (l : List Nat) (t : Nat) (K2 K3 K4 : Nat → Option Int32) (B : Nat) (KB : Nat → Option Int32) (f0 u0 : Nat) (fs : List FrT) (u d : Nat) (r : List Nat) (pb nf nc sq : Nat) (σ σ' : CS) : Prop := ∃ (σ1 : CS) (K : Nat → Option Int32), Pre c g l t K K2 K3 K4 B KB f0 u0 σ1 fs u d r pb nf nc sq ∧ Go c u0 σ σ1 ∧ ((σ' = σ1 ∧ P K) ∨ (σ'.2 = σ1.2 ∧ (∀ j, ¬ (j = 1812 ∨ j = 1813) → σ'.1 j = σ1.1 j) ∧ σ'.1 1812 = 1 ∧ ¬ σ'.1 1813 = 0))
theorem SpK_io {P : (Nat → Option Int32) → Prop} {v : Int32} (h : SpK P c g l t K2 K3 K4 B KB f0 u0 fs u d r pb nf nc sq σ σ') (hP : ∀ (σ1 : CS) (K : Nat → Option Int32), uN (σ1.1 1901) = uN (σ.1 1901) → Pre c g l t K K2 K3 K4 B KB f0 u0 σ1 fs u d r pb nf nc sq → P K → Pre c g l t K K2 K3 K4 B KB f0 u0 σ1 fs u d r' pb nf nc sq) (hf : σ'.1 1901 = σ.1 1901) (nx : Nx c (uN v) u d r' rk) : IO c B KB f0 u0 σ (mu σ (qv nf sq rk)) ((0, 0), uI σ' 1900 v, (0, 0)) := by
  obtain ⟨σ1, K, p, a, ⟨h, hk⟩ | ⟨h1, h2, h3⟩⟩ := h
  · rw [h] at hf ⊢
    exact fl_go (hP σ1 K (by rw [hf]) p hk) a rfl (fun j hj => upd_other hj) nx
  · refine ha_go p a h1 (fun j hj => ?_) ?_ ?_
    · show upd σ'.1 1900 v j = _
      rw [upd_other (by omega)]
      exact h2 j (by omega)
    · show upd σ'.1 1900 v 1812 = 1
      rw [upd_other (by decide)]
      exact h3.1
    · show ¬ upd σ'.1 1900 v 1813 = 0
      rw [upd_other (by decide)]
      exact h3.2
theorem SpK_0 {P : (Nat → Option Int32) → Prop} (h : SpK P c g l t K2 K3 K4 B KB f0 u0 fs u d r pb nf nc sq σ σ') (hP : ∀ (σ1 : CS) (K : Nat → Option Int32), uN (σ1.1 1901) = uN (σ.1 1901) → Pre c g l t K K2 K3 K4 B KB f0 u0 σ1 fs u d r pb nf nc sq → P K → Pre c g l t K K2 K3 K4 B KB f0 u0 σ1 fs u d r' pb nf nc sq) (hf : σ'.1 1901 = σ.1 1901) (nx : Nx c (uN (σ.1 1900)) u d r' rk) : IO c B KB f0 u0 σ (mu σ (qv nf sq rk)) ((0, 0), σ', (0, 0)) := by
  obtain ⟨σ1, K, p, a, ⟨h, hk⟩ | ⟨h1, h2, h3⟩⟩ := h
  · rw [h] at hf ⊢
    exact fl_go (hP σ1 K (by rw [hf]) p hk) a rfl (fun _ _ => rfl) (by rw [a.2.2.2.2.2]; exact nx)
  · exact ha_go p a h1 (fun j hj => h2 j (by omega)) h3.1 h3.2
/-- where a value may be written -/
def WP (c : Ct) (g : Nat → Prop) (l : List Nat) (t : Nat) (K2 K3 K4 : Nat → Option Int32) (B : Nat) (KB : Nat → Option Int32) (f0 u0 : Nat) (fs : List FrT) (u d : Nat) (r : List Nat) (pb nf nc sq fp j : Nat) : Prop := ∀ (τ : CS) (K : Nat → Option Int32) (x : Int32), Pre c g l t K K2 K3 K4 B KB f0 u0 τ fs u d r pb nf nc sq → uN (τ.1 1901) = fp → Gv g x → j < uN (τ.1 1902) ∧ Pre c g l t (Kw K j 1 none) K2 K3 K4 B KB f0 u0 (uA τ 20 j x) fs u d r pb nf nc sq ∧ Go c u0 τ (uA τ 20 j x)
theorem c_assign (p : Pre c g l t K K2 K3 K4 B KB f0 u0 σ fs u d r pb nf nc sq) (cs : tcS c u0) {j : Nat} (h1 : uN (L.1 1) = j) (gx : Gv g (L.1 2)) (wp : WP c g l t K2 K3 K4 B KB f0 u0 fs u d r pb nf nc sq (uN (σ.1 1901)) j) : Tm (fun k => y_X3_assign k 0 L σ) (fun q => SpK (fun K' => K' = Kw K j 1 none ∧ q.2.1 1813 = σ.1 1813) c g l t K2 K3 K4 B KB f0 u0 fs u d r pb nf nc sq σ q.2 ∧ q.2.1 1901 = σ.1 1901 ∧ q.2.2.2.1 3 = σ.2.2.1 3) := by
  have st := p.1.2.1.1
  have jl := (wp σ K _ p rfl gx).1
  have i1 : ¬ (L.1 1 < 0 ∨ sN σ 20 ≤ (L.1 1).toNatClampNeg) := u_in (by omega) (by omega)
  have c1 : (L.1 1).toNatClampNeg = j := by rw [u_cl (by omega)]; exact h1
  have b3 : ∀ (L' : LV) (τ : CS), L'.1 1 = L.1 1 → L'.1 2 = L.1 2 → Pre c g l t K K2 K3 K4 B KB f0 u0 τ fs u d r pb nf nc sq → Go c u0 σ τ → τ.1 1901 = σ.1 1901 → τ.1 1813 = σ.1 1813 → τ.2.2.1 3 = σ.2.2.1 3 → Tm (fun k => y_X3_assign k 3 L' τ) (fun q => SpK (fun K' => K' = Kw K j 1 none ∧ q.2.1 1813 = σ.1 1813) c g l t K2 K3 K4 B KB f0 u0 fs u d r pb nf nc sq σ q.2 ∧ q.2.1 1901 = σ.1 1901 ∧ q.2.2.2.1 3 = σ.2.2.1 3) := by
    intro L' τ l1 l2 pt gt f1 f13' r3
    have st' := pt.1.2.1.1
    obtain ⟨pa, ga⟩ := Pre_tl pt cs (Or.inr rfl) (L'.1 100)
    have z := wp _ K (L'.1 2) pa (by show uN (τ.1 1901) = _; rw [f1]) (by rw [l2]; exact gx)
    obtain ⟨z1, z2, z3⟩ := z
    refine Tm_suc (fun k => by rw [y_X3_assign]) ?_
    refine Tm_chk (by rw [l1]; exact u_in (by show uN (L.1 1) < sN τ 20; have z1' : j < uN (τ.1 1902) := z1; omega) (by show sN τ 20 ≤ _; omega)) ?_
    rw [l1, c1]
    exact Tm_some ⟨⟨_, _, z2, Go_t gt (Go_t ga z3), Or.inl ⟨rfl, rfl, f13'⟩⟩, f1, r3⟩
  have b1 : ∀ (L' : LV), L'.1 1 = L.1 1 → L'.1 2 = L.1 2 → Tm (fun k => y_X3_assign k 1 L' σ) (fun q => SpK (fun K' => K' = Kw K j 1 none ∧ q.2.1 1813 = σ.1 1813) c g l t K2 K3 K4 B KB f0 u0 fs u d r pb nf nc sq σ q.2 ∧ q.2.1 1901 = σ.1 1901 ∧ q.2.2.2.1 3 = σ.2.2.1 3) := by
    intro L' l1 l2
    obtain ⟨pa, ga⟩ := Pre_tl p cs (Or.inl rfl) (σ.1 1909 + L'.1 4)
    refine Tm_suc (fun k => by rw [y_X3_assign]) ?_
    refine Tm_ite (fun _ => ?_) (fun _ => ?_)
    · refine Tm_suc (fun k => by rw [y_X3_assign]) ?_
      exact b3 _ _ l1 l2 pa ga rfl rfl rfl
    · exact b3 _ _ l1 l2 pa ga rfl rfl rfl
  refine Tm_suc (fun k => by rw [y_X3_assign]) ?_
  refine Tm_oc (c_size1 p.1.1 gx) (fun q z => ?_)
  have e : q.2 = σ := z.1
  rw [e]
  refine Tm_chk i1 ?_
  refine Tm_oc (c_sizeW p.1.1 (by show Gw g (σ.2.2.1 20 (L.1 1).toNatClampNeg); rw [c1]; exact (st.2.2 j jl).1)) (fun q2 z2 => ?_)
  have e2 : q2.2 = σ := z2.1
  rw [e2]
  refine Tm_ite (fun _ => b1 _ rfl rfl) (fun _ => Tm_ite (fun _ => b1 _ rfl rfl) (fun _ => ?_))
  refine Tm_oc c_fail (fun q3 e3 => ?_)
  rw [e3]
  refine Tm_some ⟨⟨σ, K, p, Go_r σ, Or.inr ⟨rfl, fun j hj => ?_, rfl, by show ¬ (6 : Int32) = 0; decide⟩⟩, rfl, rfl⟩
  show upd (upd σ.1 1813 _) 1812 1 j = _
  rw [upd_other (by omega), upd_other (by omega)]
end CTE
end JnS393
section JnS394
/-! The class: iterators of fors. -/
section CTF
variable {g g' g2 : Nat → Prop} {l l' l2 : List Nat} {t t' t2 : Nat} {σ σ' σ2 : CS} {L : LV} {x y i : Int32} {M M' U U' : Nat → Int32} {K K' K2 K2' K3 K4 K4' KB : Nat → Option Int32} {c : Ct} {B f0 u0 : Nat} {fs : List FrT} {u d : Nat} {r r' : List Nat} {pb nf nc sq rk : Nat}
theorem AllM_t : ∀ r : List Nat, AllM (fun _ => True) r
  | [] => trivial
  | e :: r => ⟨fun _ _ _ => trivial, fun _ => AllM_t r⟩
/-- the slots of the frame in use -/
theorem WP_sl {fp n : Nat} (hn : n < bt d r) (sb : SlB r) (ha : AllM (fun i => ¬ i = n) r) : WP c g l t K2 K3 K4 B KB f0 u0 fs u d r pb nf nc sq fp (fp + 4 + n) := by
  intro τ K x p e gx
  have ts := TyS_sp p.2.1
  have z := Pre_20 (n := n) (mk := none) p hn sb (Or.inl ⟨rfl, gx⟩) (Mrl_rf _ ha) (fun i s q b => by
    by_cases y : i % 500000 = n
    · exact Or.inr ⟨y, Mkk_n (fun lt => q.2 (by omega))⟩
    · exact Or.inl ⟨q.1, y⟩) (fun i s q b => q.1)
  rw [e] at z ts
  exact ⟨by omega, z.2.1, z.2.2⟩
/-- what is gone over in a for, and its number: let go -/
theorem lg_20 (p : Pre c g l t K K2 K3 K4 B KB f0 u0 σ fs u d r pb nf nc sq) {n : Nat} (hn : n + 1 < bt d r) (sb : SlB r) (hf : tcF c u ≤ n) (ha : AllM (fun i => i < bsl → ¬ i % 500000 = n + 1) r) : ∃ K', Pre c g l t K' K2 K3 K4 B KB f0 u0 (uA (uA σ 20 (uN (σ.1 1901) + 4 + n) (-2147483648)) 20 (uN (σ.1 1901) + 4 + (n + 1)) (-2147483648)) fs u d r pb nf nc sq ∧ Go c u0 σ (uA (uA σ 20 (uN (σ.1 1901) + 4 + n) (-2147483648)) 20 (uN (σ.1 1901) + 4 + (n + 1)) (-2147483648)) := by
  have om : NoW (σ.2.2.1 3) (-2147483648) := fun lt => absurd lt (by decide)
  have p1 := Pre_20 (x := -2147483648) (n := n) (mk := some mkR) (r' := r) (Q := fun i s => i ∈ s ∧ True) p (by omega) sb (Or.inr (Or.inl ⟨rfl, ⟨Gv_om g, om⟩, hf⟩)) (Mrl_rf _ (AllM_t r)) (fun i s q b => by
    by_cases y : i % 500000 = n
    · exact Or.inr ⟨y, Mkk_r _⟩
    · exact Or.inl ⟨q.1, y⟩) (fun i s q b => q.1)
  have p2 := Pre_20 (x := -2147483648) (n := n + 1) (mk := none) p1.2.1 hn sb (Or.inl ⟨rfl, Gv_om g⟩) (Mrl_rf _ ha) (fun i s q b => Or.inl ⟨q.1, q.2 b⟩) (fun i s q b => q.1)
  exact ⟨_, p2.2.1, Go_t p1.2.2 p2.2.2⟩
theorem c_letGo20 (p : Pre c g l t K K2 K3 K4 B KB f0 u0 σ fs u d r pb nf nc sq) (cs : tcS c u0) {n : Nat} (hn : n + 1 < bt d r) (sb : SlB r) (hf : tcF c u ≤ n) (h2 : uN (L.1 2) = uN (σ.1 1901) + 4 + n) (ha : AllM (fun i => i < bsl → ¬ i % 500000 = n + 1) r) : Tm (fun k => y_X3_letGo__z20 k 0 L σ) (fun q => ∃ K', Pre c g l t K' K2 K3 K4 B KB f0 u0 q.2 fs u d r pb nf nc sq ∧ Go c u0 σ q.2 ∧ q.2.1 1901 = σ.1 1901) := by
  have st := p.1.2.1.1
  have ts := TyS_sp p.2.1
  have i2 : ∀ τ : CS, sN τ 20 = sN σ 20 → ¬ (L.1 2 < 0 ∨ sN τ 20 ≤ (L.1 2).toNatClampNeg) := fun τ e => u_in (by omega) (by omega)
  have e21 : uN (L.1 2 + 1) = uN (σ.1 1901) + 4 + (n + 1) := by rw [u_inc (by omega), h2]; omega
  have c2 : (L.1 2).toNatClampNeg = uN (σ.1 1901) + 4 + n := by rw [u_cl (by omega)]; exact h2
  have c21 : (L.1 2 + 1).toNatClampNeg = uN (σ.1 1901) + 4 + (n + 1) := by rw [u_cl (by omega)]; exact e21
  have b1 : ∀ (τ : CS) (L' : LV), L'.1 2 = L.1 2 → Pre c g l t K K2 K3 K4 B KB f0 u0 τ fs u d r pb nf nc sq → Go c u0 σ τ → τ.1 1901 = σ.1 1901 → Tm (fun k => y_X3_letGo__z20 k 1 L' τ) (fun q => ∃ K', Pre c g l t K' K2 K3 K4 B KB f0 u0 q.2 fs u d r pb nf nc sq ∧ Go c u0 σ q.2 ∧ q.2.1 1901 = σ.1 1901) := by
    intro τ L' l2 pt gt f1
    have es : sN τ 20 = sN σ 20 := by show τ.2.2.2.2.1 20 = _; rw [gt.2.2.1]
    obtain ⟨K', z1, z2⟩ := lg_20 pt hn sb hf ha
    refine Tm_suc (fun k => by rw [y_X3_letGo__z20]) ?_
    rw [l2]
    refine Tm_chk (i2 τ es) ?_
    refine Tm_chk (u_in (x := L.1 2 + 1) (by show uN (L.1 2 + 1) < sN τ 20; omega) (by show sN τ 20 ≤ _; omega)) ?_
    rw [c2, c21]
    rw [f1] at z1 z2
    exact Tm_some ⟨K', z1, Go_t gt z2, f1⟩
  refine Tm_suc (fun k => by rw [y_X3_letGo__z20]) ?_
  refine Tm_ite (fun _ => b1 σ _ rfl p (Go_r σ) rfl) (fun _ => ?_)
  refine Tm_chk (i2 σ rfl) ?_
  refine Tm_ite (fun _ => b1 σ _ rfl p (Go_r σ) rfl) (fun _ => ?_)
  refine Tm_chk (i2 σ rfl) ?_
  refine Tm_oc (c_sizeW p.1.1 (by show Gw g (σ.2.2.1 20 (L.1 2).toNatClampNeg); rw [c2]; exact (st.2.2 _ (by omega)).1)) (fun q z => ?_)
  have e : q.2 = σ := z.1
  rw [e]
  obtain ⟨pa, ga⟩ := Pre_tl p cs (Or.inl rfl) (σ.1 1909 - q.1)
  obtain ⟨pb', gb⟩ := Pre_tl pa cs (Or.inr rfl) ((uI σ 1909 (σ.1 1909 - q.1)).1 1910 - q.1)
  exact b1 _ _ rfl pb' (Go_t ga gb) rfl
theorem c_goOver20 (p : Pre c g l t K K2 K3 K4 B KB f0 u0 σ fs u (d + 1) r pb nf nc sq) (cs : tcS c u0) (fb : tcF c u ≤ bt d r) {n : Nat} (hn : n + 1 < bt d r) (sb : SlB r) (hf : tcF c u ≤ n) (h2 : uN (L.1 2) = uN (σ.1 1901) + 4 + n) (hr : Mrl (fun i s => i = n ∨ i ∈ s) r' r) (ha : AllM (fun i => i < bsl → ¬ i % 500000 = n + 1) r') (sb' : SlB r') (nx : Nx c (uN (σ.1 1900)) u d r' rk) : Tm (fun k => y_X3_goOver__z20 k 0 L σ) (fun q => IO c B KB f0 u0 σ (mu σ (qv nf sq rk)) ((0, 0), q.2, (0, 0))) := by
  have mi := p.1
  have ty := p.2.1
  obtain ⟨st1, st2, st3⟩ := mi.2.1.1
  have ts := TyS_sp ty
  have gh := (Ty_v p (q := (uN (σ.1 1902) - 1)) (by omega) (by omega))
  obtain ⟨pd, es⟩ := Pre_dr (x := 1) (d' := d) (n := 1) p rfl rfl fb
  have td := TyS_sp pd.2.1
  have kl := kdC_lt (σ.2.2.1 3) (σ.2.2.1 20 (uN (σ.1 1902) - 1))
  have es' : uN ((uI σ 1902 (σ.1 1902 - 1)).1 1902) = uN (σ.1 1902) - 1 := es
  have f1' : uN ((uI σ 1902 (σ.1 1902 - 1)).1 1901) = uN (σ.1 1901) := rfl
  have e21 : uN (L.1 2 + 1) = uN (σ.1 1901) + 4 + (n + 1) := by rw [u_inc (by omega), h2]; omega
  have c2 : (L.1 2).toNatClampNeg = uN (σ.1 1901) + 4 + n := by rw [u_cl (by omega)]; exact h2
  have c21 : (L.1 2 + 1).toNatClampNeg = uN (σ.1 1901) + 4 + (n + 1) := by rw [u_cl (by omega)]; exact e21
  have nb : n < bsl := by unfold bsl; omega
  have n5 : n < 500000 := by omega
  have fail : ∀ (a : Int32), ¬ a = 0 → Tm (fun k => oc (y_X3_fail k 0 (lI lZ 1 a) (uI σ 1902 (σ.1 1902 - 1))) (fun r4 => some (0, r4.2))) (fun q => IO c B KB f0 u0 σ (mu σ (qv nf sq rk)) ((0, 0), q.2, (0, 0))) := by
    intro a a0
    refine Tm_oc c_fail (fun q2 e2 => ?_)
    rw [e2]
    refine Tm_some (ha_go pd (Go_dr σ _) rfl (fun j hj => ?_) rfl (f13 a0))
    show upd (upd (upd σ.1 1902 _) 1813 _) 1812 1 j = upd σ.1 1902 _ j
    rw [upd_other (by omega), upd_other (by omega)]
  have b2 : ∀ (τ : CS) (L' : LV), L'.1 2 = L.1 2 → L'.1 4 = σ.2.2.1 20 (uN (σ.1 1902) - 1) → NoW (σ.2.2.1 3) (L'.1 4) → Pre c g l t K K2 K3 K4 B KB f0 u0 τ fs u d r pb nf nc sq → Go c u0 σ τ → τ.1 1901 = σ.1 1901 → τ.2.2.1 3 = σ.2.2.1 3 → Tm (fun k => y_X3_goOver__z20 k 2 L' τ) (fun q => IO c B KB f0 u0 σ (mu σ (qv nf sq rk)) ((0, 0), q.2, (0, 0))) := by
    intro τ L' l2 l4 nw pt gt f1 r3
    have eN : sN τ 20 = sN σ 20 := by show τ.2.2.2.2.1 20 = _; rw [gt.2.2.1]
    have p1 := Pre_20 (x := L'.1 4) (n := n) (mk := some mkR) pt (by omega) sb (Or.inr (Or.inl ⟨rfl, ⟨by rw [l4]; exact gh, by rw [r3]; exact nw⟩, hf⟩)) hr (fun i s q b => by
      by_cases y : i % 500000 = n
      · exact Or.inr ⟨y, Mkk_r _⟩
      · exact Or.inl ⟨q.resolve_left (fun e => y (by rw [e]; omega)), y⟩) (fun i s q b => q.resolve_left (by omega))
    have p2 := Pre_20 (x := rwN (uN (0 : Int32) % 268435456)) (n := n + 1) (mk := some mkC) p1.2.1 (by rw [Mrl_bt r' r d hr]; exact hn) sb' (Or.inr (Or.inr ⟨rfl, Gw_rr (rwN_r (by omega)), by omega⟩)) (Mrl_rf _ ha) (fun i s q b => Or.inl ⟨q.1, q.2 b⟩) (fun i s q b => q.1)
    have f1u : uN (τ.1 1901) = uN (σ.1 1901) := by rw [f1]
    obtain ⟨-, q1, q2⟩ := p1
    obtain ⟨-, q3, q4⟩ := p2
    have q3' : Pre c g l t _ K2 K3 K4 B KB f0 u0 (uA (uA τ 20 (uN (τ.1 1901) + 4 + n) (L'.1 4)) 20 (uN (τ.1 1901) + 4 + (n + 1)) (rwN (uN (0 : Int32) % 268435456))) fs u d r' pb nf nc sq := q3
    have q4' : Go c u0 _ (uA (uA τ 20 (uN (τ.1 1901) + 4 + n) (L'.1 4)) 20 (uN (τ.1 1901) + 4 + (n + 1)) (rwN (uN (0 : Int32) % 268435456))) := q4
    refine Tm_suc (fun k => by rw [y_X3_goOver__z20]) ?_
    rw [l2]
    refine Tm_chk (u_in (x := L.1 2) (by omega) (by omega)) ?_
    refine Tm_oc c_raw (fun q z => ?_)
    rw [z]
    refine Tm_chk (u_in (x := L.1 2 + 1) (by show uN (L.1 2 + 1) < sN τ 20; omega) (by show sN τ 20 ≤ _; omega)) ?_
    refine Tm_suc (fun k => by rw [y_X3_goOver__z20]) ?_
    refine Tm_some ?_
    have ee : uA (uA τ 20 (L.1 2).toNatClampNeg (L'.1 4)) 20 (L.1 2 + 1).toNatClampNeg (rwN (uN (0 : Int32) % 268435456)) = uA (uA τ 20 (uN (τ.1 1901) + 4 + n) (L'.1 4)) 20 (uN (τ.1 1901) + 4 + (n + 1)) (rwN (uN (0 : Int32) % 268435456)) := by rw [c2, c21, f1u]
    show IO c B KB f0 u0 σ (mu σ (qv nf sq rk)) ((0, 0), uA (uA τ 20 (L.1 2).toNatClampNeg (L'.1 4)) 20 (L.1 2 + 1).toNatClampNeg (rwN (uN (0 : Int32) % 268435456)), (0, 0))
    rw [ee]
    refine fl_go q3' (Go_t gt (Go_t q2 q4')) rfl (fun _ _ => rfl) ?_
    show Nx c (uN (τ.1 1900)) u d r' rk
    rw [gt.2.2.2.2.2]
    exact nx
  refine Tm_suc (fun k => by rw [y_X3_goOver__z20]) ?_
  refine Tm_oc (c_pop (by omega) st1 st2.2) (fun q e => ?_)
  rw [e.1]
  refine Tm_ocE (c_kind pd.1.1 gh) ?_
  refine Tm_ite (fun c4 => ?_) (fun _ => fail _ (by decide))
  have c4' : (4 : Int32) ≤ nI (kdC (σ.2.2.1 3) (σ.2.2.1 20 (uN (σ.1 1902) - 1))) := c4
  have u4 : uN (4 : Int32) = 4 := rfl
  rw [u_le (by decide) (by rw [u_n (by omega)]; omega), u4, u_n (by omega)] at c4'
  have nw : NoW (σ.2.2.1 3) (σ.2.2.1 20 (uN (σ.1 1902) - 1)) := by
    intro lt
    unfold kdC at c4'
    rw [if_pos lt] at c4'
    omega
  refine Tm_suc (fun k => by rw [y_X3_goOver__z20]) ?_
  refine Tm_ite (fun _ => b2 _ _ rfl rfl nw pd (Go_dr σ _) rfl rfl) (fun _ => ?_)
  refine Tm_oc (c_size1 pd.1.1 gh) (fun q2 z2 => ?_)
  have e2 : q2.2 = uI σ 1902 (σ.1 1902 - 1) := z2.1
  rw [e2]
  refine Tm_ite (fun _ => ?_) (fun _ => fail _ (by decide))
  refine Tm_suc (fun k => by rw [y_X3_goOver__z20]) ?_
  obtain ⟨pa, ga⟩ := Pre_tl pd cs (Or.inl rfl) ((uI σ 1902 (σ.1 1902 - 1)).1 1909 + q2.1)
  obtain ⟨pb', gb⟩ := Pre_tl pa cs (Or.inr rfl) ((uI (uI σ 1902 (σ.1 1902 - 1)) 1909 ((uI σ 1902 (σ.1 1902 - 1)).1 1909 + q2.1)).1 1910 + q2.1)
  exact b2 _ _ rfl rfl nw pb' (Go_t (Go_dr σ _) (Go_t ga gb)) rfl rfl
end CTF
end JnS394

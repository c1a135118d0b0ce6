/-! The class: points. -/
section CSZ
variable {g g' g2 : Nat → Prop} {l l' l2 : List Nat} {t t' t2 : Nat} {σ σ' σ2 : CS} {L : LV} {x y i : Int32} {M M' U U' : Nat → Int32} {K K' K2 K2' K3 K4 KB : Nat → Option Int32} {c : Ct} {B f0 u0 : Nat} {fs : List FrT} {u d : Nat} {r : List Nat} {pb nf nc sq rk : Nat}
theorem SVK_g (h : SVK c K3 σ) (e1 : ∀ j, 2400 ≤ j → j < 3700 → σ'.1 j = σ.1 j) (e2 : σ'.2.2.1 27 = σ.2.2.1 27) (e3 : ∀ i, sPi σ' i = sPi σ i) (n20 : sN σ 20 ≤ sN σ' 20) (n21 : sN σ 21 ≤ sN σ' 21) : SVK c K3 σ' := by
  have ef : ∀ p j, p < 9 → j < 100 → σ'.1 (100 * (28 + p) + j) = σ.1 (100 * (28 + p) + j) := fun p j hp hj => e1 _ (by omega) (by omega)
  have sv : ∀ p s, p < 9 → SvR c K3 σ p s → SvR c K3 σ' p s := by
    intro p s hp h
    unfold SvR
    rw [ef p 0 hp (by decide), ef p 1 hp (by decide), ef p 2 hp (by decide), ef p 8 hp (by decide), ef p 7 hp (by decide), ef p 5 hp (by decide), ef p 13 hp (by decide), ef p 12 hp (by decide), ef p 14 hp (by decide), ef p 15 hp (by decide)]
    exact ⟨h.1, h.2.1, ⟨h.2.2.1.1, h.2.2.1.2.1, h.2.2.1.2.2.1, h.2.2.1.2.2.2.1, Nat.le_trans h.2.2.1.2.2.2.2.1 n20, Nat.le_trans h.2.2.1.2.2.2.2.2 n21⟩, POK_eq n20 _ _ (fun _ _ => rfl) h.2.2.2⟩
  obtain ⟨h1, h2, h3, h4, h5⟩ := h
  refine ⟨?_, fun i hi => by rw [e3]; exact h2 i hi, fun i j hi hj e => ?_, fun i hi => ?_, fun hn => ?_⟩
  · exact ⟨by rw [e1 2404 (by decide) (by decide), e1 2403 (by decide) (by decide)]; exact h1.1, SVB_e h1.1.1 h2 e1 e3 h1.2⟩
  · rw [e3, e3] at e; exact h3 i j hi hj e
  · rw [e1 2404 (by decide) (by decide)] at hi
    have z := h4 i hi
    have p9 := h2 i (by omega)
    rw [e3, e2, ef _ 2 p9 (by decide), ef _ 13 p9 (by decide), e1 2403 (by decide) (by decide), e1 2404 (by decide) (by decide)]
    exact ⟨sv _ _ p9 z.1, z.2⟩
  · rw [e1 2405 (by decide) (by decide)] at hn
    have z := h5 hn
    have p9 := h2 8 (by decide)
    rw [e3, e2, ef _ 2 p9 (by decide), ef _ 13 p9 (by decide), e1 2403 (by decide) (by decide)]
    exact ⟨sv _ _ p9 z.1, z.2⟩
/-- behind steps that cost something -/
theorem IO_k {q : RS} {m c1 c2 : Nat} (a : MFr σ σ') (ev : EvF σ σ') (h1 : c1 + PhC σ' ≤ PhC σ) (h2 : c2 + PhS σ' ≤ PhS σ) (h : IO c B KB f0 u0 σ' m q) : IO c B KB f0 u0 σ m (q.1, q.2.1, (c1 + q.2.2.1, c2 + q.2.2.2)) := by
  obtain ⟨k1, k2, k3, k4, k5⟩ := h
  have k21 := k2.1
  have k22 := k2.2
  exact ⟨k1, ⟨by show c1 + q.2.2.1 + PhC q.2.1 ≤ _; omega, by show c2 + q.2.2.2 + PhS q.2.1 ≤ _; omega⟩, MFr_t a k3, fun n j j1 j2 j3 => (k4 n j j1 j2 j3).trans (ev j j1 j2 j3), k5⟩
theorem HQ_ft (h : HQ g l t σ) (e1 : σ'.1 1 = σ.1 1) (e3 : σ'.2.2.1 3 = σ.2.2.1 3) (n3 : sN σ' 3 = sN σ 3) (n1 : sN σ' 1 = sN σ 1) (n2 : sN σ' 2 = sN σ 2) : HQ g l t σ' := by
  obtain ⟨a, b, c, d, e, f, i⟩ := h
  unfold HQ
  rw [e1, e3, n3, n1, n2]
  exact ⟨a, b, c, d, e, f, i⟩
/-- the points' row is made longer -/
theorem Pre_z21 (p : Pre c g l t K K2 K3 K4 B KB f0 u0 σ fs u d r pb nf nc sq) : Pre c g l t K K2 K3 K4 B KB f0 u0 (uZ σ 21 44200) fs u d r pb nf nc sq ∧ MFr σ (uZ σ 21 44200) := by
  obtain ⟨mi, ty, w, h0, bo⟩ := p
  obtain ⟨m1, m2, m3, m4, m5, m6⟩ := mi
  have mf : MFr σ (uZ σ 21 44200) := by
    refine ⟨fun _ _ => rfl, fun _ _ => rfl, fun k hk => ?_, rfl, rfl⟩
    have k21 : ¬ k = 21 := by unfold rwM at hk; omega
    exact ⟨updG_other k21, if_neg k21⟩
  obtain ⟨v1, v2, v3, v4, v5, v6, v7, v8⟩ := m2
  have r21 : Rwk g (σ.2.2.1 3) K2 (fun i => if i < sN σ 21 then σ.2.2.1 21 i else 0) (uN (σ.1 1913)) := by
    intro j hj
    show Gw g (if j < sN σ 21 then σ.2.2.1 21 j else 0) ∧ (K2 j = none → Gv g (if j < sN σ 21 then σ.2.2.1 21 j else 0)) ∧ ∀ v, K2 j = some v → ((if j < sN σ 21 then σ.2.2.1 21 j else 0) = v ∧ Rr v) ∨ (Mkd g (σ.2.2.1 3) v (if j < sN σ 21 then σ.2.2.1 21 j else 0))
    rw [if_pos (by have := v3.1; omega)]
    exact v3.2.2 j hj
  refine ⟨⟨⟨HQ_ft m1 rfl rfl rfl rfl rfl, ⟨v1, v2, ⟨?_, ?_, r21⟩, v4, v5, v6, v7, v8⟩, CtL_M m3 mf, m4, SVK_g m5 (fun _ _ _ => rfl) rfl (fun _ => rfl) (Nat.le_refl _) ?_, m6⟩, ty, w, h0, bo⟩, mf⟩
  · show uN (σ.1 1913) ≤ 44200
    have := v3.1
    have := v3.2.1
    omega
  · show 44200 ≤ 44200
    exact Nat.le_refl _
  · show sN σ 21 ≤ 44200
    exact v3.2.1
/-- numbers that a point keeps -/
def vp (σ : CS) : Nat → Int32
  | 0 => rwN (uN (σ.1 1900) % 268435456)
  | 1 => rwN (uN (σ.1 1901) % 268435456)
  | 2 => rwN (uN (σ.1 1902) % 268435456)
  | 3 => rwN (uN (σ.1 1908) % 268435456)
  | 4 => rwN (uN (σ.1 1909) % 268435456)
  | _ => rwN (uN (σ.1 1910) % 268435456)
theorem vp_r (σ : CS) : ∀ i, Rr (vp σ i)
  | 0 => rwN_r (by omega)
  | 1 => rwN_r (by omega)
  | 2 => rwN_r (by omega)
  | 3 => rwN_r (by omega)
  | 4 => rwN_r (by omega)
  | _ + 5 => rwN_r (by omega)
/-- a point on its way into its row -/
def PtC (σ : CS) (top : Nat) (f : Nat → Int32) (n : Nat) : Prop := (∀ j, j < top → f j = σ.2.2.1 21 j) ∧ (∀ j, j < uN (σ.1 1902) → f (top + j) = σ.2.2.1 20 j) ∧ ∀ i, i < n → f (top + uN (σ.1 1902) + i) = vp σ i
theorem PtC_s {top n : Nat} {f : Nat → Int32} (h : PtC σ top f n) : PtC σ top (upd f (top + uN (σ.1 1902) + n) (vp σ n)) (n + 1) := by
  refine ⟨fun j hj => ?_, fun j hj => ?_, fun i hi => ?_⟩
  · rw [upd_other (by omega)]; exact h.1 j hj
  · rw [upd_other (by omega)]; exact h.2.1 j hj
  · by_cases z : i = n
    · rw [z, upd_same]
    · rw [upd_other (by omega)]; exact h.2.2 i (by omega)
/-- places of a point -/
def Kp (K K2 : Nat → Option Int32) (top sp : Nat) (v : Nat → Int32) : Nat → Option Int32 := fun j => if j < top then K2 j else if j < top + sp then K (j - top) else some (v (j - top - sp))
theorem mp_4 {ws : Nat} {ms : List Nat} (hms : ∀ i, i ∈ ms → i < bsl) (p : Pre c g l t K K2 K3 K4 B KB f0 u0 σ fs u 0 ((bsl + ws) :: ms) pb nf nc sq) {pc : Nat} (cs : tcS c u) (hz : f0 = 0 ∧ u0 = 0) (hu : u < 41) (hd : ws ≤ 200) (hpc : σ.1 1900 = nI (pc + 1)) (hp : pc + 1 < 36865) (nx : Nx c (pc + 1) u 1 ((bsl + ws) :: ms) rk) (nr : NxR c (pc + 1) u 1 ((bsl + ws) :: ms)) (hn : uN (σ.1 1912) < 20) (h1 : L.1 1 = σ.1 1913) (ht : uN (σ.1 1913) + uN (σ.1 1902) + 6 ≤ sN σ 21) : Tm (fun k => f_X3_makePoint k 4 L σ) (fun q => q.1.1 = 0 ∧ IO c B KB f0 u0 σ (mu σ (qv nf sq rk)) ((0, 0), q.2.1, (q.2.2.1 + 0, q.2.2.2 + 0))) := by
  have mi := p.1
  have ty := p.2.1
  obtain ⟨m1, m2, m3, m4, m5, m6, m7, m8, m9, m10, m11⟩ := mi
  obtain ⟨v1, v2, v3, v4, v5, v6, v7, v8⟩ := m2
  obtain ⟨st1, st2, st3⟩ := v1
  have ts := TyS_sp ty
  have cs0 := FC_S _ _ _ _ _ _ _ ty.2.1 cs
  generalize hT : uN (σ.1 1913) = top at *
  have n21 := v3.2.1
  have s21 : sN σ 21 ≤ 2147483648 := by omega
  have e1 : uN (L.1 1) = top := by rw [h1]; exact hT
  have u1 : uN (1 : Int32) = 1 := rfl
  have u2 : uN (2 : Int32) = 2 := rfl
  have u3 : uN (3 : Int32) = 3 := rfl
  have u4 : uN (4 : Int32) = 4 := rfl
  have u5 : uN (5 : Int32) = 5 := rfl
  have u6 : uN (6 : Int32) = 6 := rfl
  generalize hS : uN (σ.1 1902) = sp at *
  -- the last steps
  have b10 : ∀ (L' : LV) (f : Nat → Int32) (τ : CS), PtC σ top f 6 → τ.2 = (uF σ 21 f).2 → (∀ j, ¬ (j = 1911 ∨ j = 1912 ∨ j = 1913) → τ.1 j = σ.1 j) → uN (τ.1 1912) = uN (σ.1 1912) + 1 → uN (τ.1 1913) = top + sp + 6 → Tm (fun k => f_X3_makePoint k 10 L' τ) (fun q => q.1.1 = 0 ∧ IO c B KB f0 u0 σ (mu σ (qv nf sq rk)) ((0, 0), q.2.1, (q.2.2.1 + 0, q.2.2.2 + 0))) := by
    intro L' f τ hf τ2 τe e12 e13
    refine Tm_suc (fun k => by rw [f_X3_makePoint]) ?_
    generalize hH : uI τ 1911 (τ.1 1911 + τ.1 1909) = ρ
    have ρe : ∀ j, ¬ (j = 1911 ∨ j = 1912 ∨ j = 1913) → ρ.1 j = σ.1 j := fun j hj => by
      rw [← hH]
      show upd τ.1 1911 _ j = _
      rw [upd_other (by omega)]
      exact τe j hj
    have ρ12 : ρ.1 1912 = τ.1 1912 := by rw [← hH]; rfl
    have ρ13 : ρ.1 1913 = τ.1 1913 := by rw [← hH]; rfl
    have ρ2 : ρ.2 = (uF σ 21 f).2 := by rw [← hH]; exact τ2
    have ρk : ∀ k, ¬ k = 21 → ρ.2.2.1 k = σ.2.2.1 k := fun k hk => by rw [ρ2]; exact updG_other hk
    have ρ21 : ρ.2.2.1 21 = f := by rw [ρ2]; rfl
    have ρn : ∀ k, sN ρ k = sN σ k := fun k => by show ρ.2.2.2.2.1 k = _; rw [ρ2]; rfl
    have mf : MFr σ ρ := ⟨fun j hj => ρe j (by omega), fun j _ => by rw [ρ2]; rfl, fun k hk => ⟨ρk k (by unfold rwM at hk; omega), ρn k⟩, by rw [ρ2]; rfl, by rw [ρ2]; rfl⟩
    have us : usI ρ = usI σ := by
      have p8 : sPi ρ 8 = sPi σ 8 := by show ρ.2.2.2.2.2.2 8 = _; rw [ρ2]; rfl
      unfold usI
      rw [p8, ρe 2405 (by decide), ρe 2403 (by decide), ρe (100 * (28 + sPi σ 8) + 2) (by omega), ρe (100 * (28 + sPi σ 8) + 13) (by omega)]
    have rk2 : Rwk g (σ.2.2.1 3) (Kp K K2 top sp (vp σ)) f (top + sp + 6) := by
      intro j hj
      unfold Kp
      by_cases z1 : j < top
      · rw [if_pos z1, hf.1 j z1]
        exact v3.2.2 j z1
      · rw [if_neg z1]
        by_cases z2 : j < top + sp
        · rw [if_pos z2]
          have q := hf.2.1 (j - top) (by omega)
          rw [show top + (j - top) = j from by omega] at q
          rw [q]
          exact st3 _ (by omega)
        · rw [if_neg z2]
          have q := hf.2.2 (j - top - sp) (by omega)
          rw [hS, show top + sp + (j - top - sp) = j from by omega] at q
          rw [q]
          exact Rwp (vp_r σ _)
    have vi : VI g K (Kp K K2 top sp (vp σ)) K3 K4 ρ := by
      refine ⟨?_, ?_, ⟨?_, ?_, ?_⟩, ?_, ?_, ?_, ?_, ?_⟩
      · rw [ρe 1902 (by decide), hS, ρn, ρk 20 (by decide), ρk 3 (by decide)]; exact ⟨st1, st2, st3⟩
      · rw [ρk 23 (by decide), ρk 3 (by decide)]; exact v2
      · rw [ρ13, e13, ρn]; exact ht
      · rw [ρn]; exact n21
      · rw [ρ13, e13, ρ21, ρk 3 (by decide)]; exact rk2
      · rw [ρk 67 (by decide), ρk 3 (by decide)]; exact v4
      · show ρ.2.2.2.2.2.2 8 < 9
        rw [ρ2]; exact v5
      · rw [us, ρn]; exact v6
      · rw [ρn]; exact v7
      · rw [us, ρk 26 (by decide), ρk 3 (by decide)]; exact v8
    have fcb := (FC_b _ _ _ _ _ _ _ ty.2.1).2.2 cs
    obtain ⟨rk', r1, r2, r3⟩ := nr
    have run : RUN c K (pc + 1) (uN (σ.1 1901)) sp nc 1 := by
      refine ⟨u, ws, rk', sq, fs, ms, ⟨r1, hms⟩, r2, ?_, hd, by have z := ty.2.2.1; rw [bt_0] at z; exact z, cs, hu, ?_, ty.2.2.2.2.2.2.1, by omega, ?_⟩
      · have z := ty.1
        rw [hS] at z
        exact z
      · have z := ty.2.1
        rw [hz.1, hz.2, fcb.1, fcb.2.1] at z
        exact FC_k z (fun _ _ => rfl) (fun p hp => absurd hp (Nat.not_lt_zero p))
      · have tb := TyS_B ty
        rw [hz.1, hz.2, hS] at tb
        refine ⟨by omega, fun j hj => ?_⟩
        rw [m6 j (by omega)]
        rcases p.2.2.2.2 with y | y
        · omega
        · exact y.1 j
    have e8 := ty.2.2.2.2.2.1 cs0
    have n50 := ty.2.2.2.2.2.2.1
    have pok : POK c (Kp K K2 top sp (vp σ)) (sN ρ 20) (uN (ρ.1 1912)) (uN (ρ.1 1913)) := by
      rw [ρ12, ρ13, e12, e13, ρn]
      have kp : ∀ i, Kp K K2 top sp (vp σ) (top + sp + i) = some (vp σ i) := fun i => by
        unfold Kp
        rw [if_neg (by omega), if_neg (by omega), show top + sp + i - top - sp = i from by omega]
      have k0 := kp 0
      refine ⟨top, pc + 1, uN (σ.1 1901), sp, nc, vp σ 4, vp σ 5, rfl, ⟨?_, ?_, ?_, ?_, kp 4, kp 5⟩, ⟨vp_r σ 4, vp_r σ 5, st1⟩, ?_, ?_⟩
      · rw [Nat.add_zero] at k0
        rw [k0]
        show some (rwN (uN (σ.1 1900) % 268435456)) = _
        rw [hpc, u_n (by omega), Nat.mod_eq_of_lt (by omega)]
      · rw [kp 1]
        show some (rwN (uN (σ.1 1901) % 268435456)) = _
        rw [Nat.mod_eq_of_lt (by omega)]
      · rw [kp 2]
        show some (rwN (uN (σ.1 1902) % 268435456)) = _
        rw [hS, Nat.mod_eq_of_lt (by omega)]
      · rw [kp 3]
        show some (rwN (uN (σ.1 1908) % 268435456)) = _
        rw [e8, Nat.mod_eq_of_lt (by omega)]
      · refine RUN_eq run (fun j hj => ?_)
        show Kp K K2 top sp (vp σ) (top + j) = K j
        unfold Kp
        rw [if_neg (by omega), if_pos (by omega), show top + j - top = j from by omega]
      · refine POK_eq (Nat.le_refl _) _ _ (fun j hj => ?_) m4
        unfold Kp
        rw [if_pos hj]
    have miρ : MIn c g l t K (Kp K K2 top sp (vp σ)) K3 K4 B KB ρ := by
      refine ⟨HQ_fr m1 (ρe 1 (by decide)) (ρk 3 (by decide)) (by rw [ρ2]; rfl), vi, CtL_M m3 mf, pok, SVK_g m5 (fun j h1 h2 => ρe j (by omega)) (ρk 27 (by decide)) (fun i => by show ρ.2.2.2.2.2.2 i = _; rw [ρ2]; rfl) (by rw [ρn]; exact Nat.le_refl _) (by rw [ρn]; exact Nat.le_refl _), m6, ?_, ?_, ?_, ?_, ?_⟩
      · rw [ρe 1902 (by decide), hS]; exact m7
      · rw [ρe 1903 (by decide), ρe 1814 (by decide)]; exact m8
      · rw [ρ12, e12]; omega
      · rw [ρe 1914 (by decide)]; exact m10
      · rw [ρe 1915 (by decide)]; exact m11
    refine Tm_oxc (c_push (by rw [ρe 1902 (by decide), hS, ρn]; exact st1) (by rw [ρn]; exact st2)) (fun q z => by rw [z.1]) (fun q z => ?_)
    have z' : PuO ρ (-1879048191) 1 q := z
    have pm := pu_MIn (σ' := q.2.1) (x := -1879048191) miρ (Or.inl ⟨by decide, by decide⟩) z' rfl (fun _ _ => rfl)
    refine Tm_some ⟨rfl, ?_⟩
    have ph := Ph_s (σ := σ) (σ' := ρ) (by rw [ρ2]; rfl)
    obtain ⟨p1, p2, p3⟩ := pm
    have c1 : q.2.2.1 + 0 + PhC q.2.1 ≤ PhC ρ := p3.1
    have c2 : q.2.2.2 + 0 + PhS q.2.1 ≤ PhS ρ := p3.2
    refine ⟨rfl, ⟨by show q.2.2.1 + 0 + 0 + PhC q.2.1 ≤ _; omega, by show q.2.2.2 + 0 + 0 + PhS q.2.1 ≤ _; omega⟩, MFr_t mf (Md_M p2), fun n => absurd cs0 n, g, l, t, _, _, _, _, p1, fun h0 => ?_, fun h0 => ?_⟩
    rotate_left
    · rcases z'.2.2.2.2.2.2 with y | y
      · exact absurd (y.2.2.2.1.trans ((ρe 1812 (by decide)).trans p.2.2.2.1)) h0
      · exact Or.inl y.2.2.2.2
    have h0' : q.2.1.1 1812 = 0 := h0
    obtain ⟨a1, a2, a3, a4, a5, a6, a7⟩ := z'
    rcases a7 with ⟨b1, b2, b3, b4, b5, b6⟩ | ⟨b1, b2, b3, b4⟩
    · have q2 : uN (ρ.1 1902) = sp := by rw [ρe 1902 (by decide)]; exact hS
      rw [q2] at b1 ⊢
      have fe : ∀ j, ¬ (j = 1 ∨ j = 404 ∨ j = 1203 ∨ j = 1812 ∨ j = 1813 ∨ j = 1902 ∨ j = 1905 ∨ j = 1911 ∨ j = 1912 ∨ j = 1913) → q.2.1.1 j = σ.1 j := fun j hj => (a3.1 j (by omega)).trans (ρe j (by omega))
      have hs : SL (Kw K sp 1 none) (uN (σ.1 1901) + 4) (uN (q.2.1.1 1902)) (0 + 1) ((bsl + ws) :: ms) := by
        rw [b1]
        have z := ty.1
        rw [hS] at z
        exact SL_pu 1 z
      have tyn := TyS_k ty ⟨fe 1901 (by decide), fe 1815 (by decide), fe 1811 (by decide), fe 1908 (by decide)⟩ hs (fun p hp => Kw_o (Or.inl (by omega))) r3 ty.2.2.2.2.2.2.2.2
      refine go_n tyn p.2.2.1 (b6.trans (ρe 1905 (by decide))) (fe 1814 (by decide)) ?_
      rw [fe 1900 (by decide), hpc, u_n (by omega)]
      exact nx
    · rw [b3] at h0'
      exact absurd h0' (by decide)
  have b9 : ∀ (L' : LV) (f : Nat → Int32) (τ : CS), τ = uF σ 21 f → PtC σ top f 5 → uN (L'.1 1) = top + sp → uN (L'.1 101) = top + sp + 5 → L'.1 100 = vp σ 5 → Tm (fun k => f_X3_makePoint k 9 L' τ) (fun q => q.1.1 = 0 ∧ IO c B KB f0 u0 σ (mu σ (qv nf sq rk)) ((0, 0), q.2.1, (q.2.2.1 + 0, q.2.2.2 + 0))) := by
    intro L' f τ e hf l1 l101 l100
    subst e
    have ps := PtC_s hf
    rw [hS] at ps
    refine Tm_suc (fun k => by rw [f_X3_makePoint]) ?_
    refine Tm_chk (u_in (x := L'.1 101) (by show _ < sN σ 21; omega) s21) ?_
    refine b10 _ (upd f (top + sp + 5) (vp σ 5)) _ ps ?_ (fun j hj => ?_) ?_ ?_
    · show (uA (uF σ 21 f) 21 (L'.1 101).toNatClampNeg (L'.1 100)).2 = _
      rw [uF_a, u_cl (by omega), l101, l100]
    · show upd (upd σ.1 1913 _) 1912 _ j = _
      rw [upd_other (by omega), upd_other (by omega)]
    · show uN (σ.1 1912 + 1) = _
      rw [u_inc (by omega)]
    · show uN (L'.1 1 + 6) = _
      rw [u_add (by omega), l1, u6]
  have b8 : ∀ (L' : LV) (f : Nat → Int32) (τ : CS), τ = uF σ 21 f → PtC σ top f 4 → uN (L'.1 1) = top + sp → Tm (fun k => f_X3_makePoint k 8 L' τ) (fun q => q.1.1 = 0 ∧ IO c B KB f0 u0 σ (mu σ (qv nf sq rk)) ((0, 0), q.2.1, (q.2.2.1 + 0, q.2.2.2 + 0))) := by
    intro L' f τ e hf l1
    subst e
    have ps := PtC_s hf
    rw [hS] at ps
    have e4 : uN (L'.1 1 + 4) = top + sp + 4 := by rw [u_add (by omega), l1, u4]
    refine Tm_suc (fun k => by rw [f_X3_makePoint]) ?_
    refine Tm_op c_raw (fun q1 z1 => ?_)
    rw [z1]
    refine Tm_chk (u_in (x := L'.1 1 + 4) (by show _ < sN σ 21; omega) s21) ?_
    refine Tm_op c_raw (fun q2 z2 => ?_)
    rw [z2]
    refine b9 _ (upd f (top + sp + 4) (vp σ 4)) _ ?_ ps l1 ?_ rfl
    · show uA (uF σ 21 f) 21 (L'.1 1 + 4).toNatClampNeg (vp σ 4) = _
      rw [uF_a, u_cl (by omega), e4]
    · show uN (L'.1 1 + 5) = _
      rw [u_add (by omega), l1, u5]
  have b7 : ∀ (L' : LV) (f : Nat → Int32) (τ : CS), τ = uF σ 21 f → PtC σ top f 2 → uN (L'.1 1) = top + sp → uN (L'.1 101) = top + sp + 2 → L'.1 100 = vp σ 2 → Tm (fun k => f_X3_makePoint k 7 L' τ) (fun q => q.1.1 = 0 ∧ IO c B KB f0 u0 σ (mu σ (qv nf sq rk)) ((0, 0), q.2.1, (q.2.2.1 + 0, q.2.2.2 + 0))) := by
    intro L' f τ e hf l1 l101 l100
    subst e
    have ps := PtC_s (PtC_s hf)
    rw [hS] at ps
    have e3 : uN (L'.1 1 + 3) = top + sp + 3 := by rw [u_add (by omega), l1, u3]
    refine Tm_suc (fun k => by rw [f_X3_makePoint]) ?_
    refine Tm_chk (u_in (x := L'.1 101) (by show _ < sN σ 21; omega) s21) ?_
    refine Tm_op c_raw (fun q2 z2 => ?_)
    rw [z2]
    refine Tm_chk (u_in (x := L'.1 1 + 3) (by show _ < sN σ 21; omega) s21) ?_
    refine b8 _ (upd (upd f (top + sp + 2) (vp σ 2)) (top + sp + 3) (vp σ 3)) _ ?_ ps l1
    show uA (uA (uF σ 21 f) 21 (L'.1 101).toNatClampNeg (L'.1 100)) 21 (L'.1 1 + 3).toNatClampNeg (vp σ 3) = _
    rw [uF_a, uF_a, u_cl (x := L'.1 101) (by omega), u_cl (x := L'.1 1 + 3) (by omega), e3, l101, l100]
  have b6 : ∀ (L' : LV) (f : Nat → Int32) (τ : CS), τ = uF σ 21 f → PtC σ top f 1 → uN (L'.1 1) = top + sp → Tm (fun k => f_X3_makePoint k 6 L' τ) (fun q => q.1.1 = 0 ∧ IO c B KB f0 u0 σ (mu σ (qv nf sq rk)) ((0, 0), q.2.1, (q.2.2.1 + 0, q.2.2.2 + 0))) := by
    intro L' f τ e hf l1
    subst e
    have ps := PtC_s hf
    rw [hS] at ps
    have e1' : uN (L'.1 1 + 1) = top + sp + 1 := by rw [u_inc (by omega), l1]
    refine Tm_suc (fun k => by rw [f_X3_makePoint]) ?_
    refine Tm_op c_raw (fun q1 z1 => ?_)
    rw [z1]
    refine Tm_chk (u_in (x := L'.1 1 + 1) (by show _ < sN σ 21; omega) s21) ?_
    refine Tm_op c_raw (fun q2 z2 => ?_)
    rw [z2]
    refine b7 _ (upd f (top + sp + 1) (vp σ 1)) _ ?_ ps l1 ?_ rfl
    · show uA (uF σ 21 f) 21 (L'.1 1 + 1).toNatClampNeg (vp σ 1) = _
      rw [uF_a, u_cl (by omega), e1']
    · show uN (L'.1 1 + 2) = _
      rw [u_add (by omega), l1, u2]
  have e02 : uN (σ.1 1902) = sp := hS
  refine Tm_suc (fun k => by rw [f_X3_makePoint]) ?_
  refine Tm_chk ⟨by decide, ?_, ?_, ?_, ?_⟩ ?_
  · rw [u_neg]; omega
  · rw [u_neg]; omega
  · show 0 + (σ.1 1902).toNatClampNeg ≤ sN σ 20
    rw [u_cl (by omega)]; omega
  · show (L.1 1).toNatClampNeg + (σ.1 1902).toNatClampNeg ≤ sN σ 21
    rw [u_cl (by omega), u_cl (by omega)]; omega
  generalize hf0 : va_cpy (σ.2.2.1 20) (σ.2.2.1 21) (0 : Int32).toNatClampNeg (L.1 1).toNatClampNeg (σ.1 1902).toNatClampNeg = fa
  have pf0 : PtC σ top fa 0 := by
    rw [← hf0, u_cl (x := L.1 1) (by omega), u_cl (x := σ.1 1902) (by omega), e1, e02]
    refine ⟨fun j hj => ?_, fun j hj => ?_, fun i hi => absurd hi (Nat.not_lt_zero i)⟩
    · unfold va_cpy
      rw [if_neg (by omega)]
    · rw [e02] at hj
      unfold va_cpy
      rw [if_pos (by omega)]
      show σ.2.2.1 20 (0 + (top + j - top)) = _
      rw [show 0 + (top + j - top) = j from by omega]
  have ps := PtC_s pf0
  rw [hS, Nat.add_zero] at ps
  have es : uN (L.1 1 + σ.1 1902) = top + sp := by rw [u_add (by omega), e1, e02]
  refine Tm_suc (fun k => by rw [f_X3_makePoint]) ?_
  refine Tm_op c_raw (fun q1 z1 => ?_)
  rw [z1]
  refine Tm_chk (u_in (x := L.1 1 + σ.1 1902) (by show _ < sN σ 21; omega) s21) ?_
  refine b6 _ (upd fa (top + sp) (vp σ 0)) _ ?_ ps es
  show uA (uF σ 21 fa) 21 (L.1 1 + σ.1 1902).toNatClampNeg (vp σ 0) = _
  rw [uF_a, u_cl (by omega), es]
theorem c_makePoint {ws : Nat} {ms : List Nat} (hms : ∀ i, i ∈ ms → i < bsl) (p : Pre c g l t K K2 K3 K4 B KB f0 u0 σ fs u 0 ((bsl + ws) :: ms) pb nf nc sq) {pc : Nat} (cs : tcS c u) (hz : f0 = 0 ∧ u0 = 0) (hu : u < 41) (hd : ws ≤ 200) (hpc : σ.1 1900 = nI (pc + 1)) (hp : pc + 1 < 36865) (nx : Nx c (pc + 1) u 1 ((bsl + ws) :: ms) rk) (nr : NxR c (pc + 1) u 1 ((bsl + ws) :: ms)) : Tm (fun k => f_X3_makePoint k 0 L σ) (fun q => q.1.1 = 0 ∧ IO c B KB f0 u0 σ (mu σ (qv nf sq rk)) ((0, 0), q.2.1, (q.2.2.1 + 0, q.2.2.2 + 0))) := by
  have fail : ∀ (τ : CS) (m : Nat), Pre c g l t K K2 K3 K4 B KB f0 u0 τ fs u 0 ((bsl + ws) :: ms) pb nf nc sq → Tm (fun k => Jvm.Pilot.CSetHouseLaw_law_r7351_1de140.op (y_X3_fail k 0 (lI lZ 1 6) τ) (fun r2 => some ((0, 0), r2.2, (0, 0)))) (fun q => q.1.1 = 0 ∧ IO c B KB f0 u0 τ m ((0, 0), q.2.1, (q.2.2.1 + 0, q.2.2.2 + 0))) := by
    intro τ m pt
    refine Tm_op c_fail (fun q e => ?_)
    rw [e]
    refine Tm_some ⟨rfl, ha_fin pt rfl (fun j hj => ?_) rfl (f13 (by decide))⟩
    show upd (upd τ.1 1813 _) 1812 1 j = _
    rw [upd_other (by omega), upd_other (by omega)]
  have b1 : ∀ L' : LV, Tm (fun k => f_X3_makePoint k 1 L' σ) (fun q => q.1.1 = 0 ∧ IO c B KB f0 u0 σ (mu σ (qv nf sq rk)) ((0, 0), q.2.1, (q.2.2.1 + 0, q.2.2.2 + 0))) := by
    intro L'
    refine Tm_suc (fun k => by rw [f_X3_makePoint]) ?_
    exact fail σ _ p
  have m9 := p.1.2.2.2.2.2.2.2.2.1
  have v3 := p.1.2.1.2.2.1
  have st := p.1.2.1.1
  have u6 : uN (6 : Int32) = 6 := rfl
  have ea : uN (σ.1 1913 + σ.1 1902 + 6) = uN (σ.1 1913) + uN (σ.1 1902) + 6 := by
    have e1 : uN (σ.1 1913 + σ.1 1902) = uN (σ.1 1913) + uN (σ.1 1902) := u_add (by omega)
    rw [u_add (by omega), e1, u6]
  refine Tm_suc (fun k => by rw [f_X3_makePoint]) ?_
  refine Tm_ite (fun _ => b1 _) (fun c20 => ?_)
  have u20 : uN (20 : Int32) = 20 := rfl
  rw [u_le (by decide) (by omega), u20] at c20
  refine Tm_ite (fun _ => ?_) (fun _ => b1 _)
  have b3 : ∀ (τ : CS), Pre c g l t K K2 K3 K4 B KB f0 u0 τ fs u 0 ((bsl + ws) :: ms) pb nf nc sq → τ.1 = σ.1 → sN τ 21 ≤ 44200 → Tm (fun k => f_X3_makePoint k 3 (lI L 1 (σ.1 1913)) τ) (fun q => q.1.1 = 0 ∧ IO c B KB f0 u0 τ (mu τ (qv nf sq rk)) ((0, 0), q.2.1, (q.2.2.1 + 0, q.2.2.2 + 0))) := by
    intro τ pt e1 e21
    refine Tm_suc (fun k => by rw [f_X3_makePoint]) ?_
    refine Tm_ite (fun c3 => ?_) (fun _ => fail τ _ pt)
    have c3' : σ.1 1913 + τ.1 1902 + 6 ≤ nI (sN τ 21) := c3
    rw [e1, u_le (by omega) (by rw [u_n (by omega)]; omega), ea, u_n (by omega)] at c3'
    exact mp_4 hms pt cs hz hu hd (by rw [e1]; exact hpc) hp nx nr (by rw [e1]; omega) (by rw [e1]; rfl) (by rw [e1]; exact c3')
  refine Tm_suc (fun k => by rw [f_X3_makePoint]) ?_
  refine Tm_chk ⟨by decide, by decide, by omega⟩ ?_
  refine Tm_ite (fun cz => ?_) (fun _ => b3 σ p rfl v3.2.1)
  refine Tm_adR ?_
  obtain ⟨pz, mf⟩ := Pre_z21 p
  have ph := Ph_z21 (σ := σ) cz.2
  refine Tm_mono (b3 _ pz rfl (Nat.le_refl _)) (fun q z => ⟨z.1, ?_⟩)
  have zz := IO_k (c1 := 1) (c2 := 44200) mf (fun _ _ _ _ => rfl) (by omega) (by omega) z.2
  show IO c B KB f0 u0 σ (mu σ (qv nf sq rk)) ((0, 0), q.2.1, (1 + q.2.2.1 + 0, 44200 + q.2.2.2 + 0))
  rw [show (1 + q.2.2.1 + 0, 44200 + q.2.2.2 + 0) = (1 + (q.2.2.1 + 0), 44200 + (q.2.2.2 + 0)) from by rw [Nat.add_assoc, Nat.add_assoc]]
  exact zz
end CSZ

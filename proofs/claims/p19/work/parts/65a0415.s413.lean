section JnS413
/-! The class: print. -/
section CTX
variable {g g' g2 : Nat → Prop} {l l' l2 : List Nat} {t t' t2 : Nat} {σ σ' σ2 τ τ' : CS} {L : LV} {x y z i : Int32} {M M' U U' : Nat → Int32} {K K' K0 K2 K2' K3 K4 K4' KB : Nat → Option Int32} {c : Ct} {B f0 u0 a T : Nat} {fs : List FrT} {P : Prop} {u d : Nat} {r r' : List Nat} {pb nf nc sq rk : Nat}
/-- what print may write -/
def PwF (σ τ : CS) : Prop := (∀ j, ¬ (j = 404 ∨ j = 1203 ∨ j = 1915) → τ.1 j = σ.1 j) ∧ τ.2.1 = σ.2.1 ∧ (∀ k, ¬ ((5 ≤ k ∧ k ≤ 11) ∨ k = 13 ∨ k = 22) → τ.2.2.1 k = σ.2.2.1 k) ∧ (∀ k, ¬ k = 22 → sN τ k = sN σ k) ∧ τ.2.2.2.1 = σ.2.2.2.1 ∧ τ.2.2.2.2.2 = σ.2.2.2.2.2
theorem PwF_r (σ : CS) : PwF σ σ := ⟨fun _ _ => rfl, rfl, fun _ _ => rfl, fun _ _ => rfl, rfl, rfl⟩
theorem PwF_t (a : PwF σ σ') (b : PwF σ' σ2) : PwF σ σ2 := ⟨fun j hj => (b.1 j hj).trans (a.1 j hj), b.2.1.trans a.2.1, fun k hk => (b.2.2.1 k hk).trans (a.2.2.1 k hk), fun k hk => (b.2.2.2.1 k hk).trans (a.2.2.2.1 k hk), b.2.2.2.2.1.trans a.2.2.2.2.1, b.2.2.2.2.2.trans a.2.2.2.2.2⟩
theorem PwF_P (a : PFl σ σ') : PwF σ σ' := ⟨fun j hj => a.1 j (by omega), a.2.1, fun k hk => a.2.2.1 k (by omega), fun k _ => by show σ'.2.2.2.2.1 k = _; rw [a.2.2.2], by rw [a.2.2.2], by rw [a.2.2.2]⟩
theorem PwF_15 (σ : CS) (x : Int32) : PwF σ (uI σ 1915 x) := ⟨fun j hj => upd_other (by omega), rfl, fun _ _ => rfl, fun _ _ => rfl, rfl, rfl⟩
theorem PwF_F (σ : CS) (f : Nat → Int32) : PwF σ (uF σ 22 f) := ⟨fun _ _ => rfl, rfl, fun k hk => updG_other (by omega), fun _ _ => rfl, rfl, rfl⟩
theorem PwF_Z (σ : CS) (n : Nat) : PwF σ (uZ σ 22 n) := ⟨fun _ _ => rfl, rfl, fun k hk => updG_other (by omega), fun k hk => if_neg hk, rfl, rfl⟩
theorem PwF_M (a : PwF σ τ) : MFr σ τ := ⟨fun j hj => a.1 j (by omega), fun j _ => by rw [a.2.1], fun k hk => by
  unfold rwM at hk
  exact ⟨a.2.2.1 k (by omega), a.2.2.2.1 k (by omega)⟩, a.2.2.2.2.1, by rw [a.2.2.2.2.2]⟩
theorem MIn_pr (mi : MIn c g l t K K2 K3 K4 B KB σ) (a : PwF σ τ) (h15 : uN (τ.1 1915) ≤ 2000000000) : MIn c g l t K K2 K3 K4 B KB τ := by
  have e := a.1
  have ep : ∀ i, sPi τ i = sPi σ i := fun i => by show τ.2.2.2.2.2.2 i = _; rw [a.2.2.2.2.2]
  have n20 := a.2.2.2.1 20 (by decide)
  have n21 := a.2.2.2.1 21 (by decide)
  have n26 := a.2.2.2.1 26 (by decide)
  have us : usI τ = usI σ := by
    unfold usI
    rw [ep 8, e 2405 (by decide), e 2403 (by decide), e (100 * (28 + sPi σ 8) + 2) (by omega), e (100 * (28 + sPi σ 8) + 13) (by omega)]
  obtain ⟨m1, ⟨v1, v2, v3, v4, v5, v6, v7, v8⟩, m3, m4, m5, m6, m7, m8, m9, m10, m11⟩ := mi
  refine ⟨HQ_ft m1 (e 1 (by decide)) (a.2.2.1 3 (by decide)) (a.2.2.2.1 3 (by decide)) (a.2.2.2.1 1 (by decide)) (a.2.2.2.1 2 (by decide)), ?_, CtL_M m3 (PwF_M a), ?_, SVK_g m5 (fun j h1 h2 => e j (by omega)) (a.2.2.1 27 (by decide)) ep (by omega) (by omega), m6, ?_, ?_, ?_, ?_, h15⟩
  · unfold VI
    rw [us, e 1902 (by decide), n20, a.2.2.1 20 (by decide), a.2.2.1 3 (by decide), a.2.2.1 23 (by decide), e 1913 (by decide), n21, a.2.2.1 21 (by decide), a.2.2.1 67 (by decide), ep 8, n26, a.2.2.1 26 (by decide)]
    exact ⟨v1, v2, v3, v4, v5, v6, v7, v8⟩
  · rw [e 1912 (by decide), e 1913 (by decide), n20]; exact m4
  · rw [e 1902 (by decide)]; exact m7
  · rw [e 1903 (by decide), e 1814 (by decide)]; exact m8
  · rw [e 1912 (by decide)]; exact m9
  · rw [e 1914 (by decide)]; exact m10
theorem c_countOut (h : uN (σ.1 1915) ≤ 2000000000) (h1 : uN (L.1 1) ≤ 20000) : Tm (fun k => y_X3_countOut k 0 L σ) (fun q => ∃ v, q.2 = uI σ 1915 v ∧ uN v ≤ 2000000000) := by
  have ea : uN (σ.1 1915 + L.1 1) = uN (σ.1 1915) + uN (L.1 1) := u_add (by omega)
  have e2 : uN (2000000000 : Int32) = 2000000000 := rfl
  refine Tm_suc (fun k => by rw [y_X3_countOut]) ?_
  refine Tm_some ⟨_, rfl, ?_⟩
  split
  · exact Nat.le_refl _
  · rename_i cc
    rw [u_ltn (by decide) (by omega), e2] at cc
    omega
theorem c_putOut (by0 : BY P σ) (h15 : uN (σ.1 1915) ≤ 2000000000) (h12 : uN (σ.1 1203) ≤ 10400) : Tm (fun k => f_X3_putOut k 0 L σ) (fun q => q.1 = (0, 0) ∧ CoP σ q ∧ PwF σ q.2.1 ∧ uN (q.2.1.1 1915) ≤ 2000000000 ∧ q.2.1.1 1203 = σ.1 1203) := by
  have b1 : ∀ (L' : LV) (τ : CS) (n1 n2 : Nat), PwF σ τ → τ.1 1915 = σ.1 1915 → τ.1 1203 = σ.1 1203 → n1 + PhC τ ≤ PhC σ → n2 + PhS τ ≤ PhS σ → Tm (fun k => f_X3_putOut k 1 L' τ) (fun q => q.1 = (0, 0) ∧ CoP σ (q.1, q.2.1, (n1 + q.2.2.1, n2 + q.2.2.2)) ∧ PwF σ q.2.1 ∧ uN (q.2.1.1 1915) ≤ 2000000000 ∧ q.2.1.1 1203 = σ.1 1203) := by
    intro L' τ n1 n2 a e15 e12 k1 k2
    refine Tm_suc (fun k => by rw [f_X3_putOut]) ?_
    refine Tm_op (c_countOut (by rw [e15]; exact h15) (by show uN (τ.1 1203) ≤ _; rw [e12]; omega)) (fun q z => ?_)
    obtain ⟨v, z1, z2⟩ := z
    rw [z1]
    have ph := Ph_s (σ := τ) (σ' := uI τ 1915 v) rfl
    exact Tm_some ⟨rfl, ⟨by show n1 + 0 + PhC (uI τ 1915 v) ≤ _; omega, by show n2 + 0 + PhS (uI τ 1915 v) ≤ _; omega⟩, PwF_t a (PwF_15 τ v), z2, e12⟩
  have b1' : ∀ (L' : LV) (τ : CS), PwF σ τ → τ.1 1915 = σ.1 1915 → τ.1 1203 = σ.1 1203 → PhC τ ≤ PhC σ → PhS τ ≤ PhS σ → Tm (fun k => f_X3_putOut k 1 L' τ) (fun q => q.1 = (0, 0) ∧ CoP σ q ∧ PwF σ q.2.1 ∧ uN (q.2.1.1 1915) ≤ 2000000000 ∧ q.2.1.1 1203 = σ.1 1203) := by
    intro L' τ a e15 e12 k1 k2
    refine Tm_mono (b1 L' τ 0 0 a e15 e12 (by omega) (by omega)) (fun q z => ?_)
    obtain ⟨z1, z2, z3⟩ := z
    refine ⟨z1, ?_, z3⟩
    have z21 : 0 + q.2.2.1 + PhC q.2.1 ≤ PhC σ := z2.1
    have z22 : 0 + q.2.2.2 + PhS q.2.1 ≤ PhS σ := z2.2
    exact ⟨by omega, by omega⟩
  have e6 : uN (60000 : Int32) = 60000 := rfl
  have e0 : (0 : Int32).toNatClampNeg = 0 := rfl
  refine Tm_suc (fun k => by rw [f_X3_putOut]) ?_
  refine Tm_ite (fun _ => b1' _ _ (PwF_r σ) rfl rfl (Nat.le_refl _) (Nat.le_refl _)) (fun cn => ?_)
  generalize hn : (if 60000 - σ.1 1915 < σ.1 1203 then 60000 - σ.1 1915 else σ.1 1203) = n at *
  -- it is positive, and printed is below 60000
  have nn : uN n ≤ 10400 ∧ uN (σ.1 1915) + uN n ≤ 60000 := by
    by_cases lt : uN (σ.1 1915) ≤ 60000
    · have es : uN (60000 - σ.1 1915) = 60000 - uN (σ.1 1915) := by rw [u_sub (by omega), e6]
      by_cases cc : 60000 - σ.1 1915 < σ.1 1203
      · rw [if_pos cc] at hn
        have cc' := cc
        rw [u_ltn (by omega) (by omega), es] at cc'
        rw [← hn]; omega
      · rw [if_neg cc] at hn
        have cc' := cc
        rw [u_ltn (by omega) (by omega), es] at cc'
        rw [← hn]; omega
    · exfalso
      apply cn
      have neg : (60000 - σ.1 1915) < 0 := by
        rw [u_neg]
        exact u_subn (by omega) (by omega)
      have lt2 : 60000 - σ.1 1915 < σ.1 1203 := by
        rw [i_lt] at neg ⊢
        have h0 : (0 : Int32).toInt = 0 := rfl
        have h1 : 0 ≤ (σ.1 1203).toInt := by
          have q : ¬ σ.1 1203 < 0 := by rw [u_neg]; omega
          rw [i_lt] at q
          omega
        omega
      rw [if_pos lt2] at hn
      rw [← hn]
      rw [i_le]
      rw [i_lt] at neg
      exact Int.le_of_lt neg
  have ea : uN (σ.1 1915 + n) = uN (σ.1 1915) + uN n := u_add (by omega)
  have s22 := by0.2.2.2.1
  have b2 : ∀ (L' : LV) (τ : CS) (n1 n2 : Nat), L'.1 1 = n → PwF σ τ → τ.1 = σ.1 → BY P τ → uN (σ.1 1915) + uN n ≤ sN τ 22 → n1 + PhC τ ≤ PhC σ → n2 + PhS τ ≤ PhS σ → Tm (fun k => f_X3_putOut k 2 L' τ) (fun q => q.1 = (0, 0) ∧ CoP σ (q.1, q.2.1, (n1 + q.2.2.1, n2 + q.2.2.2)) ∧ PwF σ q.2.1 ∧ uN (q.2.1.1 1915) ≤ 2000000000 ∧ q.2.1.1 1203 = σ.1 1203) := by
    intro L' τ n1 n2 l1 a e1 byt sz k1 k2
    refine Tm_suc (fun k => by rw [f_X3_putOut]) ?_
    rw [l1, e1]
    refine Tm_chk ⟨by decide, ?_, ?_, ?_, ?_⟩ ?_
    · rw [u_neg]; omega
    · rw [u_neg]; omega
    · rw [e0, u_cl (by omega)]; omega
    · rw [u_cl (by omega), u_cl (by omega)]; exact sz
    refine Tm_chk (fun i _ => byt.1 _) ?_
    have ph := Ph_s (σ := τ) (σ' := uF τ 22 (va_cpy (τ.2.2.1 13) (τ.2.2.1 22) (0 : Int32).toNatClampNeg (σ.1 1915).toNatClampNeg n.toNatClampNeg)) rfl
    exact b1 _ _ n1 n2 (PwF_t a (PwF_F τ _)) (by show τ.1 1915 = _; rw [e1]) (by show τ.1 1203 = _; rw [e1]) (by omega) (by omega)
  refine Tm_chk ⟨by decide, by decide, by omega⟩ ?_
  refine Tm_ite (fun cw => ?_) (fun cw => ?_)
  · refine Tm_chk (fun i _ => by0.2.1 i) ?_
    refine Tm_adR ?_
    have c60 : (60000 : Int32).toNatClampNeg = 60000 := rfl
    rw [c60] at cw
    have z := Ph_z22 cw.2
    refine Tm_mono (b2 _ (uZ σ 22 (60000 : Int32).toNatClampNeg) 1 60000 rfl (PwF_Z σ _) rfl (BY_Z ⟨fun _ => by decide, fun z => absurd z (by decide)⟩ by0) ?_ ?_ ?_) (fun q z => z)
    · show uN (σ.1 1915) + uN n ≤ updN (sN σ) 22 (60000 : Int32).toNatClampNeg 22
      unfold updN
      rw [if_pos rfl, c60]; omega
    · rw [c60]; omega
    · rw [c60]; omega
  · have sz : uN (σ.1 1915) + uN n ≤ sN σ 22 := by
      rcases Nat.lt_or_ge (sN σ 22) (uN (σ.1 1915) + uN n) with y | y
      · exfalso
        apply cw
        refine ⟨?_, ?_⟩
        · rw [u_ltn (by rw [u_n (by omega)]; omega) (by omega), ea, u_n (by omega)]; exact y
        · show sN σ 22 < 60000
          omega
      · exact y
    refine Tm_mono (b2 _ σ 0 0 rfl (PwF_r σ) rfl by0 sz (by omega) (by omega)) (fun q z => ?_)
    obtain ⟨z1, z2, z3⟩ := z
    refine ⟨z1, ?_, z3⟩
    have z21 : 0 + q.2.2.1 + PhC q.2.1 ≤ PhC σ := z2.1
    have z22 : 0 + q.2.2.2 + PhS q.2.1 ≤ PhS σ := z2.2
    exact ⟨by omega, by omega⟩
theorem c_printM (p : Pre c g l t K K2 K3 K4 B KB f0 u0 σ fs u d r pb nf nc sq) (cs : tcS c u0) (by0 : BY P σ) {d' n : Nat} (hd : d = d' + n) (h1 : uN (L.1 1) = n) (nx : Nx c (uN (σ.1 1900)) u d' r rk) : Tm (fun k => f_X3_print k 0 L σ) (fun q => q.1.1 = 0 ∧ IO c B KB f0 u0 σ (mu σ (qv nf sq rk)) ((0, 0), q.2.1, (q.2.2.1 + 0, q.2.2.2 + 0))) := by
  have mi := p.1
  have ts := TyS_sp p.2.1
  obtain ⟨st1, st2, st3⟩ := mi.2.1.1
  have u1 : uN (1 : Int32) = 1 := rfl
  have e6 : uN (60000 : Int32) = 60000 := rfl
  have es : uN (σ.1 1902 - L.1 1) = uN (σ.1 1902) - n := by rw [u_sub (by omega), h1]
  generalize hT : uN (σ.1 1902) = T at *
  -- the end
  have fin : ∀ (L' : LV) (τ : CS) (n1 n2 : Nat), PwF σ τ → uN (τ.1 1915) ≤ 2000000000 → n1 + PhC τ ≤ PhC σ → n2 + PhS τ ≤ PhS σ → L'.1 1 = L.1 1 → Tm (fun k => f_X3_print k 2 L' τ) (fun q => (fun z : RS => z.1.1 = 0 ∧ IO c B KB f0 u0 σ (mu σ (qv nf sq rk)) ((0, 0), z.2.1, (z.2.2.1 + 0, z.2.2.2 + 0))) (q.1, q.2.1, (n1 + q.2.2.1, n2 + q.2.2.2))) := by
    intro L' τ n1 n2 a h15 k1 k2 l1
    have pt : Pre c g l t K K2 K3 K4 B KB f0 u0 τ fs u d r pb nf nc sq := ⟨MIn_pr mi a h15, TyS_k p.2.1 ⟨a.1 1901 (by decide), a.1 1815 (by decide), a.1 1811 (by decide), a.1 1908 (by decide)⟩ (by rw [a.1 1902 (by decide)]; exact p.2.1.1) (fun _ _ => rfl) p.2.1.2.2.1 p.2.1.2.2.2.2.2.2.2.2, by rw [a.1 1905 (by decide)]; exact p.2.2.1, by rw [a.1 1812 (by decide)]; exact p.2.2.2.1, p.2.2.2.2⟩
    obtain ⟨pd, _⟩ := Pre_dr (x := L.1 1) (d' := d') (n := n) pt hd h1 nx.choose_spec.2.2
    refine Tm_suc (fun k => by rw [f_X3_print]) ?_
    rw [l1]
    refine Tm_some ⟨rfl, ?_⟩
    have z := fl_fin (σ' := uI τ 1902 (τ.1 1902 - L.1 1)) (rk := rk) pd rfl (fun _ _ => rfl) (by
      show Nx c (uN (τ.1 1900)) u d' r rk
      rw [a.1 1900 (by decide)]; exact nx)
    have mE : mu (uI τ 1902 (τ.1 1902 - L.1 1)) (qv nf sq rk) = mu σ (qv nf sq rk) := mu_e (a.1 1905 (by decide)) (a.1 1814 (by decide)) _
    rw [mE] at z
    obtain ⟨z1, z2, z3, z4, z5⟩ := z
    have ph := Ph_s (σ := τ) (σ' := uI τ 1902 (τ.1 1902 - L.1 1)) rfl
    exact ⟨rfl, ⟨by show n1 + 0 + 0 + PhC (uI τ 1902 (τ.1 1902 - L.1 1)) ≤ _; omega, by show n2 + 0 + 0 + PhS (uI τ 1902 (τ.1 1902 - L.1 1)) ≤ _; omega⟩, MFr_t (PwF_M a) (MFr_t (Md_M (Md_i τ (by decide) _)) z3), fun n => absurd cs n, z5⟩
  have b1 : ∀ (m : Nat) (L' : LV) (τ : CS) (n1 n2 : Nat), PwF σ τ → BY P τ → uN (τ.1 1915) ≤ 2000000000 → n1 + PhC τ ≤ PhC σ → n2 + PhS τ ≤ PhS σ → L'.1 1 = L.1 1 → uN (L'.1 2) + m = T → T - n ≤ uN (L'.1 2) → (uN (L'.1 2) = T - n ∨ uN (τ.1 1203) ≤ 10400 ∨ kdC (σ.2.2.1 3) (σ.2.2.1 20 (uN (L'.1 2) - 1)) = 4) → Tm (fun k => f_X3_print k 1 L' τ) (fun q => (fun z : RS => z.1.1 = 0 ∧ IO c B KB f0 u0 σ (mu σ (qv nf sq rk)) ((0, 0), z.2.1, (z.2.2.1 + 0, z.2.2.2 + 0))) (q.1, q.2.1, (n1 + q.2.2.1, n2 + q.2.2.2))) := by
    intro m
    induction m with
    | zero =>
      intro L' τ n1 n2 a byt h15 k1 k2 l1 l2 l3 hj
      have e02 : τ.1 1902 = σ.1 1902 := a.1 1902 (by decide)
      refine Tm_suc (fun k => by rw [f_X3_print]) ?_
      rw [e02]
      exact Tm_yes (by rw [u_le (by omega) (by omega)]; omega) (fin _ _ _ _ a h15 k1 k2 l1)
    | succ m ih =>
      intro L' τ n1 n2 a byt h15 k1 k2 l1 l2 l3 hj
      have e02 : τ.1 1902 = σ.1 1902 := a.1 1902 (by decide)
      have r20 : τ.2.2.1 20 = σ.2.2.1 20 := a.2.2.1 20 (by decide)
      have r3 : τ.2.2.1 3 = σ.2.2.1 3 := a.2.2.1 3 (by decide)
      have n20 : sN τ 20 = sN σ 20 := a.2.2.2.1 20 (by decide)
      have hq : HQ g l t τ := (MIn_pr mi a h15).1
      have gx := (Ty_v p (q := (uN (L'.1 2))) (by omega) (by omega))
      generalize hh : σ.2.2.1 20 (uN (L'.1 2)) = h at *
      have i2 : ¬ (L'.1 2 < 0 ∨ sN τ 20 ≤ (L'.1 2).toNatClampNeg) := u_in (by omega) (by omega)
      have c2 : (L'.1 2).toNatClampNeg = uN (L'.1 2) := u_cl (by omega)
      have ll := lnC_lt (σ.2.2.1 3) h
      -- on to the next
      have b6 : ∀ (L2 : LV) (ρ : CS) (m1 m2 : Nat), PwF σ ρ → BY P ρ → uN (ρ.1 1915) ≤ 2000000000 → m1 + PhC ρ ≤ PhC σ → m2 + PhS ρ ≤ PhS σ → L2.1 1 = L.1 1 → L2.1 2 = L'.1 2 → (uN (ρ.1 1203) ≤ 10400 ∨ kdC (σ.2.2.1 3) h = 4) → Tm (fun k => f_X3_print k 6 L2 ρ) (fun q => (fun z : RS => z.1.1 = 0 ∧ IO c B KB f0 u0 σ (mu σ (qv nf sq rk)) ((0, 0), z.2.1, (z.2.2.1 + 0, z.2.2.2 + 0))) (q.1, q.2.1, (m1 + q.2.2.1, m2 + q.2.2.2))) := by
        intro L2 ρ m1 m2 a2 by2 h2 q1 q2 o1 o2 hh2
        have e21 : uN (L2.1 2 + 1) = uN (L'.1 2) + 1 := by rw [o2, u_inc (by omega)]
        refine Tm_suc (fun k => by rw [f_X3_print]) ?_
        refine ih _ _ _ _ a2 by2 h2 q1 q2 o1 ?_ ?_ ?_
        · show uN (L2.1 2 + 1) + m = T
          omega
        · show _ ≤ uN (L2.1 2 + 1)
          omega
        · show uN (L2.1 2 + 1) = T - n ∨ _ ∨ kdC (σ.2.2.1 3) (σ.2.2.1 20 (uN (L2.1 2 + 1) - 1)) = 4
          rw [e21, Nat.add_sub_cancel, hh]
          exact Or.inr hh2
      have b9 : ∀ (L2 : LV) (ρ : CS), PwF σ ρ → BY P ρ → uN (ρ.1 1915) ≤ 2000000000 → n1 + PhC ρ ≤ PhC σ → n2 + PhS ρ ≤ PhS σ → L2.1 1 = L.1 1 → L2.1 2 = L'.1 2 → uN (ρ.1 1203) ≤ 10400 → Tm (fun k => f_X3_print k 9 L2 ρ) (fun q => (fun z : RS => z.1.1 = 0 ∧ IO c B KB f0 u0 σ (mu σ (qv nf sq rk)) ((0, 0), z.2.1, (z.2.2.1 + 0, z.2.2.2 + 0))) (q.1, q.2.1, (n1 + q.2.2.1, n2 + q.2.2.2))) := by
        intro L2 ρ a2 by2 h2 q1 q2 o1 o2 h12
        refine Tm_suc (fun k => by rw [f_X3_print]) ?_
        refine Tm_op (Tm_By (c_put h12) (fun k => kb_y_X6_put _ _ _ _ by2)) (fun q3 z3 => ?_)
        have p3 := PwF_t a2 (PwF_P z3.1.1)
        have e15 : q3.2.1 1915 = ρ.1 1915 := z3.1.1.1 1915 (by decide)
        have ph := Ph_s (σ := ρ) (σ' := q3.2) (by rw [z3.1.1.2.2.2])
        refine Tm_oxk (Q := fun z : RS => z.1.1 = 0 ∧ IO c B KB f0 u0 σ (mu σ (qv nf sq rk)) ((0, 0), z.2.1, (z.2.2.1 + 0, z.2.2.2 + 0))) (Tm_Bf (c_putOut z3.2 (by rw [e15]; exact h2) z3.1.2) (fun k => kb_f_X3_putOut _ _ _ _ z3.2)) (fun q z => by rw [z.1.1]) (fun q4 z4 => ?_)
        obtain ⟨⟨w1, w2, w3, w4, w5⟩, w6⟩ := z4
        have w21 := w2.1
        have w22 := w2.2
        exact b6 _ _ _ _ (PwF_t p3 w3) w6 w4 (by omega) (by omega) o1 o2 (Or.inl (by rw [w5]; exact z3.1.2))
      have b7 : ∀ (L2 : LV), L2.1 1 = L.1 1 → L2.1 2 = L'.1 2 → Tm (fun k => f_X3_print k 7 L2 τ) (fun q => (fun z : RS => z.1.1 = 0 ∧ IO c B KB f0 u0 σ (mu σ (qv nf sq rk)) ((0, 0), z.2.1, (z.2.2.1 + 0, z.2.2.2 + 0))) (q.1, q.2.1, (n1 + q.2.2.1, n2 + q.2.2.2))) := by
        intro L2 o1 o2
        refine Tm_suc (fun k => by rw [f_X3_print]) ?_
        rw [o2]
        refine Tm_chk i2 ?_
        rw [c2, r20, hh]
        refine Tm_oxk (Q := fun z : RS => z.1.1 = 0 ∧ IO c B KB f0 u0 σ (mu σ (qv nf sq rk)) ((0, 0), z.2.1, (z.2.2.1 + 0, z.2.2.2 + 0))) (Tm_Bf (c_printPlain hq gx) (fun k => kb_f_X6_printPlain _ _ _ _ byt)) (fun q z => z.1.1) (fun q4 z4 => ?_)
        obtain ⟨⟨w1, w2, w3, w4⟩, w5⟩ := z4
        have p4 := PwF_t a (PwF_P w3)
        have e15 : q4.2.1.1 1915 = τ.1 1915 := w3.1 1915 (by decide)
        have ph := Ph_s (σ := τ) (σ' := q4.2.1) (by rw [w3.2.2.2])
        have w21 : q4.2.2.1 = 0 := by rw [w2]
        have w22 : q4.2.2.2 = 0 := by rw [w2]
        rw [w21, w22, Nat.add_zero, Nat.add_zero]
        refine Tm_ite (fun _ => ?_) (fun _ => ?_)
        · refine Tm_suc (fun k => by rw [f_X3_print]) ?_
          exact b9 _ _ p4 w5 (by rw [e15]; exact h15) (by omega) (by omega) o1 o2 w4
        · exact b9 _ _ p4 w5 (by rw [e15]; exact h15) (by omega) (by omega) o1 o2 w4
      have cnt : ∀ (L2 : LV) (x : Int32), uN x ≤ 20000 → L2.1 1 = L.1 1 → L2.1 2 = L'.1 2 → (uN (τ.1 1203) ≤ 10400 ∨ kdC (σ.2.2.1 3) h = 4) → Tm (fun k => Jvm.Pilot.CSetHouseLaw_law_r6264_2ea8b6.op (y_X3_countOut k 0 (lI lZ 1 x) τ) (fun r7 => f_X3_print k 6 L2 r7.2)) (fun q => (fun z : RS => z.1.1 = 0 ∧ IO c B KB f0 u0 σ (mu σ (qv nf sq rk)) ((0, 0), z.2.1, (z.2.2.1 + 0, z.2.2.2 + 0))) (q.1, q.2.1, (n1 + q.2.2.1, n2 + q.2.2.2))) := by
        intro L2 x hx o1 o2 hh2
        refine Tm_op (c_countOut h15 hx) (fun q3 z3 => ?_)
        obtain ⟨v, z1, z2⟩ := z3
        rw [z1]
        have ph := Ph_s (σ := τ) (σ' := uI τ 1915 v) rfl
        exact b6 _ _ _ _ (PwF_t a (PwF_15 τ v)) (BY_I (by decide) byt) z2 (by omega) (by omega) o1 o2 hh2
      have b5 : ∀ (L2 : LV), L2.1 1 = L.1 1 → L2.1 2 = L'.1 2 → (L2.1 3 = 0 ∨ τ.1 1915 < 60000 ∨ uN (τ.1 1203) ≤ 10400) → Tm (fun k => f_X3_print k 5 L2 τ) (fun q => (fun z : RS => z.1.1 = 0 ∧ IO c B KB f0 u0 σ (mu σ (qv nf sq rk)) ((0, 0), z.2.1, (z.2.2.1 + 0, z.2.2.2 + 0))) (q.1, q.2.1, (n1 + q.2.2.1, n2 + q.2.2.2))) := by
        intro L2 o1 o2 h3
        refine Tm_suc (fun k => by rw [f_X3_print]) ?_
        refine Tm_ite (fun _ => b7 _ o1 o2) (fun c60 => Tm_ite (fun _ => b7 _ o1 o2) (fun c0 => ?_))
        rcases h3 with y | y | y
        · exact absurd y c0
        · exact absurd y c60
        · exact cnt _ _ (by omega) o1 o2 (Or.inl y)
      have b4 : ∀ (L2 : LV), L2.1 1 = L.1 1 → L2.1 2 = L'.1 2 → (L2.1 100 = 0 ∨ (T - n < uN (L'.1 2) ∧ σ.2.2.1 20 (uN (L'.1 2) - 1) = h)) → Tm (fun k => f_X3_print k 4 L2 τ) (fun q => (fun z : RS => z.1.1 = 0 ∧ IO c B KB f0 u0 σ (mu σ (qv nf sq rk)) ((0, 0), z.2.1, (z.2.2.1 + 0, z.2.2.2 + 0))) (q.1, q.2.1, (n1 + q.2.2.1, n2 + q.2.2.2))) := by
        intro L2 o1 o2 hag
        refine Tm_suc (fun k => by rw [f_X3_print]) ?_
        refine Tm_ite (fun c60 => b5 _ o1 o2 (Or.inr (Or.inl c60))) (fun c60 => ?_)
        rw [o2]
        refine Tm_chk i2 ?_
        rw [c2, r20, hh]
        refine Tm_op (c_kind hq gx) (fun q3 z3 => ?_)
        rw [z3, r3]
        refine Tm_ite (fun k4 => ?_) (fun k4 => ?_)
        · have k4' : kdC (σ.2.2.1 3) h = 4 := kd_n (n := 4) (by decide) k4
          refine Tm_chk (by rw [c2] at i2; exact i2) ?_
          show Tm (fun k => Jvm.Pilot.CSetHouseLaw_law_r6264_2ea8b6.op (y_X1_length k 0 (lI lZ 1 (τ.2.2.1 20 (uN (L'.1 2)))) τ) _) _
          rw [r20, hh]
          refine Tm_op (c_length hq gx) (fun q6 z6 => ?_)
          rw [z6, r3]
          refine cnt _ _ ?_ o1 o2 (Or.inr k4')
          show uN (nI (lnC (σ.2.2.1 3) h) + 1) ≤ _
          rw [u_inc (by rw [u_n (by omega)]; omega), u_n (by omega)]
          omega
        · refine b5 _ o1 o2 ?_
          rcases hag with y | y
          · exact Or.inl y
          · right; right
            rcases hj with z | z | z
            · omega
            · exact z
            · rw [y.2] at z
              exfalso
              apply k4
              show nI (kdC (σ.2.2.1 3) h) = 4
              rw [z]
              rfl
      have b3 : ∀ (L2 : LV), L2.1 1 = L.1 1 → L2.1 2 = L'.1 2 → Tm (fun k => f_X3_print k 3 L2 τ) (fun q => (fun z : RS => z.1.1 = 0 ∧ IO c B KB f0 u0 σ (mu σ (qv nf sq rk)) ((0, 0), z.2.1, (z.2.2.1 + 0, z.2.2.2 + 0))) (q.1, q.2.1, (n1 + q.2.2.1, n2 + q.2.2.2))) := by
        intro L2 o1 o2
        refine Tm_suc (fun k => by rw [f_X3_print]) ?_
        exact b4 _ o1 o2 (Or.inl rfl)
      refine Tm_suc (fun k => by rw [f_X3_print]) ?_
      rw [e02, l1]
      refine Tm_no (by rw [u_le (by omega) (by omega)]; omega) ?_
      refine Tm_ite (fun _ => b3 _ l1 rfl) (fun cg => ?_)
      rw [u_le (by omega) (by omega), es] at cg
      have e1 : uN (L'.1 2 - 1) = uN (L'.1 2) - 1 := by rw [u_sub (by omega), u1]
      refine Tm_chk i2 ?_
      refine Tm_chk (u_in (by omega) (by omega)) ?_
      rw [c2, r20, hh, u_cl (x := L'.1 2 - 1) (by omega), e1]
      refine Tm_ite (fun cq => ?_) (fun _ => b3 _ l1 rfl)
      exact b4 _ l1 rfl (Or.inr ⟨by omega, cq.symm⟩)
  refine Tm_suc (fun k => by rw [f_X3_print]) ?_
  refine Tm_mono (b1 n _ σ 0 0 (PwF_r σ) by0 mi.2.2.2.2.2.2.2.2.2.2 (by omega) (by omega) rfl ?_ ?_ (Or.inl ?_)) (fun q z => ?_)
  · show uN (σ.1 1902 - L.1 1) + n = T
    omega
  · show T - n ≤ uN (σ.1 1902 - L.1 1)
    omega
  · exact es
  · have z1 := z.1
    have z2 : IO c B KB f0 u0 σ (mu σ (qv nf sq rk)) ((0, 0), q.2.1, (0 + q.2.2.1 + 0, 0 + q.2.2.2 + 0)) := z.2
    rw [Nat.zero_add, Nat.zero_add] at z2
    exact ⟨z1, z2⟩
end CTX
end JnS413
section JnS414
/-! The class: flow, and calls and points. -/
section CTY
variable {g g' g2 : Nat → Prop} {l l' l2 : List Nat} {t t' t2 : Nat} {σ σ' σ2 τ τ' : CS} {L : LV} {x y z i : Int32} {M M' U U' : Nat → Int32} {K K' K0 K2 K2' K3 K4 K4' KB : Nat → Option Int32} {c : Ct} {B f0 u0 a T : Nat} {fs : List FrT} {u d : Nat} {r r' : List Nat} {pb nf nc sq rk : Nat}
/-- what flow asks, but BEGIN and END_VIEW -/
def Ok1 (c : Ct) (pc u d : Nat) (r : List Nat) (rk op : Nat) (num : Int32) : Prop := (op = 1 ∨ op = 2 → tcS c u ∧ ∃ (w : Nat) (ms : List Nat), d = 0 ∧ r = (bsl + w) :: ms ∧ w ≤ 200) ∧ (op = 3 → Nx c (uN (nI pc + num)) u d r rk) ∧ (op = 4 ∨ op = 5 → ∃ d', d = d' + 1 ∧ Nx c (pc + 1) u d' r rk ∧ Nx c (uN (nI pc + num)) u d' r rk) ∧ (op = 6 ∨ op = 7 → ∃ d', d = d' + 1 ∧ Nx c (pc + 1) u d' r rk ∧ NxS c (uN (nI pc + num)) u (d' + 1) r) ∧ (op = 8 ∨ op = 9 → 1 ≤ d ∧ NxS c (pc + 1) u d r)
theorem c_wantTruth : Tm (fun k => y_X3_wantTruth k 0 L σ) (fun q => (q.1 = 1 ∧ q.2 = σ ∧ (L.1 1 = -1879048191 ∨ L.1 1 = -1879048192)) ∨ (q.1 = 0 ∧ q.2 = uI (uI σ 1813 9) 1812 1)) := by
  refine Tm_suc (fun k => by rw [y_X3_wantTruth]) ?_
  refine Tm_ite (fun c1 => ?_) (fun c1 => Tm_ite (fun c2 => ?_) (fun c2 => ?_))
  · refine Tm_suc (fun k => by rw [y_X3_wantTruth]) ?_
    exact Tm_some (Or.inl ⟨rfl, rfl, Or.inl c1⟩)
  · refine Tm_suc (fun k => by rw [y_X3_wantTruth]) ?_
    exact Tm_some (Or.inl ⟨rfl, rfl, Or.inr c2⟩)
  · refine Tm_oc c_fail (fun q e => ?_)
    rw [e]
    exact Tm_some (Or.inr ⟨rfl, rfl⟩)
theorem fa_fin (p : Pre c g l t K K2 K3 K4 B KB f0 u0 σ fs u d r pb nf nc sq) {m : Nat} {a : Int32} (h : ¬ a = 0) : IO c B KB f0 u0 σ m ((0, 0), uI (uI σ 1813 a) 1812 1, (0, 0)) := ha_fin p rfl (fun j hj => by
  show upd (upd σ.1 1813 a) 1812 1 j = _
  rw [upd_other (by omega), upd_other (by omega)]) rfl (f13 h)
theorem c_shortcut (p : Pre c g l t K K2 K3 K4 B KB f0 u0 σ fs u (d + 1) r pb nf nc sq) {w : Int32} (h2 : L.1 2 = w) (nE : Nx c (uN (σ.1 1900)) u d r rk) (nS : NxS c (uN w) u (d + 1) r) : Tm (fun k => y_X3_shortcut k 0 L σ) (fun q => IO c B KB f0 u0 σ (mu σ (qv nf sq rk)) ((0, 0), q.2, (0, 0))) := by
  have mi := p.1
  obtain ⟨st1, st2, st3⟩ := mi.2.1.1
  have ts := TyS_sp p.2.1
  have u1 : uN (1 : Int32) = 1 := rfl
  have ea : uN (σ.1 1902 - 1) = uN (σ.1 1902) - 1 := by rw [u_sub (by omega), u1]
  have b3 : ∀ (σ' : CS) (L' : LV) (Q : Int32 × CS → Prop), Q (0, σ') → Tm (fun k => y_X3_shortcut k 3 L' σ') Q := by
    intro σ' L' Q h
    refine Tm_suc (fun k => by rw [y_X3_shortcut]) ?_
    exact Tm_some h
  refine Tm_suc (fun k => by rw [y_X3_shortcut]) ?_
  refine Tm_chk (u_in (by omega) (by omega)) ?_
  refine Tm_oc c_wantTruth (fun q z => ?_)
  rcases z with ⟨z1, z2, _⟩ | ⟨z1, z2⟩
  · refine Tm_no (by rw [z1]; decide) ?_
    rw [z2]
    refine Tm_suc (fun k => by rw [y_X3_shortcut]) ?_
    refine Tm_ite (fun ce => ?_) (fun ce => ?_)
    · have p1 := Pre_i p (j := 1900) (Or.inr (Or.inl rfl)) w
      refine Tm_oc c_spend (fun q3 e3 => ?_)
      rw [e3]
      refine b3 _ _ _ ?_
      show IO c B KB f0 u0 σ (mu σ (qv nf sq rk)) ((0, 0), spS (uI σ 1900 (L.1 2)) 1, (0, 0))
      rw [h2]
      have gt : Gv g ((uI σ 1900 w).2.2.1 20 (uN ((uI σ 1900 w).1 1902) - 1)) := Ty_v p1 (by show uN (σ.1 1902) ≤ uN (σ.1 1902) - 1 + (d + 1); omega) (by show uN (σ.1 1902) - 1 < uN (σ.1 1902); omega)
      have z := re_fin (σ' := spS (uI σ 1900 w) 1) p1 (by omega) gt (Re_sp (σ := uI σ 1900 w) (n := 1) (by decide) (by decide) p1.2.2.1) rfl (fun _ _ => rfl) (by
        have e19 : (spS (uI σ 1900 w) 1).1 1900 = w := (spS_m (uI σ 1900 w) 1).1 1900 (by decide)
        rw [e19]; exact nS) (qv nf sq rk)
      exact IO_b (Md_i σ (by decide) _) rfl z
    · refine Tm_suc (fun k => by rw [y_X3_shortcut]) ?_
      refine b3 _ _ _ ?_
      obtain ⟨pd, es⟩ := Pre_dr (x := 1) (d' := d) (n := 1) p rfl rfl nE.choose_spec.2.2
      have z := fl_fin (σ' := uI σ 1902 (σ.1 1902 - 1)) (rk := rk) pd rfl (fun _ _ => rfl) (by
        show Nx c (uN (σ.1 1900)) u d r rk
        exact nE)
      exact IO_b (Md_i σ (by decide) _) rfl z
  · refine Tm_yes z1 ?_
    rw [z2]
    exact Tm_some (fa_fin p (by decide))
theorem c_flow (p : Pre c g l t K K2 K3 K4 B KB f0 u0 σ fs u d r pb nf nc sq) {pc op : Nat} (h0 : 1 ≤ op) (ho : op < 10) (h1 : L.1 1 = nI op) (h3 : L.1 3 = nI pc) (hp : pc + 1 ≤ tcN c) (hN : tcN c ≤ 36864) (hpc : σ.1 1900 = nI (pc + 1)) (hf : tcS c u0 → f0 = 0) (ok : Ok1 c pc u d r rk op (L.1 2)) : Tm (fun k => f_X3_flow k 0 L σ) (IO c B KB f0 u0 σ (mu σ (qv nf sq rk))) := by
  have mi := p.1
  obtain ⟨st1, st2, st3⟩ := mi.2.1.1
  have ts := TyS_sp p.2.1
  have hx : uN (σ.1 1900) = pc + 1 := by rw [hpc, u_n (by omega)]
  have u1 : uN (1 : Int32) = 1 := rfl
  have ea : uN (σ.1 1902 - 1) = uN (σ.1 1902) - 1 := by rw [u_sub (by omega), u1]
  have ho' : op < 256 := by omega
  have i1 : 1 ≤ d → ¬ (σ.1 1902 - 1 < 0 ∨ sN σ 20 ≤ (σ.1 1902 - 1).toNatClampNeg) := fun k => u_in (by omega) (by omega)
  have gt : 1 ≤ d → Gv g (σ.2.2.1 20 (uN (σ.1 1902) - 1)) := fun k => Ty_v p (by omega) (by omega)
  obtain ⟨o1, o3, o4, o6, o8⟩ := ok
  have b11 : ∀ (σ' : CS) (L' : LV) (Q : RS → Prop), Q ((0, 0), σ', (0, 0)) → Tm (fun k => f_X3_flow k 11 L' σ') Q := by
    intro σ' L' Q h
    refine Tm_suc (fun k => by rw [f_X3_flow]) ?_
    exact Tm_some h
  have b2 : (tcS c u ∧ ∃ (w : Nat) (ms : List Nat), d = 0 ∧ r = (bsl + w) :: ms ∧ w ≤ 200) → Tm (fun k => f_X3_flow k 2 L σ) (IO c B KB f0 u0 σ (mu σ (qv nf sq rk))) := by
    intro cs
    obtain ⟨cs, ww, wm, w0, wr, w2⟩ := cs
    have cs0 := FC_S _ _ _ _ _ _ _ p.2.1.2.1 cs
    have m := MIn_fw (σ' := uI (uI σ 1907 1) 1812 1) mi rfl (fun j hj => by
      show upd (upd σ.1 1907 1) 1812 1 j = _
      rw [upd_other (by omega), upd_other (by omega)]) mi.2.2.2.2.2.2.1.2 (Nat.le_refl _) mi.2.2.2.2.2.2.2.1
    refine Tm_suc (fun k => by rw [f_X3_flow]) ?_
    refine b11 _ _ _ ?_
    refine ⟨rfl, CoP_0 rfl, Mw_M m.2, fun n => absurd cs0 n, g, l, t, K, K2, K3, K4, m.1, fun z => absurd z (by show ¬ (1 : Int32) = 0; decide), fun _ => Or.inr ⟨cs0, rfl, ?_⟩⟩
    show uN (σ.1 1902) ≤ 10404
    have z1 := (FC_b _ _ _ _ _ _ _ p.2.1.2.1).2.2 cs
    have z2 := p.2.1.1
    rw [w0, wr] at z2
    have z3 := (SL_0 z2).1
    have z4 := hf cs0
    have z5 := p.2.1.2.2.2.2.2.2.1
    omega
  have b4 : ∀ d', d = d' + 1 → Nx c (pc + 1) u d' r rk → Nx c (uN (nI pc + L.1 2)) u d' r rk → Tm (fun k => f_X3_flow k 4 L σ) (IO c B KB f0 u0 σ (mu σ (qv nf sq rk))) := by
    intro d' k1 k2 k3
    obtain ⟨pd, es⟩ := Pre_dr (x := 1) (d' := d') (n := 1) p k1 rfl k2.choose_spec.2.2
    have b19 : ∀ L' : LV, L'.1 2 = L.1 2 → L'.1 3 = nI pc → Tm (fun k => f_X3_flow k 19 L' (uI σ 1902 (σ.1 1902 - 1))) (IO c B KB f0 u0 σ (mu σ (qv nf sq rk))) := by
      intro L' l2 l3
      refine Tm_suc (fun k => by rw [f_X3_flow]) ?_
      refine Tm_ite (fun _ => ?_) (fun _ => ?_)
      · refine b11 _ _ _ ?_
        have z := fl_fin (σ' := uI (uI σ 1902 (σ.1 1902 - 1)) 1900 (L'.1 3 + L'.1 2)) (rk := rk) pd rfl (fun j hj => upd_other hj) (by
          show Nx c (uN (L'.1 3 + L'.1 2)) u d' r rk
          rw [l2, l3]; exact k3)
        exact IO_b (Md_i σ (by decide) _) rfl z
      · refine b11 _ _ _ ?_
        have z := fl_fin (σ' := uI σ 1902 (σ.1 1902 - 1)) (rk := rk) pd rfl (fun _ _ => rfl) (by
          show Nx c (uN (σ.1 1900)) u d' r rk
          rw [hx]; exact k2)
        exact IO_b (Md_i σ (by decide) _) rfl z
    have b13 : ∀ L' : LV, L'.1 2 = L.1 2 → L'.1 3 = nI pc → Tm (fun k => f_X3_flow k 13 L' (uI σ 1902 (σ.1 1902 - 1))) (IO c B KB f0 u0 σ (mu σ (qv nf sq rk))) := by
      intro L' l2 l3
      refine Tm_suc (fun k => by rw [f_X3_flow]) ?_
      refine Tm_ite (fun _ => b19 _ l2 l3) (fun _ => ?_)
      refine Tm_suc (fun k => by rw [f_X3_flow]) ?_
      exact b19 _ l2 l3
    refine Tm_suc (fun k => by rw [f_X3_flow]) ?_
    refine Tm_op (c_pop (by omega) st1 st2.2) (fun q z => ?_)
    rw [z.1]
    refine Tm_op c_wantTruth (fun q2 z2 => ?_)
    rcases z2 with ⟨w1, w2, _⟩ | ⟨w1, w2⟩
    · refine Tm_no (by rw [w1]; decide) ?_
      rw [w2]
      refine Tm_ite (fun _ => b13 _ rfl h3) (fun _ => ?_)
      refine Tm_suc (fun k => by rw [f_X3_flow]) ?_
      exact b13 _ rfl h3
    · refine Tm_yes w1 ?_
      rw [w2]
      exact b11 _ _ _ (IO_b (Md_i σ (by decide) _) rfl (fa_fin pd (by decide)))
  have b15 : ∀ (L' : LV) (d' : Nat), d = d' + 1 → Nx c (pc + 1) u d' r rk → NxS c (uN (nI pc + L.1 2)) u (d' + 1) r → L'.1 2 = L.1 2 → L'.1 3 = nI pc → Tm (fun k => f_X3_flow k 15 L' σ) (IO c B KB f0 u0 σ (mu σ (qv nf sq rk))) := by
    intro L' d' k1 k2 k3 l2 l3
    have p0 : Pre c g l t K K2 K3 K4 B KB f0 u0 σ fs u (d' + 1) r pb nf nc sq := by rw [← k1]; exact p
    refine Tm_suc (fun k => by rw [f_X3_flow]) ?_
    exact Tm_op (c_shortcut p0 (w := nI pc + L.1 2) (by show L'.1 3 + L'.1 2 = _; rw [l2, l3]) (by rw [hx]; exact k2) k3) (fun q z => b11 _ _ _ z)
  refine Tm_suc (fun k => by rw [f_X3_flow]) ?_
  rw [h1]
  refine Tm_ite (fun q => ?_) (fun q0 => Tm_ite (fun q => ?_) (fun q1 => Tm_ite (fun q => ?_) (fun q2 => Tm_ite (fun q => ?_) (fun q3 => Tm_ite (fun q => ?_) (fun q4 => Tm_ite (fun q => ?_) (fun q5 => Tm_ite (fun q => ?_) (fun q6 => Tm_ite (fun q => ?_) (fun q7 => Tm_ite (fun q => ?_) (fun q8 => Tm_ite (fun q => ?_) (fun q9 => ?_))))))))))
  · exact absurd ((op_n (n := 0) ho' (by decide)).1 q) (by omega)
  · exact b2 (o1 (Or.inl ((op_n ho' (by decide)).1 q)))
  · exact b2 (o1 (Or.inr ((op_n ho' (by decide)).1 q)))
  · have k := o3 ((op_n ho' (by decide)).1 q)
    refine Tm_suc (fun k => by rw [f_X3_flow]) ?_
    refine b11 _ _ _ (fl_fin p rfl (fun j hj => upd_other hj) ?_)
    show Nx c (uN (L.1 3 + L.1 2)) u d r rk
    rw [h3]; exact k
  · obtain ⟨d', k1, k2, k3⟩ := o4 (Or.inl ((op_n ho' (by decide)).1 q))
    exact b4 d' k1 k2 k3
  · obtain ⟨d', k1, k2, k3⟩ := o4 (Or.inr ((op_n ho' (by decide)).1 q))
    exact b4 d' k1 k2 k3
  · obtain ⟨d', k1, k2, k3⟩ := o6 (Or.inl ((op_n ho' (by decide)).1 q))
    refine Tm_suc (fun k => by rw [f_X3_flow]) ?_
    refine Tm_ite (fun _ => b15 _ d' k1 k2 k3 rfl h3) (fun _ => ?_)
    refine Tm_suc (fun k => by rw [f_X3_flow]) ?_
    exact b15 _ d' k1 k2 k3 rfl h3
  · obtain ⟨d', k1, k2, k3⟩ := o6 (Or.inr ((op_n ho' (by decide)).1 q))
    refine Tm_suc (fun k => by rw [f_X3_flow]) ?_
    refine Tm_ite (fun _ => b15 _ d' k1 k2 k3 rfl h3) (fun _ => ?_)
    refine Tm_suc (fun k => by rw [f_X3_flow]) ?_
    exact b15 _ d' k1 k2 k3 rfl h3
  · obtain ⟨k1, k2⟩ := o8 (Or.inl ((op_n ho' (by decide)).1 q))
    refine Tm_suc (fun k => by rw [f_X3_flow]) ?_
    refine Tm_chk (i1 k1) ?_
    refine Tm_op c_wantTruth (fun q2 z2 => ?_)
    rcases z2 with ⟨w1, w2, _⟩ | ⟨w1, w2⟩
    · refine Tm_no (by rw [w1]; decide) ?_
      rw [w2]
      refine Tm_op c_spend (fun q3 e3 => ?_)
      rw [e3]
      refine b11 _ _ _ ?_
      refine re_fin (σ' := spS σ 1) p k1 (gt k1) (Re_sp (by decide) (by decide) p.2.2.1) rfl (fun _ _ => rfl) ?_ _
      have e19 : (spS σ 1).1 1900 = σ.1 1900 := (spS_m σ 1).1 1900 (by decide)
      rw [e19, hx]; exact k2
    · refine Tm_yes w1 ?_
      rw [w2]
      exact b11 _ _ _ (fa_fin p (by decide))
  · obtain ⟨k1, k2⟩ := o8 (Or.inr ((op_n ho' (by decide)).1 q))
    have b17 : ∀ L' : LV, Tm (fun k => f_X3_flow k 17 L' σ) (IO c B KB f0 u0 σ (mu σ (qv nf sq rk))) := by
      intro L'
      refine Tm_suc (fun k => by rw [f_X3_flow]) ?_
      refine Tm_op c_truth (fun q3 z3 => ?_)
      rw [z3.1]
      exact Tm_op (reX p k1 (Md_r σ) rfl rfl rfl (z3.2 g) (by rw [hx]; exact k2) (qv nf sq rk)) (fun q z => b11 _ _ _ z)
    refine Tm_suc (fun k => by rw [f_X3_flow]) ?_
    refine Tm_chk (i1 k1) ?_
    refine Tm_op c_wantTruth (fun q2 z2 => ?_)
    rcases z2 with ⟨w1, w2, _⟩ | ⟨w1, w2⟩
    · refine Tm_no (by rw [w1]; decide) ?_
      rw [w2]
      refine Tm_chk (i1 k1) ?_
      refine Tm_ite (fun _ => b17 _) (fun _ => ?_)
      refine Tm_suc (fun k => by rw [f_X3_flow]) ?_
      exact b17 _
    · refine Tm_yes w1 ?_
      rw [w2]
      exact b11 _ _ _ (fa_fin p (by decide))
  · exfalso
    have nn : ∀ n, n < 10 → ¬ op = n → True := fun _ _ _ => trivial
    have e : op = 0 ∨ op = 1 ∨ op = 2 ∨ op = 3 ∨ op = 4 ∨ op = 5 ∨ op = 6 ∨ op = 7 ∨ op = 8 ∨ op = 9 := by omega
    rcases e with e | e | e | e | e | e | e | e | e | e
    · omega
    · exact q1 (by rw [e]; rfl)
    · exact q2 (by rw [e]; rfl)
    · exact q3 (by rw [e]; rfl)
    · exact q4 (by rw [e]; rfl)
    · exact q5 (by rw [e]; rfl)
    · exact q6 (by rw [e]; rfl)
    · exact q7 (by rw [e]; rfl)
    · exact q8 (by rw [e]; rfl)
    · exact q9 (by rw [e]; rfl)
/-- END_VIEW -/
theorem c_flowV {op : Nat} (h0 : 10 ≤ op) (ho : op < 256) (h1 : L.1 1 = nI op) : Tm (fun k => f_X3_flow k 0 L σ) (fun q => q = ((0, 0), uI σ 1812 1, (0, 0))) := by
  have nn : ∀ n, n < 10 → ¬ nI op = nI n := fun n hn z => by
    have e := (op_n ho (by omega)).1 z
    omega
  refine Tm_suc (fun k => by rw [f_X3_flow]) ?_
  rw [h1]
  refine Tm_no (nn 0 (by decide)) (Tm_no (nn 1 (by decide)) (Tm_no (nn 2 (by decide)) (Tm_no (nn 3 (by decide)) (Tm_no (nn 4 (by decide)) (Tm_no (nn 5 (by decide)) (Tm_no (nn 6 (by decide)) (Tm_no (nn 7 (by decide)) (Tm_no (nn 8 (by decide)) (Tm_no (nn 9 (by decide)) ?_)))))))))
  refine Tm_suc (fun k => by rw [f_X3_flow]) ?_
  refine Tm_suc (fun k => by rw [f_X3_flow]) ?_
  exact Tm_some rfl
end CTY
end JnS414
section JnS415
/-! The class: calls and points. -/
section CTZ
variable {g g' g2 : Nat → Prop} {l l' l2 : List Nat} {t t' t2 : Nat} {σ σ' σ2 τ τ' : CS} {L : LV} {x y z i : Int32} {M M' U U' : Nat → Int32} {K K' K0 K2 K2' K3 K4 K4' KB : Nat → Option Int32} {c : Ct} {B f0 u0 a T : Nat} {fs : List FrT} {u d : Nat} {r r' : List Nat} {pb nf nc sq rk : Nat}
/-- raw ones were laid upon the stack, of which nothing is said -/
theorem pu_C (mi : MIn c g l t K K2 K3 K4 B KB σ) (hx : Gw g x) {n : Nat} {q : RS} (h : PuO σ x n q) : MIn c g l t (Kw K (uN (σ.1 1902)) n (some mkC)) K2 K3 K4 B KB q.2.1 ∧ Md σ q.2.1 := by
  obtain ⟨st1, st2, st3⟩ := mi.2.1.1
  obtain ⟨h1, h2, h3, h4, h5, h6, h7⟩ := h
  have md : Md σ q.2.1 := Md_S h3
  have hq : HQ g l t q.2.1 := HQ_fs mi.1 h4.1 h4.2 (fun k hk => h3.2.2.2.1.1 k hk)
  have b := mi.2.2.2.2.2.2.1.2
  have e23 : q.2.1.2.2.1 23 = σ.2.2.1 23 := h3.2.2.1 23 (by decide)
  have r3 : q.2.1.2.2.1 3 = σ.2.2.1 3 := h4.2
  have kb : ∀ j, j < B → Kw K (uN (σ.1 1902)) n (some mkC) j = KB j := fun j hj => by rw [Kw_o (Or.inl (by omega))]; exact mi.2.2.2.2.2.1 j hj
  refine ⟨?_, md⟩
  rcases h7 with ⟨a1, a2, a3, a4, a5, a6⟩ | ⟨a1, a2, a3, a4⟩
  · have rw1 : Rwk g (q.2.1.2.2.1 3) (Kw K (uN (σ.1 1902)) n (some mkC)) (q.2.1.2.2.1 20) (uN (q.2.1.1 1902)) := by
      rw [a1, r3]
      intro j hj
      rcases Nat.lt_or_ge j (uN (σ.1 1902)) with z | z
      · rw [h6 j z, Kw_o (Or.inl z)]
        exact st3 j z
      · rw [a3 j z hj, Kw_i z hj]
        exact Rwc hx
    have v := VI_20 mi.2.1 md e23 ⟨fun _ z => z, fun p _ => by rw [r3]⟩ (by rw [a1]; exact a2) h5 rw1
    exact MIn_d mi md hq v kb (by rw [a1]; omega)
  · have rw1 : Rwk g (q.2.1.2.2.1 3) (Kw K (uN (σ.1 1902)) n (some mkC)) (q.2.1.2.2.1 20) (uN (q.2.1.1 1902)) := by
      rw [a1, r3]
      intro j hj
      rw [h6 j hj, Kw_o (Or.inl hj)]
      exact st3 j hj
    have v := VI_20 mi.2.1 md e23 ⟨fun _ z => z, fun p _ => by rw [r3]⟩ (by rw [a1]; exact a2) h5 rw1
    exact MIn_d mi md hq v kb (by rw [a1]; exact b)
theorem Gw_rt (g : Nat → Prop) : Gw g (-268435456) := Or.inr (by show 4026531840 ≤ uN (-268435456); decide)
/-- FRAME -/
theorem fr_fin {e' : Nat} {s : List Nat} (p : Pre c g l t K K2 K3 K4 B KB f0 u0 σ fs u d (e' :: s) pb nf nc sq) (hd : d < 250000) {q : RS} (h : PuO σ (-268435456) 4 q) (nx : Nx c (uN (σ.1 1900)) u 0 ((250000 + d) :: e' :: s) rk) : IO c B KB f0 u0 σ (mu σ (qv nf sq rk)) ((0, 0), q.2.1, (q.2.2.1 + 0, q.2.2.2 + 0)) := by
  have pm := pu_C p.1 (Gw_rt g) h
  have ty := p.2.1
  have ts := TyS_sp ty
  obtain ⟨h1, h2, h3, h4, h5, h6, h7⟩ := h
  refine ⟨rfl, ⟨h2.1, h2.2⟩, Md_M pm.2, fun _ => Md_E pm.2, g, l, t, _, _, _, _, pm.1, fun z => ?_, fun z => ?_⟩
  · have z0 : q.2.1.1 1812 = 0 := z
    rcases h7 with ⟨a1, a2, a3, a4, a5, a6⟩ | ⟨a1, a2, a3, a4⟩
    · have fe : ∀ j, ¬ (j = 1 ∨ j = 404 ∨ j = 1203 ∨ j = 1812 ∨ j = 1813 ∨ j = 1902 ∨ j = 1905) → q.2.1.1 j = σ.1 j := fun j hj => h3.1 j (by omega)
      have hs : SL (Kw K (uN (σ.1 1902)) 4 (some mkC)) (uN (σ.1 1901) + 4) (uN (q.2.1.1 1902)) 0 ((250000 + d) :: e' :: s) := by
        rw [a1]
        exact SL_fr ty.1 hd
      refine go_n (TyS_k ty ⟨fe 1901 (by decide), fe 1815 (by decide), fe 1811 (by decide), fe 1908 (by decide)⟩ hs (fun p hp => Kw_o (Or.inl (by omega))) nx.choose_spec.2.2 ?_) p.2.2.1 a6 (fe 1814 (by decide)) (by rw [fe 1900 (by decide)]; exact nx)
      exact ⟨fun z => absurd z (by unfold bsl; omega), fun _ => ty.2.2.2.2.2.2.2.2⟩
    · rw [a3] at z0
      exact absurd z0 (by decide)
  · have z0 : ¬ q.2.1.1 1812 = 0 := z
    rcases h7 with ⟨a1, a2, a3, a4, a5, a6⟩ | ⟨a1, a2, a3, a4⟩
    · exact absurd (a4.trans p.2.2.2.1) z0
    · exact Or.inl a4.2
/-- what calls and points ask -/
def Ok7 (c : Ct) (pc u d : Nat) (r : List Nat) (rk op : Nat) (num : Int32) : Prop := (op = 16 → ∃ e s, r = e :: s ∧ d < 250000 ∧ Nx c (pc + 1) u 0 ((250000 + d) :: r) rk) ∧ (op = 17 → ∃ v d0 r1, (num = nI v ∧ v < 41 ∧ tcK c v) ∧ (d = tcP c v ∧ r = (250000 + d0) :: r1 ∧ d0 < 250000) ∧ tcF c u ≤ bt d0 r1 ∧ (tcP c v ≤ tcF c v ∧ tcF c v ≤ 1000) ∧ uN (tcC c (pc + 1) >>> ((8 : Int32) &&& 31)) ≤ 180 ∧ (∀ (K : Nat → Option Int32) (pb : Nat), PaM K pb 180 r1 → PaM K pb (uN (tcC c (pc + 1) >>> ((8 : Int32) &&& 31))) r1) ∧ NxR c (pc + 2) u (d0 + 1) r1 ∧ NxR c (tcE c v) v 0 ((bsl + tcF c v) :: Vl (tcF c v))) ∧ (op = 18 → 1 ≤ d ∧ tcK c u) ∧ (op = 19 → ∃ v ws ms, (num = nI v ∧ (1 ≤ v ∧ v < 41) ∧ tcS c v) ∧ (∀ i, i ∈ ms → i < bsl) ∧ (r = 250000 :: (bsl + ws) :: ms ∧ d = tcP c v) ∧ tcS c u ∧ ws ≤ 200 ∧ tcF c u ≤ ws ∧ (tcP c v ≤ tcF c v ∧ tcF c v ≤ 1000) ∧ ∃ rb, tcD c (pc + 1) = some (u, 0 + 1 + tcP c v, ((bsl + ws) :: ms), rb) ∧ rb ≤ RK ∧ ∃ rk', tcD c (tcE c v) = some (v, 0, (bsl + tcF c v) :: Vl (tcF c v), rk') ∧ rk' + rb < rk) ∧ (op = 20 → 1 ≤ d ∧ tcS c u ∧ ¬ u = 0 ∧ 1 ≤ rk ∧ ∀ i, i < tcP c u → i < 500000 ∧ HasM (500000 + i) r) ∧ (op = 21 → ∃ ws ms, (∀ i, i ∈ ms → i < bsl) ∧ d = 0 ∧ r = (bsl + ws) :: ms ∧ tcS c u ∧ u < 41 ∧ ws ≤ 200 ∧ Nx c (pc + 1) u 1 r rk ∧ NxR c (pc + 1) u 1 r) ∧ (op = 22 → tcS c u ∧ 72 * (RK + 1) ≤ rk) ∧ (op = 23 ∨ 25 ≤ op → tcS c u ∧ Nx c (pc + 1) u d r rk) ∧ (op = 24 → ∃ d', d = d' + 1 ∧ Nx c (pc + 1) u d' r rk)
theorem c_calls (p : Pre c g l t K K2 K3 K4 B KB f0 u0 σ fs u d r pb nf nc sq) {pc op : Nat} (h16 : 16 ≤ op) (ho : op < 256) (h1 : L.1 1 = nI op) (hp : pc + 1 ≤ tcN c) (hp17 : op = 17 → pc + 1 < tcN c) (hN : tcN c ≤ 36864) (hpc : σ.1 1900 = nI (pc + 1)) (hu : ¬ tcK c u0) (hz : tcS c u0 → f0 = 0 ∧ u0 = 0) (ok : Ok7 c pc u d r rk op (L.1 2)) : Tm (fun k => f_X3_callsAndPoints k 0 L σ) (IO c B KB f0 u0 σ (mu σ (qv nf sq rk))) := by
  have mi := p.1
  obtain ⟨st1, st2, st3⟩ := mi.2.1.1
  have ts := TyS_sp p.2.1
  have hx : uN (σ.1 1900) = pc + 1 := by rw [hpc, u_n (by omega)]
  have hp2 : pc + 1 < 36865 := by omega
  have o25 : ¬ op = 16 → ¬ op = 17 → ¬ op = 18 → ¬ op = 19 → ¬ op = 20 → ¬ op = 21 → ¬ op = 22 → ¬ op = 23 → ¬ op = 24 → 25 ≤ op := by omega
  have s1 : 1 ≤ d → 1 ≤ uN (σ.1 1902) := fun k => by omega
  obtain ⟨o16, o17, o18, o19, o20, o21, o22, o23, o24⟩ := ok
  have b9 : ∀ (σ' : CS) (L' : LV) (Q : RS → Prop), Q ((0, 0), σ', (0, 0)) → Tm (fun k => f_X3_callsAndPoints k 9 L' σ') Q := by
    intro σ' L' Q h
    refine Tm_suc (fun k => by rw [f_X3_callsAndPoints]) ?_
    exact Tm_some h
  have b11 : ∀ L' : LV, tcS c u → (L'.1 100 = 0 → Nx c (pc + 1) u d r rk) → (¬ L'.1 100 = 0 → 72 * (RK + 1) ≤ rk) → Tm (fun k => f_X3_callsAndPoints k 11 L' σ) (IO c B KB f0 u0 σ (mu σ (qv nf sq rk))) := by
    intro L' cs n0 n1
    refine Tm_suc (fun k => by rw [f_X3_callsAndPoints]) ?_
    exact Tm_oxc (c_leavePoint p cs (hz (FC_S _ _ _ _ _ _ _ p.2.1.2.1 cs)) hpc hp2 n0 n1) (fun q z => z.1) (fun q z => b9 _ _ _ z.2)
  refine Tm_suc (fun k => by rw [f_X3_callsAndPoints]) ?_
  rw [h1]
  refine Tm_ite (fun q => ?_) (fun q0 => Tm_ite (fun q => ?_) (fun q1 => Tm_ite (fun q => ?_) (fun q2 => Tm_ite (fun q => ?_) (fun q3 => Tm_ite (fun q => ?_) (fun q4 => Tm_ite (fun q => ?_) (fun q5 => Tm_ite (fun q => ?_) (fun q6 => Tm_ite (fun q => ?_) (fun q7 => Tm_ite (fun q => ?_) (fun q8 => ?_)))))))))
  · obtain ⟨e, s, k1, k2, k3⟩ := o16 ((op_n ho (by decide)).1 q)
    have p0 : Pre c g l t K K2 K3 K4 B KB f0 u0 σ fs u d (e :: s) pb nf nc sq := by rw [← k1]; exact p
    refine Tm_suc (fun k => by rw [f_X3_callsAndPoints]) ?_
    refine Tm_oxc (c_pushAll st1 st2 (by show uN (4 : Int32) ≤ _; decide)) (fun q z => by rw [z.1]) (fun q z => b9 _ _ _ ?_)
    exact fr_fin p0 k2 z (by rw [hx, ← k1]; exact k3)
  · obtain ⟨v, d0, r1, ⟨k1, k2, k3⟩, k4, k5, k6, k7, k8, k9, k10⟩ := o17 ((op_n ho (by decide)).1 q)
    refine Tm_suc (fun k => by rw [f_X3_callsAndPoints]) ?_
    exact Tm_oxc (c_callFunc p hpc (hp17 ((op_n ho (by decide)).1 q)) hN k1 k2 k3 k4 k5 k6 k7 k8 k9 k10) (fun q z => z.1) (fun q z => b9 _ _ _ z.2)
  · obtain ⟨k1, k2⟩ := o18 ((op_n ho (by decide)).1 q)
    refine Tm_suc (fun k => by rw [f_X3_callsAndPoints]) ?_
    exact Tm_oxc (c_endFunc p k1 k2 hu (qv nf sq rk)) (fun q z => z.1) (fun q z => b9 _ _ _ z.2)
  · obtain ⟨v, ws, ms, ⟨k1, k2, k3⟩, k4, ⟨k5, k6⟩, k7, k8, k9, k10, k11⟩ := o19 ((op_n ho (by decide)).1 q)
    have p0 : Pre c g l t K K2 K3 K4 B KB f0 u0 σ fs u d (250000 :: (bsl + ws) :: ms) pb nf nc sq := by rw [← k5]; exact p
    refine Tm_suc (fun k => by rw [f_X3_callsAndPoints]) ?_
    exact Tm_oxc (c_callProc k4 p0 k7 hpc hp2 k1 k2 k3 k6 k8 k9 k10 k11) (fun q z => z.1) (fun q z => b9 _ _ _ z.2)
  · obtain ⟨k1, k2, k3, k4, k5⟩ := o20 ((op_n ho (by decide)).1 q)
    have e0 := (hz (FC_S _ _ _ _ _ _ _ p.2.1.2.1 k2)).2
    refine Tm_suc (fun k => by rw [f_X3_callsAndPoints]) ?_
    exact Tm_op (c_endProc p k1 k2 (by rw [e0]; exact k3) k4 k5) (fun q z => b9 _ _ _ z)
  · obtain ⟨ws, ms, k1, k2, k3, k4, k5, k6, k7, k8⟩ := o21 ((op_n ho (by decide)).1 q)
    have p0 : Pre c g l t K K2 K3 K4 B KB f0 u0 σ fs u 0 ((bsl + ws) :: ms) pb nf nc sq := by rw [← k3, ← k2]; exact p
    rw [k3] at k7 k8
    refine Tm_suc (fun k => by rw [f_X3_callsAndPoints]) ?_
    exact Tm_oxc (c_makePoint k1 p0 k4 (hz (FC_S _ _ _ _ _ _ _ p.2.1.2.1 k4)) k5 k6 hpc hp2 k7 k8) (fun q z => z.1) (fun q z => b9 _ _ _ z.2)
  · obtain ⟨k1, k2⟩ := o22 ((op_n ho (by decide)).1 q)
    refine Tm_suc (fun k => by rw [f_X3_callsAndPoints]) ?_
    refine Tm_yes (by rw [h1]; exact q) ?_
    exact b11 _ k1 (fun z => absurd z (by show ¬ (1 : Int32) = 0; decide)) (fun _ => k2)
  · obtain ⟨k1, k2⟩ := o23 (Or.inl ((op_n ho (by decide)).1 q))
    refine Tm_suc (fun k => by rw [f_X3_callsAndPoints]) ?_
    refine Tm_no (by rw [h1]; exact q6) ?_
    refine Tm_suc (fun k => by rw [f_X3_callsAndPoints]) ?_
    exact b11 _ k1 (fun _ => k2) (fun z => absurd rfl z)
  · obtain ⟨d', k1, k2⟩ := o24 ((op_n ho (by decide)).1 q)
    obtain ⟨pd, es⟩ := Pre_dr (x := 1) (d' := d') (n := 1) p k1 rfl k2.choose_spec.2.2
    refine Tm_suc (fun k => by rw [f_X3_callsAndPoints]) ?_
    refine Tm_op (c_pop (s1 (by rw [k1]; exact Nat.succ_pos _)) st1 st2.2) (fun q z => ?_)
    rw [z.1]
    refine Tm_op c_wantTruth (fun q2 z2 => ?_)
    rcases z2 with ⟨w1, w2, _⟩ | ⟨w1, w2⟩
    · refine Tm_no (by rw [w1]; decide) ?_
      rw [w2]
      refine Tm_ite (fun _ => ?_) (fun _ => ?_)
      · refine Tm_op c_fail (fun q3 e3 => ?_)
        rw [e3]
        exact b9 _ _ _ (IO_b (Md_i σ (by decide) _) rfl (fa_fin pd (by decide)))
      · have z := fl_fin (σ' := uI σ 1902 (σ.1 1902 - 1)) (rk := rk) pd rfl (fun _ _ => rfl) (by
          show Nx c (uN (σ.1 1900)) u d' r rk
          rw [hx]; exact k2)
        exact b9 _ _ _ (IO_b (Md_i σ (by decide) _) rfl z)
    · refine Tm_yes w1 ?_
      rw [w2]
      exact b9 _ _ _ (IO_b (Md_i σ (by decide) _) rfl (fa_fin pd (by decide)))
  · have oo : ∀ n, n < 256 → ¬ nI op = nI n → ¬ op = n := fun n hn z e => z (by rw [e])
    obtain ⟨k1, k2⟩ := o23 (Or.inr (o25 (oo 16 (by decide) q0) (oo 17 (by decide) q1) (oo 18 (by decide) q2) (oo 19 (by decide) q3) (oo 20 (by decide) q4) (oo 21 (by decide) q5) (oo 22 (by decide) q6) (oo 23 (by decide) q7) (oo 24 (by decide) q8)))
    refine Tm_suc (fun k => by rw [f_X3_callsAndPoints]) ?_
    refine Tm_no (by rw [h1]; exact q6) ?_
    refine Tm_suc (fun k => by rw [f_X3_callsAndPoints]) ?_
    exact b11 _ k1 (fun _ => k2) (fun z => absurd rfl z)
end CTZ
end JnS415
section JnS416
/-! The class: saved runs are stored. -/
section CUA
variable {g g' g2 : Nat → Prop} {l l' l2 : List Nat} {t t' t2 : Nat} {σ σ' σ2 τ τ' : CS} {L : LV} {x y z i : Int32} {M M' U U' : Nat → Int32} {K K' K0 K2 K2' K3 K3' K4 K4' KB : Nat → Option Int32} {c : Ct} {B f0 u0 a T : Nat} {fs : List FrT} {u d : Nat} {r r' : List Nat} {pb nf nc sq rk : Nat}
/-- what saving leaves alone -/
def SvF (σ τ : CS) : Prop := (∀ j, ¬ ((2400 ≤ j ∧ j < 2410) ∨ (2800 ≤ j ∧ j < 3700)) → τ.1 j = σ.1 j) ∧ (∀ j, ¬ (2800 ≤ j ∧ j < 3700) → τ.2.1 j = σ.2.1 j) ∧ (∀ k, ¬ (k = 26 ∨ k = 27) → τ.2.2.1 k = σ.2.2.1 k) ∧ (∀ k, ¬ k = 26 → sN τ k = sN σ k) ∧ τ.2.2.2.1 = σ.2.2.2.1 ∧ τ.2.2.2.2.2.1 = σ.2.2.2.2.2.1
theorem SvF_r (σ : CS) : SvF σ σ := ⟨fun _ _ => rfl, fun _ _ => rfl, fun _ _ => rfl, fun _ _ => rfl, rfl, rfl⟩
theorem SvF_t (a : SvF σ σ') (b : SvF σ' σ2) : SvF σ σ2 := ⟨fun j hj => (b.1 j hj).trans (a.1 j hj), fun j hj => (b.2.1 j hj).trans (a.2.1 j hj), fun k hk => (b.2.2.1 k hk).trans (a.2.2.1 k hk), fun k hk => (b.2.2.2.1 k hk).trans (a.2.2.2.1 k hk), b.2.2.2.2.1.trans a.2.2.2.2.1, b.2.2.2.2.2.trans a.2.2.2.2.2⟩
theorem SvF_i (σ : CS) {j : Nat} (hj : 2400 ≤ j ∧ j < 2410) (x : Int32) : SvF σ (uI σ j x) := ⟨fun i hi => upd_other (by omega), fun _ _ => rfl, fun _ _ => rfl, fun _ _ => rfl, rfl, rfl⟩
theorem SvF_p (σ : CS) (i r : Nat) : SvF σ (uPi σ i r) := ⟨fun _ _ => rfl, fun _ _ => rfl, fun _ _ => rfl, fun _ _ => rfl, rfl, rfl⟩
theorem SvF_F (σ : CS) {k : Nat} (hk : k = 26 ∨ k = 27) (f : Nat → Int32) : SvF σ (uF σ k f) := ⟨fun _ _ => rfl, fun _ _ => rfl, fun i hi => updG_other (by omega), fun _ _ => rfl, rfl, rfl⟩
theorem SvF_Z (σ : CS) (n : Nat) : SvF σ (uZ σ 26 n) := ⟨fun _ _ => rfl, fun _ _ => rfl, fun i hi => updG_other (by omega), fun i hi => if_neg hi, rfl, rfl⟩
theorem SvF_M (a : SvF σ τ) : MFr σ τ := ⟨fun j hj => a.1 j (by omega), fun j hj => a.2.1 j (by omega), fun k hk => by
  unfold rwM at hk
  exact ⟨a.2.2.1 k (by omega), a.2.2.2.1 k (by omega)⟩, a.2.2.2.2.1, a.2.2.2.2.2⟩
theorem uF_s (σ : CS) (k : Nat) (f : Nat → Int32) : (uF σ k f).2.2.1 k = f := updG_same
/-- so many fields of a run were copied -/
def Cpy (σ : CS) (p n : Nat) (τ : CS) : Prop := (∀ j, ¬ (100 * (28 + p) ≤ j ∧ j < 100 * (28 + p) + 16) → τ.1 j = σ.1 j) ∧ (∀ i, i < n → τ.1 (100 * (28 + p) + i) = σ.1 (1900 + i)) ∧ τ.2 = σ.2
theorem Cpy_1 {p n : Nat} (hn : n < 16) (h : Cpy σ p n τ) (hv : x = τ.1 (1900 + n)) : Cpy σ p (n + 1) (uI τ (100 * (28 + p) + n) x) := by
  refine ⟨fun j hj => ?_, fun i hi => ?_, h.2.2⟩
  · show upd τ.1 (100 * (28 + p) + n) x j = _
    rw [upd_other (by omega)]
    exact h.1 j hj
  · show upd τ.1 (100 * (28 + p) + n) x (100 * (28 + p) + i) = _
    by_cases e : i = n
    · rw [e, upd_same, hv]
      exact h.1 _ (by omega)
    · rw [upd_other (by omega)]
      exact h.2.1 i (by omega)
theorem c_copyTo {p : Nat} (hp : p < 9) (h0 : L.2.2.2 0 = p) : Tm (fun k => y_X8_copyFrom__R__a19 k 0 L σ) (fun q => (∀ j, ¬ (100 * (28 + p) ≤ j ∧ j < 100 * (28 + p) + 16) → q.2.1 j = σ.1 j) ∧ (∀ i, i < 16 → q.2.1 (100 * (28 + p) + i) = σ.1 (1900 + i)) ∧ ∃ v, q.2.2 = (uL σ (100 * (28 + p) + 16) v).2) := by
  have b5 : ∀ τ, Cpy σ p 15 τ → Tm (fun k => y_X8_copyFrom__R__a19 k 5 L τ) (fun q => (∀ j, ¬ (100 * (28 + p) ≤ j ∧ j < 100 * (28 + p) + 16) → q.2.1 j = σ.1 j) ∧ (∀ i, i < 16 → q.2.1 (100 * (28 + p) + i) = σ.1 (1900 + i)) ∧ ∃ v, q.2.2 = (uL σ (100 * (28 + p) + 16) v).2) := by
    intro τ h
    refine Tm_suc (fun k => by rw [y_X8_copyFrom__R__a19]) ?_
    rw [h0]
    refine Tm_chk hp (Tm_chk hp ?_)
    have z := Cpy_1 (by decide) h rfl
    refine Tm_some ⟨z.1, z.2.1, σ.2.1 1916, ?_⟩
    show (updW τ.2.1 (100 * (28 + p) + 16) (τ.2.1 1916), τ.2.2) = (updW σ.2.1 (100 * (28 + p) + 16) (σ.2.1 1916), σ.2.2)
    rw [h.2.2]
  have b4 : ∀ τ, Cpy σ p 12 τ → Tm (fun k => y_X8_copyFrom__R__a19 k 4 L τ) (fun q => (∀ j, ¬ (100 * (28 + p) ≤ j ∧ j < 100 * (28 + p) + 16) → q.2.1 j = σ.1 j) ∧ (∀ i, i < 16 → q.2.1 (100 * (28 + p) + i) = σ.1 (1900 + i)) ∧ ∃ v, q.2.2 = (uL σ (100 * (28 + p) + 16) v).2) := by
    intro τ h
    refine Tm_suc (fun k => by rw [y_X8_copyFrom__R__a19]) ?_
    rw [h0]
    refine Tm_chk hp (Tm_chk hp (Tm_chk hp ?_))
    exact b5 _ (Cpy_1 (n := 14) (by decide) (Cpy_1 (n := 13) (by decide) (Cpy_1 (n := 12) (by decide) h rfl) rfl) rfl)
  have b3 : ∀ τ, Cpy σ p 9 τ → Tm (fun k => y_X8_copyFrom__R__a19 k 3 L τ) (fun q => (∀ j, ¬ (100 * (28 + p) ≤ j ∧ j < 100 * (28 + p) + 16) → q.2.1 j = σ.1 j) ∧ (∀ i, i < 16 → q.2.1 (100 * (28 + p) + i) = σ.1 (1900 + i)) ∧ ∃ v, q.2.2 = (uL σ (100 * (28 + p) + 16) v).2) := by
    intro τ h
    refine Tm_suc (fun k => by rw [y_X8_copyFrom__R__a19]) ?_
    rw [h0]
    refine Tm_chk hp (Tm_chk hp (Tm_chk hp ?_))
    exact b4 _ (Cpy_1 (n := 11) (by decide) (Cpy_1 (n := 10) (by decide) (Cpy_1 (n := 9) (by decide) h rfl) rfl) rfl)
  have b2 : ∀ τ, Cpy σ p 6 τ → Tm (fun k => y_X8_copyFrom__R__a19 k 2 L τ) (fun q => (∀ j, ¬ (100 * (28 + p) ≤ j ∧ j < 100 * (28 + p) + 16) → q.2.1 j = σ.1 j) ∧ (∀ i, i < 16 → q.2.1 (100 * (28 + p) + i) = σ.1 (1900 + i)) ∧ ∃ v, q.2.2 = (uL σ (100 * (28 + p) + 16) v).2) := by
    intro τ h
    refine Tm_suc (fun k => by rw [y_X8_copyFrom__R__a19]) ?_
    rw [h0]
    refine Tm_chk hp (Tm_chk hp (Tm_chk hp ?_))
    exact b3 _ (Cpy_1 (n := 8) (by decide) (Cpy_1 (n := 7) (by decide) (Cpy_1 (n := 6) (by decide) h rfl) rfl) rfl)
  have b1 : ∀ τ, Cpy σ p 3 τ → Tm (fun k => y_X8_copyFrom__R__a19 k 1 L τ) (fun q => (∀ j, ¬ (100 * (28 + p) ≤ j ∧ j < 100 * (28 + p) + 16) → q.2.1 j = σ.1 j) ∧ (∀ i, i < 16 → q.2.1 (100 * (28 + p) + i) = σ.1 (1900 + i)) ∧ ∃ v, q.2.2 = (uL σ (100 * (28 + p) + 16) v).2) := by
    intro τ h
    refine Tm_suc (fun k => by rw [y_X8_copyFrom__R__a19]) ?_
    rw [h0]
    refine Tm_chk hp (Tm_chk hp (Tm_chk hp ?_))
    exact b2 _ (Cpy_1 (n := 5) (by decide) (Cpy_1 (n := 4) (by decide) (Cpy_1 (n := 3) (by decide) h rfl) rfl) rfl)
  have h : Cpy σ p 0 σ := ⟨fun _ _ => rfl, fun i hi => absurd hi (Nat.not_lt_zero i), rfl⟩
  refine Tm_suc (fun k => by rw [y_X8_copyFrom__R__a19]) ?_
  rw [h0]
  refine Tm_chk hp (Tm_chk hp (Tm_chk hp ?_))
  exact b1 _ (Cpy_1 (n := 2) (by decide) (Cpy_1 (n := 1) (by decide) (Cpy_1 (n := 0) (by decide) h rfl) rfl) rfl)
/-- a run was stored -/
def StO (σ : CS) (a : Nat) (q : RS) : Prop := q.1 = (0, 0) ∧ CoP σ q ∧ SvF σ q.2.1 ∧ (∀ j, 2400 ≤ j → j < 2410 → q.2.1.1 j = σ.1 j) ∧ (∀ i, sPi q.2.1 i = sPi σ i) ∧ q.2.1.2.2.1 27 = upd (σ.2.2.1 27) a (σ.1 2403) ∧ (∀ p j, p < 9 → ¬ p = sPi σ a → j < 100 → q.2.1.1 (100 * (28 + p) + j) = σ.1 (100 * (28 + p) + j)) ∧ (∀ j, j < 16 → q.2.1.1 (100 * (28 + sPi σ a) + j) = σ.1 (1900 + j)) ∧ (uN (σ.1 2403) + uN (σ.1 1902) + uN (σ.1 1913) ≤ sN q.2.1 26 ∧ sN q.2.1 26 ≤ 20000) ∧ (∀ j, j < uN (σ.1 2403) → q.2.1.2.2.1 26 j = σ.2.2.1 26 j) ∧ (∀ j, j < uN (σ.1 1902) → q.2.1.2.2.1 26 (uN (σ.1 2403) + j) = σ.2.2.1 20 j) ∧ (∀ j, j < uN (σ.1 1913) → q.2.1.2.2.1 26 (uN (σ.1 2403) + uN (σ.1 1902) + j) = σ.2.2.1 21 j)
theorem c_store (hF : uN (σ.1 2403) ≤ sN σ 26) (h26 : sN σ 26 ≤ 20000) (h20 : uN (σ.1 1902) ≤ sN σ 20) (n20 : sN σ 20 ≤ 91000) (h21 : uN (σ.1 1913) ≤ sN σ 21) (n21 : sN σ 21 ≤ 44200) (hs : uN (σ.1 2403) + uN (σ.1 1902) + uN (σ.1 1913) ≤ 20000) (ha : a < 9) (h1 : uN (L.1 1) = a) (pa : sPi σ a < 9) : Tm (fun k => f_X9_store__a19__z20__z21 k 0 L σ) (StO σ a) := by
  have ca : (L.1 1).toNatClampNeg = a := by rw [u_cl (by omega)]; exact h1
  have ia : ¬ (L.1 1 < 0 ∨ 9 ≤ (L.1 1).toNatClampNeg) := u_in (by omega) (by decide)
  have e0 : (0 : Int32).toNatClampNeg = 0 := rfl
  have e2 : (20000 : Int32).toNatClampNeg = 20000 := rfl
  have eF : uN (σ.1 2403 + σ.1 1902) = uN (σ.1 2403) + uN (σ.1 1902) := u_add (by omega)
  have eS : uN (σ.1 2403 + σ.1 1902 + σ.1 1913) = uN (σ.1 2403) + uN (σ.1 1902) + uN (σ.1 1913) := by rw [u_add (by omega), eF]
  have b1 : ∀ (τ : CS) (n1 n2 : Nat), SvF σ τ → τ.1 = σ.1 → τ.2.1 = σ.2.1 → (∀ i, sPi τ i = sPi σ i) → τ.2.2.1 27 = σ.2.2.1 27 → (∀ j, j < uN (σ.1 2403) → τ.2.2.1 26 j = σ.2.2.1 26 j) → uN (σ.1 2403) + uN (σ.1 1902) + uN (σ.1 1913) ≤ sN τ 26 → sN τ 26 ≤ 20000 → n1 + PhC τ ≤ PhC σ → n2 + PhS τ ≤ PhS σ → Tm (fun k => f_X9_store__a19__z20__z21 k 1 L τ) (fun q => StO σ a (q.1, q.2.1, (n1 + q.2.2.1, n2 + q.2.2.2))) := by
    intro τ n1 n2 sf t1 t2 tp t27 t26 tl tl2 k1 k2
    have tn20 : sN τ 20 = sN σ 20 := sf.2.2.2.1 20 (by decide)
    have tn21 : sN τ 21 = sN σ 21 := sf.2.2.2.1 21 (by decide)
    refine Tm_suc (fun k => by rw [f_X9_store__a19__z20__z21]) ?_
    rw [ca]
    rw [ca] at ia
    refine Tm_chk ia ?_
    refine Tm_suc (fun k => by rw [f_X9_store__a19__z20__z21]) ?_
    rw [ca]
    refine Tm_chk ia ?_
    have pa' : sPi (uA τ 27 a (τ.1 2403)) a < 9 := by
      show sPi τ a < 9
      rw [tp]; exact pa
    refine Tm_chk pa' ?_
    refine Tm_op (c_copyTo (p := sPi σ a) pa (by show sPi τ a = _; exact tp a)) (fun q z => ?_)
    obtain ⟨z1, z2, v, z3⟩ := z
    generalize hq : q.2 = ρ at *
    have z1' : ∀ j, ¬ (100 * (28 + sPi σ a) ≤ j ∧ j < 100 * (28 + sPi σ a) + 16) → ρ.1 j = σ.1 j := fun j hj => by rw [z1 j hj]; show τ.1 j = _; rw [t1]
    have z2' : ∀ i, i < 16 → ρ.1 (100 * (28 + sPi σ a) + i) = σ.1 (1900 + i) := fun i hi => by rw [z2 i hi]; show τ.1 _ = _; rw [t1]
    have r26 : ρ.2.2.1 26 = τ.2.2.1 26 := by rw [z3]; rfl
    have r20 : ρ.2.2.1 20 = σ.2.2.1 20 := by rw [z3]; exact sf.2.2.1 20 (by decide)
    have r21 : ρ.2.2.1 21 = σ.2.2.1 21 := by rw [z3]; exact sf.2.2.1 21 (by decide)
    have r27 : ρ.2.2.1 27 = upd (σ.2.2.1 27) a (σ.1 2403) := by
      rw [z3]
      show updG τ.2.2.1 27 (upd (τ.2.2.1 27) a (τ.1 2403)) 27 = _
      rw [updG_same, t27, t1]
    have rn : ∀ k, sN ρ k = sN τ k := fun k => by show ρ.2.2.2.2.1 k = _; rw [z3]; rfl
    have q3 := z1' 2403 (by omega)
    have q02 := z1' 1902 (by omega)
    have q13 := z1' 1913 (by omega)
    have cF : (σ.1 2403).toNatClampNeg = uN (σ.1 2403) := u_cl (by omega)
    have cS : (σ.1 1902).toNatClampNeg = uN (σ.1 1902) := u_cl (by omega)
    have cT : (σ.1 1913).toNatClampNeg = uN (σ.1 1913) := u_cl (by omega)
    have cFS : (σ.1 2403 + σ.1 1902).toNatClampNeg = uN (σ.1 2403) + uN (σ.1 1902) := by rw [u_cl (by omega)]; exact eF
    rw [q3, q02, e0, cF, cS, rn 20, rn 26, tn20]
    refine Tm_chk ⟨by decide, by rw [u_neg]; omega, by rw [u_neg]; omega, by omega, by omega⟩ ?_
    generalize hR : uF ρ 26 (va_cpy (ρ.2.2.1 20) (ρ.2.2.1 26) 0 (uN (σ.1 2403)) (uN (σ.1 1902))) = ω
    have w1 : ω.1 = ρ.1 := by rw [← hR]; rfl
    have wn : ∀ k, sN ω k = sN ρ k := fun k => by rw [← hR]; rfl
    have w21 : ω.2.2.1 21 = σ.2.2.1 21 := by rw [← hR]; exact r21
    have w26 : ω.2.2.1 26 = va_cpy (σ.2.2.1 20) (τ.2.2.1 26) 0 (uN (σ.1 2403)) (uN (σ.1 1902)) := by rw [← hR, r20, r26]; exact uF_s _ _ _
    refine Tm_suc (fun k => by rw [f_X9_store__a19__z20__z21]) ?_
    rw [w1, q3, q02, q13, e0, cT, cFS, wn 21, wn 26, rn 21, rn 26, tn21]
    refine Tm_chk ⟨by decide, by rw [u_neg]; omega, by rw [u_neg]; omega, by omega, by omega⟩ ?_
    refine Tm_suc (fun k => by rw [f_X9_store__a19__z20__z21]) ?_
    refine Tm_some ?_
    have f27 : SvF τ ρ := by
      refine ⟨fun j hj => ?_, fun j hj => ?_, fun k hk => ?_, fun k _ => rn k, ?_, ?_⟩
      · rw [z1' j (by omega), t1]
      · rw [z3]
        show updW τ.2.1 (100 * (28 + sPi σ a) + 16) v j = _
        exact updW_other (by omega)
      · rw [z3]
        exact updG_other (by omega)
      · rw [z3]; rfl
      · rw [z3]; rfl
    have sfw : SvF σ ω := SvF_t sf (SvF_t f27 (by rw [← hR]; exact SvF_F ρ (Or.inl rfl) _))
    have ph1 := Ph_s (σ := τ) (σ' := uF ω 26 (va_cpy (ω.2.2.1 21) (ω.2.2.1 26) 0 (uN (σ.1 2403) + uN (σ.1 1902)) (uN (σ.1 1913)))) (by show ω.2.2.2.2.1 = _; rw [← hR]; show ρ.2.2.2.2.1 = _; rw [z3]; rfl)
    have g26 : (uF ω 26 (va_cpy (ω.2.2.1 21) (ω.2.2.1 26) 0 (uN (σ.1 2403) + uN (σ.1 1902)) (uN (σ.1 1913)))).2.2.1 26 = va_cpy (σ.2.2.1 21) (va_cpy (σ.2.2.1 20) (τ.2.2.1 26) 0 (uN (σ.1 2403)) (uN (σ.1 1902))) 0 (uN (σ.1 2403) + uN (σ.1 1902)) (uN (σ.1 1913)) := by
      rw [w21, w26]; exact uF_s _ _ _
    refine ⟨rfl, ⟨by show n1 + 0 + PhC (uF ω 26 _) ≤ _; omega, by show n2 + 0 + PhS (uF ω 26 _) ≤ _; omega⟩, SvF_t sfw (SvF_F ω (Or.inl rfl) _), fun j h1 h2 => ?_, fun i => ?_, ?_, fun p j hp hn hj => ?_, fun j hj => ?_, ⟨?_, ?_⟩, fun j hj => ?_, fun j hj => ?_, fun j hj => ?_⟩
    · show ω.1 j = _
      rw [w1]; exact z1' j (by omega)
    · show sPi ω i = _
      rw [← hR]
      show ρ.2.2.2.2.2.2 i = _
      rw [z3]; exact tp i
    · show ω.2.2.1 27 = _
      rw [← hR]
      exact r27
    · show ω.1 _ = _
      rw [w1]; exact z1' _ (by omega)
    · show ω.1 _ = _
      rw [w1]; exact z2' j hj
    · show _ ≤ sN ω 26
      rw [wn, rn]; exact tl
    · show sN ω 26 ≤ _
      rw [wn, rn]; exact tl2
    · show (uF ω 26 _).2.2.1 26 j = _
      rw [g26]
      unfold va_cpy
      rw [if_neg (by omega), if_neg (by omega)]
      exact t26 j hj
    · show (uF ω 26 _).2.2.1 26 _ = _
      rw [g26]
      unfold va_cpy
      rw [if_neg (by omega), if_pos (by omega), show 0 + (uN (σ.1 2403) + j - uN (σ.1 2403)) = j by omega]
    · show (uF ω 26 _).2.2.1 26 _ = _
      rw [g26]
      unfold va_cpy
      rw [if_pos (by omega), show 0 + (uN (σ.1 2403) + uN (σ.1 1902) + j - (uN (σ.1 2403) + uN (σ.1 1902))) = j by omega]
  refine Tm_suc (fun k => by rw [f_X9_store__a19__z20__z21]) ?_
  refine Tm_chk ⟨by decide, by decide, by omega⟩ ?_
  rw [e2]
  refine Tm_ite (fun cw => ?_) (fun cw => ?_)
  · refine Tm_adR ?_
    have z := Ph_z26 cw.2
    refine Tm_mono (b1 (uZ σ 26 20000) 1 20000 (SvF_Z σ _) rfl rfl (fun _ => rfl) ?_ (fun j hj => ?_) ?_ ?_ (by omega) (by omega)) (fun q z => z)
    · rfl
    · show updG σ.2.2.1 26 (fun i => if i < sN σ 26 then σ.2.2.1 26 i else 0) 26 j = _
      rw [updG_same]
      show (if j < sN σ 26 then σ.2.2.1 26 j else 0) = _
      rw [if_pos (by omega)]
    · show _ ≤ updN (sN σ) 26 20000 26
      unfold updN
      rw [if_pos rfl]; exact hs
    · show updN (sN σ) 26 20000 26 ≤ _
      unfold updN
      rw [if_pos rfl]; exact Nat.le_refl _
  · have sz : uN (σ.1 2403) + uN (σ.1 1902) + uN (σ.1 1913) ≤ sN σ 26 := by
      rcases Nat.lt_or_ge (sN σ 26) (uN (σ.1 2403) + uN (σ.1 1902) + uN (σ.1 1913)) with y | y
      · exfalso
        apply cw
        refine ⟨?_, ?_⟩
        · rw [u_ltn (by rw [u_n (by omega)]; omega) (by omega), eS, u_n (by omega)]; exact y
        · show sN σ 26 < 20000
          omega
      · exact y
    refine Tm_mono (b1 σ 0 0 (SvF_r σ) rfl rfl (fun _ => rfl) rfl (fun _ _ => rfl) sz h26 (by omega) (by omega)) (fun q z => ?_)
    obtain ⟨z1, z2, z3⟩ := z
    refine ⟨z1, ?_, z3⟩
    have z21 : 0 + q.2.2.1 + PhC q.2.1 ≤ PhC σ := z2.1
    have z22 : 0 + q.2.2.2 + PhS q.2.1 ≤ PhS σ := z2.2
    exact ⟨by omega, by omega⟩
theorem c_isRoomS (h4 : uN (σ.1 2404) ≤ 8) (h3 : uN (σ.1 2403) ≤ 20000) (h20 : uN (σ.1 1902) ≤ 91000) (h21 : uN (σ.1 1913) ≤ 44200) (hp : ∀ i, i < 9 → sPi σ i < 9) : Tm (fun k => y_X9_isRoomFor__a19 k 0 L σ) (fun q => q.2 = σ ∧ (q.1 = 0 ∨ (q.1 = 1 ∧ uN (σ.1 2403) + uN (σ.1 1902) + uN (σ.1 1913) ≤ 20000))) := by
  have eF : uN (σ.1 2403 + σ.1 1902) = uN (σ.1 2403) + uN (σ.1 1902) := u_add (by omega)
  have eS : uN (σ.1 2403 + σ.1 1902 + σ.1 1913) = uN (σ.1 2403) + uN (σ.1 1902) + uN (σ.1 1913) := by rw [u_add (by omega), eF]
  have e2 : uN (20000 : Int32) = 20000 := rfl
  have b3 : ∀ L' : LV, Tm (fun k => y_X9_isRoomFor__a19 k 3 L' σ) (fun q => q.2 = σ ∧ (q.1 = 0 ∨ (q.1 = 1 ∧ uN (σ.1 2403) + uN (σ.1 1902) + uN (σ.1 1913) ≤ 20000))) := by
    intro L'
    refine Tm_suc (fun k => by rw [y_X9_isRoomFor__a19]) ?_
    refine Tm_suc (fun k => by rw [y_X9_isRoomFor__a19]) ?_
    refine Tm_chk (Or.inl rfl) ?_
    exact Tm_some ⟨rfl, Or.inl rfl⟩
  have b2 : ∀ L' : LV, Tm (fun k => y_X9_isRoomFor__a19 k 2 L' σ) (fun q => q.2 = σ ∧ (q.1 = 0 ∨ (q.1 = 1 ∧ uN (σ.1 2403) + uN (σ.1 1902) + uN (σ.1 1913) ≤ 20000))) := by
    intro L'
    refine Tm_suc (fun k => by rw [y_X9_isRoomFor__a19]) ?_
    refine Tm_ite (fun _ => b3 _) (fun c1 => Tm_ite (fun _ => b3 _) (fun _ => ?_))
    rw [u_ltn (by omega) (by omega), eS, e2] at c1
    refine Tm_suc (fun k => by rw [y_X9_isRoomFor__a19]) ?_
    refine Tm_chk (Or.inr rfl) ?_
    exact Tm_some ⟨rfl, Or.inr ⟨rfl, by omega⟩⟩
  have b1 : ∀ (m : Nat) (L' : LV), uN (L'.1 3) + m = uN (σ.1 2404) → Tm (fun k => y_X9_isRoomFor__a19 k 1 L' σ) (fun q => q.2 = σ ∧ (q.1 = 0 ∨ (q.1 = 1 ∧ uN (σ.1 2403) + uN (σ.1 1902) + uN (σ.1 1913) ≤ 20000))) := by
    intro m
    induction m with
    | zero =>
      intro L' hm
      refine Tm_suc (fun k => by rw [y_X9_isRoomFor__a19]) ?_
      exact Tm_yes (by rw [u_le (by omega) (by omega)]; omega) (b2 _)
    | succ m ih =>
      intro L' hm
      have i3 : ¬ (L'.1 3 < 0 ∨ 9 ≤ (L'.1 3).toNatClampNeg) := u_in (by omega) (by decide)
      have p3 : sPi σ (L'.1 3).toNatClampNeg < 9 := hp _ (by rw [u_cl (by omega)]; omega)
      refine Tm_suc (fun k => by rw [y_X9_isRoomFor__a19]) ?_
      refine Tm_no (by rw [u_le (by omega) (by omega)]; omega) ?_
      refine Tm_chk i3 (Tm_chk p3 (Tm_chk i3 (Tm_chk p3 ?_)))
      refine ih _ ?_
      show uN (L'.1 3 + 1) + m = _
      rw [u_inc (by omega)]; omega
  refine Tm_suc (fun k => by rw [y_X9_isRoomFor__a19]) ?_
  refine b1 (uN (σ.1 2404)) _ ?_
  show uN 0 + _ = _
  exact Nat.zero_add _
end CUA
end JnS416
section JnS417
/-! The class: saved runs are thinned out. -/
section CUB
variable {g g' g2 : Nat → Prop} {l l' l2 : List Nat} {t t' t2 : Nat} {σ σ' σ2 τ τ' : CS} {L : LV} {x y z i : Int32} {M M' U U' : Nat → Int32} {K K' K0 K2 K2' K3 K3' K4 K4' KB : Nat → Option Int32} {c : Ct} {B f0 u0 a T : Nat} {fs : List FrT} {u d : Nat} {r r' : List Nat} {pb nf nc sq rk : Nat}
theorem uI_o {j i : Nat} (h : i ≠ j) : (uI σ j x).1 i = σ.1 i := upd_other h
theorem uI_s {j : Nat} : (uI σ j x).1 j = x := upd_same
abbrev en8 (σ : CS) (i : Nat) : Nat := uN (σ.2.2.1 27 i) + uN (σ.1 (100 * (28 + sPi σ i) + 2)) + uN (σ.1 (100 * (28 + sPi σ i) + 13))
abbrev bg8 (σ : CS) (i : Nat) : Nat := uN (σ.1 (100 * (28 + sPi σ i) + 3))
/-- what a gap is at least -/
def w8 (x : Int32) : Int32 := if x < (256 : Int32) then (256 : Int32) else x
theorem w8_u (x : Int32) : 256 ≤ uN (w8 x) ∧ uN (w8 x) < 2147483648 := by
  unfold w8
  split
  · exact ⟨by decide, by decide⟩
  · rename_i h
    have h0 : (0 : Int32).toInt = 0 := rfl
    have h2 : (256 : Int32).toInt = 256 := rfl
    have n0 : uN x < 2147483648 := by
      rcases Nat.lt_or_ge (uN x) 2147483648 with y | y
      · exact y
      · exfalso
        have z : x < 0 := (u_neg x).2 y
        rw [i_lt] at z h
        omega
    refine ⟨?_, n0⟩
    have e : uN (256 : Int32) = 256 := rfl
    rw [u_ltn n0 (by decide), e] at h
    omega
theorem w8_2 {x : Int32} (h : uN (w8 x) < 1073741824) : uN (w8 (2 * w8 x)) = 2 * uN (w8 x) := by
  have z := w8_u x
  have e : uN (2 * w8 x) = 2 * uN (w8 x) := u_dbl (by omega)
  have e2 : uN (256 : Int32) = 256 := rfl
  rw [show w8 (2 * w8 x) = 2 * w8 x from if_neg (by rw [u_ltn (by omega) (by decide), e, e2]; omega)]
  exact e
theorem u_div {x y : Int32} (hx : uN x < 2147483648) (h0 : 0 < uN y) (hy : uN y < 2147483648) : uN (x / y) = uN x / uN y := by
  have e : x / y = nI (uN x / uN y) := by
    conv => lhs; rw [u_of x, u_of y]
    exact n_div hx h0 hy
  rw [e, u_n]
  have := Nat.div_le_self (uN x) (uN y)
  omega
theorem u_mulN {x y : Int32} (h : uN x * uN y < 4294967296) : uN (x * y) = uN x * uN y := by
  show (x.toBitVec * y.toBitVec).toNat = _
  rw [BitVec.toNat_mul]
  exact Nat.mod_eq_of_lt h
theorem u_rem {x y : Int32} (hx : uN x < 2147483648) (h0 : 0 < uN y) (hy : uN y < 2147483648) (e : x - x / y * y = 0) : uN x % uN y = 0 := by
  have d := u_div hx h0 hy
  have le := Nat.div_mul_le_self (uN x) (uN y)
  have m : uN (x / y * y) = uN x / uN y * uN y := by
    rw [u_mulN (by rw [d]; omega), d]
  have z : uN (x - x / y * y) = uN x - uN x / uN y * uN y := by rw [u_sub (by rw [m]; exact le), m]
  have z0 : uN (x - x / y * y) = 0 := by rw [e]; rfl
  have eq : uN x = uN x / uN y * uN y := by omega
  rw [eq]
  exact Nat.mul_mod_left _ _
/-- begun, of the eight -/
def B8 (σ : CS) : Prop := ∀ i, i < uN (σ.1 2404) → bg8 σ i < uN (σ.1 2407) ∧ bg8 σ i ≤ 10240000 ∧ ∀ k, i < k → k < uN (σ.1 2404) → bg8 σ i < bg8 σ k
/-- the eight -/
def SV8 (c : Ct) (g : Nat → Prop) (K3 : Nat → Option Int32) (σ : CS) : Prop := (uN (σ.1 2404) ≤ 8 ∧ uN (σ.1 2403) ≤ sN σ 26 ∧ sN σ 26 ≤ 20000) ∧ (∀ i, i < 9 → sPi σ i < 9) ∧ (∀ i j, i < 9 → j < 9 → sPi σ i = sPi σ j → i = j) ∧ (∀ i, i < uN (σ.1 2404) → SvR c K3 σ (sPi σ i) (uN (σ.2.2.1 27 i)) ∧ en8 σ i ≤ uN (σ.1 2403) ∧ ∀ k, i < k → k < uN (σ.1 2404) → en8 σ i ≤ uN (σ.2.2.1 27 k)) ∧ Rwk g (σ.2.2.1 3) K3 (σ.2.2.1 26) (uN (σ.1 2403)) ∧ B8 σ
/-- a saved run elsewhere -/
theorem SvR_m {p s s' : Nat} (h : SvR c K σ p s) (ef : ∀ j, j < 16 → τ.1 (100 * (28 + p) + j) = σ.1 (100 * (28 + p) + j)) (n20 : sN τ 20 = sN σ 20) (n21 : sN τ 21 = sN σ 21) (ek : ∀ j, j < uN (σ.1 (100 * (28 + p) + 2)) + uN (σ.1 (100 * (28 + p) + 13)) → K' (s' + j) = K (s + j)) : SvR c K' τ p s' := by
  unfold SvR
  rw [ef 0 (by decide), ef 1 (by decide), ef 2 (by decide), ef 8 (by decide), ef 7 (by decide), ef 5 (by decide), ef 13 (by decide), ef 12 (by decide), ef 14 (by decide), ef 15 (by decide), n20, n21]
  refine ⟨RUN_eq h.1 (fun q hq => ek q (by omega)), h.2.1, h.2.2.1, POK_eq (Nat.le_refl _) _ _ (fun q hq => ?_) h.2.2.2⟩
  have z := ek (uN (σ.1 (100 * (28 + p) + 2)) + q) (by omega)
  rw [← Nat.add_assoc, ← Nat.add_assoc] at z
  exact z
def sw8 (s i a : Nat) : Nat := if a = s then i else if a = i then s else a
theorem sw8_inj {s i a b : Nat} (h : sw8 s i a = sw8 s i b) : a = b := by
  unfold sw8 at h
  split at h <;> split at h <;> (try split at h) <;> (try split at h) <;> omega
theorem sw8_lt {s i a n : Nat} (hs : s < n) (hi : i < n) (ha : a < n) : sw8 s i a < n := by
  unfold sw8
  split
  · exact hi
  · split
    · exact hs
    · exact ha
/-- begun, midway -/
def BT8 (n i : Nat) (σ : CS) : Prop := (∀ a, (a < uN (σ.1 2404) ∨ (i ≤ a ∧ a < n)) → bg8 σ a < uN (σ.1 2407) ∧ bg8 σ a ≤ 10240000) ∧ (∀ a k, (a < uN (σ.1 2404) ∨ (i ≤ a ∧ a < n)) → (k < uN (σ.1 2404) ∨ (i ≤ k ∧ k < n)) → a < k → bg8 σ a < bg8 σ k) ∧ ∀ a, a < uN (σ.1 2404) → bg8 σ a % uN (w8 (σ.1 2406)) = 0
/-- thinning, midway: so many were gone over -/
def ThI (c : Ct) (g : Nat → Prop) (K3 : Nat → Option Int32) (F n i : Nat) (σ : CS) : Prop := (uN (σ.1 2404) ≤ i ∧ i ≤ n ∧ n ≤ 8 ∧ uN (σ.1 2403) ≤ F ∧ F ≤ sN σ 26 ∧ sN σ 26 ≤ 20000) ∧ (∀ i, i < 9 → sPi σ i < 9) ∧ (∀ i j, i < 9 → j < 9 → sPi σ i = sPi σ j → i = j) ∧ (∀ a, a < uN (σ.1 2404) → SvR c K3 σ (sPi σ a) (uN (σ.2.2.1 27 a)) ∧ en8 σ a ≤ uN (σ.1 2403) ∧ ∀ k, a < k → k < uN (σ.1 2404) → en8 σ a ≤ uN (σ.2.2.1 27 k)) ∧ (∀ a, i ≤ a → a < n → SvR c K3 σ (sPi σ a) (uN (σ.2.2.1 27 a)) ∧ uN (σ.1 2403) ≤ uN (σ.2.2.1 27 a) ∧ en8 σ a ≤ F ∧ ∀ k, a < k → k < n → en8 σ a ≤ uN (σ.2.2.1 27 k)) ∧ Rwk g (σ.2.2.1 3) K3 (σ.2.2.1 26) F ∧ BT8 n i σ
theorem Th_s {F n i : Nat} (h : ThI c g K3 F n i σ) (hi : i < n) : ThI c g K3 F n (i + 1) σ := ⟨⟨by have := h.1.1; omega, hi, h.1.2.2⟩, h.2.1, h.2.2.1, h.2.2.2.1, fun a h1 h2 => h.2.2.2.2.1 a (by omega) h2, h.2.2.2.2.2.1, fun a z => h.2.2.2.2.2.2.1 a (by omega), fun a k z1 z2 => h.2.2.2.2.2.2.2.1 a k (by omega) (by omega), h.2.2.2.2.2.2.2.2⟩
theorem Th_e {F n : Nat} (h : ThI c g K3 F n n σ) : SV8 c g K3 σ := by
  obtain ⟨⟨h1, h2, h3, h4, h5, h6⟩, a1, a2, a3, a4, a5, t1, t2, t3⟩ := h
  exact ⟨⟨by omega, by omega, h6⟩, a1, a2, a3, fun j hj => a5 j (by omega), fun i hi => ⟨(t1 i (Or.inl hi)).1, (t1 i (Or.inl hi)).2, fun k k1 k2 => t2 i k (Or.inl hi) (Or.inl k2) k1⟩⟩
def K8 (K3 : Nat → Option Int32) (st f ln : Nat) : Nat → Option Int32 := fun j => if f ≤ j ∧ j < f + ln then K3 (st + (j - f)) else K3 j
theorem Th_k {F n i : Nat} (h : ThI c g K3 F n i σ) (hi : i < n) (e1 : ∀ j, ¬ (j = 2403 ∨ j = 2404) → τ.1 j = σ.1 j) (e3 : uN (τ.1 2403) = uN (σ.1 2403) + (uN (σ.1 (100 * (28 + sPi σ i) + 2)) + uN (σ.1 (100 * (28 + sPi σ i) + 13)))) (e4 : uN (τ.1 2404) = uN (σ.1 2404) + 1) (e26 : τ.2.2.1 26 = va_cpy (σ.2.2.1 26) (σ.2.2.1 26) (uN (σ.2.2.1 27 i)) (uN (σ.1 2403)) (uN (σ.1 (100 * (28 + sPi σ i) + 2)) + uN (σ.1 (100 * (28 + sPi σ i) + 13)))) (e27 : τ.2.2.1 27 = upd (σ.2.2.1 27) (uN (σ.1 2404)) (σ.1 2403)) (ep : ∀ a, sPi τ a = sPi σ (sw8 (uN (σ.1 2404)) i a)) (er : τ.2.2.1 3 = σ.2.2.1 3) (en : ∀ k, sN τ k = sN σ k) (hd : bg8 σ i % uN (w8 (σ.1 2406)) = 0) : ThI c g (K8 K3 (uN (σ.2.2.1 27 i)) (uN (σ.1 2403)) (uN (σ.1 (100 * (28 + sPi σ i) + 2)) + uN (σ.1 (100 * (28 + sPi σ i) + 13)))) F n (i + 1) τ := by
  obtain ⟨⟨h1, h2, h3, h4, h5, h6⟩, a1, a2, a3, a4, a5, t1, t2, t3⟩ := h
  have eb : ∀ a, a < 9 → bg8 τ a = bg8 σ (sw8 (uN (σ.1 2404)) i a) := fun a ha => by
    have p9 := a1 _ (sw8_lt (s := uN (σ.1 2404)) (i := i) (a := a) (n := 9) (by omega) (by omega) ha)
    unfold bg8
    rw [ep, e1 _ (by omega)]
  have zi := a4 i (Nat.le_refl _) hi
  have zi2 := zi.2.1
  have zi3 := zi.2.2.1
  unfold en8 at zi3
  generalize hl : uN (σ.1 (100 * (28 + sPi σ i) + 2)) + uN (σ.1 (100 * (28 + sPi σ i) + 13)) = ln at *
  generalize hs : uN (σ.1 2404) = s at *
  generalize hf : uN (σ.1 2403) = f at *
  generalize hst : uN (σ.2.2.1 27 i) = st at *
  have ef : ∀ p j, p < 9 → τ.1 (100 * (28 + p) + j) = σ.1 (100 * (28 + p) + j) := fun p j hp => e1 _ (by omega)
  have so : ∀ a, ¬ a = s → ¬ a = i → sPi τ a = sPi σ a ∧ uN (τ.2.2.1 27 a) = uN (σ.2.2.1 27 a) := fun a n1 n2 => by
    rw [ep, e27, upd_other n1]
    unfold sw8
    rw [if_neg n1, if_neg n2]
    exact ⟨rfl, rfl⟩
  have eo : ∀ a, a < 9 → ¬ a = s → ¬ a = i → en8 τ a = en8 σ a := fun a h9 n1 n2 => by
    unfold en8
    rw [(so a n1 n2).2, (so a n1 n2).1, ef _ _ (a1 a h9), ef _ _ (a1 a h9)]
  have ps : sPi τ s = sPi σ i ∧ uN (τ.2.2.1 27 s) = f := by
    rw [ep, e27, upd_same, hf]
    unfold sw8
    rw [if_pos rfl]
    exact ⟨rfl, rfl⟩
  have es : en8 τ s = f + ln := by
    unfold en8
    rw [ps.2, ps.1, ef _ _ (a1 i (by omega)), ef _ _ (a1 i (by omega)), Nat.add_assoc, hl]
  have kl : ∀ j, j < f → K8 K3 st f ln j = K3 j := fun j hj => if_neg (by omega)
  have kh : ∀ j, f + ln ≤ j → K8 K3 st f ln j = K3 j := fun j hj => if_neg (by omega)
  refine ⟨⟨by omega, by omega, h3, by omega, by rw [en]; exact h5, by rw [en]; exact h6⟩, fun a ha => by rw [ep]; exact a1 _ (sw8_lt (by omega) (by omega) ha), fun a b ha hb e => ?_, fun a ha => ?_, fun a h1' h2' => ?_, ?_, ?_⟩
  · rw [ep, ep] at e
    exact sw8_inj (a2 _ _ (sw8_lt (by omega) (by omega) ha) (sw8_lt (by omega) (by omega) hb) e)
  · rw [e4] at ha
    by_cases e : a = s
    · subst e
      refine ⟨?_, by rw [es, e3]; exact Nat.le_refl _, fun k k1 k2 => absurd k2 (by rw [e4]; omega)⟩
      rw [ps.1, ps.2]
      refine SvR_m zi.1 (fun j _ => ef _ _ (a1 i (by omega))) (en 20) (en 21) (fun j hj => ?_)
      rw [hl] at hj
      show (if f ≤ f + j ∧ f + j < f + ln then K3 (st + (f + j - f)) else K3 (f + j)) = _
      rw [if_pos (by omega), Nat.add_sub_cancel_left]
    · have a9 : a < s := by omega
      have z := a3 a a9
      have z2 := z.2.1
      have o := so a e (by omega)
      refine ⟨?_, by rw [eo a (by omega) e (by omega), e3]; omega, fun k k1 k2 => ?_⟩
      · rw [o.1, o.2]
        refine SvR_m z.1 (fun j _ => ef _ _ (a1 a (by omega))) (en 20) (en 21) (fun j hj => kl _ ?_)
        unfold en8 at z2
        omega
      · rw [e4] at k2
        rw [eo a (by omega) e (by omega)]
        by_cases ek : k = s
        · rw [ek, ps.2]; exact z2
        · rw [(so k ek (by omega)).2]
          exact z.2.2 k k1 (by omega)
  · have z := a4 a (by omega) h2'
    have o := so a (by omega) (by omega)
    have oi := zi.2.2.2 a (by omega) h2'
    unfold en8 at oi
    refine ⟨?_, by rw [o.2, e3]; omega, by rw [eo a (by omega) (by omega) (by omega)]; exact z.2.2.1, fun k k1 k2 => ?_⟩
    · rw [o.1, o.2]
      exact SvR_m z.1 (fun j _ => ef _ _ (a1 a (by omega))) (en 20) (en 21) (fun j hj => kh _ (by omega))
    · rw [eo a (by omega) (by omega) (by omega), (so k (by omega) (by omega)).2]
      exact z.2.2.2 k k1 k2
  · rw [er, e26]
    intro j hj
    show Gw g (va_cpy (σ.2.2.1 26) (σ.2.2.1 26) st f ln j) ∧ (K8 K3 st f ln j = none → Gv g (va_cpy (σ.2.2.1 26) (σ.2.2.1 26) st f ln j)) ∧ ∀ v, K8 K3 st f ln j = some v → (va_cpy (σ.2.2.1 26) (σ.2.2.1 26) st f ln j = v ∧ Rr v) ∨ Mkd g (σ.2.2.1 3) v (va_cpy (σ.2.2.1 26) (σ.2.2.1 26) st f ln j)
    unfold va_cpy K8
    by_cases e : f ≤ j ∧ j < f + ln
    · rw [if_pos e, if_pos e]
      exact a5 _ (by omega)
    · rw [if_neg e, if_neg e]
      exact a5 _ hj
  · have swl : ∀ a, (a < s + 1 ∨ (i + 1 ≤ a ∧ a < n)) → (sw8 s i a < s ∨ (i ≤ sw8 s i a ∧ sw8 s i a < n)) := by
      intro a ha
      unfold sw8
      split
      · right; omega
      · split
        · omega
        · omega
    have swm : ∀ a k, (a < s + 1 ∨ (i + 1 ≤ a ∧ a < n)) → (k < s + 1 ∨ (i + 1 ≤ k ∧ k < n)) → a < k → sw8 s i a < sw8 s i k := by
      intro a k ha hk h
      unfold sw8
      split <;> split <;> (try split) <;> (try split) <;> omega
    refine ⟨fun a ha => ?_, fun a k ha hk h => ?_, fun a ha => ?_⟩
    · rw [e4] at ha
      rw [eb a (by omega), e1 2407 (by decide)]
      exact t1 _ (swl a ha)
    · rw [e4] at ha hk
      rw [eb a (by omega), eb k (by omega)]
      exact t2 _ _ (swl a ha) (swl k hk) (swm a k ha hk h)
    · rw [e4] at ha
      rw [eb a (by omega), e1 2406 (by decide)]
      by_cases q : a = s
      · rw [q, show sw8 s i s = i from if_pos rfl]; exact hd
      · rw [show sw8 s i a = a from by unfold sw8; rw [if_neg q, if_neg (by omega)]]
        exact t3 a (by omega)
theorem w256 (x : Int32) : ¬ (if x < (256 : Int32) then (256 : Int32) else x) = 0 := by
  split
  · decide
  · rename_i h
    intro e
    rw [e] at h
    exact h (by decide)
theorem c_thinOut (h : SV8 c g K3 σ) (b21 : sN σ 20 ≤ 91000 ∧ sN σ 21 ≤ 44200) : Tm (fun k => f_X9_thinOut k 0 L σ) (fun q => q.1 = (0, 0) ∧ q.2.2 = (0, 0) ∧ SvF σ q.2.1 ∧ q.2.1.2.2.2.2.1 = σ.2.2.2.2.1 ∧ q.2.1.1 2405 = σ.1 2405 ∧ (q.2.1.1 2406 = 2 * w8 (σ.1 2406) ∧ q.2.1.1 2407 = σ.1 2407 ∧ uN (q.2.1.1 2404) ≤ uN (σ.1 2404) ∧ ∀ a, a < uN (q.2.1.1 2404) → bg8 q.2.1 a % uN (w8 (q.2.1.1 2406)) = 0) ∧ ∃ K3', SV8 c g K3' q.2.1) := by
  obtain ⟨⟨h1, h2, h3⟩, a1, a2, a3, a4, a5⟩ := h
  have b2 : ∀ (m i : Nat) (τ : CS) (L' : LV) (K3' : Nat → Option Int32), ThI c g K3' (uN (σ.1 2403)) (uN (σ.1 2404)) i τ → i + m = uN (σ.1 2404) → L'.1 1 = σ.1 2404 → uN (L'.1 2) = i → SvF σ τ → τ.2.2.2.2.1 = σ.2.2.2.2.1 → τ.1 2405 = σ.1 2405 → τ.1 2406 = 2 * w8 (σ.1 2406) ∧ τ.1 2407 = σ.1 2407 → Tm (fun k => f_X9_thinOut k 2 L' τ) (fun q => q.1 = (0, 0) ∧ q.2.2 = (0, 0) ∧ SvF σ q.2.1 ∧ q.2.1.2.2.2.2.1 = σ.2.2.2.2.1 ∧ q.2.1.1 2405 = σ.1 2405 ∧ (q.2.1.1 2406 = 2 * w8 (σ.1 2406) ∧ q.2.1.1 2407 = σ.1 2407 ∧ uN (q.2.1.1 2404) ≤ uN (σ.1 2404) ∧ ∀ a, a < uN (q.2.1.1 2404) → bg8 q.2.1 a % uN (w8 (q.2.1.1 2406)) = 0) ∧ ∃ K3', SV8 c g K3' q.2.1) := by
    intro m
    induction m with
    | zero =>
      intro i τ L' K3' th im l1 l2 sf es e5 e67
      refine Tm_suc (fun k => by rw [f_X9_thinOut]) ?_
      refine Tm_yes (by rw [l1, u_le (by omega) (by omega)]; omega) ?_
      refine Tm_suc (fun k => by rw [f_X9_thinOut]) ?_
      have e : i = uN (σ.1 2404) := by omega
      rw [e] at th
      exact Tm_some ⟨rfl, rfl, sf, es, e5, ⟨e67.1, e67.2, th.1.1, th.2.2.2.2.2.2.2.2⟩, K3', Th_e th⟩
    | succ m ih =>
      intro i τ L' K3' th im l1 l2 sf es e5 e67
      have c2 : (L'.1 2).toNatClampNeg = i := by rw [u_cl (by omega)]; exact l2
      have i2 : ¬ (L'.1 2 < 0 ∨ 9 ≤ i) := by
        have z : ¬ (L'.1 2 < 0 ∨ 9 ≤ (L'.1 2).toNatClampNeg) := u_in (by omega) (by decide)
        rw [c2] at z; exact z
      have ti := th.1
      have tp := th.2.1
      have p9 := tp i (by omega)
      have zi := th.2.2.2.2.1 i (Nat.le_refl _) (by omega)
      have zi2 := zi.2.1
      have zi3 := zi.2.2.1
      unfold en8 at zi3
      have e21 : uN (L'.1 2 + 1) = i + 1 := by rw [u_inc (by omega), l2]
      refine Tm_suc (fun k => by rw [f_X9_thinOut]) ?_
      rw [c2]
      refine Tm_no (by rw [l1, u_le (by omega) (by omega)]; omega) ?_
      refine Tm_chk i2 (Tm_chk p9 (Tm_no (w256 _) ?_))
      have bgi : uN (τ.1 (100 * (28 + sPi τ i) + 3)) ≤ 10240000 := (th.2.2.2.2.2.2.1 i (Or.inr ⟨Nat.le_refl _, by omega⟩)).2
      have ww := w8_u (τ.1 2406)
      refine Tm_ite (fun hr => ?_) (fun _ => ?_)
      · have hdv : bg8 τ i % uN (w8 (τ.1 2406)) = 0 := u_rem (by omega) (by omega) ww.2 hr
        generalize hp : sPi τ i = p at *
        have ul : uN (τ.1 (100 * (28 + p) + 2) + τ.1 (100 * (28 + p) + 13)) = uN (τ.1 (100 * (28 + p) + 2)) + uN (τ.1 (100 * (28 + p) + 13)) := u_add (by omega)
        have cs : (τ.2.2.1 27 i).toNatClampNeg = uN (τ.2.2.1 27 i) := u_cl (by omega)
        have cf : (τ.1 2403).toNatClampNeg = uN (τ.1 2403) := u_cl (by omega)
        have cl : (τ.1 (100 * (28 + p) + 2) + τ.1 (100 * (28 + p) + 13)).toNatClampNeg = uN (τ.1 (100 * (28 + p) + 2)) + uN (τ.1 (100 * (28 + p) + 13)) := by rw [u_cl (by omega)]; exact ul
        have c4 : (τ.1 2404).toNatClampNeg = uN (τ.1 2404) := u_cl (by omega)
        have i4 : ¬ (τ.1 2404 < 0 ∨ 9 ≤ uN (τ.1 2404)) := by
          have z : ¬ (τ.1 2404 < 0 ∨ 9 ≤ (τ.1 2404).toNatClampNeg) := u_in (by omega) (by decide)
          rw [c4] at z; exact z
        refine Tm_chk i2 (Tm_chk p9 (Tm_chk p9 ?_))
        rw [cs, cf, cl]
        refine Tm_chk ⟨by rw [u_neg]; omega, by rw [u_neg]; omega, by rw [u_neg]; omega, by omega, by omega⟩ ?_
        generalize hω : uF τ 26 (va_cpy (τ.2.2.1 26) (τ.2.2.1 26) (uN (τ.2.2.1 27 i)) (uN (τ.1 2403)) (uN (τ.1 (100 * (28 + p) + 2)) + uN (τ.1 (100 * (28 + p) + 13)))) = ω
        have w1 : ω.1 = τ.1 := by rw [← hω]; rfl
        have wp : ∀ a, sPi ω a = sPi τ a := fun a => by rw [← hω]; rfl
        refine Tm_suc (fun k => by rw [f_X9_thinOut]) ?_
        rw [w1, c4]
        refine Tm_chk i4 (Tm_chk (by rw [wp]; exact tp _ (by omega)) ?_)
        show Tm (fun k => if ¬ (L'.1 2 < 0 ∨ 9 ≤ (L'.1 2).toNatClampNeg) then f_X9_thinOut k 6 _ (uPi ω (L'.1 2).toNatClampNeg (sPi ω (uN (τ.1 2404)))) else none) _
        rw [c2, wp]
        refine Tm_chk i2 ?_
        generalize hψ : uPi ω i (sPi τ (uN (τ.1 2404))) = ψ
        have y1 : ψ.1 = τ.1 := by rw [← hψ]; exact w1
        refine Tm_suc (fun k => by rw [f_X9_thinOut]) ?_
        refine Tm_chk p9 ?_
        rw [y1, c4]
        refine Tm_chk i4 ?_
        show Tm (fun k => if ¬ (ψ.1 2404 < 0 ∨ 9 ≤ (ψ.1 2404).toNatClampNeg) then (if p < 9 then (if p < 9 then f_X9_thinOut k 7 _ (uI (uA (uPi ψ (uN (τ.1 2404)) p) 27 (ψ.1 2404).toNatClampNeg (ψ.1 2403)) 2403 (ψ.1 2403 + ψ.1 (100 * (28 + p) + 2) + ψ.1 (100 * (28 + p) + 13))) else none) else none) else none) _
        rw [y1, c4]
        refine Tm_chk i4 (Tm_chk p9 (Tm_chk p9 ?_))
        generalize hχ : uI (uA (uPi ψ (uN (τ.1 2404)) p) 27 (uN (τ.1 2404)) (τ.1 2403)) 2403 (τ.1 2403 + τ.1 (100 * (28 + p) + 2) + τ.1 (100 * (28 + p) + 13)) = χ
        have x4 : χ.1 2404 = τ.1 2404 := by
          rw [← hχ, uI_o (by decide)]
          show ψ.1 2404 = _
          rw [y1]
        refine Tm_suc (fun k => by rw [f_X9_thinOut]) ?_
        refine Tm_suc (fun k => by rw [f_X9_thinOut]) ?_
        rw [x4]
        have u3 : uN (τ.1 2403 + τ.1 (100 * (28 + p) + 2) + τ.1 (100 * (28 + p) + 13)) = uN (τ.1 2403) + (uN (τ.1 (100 * (28 + p) + 2)) + uN (τ.1 (100 * (28 + p) + 13))) := by rw [u_add (by rw [u_add (by omega)]; omega), u_add (by omega), Nat.add_assoc]
        have fin := Th_k (τ := uI χ 2404 (τ.1 2404 + 1)) th (by omega) (fun j hj => by
          rw [uI_o (by omega), ← hχ, uI_o (by omega)]
          show ψ.1 j = _
          rw [y1]) (by
          rw [uI_o (by decide), ← hχ, uI_s, hp]; exact u3) (by
          rw [uI_s]; exact u_inc (by omega)) (by
          rw [hp, ← hχ]
          show ψ.2.2.1 26 = _
          rw [← hψ, ← hω]
          exact uF_s τ 26 (va_cpy (τ.2.2.1 26) (τ.2.2.1 26) (uN (τ.2.2.1 27 i)) (uN (τ.1 2403)) (uN (τ.1 (100 * (28 + p) + 2)) + uN (τ.1 (100 * (28 + p) + 13))))) (by
          rw [← hχ]
          show updG ψ.2.2.1 27 (upd (ψ.2.2.1 27) (uN (τ.1 2404)) (τ.1 2403)) 27 = _
          rw [updG_same, ← hψ, ← hω]
          rfl) (fun a => by
          rw [← hχ]
          show updN (sPi ψ) (uN (τ.1 2404)) p a = _
          rw [← hψ]
          show updN (updN (sPi ω) i (sPi τ (uN (τ.1 2404)))) (uN (τ.1 2404)) p a = _
          unfold updN sw8
          by_cases q1 : a = uN (τ.1 2404)
          · rw [if_pos q1, if_pos q1]; exact hp.symm
          · rw [if_neg q1, if_neg q1]
            by_cases q2 : a = i
            · rw [if_pos q2, if_pos q2]
            · rw [if_neg q2, if_neg q2]; exact wp a) (by
          rw [← hχ]
          show ψ.2.2.1 3 = _
          rw [← hψ, ← hω]
          rfl) (fun k => by
          rw [← hχ]
          show sN ψ k = _
          rw [← hψ, ← hω]
          rfl) hdv
        refine ih (i + 1) _ _ _ fin (by omega) l1 e21 (SvF_t sf ?_) ?_ ?_ ⟨?_, ?_⟩
        · refine SvF_t ?_ (SvF_i χ (by decide) _)
          rw [← hχ]
          refine SvF_t (SvF_t ?_ (SvF_F (uPi ψ (uN (τ.1 2404)) p) (Or.inr rfl) _)) (SvF_i _ (by decide) _)
          refine SvF_t ?_ (SvF_p ψ _ _)
          rw [← hψ]
          refine SvF_t ?_ (SvF_p ω _ _)
          rw [← hω]
          exact SvF_F τ (Or.inl rfl) _
        · rw [← es, ← hχ, ← hψ, ← hω]
          rfl
        · rw [uI_o (by decide), ← hχ, uI_o (by decide)]
          show ψ.1 2405 = _
          rw [y1]; exact e5
        · rw [uI_o (by decide), ← hχ, uI_o (by decide)]
          show ψ.1 2406 = _
          rw [y1]; exact e67.1
        · rw [uI_o (by decide), ← hχ, uI_o (by decide)]
          show ψ.1 2407 = _
          rw [y1]; exact e67.2
      · refine Tm_suc (fun k => by rw [f_X9_thinOut]) ?_
        exact ih (i + 1) _ _ _ (Th_s th (by omega)) (by omega) l1 e21 sf es e5 e67
  refine Tm_suc (fun k => by rw [f_X9_thinOut]) ?_
  refine Tm_suc (fun k => by rw [f_X9_thinOut]) ?_
  refine b2 (uN (σ.1 2404)) 0 _ _ K3 ?_ (Nat.zero_add _) rfl rfl ?_ rfl ?_ ⟨?_, ?_⟩
  · have ee : ∀ j, ¬ (j = 2403 ∨ j = 2404 ∨ j = 2406) → ∀ v w x, (uI (uI (uI σ 2406 v) 2403 w) 2404 x).1 j = σ.1 j := fun j hj v w x => by
      show upd (upd (upd σ.1 2406 v) 2403 w) 2404 x j = _
      rw [upd_other (by omega), upd_other (by omega), upd_other (by omega)]
    refine ⟨⟨Nat.zero_le _, Nat.zero_le _, h1, Nat.zero_le _, h2, h3⟩, a1, a2, fun a ha => absurd ha (Nat.not_lt_zero a), fun a _ ha => ?_, a4, ?_⟩
    have z := a3 a ha
    have z2 := z.2.1
    have p9 := a1 a (by omega)
    have e8 : en8 (uI (uI (uI σ 2406 (2 * if σ.1 2406 < 256 then 256 else σ.1 2406)) 2403 0) 2404 0) a = en8 σ a := by
      show uN (σ.2.2.1 27 a) + uN ((uI (uI (uI σ 2406 (2 * if σ.1 2406 < 256 then 256 else σ.1 2406)) 2403 0) 2404 0).1 (100 * (28 + sPi σ a) + 2)) + uN ((uI (uI (uI σ 2406 (2 * if σ.1 2406 < 256 then 256 else σ.1 2406)) 2403 0) 2404 0).1 (100 * (28 + sPi σ a) + 13)) = _
      rw [ee _ (by omega), ee _ (by omega)]
    refine ⟨SvR_m z.1 (fun j _ => ee _ (by omega) _ _ _) rfl rfl (fun _ _ => rfl), Nat.zero_le _, ?_, fun k k1 k2 => ?_⟩
    · rw [e8]; exact z2
    · rw [e8]; exact z.2.2 k k1 k2
    have e9 : ∀ a, a < 9 → bg8 (uI (uI (uI σ 2406 (2 * if σ.1 2406 < 256 then 256 else σ.1 2406)) 2403 0) 2404 0) a = bg8 σ a := fun a ha => by
      have p9 := a1 a ha
      show uN ((uI (uI (uI σ 2406 (2 * if σ.1 2406 < 256 then 256 else σ.1 2406)) 2403 0) 2404 0).1 (100 * (28 + sPi σ a) + 3)) = _
      rw [ee _ (by omega)]
    refine ⟨fun a ha => ?_, fun a k ha hk h => ?_, fun a ha => absurd ha (Nat.not_lt_zero a)⟩
    · have ha' : a < uN (σ.1 2404) := ha.elim (fun z => absurd z (Nat.not_lt_zero a)) (fun z => z.2)
      rw [e9 a (by omega), ee 2407 (by decide)]
      exact ⟨(a5 a ha').1, (a5 a ha').2.1⟩
    · have ha' : a < uN (σ.1 2404) := ha.elim (fun z => absurd z (Nat.not_lt_zero a)) (fun z => z.2)
      have hk' : k < uN (σ.1 2404) := hk.elim (fun z => absurd z (Nat.not_lt_zero k)) (fun z => z.2)
      rw [e9 a (by omega), e9 k (by omega)]
      exact (a5 a ha').2.2 k h hk'
  · exact SvF_t (SvF_t (SvF_i σ (by decide) _) (SvF_i _ (by decide) _)) (SvF_i _ (by decide) _)
  · rw [uI_o (by decide), uI_o (by decide), uI_o (by decide)]
  · rw [uI_o (by decide), uI_o (by decide), uI_s]; rfl
  · rw [uI_o (by decide), uI_o (by decide), uI_o (by decide)]
end CUB
end JnS417
section JnS418
/-! The class: runs are saved. -/
section CUC
variable {g g' g2 : Nat → Prop} {l l' l2 : List Nat} {t t' t2 : Nat} {σ σ' σ2 τ τ' : CS} {L : LV} {x y z i : Int32} {M M' U U' : Nat → Int32} {K K' K0 K2 K2' K3 K3' K4 K4' KB : Nat → Option Int32} {c : Ct} {B f0 u0 a T : Nat} {fs : List FrT} {u d : Nat} {r r' : List Nat} {pb nf nc sq rk : Nat}
/-- the run in hand is one that may be saved -/
def RnO (c : Ct) (K K2 : Nat → Option Int32) (σ : CS) : Prop := RUN c K (uN (σ.1 1900)) (uN (σ.1 1901)) (uN (σ.1 1902)) (uN (σ.1 1908)) 0 ∧ (σ.1 1907 = 0 ∧ uN (σ.1 1905) ≤ 60000) ∧ (uN (σ.1 1913) ≤ 44200 ∧ uN (σ.1 1912) ≤ 20 ∧ uN (σ.1 1914) ≤ 1000000 ∧ uN (σ.1 1915) ≤ 2000000000 ∧ uN (σ.1 1902) ≤ sN σ 20 ∧ uN (σ.1 1913) ≤ sN σ 21) ∧ POK c K2 (sN σ 20) (uN (σ.1 1912)) (uN (σ.1 1913))
theorem RnO_e (h : RnO c K K2 σ) (a : SvF σ τ) : RnO c K K2 τ := by
  unfold RnO
  rw [a.1 1900 (by decide), a.1 1901 (by decide), a.1 1902 (by decide), a.1 1908 (by decide), a.1 1907 (by decide), a.1 1905 (by decide), a.1 1913 (by decide), a.1 1912 (by decide), a.1 1914 (by decide), a.1 1915 (by decide), a.2.2.2.1 20 (by decide), a.2.2.2.1 21 (by decide)]
  exact h
def K9 (K3 K K2 : Nat → Option Int32) (F S : Nat) : Nat → Option Int32 := fun j => if j < F then K3 j else if j < F + S then K (j - F) else K2 (j - F - S)
theorem K9_l {F S j : Nat} (h : j < F) : K9 K3 K K2 F S j = K3 j := if_pos h
theorem K9_m {F S j : Nat} (h : j < S) : K9 K3 K K2 F S (F + j) = K j := by
  unfold K9
  rw [if_neg (by omega), if_pos (by omega), show F + j - F = j by omega]
theorem K9_h {F S j : Nat} : K9 K3 K K2 F S (F + S + j) = K2 j := by
  unfold K9
  rw [if_neg (by omega), if_neg (by omega), show F + S + j - F - S = j by omega]
/-- the one stored -/
theorem St_n {q : RS} (so : StO σ a q) (rn : RnO c K K2 σ) : SvR c (K9 K3 K K2 (uN (σ.1 2403)) (uN (σ.1 1902))) q.2.1 (sPi σ a) (uN (σ.1 2403)) := by
  obtain ⟨s1, s2, sf, s4, s5, s6, s7, s8, s9, s10, s11, s12⟩ := so
  have e0 : q.2.1.1 (100 * (28 + sPi σ a) + 0) = σ.1 1900 := s8 0 (by decide)
  have e1 : q.2.1.1 (100 * (28 + sPi σ a) + 1) = σ.1 1901 := s8 1 (by decide)
  have e2 : q.2.1.1 (100 * (28 + sPi σ a) + 2) = σ.1 1902 := s8 2 (by decide)
  have e8 : q.2.1.1 (100 * (28 + sPi σ a) + 8) = σ.1 1908 := s8 8 (by decide)
  have e7 : q.2.1.1 (100 * (28 + sPi σ a) + 7) = σ.1 1907 := s8 7 (by decide)
  have e5 : q.2.1.1 (100 * (28 + sPi σ a) + 5) = σ.1 1905 := s8 5 (by decide)
  have e13 : q.2.1.1 (100 * (28 + sPi σ a) + 13) = σ.1 1913 := s8 13 (by decide)
  have e12 : q.2.1.1 (100 * (28 + sPi σ a) + 12) = σ.1 1912 := s8 12 (by decide)
  have e14 : q.2.1.1 (100 * (28 + sPi σ a) + 14) = σ.1 1914 := s8 14 (by decide)
  have e15 : q.2.1.1 (100 * (28 + sPi σ a) + 15) = σ.1 1915 := s8 15 (by decide)
  unfold SvR
  rw [e0, e1, e2, e8, e7, e5, e13, e12, e14, e15, sf.2.2.2.1 20 (by decide), sf.2.2.2.1 21 (by decide)]
  exact ⟨RUN_eq rn.1 (fun p hp => K9_m hp), rn.2.1, rn.2.2.1, POK_eq (Nat.le_refl _) _ _ (fun p _ => K9_h) rn.2.2.2⟩
/-- the others -/
theorem St_o {q : RS} {k s : Nat} (so : StO σ a q) (ha : a < 9) (hk : k < 9) (ne : ¬ k = a) (hp : ∀ i, i < 9 → sPi σ i < 9) (hi : ∀ i j, i < 9 → j < 9 → sPi σ i = sPi σ j → i = j) (h : SvR c K3 σ (sPi σ k) s) (hs : s + uN (σ.1 (100 * (28 + sPi σ k) + 2)) + uN (σ.1 (100 * (28 + sPi σ k) + 13)) ≤ uN (σ.1 2403)) : SvR c (K9 K3 K K2 (uN (σ.1 2403)) (uN (σ.1 1902))) q.2.1 (sPi σ k) s := by
  obtain ⟨s1, s2, sf, s4, s5, s6, s7, s8, s9, s10, s11, s12⟩ := so
  exact SvR_m h (fun j hj => s7 _ j (hp k hk) (fun e => ne (hi k a hk ha e)) (by omega)) (sf.2.2.2.1 20 (by decide)) (sf.2.2.2.1 21 (by decide)) (fun j hj => K9_l (by omega))
theorem St_w {q : RS} (so : StO σ a q) (r26 : Rwk g (σ.2.2.1 3) K3 (σ.2.2.1 26) (uN (σ.1 2403))) (r20 : Rwk g (σ.2.2.1 3) K (σ.2.2.1 20) (uN (σ.1 1902))) (r21 : Rwk g (σ.2.2.1 3) K2 (σ.2.2.1 21) (uN (σ.1 1913))) : Rwk g (q.2.1.2.2.1 3) (K9 K3 K K2 (uN (σ.1 2403)) (uN (σ.1 1902))) (q.2.1.2.2.1 26) (uN (σ.1 2403) + uN (σ.1 1902) + uN (σ.1 1913)) := by
  obtain ⟨s1, s2, sf, s4, s5, s6, s7, s8, s9, s10, s11, s12⟩ := so
  rw [sf.2.2.1 3 (by decide)]
  intro j hj
  rcases Nat.lt_or_ge j (uN (σ.1 2403)) with h | h
  · rw [K9_l h, s10 j h]; exact r26 j h
  · rcases Nat.lt_or_ge j (uN (σ.1 2403) + uN (σ.1 1902)) with h2 | h2
    · have e : j = uN (σ.1 2403) + (j - uN (σ.1 2403)) := by omega
      have z := r20 (j - uN (σ.1 2403)) (by omega)
      rw [e, K9_m (by omega), s11 _ (by omega)]; exact z
    · have e : j = uN (σ.1 2403) + uN (σ.1 1902) + (j - (uN (σ.1 2403) + uN (σ.1 1902))) := by omega
      have z := r21 (j - (uN (σ.1 2403) + uN (σ.1 1902))) (by omega)
      rw [e, K9_h, s12 _ (by omega)]; exact z
/-- between instructions, with other saves -/
theorem MIn_9 (mi : MIn c g l t K K2 K3 K4 B KB σ) (a : SvF σ τ) (svk : SVK c K3' τ) (v : uN (usI τ) ≤ sN τ 26 ∧ sN τ 26 ≤ 20000 ∧ Rwk g (τ.2.2.1 3) K3' (τ.2.2.1 26) (uN (usI τ))) : MIn c g l t K K2 K3' K4 B KB τ := by
  have e := a.1
  have n20 := a.2.2.2.1 20 (by decide)
  have n21 := a.2.2.2.1 21 (by decide)
  obtain ⟨m1, ⟨v1, v2, v3, v4, v5, v6, v7, v8⟩, m3, m4, m5, m6, m7, m8, m9, m10, m11⟩ := mi
  refine ⟨HQ_ft m1 (e 1 (by decide)) (a.2.2.1 3 (by decide)) (a.2.2.2.1 3 (by decide)) (a.2.2.2.1 1 (by decide)) (a.2.2.2.1 2 (by decide)), ⟨?_, ?_, ?_, ?_, svk.2.1 8 (by decide), v.1, v.2.1, v.2.2⟩, CtL_M m3 (SvF_M a), ?_, svk, m6, ?_, ?_, ?_, ?_, ?_⟩
  · rw [e 1902 (by decide), n20, a.2.2.1 20 (by decide), a.2.2.1 3 (by decide)]; exact v1
  · rw [a.2.2.1 23 (by decide), a.2.2.1 3 (by decide)]; exact v2
  · rw [e 1913 (by decide), n21, a.2.2.1 21 (by decide), a.2.2.1 3 (by decide)]; exact v3
  · rw [a.2.2.1 67 (by decide), a.2.2.1 3 (by decide)]; exact v4
  · rw [e 1912 (by decide), e 1913 (by decide), n20]; exact m4
  · rw [e 1902 (by decide)]; exact m7
  · rw [e 1903 (by decide), e 1814 (by decide)]; exact m8
  · rw [e 1912 (by decide)]; exact m9
  · rw [e 1914 (by decide)]; exact m10
  · rw [e 1915 (by decide)]; exact m11
theorem MIn_8 (mi : MIn c g l t K K2 K3 K4 B KB σ) (a : SvF σ τ) (sv : SV8 c g K3' τ) (h5 : τ.1 2405 = 0) : MIn c g l t K K2 K3' K4 B KB τ := by
  obtain ⟨⟨h1, h2, h3⟩, a1, a2, a3, a4, a5⟩ := sv
  have us : usI τ = τ.1 2403 := if_pos h5
  exact MIn_9 mi a ⟨⟨⟨h1, by omega⟩, a5, fun n => absurd h5 n⟩, a1, a2, a3, fun n => absurd h5 n⟩ ⟨by rw [us]; exact h2, h3, by rw [us]; exact a4⟩
theorem SV8_of (mi : MIn c g l t K K2 K3 K4 B KB σ) : SV8 c g K3 σ := by
  obtain ⟨m1, ⟨v1, v2, v3, v4, v5, v6, v7, v8⟩, m3, m4, ⟨⟨⟨s1, s2⟩, s3, s3'⟩, s4, s5, s6, s7⟩, m6⟩ := mi
  have us : uN (σ.1 2403) ≤ uN (usI σ) := by
    unfold usI
    by_cases h : σ.1 2405 = 0
    · rw [if_pos h]; exact Nat.le_refl _
    · have z := (s7 h).2.2
      rw [if_neg h, u_add (by rw [u_add (by omega)]; omega), u_add (by omega)]
      omega
  exact ⟨⟨s1, by omega, v7⟩, s4, s5, s6, fun j hj => v8 j (by omega), s3⟩
/-- other fields -/
theorem SV8_e (h : SV8 c g K3 σ) (e : ∀ j, ¬ (j = 2405 ∨ j = 2406 ∨ j = 2407) → τ.1 j = σ.1 j) (e2 : τ.2 = σ.2) (le : uN (σ.1 2407) ≤ uN (τ.1 2407)) : SV8 c g K3 τ := by
  obtain ⟨⟨h1, h2, h3⟩, a1, a2, a3, a4, a5⟩ := h
  have ep : ∀ i, sPi τ i = sPi σ i := fun i => by show τ.2.2.2.2.2.2 i = _; rw [e2]
  have en : ∀ k, sN τ k = sN σ k := fun k => by show τ.2.2.2.2.1 k = _; rw [e2]
  have er : ∀ k, τ.2.2.1 k = σ.2.2.1 k := fun k => by rw [e2]
  have ef : ∀ p j, p < 9 → τ.1 (100 * (28 + p) + j) = σ.1 (100 * (28 + p) + j) := fun p j hp => e _ (by omega)
  have e8 : ∀ i, i < 9 → en8 τ i = en8 σ i ∧ bg8 τ i = bg8 σ i := fun i hi => by
    have p9 := a1 i hi
    unfold en8 bg8
    rw [er, ep, ef _ _ p9, ef _ _ p9, ef _ _ p9]
    exact ⟨rfl, rfl⟩
  have e4 := e 2404 (by decide)
  have e3 := e 2403 (by decide)
  refine ⟨⟨by rw [e4]; exact h1, by rw [e3, en]; exact h2, by rw [en]; exact h3⟩, fun i hi => by rw [ep]; exact a1 i hi, fun i j hi hj z => a2 i j hi hj (by rw [ep, ep] at z; exact z), fun i hi => ?_, by rw [er, er, e3]; exact a4, fun i hi => ?_⟩
  · rw [e4] at hi
    have z := a3 i hi
    refine ⟨?_, by rw [(e8 i (by omega)).1, e3]; exact z.2.1, fun k k1 k2 => ?_⟩
    · rw [ep, er]
      exact SvR_m z.1 (fun j _ => ef _ _ (a1 i (by omega))) (en 20) (en 21) (fun _ _ => rfl)
    · rw [e4] at k2
      rw [(e8 i (by omega)).1, er]
      exact z.2.2 k k1 k2
  · rw [e4] at hi
    have z := a5 i hi
    rw [(e8 i (by omega)).2]
    refine ⟨by have := z.1; omega, z.2.1, fun k k1 k2 => ?_⟩
    rw [e4] at k2
    rw [(e8 k (by omega)).2]
    exact z.2.2 k k1 k2
/-- multiples of a wide gap are few -/
theorem mg8 {x y w : Nat} (hx : x % w = 0) (hy : y % w = 0) (h : x < y) : x + w ≤ y := by
  have e1 := Nat.div_add_mod x w
  have e2 := Nat.div_add_mod y w
  rw [hx] at e1
  rw [hy] at e2
  have lt : x / w < y / w := by
    rcases Nat.lt_or_ge (x / w) (y / w) with z | z
    · exact z
    · have q := Nat.mul_le_mul_left w z
      omega
  have q := Nat.mul_le_mul_left w lt
  rw [Nat.mul_succ] at q
  omega
theorem few8 (b : B8 σ) {w : Nat} (hd : ∀ a, a < uN (σ.1 2404) → bg8 σ a % w = 0) (hw : 2097152 ≤ w) : uN (σ.1 2404) ≤ 5 := by
  rcases Nat.lt_or_ge 5 (uN (σ.1 2404)) with h | h
  · exfalso
    have s0 := mg8 (hd 0 (by omega)) (hd 1 (by omega)) ((b 0 (by omega)).2.2 1 (by decide) (by omega))
    have s1 := mg8 (hd 1 (by omega)) (hd 2 (by omega)) ((b 1 (by omega)).2.2 2 (by decide) (by omega))
    have s2 := mg8 (hd 2 (by omega)) (hd 3 (by omega)) ((b 2 (by omega)).2.2 3 (by decide) (by omega))
    have s3 := mg8 (hd 3 (by omega)) (hd 4 (by omega)) ((b 3 (by omega)).2.2 4 (by decide) (by omega))
    have s4 := mg8 (hd 4 (by omega)) (hd 5 (by omega)) ((b 4 (by omega)).2.2 5 (by decide) (by omega))
    have s5 := (b 5 (by omega)).2.1
    omega
  · exact h
theorem nx8 {x w : Int32} (hx : uN x ≤ 10240000) (h0 : 256 ≤ uN w) (hw : uN w < 2147483648) : uN x < uN ((x / w + 1) * w) := by
  have d := u_div (x := x) (y := w) (by omega) (by omega) hw
  have le := Nat.div_mul_le_self (uN x) (uN w)
  have le2 := Nat.div_le_self (uN x) (uN w)
  have i : uN (x / w + 1) = uN x / uN w + 1 := by rw [u_inc (by rw [d]; omega), d]
  have m : (uN x / uN w + 1) * uN w = uN x / uN w * uN w + uN w := Nat.succ_mul _ _
  rw [u_mulN (by rw [i, m]; omega), i, Nat.mul_comm]
  exact Nat.lt_mul_div_succ _ (by omega)
end CUC
end JnS418

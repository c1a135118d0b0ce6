/-! The class: print. -/
section CTX
variable {g g' g2 : Nat → Prop} {l l' l2 : List Nat} {t t' t2 : Nat} {σ σ' σ2 τ τ' : CS} {L : LV} {x y z i : Int32} {M M' U U' : Nat → Int32} {K K' K0 K2 K2' K3 K4 K4' KB : Nat → Option Int32} {c : Ct} {B f0 u0 a T : Nat} {fs : List FrT} {P : Prop} {u d : Nat} {r r' : List Nat} {pb nf nc sq rk : Nat}
/-- what print may write -/
def PwF (σ τ : CS) : Prop := (∀ j, ¬ (j = 404 ∨ j = 1203 ∨ j = 1915) → τ.1 j = σ.1 j) ∧ τ.2.1 = σ.2.1 ∧ (∀ k, ¬ ((5 ≤ k ∧ k ≤ 11) ∨ k = 13 ∨ k = 22) → τ.2.2.1 k = σ.2.2.1 k) ∧ (∀ k, ¬ k = 22 → sN τ k = sN σ k) ∧ τ.2.2.2.1 = σ.2.2.2.1 ∧ τ.2.2.2.2.2 = σ.2.2.2.2.2
theorem PwF_r (σ : CS) : PwF σ σ := ⟨fun _ _ => rfl, rfl, fun _ _ => rfl, fun _ _ => rfl, rfl, rfl⟩
theorem PwF_t (a : PwF σ σ') (b : PwF σ' σ2) : PwF σ σ2 := ⟨fun j hj => (b.1 j hj).trans (a.1 j hj), b.2.1.trans a.2.1, fun k hk => (b.2.2.1 k hk).trans (a.2.2.1 k hk), fun k hk => (b.2.2.2.1 k hk).trans (a.2.2.2.1 k hk), b.2.2.2.2.1.trans a.2.2.2.2.1, b.2.2.2.2.2.trans a.2.2.2.2.2⟩
theorem PwF_P (a : PFl σ σ') : PwF σ σ' := ⟨fun j hj => a.1 j (by omega), a.2.1, fun k hk => a.2.2.1 k (by omega), fun k _ => by show σ'.2.2.2.2.1 k = _; rw [a.2.2.2], by rw [a.2.2.2], by rw [a.2.2.2]⟩
theorem PwF_15 (σ : CS) (x : Int32) : PwF σ (uI σ 1915 x) := ⟨fun j hj => upd_other (by omega), rfl, fun _ _ => rfl, fun _ _ => rfl, rfl, rfl⟩
theorem PwF_F (σ : CS) (f : Nat → Int32) : PwF σ (uF σ 22 f) := ⟨fun _ _ => rfl, rfl, fun k hk => updG_other (by omega), fun _ _ => rfl, rfl, rfl⟩
theorem PwF_Z (σ : CS) (n : Nat) : PwF σ (uZ σ 22 n) := ⟨fun _ _ => rfl, rfl, fun k hk => updG_other (by omega), fun k hk => if_neg hk, rfl, rfl⟩
theorem PwF_M (a : PwF σ τ) : MFr σ τ := ⟨fun j hj => a.1 j (by omega), fun j _ => by rw [a.2.1], fun k hk => by
  unfold rwM at hk
  exact ⟨a.2.2.1 k (by omega), a.2.2.2.1 k (by omega)⟩, a.2.2.2.2.1, by rw [a.2.2.2.2.2]⟩
theorem MIn_pr (mi : MIn c g l t K K2 K3 K4 B KB σ) (a : PwF σ τ) (h15 : uN (τ.1 1915) ≤ 2000000000) : MIn c g l t K K2 K3 K4 B KB τ := by
  have e := a.1
  have ep : ∀ i, sPi τ i = sPi σ i := fun i => by show τ.2.2.2.2.2.2 i = _; rw [a.2.2.2.2.2]
  have n20 := a.2.2.2.1 20 (by decide)
  have n21 := a.2.2.2.1 21 (by decide)
  have n26 := a.2.2.2.1 26 (by decide)
  have us : usI τ = usI σ := by
    unfold usI
    rw [ep 8, e 2405 (by decide), e 2403 (by decide), e (100 * (28 + sPi σ 8) + 2) (by omega), e (100 * (28 + sPi σ 8) + 13) (by omega)]
  obtain ⟨m1, ⟨v1, v2, v3, v4, v5, v6, v7, v8⟩, m3, m4, m5, m6, m7, m8, m9, m10, m11⟩ := mi
  refine ⟨HQ_ft m1 (e 1 (by decide)) (a.2.2.1 3 (by decide)) (a.2.2.2.1 3 (by decide)) (a.2.2.2.1 1 (by decide)) (a.2.2.2.1 2 (by decide)), ?_, CtL_M m3 (PwF_M a), ?_, SVK_g m5 (fun j h1 h2 => e j (by omega)) (a.2.2.1 27 (by decide)) ep (by omega) (by omega), m6, ?_, ?_, ?_, ?_, h15⟩
  · unfold VI
    rw [us, e 1902 (by decide), n20, a.2.2.1 20 (by decide), a.2.2.1 3 (by decide), a.2.2.1 23 (by decide), e 1913 (by decide), n21, a.2.2.1 21 (by decide), a.2.2.1 67 (by decide), ep 8, n26, a.2.2.1 26 (by decide)]
    exact ⟨v1, v2, v3, v4, v5, v6, v7, v8⟩
  · rw [e 1912 (by decide), e 1913 (by decide), n20]; exact m4
  · rw [e 1902 (by decide)]; exact m7
  · rw [e 1903 (by decide), e 1814 (by decide)]; exact m8
  · rw [e 1912 (by decide)]; exact m9
  · rw [e 1914 (by decide)]; exact m10
theorem c_countOut (h : uN (σ.1 1915) ≤ 2000000000) (h1 : uN (L.1 1) ≤ 20000) : Tm (fun k => y_X3_countOut k 0 L σ) (fun q => ∃ v, q.2 = uI σ 1915 v ∧ uN v ≤ 2000000000) := by
  have ea : uN (σ.1 1915 + L.1 1) = uN (σ.1 1915) + uN (L.1 1) := u_add (by omega)
  have e2 : uN (2000000000 : Int32) = 2000000000 := rfl
  refine Tm_suc (fun k => by rw [y_X3_countOut]) ?_
  refine Tm_some ⟨_, rfl, ?_⟩
  split
  · exact Nat.le_refl _
  · rename_i cc
    rw [u_ltn (by decide) (by omega), e2] at cc
    omega
theorem c_putOut (by0 : BY P σ) (h15 : uN (σ.1 1915) ≤ 2000000000) (h12 : uN (σ.1 1203) ≤ 10400) : Tm (fun k => f_X3_putOut k 0 L σ) (fun q => q.1 = (0, 0) ∧ CoP σ q ∧ PwF σ q.2.1 ∧ uN (q.2.1.1 1915) ≤ 2000000000 ∧ q.2.1.1 1203 = σ.1 1203) := by
  have b1 : ∀ (L' : LV) (τ : CS) (n1 n2 : Nat), PwF σ τ → τ.1 1915 = σ.1 1915 → τ.1 1203 = σ.1 1203 → n1 + PhC τ ≤ PhC σ → n2 + PhS τ ≤ PhS σ → Tm (fun k => f_X3_putOut k 1 L' τ) (fun q => q.1 = (0, 0) ∧ CoP σ (q.1, q.2.1, (n1 + q.2.2.1, n2 + q.2.2.2)) ∧ PwF σ q.2.1 ∧ uN (q.2.1.1 1915) ≤ 2000000000 ∧ q.2.1.1 1203 = σ.1 1203) := by
    intro L' τ n1 n2 a e15 e12 k1 k2
    refine Tm_suc (fun k => by rw [f_X3_putOut]) ?_
    refine Tm_op (c_countOut (by rw [e15]; exact h15) (by show uN (τ.1 1203) ≤ _; rw [e12]; omega)) (fun q z => ?_)
    obtain ⟨v, z1, z2⟩ := z
    rw [z1]
    have ph := Ph_s (σ := τ) (σ' := uI τ 1915 v) rfl
    exact Tm_some ⟨rfl, ⟨by show n1 + 0 + PhC (uI τ 1915 v) ≤ _; omega, by show n2 + 0 + PhS (uI τ 1915 v) ≤ _; omega⟩, PwF_t a (PwF_15 τ v), z2, e12⟩
  have b1' : ∀ (L' : LV) (τ : CS), PwF σ τ → τ.1 1915 = σ.1 1915 → τ.1 1203 = σ.1 1203 → PhC τ ≤ PhC σ → PhS τ ≤ PhS σ → Tm (fun k => f_X3_putOut k 1 L' τ) (fun q => q.1 = (0, 0) ∧ CoP σ q ∧ PwF σ q.2.1 ∧ uN (q.2.1.1 1915) ≤ 2000000000 ∧ q.2.1.1 1203 = σ.1 1203) := by
    intro L' τ a e15 e12 k1 k2
    refine Tm_mono (b1 L' τ 0 0 a e15 e12 (by omega) (by omega)) (fun q z => ?_)
    obtain ⟨z1, z2, z3⟩ := z
    refine ⟨z1, ?_, z3⟩
    have z21 : 0 + q.2.2.1 + PhC q.2.1 ≤ PhC σ := z2.1
    have z22 : 0 + q.2.2.2 + PhS q.2.1 ≤ PhS σ := z2.2
    exact ⟨by omega, by omega⟩
  have e6 : uN (60000 : Int32) = 60000 := rfl
  have e0 : (0 : Int32).toNatClampNeg = 0 := rfl
  refine Tm_suc (fun k => by rw [f_X3_putOut]) ?_
  refine Tm_ite (fun _ => b1' _ _ (PwF_r σ) rfl rfl (Nat.le_refl _) (Nat.le_refl _)) (fun cn => ?_)
  generalize hn : (if 60000 - σ.1 1915 < σ.1 1203 then 60000 - σ.1 1915 else σ.1 1203) = n at *
  -- it is positive, and printed is below 60000
  have nn : uN n ≤ 10400 ∧ uN (σ.1 1915) + uN n ≤ 60000 := by
    by_cases lt : uN (σ.1 1915) ≤ 60000
    · have es : uN (60000 - σ.1 1915) = 60000 - uN (σ.1 1915) := by rw [u_sub (by omega), e6]
      by_cases cc : 60000 - σ.1 1915 < σ.1 1203
      · rw [if_pos cc] at hn
        have cc' := cc
        rw [u_ltn (by omega) (by omega), es] at cc'
        rw [← hn]; omega
      · rw [if_neg cc] at hn
        have cc' := cc
        rw [u_ltn (by omega) (by omega), es] at cc'
        rw [← hn]; omega
    · exfalso
      apply cn
      have neg : (60000 - σ.1 1915) < 0 := by
        rw [u_neg]
        exact u_subn (by omega) (by omega)
      have lt2 : 60000 - σ.1 1915 < σ.1 1203 := by
        rw [i_lt] at neg ⊢
        have h0 : (0 : Int32).toInt = 0 := rfl
        have h1 : 0 ≤ (σ.1 1203).toInt := by
          have q : ¬ σ.1 1203 < 0 := by rw [u_neg]; omega
          rw [i_lt] at q
          omega
        omega
      rw [if_pos lt2] at hn
      rw [← hn]
      rw [i_le]
      rw [i_lt] at neg
      exact Int.le_of_lt neg
  have ea : uN (σ.1 1915 + n) = uN (σ.1 1915) + uN n := u_add (by omega)
  have s22 := by0.2.2.2.1
  have b2 : ∀ (L' : LV) (τ : CS) (n1 n2 : Nat), L'.1 1 = n → PwF σ τ → τ.1 = σ.1 → BY P τ → uN (σ.1 1915) + uN n ≤ sN τ 22 → n1 + PhC τ ≤ PhC σ → n2 + PhS τ ≤ PhS σ → Tm (fun k => f_X3_putOut k 2 L' τ) (fun q => q.1 = (0, 0) ∧ CoP σ (q.1, q.2.1, (n1 + q.2.2.1, n2 + q.2.2.2)) ∧ PwF σ q.2.1 ∧ uN (q.2.1.1 1915) ≤ 2000000000 ∧ q.2.1.1 1203 = σ.1 1203) := by
    intro L' τ n1 n2 l1 a e1 byt sz k1 k2
    refine Tm_suc (fun k => by rw [f_X3_putOut]) ?_
    rw [l1, e1]
    refine Tm_chk ⟨by decide, ?_, ?_, ?_, ?_⟩ ?_
    · rw [u_neg]; omega
    · rw [u_neg]; omega
    · rw [e0, u_cl (by omega)]; omega
    · rw [u_cl (by omega), u_cl (by omega)]; exact sz
    refine Tm_chk (fun i _ => byt.1 _) ?_
    have ph := Ph_s (σ := τ) (σ' := uF τ 22 (va_cpy (τ.2.2.1 13) (τ.2.2.1 22) (0 : Int32).toNatClampNeg (σ.1 1915).toNatClampNeg n.toNatClampNeg)) rfl
    exact b1 _ _ n1 n2 (PwF_t a (PwF_F τ _)) (by show τ.1 1915 = _; rw [e1]) (by show τ.1 1203 = _; rw [e1]) (by omega) (by omega)
  refine Tm_chk ⟨by decide, by decide, by omega⟩ ?_
  refine Tm_ite (fun cw => ?_) (fun cw => ?_)
  · refine Tm_chk (fun i _ => by0.2.1 i) ?_
    refine Tm_adR ?_
    have c60 : (60000 : Int32).toNatClampNeg = 60000 := rfl
    rw [c60] at cw
    have z := Ph_z22 cw.2
    refine Tm_mono (b2 _ (uZ σ 22 (60000 : Int32).toNatClampNeg) 1 60000 rfl (PwF_Z σ _) rfl (BY_Z ⟨fun _ => by decide, fun z => absurd z (by decide)⟩ by0) ?_ ?_ ?_) (fun q z => z)
    · show uN (σ.1 1915) + uN n ≤ updN (sN σ) 22 (60000 : Int32).toNatClampNeg 22
      unfold updN
      rw [if_pos rfl, c60]; omega
    · rw [c60]; omega
    · rw [c60]; omega
  · have sz : uN (σ.1 1915) + uN n ≤ sN σ 22 := by
      rcases Nat.lt_or_ge (sN σ 22) (uN (σ.1 1915) + uN n) with y | y
      · exfalso
        apply cw
        refine ⟨?_, ?_⟩
        · rw [u_ltn (by rw [u_n (by omega)]; omega) (by omega), ea, u_n (by omega)]; exact y
        · show sN σ 22 < 60000
          omega
      · exact y
    refine Tm_mono (b2 _ σ 0 0 rfl (PwF_r σ) rfl by0 sz (by omega) (by omega)) (fun q z => ?_)
    obtain ⟨z1, z2, z3⟩ := z
    refine ⟨z1, ?_, z3⟩
    have z21 : 0 + q.2.2.1 + PhC q.2.1 ≤ PhC σ := z2.1
    have z22 : 0 + q.2.2.2 + PhS q.2.1 ≤ PhS σ := z2.2
    exact ⟨by omega, by omega⟩
theorem c_printM (p : Pre c g l t K K2 K3 K4 B KB f0 u0 σ fs u d r pb nf nc sq) (cs : tcS c u0) (by0 : BY P σ) {d' n : Nat} (hd : d = d' + n) (h1 : uN (L.1 1) = n) (nx : Nx c (uN (σ.1 1900)) u d' r rk) : Tm (fun k => f_X3_print k 0 L σ) (fun q => q.1.1 = 0 ∧ IO c B KB f0 u0 σ (mu σ (qv nf sq rk)) ((0, 0), q.2.1, (q.2.2.1 + 0, q.2.2.2 + 0))) := by
  have mi := p.1
  have ts := TyS_sp p.2.1
  obtain ⟨st1, st2, st3⟩ := mi.2.1.1
  have u1 : uN (1 : Int32) = 1 := rfl
  have e6 : uN (60000 : Int32) = 60000 := rfl
  have es : uN (σ.1 1902 - L.1 1) = uN (σ.1 1902) - n := by rw [u_sub (by omega), h1]
  generalize hT : uN (σ.1 1902) = T at *
  -- the end
  have fin : ∀ (L' : LV) (τ : CS) (n1 n2 : Nat), PwF σ τ → uN (τ.1 1915) ≤ 2000000000 → n1 + PhC τ ≤ PhC σ → n2 + PhS τ ≤ PhS σ → L'.1 1 = L.1 1 → Tm (fun k => f_X3_print k 2 L' τ) (fun q => (fun z : RS => z.1.1 = 0 ∧ IO c B KB f0 u0 σ (mu σ (qv nf sq rk)) ((0, 0), z.2.1, (z.2.2.1 + 0, z.2.2.2 + 0))) (q.1, q.2.1, (n1 + q.2.2.1, n2 + q.2.2.2))) := by
    intro L' τ n1 n2 a h15 k1 k2 l1
    have pt : Pre c g l t K K2 K3 K4 B KB f0 u0 τ fs u d r pb nf nc sq := ⟨MIn_pr mi a h15, TyS_k p.2.1 ⟨a.1 1901 (by decide), a.1 1815 (by decide), a.1 1811 (by decide), a.1 1908 (by decide)⟩ (by rw [a.1 1902 (by decide)]; exact p.2.1.1) (fun _ _ => rfl) p.2.1.2.2.1 p.2.1.2.2.2.2.2.2.2.2, by rw [a.1 1905 (by decide)]; exact p.2.2.1, by rw [a.1 1812 (by decide)]; exact p.2.2.2.1, p.2.2.2.2⟩
    obtain ⟨pd, _⟩ := Pre_dr (x := L.1 1) (d' := d') (n := n) pt hd h1 nx.choose_spec.2.2
    refine Tm_suc (fun k => by rw [f_X3_print]) ?_
    rw [l1]
    refine Tm_some ⟨rfl, ?_⟩
    have z := fl_fin (σ' := uI τ 1902 (τ.1 1902 - L.1 1)) (rk := rk) pd rfl (fun _ _ => rfl) (by
      show Nx c (uN (τ.1 1900)) u d' r rk
      rw [a.1 1900 (by decide)]; exact nx)
    have mE : mu (uI τ 1902 (τ.1 1902 - L.1 1)) (qv nf sq rk) = mu σ (qv nf sq rk) := mu_e (a.1 1905 (by decide)) (a.1 1814 (by decide)) _
    rw [mE] at z
    obtain ⟨z1, z2, z3, z4, z5⟩ := z
    have ph := Ph_s (σ := τ) (σ' := uI τ 1902 (τ.1 1902 - L.1 1)) rfl
    exact ⟨rfl, ⟨by show n1 + 0 + 0 + PhC (uI τ 1902 (τ.1 1902 - L.1 1)) ≤ _; omega, by show n2 + 0 + 0 + PhS (uI τ 1902 (τ.1 1902 - L.1 1)) ≤ _; omega⟩, MFr_t (PwF_M a) (MFr_t (Md_M (Md_i τ (by decide) _)) z3), fun n => absurd cs n, z5⟩
  have b1 : ∀ (m : Nat) (L' : LV) (τ : CS) (n1 n2 : Nat), PwF σ τ → BY P τ → uN (τ.1 1915) ≤ 2000000000 → n1 + PhC τ ≤ PhC σ → n2 + PhS τ ≤ PhS σ → L'.1 1 = L.1 1 → uN (L'.1 2) + m = T → T - n ≤ uN (L'.1 2) → (uN (L'.1 2) = T - n ∨ uN (τ.1 1203) ≤ 10400 ∨ kdC (σ.2.2.1 3) (σ.2.2.1 20 (uN (L'.1 2) - 1)) = 4) → Tm (fun k => f_X3_print k 1 L' τ) (fun q => (fun z : RS => z.1.1 = 0 ∧ IO c B KB f0 u0 σ (mu σ (qv nf sq rk)) ((0, 0), z.2.1, (z.2.2.1 + 0, z.2.2.2 + 0))) (q.1, q.2.1, (n1 + q.2.2.1, n2 + q.2.2.2))) := by
    intro m
    induction m with
    | zero =>
      intro L' τ n1 n2 a byt h15 k1 k2 l1 l2 l3 hj
      have e02 : τ.1 1902 = σ.1 1902 := a.1 1902 (by decide)
      refine Tm_suc (fun k => by rw [f_X3_print]) ?_
      rw [e02]
      exact Tm_yes (by rw [u_le (by omega) (by omega)]; omega) (fin _ _ _ _ a h15 k1 k2 l1)
    | succ m ih =>
      intro L' τ n1 n2 a byt h15 k1 k2 l1 l2 l3 hj
      have e02 : τ.1 1902 = σ.1 1902 := a.1 1902 (by decide)
      have r20 : τ.2.2.1 20 = σ.2.2.1 20 := a.2.2.1 20 (by decide)
      have r3 : τ.2.2.1 3 = σ.2.2.1 3 := a.2.2.1 3 (by decide)
      have n20 : sN τ 20 = sN σ 20 := a.2.2.2.1 20 (by decide)
      have hq : HQ g l t τ := (MIn_pr mi a h15).1
      have gx := (Ty_v p (q := (uN (L'.1 2))) (by omega) (by omega))
      generalize hh : σ.2.2.1 20 (uN (L'.1 2)) = h at *
      have i2 : ¬ (L'.1 2 < 0 ∨ sN τ 20 ≤ (L'.1 2).toNatClampNeg) := u_in (by omega) (by omega)
      have c2 : (L'.1 2).toNatClampNeg = uN (L'.1 2) := u_cl (by omega)
      have ll := lnC_lt (σ.2.2.1 3) h
      -- on to the next
      have b6 : ∀ (L2 : LV) (ρ : CS) (m1 m2 : Nat), PwF σ ρ → BY P ρ → uN (ρ.1 1915) ≤ 2000000000 → m1 + PhC ρ ≤ PhC σ → m2 + PhS ρ ≤ PhS σ → L2.1 1 = L.1 1 → L2.1 2 = L'.1 2 → (uN (ρ.1 1203) ≤ 10400 ∨ kdC (σ.2.2.1 3) h = 4) → Tm (fun k => f_X3_print k 6 L2 ρ) (fun q => (fun z : RS => z.1.1 = 0 ∧ IO c B KB f0 u0 σ (mu σ (qv nf sq rk)) ((0, 0), z.2.1, (z.2.2.1 + 0, z.2.2.2 + 0))) (q.1, q.2.1, (m1 + q.2.2.1, m2 + q.2.2.2))) := by
        intro L2 ρ m1 m2 a2 by2 h2 q1 q2 o1 o2 hh2
        have e21 : uN (L2.1 2 + 1) = uN (L'.1 2) + 1 := by rw [o2, u_inc (by omega)]
        refine Tm_suc (fun k => by rw [f_X3_print]) ?_
        refine ih _ _ _ _ a2 by2 h2 q1 q2 o1 ?_ ?_ ?_
        · show uN (L2.1 2 + 1) + m = T
          omega
        · show _ ≤ uN (L2.1 2 + 1)
          omega
        · show uN (L2.1 2 + 1) = T - n ∨ _ ∨ kdC (σ.2.2.1 3) (σ.2.2.1 20 (uN (L2.1 2 + 1) - 1)) = 4
          rw [e21, Nat.add_sub_cancel, hh]
          exact Or.inr hh2
      have b9 : ∀ (L2 : LV) (ρ : CS), PwF σ ρ → BY P ρ → uN (ρ.1 1915) ≤ 2000000000 → n1 + PhC ρ ≤ PhC σ → n2 + PhS ρ ≤ PhS σ → L2.1 1 = L.1 1 → L2.1 2 = L'.1 2 → uN (ρ.1 1203) ≤ 10400 → Tm (fun k => f_X3_print k 9 L2 ρ) (fun q => (fun z : RS => z.1.1 = 0 ∧ IO c B KB f0 u0 σ (mu σ (qv nf sq rk)) ((0, 0), z.2.1, (z.2.2.1 + 0, z.2.2.2 + 0))) (q.1, q.2.1, (n1 + q.2.2.1, n2 + q.2.2.2))) := by
        intro L2 ρ a2 by2 h2 q1 q2 o1 o2 h12
        refine Tm_suc (fun k => by rw [f_X3_print]) ?_
        refine Tm_op (Tm_By (c_put h12) (fun k => kb_y_X6_put _ _ _ _ by2)) (fun q3 z3 => ?_)
        have p3 := PwF_t a2 (PwF_P z3.1.1)
        have e15 : q3.2.1 1915 = ρ.1 1915 := z3.1.1.1 1915 (by decide)
        have ph := Ph_s (σ := ρ) (σ' := q3.2) (by rw [z3.1.1.2.2.2])
        refine Tm_oxk (Q := fun z : RS => z.1.1 = 0 ∧ IO c B KB f0 u0 σ (mu σ (qv nf sq rk)) ((0, 0), z.2.1, (z.2.2.1 + 0, z.2.2.2 + 0))) (Tm_Bf (c_putOut z3.2 (by rw [e15]; exact h2) z3.1.2) (fun k => kb_f_X3_putOut _ _ _ _ z3.2)) (fun q z => by rw [z.1.1]) (fun q4 z4 => ?_)
        obtain ⟨⟨w1, w2, w3, w4, w5⟩, w6⟩ := z4
        have w21 := w2.1
        have w22 := w2.2
        exact b6 _ _ _ _ (PwF_t p3 w3) w6 w4 (by omega) (by omega) o1 o2 (Or.inl (by rw [w5]; exact z3.1.2))
      have b7 : ∀ (L2 : LV), L2.1 1 = L.1 1 → L2.1 2 = L'.1 2 → Tm (fun k => f_X3_print k 7 L2 τ) (fun q => (fun z : RS => z.1.1 = 0 ∧ IO c B KB f0 u0 σ (mu σ (qv nf sq rk)) ((0, 0), z.2.1, (z.2.2.1 + 0, z.2.2.2 + 0))) (q.1, q.2.1, (n1 + q.2.2.1, n2 + q.2.2.2))) := by
        intro L2 o1 o2
        refine Tm_suc (fun k => by rw [f_X3_print]) ?_
        rw [o2]
        refine Tm_chk i2 ?_
        rw [c2, r20, hh]
        refine Tm_oxk (Q := fun z : RS => z.1.1 = 0 ∧ IO c B KB f0 u0 σ (mu σ (qv nf sq rk)) ((0, 0), z.2.1, (z.2.2.1 + 0, z.2.2.2 + 0))) (Tm_Bf (c_printPlain hq gx) (fun k => kb_f_X6_printPlain _ _ _ _ byt)) (fun q z => z.1.1) (fun q4 z4 => ?_)
        obtain ⟨⟨w1, w2, w3, w4⟩, w5⟩ := z4
        have p4 := PwF_t a (PwF_P w3)
        have e15 : q4.2.1.1 1915 = τ.1 1915 := w3.1 1915 (by decide)
        have ph := Ph_s (σ := τ) (σ' := q4.2.1) (by rw [w3.2.2.2])
        have w21 : q4.2.2.1 = 0 := by rw [w2]
        have w22 : q4.2.2.2 = 0 := by rw [w2]
        rw [w21, w22, Nat.add_zero, Nat.add_zero]
        refine Tm_ite (fun _ => ?_) (fun _ => ?_)
        · refine Tm_suc (fun k => by rw [f_X3_print]) ?_
          exact b9 _ _ p4 w5 (by rw [e15]; exact h15) (by omega) (by omega) o1 o2 w4
        · exact b9 _ _ p4 w5 (by rw [e15]; exact h15) (by omega) (by omega) o1 o2 w4
      have cnt : ∀ (L2 : LV) (x : Int32), uN x ≤ 20000 → L2.1 1 = L.1 1 → L2.1 2 = L'.1 2 → (uN (τ.1 1203) ≤ 10400 ∨ kdC (σ.2.2.1 3) h = 4) → Tm (fun k => Jvm.Pilot.CSetHouseLaw_law_r7351_1de140.op (y_X3_countOut k 0 (lI lZ 1 x) τ) (fun r7 => f_X3_print k 6 L2 r7.2)) (fun q => (fun z : RS => z.1.1 = 0 ∧ IO c B KB f0 u0 σ (mu σ (qv nf sq rk)) ((0, 0), z.2.1, (z.2.2.1 + 0, z.2.2.2 + 0))) (q.1, q.2.1, (n1 + q.2.2.1, n2 + q.2.2.2))) := by
        intro L2 x hx o1 o2 hh2
        refine Tm_op (c_countOut h15 hx) (fun q3 z3 => ?_)
        obtain ⟨v, z1, z2⟩ := z3
        rw [z1]
        have ph := Ph_s (σ := τ) (σ' := uI τ 1915 v) rfl
        exact b6 _ _ _ _ (PwF_t a (PwF_15 τ v)) (BY_I (by decide) byt) z2 (by omega) (by omega) o1 o2 hh2
      have b5 : ∀ (L2 : LV), L2.1 1 = L.1 1 → L2.1 2 = L'.1 2 → (L2.1 3 = 0 ∨ τ.1 1915 < 60000 ∨ uN (τ.1 1203) ≤ 10400) → Tm (fun k => f_X3_print k 5 L2 τ) (fun q => (fun z : RS => z.1.1 = 0 ∧ IO c B KB f0 u0 σ (mu σ (qv nf sq rk)) ((0, 0), z.2.1, (z.2.2.1 + 0, z.2.2.2 + 0))) (q.1, q.2.1, (n1 + q.2.2.1, n2 + q.2.2.2))) := by
        intro L2 o1 o2 h3
        refine Tm_suc (fun k => by rw [f_X3_print]) ?_
        refine Tm_ite (fun _ => b7 _ o1 o2) (fun c60 => Tm_ite (fun _ => b7 _ o1 o2) (fun c0 => ?_))
        rcases h3 with y | y | y
        · exact absurd y c0
        · exact absurd y c60
        · exact cnt _ _ (by omega) o1 o2 (Or.inl y)
      have b4 : ∀ (L2 : LV), L2.1 1 = L.1 1 → L2.1 2 = L'.1 2 → (L2.1 100 = 0 ∨ (T - n < uN (L'.1 2) ∧ σ.2.2.1 20 (uN (L'.1 2) - 1) = h)) → Tm (fun k => f_X3_print k 4 L2 τ) (fun q => (fun z : RS => z.1.1 = 0 ∧ IO c B KB f0 u0 σ (mu σ (qv nf sq rk)) ((0, 0), z.2.1, (z.2.2.1 + 0, z.2.2.2 + 0))) (q.1, q.2.1, (n1 + q.2.2.1, n2 + q.2.2.2))) := by
        intro L2 o1 o2 hag
        refine Tm_suc (fun k => by rw [f_X3_print]) ?_
        refine Tm_ite (fun c60 => b5 _ o1 o2 (Or.inr (Or.inl c60))) (fun c60 => ?_)
        rw [o2]
        refine Tm_chk i2 ?_
        rw [c2, r20, hh]
        refine Tm_op (c_kind hq gx) (fun q3 z3 => ?_)
        rw [z3, r3]
        refine Tm_ite (fun k4 => ?_) (fun k4 => ?_)
        · have k4' : kdC (σ.2.2.1 3) h = 4 := kd_n (n := 4) (by decide) k4
          refine Tm_chk (by rw [c2] at i2; exact i2) ?_
          show Tm (fun k => Jvm.Pilot.CSetHouseLaw_law_r7351_1de140.op (y_X1_length k 0 (lI lZ 1 (τ.2.2.1 20 (uN (L'.1 2)))) τ) _) _
          rw [r20, hh]
          refine Tm_op (c_length hq gx) (fun q6 z6 => ?_)
          rw [z6, r3]
          refine cnt _ _ ?_ o1 o2 (Or.inr k4')
          show uN (nI (lnC (σ.2.2.1 3) h) + 1) ≤ _
          rw [u_inc (by rw [u_n (by omega)]; omega), u_n (by omega)]
          omega
        · refine b5 _ o1 o2 ?_
          rcases hag with y | y
          · exact Or.inl y
          · right; right
            rcases hj with z | z | z
            · omega
            · exact z
            · rw [y.2] at z
              exfalso
              apply k4
              show nI (kdC (σ.2.2.1 3) h) = 4
              rw [z]
              rfl
      have b3 : ∀ (L2 : LV), L2.1 1 = L.1 1 → L2.1 2 = L'.1 2 → Tm (fun k => f_X3_print k 3 L2 τ) (fun q => (fun z : RS => z.1.1 = 0 ∧ IO c B KB f0 u0 σ (mu σ (qv nf sq rk)) ((0, 0), z.2.1, (z.2.2.1 + 0, z.2.2.2 + 0))) (q.1, q.2.1, (n1 + q.2.2.1, n2 + q.2.2.2))) := by
        intro L2 o1 o2
        refine Tm_suc (fun k => by rw [f_X3_print]) ?_
        exact b4 _ o1 o2 (Or.inl rfl)
      refine Tm_suc (fun k => by rw [f_X3_print]) ?_
      rw [e02, l1]
      refine Tm_no (by rw [u_le (by omega) (by omega)]; omega) ?_
      refine Tm_ite (fun _ => b3 _ l1 rfl) (fun cg => ?_)
      rw [u_le (by omega) (by omega), es] at cg
      have e1 : uN (L'.1 2 - 1) = uN (L'.1 2) - 1 := by rw [u_sub (by omega), u1]
      refine Tm_chk i2 ?_
      refine Tm_chk (u_in (by omega) (by omega)) ?_
      rw [c2, r20, hh, u_cl (x := L'.1 2 - 1) (by omega), e1]
      refine Tm_ite (fun cq => ?_) (fun _ => b3 _ l1 rfl)
      exact b4 _ l1 rfl (Or.inr ⟨by omega, cq.symm⟩)
  refine Tm_suc (fun k => by rw [f_X3_print]) ?_
  refine Tm_mono (b1 n _ σ 0 0 (PwF_r σ) by0 mi.2.2.2.2.2.2.2.2.2.2 (by omega) (by omega) rfl ?_ ?_ (Or.inl ?_)) (fun q z => ?_)
  · show uN (σ.1 1902 - L.1 1) + n = T
    omega
  · show T - n ≤ uN (σ.1 1902 - L.1 1)
    omega
  · exact es
  · have z1 := z.1
    have z2 : IO c B KB f0 u0 σ (mu σ (qv nf sq rk)) ((0, 0), q.2.1, (0 + q.2.2.1 + 0, 0 + q.2.2.2 + 0)) := z.2
    rw [Nat.zero_add, Nat.zero_add] at z2
    exact ⟨z1, z2⟩
end CTX

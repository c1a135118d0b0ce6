/-! The class: iterators of fors. -/
section CTF
variable {g g' g2 : Nat → Prop} {l l' l2 : List Nat} {t t' t2 : Nat} {σ σ' σ2 : CS} {L : LV} {x y i : Int32} {M M' U U' : Nat → Int32} {K K' K2 K2' K3 K4 K4' KB : Nat → Option Int32} {c : Ct} {B f0 u0 : Nat} {fs : List FrT} {u d : Nat} {r r' : List Nat} {pb nf nc sq rk : Nat}
theorem AllM_t : ∀ r : List Nat, AllM (fun _ => True) r
  | [] => trivial
  | e :: r => ⟨fun _ _ _ => trivial, fun _ => AllM_t r⟩
/-- the slots of the frame in use -/
theorem WP_sl {fp n : Nat} (hn : n < bt d r) (sb : SlB r) (ha : AllM (fun i => ¬ i = n) r) : WP c g l t K2 K3 K4 B KB f0 u0 fs u d r pb nf nc sq fp (fp + 4 + n) := by
  intro τ K x p e gx
  have ts := TyS_sp p.2.1
  have z := Pre_20 (n := n) (mk := none) p hn sb (Or.inl ⟨rfl, gx⟩) (Mrl_rf _ ha) (fun i s q b => by
    by_cases y : i % 500000 = n
    · exact Or.inr ⟨y, Mkk_n (fun lt => q.2 (by omega))⟩
    · exact Or.inl ⟨q.1, y⟩) (fun i s q b => q.1)
  rw [e] at z ts
  exact ⟨by omega, z.2.1, z.2.2⟩
/-- what is gone over in a for, and its number: let go -/
theorem lg_20 (p : Pre c g l t K K2 K3 K4 B KB f0 u0 σ fs u d r pb nf nc sq) {n : Nat} (hn : n + 1 < bt d r) (sb : SlB r) (hf : tcF c u ≤ n) (ha : AllM (fun i => i < bsl → ¬ i % 500000 = n + 1) r) : ∃ K', Pre c g l t K' K2 K3 K4 B KB f0 u0 (uA (uA σ 20 (uN (σ.1 1901) + 4 + n) (-2147483648)) 20 (uN (σ.1 1901) + 4 + (n + 1)) (-2147483648)) fs u d r pb nf nc sq ∧ Go c u0 σ (uA (uA σ 20 (uN (σ.1 1901) + 4 + n) (-2147483648)) 20 (uN (σ.1 1901) + 4 + (n + 1)) (-2147483648)) := by
  have om : NoW (σ.2.2.1 3) (-2147483648) := fun lt => absurd lt (by decide)
  have p1 := Pre_20 (x := -2147483648) (n := n) (mk := some mkR) (r' := r) (Q := fun i s => i ∈ s ∧ True) p (by omega) sb (Or.inr (Or.inl ⟨rfl, ⟨Gv_om g, om⟩, hf⟩)) (Mrl_rf _ (AllM_t r)) (fun i s q b => by
    by_cases y : i % 500000 = n
    · exact Or.inr ⟨y, Mkk_r _⟩
    · exact Or.inl ⟨q.1, y⟩) (fun i s q b => q.1)
  have p2 := Pre_20 (x := -2147483648) (n := n + 1) (mk := none) p1.2.1 hn sb (Or.inl ⟨rfl, Gv_om g⟩) (Mrl_rf _ ha) (fun i s q b => Or.inl ⟨q.1, q.2 b⟩) (fun i s q b => q.1)
  exact ⟨_, p2.2.1, Go_t p1.2.2 p2.2.2⟩
theorem c_letGo20 (p : Pre c g l t K K2 K3 K4 B KB f0 u0 σ fs u d r pb nf nc sq) (cs : tcS c u0) {n : Nat} (hn : n + 1 < bt d r) (sb : SlB r) (hf : tcF c u ≤ n) (h2 : uN (L.1 2) = uN (σ.1 1901) + 4 + n) (ha : AllM (fun i => i < bsl → ¬ i % 500000 = n + 1) r) : Tm (fun k => y_X3_letGo__z20 k 0 L σ) (fun q => ∃ K', Pre c g l t K' K2 K3 K4 B KB f0 u0 q.2 fs u d r pb nf nc sq ∧ Go c u0 σ q.2 ∧ q.2.1 1901 = σ.1 1901) := by
  have st := p.1.2.1.1
  have ts := TyS_sp p.2.1
  have i2 : ∀ τ : CS, sN τ 20 = sN σ 20 → ¬ (L.1 2 < 0 ∨ sN τ 20 ≤ (L.1 2).toNatClampNeg) := fun τ e => u_in (by omega) (by omega)
  have e21 : uN (L.1 2 + 1) = uN (σ.1 1901) + 4 + (n + 1) := by rw [u_inc (by omega), h2]; omega
  have c2 : (L.1 2).toNatClampNeg = uN (σ.1 1901) + 4 + n := by rw [u_cl (by omega)]; exact h2
  have c21 : (L.1 2 + 1).toNatClampNeg = uN (σ.1 1901) + 4 + (n + 1) := by rw [u_cl (by omega)]; exact e21
  have b1 : ∀ (τ : CS) (L' : LV), L'.1 2 = L.1 2 → Pre c g l t K K2 K3 K4 B KB f0 u0 τ fs u d r pb nf nc sq → Go c u0 σ τ → τ.1 1901 = σ.1 1901 → Tm (fun k => y_X3_letGo__z20 k 1 L' τ) (fun q => ∃ K', Pre c g l t K' K2 K3 K4 B KB f0 u0 q.2 fs u d r pb nf nc sq ∧ Go c u0 σ q.2 ∧ q.2.1 1901 = σ.1 1901) := by
    intro τ L' l2 pt gt f1
    have es : sN τ 20 = sN σ 20 := by show τ.2.2.2.2.1 20 = _; rw [gt.2.2.1]
    obtain ⟨K', z1, z2⟩ := lg_20 pt hn sb hf ha
    refine Tm_suc (fun k => by rw [y_X3_letGo__z20]) ?_
    rw [l2]
    refine Tm_chk (i2 τ es) ?_
    refine Tm_chk (u_in (x := L.1 2 + 1) (by show uN (L.1 2 + 1) < sN τ 20; omega) (by show sN τ 20 ≤ _; omega)) ?_
    rw [c2, c21]
    rw [f1] at z1 z2
    exact Tm_some ⟨K', z1, Go_t gt z2, f1⟩
  refine Tm_suc (fun k => by rw [y_X3_letGo__z20]) ?_
  refine Tm_ite (fun _ => b1 σ _ rfl p (Go_r σ) rfl) (fun _ => ?_)
  refine Tm_chk (i2 σ rfl) ?_
  refine Tm_ite (fun _ => b1 σ _ rfl p (Go_r σ) rfl) (fun _ => ?_)
  refine Tm_chk (i2 σ rfl) ?_
  refine Tm_oc (c_sizeW p.1.1 (by show Gw g (σ.2.2.1 20 (L.1 2).toNatClampNeg); rw [c2]; exact (st.2.2 _ (by omega)).1)) (fun q z => ?_)
  have e : q.2 = σ := z.1
  rw [e]
  obtain ⟨pa, ga⟩ := Pre_tl p cs (Or.inl rfl) (σ.1 1909 - q.1)
  obtain ⟨pb', gb⟩ := Pre_tl pa cs (Or.inr rfl) ((uI σ 1909 (σ.1 1909 - q.1)).1 1910 - q.1)
  exact b1 _ _ rfl pb' (Go_t ga gb) rfl
theorem c_goOver20 (p : Pre c g l t K K2 K3 K4 B KB f0 u0 σ fs u (d + 1) r pb nf nc sq) (cs : tcS c u0) (fb : tcF c u ≤ bt d r) {n : Nat} (hn : n + 1 < bt d r) (sb : SlB r) (hf : tcF c u ≤ n) (h2 : uN (L.1 2) = uN (σ.1 1901) + 4 + n) (hr : Mrl (fun i s => i = n ∨ i ∈ s) r' r) (ha : AllM (fun i => i < bsl → ¬ i % 500000 = n + 1) r') (sb' : SlB r') (nx : Nx c (uN (σ.1 1900)) u d r' rk) : Tm (fun k => y_X3_goOver__z20 k 0 L σ) (fun q => IO c B KB f0 u0 σ (mu σ (qv nf sq rk)) ((0, 0), q.2, (0, 0))) := by
  have mi := p.1
  have ty := p.2.1
  obtain ⟨st1, st2, st3⟩ := mi.2.1.1
  have ts := TyS_sp ty
  have gh := (Ty_v p (q := (uN (σ.1 1902) - 1)) (by omega) (by omega))
  obtain ⟨pd, es⟩ := Pre_dr (x := 1) (d' := d) (n := 1) p rfl rfl fb
  have td := TyS_sp pd.2.1
  have kl := kdC_lt (σ.2.2.1 3) (σ.2.2.1 20 (uN (σ.1 1902) - 1))
  have es' : uN ((uI σ 1902 (σ.1 1902 - 1)).1 1902) = uN (σ.1 1902) - 1 := es
  have f1' : uN ((uI σ 1902 (σ.1 1902 - 1)).1 1901) = uN (σ.1 1901) := rfl
  have e21 : uN (L.1 2 + 1) = uN (σ.1 1901) + 4 + (n + 1) := by rw [u_inc (by omega), h2]; omega
  have c2 : (L.1 2).toNatClampNeg = uN (σ.1 1901) + 4 + n := by rw [u_cl (by omega)]; exact h2
  have c21 : (L.1 2 + 1).toNatClampNeg = uN (σ.1 1901) + 4 + (n + 1) := by rw [u_cl (by omega)]; exact e21
  have nb : n < bsl := by unfold bsl; omega
  have n5 : n < 500000 := by omega
  have fail : ∀ (a : Int32), ¬ a = 0 → Tm (fun k => oc (y_X3_fail k 0 (lI lZ 1 a) (uI σ 1902 (σ.1 1902 - 1))) (fun r4 => some (0, r4.2))) (fun q => IO c B KB f0 u0 σ (mu σ (qv nf sq rk)) ((0, 0), q.2, (0, 0))) := by
    intro a a0
    refine Tm_oc c_fail (fun q2 e2 => ?_)
    rw [e2]
    refine Tm_some (ha_go pd (Go_dr σ _) rfl (fun j hj => ?_) rfl (f13 a0))
    show upd (upd (upd σ.1 1902 _) 1813 _) 1812 1 j = upd σ.1 1902 _ j
    rw [upd_other (by omega), upd_other (by omega)]
  have b2 : ∀ (τ : CS) (L' : LV), L'.1 2 = L.1 2 → L'.1 4 = σ.2.2.1 20 (uN (σ.1 1902) - 1) → NoW (σ.2.2.1 3) (L'.1 4) → Pre c g l t K K2 K3 K4 B KB f0 u0 τ fs u d r pb nf nc sq → Go c u0 σ τ → τ.1 1901 = σ.1 1901 → τ.2.2.1 3 = σ.2.2.1 3 → Tm (fun k => y_X3_goOver__z20 k 2 L' τ) (fun q => IO c B KB f0 u0 σ (mu σ (qv nf sq rk)) ((0, 0), q.2, (0, 0))) := by
    intro τ L' l2 l4 nw pt gt f1 r3
    have eN : sN τ 20 = sN σ 20 := by show τ.2.2.2.2.1 20 = _; rw [gt.2.2.1]
    have p1 := Pre_20 (x := L'.1 4) (n := n) (mk := some mkR) pt (by omega) sb (Or.inr (Or.inl ⟨rfl, ⟨by rw [l4]; exact gh, by rw [r3]; exact nw⟩, hf⟩)) hr (fun i s q b => by
      by_cases y : i % 500000 = n
      · exact Or.inr ⟨y, Mkk_r _⟩
      · exact Or.inl ⟨q.resolve_left (fun e => y (by rw [e]; omega)), y⟩) (fun i s q b => q.resolve_left (by omega))
    have p2 := Pre_20 (x := rwN (uN (0 : Int32) % 268435456)) (n := n + 1) (mk := some mkC) p1.2.1 (by rw [Mrl_bt r' r d hr]; exact hn) sb' (Or.inr (Or.inr ⟨rfl, Gw_rr (rwN_r (by omega)), by omega⟩)) (Mrl_rf _ ha) (fun i s q b => Or.inl ⟨q.1, q.2 b⟩) (fun i s q b => q.1)
    have f1u : uN (τ.1 1901) = uN (σ.1 1901) := by rw [f1]
    obtain ⟨-, q1, q2⟩ := p1
    obtain ⟨-, q3, q4⟩ := p2
    have q3' : Pre c g l t _ K2 K3 K4 B KB f0 u0 (uA (uA τ 20 (uN (τ.1 1901) + 4 + n) (L'.1 4)) 20 (uN (τ.1 1901) + 4 + (n + 1)) (rwN (uN (0 : Int32) % 268435456))) fs u d r' pb nf nc sq := q3
    have q4' : Go c u0 _ (uA (uA τ 20 (uN (τ.1 1901) + 4 + n) (L'.1 4)) 20 (uN (τ.1 1901) + 4 + (n + 1)) (rwN (uN (0 : Int32) % 268435456))) := q4
    refine Tm_suc (fun k => by rw [y_X3_goOver__z20]) ?_
    rw [l2]
    refine Tm_chk (u_in (x := L.1 2) (by omega) (by omega)) ?_
    refine Tm_oc c_raw (fun q z => ?_)
    rw [z]
    refine Tm_chk (u_in (x := L.1 2 + 1) (by show uN (L.1 2 + 1) < sN τ 20; omega) (by show sN τ 20 ≤ _; omega)) ?_
    refine Tm_suc (fun k => by rw [y_X3_goOver__z20]) ?_
    refine Tm_some ?_
    have ee : uA (uA τ 20 (L.1 2).toNatClampNeg (L'.1 4)) 20 (L.1 2 + 1).toNatClampNeg (rwN (uN (0 : Int32) % 268435456)) = uA (uA τ 20 (uN (τ.1 1901) + 4 + n) (L'.1 4)) 20 (uN (τ.1 1901) + 4 + (n + 1)) (rwN (uN (0 : Int32) % 268435456)) := by rw [c2, c21, f1u]
    show IO c B KB f0 u0 σ (mu σ (qv nf sq rk)) ((0, 0), uA (uA τ 20 (L.1 2).toNatClampNeg (L'.1 4)) 20 (L.1 2 + 1).toNatClampNeg (rwN (uN (0 : Int32) % 268435456)), (0, 0))
    rw [ee]
    refine fl_go q3' (Go_t gt (Go_t q2 q4')) rfl (fun _ _ => rfl) ?_
    show Nx c (uN (τ.1 1900)) u d r' rk
    rw [gt.2.2.2.2.2]
    exact nx
  refine Tm_suc (fun k => by rw [y_X3_goOver__z20]) ?_
  refine Tm_oc (c_pop (by omega) st1 st2.2) (fun q e => ?_)
  rw [e.1]
  refine Tm_ocE (c_kind pd.1.1 gh) ?_
  refine Tm_ite (fun c4 => ?_) (fun _ => fail _ (by decide))
  have c4' : (4 : Int32) ≤ nI (kdC (σ.2.2.1 3) (σ.2.2.1 20 (uN (σ.1 1902) - 1))) := c4
  have u4 : uN (4 : Int32) = 4 := rfl
  rw [u_le (by decide) (by rw [u_n (by omega)]; omega), u4, u_n (by omega)] at c4'
  have nw : NoW (σ.2.2.1 3) (σ.2.2.1 20 (uN (σ.1 1902) - 1)) := by
    intro lt
    unfold kdC at c4'
    rw [if_pos lt] at c4'
    omega
  refine Tm_suc (fun k => by rw [y_X3_goOver__z20]) ?_
  refine Tm_ite (fun _ => b2 _ _ rfl rfl nw pd (Go_dr σ _) rfl rfl) (fun _ => ?_)
  refine Tm_oc (c_size1 pd.1.1 gh) (fun q2 z2 => ?_)
  have e2 : q2.2 = uI σ 1902 (σ.1 1902 - 1) := z2.1
  rw [e2]
  refine Tm_ite (fun _ => ?_) (fun _ => fail _ (by decide))
  refine Tm_suc (fun k => by rw [y_X3_goOver__z20]) ?_
  obtain ⟨pa, ga⟩ := Pre_tl pd cs (Or.inl rfl) ((uI σ 1902 (σ.1 1902 - 1)).1 1909 + q2.1)
  obtain ⟨pb', gb⟩ := Pre_tl pa cs (Or.inr rfl) ((uI (uI σ 1902 (σ.1 1902 - 1)) 1909 ((uI σ 1902 (σ.1 1902 - 1)).1 1909 + q2.1)).1 1910 + q2.1)
  exact b2 _ _ rfl rfl nw pb' (Go_t (Go_dr σ _) (Go_t ga gb)) rfl rfl
end CTF

/-! The class: iterators of exps. -/
section CTC
variable {g g' g2 : Nat → Prop} {l l' l2 : List Nat} {t t' t2 : Nat} {σ σ' σ2 : CS} {L : LV} {x y i : Int32} {M M' U U' : Nat → Int32} {K K' K2 K2' K3 K4 K4' KB : Nat → Option Int32} {c : Ct} {B f0 u0 : Nat} {fs : List FrT} {u d : Nat} {r r' : List Nat} {pb nf nc sq rk : Nat}
/-- a value was laid upon the stack, then one of work done -/
theorem pu_sp (p : Pre c g l t K K2 K3 K4 B KB f0 u0 σ fs u d r pb nf nc sq) (hx : Gv g x) {q : RS} (h : PuO σ x 1 q) {v : Int32} (nx : NxS c (uN v) u (d + 1) r) (q0 : Nat) : IO c B KB f0 u0 σ (mu σ q0) ((0, 0), spS (uI q.2.1 1900 v) 1, (q.2.2.1 + 0, q.2.2.2 + 0)) := by
  have pm := pu_MIn (σ' := uI q.2.1 1900 v) p.1 hx h rfl (fun j hj => upd_other hj)
  obtain ⟨m1, m2, m3⟩ := pm
  have ty := p.2.1
  have ts := TyS_sp ty
  generalize hH : uI q.2.1 1900 v = τ at *
  have s := spS_s τ 1
  have sm := spS_m τ 1
  have e02 := s.2.2
  have mt := MIn_fl (σ' := spS τ 1) m1 s.1 (fun j hj => by
    by_cases z : j = 1
    · rw [z]; exact s.2.1
    by_cases z2 : j = 404 ∨ j = 1203
    · unfold spS
      rcases z2 with e | e <;> subst e <;> split <;> rfl
    exact sm.1 j (by omega)) (by rw [e02]; exact m1.2.2.2.2.2.2.1.2) (by rw [e02]; exact Nat.le_refl _)
  have md := Md_t m2 mt.2
  have ph := Ph_s (σ := τ) (σ' := spS τ 1) (by rw [s.1])
  have c1 : q.2.2.1 + 0 + PhC τ ≤ PhC σ := m3.1
  have c2 : q.2.2.2 + 0 + PhS τ ≤ PhS σ := m3.2
  refine ⟨rfl, ⟨by show q.2.2.1 + 0 + PhC (spS τ 1) ≤ _; omega, by show q.2.2.2 + 0 + PhS (spS τ 1) ≤ _; omega⟩, Md_M md, fun _ => Md_E md, g, l, t, _, _, _, _, mt.1, fun z => ?_, fun z => ?_⟩
  rotate_left
  · have z0 : ¬ (spS τ 1).1 1812 = 0 := z
    refine Or.inl ?_
    show ¬ (spS τ 1).1 1813 = 0
    have s12 : τ.1 1812 = q.2.1.1 1812 := by rw [← hH]; rfl
    have s13 : τ.1 1813 = q.2.1.1 1813 := by rw [← hH]; rfl
    have s05 : τ.1 1905 = q.2.1.1 1905 := by rw [← hH]; rfl
    rcases h.2.2.2.2.2.2 with b | b
    · rcases spS_w (σ := τ) (n := 1) (by decide) (by decide) (by rw [s05, b.2.2.2.2.2]; exact p.2.2.1) with w | w
      · exact w.2
      · exfalso
        rw [w.1, s12, b.2.2.2.1] at z0
        exact z0 p.2.2.2.1
    · rcases spS_13 τ 1 with y | y
      · rw [y, s13]; exact b.2.2.2.2
      · exact y
  have z0 : (spS τ 1).1 1812 = 0 := z
  obtain ⟨a1, a2, a3, a4, a5, a6, a7⟩ := h
  have τj : ∀ j, ¬ j = 1900 → τ.1 j = q.2.1.1 j := fun j hj => by rw [← hH]; exact upd_other hj
  have τ9 : τ.1 1900 = v := by rw [← hH]; rfl
  rcases a7 with ⟨b1, b2, b3, b4, b5, b6⟩ | ⟨b1, b2, b3, b4⟩
  · have w5 : τ.1 1905 = σ.1 1905 := (τj 1905 (by decide)).trans b6
    have w := spS_w (σ := τ) (n := 1) (by decide) (by decide) (by rw [w5]; exact p.2.2.1)
    rcases w with w | w
    · rw [w.1] at z0
      exact absurd z0 (by decide)
    · have fe : ∀ j, ¬ (j = 1 ∨ j = 404 ∨ j = 1203 ∨ j = 1812 ∨ j = 1813 ∨ j = 1902 ∨ j = 1905 ∨ j = 1900) → (spS τ 1).1 j = σ.1 j := fun j hj => (sm.1 j (by omega)).trans ((τj j (by omega)).trans (a3.1 j (by omega)))
      have hs : SL (Kw K (uN (σ.1 1902)) 1 none) (uN (σ.1 1901) + 4) (uN ((spS τ 1).1 1902)) (d + 1) r := by
        rw [e02, τj 1902 (by decide), b1]; exact SL_pu 1 ty.1
      refine go_s (TyS_k ty ⟨fe 1901 (by decide), fe 1815 (by decide), fe 1811 (by decide), fe 1908 (by decide)⟩ hs (fun p hp => Kw_o (Or.inl (by omega))) (Nat.le_trans ty.2.2.1 (bt_m d 1 r)) ty.2.2.2.2.2.2.2.2) (by rw [← w5]; exact w.2.1) w.2.2 (fe 1814 (by decide)) ?_ q0
      rw [sm.1 1900 (by decide), τ9]
      exact nx
  · exfalso
    have t2 : τ.1 1812 = 1 := (τj 1812 (by decide)).trans b3
    unfold spS at z0
    split at z0
    · have z1 : τ.1 1812 = 0 := z0
      rw [t2] at z1
      exact absurd z1 (by decide)
    · exact absurd z0 (by show ¬ (1 : Int32) = 0; decide)
theorem Go_Md (a : Md σ σ') (es : σ'.2.2.2.2.1 = σ.2.2.2.2.1) (e5 : σ'.1 1905 = σ.1 1905) (e9 : σ'.1 1900 = σ.1 1900) : Go c u0 σ σ' := ⟨Md_M a, fun _ => Md_E a, es, e5, a.1 1814 (by decide), e9⟩
theorem c_goOver23 (p : Pre c g l t K K2 K3 K4 B KB f0 u0 σ fs u (d + 1) r pb nf nc sq) (fb : tcF c u ≤ bt d r) {n : Nat} (hn : n + 1 < 180) (h2 : uN (L.1 2) = pb + n) (h3 : L.1 3 = 0) (hr : Mrl (fun i s => i = bsl + n ∨ i ∈ s) r' r) (ha : AllM (fun i => bsl ≤ i → ¬ (i - bsl) % 500000 = n + 1) r') (nx : Nx c (uN (σ.1 1900)) u d r' rk) : Tm (fun k => y_X3_goOver__a23 k 0 L σ) (fun q => IO c B KB f0 u0 σ (mu σ (qv nf sq rk)) ((0, 0), q.2, (0, 0))) := by
  have mi := p.1
  have ty := p.2.1
  obtain ⟨st1, st2, st3⟩ := mi.2.1.1
  have ts := TyS_sp ty
  have fbb := (FC_b _ _ _ _ _ _ _ ty.2.1).1
  have n20 := ty.2.2.2.1.2
  have gh := (Ty_v p (q := (uN (σ.1 1902) - 1)) (by omega) (by omega))
  obtain ⟨pd, es⟩ := Pre_dr (x := 1) (d' := d) (n := 1) p rfl rfl fb
  have kl := kdC_lt (σ.2.2.1 3) (σ.2.2.1 20 (uN (σ.1 1902) - 1))
  refine Tm_suc (fun k => by rw [y_X3_goOver__a23]) ?_
  refine Tm_oc (c_pop (by omega) st1 st2.2) (fun q e => ?_)
  rw [e.1]
  refine Tm_ocE (c_kind pd.1.1 gh) ?_
  refine Tm_ite (fun c4 => ?_) (fun _ => ?_)
  · have c4' : (4 : Int32) ≤ nI (kdC (σ.2.2.1 3) (σ.2.2.1 20 (uN (σ.1 1902) - 1))) := c4
    have u4 : uN (4 : Int32) = 4 := rfl
    rw [u_le (by decide) (by rw [u_n (by omega)]; omega), u4, u_n (by omega)] at c4'
    have nw : NoW (σ.2.2.1 3) (σ.2.2.1 20 (uN (σ.1 1902) - 1)) := by
      intro lt
      unfold kdC at c4'
      rw [if_pos lt] at c4'
      omega
    generalize hh : σ.2.2.1 20 (uN (σ.1 1902) - 1) = hv at *
    refine Tm_suc (fun k => by rw [y_X3_goOver__a23]) ?_
    refine Tm_yes h3 ?_
    have e21 : uN (L.1 2 + 1) = pb + n + 1 := by rw [u_inc (by omega), h2]
    refine Tm_suc (fun k => by rw [y_X3_goOver__a23]) ?_
    refine Tm_chk (u_in (x := L.1 2) (by omega) (by decide)) ?_
    refine Tm_oc c_raw (fun q2 z2 => ?_)
    rw [z2]
    refine Tm_chk (u_in (x := L.1 2 + 1) (by omega) (by decide)) ?_
    refine Tm_suc (fun k => by rw [y_X3_goOver__a23]) ?_
    refine Tm_some ?_
    have p1 := Pre_23 (x := hv) (j := pb + n) (mk := some mkR) pd ⟨by omega, by omega⟩ (Or.inr (Or.inl ⟨rfl, gh, nw⟩)) hr (fun i s q b => by
      rcases q with q | q
      · rw [q] at b
        exact absurd b (by omega)
      · exact q) (fun i s q b => by
      rcases q with q | q
      · right
        rw [q]
        exact ⟨by omega, by omega, Mkk_r _⟩
      · by_cases y : pb + (i - bsl) % 500000 = pb + n
        · right
          exact ⟨by omega, y, Mkk_r _⟩
        · exact Or.inl ⟨q, y⟩)
    have p2 := Pre_23 (x := rwN (uN (0 : Int32) % 268435456)) (j := pb + n + 1) (mk := some mkC) p1.1 ⟨by omega, by omega⟩ (Or.inr (Or.inr ⟨rfl, Gw_rr (rwN_r (by omega))⟩)) (Mrl_rf _ ha) (fun i s q b => q.1) (fun i s q b => Or.inl ⟨q.1, by have := q.2 b; omega⟩)
    have ee : uA (uA (uI σ 1902 (σ.1 1902 - 1)) 23 (L.1 2).toNatClampNeg hv) 23 (L.1 2 + 1).toNatClampNeg (rwN (uN (0 : Int32) % 268435456)) = uA (uA (uI σ 1902 (σ.1 1902 - 1)) 23 (pb + n) hv) 23 (pb + n + 1) (rwN (uN (0 : Int32) % 268435456)) := by
      rw [u_cl (x := L.1 2) (by omega), u_cl (x := L.1 2 + 1) (by omega), h2, e21]
    show IO c B KB f0 u0 σ (mu σ (qv nf sq rk)) ((0, 0), uA (uA (uI σ 1902 (σ.1 1902 - 1)) 23 (L.1 2).toNatClampNeg hv) 23 (L.1 2 + 1).toNatClampNeg (rwN (uN (0 : Int32) % 268435456)), (0, 0))
    rw [ee]
    exact fl_go p2.1 (Go_t (Go_dr σ _) (Go_t p1.2 p2.2)) rfl (fun _ _ => rfl) nx
  · refine Tm_oc c_fail (fun q2 e2 => ?_)
    rw [e2]
    refine Tm_some (ha_go pd (Go_dr σ _) rfl (fun j hj => ?_) rfl (f13 (by decide)))
    show upd (upd (upd σ.1 1902 _) 1813 _) 1812 1 j = upd σ.1 1902 _ j
    rw [upd_other (by omega), upd_other (by omega)]
theorem c_letGo23 (p : Pre c g l t K K2 K3 K4 B KB f0 u0 σ fs u d r pb nf nc sq) {n : Nat} (hn : n + 1 < 180) (h2 : uN (L.1 2) = pb + n) (h3 : L.1 3 = 0) (ha : AllM (fun i => bsl ≤ i → ¬ (i - bsl) % 500000 = n + 1) r) : Tm (fun k => y_X3_letGo__a23 k 0 L σ) (fun q => ∃ K4', Pre c g l t K K2 K3 K4' B KB f0 u0 q.2 fs u d r pb nf nc sq ∧ Go c u0 σ q.2 ∧ ∀ j, q.2.1 j = σ.1 j) := by
  have ty := p.2.1
  have fbb := (FC_b _ _ _ _ _ _ _ ty.2.1).1
  have n20 := ty.2.2.2.1.2
  have e21 : uN (L.1 2 + 1) = pb + n + 1 := by rw [u_inc (by omega), h2]
  refine Tm_suc (fun k => by rw [y_X3_letGo__a23]) ?_
  refine Tm_yes h3 ?_
  refine Tm_suc (fun k => by rw [y_X3_letGo__a23]) ?_
  refine Tm_chk (u_in (x := L.1 2) (by omega) (by decide)) ?_
  refine Tm_chk (u_in (x := L.1 2 + 1) (by omega) (by decide)) ?_
  have om : NoW (σ.2.2.1 3) (-2147483648) := fun lt => absurd lt (by decide)
  have p1 := Pre_23 (x := -2147483648) (j := pb + n) (mk := some mkR) (r' := r) (Q := fun i s => i ∈ s ∧ True) p ⟨by omega, by omega⟩ (Or.inr (Or.inl ⟨rfl, Gv_om g, om⟩)) (Mrl_rf _ (by
      clear ha p ty h2 h3 fbb n20 e21 om
      induction r with
      | nil => exact trivial
      | cons e r ih => exact ⟨fun _ _ _ => trivial, fun _ => ih⟩)) (fun i s q b => q.1) (fun i s q b => by
    by_cases y : pb + (i - bsl) % 500000 = pb + n
    · right
      exact ⟨by omega, y, Mkk_r _⟩
    · exact Or.inl ⟨q.1, y⟩)
  have p2 := Pre_23 (x := -2147483648) (j := pb + n + 1) (mk := none) p1.1 ⟨by omega, by omega⟩ (Or.inl ⟨rfl, Gv_om g⟩) (Mrl_rf _ ha) (fun i s q b => q.1) (fun i s q b => Or.inl ⟨q.1, by have := q.2 b; omega⟩)
  refine Tm_some ?_
  have ee : uA (uA σ 23 (L.1 2).toNatClampNeg (-2147483648)) 23 (L.1 2 + 1).toNatClampNeg (-2147483648) = uA (uA σ 23 (pb + n) (-2147483648)) 23 (pb + n + 1) (-2147483648) := by
    rw [u_cl (x := L.1 2) (by omega), u_cl (x := L.1 2 + 1) (by omega), h2, e21]
  show ∃ K4', Pre c g l t K K2 K3 K4' B KB f0 u0 (uA (uA σ 23 (L.1 2).toNatClampNeg (-2147483648)) 23 (L.1 2 + 1).toNatClampNeg (-2147483648)) fs u d r pb nf nc sq ∧ Go c u0 σ (uA (uA σ 23 (L.1 2).toNatClampNeg (-2147483648)) 23 (L.1 2 + 1).toNatClampNeg (-2147483648)) ∧ ∀ j, σ.1 j = σ.1 j
  rw [ee]
  exact ⟨_, p2.1, Go_t p1.2 p2.2, fun _ => rfl⟩
end CTC

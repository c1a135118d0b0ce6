section JnS492
/-! The class: code is kept for later. -/
section CXH
variable {σ σ' σ0 τ τ' : CS} {L : LV} {b : Bool} {T : Nat → Int32} {n q q' u al o v mk mk' p sz szB nc nc0 sz0 mk0 a1 a2 m kk f e s ow a t0 g D op w st w' st' : Nat} {y qh qh' : Int32} {l l' cs cs' ll lt : List Int32} {tb : List Ent} {E : En} {gl : Nat × (Nat → Nat → Prop)} {Vm : Nat → Prop} {Pc : Nat → Nat → Prop} {bt : BT} {ks : List Nat} {α : Type} {S : α → Int32 → CS → Prop} {x : Fl α} {C : Prop} {lo lo' : Option Nat}
/-- what is kept so far -/
def Kpt (lt : List Int32) (σ : CS) : Prop := (σ.1 4013 = nI lt.length ∧ lt.length ≤ sN σ 42) ∧ ∀ i, i < lt.length → σ.2.2.1 42 i = lt.getD i 0
theorem Kpt_k (h : Kpt lt σ) (x : XK b u nc sz mk σ σ') : Kpt lt σ' := by
  obtain ⟨⟨h1, h2⟩, h3⟩ := h
  have e : σ'.2.2.1 42 = σ.2.2.1 42 := x.2.1.1 42 (by have := pR_d b; omega)
  exact ⟨⟨by rw [x.1.1 4013 (by have := fP_c b 1; have := fP_c b 11; have := fP_c b 19; omega)]; exact h1, by rw [x.2.1.2.1 42 (by decide)]; exact h2⟩, fun i hi => by rw [e]; exact h3 i hi⟩
/-- the row of what is kept changes -/
theorem Zy_42 {n1 n2 : Nat} (h : Zy T n b u al σ0 nc0 sz0 mk0 a1 a2 tb o q v mk w st lo qh szB cs τ) (f1 : ∀ j, ¬ j = 4013 → τ'.1 j = τ.1 j) (f2 : τ'.2.1 = τ.2.1) (f3 : ∀ k, ¬ k = 42 → τ'.2.2.1 k = τ.2.2.1 k ∧ sN τ' k = sN τ k) (f4 : τ'.2.2.2.1 = τ.2.2.2.1) (f5 : τ'.2.2.2.2.2 = τ.2.2.2.2.2) (s42 : sN τ' 42 = sN τ 42 ∨ sN τ' 42 = 16384) (c : n1 + PhC τ' ≤ PhC τ ∧ n2 + PhS τ' ≤ PhS τ) : Zy T n b u al σ0 nc0 sz0 mk0 (a1 + n1) (a2 + n2) tb o q v mk w st lo qh szB cs τ' := by
  obtain ⟨⟨⟨h1, h2, h3, h4, ⟨h5, h5', h5''⟩, ⟨h6, h6'⟩, ⟨h7, h7'⟩, h8⟩, k1, k2, k3, k4, k5⟩, z1, ⟨z2, z3, z4, z5, z6⟩⟩ := h
  have pc := pR_c b
  have pd := pR_d b
  have c1 := fP_c b 1
  have c2 := fP_c b 3
  have c3 := fP_c b 11
  have c4 := fP_c b 19
  have kd : ∀ c, sKd τ' c = sKd τ c := fun c => by show τ'.2.2.2.2.2.1.2.2.2.2 c = _; rw [f5]
  have cd : ∀ c i, cdr c τ' i = cdr c τ i := fun c i => by
    show τ'.2.2.1 (pR0 (sKd τ' c)) i = _
    rw [kd, (f3 _ (by rcases pR0_c (sKd τ c) with z | z <;> omega)).1]
  have m3 := h3.2
  have cl := CdL_s (σ' := τ') h2 (f1 _ (by omega)) (kd b) ⟨(f3 43 (by decide)).2, (f3 51 (by decide)).2⟩
  have q1 : QS T n b u al tb o q v mk 0 (szB + cs.length) τ' := ⟨LxQ_s h1 (fun j _ hj => f1 j (by omega)) (by rw [f2]; exact ⟨rfl, rfl⟩) (f3 38 (by decide)).1 (f3 38 (by decide)).2 (by rw [f4]), cl, ⟨by rw [f1 _ (by decide)]; exact h3.1, by rw [(f3 41 (by decide)).2]; exact m3⟩, TbR_s h4 (f1 _ (by omega)) (by rw [f4]) (by rw [f4]) (f3 _ (by omega)).1 (f3 _ (by omega)).1 (f3 _ (by omega)).1 (f3 _ (by omega)).1, ⟨by show τ'.2.2.2.2.2.1.2.2.2.1 = _; rw [f5]; exact h5, by rw [f1 _ (by decide)]; exact h5', ⟨by rw [f1 _ (by decide)]; exact h5''.1, by rw [f1 _ (by decide)]; exact h5''.2⟩⟩, ⟨by rw [f1 _ (by decide)]; exact h6, h6'⟩, ⟨by rw [(f3 _ (by omega)).1]; exact h7, h7'⟩, by rw [f1 _ (by omega)]; exact h8⟩
  have zk : ZK b u tb.length (szB + cs.length) mk τ τ' := by
    refine ⟨⟨fun j hj => f1 j (by omega), fun j _ => by rw [f2]⟩, ⟨fun k hk => (f3 k (by omega)).1, fun k hk => (f3 k (by omega)).2, fun k _ => by rw [f4]⟩, ⟨⟨by show τ'.2.2.2.2.2.1.1 = _; rw [f5], by show τ'.2.2.2.2.2.1.2.1 = _; rw [f5], by show τ'.2.2.2.2.2.1.2.2.1 = _; rw [f5], by show τ'.2.2.2.2.2.1.2.2.2.1 = _; rw [f5]⟩, fun c _ => kd c, by rw [f5]⟩, fun i _ => ⟨by rw [(f3 _ (by omega)).1], by rw [(f3 _ (by omega)).1]⟩, fun i hi => ⟨⟨by rw [f4], by rw [f4]⟩, ⟨by rw [(f3 _ (by omega)).1], by rw [(f3 _ (by omega)).1]⟩, by rw [(f3 _ (by omega)).1], by rw [(f3 _ (by omega)).1]⟩, fun i _ => ⟨cd b i, cd (!b) i⟩, fun i _ => by rw [(f3 41 (by decide)).1], cl.2, by rw [(f3 41 (by decide)).2]; exact m3, s42⟩
  exact ⟨⟨q1, ZK_t k1 zk k3 k4 k5, ⟨by omega, by omega⟩, k3, k4, k5⟩, fun i hi => by rw [cd]; exact z1 i hi, ⟨by rw [(f3 _ (by omega)).1]; exact z2, ⟨by rw [f1 _ (by omega)]; exact z3.1, z3.2⟩, by rw [f1 _ (by decide)]; exact z4, by rw [f1 _ (by decide)]; exact z5, by omega⟩⟩
/-- some of the code is kept -/
theorem zt_keep {f : Nat → RS → Option RS} (h : Zy T n b u al σ0 nc0 sz0 mk0 a1 a2 tb o q v mk w st lo qh szB cs τ) (kp : Kpt lt τ) (hb : L.2.2.1 1 = sKd τ b) (l2 : L.1 2 = nI a) (l3 : L.1 3 = nI ll.length) (hl : ∀ i, i < ll.length → cdr b τ (a + i) = ll.getD i 0) (ha : a + ll.length ≤ szB + cs.length) (hm : lt.length + ll.length ≤ 16384) (cont : ∀ (τ' : CS) (n1 n2 : Nat), Zy T n b u al σ0 nc0 sz0 mk0 (a1 + n1) (a2 + n2) tb o q v mk w st lo qh szB cs τ' → Kpt (lt ++ ll) τ' → (∀ k, ¬ k = 42 → τ'.2.2.1 k = τ.2.2.1 k ∧ sN τ' k = sN τ k) → Tm (fun k => f k ((0, 0), τ', (n1, n2))) (ZPo b u nc0 sz0 mk0 x S σ0 (a1 + n1) (a2 + n2))) : Tm (fun k => ox (f_X5_keep__A0 k 0 L τ) (f k)) (ZPo b u nc0 sz0 mk0 x S σ0 a1 a2) := by
  obtain ⟨⟨k1, k2⟩, k3⟩ := kp
  have s42 := h.2.2.2.2.2.2
  have n36 := cdn_b h.1.1
  have le : szB + cs.length ≤ cdn b τ := h.1.1.2.1.2.1
  have ea : τ.1 4013 + L.1 3 = nI (lt.length + ll.length) := by rw [k1, l3, n_add (by omega)]
  -- from the row on, that is long enough
  have b1 : ∀ (τ1 : CS) (n1 n2 : Nat), τ1.1 = τ.1 → τ1.2.1 = τ.2.1 → (∀ k, ¬ k = 42 → τ1.2.2.1 k = τ.2.2.1 k ∧ sN τ1 k = sN τ k) → τ1.2.2.2.1 = τ.2.2.2.1 → τ1.2.2.2.2.2 = τ.2.2.2.2.2 → (sN τ1 42 = sN τ 42 ∨ sN τ1 42 = 16384) → (n1 + PhC τ1 ≤ PhC τ ∧ n2 + PhS τ1 ≤ PhS τ) → lt.length + ll.length ≤ sN τ1 42 → (∀ i, i < lt.length → τ1.2.2.1 42 i = lt.getD i 0) → Tm (fun k => f_X5_keep__A0 k 1 L τ1) (fun r => r.1 = (0, 0) ∧ (n1 + r.2.2.1 + PhC r.2.1 ≤ PhC τ ∧ n2 + r.2.2.2 + PhS r.2.1 ≤ PhS τ) ∧ (∀ j, ¬ j = 4013 → r.2.1.1 j = τ.1 j) ∧ r.2.1.2.1 = τ.2.1 ∧ (∀ k, ¬ k = 42 → r.2.1.2.2.1 k = τ.2.2.1 k ∧ sN r.2.1 k = sN τ k) ∧ r.2.1.2.2.2.1 = τ.2.2.2.1 ∧ r.2.1.2.2.2.2.2 = τ.2.2.2.2.2 ∧ (sN r.2.1 42 = sN τ 42 ∨ sN r.2.1 42 = 16384) ∧ Kpt (lt ++ ll) r.2.1) := by
    intro τ1 n1 n2 f1 f2 f3 f4 f5 f6 f7 f8 f9
    have kd : sKd τ1 b = sKd τ b := by show τ1.2.2.2.2.2.1.2.2.2.2 b = _; rw [f5]
    have pn : ¬ pR0 (sKd τ b) = 42 := by rcases pR0_c (sKd τ b) with z | z <;> omega
    refine Tm_suc (fun k => by rw [f_X5_keep__A0]) ?_
    rw [f1, ea]
    refine Tm_yes ?_ ?_
    · show nI (lt.length + ll.length) ≤ nI (sN τ1 42)
      rw [n_le (by omega) (by omega)]; exact f8
    refine Tm_suc (fun k => by rw [f_X5_keep__A0]) ?_
    rw [f1, l2, l3, k1, hb, (f3 _ pn).1, (f3 _ pn).2]
    refine Tm_chk ⟨n_nn (by omega), n_nn (by omega), n_nn (by omega), by rw [n_cl (by omega), n_cl (by omega)]; show a + ll.length ≤ cdn b τ; omega, by rw [n_cl (by omega), n_cl (by omega)]; exact f8⟩ ?_
    rw [n_cl (by omega), n_cl (by omega), n_cl (by omega)]
    refine Tm_suc (fun k => by rw [f_X5_keep__A0]) ?_
    have e13 : (uF τ1 42 (va_cpy (τ.2.2.1 (pR0 (sKd τ b))) (τ1.2.2.1 42) a lt.length ll.length)).1 4013 + L.1 3 = nI (lt.length + ll.length) := by
      show τ1.1 4013 + L.1 3 = _
      rw [f1]; exact ea
    rw [e13]
    have ph := Ph_s (σ := τ1) (σ' := uI (uF τ1 42 (va_cpy (τ.2.2.1 (pR0 (sKd τ b))) (τ1.2.2.1 42) a lt.length ll.length)) 4013 (nI (lt.length + ll.length))) rfl
    refine Tm_some ⟨rfl, ⟨?_, ?_⟩, fun j hj => ?_, f2, fun k hk => ⟨?_, (f3 k hk).2⟩, f4, f5, f6, ⟨⟨?_, ?_⟩, fun i hi => ?_⟩⟩
    · show n1 + 0 + PhC (uI (uF τ1 42 (va_cpy (τ.2.2.1 (pR0 (sKd τ b))) (τ1.2.2.1 42) a lt.length ll.length)) 4013 (nI (lt.length + ll.length))) ≤ _
      omega
    · show n2 + 0 + PhS (uI (uF τ1 42 (va_cpy (τ.2.2.1 (pR0 (sKd τ b))) (τ1.2.2.1 42) a lt.length ll.length)) 4013 (nI (lt.length + ll.length))) ≤ _
      omega
    · rw [uI_o hj]; show τ1.1 j = _; rw [f1]
    · show updG τ1.2.2.1 42 _ k = _
      rw [updG_other hk]; exact (f3 k hk).1
    · rw [uI_s, List.length_append]
    · rw [List.length_append]; exact f8
    · rw [List.length_append] at hi
      show updG τ1.2.2.1 42 (va_cpy (τ.2.2.1 (pR0 (sKd τ b))) (τ1.2.2.1 42) a lt.length ll.length) 42 i = _
      rw [updG_same]
      unfold va_cpy
      rcases Nat.lt_or_ge i lt.length with z | z
      · rw [if_neg (by omega), gd_l z]; exact f9 i z
      · rw [if_pos (by omega)]
        have e := hl (i - lt.length) (by omega)
        have g := gd_r (a := lt) (b := ll) (i - lt.length)
        rw [show lt.length + (i - lt.length) = i by omega] at g
        rw [g]; exact e
  have fin : Tm (fun k => f_X5_keep__A0 k 0 L τ) (fun r => r.1 = (0, 0) ∧ (0 + r.2.2.1 + PhC r.2.1 ≤ PhC τ ∧ 0 + r.2.2.2 + PhS r.2.1 ≤ PhS τ) ∧ (∀ j, ¬ j = 4013 → r.2.1.1 j = τ.1 j) ∧ r.2.1.2.1 = τ.2.1 ∧ (∀ k, ¬ k = 42 → r.2.1.2.2.1 k = τ.2.2.1 k ∧ sN r.2.1 k = sN τ k) ∧ r.2.1.2.2.2.1 = τ.2.2.2.1 ∧ r.2.1.2.2.2.2.2 = τ.2.2.2.2.2 ∧ (sN r.2.1 42 = sN τ 42 ∨ sN r.2.1 42 = 16384) ∧ Kpt (lt ++ ll) r.2.1) := by
    refine Tm_suc (fun k => by rw [f_X5_keep__A0]) ?_
    rw [ea]
    have e9 : (16384 : Int32).toNatClampNeg = 16384 := rfl
    refine Tm_chk ⟨by decide, by decide, by omega⟩ ?_
    rw [e9]
    refine Tm_ite (fun c => ?_) (fun c => ?_)
    · have c1 := c.1
      rw [n_lt (by omega) (by omega)] at c1
      refine Tm_adR ?_
      have ph := Ph_z42 (σ := τ) c.2
      have n42 : sN (uZ τ 42 16384) 42 = 16384 := by show updN (sN τ) 42 16384 42 = _; unfold updN; rw [if_pos rfl]
      refine Tm_mono (b1 (uZ τ 42 16384) 1 16384 rfl rfl (fun k hk => ⟨updG_other hk, if_neg hk⟩) rfl rfl (Or.inr n42) ⟨by omega, by omega⟩ (by rw [n42]; exact hm) (fun i hi => ?_)) (fun r z => ?_)
      · show updG τ.2.2.1 42 (fun i => if i < sN τ 42 then τ.2.2.1 42 i else 0) 42 i = _
        rw [updG_same]
        show (if i < sN τ 42 then τ.2.2.1 42 i else 0) = _
        rw [if_pos (by omega)]; exact k3 i hi
      · obtain ⟨z1, ⟨z2, z2'⟩, z3⟩ := z
        exact ⟨z1, ⟨by show 0 + (1 + r.2.2.1) + PhC r.2.1 ≤ _; omega, by show 0 + (16384 + r.2.2.2) + PhS r.2.1 ≤ _; omega⟩, z3⟩
    · have c' : lt.length + ll.length ≤ sN τ 42 := by
        rw [n_lt (by omega) (by omega)] at c
        omega
      exact b1 τ 0 0 rfl rfl (fun _ _ => ⟨rfl, rfl⟩) rfl rfl (Or.inl rfl) ⟨by omega, by omega⟩ c' k3
  refine Tm_ox fin (fun r w nz => absurd (by rw [w.1]) nz) (fun r w e0 => ?_)
  obtain ⟨w1, ⟨w2, w2'⟩, w3, w4, w5, w6, w7, w8, w9⟩ := w
  have k := cont r.2.1 r.2.2.1 r.2.2.2 (Zy_42 h w3 w4 w5 w6 w7 w8 ⟨by omega, by omega⟩) w9 w5
  have er : ((0, 0), r.2.1, (r.2.2.1, r.2.2.2)) = r := by rw [← w1]
  rw [er] at k
  exact Tm_mono k (fun q z => ZPo_s z)
theorem c_words42 (h : CdL b sz σ) (hb : L.2.2.1 0 = b) (l2 : L.1 2 = nI a) (l3 : L.1 3 = nI ll.length) (ha : a + ll.length ≤ sN σ 42) (h42 : sN σ 42 ≤ 16384) (hm : sz + ll.length ≤ 36864) (hl : ∀ i, i < ll.length → σ.2.2.1 42 (a + i) = ll.getD i 0) : Tm (fun k => f_X7_words__P__z42 k 0 L σ) (fun r => r.1 = (0, 0) ∧ CoP σ r ∧ CdO b sz ll σ r.2.1) := by
  refine Tm_suc (fun k => by rw [f_X7_words__P__z42]) ?_
  rw [hb, l2, l3]
  refine Tm_oxc (c_widenC (m := ll.length) h rfl rfl hm) (fun r w => by rw [w.1]) (fun r w => ?_)
  obtain ⟨w1, ⟨w2, w2'⟩, w3, w4⟩ := w
  have es : r.2.1.1 (fP b 1) = nI sz := w3.2.1.1
  have e42 := w3.1.2.2.1 42 (by decide)
  rw [es, e42.1, e42.2]
  refine Tm_chk ⟨n_nn (by omega), n_nn (by omega), n_nn (by omega), by rw [n_cl (by omega), n_cl (by omega)]; exact ha, by rw [n_cl (by omega), n_cl (by omega)]; exact w4⟩ ?_
  rw [n_cl (by omega), n_cl (by omega), n_cl (by omega)]
  refine Tm_suc (fun k => by rw [f_X7_words__P__z42]) ?_
  rw [hb, l3]
  have e : (uF r.2.1 (pR0 (sKd r.2.1 b)) (va_cpy (σ.2.2.1 42) (r.2.1.2.2.1 (pR0 (sKd r.2.1 b))) a sz ll.length)).1 (fP b 1) + nI ll.length = nI (sz + ll.length) := by
    show r.2.1.1 (fP b 1) + _ = _
    rw [es, n_add (by omega)]
  rw [e]
  have z := CdO_w (a := a) (src := σ.2.2.1 42) w3 w4 hl
  have ph := Ph_s (σ := r.2.1) (σ' := uI (uF r.2.1 (pR0 (sKd r.2.1 b)) (va_cpy (σ.2.2.1 42) (r.2.1.2.2.1 (pR0 (sKd r.2.1 b))) a sz ll.length)) (fP b 1) (nI (sz + ll.length))) rfl
  refine Tm_some ⟨rfl, ⟨?_, ?_⟩, z⟩
  · show r.2.2.1 + 0 + PhC (uI (uF r.2.1 (pR0 (sKd r.2.1 b)) (va_cpy (σ.2.2.1 42) (r.2.1.2.2.1 (pR0 (sKd r.2.1 b))) a sz ll.length)) (fP b 1) (nI (sz + ll.length))) ≤ _
    omega
  · show r.2.2.2 + 0 + PhS (uI (uF r.2.1 (pR0 (sKd r.2.1 b)) (va_cpy (σ.2.2.1 42) (r.2.1.2.2.1 (pR0 (sKd r.2.1 b))) a sz ll.length)) (fP b 1) (nI (sz + ll.length))) ≤ _
    omega
theorem c_wordsA (h : CdL b sz σ) (hb : L.2.2.1 0 = b) (hb1 : L.2.2.1 1 = sKd σ b) (l2 : L.1 2 = nI a) (l3 : L.1 3 = nI ll.length) (ha : a + ll.length ≤ sz) (hm : sz + ll.length ≤ 36864) (hl : ∀ i, i < ll.length → cdr b σ (a + i) = ll.getD i 0) : Tm (fun k => f_X7_words__P__A0 k 0 L σ) (fun r => r.1 = (0, 0) ∧ CoP σ r ∧ CdO b sz ll σ r.2.1) := by
  have le := h.2.1
  refine Tm_suc (fun k => by rw [f_X7_words__P__A0]) ?_
  rw [hb, hb1]
  refine Tm_chk rfl ?_
  rw [l2, l3]
  refine Tm_oxc (c_widenC (m := ll.length) h rfl rfl hm) (fun r w => by rw [w.1]) (fun r w => ?_)
  obtain ⟨w1, ⟨w2, w2'⟩, w3, w4⟩ := w
  have es : r.2.1.1 (fP b 1) = nI sz := w3.2.1.1
  rw [es]
  refine Tm_chk ⟨n_nn (by omega), n_nn (by omega), n_nn (by omega), by rw [n_cl (by omega), n_cl (by omega)]; show a + ll.length ≤ cdn b σ; omega, by rw [n_cl (by omega), n_cl (by omega)]; exact w4⟩ ?_
  rw [n_cl (by omega), n_cl (by omega), n_cl (by omega)]
  refine Tm_suc (fun k => by rw [f_X7_words__P__A0]) ?_
  rw [hb, l3]
  have e : (uF r.2.1 (pR0 (sKd r.2.1 b)) (va_cpy (σ.2.2.1 (pR0 (sKd σ b))) (r.2.1.2.2.1 (pR0 (sKd r.2.1 b))) a sz ll.length)).1 (fP b 1) + nI ll.length = nI (sz + ll.length) := by
    show r.2.1.1 (fP b 1) + _ = _
    rw [es, n_add (by omega)]
  rw [e]
  have z := CdO_w (a := a) (src := σ.2.2.1 (pR0 (sKd σ b))) w3 w4 hl
  have ph := Ph_s (σ := r.2.1) (σ' := uI (uF r.2.1 (pR0 (sKd r.2.1 b)) (va_cpy (σ.2.2.1 (pR0 (sKd σ b))) (r.2.1.2.2.1 (pR0 (sKd r.2.1 b))) a sz ll.length)) (fP b 1) (nI (sz + ll.length))) rfl
  refine Tm_some ⟨rfl, ⟨?_, ?_⟩, z⟩
  · show r.2.2.1 + 0 + PhC (uI (uF r.2.1 (pR0 (sKd r.2.1 b)) (va_cpy (σ.2.2.1 (pR0 (sKd σ b))) (r.2.1.2.2.1 (pR0 (sKd r.2.1 b))) a sz ll.length)) (fP b 1) (nI (sz + ll.length))) ≤ _
    omega
  · show r.2.2.2 + 0 + PhS (uI (uF r.2.1 (pR0 (sKd r.2.1 b)) (va_cpy (σ.2.2.1 (pR0 (sKd σ b))) (r.2.1.2.2.1 (pR0 (sKd r.2.1 b))) a sz ll.length)) (fP b 1) (nI (sz + ll.length))) ≤ _
    omega
theorem zt_words42 {f : Nat → RS → Option RS} (h : Zy T n b u al σ0 nc0 sz0 mk0 a1 a2 tb o q v mk w st lo qh szB cs τ) (hb : L.2.2.1 0 = b) (l2 : L.1 2 = nI a) (l3 : L.1 3 = nI ll.length) (ha : a + ll.length ≤ sN τ 42) (hm : szB + cs.length + ll.length ≤ 36864) (hl : ∀ i, i < ll.length → τ.2.2.1 42 (a + i) = ll.getD i 0) (cont : ∀ (τ' : CS) (n1 n2 : Nat), Zy T n b u al σ0 nc0 sz0 mk0 (a1 + n1) (a2 + n2) tb o q v mk w st lo qh szB (cs ++ ll) τ' → XK b u tb.length (szB + cs.length) mk τ τ' → Tm (fun k => f k ((0, 0), τ', (n1, n2))) (ZPo b u nc0 sz0 mk0 x S σ0 (a1 + n1) (a2 + n2))) : Tm (fun k => ox (f_X7_words__P__z42 k 0 L τ) (f k)) (ZPo b u nc0 sz0 mk0 x S σ0 a1 a2) := by
  have s42 := h.2.2.2.2.2.2
  refine Tm_ox (c_words42 h.1.1.2.1 hb l2 l3 ha (by omega) hm hl) (fun r w nz => absurd (by rw [w.1]) nz) (fun r w e0 => ?_)
  obtain ⟨w1, ⟨w2, w2'⟩, w3⟩ := w
  obtain ⟨q1, q2⟩ := QS_cd h.1.1 w3
  have hc := h.1.2.2.1
  have k := cont r.2.1 r.2.2.1 r.2.2.2 (Zy_cl h q1 q2 ⟨by omega, by omega⟩ w3.2.2.2 h.1.2.2.2.1 h.1.2.2.2.2.2) q2
  have er : ((0, 0), r.2.1, (r.2.2.1, r.2.2.2)) = r := by rw [← w1]
  rw [er] at k
  exact Tm_mono k (fun q z => ZPo_s z)
theorem zt_wordsA {f : Nat → RS → Option RS} (h : Zy T n b u al σ0 nc0 sz0 mk0 a1 a2 tb o q v mk w st lo qh szB cs τ) (hb : L.2.2.1 0 = b) (hb1 : L.2.2.1 1 = sKd τ b) (l2 : L.1 2 = nI a) (l3 : L.1 3 = nI ll.length) (ha : a + ll.length ≤ szB + cs.length) (hm : szB + cs.length + ll.length ≤ 36864) (hl : ∀ i, i < ll.length → cdr b τ (a + i) = ll.getD i 0) (cont : ∀ (τ' : CS) (n1 n2 : Nat), Zy T n b u al σ0 nc0 sz0 mk0 (a1 + n1) (a2 + n2) tb o q v mk w st lo qh szB (cs ++ ll) τ' → CdO b (szB + cs.length) ll τ τ' → Tm (fun k => f k ((0, 0), τ', (n1, n2))) (ZPo b u nc0 sz0 mk0 x S σ0 (a1 + n1) (a2 + n2))) : Tm (fun k => ox (f_X7_words__P__A0 k 0 L τ) (f k)) (ZPo b u nc0 sz0 mk0 x S σ0 a1 a2) := by
  refine Tm_ox (c_wordsA h.1.1.2.1 hb hb1 l2 l3 ha hm hl) (fun r w nz => absurd (by rw [w.1]) nz) (fun r w e0 => ?_)
  obtain ⟨w1, ⟨w2, w2'⟩, w3⟩ := w
  obtain ⟨q1, q2⟩ := QS_cd h.1.1 w3
  have hc := h.1.2.2.1
  have k := cont r.2.1 r.2.2.1 r.2.2.2 (Zy_cl h q1 q2 ⟨by omega, by omega⟩ w3.2.2.2 h.1.2.2.2.1 h.1.2.2.2.2.2) w3
  have er : ((0, 0), r.2.1, (r.2.2.1, r.2.2.2)) = r := by rw [← w1]
  rw [er] at k
  exact Tm_mono k (fun q z => ZPo_s z)
end CXH
end JnS492
section JnS493
/-! The class: what a param gives back is kept. -/
section CXI
variable {σ σ' σ0 τ τ' τ0 : CS} {L : LV} {b : Bool} {T : Nat → Int32} {n q q' u al o v mk mk' p sz szB nc nc0 sz0 mk0 a1 a2 m kk f e s ow a t0 g D op w st w' st' M : Nat} {y qh qh' : Int32} {l l' cs cs' ll lt : List Int32} {tb : List Ent} {E : En} {gl : Nat × (Nat → Nat → Prop)} {Vm : Nat → Prop} {Pc : Nat → Nat → Prop} {bt : BT} {ks : List Nat} {α : Type} {S : α → Int32 → CS → Prop} {x : Fl α} {C : Prop} {lo lo' : Option Nat}
theorem EvX_z {nc' sz' mk' : Nat} (h : EvX E b u al gl Vm tb σ) (x : ZK b u nc' sz' mk' σ τ) : EvX E b u al gl Vm tb τ := by
  refine ⟨h.1, fun w np hw => ?_, h.2.2⟩
  obtain ⟨h1, h2, h3⟩ := h.2.1 w np hw
  have pd := pR_d b
  exact ⟨h1, h2, by rw [x.2.1.1 (pR14 b) (by omega)]; exact h3⟩
/-! steps that tell that only code is laid -/
theorem ztc_emit {op : Nat} {f : Nat → RS → Option RS} (h : Zy T n b u al σ0 nc0 sz0 mk0 a1 a2 tb o q v mk w st lo qh szB cs τ) (hb : L.2.2.1 0 = b) (h1 : L.1 1 = nI op) (hm : szB + cs.length + 1 ≤ 36864) (cont : ∀ (τ' : CS) (n1 n2 : Nat), Zy T n b u al σ0 nc0 sz0 mk0 (a1 + n1) (a2 + n2) tb o q v mk w st lo qh szB (cs ++ [em op (L.1 2)]) τ' → CdO b (szB + cs.length) [em op (L.1 2)] τ τ' → Tm (fun k => f k ((0, nI (szB + cs.length)), τ', (n1, n2))) (ZPo b u nc0 sz0 mk0 x S σ0 (a1 + n1) (a2 + n2))) : Tm (fun k => ox (f_X7_emit__P k 0 L τ) (f k)) (ZPo b u nc0 sz0 mk0 x S σ0 a1 a2) := by
  refine Tm_ox (c_emit h.1.1.2.1 hb hm) (fun r w nz => absurd (by rw [w.1]) nz) (fun r w e0 => ?_)
  obtain ⟨w1, ⟨w2, w2'⟩, w3⟩ := w
  rw [h1] at w3
  obtain ⟨q1, q2⟩ := QS_cd h.1.1 w3
  have hc := h.1.2.2.1
  have k := cont r.2.1 r.2.2.1 r.2.2.2 (Zy_cl h q1 q2 ⟨by omega, by omega⟩ w3.2.2.2 h.1.2.2.2.1 h.1.2.2.2.2.2) w3
  have er : ((0, nI (szB + cs.length)), r.2.1, (r.2.2.1, r.2.2.2)) = r := by rw [← w1]
  rw [er] at k
  exact Tm_mono k (fun q z => ZPo_s z)
theorem ztc_word {f : Nat → RS → Option RS} (h : Zy T n b u al σ0 nc0 sz0 mk0 a1 a2 tb o q v mk w st lo qh szB cs τ) (hb : L.2.2.1 0 = b) (hm : szB + cs.length + 1 ≤ 36864) (cont : ∀ (τ' : CS) (n1 n2 : Nat), Zy T n b u al σ0 nc0 sz0 mk0 (a1 + n1) (a2 + n2) tb o q v mk w st lo qh szB (cs ++ [L.1 1]) τ' → CdO b (szB + cs.length) [L.1 1] τ τ' → Tm (fun k => f k ((0, nI (szB + cs.length)), τ', (n1, n2))) (ZPo b u nc0 sz0 mk0 x S σ0 (a1 + n1) (a2 + n2))) : Tm (fun k => ox (f_X7_word__P k 0 L τ) (f k)) (ZPo b u nc0 sz0 mk0 x S σ0 a1 a2) := by
  refine Tm_ox (c_word h.1.1.2.1 hb hm) (fun r w nz => absurd (by rw [w.1]) nz) (fun r w e0 => ?_)
  obtain ⟨w1, ⟨w2, w2'⟩, w3⟩ := w
  obtain ⟨q1, q2⟩ := QS_cd h.1.1 w3
  have hc := h.1.2.2.1
  have k := cont r.2.1 r.2.2.1 r.2.2.2 (Zy_cl h q1 q2 ⟨by omega, by omega⟩ w3.2.2.2 h.1.2.2.2.1 h.1.2.2.2.2.2) w3
  have er : ((0, nI (szB + cs.length)), r.2.1, (r.2.2.1, r.2.2.2)) = r := by rw [← w1]
  rw [er] at k
  exact Tm_mono k (fun q z => ZPo_s z)
/-- the code's end goes back -/
theorem Zy_sz {acc : List Int32} (h : Zy T n b u al σ0 nc0 sz0 mk0 a1 a2 tb o q v mk w st lo qh szB (cs ++ acc) τ) (h0 : sz0 ≤ szB + cs.length) : Zy T n b u al σ0 nc0 sz0 mk0 a1 a2 tb o q v mk w st lo qh szB cs (uI τ (fP b 1) (nI (szB + cs.length))) := by
  obtain ⟨⟨⟨h1, h2, h3, h4, ⟨h5, h5', h5''⟩, ⟨h6, h6'⟩, ⟨h7, h7'⟩, h8⟩, k1, k2, k3, k4, k5⟩, z1, ⟨z2, z3, z4, z5, z6⟩⟩ := h
  have ph := Ph_s (σ := τ) (σ' := uI τ (fP b 1) (nI (szB + cs.length))) rfl
  have c1 := fP_c b 1
  have n1 := fP_ne b (i := 3) (j := 1) (by decide)
  have n2 := fP_ne b (i := 11) (j := 1) (by decide)
  have n3 := fP_ne b (i := 19) (j := 1) (by decide)
  obtain ⟨d1, d2, d3⟩ := h2
  rw [List.length_append] at d2
  have q1 : QS T n b u al tb o q v mk 0 (szB + cs.length) (uI τ (fP b 1) (nI (szB + cs.length))) := ⟨LxQ_s h1 (fun j _ hj => uI_o (by omega)) ⟨rfl, rfl⟩ rfl rfl rfl, ⟨uI_s, by show szB + cs.length ≤ cdn b τ; omega, d3⟩, ⟨by rw [uI_o (by omega)]; exact h3.1, h3.2⟩, TbR_s h4 (uI_o n2) rfl rfl rfl rfl rfl rfl, ⟨h5, by rw [uI_o (by omega)]; exact h5', ⟨by rw [uI_o (by omega)]; exact h5''.1, by rw [uI_o (by omega)]; exact h5''.2⟩⟩, ⟨by rw [uI_o (by omega)]; exact h6, h6'⟩, ⟨h7, h7'⟩, by rw [uI_o n3]; exact h8⟩
  obtain ⟨⟨e1, e2⟩, e3⟩ := k1
  refine ⟨⟨q1, ⟨⟨fun j hj => by rw [uI_o (by omega)]; exact e1 j hj, e2⟩, e3⟩, ⟨by omega, by omega⟩, k3, h0, k5⟩, fun i hi => ?_, ⟨z2, ⟨by rw [uI_o n1]; exact z3.1, z3.2⟩, by rw [uI_o (by omega)]; exact z4, by rw [uI_o (by omega)]; exact z5, z6⟩⟩
  have y := z1 i (by rw [List.length_append]; omega)
  rw [gd_l hi] at y
  exact y
/-- the keys of a target, one behind another -/
def kyC : List (List Int32 × Nat) → List Int32
  | [] => []
  | z :: r => z.1 ++ kyC r
def kdP : List (List Int32 × Nat) → List Nat
  | [] => []
  | z :: r => z.2 :: kdP r
theorem kdP_l : ∀ pl : List (List Int32 × Nat), (kdP pl).length = pl.length
  | [] => rfl
  | _ :: r => congrArg (fun z => z + 1) (kdP_l r)
theorem kdP_g : ∀ (pl : List (List Int32 × Nat)) (i : Nat), (kdP pl).getD i 0 = (pl.getD i ([], 0)).2
  | [], _ => rfl
  | _ :: _, 0 => rfl
  | _ :: r, i + 1 => kdP_g r i
theorem Wkk_c (k : Nat) (ks : List Nat) : ∀ n, Wkk (k :: ks) (n + 1) = (if k = 97 then 2 else 1) + Wkk ks n
  | 0 => by show 0 + (if k = 97 then 2 else 1) = _; rw [Nat.zero_add]; rfl
  | n + 1 => by
    show Wkk (k :: ks) (n + 1) + (if ks.getD n 0 = 97 then 2 else 1) = _
    rw [Wkk_c k ks n]
    show _ = (if k = 97 then 2 else 1) + (Wkk ks n + (if ks.getD n 0 = 97 then 2 else 1))
    omega
theorem wdN_c (k : Nat) (ks : List Nat) : wdN (k :: ks) = (if k = 97 then 2 else 1) + wdN ks := Wkk_c k ks ks.length
theorem kyC_l : ∀ pl : List (List Int32 × Nat), (ptC pl).length = (kyC pl).length + pl.length
  | [] => rfl
  | z :: r => by
    show (z.1 ++ (em z.2 0 :: ptC r)).length = (z.1 ++ kyC r).length + (r.length + 1)
    rw [List.length_append, List.length_append, List.length_cons, kyC_l r]; omega
theorem kyC_g : ∀ pl : List (List Int32 × Nat), PtG u p gl Vm pl → Sgm u p gl Vm (wdN (kdP pl)) (kyC pl) ∧ kOK (kdP pl)
  | [], _ => ⟨Sgm_nil u p gl Vm, fun i hi => absurd hi (Nat.not_lt_zero _)⟩
  | z :: r, h => by
    obtain ⟨h1, h2⟩ := kyC_g r h.2
    have hz : z.2 = 96 ∨ z.2 = 97 ∨ z.2 = 98 := by have := h.1; omega
    refine ⟨?_, fun i hi => ?_⟩
    · show Sgm u p gl Vm (wdN (z.2 :: kdP r)) (z.1 ++ kyC r)
      rw [wdN_c]
      rcases h.1 with ⟨e, g⟩ | ⟨e, g⟩ | ⟨e, g⟩
      · rw [if_neg (by omega)]; exact Sgm_seq g h1
      · rw [if_neg (by omega)]; exact Sgm_seq g h1
      · rw [if_pos e]; exact Sgm_seq g h1
    · cases i with
      | zero => exact hz
      | succ i => exact h2 i (Nat.lt_of_succ_lt_succ hi)
/-- the keys are copied -/
theorem c_kpL {N eN deep : Nat} (h18 : τ0.1 4018 = nI mk) (h19 : τ0.1 4019 = nI N) (hN : mk + 3 * N ≤ sN τ0 41) (h41 : sN τ0 41 ≤ 21504) (heN : eN = szB + cs.length) : ∀ (pr : List (List Int32 × Nat)) (i vals stt : Nat) (acc : List Int32) (L' : LV) (τ : CS) (a1 a2 : Nat), PtM τ0 (mk + 3 * i) stt pr → PtG u p gl Vm pr → (∀ j, j < (ptC pr).length → cdr b τ0 (stt + j) = (ptC pr).getD j 0) → stt + (ptC pr).length ≤ eN → i + pr.length = N → vals ≤ 2 * i → L'.1 1 = nI deep → L'.1 2 = nI eN → L'.1 3 = nI vals → L'.1 4 = nI i → Zy T n b u al σ0 nc0 sz0 mk0 a1 a2 tb o q v mk w st lo qh szB (cs ++ acc) τ → CdF b τ0 τ → (∀ j, j < eN → cdr b τ j = cdr b τ0 j) → eN + acc.length + (kyC pr).length ≤ 36864 → (∀ (L2 : LV) (τ2 : CS) (n1 n2 : Nat), L2.1 1 = nI deep → L2.1 2 = nI eN → L2.1 3 = nI (vals + wdN (kdP pr)) → Zy T n b u al σ0 nc0 sz0 mk0 n1 n2 tb o q v mk w st lo qh szB (cs ++ (acc ++ kyC pr)) τ2 → CdF b τ0 τ2 → (∀ j, j < eN → cdr b τ2 j = cdr b τ0 j) → Tm (fun k => f_X5_keepTarget k 2 L2 τ2) (ZPo b u nc0 sz0 mk0 x S σ0 n1 n2)) → Tm (fun k => f_X5_keepTarget k 1 L' τ) (ZPo b u nc0 sz0 mk0 x S σ0 a1 a2) := by
  intro pr
  induction pr with
  | nil =>
    intro i vals stt acc L' τ a1 a2 pm pg pc hst hi hv l1 l2 l3 l4 s1 cf cb hsz fin
    have hi' : i = N := hi
    have e19 : τ.1 4019 = nI N := by rw [cf.1 _ (by have := fP_c b 1; omega)]; exact h19
    refine Tm_suc (fun k => by rw [f_X5_keepTarget]) ?_
    rw [e19, l4]
    refine Tm_yes (by rw [n_le (by omega) (by omega)]; omega) ?_
    refine fin L' τ a1 a2 l1 l2 l3 ?_ cf cb
    show Zy T n b u al σ0 nc0 sz0 mk0 a1 a2 tb o q v mk w st lo qh szB (cs ++ (acc ++ [])) τ
    rw [List.append_nil]; exact s1
  | cons z r ih =>
    intro i vals stt acc L' τ a1 a2 pm pg pc hst hi hv l1 l2 l3 l4 s1 cf cb hsz fin
    have hi' : i + (r.length + 1) = N := hi
    obtain ⟨⟨p1, p2, p3⟩, pm'⟩ := pm
    have hz : z.2 = 96 ∨ z.2 = 97 ∨ z.2 = 98 := by have := pg.1; omega
    have lz : (ptC (z :: r)).length = z.1.length + ((ptC r).length + 1) := by show (z.1 ++ (em z.2 0 :: ptC r)).length = _; rw [List.length_append, List.length_cons]
    rw [lz] at hst pc
    have hsz' : eN + acc.length + (z.1.length + (kyC r).length) ≤ 36864 := by
      have e : (kyC (z :: r)).length = z.1.length + (kyC r).length := by show (z.1 ++ kyC r).length = _; rw [List.length_append]
      rw [e] at hsz; exact hsz
    have fc := fP_c b 1
    have e19 : τ.1 4019 = nI N := by rw [cf.1 _ (by omega)]; exact h19
    have e18 : τ.1 4018 = nI mk := by rw [cf.1 _ (by omega)]; exact h18
    have r41 := cf.2.2.1 41 (by decide)
    have e3 : (3 : Int32) * nI i = nI (3 * i) := n_mulN 3 i
    have ea : nI mk + 3 * nI i = nI (mk + 3 * i) := by rw [e3, n_add (by omega)]
    have ea1 : nI (mk + 3 * i) + 1 = nI (mk + 3 * i + 1) := n_add1 _
    have ea2 : nI (mk + 3 * i) + 2 = nI (mk + 3 * i + 2) := n_add (q := 2) (by omega)
    have m0 : τ.2.2.1 41 (nI (mk + 3 * i)).toNatClampNeg = nI stt := by rw [n_cl (by omega), r41.1]; exact p1
    have m1 : τ.2.2.1 41 (nI (mk + 3 * i + 1)).toNatClampNeg = nI (stt + z.1.length) := by rw [n_cl (by omega), r41.1]; exact p2
    refine Tm_suc (fun k => by rw [f_X5_keepTarget]) ?_
    rw [e19, l4]
    refine Tm_no (by rw [n_le (by omega) (by omega)]; omega) ?_
    refine Tm_oP (Zy_pp s1) (Tm_oP (Zy_pp s1) ?_)
    rw [e18, ea, ea1, ea2]
    refine Tm_chk (n_in (by omega) (by omega)) (Tm_chk (n_in (by omega) (by omega)) (Tm_chk (n_in (by omega) (by omega)) ?_))
    rw [m0, m1, n_sub (by omega) (by omega), show stt + z.1.length - stt = z.1.length by omega]
    have lca : (cs ++ acc).length = cs.length + acc.length := List.length_append
    refine zt_wordsA (a := stt) (ll := z.1) s1 rfl rfl rfl rfl (by rw [lca]; omega) (by rw [lca]; omega) (fun j hj => ?_) (fun τ2 n1 n2 s2 co => ?_)
    · rw [cb _ (by omega), pc j (by omega)]
      show (z.1 ++ (em z.2 0 :: ptC r)).getD j 0 = _
      exact gd_l hj
    have cf2 : CdF b τ0 τ2 := CdF_t cf co.1
    have cb2 : ∀ j, j < eN → cdr b τ2 j = cdr b τ0 j := fun j hj => ((co.2.2.1 j (by rw [lca]; omega)).1).trans (cb j hj)
    have r412 := cf2.2.2.1 41 (by decide)
    refine Tm_chk (n_in (n := sN τ2 41) (by omega) (by omega)) ?_
    have m2 : τ2.2.2.1 41 (nI (mk + 3 * i + 2)).toNatClampNeg = nI z.2 := by rw [n_cl (by omega), r412.1]; exact p3
    have go : ∀ (L4 : LV) (dd : Nat), L4.1 1 = nI deep → L4.1 2 = nI eN → L4.1 4 = nI i → L4.1 100 = nI dd → L4.1 101 = nI vals → dd = (if z.2 = 97 then 2 else 1) → Tm (fun k => f_X5_keepTarget k 4 L4 τ2) (ZPo b u nc0 sz0 mk0 x S σ0 (a1 + n1) (a2 + n2)) := by
      intro L4 dd j1 j2 j4 j100 j101 hdd
      have d2 : dd ≤ 2 := by rw [hdd]; split <;> omega
      refine Tm_suc (fun k => by rw [f_X5_keepTarget]) ?_
      rw [j100, j101, n_add (by omega), j4, n_add1]
      have s2' : Zy T n b u al σ0 nc0 sz0 mk0 (a1 + n1) (a2 + n2) tb o q v mk w st lo qh szB (cs ++ (acc ++ z.1)) τ2 := by rw [← List.append_assoc]; exact s2
      have la : (acc ++ z.1).length = acc.length + z.1.length := List.length_append
      refine ih (i + 1) (vals + dd) (stt + z.1.length + 1) (acc ++ z.1) _ τ2 _ _ (by rw [show mk + 3 * (i + 1) = mk + 3 * i + 3 by omega]; exact pm') pg.2 (fun j hj => ?_) (by omega) (by omega) (by omega) j1 j2 rfl rfl s2' cf2 cb2 (by rw [la]; omega) (fun L2 τ3 k1 k2 g1 g2 g3 g4 g5 g6 => ?_)
      · rw [show stt + z.1.length + 1 + j = stt + (z.1.length + (j + 1)) by omega, pc _ (by omega)]
        show (z.1 ++ (em z.2 0 :: ptC r)).getD (z.1.length + (j + 1)) 0 = _
        rw [gd_r]; rfl
      · have ew : vals + wdN (kdP (z :: r)) = vals + dd + wdN (kdP r) := by
          show vals + wdN (z.2 :: kdP r) = _
          rw [wdN_c, hdd]; omega
        have ec : acc ++ kyC (z :: r) = acc ++ z.1 ++ kyC r := by show acc ++ (z.1 ++ kyC r) = _; rw [List.append_assoc]
        exact fin L2 τ3 k1 k2 g1 g2 (by rw [ew]; exact g3) (by rw [ec]; exact g4) g5 g6
    by_cases k97 : z.2 = 97
    · refine Tm_yes (by show τ2.2.2.1 41 (nI (mk + 3 * i + 2)).toNatClampNeg = 97; rw [m2, k97]; rfl) ?_
      exact go _ 2 l1 l2 l4 rfl l3 (by rw [if_pos k97])
    · refine Tm_no (by show ¬ τ2.2.2.1 41 (nI (mk + 3 * i + 2)).toNatClampNeg = 97; rw [m2]; show ¬ nI z.2 = nI 97; rw [n_eq (by omega) (by decide)]; exact k97) ?_
      refine Tm_suc (fun k => by rw [f_X5_keepTarget]) ?_
      exact go _ 1 l1 l2 l4 rfl l3 (by rw [if_neg k97])
/-- the kinds are laid -/
theorem c_kpK {N eN : Nat} (h18 : τ0.1 4018 = nI mk) (h19 : τ0.1 4019 = nI N) (hN : mk + 3 * N ≤ sN τ0 41) (h41 : sN τ0 41 ≤ 21504) : ∀ (pr : List (List Int32 × Nat)) (i stt : Nat) (acc : List Int32) (L' : LV) (τ : CS) (a1 a2 : Nat) (x2 x3 : Int32), PtM τ0 (mk + 3 * i) stt pr → i + pr.length = N → L'.1 2 = x2 → L'.1 3 = x3 → L'.1 4 = nI i → Zy T n b u al σ0 nc0 sz0 mk0 a1 a2 tb o q v mk w st lo qh szB (cs ++ acc) τ → CdF b τ0 τ → szB + cs.length + acc.length + pr.length ≤ 36864 → (∀ (L2 : LV) (τ2 : CS) (n1 n2 : Nat), L2.1 2 = x2 → L2.1 3 = x3 → Zy T n b u al σ0 nc0 sz0 mk0 n1 n2 tb o q v mk w st lo qh szB (cs ++ (acc ++ kdL (kdP pr))) τ2 → CdF b τ0 τ2 → Tm (fun k => f_X5_keepTarget k 8 L2 τ2) (ZPo b u nc0 sz0 mk0 x S σ0 n1 n2)) → Tm (fun k => f_X5_keepTarget k 7 L' τ) (ZPo b u nc0 sz0 mk0 x S σ0 a1 a2) := by
  intro pr
  induction pr with
  | nil =>
    intro i stt acc L' τ a1 a2 x2 x3 pm hi l2 l3 l4 s1 cf hsz fin
    have hi' : i = N := hi
    have e19 : τ.1 4019 = nI N := by rw [cf.1 _ (by have := fP_c b 1; omega)]; exact h19
    refine Tm_suc (fun k => by rw [f_X5_keepTarget]) ?_
    rw [e19, l4]
    refine Tm_yes (by rw [n_le (by omega) (by omega)]; omega) ?_
    refine fin L' τ a1 a2 l2 l3 ?_ cf
    show Zy T n b u al σ0 nc0 sz0 mk0 a1 a2 tb o q v mk w st lo qh szB (cs ++ (acc ++ [])) τ
    rw [List.append_nil]; exact s1
  | cons z r ih =>
    intro i stt acc L' τ a1 a2 x2 x3 pm hi l2 l3 l4 s1 cf hsz fin
    have hi' : i + (r.length + 1) = N := hi
    have hsz' : szB + cs.length + acc.length + (r.length + 1) ≤ 36864 := hsz
    obtain ⟨⟨p1, p2, p3⟩, pm'⟩ := pm
    have fc := fP_c b 1
    have e19 : τ.1 4019 = nI N := by rw [cf.1 _ (by omega)]; exact h19
    have e18 : τ.1 4018 = nI mk := by rw [cf.1 _ (by omega)]; exact h18
    have r41 := cf.2.2.1 41 (by decide)
    have e3 : (3 : Int32) * nI i = nI (3 * i) := n_mulN 3 i
    have ea : nI mk + 3 * nI i = nI (mk + 3 * i) := by rw [e3, n_add (by omega)]
    have ea2 : nI (mk + 3 * i) + 2 = nI (mk + 3 * i + 2) := n_add (q := 2) (by omega)
    have m2 : τ.2.2.1 41 (nI (mk + 3 * i + 2)).toNatClampNeg = nI z.2 := by rw [n_cl (by omega), r41.1]; exact p3
    refine Tm_suc (fun k => by rw [f_X5_keepTarget]) ?_
    rw [e19, l4]
    refine Tm_no (by rw [n_le (by omega) (by omega)]; omega) ?_
    refine Tm_oP (Zy_pp s1) ?_
    rw [e18, ea, ea2]
    refine Tm_chk (n_in (by omega) (by omega)) ?_
    rw [m2, n_add1]
    have lca : (cs ++ acc).length = cs.length + acc.length := List.length_append
    refine ztc_word s1 rfl (by rw [lca]; omega) (fun τ2 n1 n2 s2 co => ?_)
    have s2' : Zy T n b u al σ0 nc0 sz0 mk0 (a1 + n1) (a2 + n2) tb o q v mk w st lo qh szB (cs ++ (acc ++ [nI z.2])) τ2 := by rw [← List.append_assoc]; exact s2
    have la : (acc ++ [nI z.2]).length = acc.length + 1 := by rw [List.length_append]; rfl
    refine ih (i + 1) (stt + z.1.length + 1) (acc ++ [nI z.2]) _ τ2 _ _ x2 x3 (by rw [show mk + 3 * (i + 1) = mk + 3 * i + 3 by omega]; exact pm') (by omega) l2 l3 rfl s2' (CdF_t cf co.1) (by rw [la]; omega) (fun L2 τ3 k1 k2 g2 g3 g4 g5 => ?_)
    have ec : acc ++ kdL (kdP (z :: r)) = acc ++ [nI z.2] ++ kdL (kdP r) := by
      show acc ++ (nI z.2 :: kdL (kdP r)) = _
      rw [List.append_assoc]; rfl
    exact fin L2 τ3 k1 k2 g2 g3 (by rw [ec]; exact g4) g5
/-- what a param gives back, as it is kept -/
def kpW (g s deep : Nat) (pl : List (List Int32 × Nat)) : List Int32 := kyC pl ++ ([em 38 (nI (wdN (kdP pl) + deep))] ++ (rwL (192 + g) s (wdN (kdP pl) + 1) (kdP pl) ++ [em 37 (nI (wdN (kdP pl) + 1))]))
theorem kpW_l {deep : Nat} {pl : List (List Int32 × Nat)} : (kpW g s deep pl).length = (kyC pl).length + pl.length + 5 := by
  unfold kpW
  rw [List.length_append, List.length_append, List.length_append, rwL_l, kdP_l]
  show (kyC pl).length + (1 + (pl.length + 3 + 1)) = _
  omega
theorem kpW_t {deep : Nat} {pl : List (List Int32 × Nat)} (tv : TgV u gl Vm s ow) (hg : g = if ow = u then 0 else 1) (h1 : gl.1 ≤ 1000) (pg : PtG u 0 gl Vm pl) (kl : pl.length ≤ 30000) (hd : deep < M) (hd8 : deep < 1000) : Sst u gl Pc Vm [] 0 M M (kpW g s deep pl) := by
  obtain ⟨k1, k2⟩ := kyC_g pl pg
  have wb := wdN_b (kdP pl)
  have kb := kdP_l pl
  have z1 : Sst u gl Pc Vm [] 0 M (M + wdN (kdP pl)) (kyC pl) := Sst_sg k1 M
  have z2 : Sst u gl Pc Vm [] 0 (M + wdN (kdP pl)) (M + wdN (kdP pl) + 1) [em 38 (nI (wdN (kdP pl) + deep))] := Sst_i (Is_pk (by omega) (by omega)) (Nat.le_refl _) (by show M + wdN (kdP pl) + 1 ≤ M + wdN (kdP pl) + 1; omega)
  have z3 : Sst u gl Pc Vm [] 0 (M + wdN (kdP pl) + 1) (M + wdN (kdP pl) + 1) (rwL (192 + g) s (wdN (kdP pl) + 1) (kdP pl)) := Sst_i (Is_wr (tgO_of tv hg h1) (kOK_b k2) (Nat.le_refl _) (fun w ms => tpv_0 (by omega)) (by omega) (by omega)) (by rw [rwL_l]; omega) (by omega)
  have z4 : Sst u gl Pc Vm [] 0 (M + (wdN (kdP pl) + 1)) M [em 37 (nI (wdN (kdP pl) + 1))] := Sst_i (Is_dr (by omega)) (Nat.le_refl _) (by omega)
  have y3 := Sst_seq z3 z4 (by omega)
  have y2 := Sst_seq z2 y3 (by show M + wdN (kdP pl) + 1 ≤ M + wdN (kdP pl) + 1; omega)
  have k11 := k1.1
  exact Sst_seq z1 y2 (by omega)
end CXI
end JnS493
section JnS494
/-! The class: what a param gives back is kept. -/
section CXJ
variable {σ σ' σ0 τ τ' τ0 : CS} {L : LV} {b : Bool} {T : Nat → Int32} {n q q' u al o v mk mk' p sz szB szE nc nc0 sz0 mk0 a1 a2 m kk f e s ow a t0 g D op w st w' st' M nm deep : Nat} {y qh qh' : Int32} {l l' cs cs' ll lt : List Int32} {tb : List Ent} {E : En} {gl : Nat × (Nat → Nat → Prop)} {Vm : Nat → Prop} {Pc : Nat → Nat → Prop} {bt : BT} {ks : List Nat} {α : Type} {S : α → Int32 → CS → Prop} {x : Fl α} {C : Prop} {lo lo' : Option Nat} {pl : List (List Int32 × Nat)}
theorem c_keepT (h : QS T n b u al tb o q v mk 0 sz σ) (zf : ZF b u w st lo qh σ) (u42 : u < 42) (h18 : σ.1 4018 = nI mk) (h19 : σ.1 4019 = nI pl.length) (h20 : σ.1 4020 = nI nm) (hnm : nm < tb.length) (hs : (tb.getD nm e0E).2.2.2.1 = s ∧ (tb.getD nm e0E).2.2.1 = ow) (how : ow < 42) (hg : g = if ow = u then 0 else 1) (pm : PtM σ mk (szE + 1) pl) (pg : PtG u 0 gl Vm pl) (hN : mk + 3 * pl.length ≤ sN σ 41) (hE : sz = szE + 1 + (ptC pl).length) (hc : ∀ j, j < (ptC pl).length → cdr b σ (szE + 1 + j) = (ptC pl).getD j 0) (kp : Kpt lt σ) (l1 : L.1 1 = nI deep) (hd : deep < 1000) (hz : sz + (kyC pl).length + pl.length + 5 ≤ 36864) (hl : lt.length + (kyC pl).length + pl.length + 5 ≤ 16384) : Tm (fun k => f_X5_keepTarget k 0 L σ) (ZPo b u tb.length sz mk (Sum.inr ()) (fun _ _ τ' => QS T n b u al tb o q v mk 0 sz τ' ∧ ZF b u w st lo qh τ' ∧ Kpt (lt ++ kpW g s deep pl) τ') σ 0 0) := by
  have s0 := Zy_0 h zf
  have s0' : Zy T n b u al σ tb.length sz mk 0 0 tb o q v mk w st lo qh sz ([] ++ []) σ := s0
  have h41 := h.2.2.1.2.2
  have t256 := h.2.2.2.1.2.1
  have fc := fP_c b 1
  have es : σ.1 (fP b 1) = nI sz := h.2.1.1
  have wb := wdN_b (kdP pl)
  have kb := kdP_l pl
  obtain ⟨hs1, hs2⟩ := hs
  refine Tm_suc (fun k => by rw [f_X5_keepTarget]) ?_
  refine Tm_oP (Zy_pp s0) ?_
  rw [es]
  refine c_kpL (N := pl.length) (eN := sz) (deep := deep) (cs := []) h18 h19 hN h41 rfl pl 0 0 (szE + 1) [] _ σ 0 0 pm pg hc (by omega) (by omega) (Nat.le_refl _) l1 rfl rfl rfl s0' (CdF_r b σ) (fun _ _ => rfl) (by show sz + 0 + _ ≤ _; omega) (fun L2 τ2 n1 n2 j1 j2 j3 s2 cf2 cb2 => ?_)
  rw [Nat.zero_add] at j3
  have s2' : Zy T n b u al σ tb.length sz mk n1 n2 tb o q v mk w st lo qh sz (kyC pl) τ2 := s2
  refine Tm_suc (fun k => by rw [f_X5_keepTarget]) ?_
  refine Tm_oP (Zy_pp s2') ?_
  rw [j3, j1, n_add (by omega)]
  refine ztc_emit (op := 38) s2' rfl rfl (by omega) (fun τ3 n3 n4 s3 co3 => ?_)
  refine Tm_oP (Zy_pp s3) (Tm_oP (Zy_pp s3) ?_)
  have cf3 := CdF_t cf2 co3.1
  have e20 : τ3.1 4020 = nI nm := by rw [cf3.1 _ (by omega)]; exact h20
  have e03 : τ3.1 4003 = nI u := s3.1.1.2.2.2.2.1.2.1
  obtain ⟨t1, t2, t3, t4, t5, t6, t7⟩ := s3.1.1.2.2.2.1.2.2 nm hnm
  rw [hs2] at t5
  rw [hs1] at t6
  have lk1 : ∀ w : Int32, (kyC pl ++ [w]).length = (kyC pl).length + 1 := fun w => by rw [List.length_append]; rfl
  have b6 : ∀ L6 : LV, L6.1 2 = nI sz → L6.1 3 = nI (wdN (kdP pl)) → L6.1 100 = nI g → L6.1 101 = nI 192 → L6.2.2.1 102 = b → Tm (fun k => f_X5_keepTarget k 6 L6 τ3) (ZPo b u tb.length sz mk (Sum.inr ()) (fun _ _ τ' => QS T n b u al tb o q v mk 0 sz τ' ∧ ZF b u w st lo qh τ' ∧ Kpt (lt ++ kpW g s deep pl) τ') σ (n1 + n3) (n2 + n4)) := by
    intro L6 i2 i3 i100 i101 i102
    have g1 : g ≤ 1 := by rw [hg]; split <;> omega
    refine Tm_suc (fun k => by rw [f_X5_keepTarget]) ?_
    refine Tm_oP (Zy_pp s3) ?_
    rw [e20]
    refine Tm_chk (n_in (by omega) (by omega)) ?_
    rw [n_cl (by omega), t6, i101, i100, n_add (by omega), i3, n_add1]
    refine ztc_emit (op := 192 + g) s3 i102 rfl (by rw [lk1]; omega) (fun τ4 n5 n6 s4 co4 => ?_)
    have lk2 : ∀ w w' : Int32, (kyC pl ++ [w] ++ [w']).length = (kyC pl).length + 2 := fun w w' => by rw [List.length_append, lk1]; rfl
    refine Tm_oP (Zy_pp s4) ?_
    refine ztc_word s4 rfl (by rw [lk2]; omega) (fun τ5 n7 n8 s5 co5 => ?_)
    have lk3 : ∀ w w' w'' : Int32, (kyC pl ++ [w] ++ [w'] ++ [w'']).length = (kyC pl).length + 3 := fun w w' w'' => by rw [List.length_append, lk2]; rfl
    refine Tm_oP (Zy_pp s5) ?_
    have cf5 := CdF_t (CdF_t cf3 co4.1) co5.1
    have e19 : τ5.1 4019 = nI pl.length := by rw [cf5.1 _ (by omega)]; exact h19
    rw [e19]
    refine ztc_word s5 rfl (by rw [lk3]; omega) (fun τ6 n9 n10 s6 co6 => ?_)
    have lk4 : ∀ w w' w'' x : Int32, (kyC pl ++ [w] ++ [w'] ++ [w''] ++ [x]).length = (kyC pl).length + 4 := fun w w' w'' x => by rw [List.length_append, lk3]; rfl
    have cf6 := CdF_t cf5 co6.1
    have s6' : Zy T n b u al σ tb.length sz mk (n1 + n3 + n5 + n7 + n9) (n2 + n4 + n6 + n8 + n10) tb o q v mk w st lo qh sz ([] ++ (kyC pl ++ [em 38 (nI (wdN (kdP pl) + deep))] ++ [em (192 + g) (nI s)] ++ [nI (wdN (kdP pl) + 1)] ++ [nI pl.length])) τ6 := s6
    refine c_kpK (eN := 0) (τ0 := σ) (N := pl.length) (cs := []) h18 h19 hN h41 pl 0 (szE + 1) _ _ τ6 _ _ (nI sz) (nI (wdN (kdP pl))) pm (by omega) i2 i3 rfl s6' cf6 (by rw [lk4]; show sz + 0 + _ + _ ≤ _; omega) (fun L7 τ7 n11 n12 r2 r3 s7 cf7 => ?_)
    have eW : [] ++ (kyC pl ++ [em 38 (nI (wdN (kdP pl) + deep))] ++ [em (192 + g) (nI s)] ++ [nI (wdN (kdP pl) + 1)] ++ [nI pl.length] ++ kdL (kdP pl)) ++ [em 37 (nI (wdN (kdP pl) + 1))] = [] ++ kpW g s deep pl := by
      unfold kpW rwL
      rw [kb]
      simp only [List.append_assoc, List.nil_append, List.cons_append]
    have l7 : ([] ++ (kyC pl ++ [em 38 (nI (wdN (kdP pl) + deep))] ++ [em (192 + g) (nI s)] ++ [nI (wdN (kdP pl) + 1)] ++ [nI pl.length] ++ kdL (kdP pl))).length = (kyC pl).length + pl.length + 4 := by
      rw [List.nil_append, List.length_append, lk4, kdL_l, kb]; omega
    refine Tm_suc (fun k => by rw [f_X5_keepTarget]) ?_
    refine Tm_oP (Zy_pp s7) ?_
    rw [r3, n_add1]
    refine ztc_emit (op := 37) s7 rfl rfl (by rw [l7]; omega) (fun τ8 n13 n14 s8 co8 => ?_)
    have s8' : Zy T n b u al σ tb.length sz mk (n11 + n13) (n12 + n14) tb o q v mk w st lo qh sz ([] ++ kpW g s deep pl) τ8 := by rw [← eW]; exact s8
    refine Tm_oP (Zy_pp s8') (Tm_oP (Zy_pp s8') ?_)
    have cf8 := CdF_t cf7 co8.1
    have r42 := cf8.2.2.1 42 (by decide)
    have kp8 : Kpt lt τ8 := ⟨⟨by rw [cf8.1 _ (by omega)]; exact kp.1.1, by rw [r42.2]; exact kp.1.2⟩, fun i hi => by rw [r42.1]; exact kp.2 i hi⟩
    have lw := kpW_l (g := g) (s := s) (deep := deep) (pl := pl)
    have es8 : τ8.1 (fP b 1) = nI (sz + (kpW g s deep pl).length) := s8'.1.1.2.1.1
    have ed : τ8.1 (fP b 1) - nI sz = nI (kpW g s deep pl).length := by
      rw [es8, n_sub (by omega) (by omega)]
      exact congrArg nI (by omega)
    have e2 : L7.1 2 = nI sz := r2
    rw [e2]
    refine zt_keep (a := sz) (ll := kpW g s deep pl) s8' kp8 rfl rfl ed (fun i hi => s8'.2.1 i hi) (by show sz + _ ≤ sz + _; exact Nat.le_refl _) (by rw [lw]; omega) (fun τ9 n15 n16 s9 kp9 _ => ?_)
    refine Tm_oP (Zy_pp s9) ?_
    have s10 := Zy_sz (cs := []) s9 (Nat.le_refl _)
    have s10' : Zy T n b u al σ tb.length sz mk (n11 + n13 + n15) (n12 + n14 + n16) tb o q v mk w st lo qh sz [] (uI τ9 (fP b 1) (nI sz)) := s10
    refine Tm_some (Zfin s10' ⟨s10'.1.1, s10'.2.2, ⟨⟨by rw [uI_o (by omega)]; exact kp9.1.1, kp9.1.2⟩, kp9.2⟩⟩)
  rw [e20]
  refine Tm_chk (n_in (by omega) (by omega)) ?_
  have eo : τ3.2.2.1 (pR8 b) (nI nm).toNatClampNeg = nI ow := by rw [n_cl (by omega)]; exact t5
  by_cases ho : ow = u
  · refine Tm_yes (by show τ3.2.2.1 (pR8 b) (nI nm).toNatClampNeg = τ3.1 4003; rw [eo, e03, ho]) ?_
    refine b6 _ j2 j3 ?_ rfl rfl
    rw [hg, if_pos ho]; rfl
  · refine Tm_no (by show ¬ τ3.2.2.1 (pR8 b) (nI nm).toNatClampNeg = τ3.1 4003; rw [eo, e03, n_eq (by omega) (by omega)]; exact ho) ?_
    refine Tm_suc (fun k => by rw [f_X5_keepTarget]) ?_
    refine b6 _ j2 j3 ?_ rfl rfl
    rw [hg, if_neg ho]; rfl
end CXJ
end JnS494
section JnS495
/-! The class: calls of procs are read. -/
section CXK
variable {σ σ' σ0 τ τ' τ0 : CS} {L : LV} {b : Bool} {T : Nat → Int32} {n q q' u al o v mk mk' p sz szB szE nc nc0 sz0 mk0 a1 a2 m kk f e s ow a t0 g D op w st w' st' M nm deep vv np : Nat} {y qh qh' : Int32} {l l' cs cs' ll lt lt0 : List Int32} {tb : List Ent} {E : En} {gl : Nat × (Nat → Nat → Prop)} {Vm : Nat → Prop} {Pc : Nat → Nat → Prop} {MD : Nat → Nat → Nat} {md : Nat → Nat} {bt : BT} {ks : List Nat} {lo lo' : Option Nat}
theorem lit_om : LitG (-2147483648) := Or.inl ⟨by decide, by decide⟩
/-- params of procs and their modes -/
def PcR (b : Bool) (Pc : Nat → Nat → Prop) (MD : Nat → Nat → Nat) (σ : CS) : Prop := ∀ vv np, Pc vv np → (vv < 42 ∧ np ≤ 8 ∧ 1 ≤ vv) ∧ σ.2.2.1 (pR14 b) vv = nI np ∧ ∀ i, i < np → (σ.2.2.1 (pR15 b) vv >>> ((2 * nI i) &&& 31)) &&& 3 = nI (MD (vv - 1) i) ∧ MD (vv - 1) i ≤ 2
theorem PcR_k {nc' sz' mk' : Nat} (h : PcR b Pc MD σ) (x : ZK b u nc' sz' mk' σ τ) : PcR b Pc MD τ := fun vv np hp => by
  obtain ⟨h1, h2, h3⟩ := h vv np hp
  have pd := pR_d b
  rw [x.2.1.1 (pR14 b) (by omega), x.2.1.1 (pR15 b) (by omega)]
  exact ⟨h1, h2, h3⟩
theorem c_mode {i : Nat} (h : PcR b Pc MD σ) (hp : Pc vv np) (hi : i < np) (hb : L.2.2.1 0 = b) (l1 : L.1 1 = nI vv) (l2 : L.1 2 = nI i) : Tm (fun k => y_X7_mode__P k 0 L σ) (fun r => r.1 = nI (MD (vv - 1) i) ∧ r.2 = σ) := by
  obtain ⟨h1, h2, h3⟩ := h vv np hp
  refine Tm_suc (fun k => by rw [y_X7_mode__P]) ?_
  rw [hb, l1, l2]
  refine Tm_chk (n_in (by omega) (by omega)) ?_
  rw [n_cl (by omega), (h3 i hi).1]
  exact Tm_some ⟨rfl, rfl⟩
/-- from the ( on, without the ; -/
def gCl0 (T : Nat → Int32) (n f : Nat) (md : Nat → Nat) (np : Nat) (E : En) (o q v : Nat) (b : BT) : RG := gO o q (gT T n q (fun q2 => gb (GA T n md np E f (o + 1) q2 v 0 0 0 b) (fun r => if tkK T n r.1 = 7 ∧ r.2.2.1 = np then gT T n r.1 (fun q3 => some (Sum.inr (q3, r.2.1, 0, 0, b, []))) else some (Sum.inl (if tkK T n r.1 = 7 then 6 else 2, r.1)))))
theorem gCl_0 {p : Nat} {tg : Int32} {x : Fl RT} (h : gCl T n f md np p tg E o q v bt = some x) : (tkK T n (tkN T n q) = 0 ∧ x = Sum.inl (1, tkN T n q)) ∨ (¬ tkK T n (tkN T n q) = 0 ∧ ((¬ tkK T n (tkN T n q) = 6 ∧ x = Sum.inl (5, q)) ∨ (tkK T n (tkN T n q) = 6 ∧ ∃ z, gCl0 T n f md np E o (tkN T n q) v bt = some z ∧ Sem T n x (mF (fun r => (r.1, r.2.1)) z)))) := by
  unfold gCl at h
  rcases gT_any h with ⟨w1, w2⟩ | ⟨w1, w2⟩
  · exact Or.inl ⟨w1, w2⟩
  refine Or.inr ⟨w1, ?_⟩
  by_cases k6 : tkK T n (tkN T n q) = 6
  case neg =>
    rw [if_neg k6] at w2
    exact Or.inl ⟨k6, (Option.some.inj w2).symm⟩
  rw [if_pos k6] at w2
  refine Or.inr ⟨k6, ?_⟩
  unfold gCl0
  rcases gO_any w2 with ⟨w3, w4⟩ | ⟨w3, w4⟩
  · exact ⟨Sum.inl (3, tkN T n q), by unfold gO; rw [if_pos w3], Or.inl ⟨_, rfl, w4⟩⟩
  unfold gO
  rw [if_neg w3]
  rcases gT_any w4 with ⟨w5, w6⟩ | ⟨w5, w6⟩
  · exact ⟨Sum.inl (1, tkN T n (tkN T n q)), by unfold gT; rw [if_pos w5], Or.inl ⟨_, rfl, w6⟩⟩
  unfold gT
  rw [if_neg w5]
  show ∃ z, gb (GA T n md np E f (o + 1) (tkN T n (tkN T n q)) v 0 0 0 bt) (fun r => if tkK T n r.1 = 7 ∧ r.2.2.1 = np then (if tkK T n (tkN T n r.1) = 0 then some (Sum.inl (1, tkN T n r.1)) else some (Sum.inr (tkN T n r.1, r.2.1, 0, 0, bt, []))) else some (Sum.inl (if tkK T n r.1 = 7 then 6 else 2, r.1))) = some z ∧ _
  rcases gb_any w6 with ⟨yf, w7, w8⟩ | ⟨r, w7, w8⟩
  · exact ⟨Sum.inl yf, by rw [w7]; rfl, Or.inl ⟨_, rfl, w8⟩⟩
  rw [w7]
  show ∃ z, (if tkK T n r.1 = 7 ∧ r.2.2.1 = np then (if tkK T n (tkN T n r.1) = 0 then some (Sum.inl (1, tkN T n r.1)) else some (Sum.inr (tkN T n r.1, r.2.1, 0, 0, bt, []))) else some (Sum.inl (if tkK T n r.1 = 7 then 6 else 2, r.1))) = some z ∧ _
  by_cases kc : tkK T n r.1 = 7 ∧ r.2.2.1 = np
  · rw [if_pos kc] at w8 ⊢
    rcases gT_any w8 with ⟨w9, wa⟩ | ⟨w9, wa⟩
    · exact ⟨Sum.inl (1, tkN T n r.1), by rw [if_pos w9], Or.inl ⟨_, rfl, wa⟩⟩
    · exact ⟨Sum.inr _, by rw [if_neg w9], Or.inr ⟨_, _, _, rfl, wa⟩⟩
  · rw [if_neg kc] at w8 ⊢
    exact ⟨Sum.inl (if tkK T n r.1 = 7 then 6 else 2, r.1), rfl, Or.inl ⟨_, rfl, (Option.some.inj w8).symm⟩⟩
/-- behind a call -/
def ClR (T : Nat → Int32) (n : Nat) (b : Bool) (u al : Nat) (gl : Nat × (Nat → Nat → Prop)) (Pc : Nat → Nat → Prop) (Vm : Nat → Prop) (tb : List Ent) (o mk sz q v w st : Nat) (lo : Option Nat) (qh : Int32) (np : Nat) (lt0 : List Int32) (r : Nat × Nat) (τ : CS) : Prop := ∃ cc pp : List Int32, QS T n b u al tb o r.1 r.2 mk 0 (sz + (cc ++ (pp ++ lt0)).length) τ ∧ (∀ i, i < (cc ++ (pp ++ lt0)).length → cdr b τ (sz + i) = (cc ++ (pp ++ lt0)).getD i 0) ∧ ZF b u w st lo qh τ ∧ (Sst u gl Pc Vm [] 2 0 (1 + np) cc ∧ 1 + np ≤ cc.length) ∧ Sst u gl Pc Vm [] 0 (1 + np) (1 + np) pp ∧ 2 * (cc.length + pp.length) ≤ 7 * (r.1 - q) ∧ q < r.1 ∧ v ≤ r.2
theorem c_call {x : Fl RT} (h : QS T n b u al tb o q v mk 0 sz σ) (zf : ZF b u w st lo qh σ) (ev : EvX E b u al gl Vm tb σ) (pr : PcR b Pc MD σ) (hP : Pc vv np) (hmd : md = MD (vv - 1)) (n3 : ∀ i, i < tb.length → ¬ (tb.getD i e0E).2.1 = 3) (n10 : n ≤ 10240) (hmk : mk ≤ 2 * q + 18 * (o + 1)) (hnt : tb.length + (60 - v) ≤ 256) (hsz : 2 * sz + 7 * (n - q) + 2 * lt0.length + 100 ≤ 73728) (hk : tkK T n q = 6) (kp : Kpt lt0 σ) (hlt : 2 * lt0.length ≤ 3 * q) (l1 : L.1 1 = nI vv) (l2 : L.1 2 = nI lt0.length) (hG : gCl0 T n f md np E o q v bt = some x) : Tm (fun k => f_X5_call k 0 L σ) (ZPo b u tb.length sz mk (mF (fun r => (r.1, r.2.1)) x) (fun r _ τ => ClR T n b u al gl Pc Vm tb o mk sz q v w st lo qh np lt0 r τ) σ 0 0) := by
  have s0 := Zy_0 h zf
  have go := tk_go h
  have g1 := go.2.2 (by omega)
  have u42 := ev.2.2.1.2
  have gl1 := ev.1.1
  have o20 := h.2.2.2.2.2.1.2
  have v60 := h.2.2.2.2.2.2.1.2
  obtain ⟨⟨pv1, pv2, pv3⟩, pr14, _⟩ := pr vv np hP
  -- behind the exps
  have b4 : ∀ (L' : LV) (τ : CS) (a1 a2 : Nat) (r : RT) (as kks : List Int32) (x : Fl RT), (if tkK T n r.1 = 7 ∧ r.2.2.1 = np then gT T n r.1 (fun q3 => some (Sum.inr (q3, r.2.1, 0, 0, bt, []))) else some (Sum.inl (if tkK T n r.1 = 7 then 6 else 2, r.1))) = some x → L'.1 1 = nI vv → L'.1 2 = nI lt0.length → L'.1 3 = nI np → L'.1 4 = nI r.2.2.1 → Zy T n b u al σ tb.length sz mk a1 a2 tb (o + 1) r.1 r.2.1 mk w st lo qh sz (em 16 0 :: as) τ → Kpt (lt0 ++ kks) τ → Sgm u 0 gl Vm r.2.2.1 as → Sst u gl Pc Vm [] 0 (1 + np) (1 + np) kks → 2 * (as.length + kks.length) ≤ 7 * (r.1 - tkN T n q) + 7 → r.2.2.1 ≤ as.length → tkN T n q ≤ r.1 → v ≤ r.2.1 → Tm (fun k => f_X5_call k 4 L' τ) (ZPo b u tb.length sz mk (mF (fun r => (r.1, r.2.1)) x) (fun r _ τ => ClR T n b u al gl Pc Vm tb o mk sz q v w st lo qh np lt0 r τ) σ a1 a2) := by
    intro L' τ a1 a2 r as kks x hg j1 j2 j3 j4 s1 kp1 sg sk ln la lq lv
    have go1 := tk_go s1.1.1
    have el : (em 16 0 :: as).length = as.length + 1 := rfl
    refine Tm_suc (fun k => by rw [f_X5_call]) ?_
    by_cases k7 : tkK T n r.1 = 7
    case neg =>
      rw [if_neg (fun z => k7 z.1)] at hg
      have hx := Option.some.inj hg
      exact zt_want (kk := 7) (C := False) s1 (by decide) rfl (Or.inl ⟨k7, by rw [← hx, if_neg k7]; rfl⟩) (fun _ _ _ c _ => c.elim)
    refine zt_want (kk := 7) (C := True) s1 (by decide) rfl (Or.inr ⟨k7, trivial⟩) (fun ret1 n1 n2 _ s2 => ?_)
    rw [j3, j4]
    by_cases kn : r.2.2.1 = np
    case neg =>
      rw [if_neg (fun z => kn z.2)] at hg
      refine Tm_no (by rw [n_eq (by omega) (by omega)]; exact kn) ?_
      rw [← Option.some.inj hg, if_pos k7]
      exact zt_ref s2 rfl (lx_3 s2.1.1) (by decide)
    rw [if_pos ⟨k7, kn⟩] at hg
    refine Tm_yes (by rw [kn]) ?_
    have g2 := go1.2.2 (by omega)
    refine Tm_suc (fun k => by rw [f_X5_call]) ?_
    rcases gT_any hg with ⟨w1, w2⟩ | ⟨w1, w2⟩
    · rw [w2]
      exact zt_closes (kk := 7) (C := False) s2 (by decide) rfl (Or.inl ⟨fun z => z.2 w1, wF_a k7 rfl⟩) (fun _ _ _ _ c _ _ => c.elim)
    refine zt_closes (kk := 7) (C := True) s2 (by decide) rfl (Or.inr ⟨⟨k7, w1⟩, trivial⟩) (fun τ3 ret3 n3' n4 _ s3 xk3 => ?_)
    refine Tm_oP (Zy_pp s3) ?_
    refine zt_emit (op := 19) s3 rfl rfl (by rw [el]; omega) (fun τ4 n5 n6 s4 xk4 => ?_)
    refine Tm_oP (Zy_pp s4) ?_
    have kp4 := Kpt_k (Kpt_k kp1 xk3) xk4
    have l42 : (lt0 ++ kks).length = lt0.length + kks.length := List.length_append
    have k13 : τ4.1 4013 = nI (lt0.length + kks.length) := by have z := kp4.1.1; rw [l42] at z; exact z
    have k42 : lt0.length + kks.length ≤ sN τ4 42 := by have z := kp4.1.2; rw [l42] at z; exact z
    have le4 : ∀ w : Int32, (em 16 0 :: as ++ [w]).length = as.length + 2 := fun w => by rw [List.length_append, el]; rfl
    have l2' : L'.1 2 = nI lt0.length := j2
    have ed : τ4.1 4013 - L'.1 2 = nI kks.length := by
      rw [k13, j2, n_sub (by omega) (by omega)]
      exact congrArg nI (by omega)
    refine zt_words42 (a := lt0.length) (ll := kks) s4 rfl j2 ed k42 (by rw [le4]; omega) (fun i hi => ?_) (fun τ5 n7 n8 s5 xk5 => ?_)
    · have z := kp4.2 (lt0.length + i) (by rw [l42]; omega)
      rw [gd_r] at z
      exact z
    refine Tm_oP (Zy_pp s5) ?_
    have kp5 := Kpt_k kp4 xk5
    have le5 : ∀ w : Int32, (em 16 0 :: as ++ [w] ++ kks).length = as.length + 2 + kks.length := fun w => by rw [List.length_append, le4]
    refine zt_words42 (a := 0) (ll := lt0) s5 rfl rfl j2 (by show 0 + lt0.length ≤ sN τ5 42; have z := kp5.1.2; rw [l42] at z; omega) (by rw [le5]; omega) (fun i hi => ?_) (fun τ6 n9 n10' s6 xk6 => ?_)
    · have z := kp5.2 i (by rw [l42]; omega)
      rw [gd_l hi] at z
      rw [Nat.zero_add]
      exact z
    have hx : x = Sum.inr (tkN T n r.1, r.2.1, 0, 0, bt, []) := (Option.some.inj w2).symm
    rw [hx]
    have ea : em 16 0 :: as ++ [em 19 (L'.1 1)] ++ kks ++ lt0 = em 16 0 :: (as ++ [em 19 (nI vv)]) ++ (kks ++ lt0) := by
      rw [j1]
      simp only [List.append_assoc, List.cons_append]
    have s6' : Zy T n b u al σ tb.length sz mk (a1 + n1 + n3' + n5 + n7 + n9) (a2 + n2 + n4 + n6 + n8 + n10') tb o (tkN T n r.1) r.2.1 mk w st lo qh sz (em 16 0 :: (as ++ [em 19 (nI vv)]) ++ (kks ++ lt0)) τ6 := by rw [← ea]; exact s6
    have lcc : (em 16 0 :: (as ++ [em 19 (nI vv)])).length = as.length + 2 := by rw [List.length_cons, List.length_append]; rfl
    refine Tm_some (Zfin s6' ⟨_, kks, s6'.1.1, s6'.2.1, s6'.2.2, ⟨Sst_cp hP (kn ▸ sg), by rw [lcc]; omega⟩, sk, ?_, ?_, lv⟩)
    · rw [lcc]
      show 2 * (as.length + 2 + kks.length) ≤ 7 * (tkN T n r.1 - q)
      omega
    · show q < tkN T n r.1
      omega
  -- an exp, and those behind it
  have lp : ∀ (f1 : Nat) (L' : LV) (τ : CS) (a1 a2 q1 v1 c it : Nat) (bt1 : BT) (ii : RT → Nat) (bb : RT → BT) (as kks : List Int32) (x : Fl RT), gb (gb (G T n f1 0 E (o + 1) q1 v1 0 0 0 0 bt1) (fun r => if c < np ∧ 0 < md c ∧ r.2.2.1 = 0 then some (Sum.inl (6, q1)) else GA T n md np E f1 (o + 1) r.1 r.2.1 (ii r) r.2.2.2.1 (c + 1) (bb r))) (fun r => if tkK T n r.1 = 7 ∧ r.2.2.1 = np then gT T n r.1 (fun q3 => some (Sum.inr (q3, r.2.1, 0, 0, bt, []))) else some (Sum.inl (if tkK T n r.1 = 7 then 6 else 2, r.1))) = some x → L'.1 1 = nI vv → L'.1 2 = nI lt0.length → L'.1 3 = nI np → L'.1 4 = nI c → L'.1 5 = 1 → L'.1 6 = nI it → it ≤ q1 → c ≤ q1 → Zy T n b u al σ tb.length sz mk a1 a2 tb (o + 1) q1 v1 mk w st lo qh sz (em 16 0 :: as) τ → Kpt (lt0 ++ kks) τ → Sgm u 0 gl Vm c as → Sst u gl Pc Vm [] 0 (1 + np) (1 + np) kks → 2 * (as.length + kks.length) ≤ 7 * (q1 - tkN T n q) → 2 * kks.length ≤ 3 * (q1 - tkN T n q) + 9 * min c np → c ≤ as.length → tkN T n q ≤ q1 → v ≤ v1 → Tm (fun k => f_X5_call k 3 L' τ) (ZPo b u tb.length sz mk (mF (fun r => (r.1, r.2.1)) x) (fun r _ τ => ClR T n b u al gl Pc Vm tb o mk sz q v w st lo qh np lt0 r τ) σ a1 a2) := by
    intro f1
    induction f1 using Nat.strongRecOn with
    | ind f1 ih =>
    intro L' τ a1 a2 q1 v1 c it bt1 ii bb as kks x hg j1 j2 j3 j4 j5 j6 hit hcq s1 kp1 sg sk ln lk la lq lv
    have go1 := tk_go s1.1.1
    have el : (em 16 0 :: as).length = as.length + 1 := rfl
    have e3 : τ.1 3703 = nI q1 := s1.1.1.1.2.2.2.2.2.2.1
    have es : τ.1 (fP b 1) = nI (sz + (as.length + 1)) := s1.1.1.2.1.1
    rw [gb_gb] at hg
    have bd1 : BdX n (o + 1) q1 v1 mk 0 (sz + (em 16 0 :: as).length) tb.length := ⟨n10, by rw [el]; omega, by omega, by omega, by omega⟩
    refine Tm_suc (fun k => by rw [f_X5_call]) ?_
    refine Tm_no (by rw [j6]; show ¬ nI 32768 < nI it; rw [n_lt (by decide) (by omega)]; omega) ?_
    refine Tm_no (by rw [j5]; decide) ?_
    refine Tm_oP (Zy_pp s1) ?_
    rcases gb_any hg with ⟨yf, w1, w2⟩ | ⟨r, w1, w2⟩
    · rw [w2]
      exact zt_exp (C := True) s1 (EvX_z ev s1.1.2.1) bd1 rfl w1 (Or.inl ⟨_, rfl, rfl⟩) (fun _ _ _ _ _ _ z => by cases z)
    refine zt_exp (C := True) s1 (EvX_z ev s1.1.2.1) bd1 rfl w1 (Or.inr ⟨r, rfl, trivial⟩) (fun τ2 ret2 n1 n2 r' l2x hz _ s2 xk2 sg2 ln2 lt2 lv2 tg2 => ?_)
    cases hz
    have kp2 := Kpt_k kp1 xk2
    have go2 := tk_go s2.1.1
    have lcs : (em 16 0 :: as ++ l2x).length = as.length + 1 + l2x.length := by rw [List.length_append, el]
    have l42 : (lt0 ++ kks).length = lt0.length + kks.length := List.length_append
    -- behind one exp, whose code is l3, with what is kept
    have b11 : ∀ (L9 : LV) (τ9 : CS) (a3 a4 : Nat) (l3 kk2 : List Int32), gb (GA T n md np E f1 (o + 1) r.1 r.2.1 (ii r) r.2.2.2.1 (c + 1) (bb r)) (fun r => if tkK T n r.1 = 7 ∧ r.2.2.1 = np then gT T n r.1 (fun q3 => some (Sum.inr (q3, r.2.1, 0, 0, bt, []))) else some (Sum.inl (if tkK T n r.1 = 7 then 6 else 2, r.1))) = some x → L9.1 1 = nI vv → L9.1 2 = nI lt0.length → L9.1 3 = nI np → L9.1 4 = nI c → L9.1 6 = nI it → Zy T n b u al σ tb.length sz mk a3 a4 tb (o + 1) r.1 r.2.1 mk w st lo qh sz (em 16 0 :: (as ++ l3)) τ9 → Kpt (lt0 ++ (kks ++ kk2)) τ9 → Sgm u 0 gl Vm 1 l3 → Sst u gl Pc Vm [] 0 (1 + np) (1 + np) kk2 → 2 * (l3.length + kk2.length) ≤ 7 * (r.1 - q1) + 7 → 2 * kk2.length ≤ 3 * (r.1 - q1) + 9 * (if c < np then 1 else 0) → Tm (fun k => f_X5_call k 11 L9 τ9) (ZPo b u tb.length sz mk (mF (fun r => (r.1, r.2.1)) x) (fun r _ τ => ClR T n b u al gl Pc Vm tb o mk sz q v w st lo qh np lt0 r τ) σ a3 a4) := by
      intro L9 τ9 a3 a4 l3 kk2 hg9 i1 i2 i3 i4 i6 s9 kp9 sg9 sk9 ln9 lk9
      have go9 := tk_go s9.1.1
      have sgs := Sgm_seq sg sg9
      have las : (as ++ l3).length = as.length + l3.length := List.length_append
      have lkk : (kks ++ kk2).length = kks.length + kk2.length := List.length_append
      have sg91 := sg9.1
      have skk : Sst u gl Pc Vm [] 0 (1 + np) (1 + np) (kks ++ kk2) := Sst_seq sk sk9 (by omega)
      cases f1 with
      | zero => cases hg9
      | succ f2 =>
        have hg9' : gb (if c + 1 = 0 then (if tkK T n r.1 = 7 then some (Sum.inr (r.1, r.2.1, 0, 0, bb r, [])) else gb (G T n f2 0 E (o + 1) r.1 r.2.1 0 0 0 0 (bb r)) (fun r' => if 0 < np ∧ 0 < md 0 ∧ r'.2.2.1 = 0 then some (Sum.inl (6, r.1)) else GA T n md np E f2 (o + 1) r'.1 r'.2.1 r'.2.2.2.1 r'.2.2.2.1 1 r'.2.2.2.2.1)) else if tkK T n r.1 = 12 then gT T n r.1 (fun q1 => gb (G T n f2 0 E (o + 1) q1 r.2.1 0 0 0 0 (bb r)) (fun r' => if c + 1 < np ∧ 0 < md (c + 1) ∧ r'.2.2.1 = 0 then some (Sum.inl (6, q1)) else GA T n md np E f2 (o + 1) r'.1 r'.2.1 (ii r) r'.2.2.2.1 (c + 1 + 1) (bSet r'.2.2.2.2.1 9 r.2.2.2.1 (nI r'.2.2.2.1)))) else some (Sum.inr (r.1, r.2.1, c + 1, ii r, bb r, []))) (fun r => if tkK T n r.1 = 7 ∧ r.2.2.1 = np then gT T n r.1 (fun q3 => some (Sum.inr (q3, r.2.1, 0, 0, bt, []))) else some (Sum.inl (if tkK T n r.1 = 7 then 6 else 2, r.1))) = some x := hg9
        rw [if_neg (by omega)] at hg9'
        refine Tm_suc (fun k => by rw [f_X5_call]) ?_
        rw [i4, n_add1]
        by_cases k12 : tkK T n r.1 = 12
        · rw [if_pos k12, gb_gT] at hg9'
          have g9 := go9.2.2 (by omega)
          refine Tm_yes ((lx_k (kk := 12) s9.1.1 (by decide)).2 k12) ?_
          refine Tm_suc (fun k => by rw [f_X5_call]) ?_
          refine Tm_no (by show ¬ (1 : Int32) = 0; decide) ?_
          rcases gT_any hg9' with ⟨y1, y2⟩ | ⟨y1, y2⟩
          · rw [y2]
            exact zt_adv (C := False) s9 (Or.inl ⟨y1, rfl⟩) (fun _ _ _ _ c _ _ => c.elim)
          refine zt_adv (C := True) s9 (Or.inr ⟨y1, trivial⟩) (fun τ10 ret10 m1 m2 _ s10 xk10 => ?_)
          refine Tm_suc (fun k => by rw [f_X5_call]) ?_
          refine ih f2 (by omega) _ τ10 _ _ (tkN T n r.1) r.2.1 (c + 1) (it + 1) _ _ _ (as ++ l3) (kks ++ kk2) x y2 i1 i2 i3 rfl rfl ?_ (by omega) (by omega) s10 (Kpt_k kp9 xk10) sgs skk (by rw [las, lkk]; omega) ?_ (by rw [las]; omega) (by omega) (by omega)
          · show L9.1 6 + 1 = _
            rw [i6, n_add1]
          · rw [lkk]
            by_cases z : c < np
            · rw [if_pos z] at lk9
              omega
            · rw [if_neg z] at lk9
              omega
        · rw [if_neg k12] at hg9'
          refine Tm_no (fun z => k12 ((lx_k (kk := 12) s9.1.1 (by decide)).1 z)) ?_
          refine Tm_suc (fun k => by rw [f_X5_call]) ?_
          refine Tm_suc (fun k => by rw [f_X5_call]) ?_
          refine Tm_yes rfl ?_
          refine Tm_suc (fun k => by rw [f_X5_call]) ?_
          refine Tm_suc (fun k => by rw [f_X5_call]) ?_
          refine Tm_no (by show ¬ nI 32768 < L9.1 6 + 1; rw [i6, n_add1, n_lt (by decide) (by omega)]; omega) ?_
          refine Tm_yes rfl ?_
          exact b4 _ τ9 _ _ (r.1, r.2.1, c + 1, ii r, bb r, []) (as ++ l3) (kks ++ kk2) x hg9' i1 i2 i3 rfl s9 kp9 sgs skk (by rw [las, lkk]; show 2 * (as.length + l3.length + (kks.length + kk2.length)) ≤ 7 * (r.1 - tkN T n q) + 7; omega) (by rw [las]; show c + 1 ≤ _; omega) (by show tkN T n q ≤ r.1; omega) (by show v ≤ r.2.1; omega)
    -- what its mode asks: block 8
    have b8 : ∀ (L8 : LV) (τ8 : CS) (a3 a4 mo : Nat) (kk2 : List Int32), gb (GA T n md np E f1 (o + 1) r.1 r.2.1 (ii r) r.2.2.2.1 (c + 1) (bb r)) (fun r => if tkK T n r.1 = 7 ∧ r.2.2.1 = np then gT T n r.1 (fun q3 => some (Sum.inr (q3, r.2.1, 0, 0, bt, []))) else some (Sum.inl (if tkK T n r.1 = 7 then 6 else 2, r.1))) = some x → L8.1 1 = nI vv → L8.1 2 = nI lt0.length → L8.1 3 = nI np → L8.1 4 = nI c → L8.1 6 = nI it → L8.1 8 = nI (sz + (as.length + 1)) → L8.1 9 = nI mo → mo ≤ 2 → Zy T n b u al σ tb.length sz mk a3 a4 tb (o + 1) r.1 r.2.1 mk w st lo qh sz (em 16 0 :: as ++ l2x) τ8 → Kpt (lt0 ++ (kks ++ kk2)) τ8 → Sst u gl Pc Vm [] 0 (1 + np) (1 + np) kk2 → ((mo = 0 ∧ kk2 = []) ∨ (kk2.length = l2x.length + 4 ∧ c < np ∧ (r.1 - q1 = 1 → l2x.length = 1))) → Tm (fun k => f_X5_call k 8 L8 τ8) (ZPo b u tb.length sz mk (mF (fun r => (r.1, r.2.1)) x) (fun r _ τ => ClR T n b u al gl Pc Vm tb o mk sz q v w st lo qh np lt0 r τ) σ a3 a4) := by
      intro L8 τ8 a3 a4 mo kk2 hg8 i1 i2 i3 i4 i6 i8 i9 hmo s8 kp8 sk8 hmk8
      have go8 := tk_go s8.1.1
      have lkb : 2 * kk2.length ≤ 3 * (r.1 - q1) + 9 * (if c < np then 1 else 0) := by
        rcases hmk8 with ⟨z1, z2⟩ | ⟨z1, z2, z3⟩
        · rw [z2]; exact Nat.zero_le _
        · rw [if_pos z2]; omega
      refine Tm_suc (fun k => by rw [f_X5_call]) ?_
      rw [i9]
      by_cases m1 : mo = 1
      · refine Tm_yes (by rw [m1]; rfl) ?_
        refine Tm_oP (Zy_pp s8) ?_
        rcases hmk8 with ⟨z1, z2⟩ | ⟨z1, z2, z3⟩
        · omega
        have s8' := Zy_sz (cs := em 16 0 :: as) (acc := l2x) s8 (Nat.le_add_right _ _)
        have e8 : uI τ8 (fP b 1) (L8.1 8) = uI τ8 (fP b 1) (nI (sz + (em 16 0 :: as).length)) := by rw [i8]; rfl
        rw [e8]
        have kp8' : Kpt (lt0 ++ (kks ++ kk2)) (uI τ8 (fP b 1) (nI (sz + (em 16 0 :: as).length))) := ⟨⟨by rw [uI_o (by have := fP_c b 1; omega)]; exact kp8.1.1, kp8.1.2⟩, kp8.2⟩
        refine zt_push s8' lit_om (by rw [el]; omega) (fun τ9 ret9 m3 m4 s9 xk9 => ?_)
        refine b11 _ τ9 _ _ [em 32 0, -2147483648] kk2 hg8 i1 i2 i3 i4 i6 s9 (Kpt_k kp8' xk9) (Sgm_1 (by show 1 ≤ 2; decide) (by show 1 ≤ 2; decide) (It_pu lit_om)) sk8 ?_ lkb
        show 2 * (2 + kk2.length) ≤ _
        omega
      · refine Tm_no (by intro z; have z' : nI mo = nI 1 := z; rw [n_eq (by omega) (by decide)] at z'; exact m1 z') ?_
        refine b11 _ τ8 _ _ l2x kk2 hg8 i1 i2 i3 i4 i6 s8 kp8 sg2 sk8 ?_ lkb
        rcases hmk8 with ⟨z1, z2⟩ | ⟨z1, z2, z3⟩
        · rw [z2]
          show 2 * (l2x.length + 0) ≤ _
          omega
        · by_cases y1 : r.1 - q1 = 1
          · have := z3 y1
            omega
          · omega
    -- its mode: block 6
    have b6 : ∀ (L6 : LV) (mo : Nat), L6.1 1 = nI vv → L6.1 2 = nI lt0.length → L6.1 3 = nI np → L6.1 4 = nI c → L6.1 6 = nI it → L6.1 7 = nI q1 → L6.1 8 = nI (sz + (as.length + 1)) → L6.1 100 = nI mo → mo ≤ 2 → ((c < np ∧ mo = md c) ∨ (¬ c < np ∧ mo = 0)) → Tm (fun k => f_X5_call k 6 L6 τ2) (ZPo b u tb.length sz mk (mF (fun r => (r.1, r.2.1)) x) (fun r _ τ => ClR T n b u al gl Pc Vm tb o mk sz q v w st lo qh np lt0 r τ) σ (a1 + n1) (a2 + n2)) := by
      intro L6 mo i1 i2 i3 i4 i6 i7 i8 i100 hmo hmm
      refine Tm_suc (fun k => by rw [f_X5_call]) ?_
      rw [i100]
      by_cases m0 : mo = 0
      · rw [if_neg (fun z => by rcases hmm with ⟨y1, y2⟩ | ⟨y1, y2⟩ <;> omega)] at w2
        refine Tm_yes (by rw [m0]; rfl) ?_
        refine b8 _ τ2 _ _ mo [] w2 i1 i2 i3 i4 i6 i8 rfl hmo s2 (by rw [List.append_nil]; exact kp2) Sst_nil (Or.inl ⟨m0, rfl⟩)
      refine Tm_no (by rw [n_eq0 (by omega)]; exact m0) ?_
      have hcn : c < np := by rcases hmm with ⟨y1, _⟩ | ⟨_, y2⟩ <;> omega
      by_cases ri : r.2.2.1 = 0
      · rw [if_pos ⟨hcn, by rcases hmm with ⟨_, y2⟩ | ⟨y1, _⟩ <;> omega, ri⟩] at w2
        refine Tm_no (by rw [i7]; exact tg2.1 ri) ?_
        refine Tm_suc (fun k => by rw [f_X5_call]) ?_
        have hx := (Option.some.inj w2).symm
        rw [hx]
        exact zt_ref s2 rfl i7 (by decide)
      · rw [if_neg (fun z => ri z.2.2)] at w2
        obtain ⟨⟨t1, t2, t3⟩, nm, ld, pl, ⟨t4, t5⟩, t6, t7, t8, t9, t10⟩ := tg2.2 ri
        refine Tm_yes (by rw [i7]; exact t1) ?_
        refine Tm_oP (Zy_pp s2) ?_
        have es2 : τ2.1 (fP b 1) = nI (sz + (as.length + 1 + l2x.length)) := by have z := s2.1.1.2.1.1; rw [lcs] at z; exact z
        have t2' : τ2.1 4017 = nI (sz + (as.length + 1) + l2x.length) := t2
        refine Tm_yes (by rw [t2', es2]; exact congrArg nI (by omega)) ?_
        -- its variable
        have tx := g_inf f1 0 q1 v1 bt1 r (Or.inl rfl) w1
        have fd1 : tkK T n q1 = 26 ∧ (fd E (tkS T n q1)).1 = 1 := by
          rcases tx with z | ⟨f', r', z, _⟩
          · exact absurd z ri
          · unfold gTg at z
            by_cases k26 : tkK T n q1 = 26
            · rw [if_pos k26] at z
              rcases gT_any z with ⟨_, y⟩ | ⟨_, y⟩
              · cases y
              · by_cases f1' : (fd E (tkS T n q1)).1 = 1
                · exact ⟨k26, f1'⟩
                · rw [if_neg f1'] at y
                  cases y
            · rw [if_neg k26] at z
              cases z
        have okn : okN (tkS T n q1) := (s1.1.1.1.2.2.2.2.2.2.2.2 fd1.1).2
        obtain ⟨en0, en1, en2, en3, en4⟩ := (ev.1.2 (tkS T n q1) okn).1 nm t6
        have k0 : (tb.getD nm e0E).2.1 = 0 := by
          have z3 := n3 nm t6.1
          have c : (tb.getD nm e0E).2.1 = 0 ∨ (tb.getD nm e0E).2.1 = 1 ∨ (tb.getD nm e0E).2.1 = 2 := by omega
          rcases c with c | c | c
          · exact c
          · have := (en3 c).1; omega
          · have := (en4 c).1; omega
        obtain ⟨_, z2, z3⟩ := en1 k0
        have tv : TgV u gl Vm (tb.getD nm e0E).2.2.2.1 (tb.getD nm e0E).2.2.1 := ⟨z2, z3, en0.2⟩
        have lpl : l2x.length = (kyC pl).length + pl.length + 1 := by rw [t7, List.length_cons, kyC_l]
        have ltc : (ptC pl).length = (kyC pl).length + pl.length := kyC_l pl
        have sgl : l2x.length ≤ 30000 := by omega
        obtain ⟨g, hgg⟩ : ∃ g, g = if (tb.getD nm e0E).2.2.1 = u then 0 else 1 := ⟨_, rfl⟩
        refine Tm_suc (fun k => by rw [f_X5_call]) ?_
        have ed : L6.1 3 - 1 - L6.1 4 = nI (np - 1 - c) := by
          rw [i3, i4, show nI np - 1 = nI (np - 1) from by rw [show (1 : Int32) = nI 1 from rfl, n_sub (by omega) (by omega)], n_sub (by omega) (by omega)]
        have hcd : ∀ j, j < (ptC pl).length → cdr b τ2 (sz + (as.length + 1) + 1 + j) = (ptC pl).getD j 0 := fun j hj => by
          have z := s2.2.1 (as.length + 1 + (1 + j)) (by rw [lcs]; omega)
          have y : (em 16 0 :: as ++ l2x).getD (as.length + 1 + (1 + j)) 0 = l2x.getD (1 + j) 0 := gd_r (a := em 16 0 :: as) (b := l2x) (1 + j)
          rw [y, t7, show 1 + j = j + 1 by omega] at z
          rw [show sz + (as.length + 1) + 1 + j = sz + (as.length + 1 + (j + 1)) by omega]
          exact z
        have t8' : PtM τ2 mk (sz + (as.length + 1) + 1) pl := t8
        refine zt_callZ (C := True) s2 (c_keepT (szE := sz + (as.length + 1)) (nm := nm) (deep := np - 1 - c) (lt := lt0 ++ kks) s2.1.1 s2.2.2 u42 t3 t5 t4 t6.1 ⟨rfl, rfl⟩ en0.2 hgg t8' t9 t10 (by rw [lcs]; omega) hcd kp2 ed (by omega) (by rw [lcs]; omega) (by rw [l42]; omega)) (Or.inr ⟨(), rfl, trivial, fun τ3 ret3 m1 m2 hr zk3 hc3 => ?_⟩)
        obtain ⟨r1, r2, r3⟩ := hr
        have s3 := Zy_c0 s2 r1 zk3 hc3 (Nat.le_refl _) (Nat.le_refl _) r2
        refine b8 _ τ3 _ _ mo (kpW g (tb.getD nm e0E).2.2.2.1 (np - 1 - c) pl) w2 i1 i2 i3 i4 i6 i8 rfl hmo s3 (by rw [← List.append_assoc]; exact r3) (kpW_t tv hgg gl1 t9 (by omega) (by omega) (by omega)) (Or.inr ⟨by rw [kpW_l]; omega, hcn, fun y1 => ?_⟩)
        cases pl with
        | nil => rw [t7]; rfl
        | cons z r' =>
          exfalso
          have hp : 1 ≤ z.1.length := by
            rcases t9.1 with ⟨_, g⟩ | ⟨_, g⟩ | ⟨_, g⟩
            · exact g.1
            · exact g.1
            · have := g.1; omega
          have e1 : (kyC (z :: r')).length = z.1.length + (kyC r').length := by show (z.1 ++ kyC r').length = _; rw [List.length_append]
          rw [e1, List.length_cons] at lpl
          omega
    have j3' : L'.1 3 = nI np := j3
    rw [j3, j4]
    by_cases hcn : np ≤ c
    · refine Tm_yes (by rw [n_le (by omega) (by omega)]; exact hcn) ?_
      refine Tm_suc (fun k => by rw [f_X5_call]) ?_
      exact b6 _ 0 j1 j2 j3 j4 j6 e3 es rfl (by omega) (Or.inr ⟨by omega, rfl⟩)
    · refine Tm_no (by rw [n_le (by omega) (by omega)]; exact hcn) ?_
      refine Tm_oP (Zy_pp s2) ?_
      have pr2 := PcR_k pr s2.1.2.1
      refine Tm_op (c_mode (i := c) pr2 hP (by omega) rfl j1 rfl) (fun r7 z7 => ?_)
      obtain ⟨e7, f7⟩ := z7
      rw [f7]
      have mb := (pr2 vv np hP).2.2 c (by omega)
      exact b6 _ (MD (vv - 1) c) j1 j2 j3 j4 j6 e3 es e7 mb.2 (Or.inl ⟨by omega, by rw [hmd]⟩)
  refine Tm_suc (fun k => by rw [f_X5_call]) ?_
  refine Tm_oP (Zy_pp s0) ?_
  rw [l1]
  refine Tm_chk (n_in (by omega) (by omega)) ?_
  refine Tm_oP (Zy_pp s0) ?_
  rw [n_cl (by omega), pr14]
  refine zt_emit (op := 16) s0 rfl rfl (by show sz + 0 + 1 ≤ _; omega) (fun τ1 n1 n2 s1 xk1 => ?_)
  unfold gCl0 at hG
  rcases gO_any hG with ⟨w1, w2⟩ | ⟨w1, w2⟩
  · rw [w2]
    exact zt_opens (C := False) s1 (Or.inl ⟨fun z => z.1 w1, oF_a w1 rfl⟩) (fun _ _ _ _ c _ _ => c.elim)
  rcases gT_any w2 with ⟨w3, w4⟩ | ⟨w3, w4⟩
  · rw [w4]
    exact zt_opens (C := False) s1 (Or.inl ⟨fun z => z.2 w3, oF_b w1 rfl⟩) (fun _ _ _ _ c _ _ => c.elim)
  refine zt_opens (C := True) s1 (Or.inr ⟨⟨w1, w3⟩, trivial⟩) (fun τ2 ret2 m1 m2 _ s2 xk2 => ?_)
  have kp2 : Kpt (lt0 ++ []) τ2 := by rw [List.append_nil]; exact Kpt_k (Kpt_k kp xk1) xk2
  have s2' : Zy T n b u al σ tb.length sz mk (0 + n1 + m1) (0 + n2 + m2) tb (o + 1) (tkN T n q) v mk w st lo qh sz [em 16 0] τ2 := s2
  cases f with
  | zero =>
    rcases gb_any w4 with ⟨yf, y, _⟩ | ⟨_, y, _⟩ <;> cases y
  | succ f =>
    have w4' : gb (if (0 : Nat) = 0 then (if tkK T n (tkN T n q) = 7 then some (Sum.inr (tkN T n q, v, 0, 0, bt, [])) else gb (G T n f 0 E (o + 1) (tkN T n q) v 0 0 0 0 bt) (fun r => if 0 < np ∧ 0 < md 0 ∧ r.2.2.1 = 0 then some (Sum.inl (6, tkN T n q)) else GA T n md np E f (o + 1) r.1 r.2.1 r.2.2.2.1 r.2.2.2.1 1 r.2.2.2.2.1)) else if tkK T n (tkN T n q) = 12 then gT T n (tkN T n q) (fun q1 => gb (G T n f 0 E (o + 1) q1 v 0 0 0 0 bt) (fun r => if 0 < np ∧ 0 < md 0 ∧ r.2.2.1 = 0 then some (Sum.inl (6, q1)) else GA T n md np E f (o + 1) r.1 r.2.1 0 r.2.2.2.1 (0 + 1) (bSet r.2.2.2.2.1 9 0 (nI r.2.2.2.1)))) else some (Sum.inr (tkN T n q, v, 0, 0, bt, []))) (fun r => if tkK T n r.1 = 7 ∧ r.2.2.1 = np then gT T n r.1 (fun q3 => some (Sum.inr (q3, r.2.1, 0, 0, bt, []))) else some (Sum.inl (if tkK T n r.1 = 7 then 6 else 2, r.1))) = some x := w4
    rw [if_pos rfl] at w4'
    by_cases k7 : tkK T n (tkN T n q) = 7
    · rw [if_pos k7] at w4'
      refine Tm_yes ((lx_k (kk := 7) s2.1.1 (by decide)).2 k7) ?_
      refine Tm_suc (fun k => by rw [f_X5_call]) ?_
      refine Tm_suc (fun k => by rw [f_X5_call]) ?_
      refine Tm_suc (fun k => by rw [f_X5_call]) ?_
      refine Tm_no (by show ¬ nI 32768 < nI 0; rw [n_lt (by decide) (by decide)]; decide) ?_
      refine Tm_yes rfl ?_
      exact b4 _ τ2 _ _ (tkN T n q, v, 0, 0, bt, []) [] [] x w4' l1 l2 rfl rfl s2' kp2 (Sgm_nil u 0 gl Vm) Sst_nil (by show 2 * (0 + 0) ≤ _; omega) (Nat.le_refl _) (Nat.le_refl _) (Nat.le_refl _)
    · rw [if_neg k7] at w4'
      refine Tm_no (fun z => k7 ((lx_k (kk := 7) s2.1.1 (by decide)).1 z)) ?_
      refine Tm_suc (fun k => by rw [f_X5_call]) ?_
      exact lp f _ τ2 _ _ (tkN T n q) v 0 0 bt _ _ [] [] x w4' l1 l2 rfl rfl rfl rfl (Nat.zero_le _) (Nat.zero_le _) s2' kp2 (Sgm_nil u 0 gl Vm) Sst_nil (by show 2 * (0 + 0) ≤ _; omega) (Nat.zero_le _) (Nat.le_refl _) (Nat.le_refl _) (Nat.le_refl _)
end CXK
end JnS495
section JnS496
/-! The class: what a call gives back goes into a target. -/
section CXL
variable {σ σ' σ0 τ τ' τ0 : CS} {L : LV} {b : Bool} {T : Nat → Int32} {n q q' u al o v mk mk' p sz szB szE nc nc0 sz0 mk0 a1 a2 m kk f e s ow a t0 g D op w st w' st' M nm deep vv np : Nat} {y qh qh' : Int32} {l l' cs cs' ll lt lt0 : List Int32} {tb : List Ent} {E : En} {gl : Nat × (Nat → Nat → Prop)} {Vm : Nat → Prop} {Pc : Nat → Nat → Prop} {MD : Nat → Nat → Nat} {md : Nat → Nat} {bt : BT} {ks : List Nat} {lo lo' : Option Nat} {α : Type} {S S' : α → Int32 → CS → Prop} {x : Fl α} {C : Prop}
/-- a call within, told from the method's own beginning on -/
theorem zt_callO {β : Type} {z : Fl β} {R : β → Int32 → CS → Prop} {g : Nat → Option RS} {f : Nat → RS → Option RS} (t : Tm g (ZPo b u nc0 sz0 mk0 z R σ0 a1 a2)) (hx : (∃ y, z = Sum.inl y ∧ x = Sum.inl y) ∨ ∃ s, z = Sum.inr s ∧ C ∧ ∀ (τ' : CS) (ret : Int32) (n1 n2 : Nat), R s ret τ' → ZK b u nc0 sz0 mk0 σ0 τ' → (a1 + n1 + PhC τ' ≤ PhC σ0 ∧ a2 + n2 + PhS τ' ≤ PhS σ0) → Tm (fun k => f k ((0, ret), τ', (n1, n2))) (ZPo b u nc0 sz0 mk0 x S σ0 (a1 + n1) (a2 + n2))) : Tm (fun k => ox (g k) (f k)) (ZPo b u nc0 sz0 mk0 x S σ0 a1 a2) := by
  refine Tm_ox t (fun r w nz => ?_) (fun r w e0 => ?_)
  · rcases hx with ⟨y0, e1, e2⟩ | ⟨s, e1, _⟩
    · rw [e2]
      exact ⟨fun t' e => (by cases e), fun y1 ye => by cases ye; exact w.2.1 y0 e1, fun z => absurd z nz, fun z => w.2.2.2.1 z, w.2.2.2.2⟩
    · exact absurd (w.1 s e1).1 nz
  · rcases hx with ⟨y0, e1, e2⟩ | ⟨s, e1, c, cont⟩
    · exact absurd (w.2.1 y0 e1).1 (by rw [e0]; decide)
    · have y := w.2.2.1 e0
      have k := cont r.2.1 r.1.2 r.2.2.1 r.2.2.2 (w.1 s e1).2 w.2.2.2.2 y
      have er : ((0, r.1.2), r.2.1, (r.2.2.1, r.2.2.2)) = r := by
        rw [← e0]
      rw [er] at k
      exact Tm_mono k (fun q z => ZPo_s z)
/-- a method that began later -/
theorem Z_re {g : Nat → Option RS} (h : Zy T n b u al σ0 nc0 sz0 mk0 a1 a2 tb o q v mk w st lo qh szB cs τ) (t : Tm g (ZPo b u tb.length (szB + cs.length) mk x S τ 0 0)) : Tm g (ZPo b u nc0 sz0 mk0 x S σ0 a1 a2) := by
  obtain ⟨⟨h1, h2, h3, h4, h5, h6⟩, _⟩ := h
  refine Tm_mono t (fun r w => ⟨w.1, w.2.1, fun e => ?_, fun e => ?_, ZK_t h2 w.2.2.2.2 h4 h5 h6⟩)
  · have y := w.2.2.1 e; omega
  · have y := w.2.2.2.1 e; omega
theorem Z_w {g : Nat → Option RS} (t : Tm g (ZPo b u nc0 sz0 mk0 x S σ0 a1 a2)) (i : ∀ t y τ, S t y τ → S' t y τ) : Tm g (ZPo b u nc0 sz0 mk0 x S' σ0 a1 a2) := Tm_mono t (fun r w => ⟨fun t e => ⟨(w.1 t e).1, i t _ _ (w.1 t e).2⟩, w.2⟩)
/-- a target whose name is found -/
theorem c_targetN {i : Nat} {x : Fl RT} {e1 : Nat} {bt1 : BT} (h : QS T n b u al tb o q v mk p sz σ) (ev : EvX E b u al gl Vm tb σ) (n10 : n ≤ 10240) (hmk : mk ≤ 2 * q + 18 * o) (hsz : 2 * sz + 3 * (n - q) + 100 ≤ 73728) (hnt : tb.length + (60 - v) ≤ 256) (hp : p ≤ 3 * v) (hi : i < tb.length) (hs : (tb.getD i e0E).2.2.2.1 = s ∧ (tb.getD i e0E).2.2.1 = ow) (l1 : L.1 1 = nI i) (hG : G T n f 12 E o q v 1 e1 0 0 bt1 = some x) : Tm (fun k => f_X5_target k 0 L σ) (QPo b u tb.length sz mk x (fun r y τ => TtR T n b u al gl Vm tb o mk p sz q v s ow r y τ) σ 0 0) := by
  have t256 := h.2.2.2.1.2.1
  refine Tm_suc (fun k => by rw [f_X5_target]) ?_
  refine Tm_no (by rw [l1]; exact n_mn (by omega)) ?_
  exact c_tg1 h ev n10 hmk hsz hnt hp hi hs l1 hG
theorem c_assignR (h : QS T n b u al tb o q v mk 0 sz τ) (hu : u < 42) (tm : TgM τ t0 s ow ks) (ht : t0 + 4 + ks.length ≤ mk) (kl : ks.length ≤ 30000) (hg : g = if ow = u then 0 else 1) (how : ow < 42) (hv : vv < 42) (hn8 : np ≤ 8) (h14 : τ.2.2.1 (pR14 b) vv = nI np) (hm : sz + 5 + ks.length ≤ 36864) (l1 : L.1 1 = nI t0) (l2 : L.1 2 = nI vv) : Tm (fun k => f_X5_assignResult k 0 L τ) (QPo b u tb.length sz mk (Sum.inr ()) (fun _ _ τ' => QS T n b u al tb o q v mk 0 (sz + ([em 38 (nI (wdN ks + np))] ++ (rwL (192 + g) s (wdN ks + 1) ks ++ [em 37 (nI (wdN ks + 2 + np))])).length) τ' ∧ (∀ i, i < ([em 38 (nI (wdN ks + np))] ++ (rwL (192 + g) s (wdN ks + 1) ks ++ [em 37 (nI (wdN ks + 2 + np))])).length → cdr b τ' (sz + i) = ([em 38 (nI (wdN ks + np))] ++ (rwL (192 + g) s (wdN ks + 1) ks ++ [em 37 (nI (wdN ks + 2 + np))])).getD i 0)) τ 0 0) := by
  have s0 := Sy_0 h
  have sn := h.2.2.1
  have sn1 := sn.2.1
  have sn2 := sn.2.2
  have wb := wdN_b ks
  have e12 : L.1 1 + 2 = nI (t0 + 2) := by rw [l1]; exact n_add (q := 2) (by omega)
  have k1 : τ.2.2.1 41 (nI (t0 + 2)).toNatClampNeg = nI (wdN ks) := by rw [n_cl (by omega)]; exact tm.1.2.2.1
  have ea2 : nI (wdN ks) + 2 = nI (wdN ks + 2) := n_add (q := 2) (by omega)
  refine Tm_suc (fun k => by rw [f_X5_assignResult]) ?_
  rw [e12]
  refine Tm_chk (n_in (by omega) (by omega)) ?_
  refine Tm_oP (Sy_pp s0) (Tm_oP (Sy_pp s0) ?_)
  rw [l2]
  refine Tm_chk (n_in (by omega) (by omega)) ?_
  have e14 : τ.2.2.1 (pR14 b) (nI vv).toNatClampNeg = nI np := by rw [n_cl (by omega)]; exact h14
  rw [k1, e14, ea2, n_add1, n_add (by omega)]
  refine st_emit (op := 38) s0 rfl rfl (by show sz + 0 + 1 ≤ _; omega) (fun τ1 n1 n2 s1 => ?_)
  have tm1 := TgM_k tm s1.1.2.1 ht
  refine st_emitT (op := 192) (D := wdN ks + 1) s1 hu tm1 ht hg how (by decide) (by show sz + 1 + 3 + _ ≤ _; omega) rfl l1 rfl (fun τ2 ret2 n3 n4 s2 xk2 => ?_)
  refine Tm_oP (Sy_pp s2) (Tm_oP (Sy_pp s2) ?_)
  refine Tm_chk (n_in (by omega) (by omega)) ?_
  have pd := pR_d b
  have e14' : τ2.2.2.1 (pR14 b) (nI vv).toNatClampNeg = nI np := by rw [s2.1.2.1.2.1.1 (pR14 b) (by omega)]; exact e14
  rw [e14', n_add (by omega)]
  have lr : ∀ w : Int32, ([] ++ [w] ++ rwL (192 + g) s (wdN ks + 1) ks).length = ks.length + 4 := fun w => by rw [List.length_append, rwL_l]; show 1 + (ks.length + 3) = _; omega
  refine st_emit (op := 37) s2 rfl rfl (by rw [lr]; omega) (fun τ3 n5 n6 s3 => ?_)
  have ea : [] ++ [em 38 (nI (wdN ks + np))] ++ rwL (192 + g) s (wdN ks + 1) ks ++ [em 37 (nI (wdN ks + 2 + np))] = [em 38 (nI (wdN ks + np))] ++ (rwL (192 + g) s (wdN ks + 1) ks ++ [em 37 (nI (wdN ks + 2 + np))]) := by simp only [List.append_assoc, List.nil_append]
  have s3' : Sy T n b u al τ tb.length sz mk (0 + n1 + n3 + n5) (0 + n2 + n4 + n6) tb o q v mk 0 sz ([em 38 (nI (wdN ks + np))] ++ (rwL (192 + g) s (wdN ks + 1) ks ++ [em 37 (nI (wdN ks + 2 + np))])) τ3 := by rw [← ea]; exact s3
  exact Tm_some (Qfin s3'.1 ⟨s3'.1.1, s3'.2⟩)
/-- a call's value is written, and all is dropped -/
theorem Sse_ar (tv : TgV u gl Vm s ow) (hg : g = if ow = u then 0 else 1) (h1 : gl.1 ≤ 1000) (ko : kOK ks) (kl : ks.length ≤ 30000) (hn : np ≤ 8) : Sse u gl Pc Vm [] 0 (1 + np + wdN ks) 0 ([em 38 (nI (wdN ks + np))] ++ (rwL (192 + g) s (wdN ks + 1) ks ++ [em 37 (nI (wdN ks + 2 + np))])) := by
  have wb := wdN_b ks
  have k0 : Sst u gl Pc Vm [] 0 (1 + np + wdN ks) (1 + np + wdN ks + 1) [em 38 (nI (wdN ks + np))] := Sst_i (Is_pk (by omega) (by omega)) (Nat.le_refl _) (by show 1 + np + wdN ks + 1 ≤ 1 + np + wdN ks + 1; omega)
  have k1 : Sst u gl Pc Vm [] 0 (1 + np + wdN ks + 1) (1 + np + wdN ks + 1) (rwL (192 + g) s (wdN ks + 1) ks) := Sst_i (Is_wr (tgO_of tv hg h1) (kOK_b ko) (Nat.le_refl _) (fun w ms => tpv_0 (by omega)) (by omega) (by omega)) (by rw [rwL_l]; omega) (by omega)
  have k2 : Sse u gl Pc Vm [] 0 (1 + np + wdN ks + 1) 0 [em 37 (nI (wdN ks + 2 + np))] := by
    have z := Sse_i (pre := []) (Is_dr (u := u) (gl := gl) (Pc := Pc) (Vm := Vm) (pre := []) (n := 0) (k := wdN ks + 2 + np) (by omega)) (by show 1 ≤ 1; decide) (by omega)
    rw [show 0 + (wdN ks + 2 + np) = 1 + np + wdN ks + 1 by omega] at z
    exact z
  have z1 := Sse_seq k1 k2 (by omega)
  exact Sse_seq k0 z1 (by show 1 + np + wdN ks + 1 ≤ 1 + np + wdN ks + 1; omega)
/-- the fault where a call is to stand -/
def pF (T : Nat → Int32) (n q : Nat) : Nat × Nat := if tkK T n (tkN T n q) = 0 then (1, tkN T n q) else (5, q)
theorem pF_1 (h : tkK T n (tkN T n q) = 0) : pF T n q = (1, tkN T n q) := if_pos h
theorem pF_5 (h : ¬ tkK T n (tkN T n q) = 0) : pF T n q = (5, q) := if_neg h
/-- the target's code is put off -/
theorem c_postp {x : Fl Nat} (h : Zy T n b u al σ0 nc0 sz0 mk0 a1 a2 tb o q v mk w st lo qh szB cs τ) (h0 : sz0 ≤ szB) (hm : cs.length ≤ 16384) (l1 : L.1 1 = nI szB) (hx : (¬ (¬ tkK T n (tkN T n q) = 0 ∧ tkK T n (tkN T n q) = 6) ∧ x = Sum.inl (pF T n q)) ∨ ((¬ tkK T n (tkN T n q) = 0 ∧ tkK T n (tkN T n q) = 6) ∧ x = Sum.inr (tkN T n q))) : Tm (fun k => f_X5_postponeTarget k 0 L τ) (ZPo b u nc0 sz0 mk0 x (fun q' _ τ' => Zy T n b u al τ' tb.length szB mk 0 0 tb o q' v mk w st lo qh szB [] τ' ∧ Kpt cs τ' ∧ ∀ i, i < mk → τ'.2.2.1 41 i = τ.2.2.1 41 i) σ0 a1 a2) := by
  have n36 := cdn_b h.1.1
  have le : szB + cs.length ≤ cdn b τ := h.1.1.2.1.2.1
  have es : τ.1 (fP b 1) = nI (szB + cs.length) := h.1.1.2.1.1
  have fc := fP_c b 1
  have s1 : Zy T n b u al σ0 nc0 sz0 mk0 (a1 + 0) (a2 + 0) tb o q v mk w st lo qh szB cs (uI τ 4013 0) := by
    have ph := Ph_s (σ := τ) (σ' := uI τ 4013 0) rfl
    exact Zy_42 h (fun j hj => uI_o hj) rfl (fun _ _ => ⟨rfl, rfl⟩) rfl rfl (Or.inl rfl) ⟨by omega, by omega⟩
  have kp1 : Kpt [] (uI τ 4013 0) := ⟨⟨uI_s, Nat.zero_le _⟩, fun i hi => absurd hi (Nat.not_lt_zero _)⟩
  have ed : (uI τ 4013 0).1 (fP b 1) - L.1 1 = nI cs.length := by
    rw [uI_o (by omega), es, l1, n_sub (by omega) (by omega)]
    exact congrArg nI (by omega)
  refine Tm_suc (fun k => by rw [f_X5_postponeTarget]) ?_
  refine Tm_oP (Zy_pp s1) (Tm_oP (Zy_pp s1) ?_)
  refine zt_keep (a := szB) (ll := cs) (lt := []) s1 kp1 rfl l1 ed (fun i hi => s1.2.1 i hi) (Nat.le_refl _) (by show 0 + _ ≤ _; omega) (fun τ2 n1 n2 s2 kp2 hk2 => ?_)
  refine Tm_oP (Zy_pp s2) ?_
  have s3 := Zy_sz (cs := []) (acc := cs) s2 h0
  have s3' : Zy T n b u al σ0 nc0 sz0 mk0 (a1 + 0 + n1) (a2 + 0 + n2) tb o q v mk w st lo qh szB [] (uI τ2 (fP b 1) (nI szB)) := s3
  have kp3 : Kpt cs (uI τ2 (fP b 1) (nI szB)) := ⟨⟨by rw [uI_o (by omega)]; exact kp2.1.1, kp2.1.2⟩, kp2.2⟩
  rw [l1]
  by_cases k0 : tkK T n (tkN T n q) = 0
  · rcases hx with ⟨w1, w2⟩ | ⟨w1, w2⟩
    · rw [w2, pF_1 k0]
      exact zt_adv (C := False) s3' (Or.inl ⟨k0, rfl⟩) (fun _ _ _ _ c _ _ => c.elim)
    · exact absurd k0 w1.1
  refine zt_adv (C := True) s3' (Or.inr ⟨k0, trivial⟩) (fun τ4 ret4 n3 n4 _ s4 xk4 => ?_)
  by_cases k6 : tkK T n (tkN T n q) = 6
  · rcases hx with ⟨w1, w2⟩ | ⟨w1, w2⟩
    · exact absurd ⟨k0, k6⟩ w1
    refine Tm_yes ((lx_k (kk := 6) s4.1.1 (by decide)).2 k6) ?_
    refine Tm_suc (fun k => by rw [f_X5_postponeTarget]) ?_
    rw [w2]
    refine Tm_some (Zfin s4 ⟨Zy_0 s4.1.1 s4.2.2, Kpt_k kp3 xk4, fun i hi => ?_⟩)
    rw [xk4.2.2.2.2.2.2.1 i hi]
    show τ2.2.2.1 41 i = _
    rw [(hk2 41 (by decide)).1]
    rfl
  · rcases hx with ⟨w1, w2⟩ | ⟨w1, w2⟩
    · refine Tm_no (fun z => k6 ((lx_k (kk := 6) s4.1.1 (by decide)).1 z)) ?_
      rw [w2, pF_5 k0]
      exact zt_ref s4 rfl (lx_3 h.1.1) (by decide)
    · exact absurd w1.2 k6
end CXL
end JnS496
section JnS497
/-! The class: statements that begin with a name are read. -/
section CXM
variable {σ σ' σ0 τ τ' τ0 : CS} {L : LV} {b : Bool} {T : Nat → Int32} {n q q' u al o v mk mk' p sz szB szE nc nc0 sz0 mk0 a1 a2 m kk f e s ow a t0 g D op w st w' st' M nm deep vv np : Nat} {y qh qh' : Int32} {l l' cs cs' ll lt lt0 : List Int32} {tb : List Ent} {E : En} {gl : Nat × (Nat → Nat → Prop)} {Vm : Nat → Prop} {Pc : Nat → Nat → Prop} {MD : Nat → Nat → Nat} {md : Nat → Nat} {bt : BT} {ks : List Nat} {lo lo' : Option Nat}
/-! the grammar, without the ; -/
def gCa0 (T : Nat → Int32) (n f : Nat) (MD : Nat → Nat → Nat) (E : En) (o q v : Nat) (b : BT) : RG := gT T n q (fun q1 => if tkK T n q1 = 6 then gCl0 T n f (MD (fd E (tkS T n q)).2.1) (E.2.2.2.2.2.2 (fd E (tkS T n q)).2.1) E o q1 v b else some (Sum.inl (5, q)))
def gAs0 (T : Nat → Int32) (n f : Nat) (MD : Nat → Nat → Nat) (E : En) (o i q v : Nat) (b : BT) : RG := if tkK T n q = 26 ∧ (fd E (tkS T n q)).1 = 3 then gCa0 T n f MD E o q v b else if tkK T n q = 63 then (if i = 1 then gT T n q (fun q2 => some (Sum.inr (q2, v, 0, 0, b, []))) else some (Sum.inl (2, q))) else G T n f 0 E o q v 0 0 0 0 b
def gBh0 (T : Nat → Int32) (n f : Nat) (MD : Nat → Nat → Nat) (E : En) (o i q v : Nat) (b : BT) : RG := if tkK T n q = 2 ∨ tkK T n q = 3 ∨ tkK T n q = 4 then gT T n q (fun q1 => gW T n 1 q1 (fun q2 => G T n f 0 E o q2 v 0 0 0 0 b)) else if tkK T n q = 57 ∨ tkK T n q = 58 ∨ tkK T n q = 59 then gT T n q (fun q1 => gTg T n f E o q1 v b) else gW T n 1 q (fun q1 => gAs0 T n f MD E o i q1 v b)
def gBg0 (T : Nat → Int32) (n f : Nat) (MD : Nat → Nat → Nat) (E : En) (o q v : Nat) (b : BT) : RG := if (fd E (tkS T n q)).1 = 3 then gCa0 T n f MD E o q v b else gb (gTg T n f E o q v b) (fun r => gBh0 T n f MD E o r.2.2.1 r.1 r.2.1 r.2.2.2.2.1)
def zq (z : Fl RT) : Fl (Nat × Nat) := mF (fun r => (r.1, r.2.1)) z
theorem gT_n {k : Nat → RG} (h : tkK T n (tkN T n q) = 0) : gT T n q k = some (Sum.inl (1, tkN T n q)) := by unfold gT; rw [if_pos h]
theorem gT_y {k : Nat → RG} (h : ¬ tkK T n (tkN T n q) = 0) : gT T n q k = k (tkN T n q) := by unfold gT; rw [if_neg h]
theorem gW_n {t : Nat} {k : Nat → RG} (h : ¬ (tkK T n q = t ∧ ¬ tkK T n (tkN T n q) = 0)) : gW T n t q k = some (Sum.inl (wF T n t q)) := by
  unfold gW
  by_cases c : tkK T n q = t
  · rw [if_pos c, wF_y c]; exact gT_n (Classical.byContradiction (fun z => h ⟨c, z⟩))
  · rw [if_neg c, wF_n c]
theorem gW_y {t : Nat} {k : Nat → RG} (h : tkK T n q = t ∧ ¬ tkK T n (tkN T n q) = 0) : gW T n t q k = k (tkN T n q) := by
  unfold gW; rw [if_pos h.1]; exact gT_y h.2
theorem gCa_0 {tg : Int32} {x : Fl RT} (h : gCa T n f MD tg E o q v bt = some x) : ∃ z, gCa0 T n f MD E o q v bt = some z ∧ Sem T n x (zq z) := by
  unfold gCa at h
  unfold gCa0
  rcases gCl_0 h with ⟨w1, w2⟩ | ⟨w1, w2⟩
  · exact ⟨_, gT_n w1, Or.inl ⟨_, rfl, w2⟩⟩
  · rw [gT_y w1]
    rcases w2 with ⟨w3, w4⟩ | ⟨w3, z, w4, w5⟩
    · exact ⟨Sum.inl (5, q), if_neg w3, Or.inl ⟨_, rfl, w4⟩⟩
    · exact ⟨z, by rw [if_pos w3]; exact w4, w5⟩
theorem gE13_0 {a1 c1 z1 : Int32} {x : Fl RT} (h : gE13 T n f E o q v bt a1 c1 z1 = some x) : ∃ z, G T n f 0 E o q v 0 0 0 0 bt = some z ∧ Sem T n x (zq z) := by
  unfold gE13 at h
  rcases gb_any h with ⟨yf, w1, w2⟩ | ⟨s, w1, w2⟩
  · exact ⟨Sum.inl yf, w1, Or.inl ⟨_, rfl, w2⟩⟩
  · exact ⟨Sum.inr s, w1, Or.inr ⟨_, _, _, rfl, w2⟩⟩
theorem gBg_0 {x : Fl RT} (h : gBg T n f MD E o q v bt = some x) : ∃ z, gBg0 T n f MD E o q v bt = some z ∧ Sem T n x (zq z) := by
  unfold gBg at h
  unfold gBg0
  by_cases f3 : (fd E (tkS T n q)).1 = 3
  · rw [if_pos f3] at h ⊢
    exact gCa_0 h
  rw [if_neg f3] at h ⊢
  rcases gb_any h with ⟨yf, w1, w2⟩ | ⟨r, w1, w2⟩
  · exact ⟨Sum.inl yf, by rw [w1]; rfl, Or.inl ⟨_, rfl, w2⟩⟩
  rw [w1]
  show ∃ z, gBh0 T n f MD E o r.2.2.1 r.1 r.2.1 r.2.2.2.2.1 = some z ∧ _
  unfold gBh at w2
  unfold gBh0
  by_cases c1 : tkK T n r.1 = 2 ∨ tkK T n r.1 = 3 ∨ tkK T n r.1 = 4
  · rw [if_pos c1] at w2 ⊢
    rcases gT_any w2 with ⟨y1, y2⟩ | ⟨y1, y2⟩
    · exact ⟨_, gT_n y1, Or.inl ⟨_, rfl, y2⟩⟩
    rw [gT_y y1]
    rcases gW_any y2 with ⟨y3, y4⟩ | ⟨y3, y4⟩
    · exact ⟨_, gW_n y3, Or.inl ⟨_, rfl, y4⟩⟩
    rw [gW_y y3]
    exact gE13_0 y4
  rw [if_neg c1] at w2 ⊢
  by_cases c2 : tkK T n r.1 = 57 ∨ tkK T n r.1 = 58 ∨ tkK T n r.1 = 59
  · rw [if_pos c2] at w2 ⊢
    rcases gT_any w2 with ⟨y1, y2⟩ | ⟨y1, y2⟩
    · exact ⟨_, gT_n y1, Or.inl ⟨_, rfl, y2⟩⟩
    rw [gT_y y1]
    rcases gb_any y2 with ⟨yf, y3, y4⟩ | ⟨s, y3, y4⟩
    · exact ⟨Sum.inl yf, y3, Or.inl ⟨_, rfl, y4⟩⟩
    · exact ⟨Sum.inr s, y3, Or.inr ⟨_, _, _, rfl, y4⟩⟩
  rw [if_neg c2] at w2 ⊢
  rcases gW_any w2 with ⟨y1, y2⟩ | ⟨y1, y2⟩
  · exact ⟨_, gW_n y1, Or.inl ⟨_, rfl, y2⟩⟩
  rw [gW_y y1]
  unfold gAs at y2
  unfold gAs0
  by_cases c3 : tkK T n (tkN T n r.1) = 63
  · rw [if_pos c3] at y2
    rw [if_neg (fun z => by omega), if_pos c3]
    by_cases c4 : r.2.2.1 = 1
    · rw [if_pos c4] at y2 ⊢
      rcases gT_any y2 with ⟨y3, y4⟩ | ⟨y3, y4⟩
      · exact ⟨_, gT_n y3, Or.inl ⟨_, rfl, y4⟩⟩
      · exact ⟨Sum.inr _, gT_y y3, Or.inr ⟨_, _, _, rfl, y4⟩⟩
    · rw [if_neg c4] at y2 ⊢
      exact ⟨Sum.inl (2, tkN T n r.1), rfl, Or.inl ⟨_, rfl, (Option.some.inj y2).symm⟩⟩
  rw [if_neg c3] at y2
  by_cases c5 : tkK T n (tkN T n r.1) = 26 ∧ (fd E (tkS T n (tkN T n r.1))).1 = 3
  · rw [if_pos c5] at y2 ⊢
    exact gCa_0 y2
  · rw [if_neg c5] at y2
    rw [if_neg c5, if_neg c3]
    exact gE13_0 y2
/-- procs that are told -/
def PcE (E : En) (Pc : Nat → Nat → Prop) : Prop := ∀ bs, okN bs → (fd E bs).1 = 3 → Pc ((fd E bs).2.1 + 1) (E.2.2.2.2.2.2 (fd E bs).2.1)
/-- behind a simple statement, with what is around -/
def SzR (T : Nat → Int32) (n : Nat) (b : Bool) (u al : Nat) (gl : Nat × (Nat → Nat → Prop)) (Pc : Nat → Nat → Prop) (Vm : Nat → Prop) (tb : List Ent) (o mk sz q v w st : Nat) (lo : Option Nat) (qh : Int32) (r : Nat × Nat) (τ : CS) : Prop := SqR T n b u al gl Pc Vm tb o mk sz q v r τ ∧ ZF b u w st lo qh τ
/-- what statements stand on -/
def StX (n : Nat) (E : En) (b : Bool) (u al : Nat) (gl : Nat × (Nat → Nat → Prop)) (Vm : Nat → Prop) (Pc : Nat → Nat → Prop) (MD : Nat → Nat → Nat) (tb : List Ent) (σ : CS) : Prop := EvX E b u al gl Vm tb σ ∧ PcR b Pc MD σ ∧ PcE E Pc ∧ (∀ i, i < tb.length → ¬ (tb.getD i e0E).2.1 = 3) ∧ n ≤ 10240
theorem StX_k {nc' sz' mk' : Nat} (h : StX n E b u al gl Vm Pc MD tb σ) (x : ZK b u nc' sz' mk' σ τ) : StX n E b u al gl Vm Pc MD tb τ := ⟨EvX_z h.1 x, PcR_k h.2.1 x, h.2.2⟩
/-- bounds of statements: code, marks, names -/
def BdS (n o q v mk sz nt : Nat) : Prop := 2 * sz + 7 * (n - q) + 100 ≤ 73728 ∧ mk ≤ 2 * q + 18 * o ∧ nt + (60 - v) ≤ 256
theorem c_nmEnd {mkx xx q2 v2 : Nat} (h : Zy T n b u al σ0 nc0 sz0 mk0 a1 a2 tb o q2 v2 mkx w st lo qh szB ll τ) (hm : mk ≤ mkx) (h0 : mk0 ≤ mk) (l5 : L.1 5 = nI mk) (ty : Sse u gl Pc Vm [] xx 0 0 ll) (hx : xx ≤ 2) (hl : 2 * ll.length ≤ 7 * (q2 - q)) (hq : q < q2) (hv : v ≤ v2) : Tm (fun k => f_X5_nameStatement k 12 L τ) (ZPo b u nc0 sz0 mk0 (Sum.inr (q2, v2)) (fun r _ τ => SzR T n b u al gl Pc Vm tb o mk szB q v w st lo qh r τ) σ0 a1 a2) := by
  have fc := fP_c b 3
  have zf := h.2.2
  have s := Zy_g (τ' := uI τ 4011 (L.1 5)) (mk' := mk) h (fun j hj => uI_o (by omega)) rfl (by rw [uI_s]; exact l5) hm h0 (w' := w) (st' := st) (lo' := lo) (qh' := qh) ⟨zf.1, ⟨by rw [uI_o (by omega)]; exact zf.2.1.1, zf.2.1.2⟩, by rw [uI_o (by decide)]; exact zf.2.2.1, by rw [uI_o (by decide)]; exact zf.2.2.2.1, zf.2.2.2.2⟩
  refine Tm_suc (fun k => by rw [f_X5_nameStatement]) ?_
  exact Tm_some (Zfin s ⟨⟨ll, xx, s.1.1, s.2.1, ⟨ty, hx⟩, hl, hq, hv⟩, s.2.2⟩)
/-- a proc is called -/
theorem c_nmCall {i : Nat} {x : Fl RT} (s1 : Zy T n b u al σ tb.length sz mk a1 a2 tb o (tkN T n q) v mk w st lo qh sz [] τ) (sx : StX n E b u al gl Vm Pc MD tb τ) (bd : BdS n o q v mk sz tb.length) (g1 : q < tkN T n q) (hi : i < tb.length) (hk : (tb.getD i e0E).2.1 = 2) (hf : (fd E (tkS T n q)).1 = 3) (hs : (tb.getD i e0E).2.2.2.1 = (fd E (tkS T n q)).2.1 + 1) (okn : okN (tkS T n q)) (l2 : L.1 2 = nI i) (l3 : L.1 3 = 2) (k6 : tkK T n (tkN T n q) = 6) (hG : gCl0 T n f (MD (fd E (tkS T n q)).2.1) (E.2.2.2.2.2.2 (fd E (tkS T n q)).2.1) E o (tkN T n q) v bt = some x) : Tm (fun k => f_X5_nameStatement k 4 L τ) (ZPo b u tb.length sz mk (zq x) (fun r _ τ => SzR T n b u al gl Pc Vm tb o mk sz q v w st lo qh r τ) σ a1 a2) := by
  obtain ⟨ev, pr, pe, n3, n10⟩ := sx
  obtain ⟨bd1, bd2, bd3⟩ := bd
  have hP := pe _ okn hf
  have t256 := s1.1.1.2.2.2.1.2.1
  have go := tk_go s1.1.1
  have fc := fP_c b 1
  obtain ⟨⟨pv1, pv2, pv3⟩, pr14, _⟩ := pr _ _ hP
  generalize hvv : (fd E (tkS T n q)).2.1 + 1 = vv at *
  generalize hnp : E.2.2.2.2.2.2 (fd E (tkS T n q)).2.1 = np at *
  have s2 : Zy T n b u al σ tb.length sz mk (a1 + 0) (a2 + 0) tb o (tkN T n q) v mk w st lo qh sz [] (uI τ 4013 0) := by
    have ph := Ph_s (σ := τ) (σ' := uI τ 4013 0) rfl
    exact Zy_42 s1 (fun j hj => uI_o hj) rfl (fun _ _ => ⟨rfl, rfl⟩) rfl rfl (Or.inl rfl) ⟨by omega, by omega⟩
  have kp2 : Kpt [] (uI τ 4013 0) := ⟨⟨uI_s, Nat.zero_le _⟩, fun i hi => absurd hi (Nat.not_lt_zero _)⟩
  have ii : ¬ (nI i < 0 ∨ 256 ≤ (nI i).toNatClampNeg) := n_in (by omega) (by omega)
  have t6 : (uI τ 4013 0).2.2.1 (pR9 b) (nI i).toNatClampNeg = nI vv := by
    obtain ⟨t1, t2, t3, t4, t5, t6, t7⟩ := s2.1.1.2.2.2.1.2.2 i hi
    rw [n_cl (by omega), t6, hs]
  have ev2 : EvX E b u al gl Vm tb (uI τ 4013 0) := ⟨ev.1, ev.2.1, ev.2.2⟩
  have pr2 : PcR b Pc MD (uI τ 4013 0) := pr
  refine Tm_suc (fun k => by rw [f_X5_nameStatement]) ?_
  refine Tm_yes l3 ?_
  refine Tm_oP (Zy_pp s2) ?_
  rw [l2]
  refine Tm_chk ii ?_
  rw [t6]
  have hmd : MD (fd E (tkS T n q)).2.1 = MD (vv - 1) := by rw [← hvv]; rfl
  refine zt_callZ (C := True) s2 (c_call (lt0 := []) (vv := vv) (np := np) s2.1.1 s2.2.2 ev2 pr2 hP hmd n3 n10 (by omega) (by omega) (by show 2 * (sz + 0) + 7 * (n - tkN T n q) + 2 * 0 + 100 ≤ _; omega) k6 kp2 (Nat.zero_le _) rfl rfl hG) ?_
  cases x with
  | inl yf => exact Or.inl ⟨_, rfl, rfl⟩
  | inr r =>
    refine Or.inr ⟨(r.1, r.2.1), rfl, trivial, fun τ3 ret3 n1 n2 hr zk3 hc3 => ?_⟩
    obtain ⟨cc, pp, r1, r2, r3, ⟨r4, r4'⟩, r5, r6, r7, r8⟩ := hr
    have s3 := Zy_ca s2 r1 zk3 hc3 r2 (Nat.le_refl _) (Nat.le_refl _) r3
    have s3' : Zy T n b u al σ tb.length sz mk (a1 + 0 + n1) (a2 + 0 + n2) tb o r.1 r.2.1 mk w st lo qh sz (cc ++ (pp ++ [])) τ3 := s3
    have lcp : (cc ++ (pp ++ [])).length = cc.length + pp.length := by rw [List.append_nil, List.length_append]
    have go3 := tk_go s3.1.1
    have r7' : tkN T n q < r.1 := r7
    have r6' : 2 * (cc.length + pp.length) ≤ 7 * (r.1 - tkN T n q) := r6
    refine Tm_oP (Zy_pp s3') (Tm_oP (Zy_pp s3') (Tm_oP (Zy_pp s3') ?_))
    refine Tm_chk ii ?_
    have t63 : τ3.2.2.1 (pR9 b) (nI i).toNatClampNeg = nI vv := by
      obtain ⟨t1, t2, t3, t4, t5, t6', t7⟩ := s3'.1.1.2.2.2.1.2.2 i hi
      rw [n_cl (by omega), t6', hs]
    show Tm (fun k => if ¬ (τ3.2.2.1 (pR9 b) (nI i).toNatClampNeg < 0 ∨ 42 ≤ (τ3.2.2.1 (pR9 b) (nI i).toNatClampNeg).toNatClampNeg) then ox (f_X7_emit__P k 0 (lI (lI (lB lZ 0 b) 1 37) 2 (1 + τ3.2.2.1 (pR14 b) (τ3.2.2.1 (pR9 b) (nI i).toNatClampNeg).toNatClampNeg)) τ3) (fun r10 => some ((0, 0), r10.2.1, (0, 0))) else none) _
    rw [t63]
    refine Tm_chk (n_in (by omega) (by omega)) ?_
    have p14 : τ3.2.2.1 (pR14 b) (nI vv).toNatClampNeg = nI np := by
      rw [n_cl (by omega)]; exact (PcR_k pr2 zk3 _ _ hP).2.1
    rw [p14, show (1 : Int32) + nI np = nI (1 + np) from n_add (p := 1) (by omega)]
    refine zt_emit (op := 37) s3' rfl rfl (by rw [lcp]; omega) (fun τ4 n3' n4 s4 xk4 => ?_)
    have ty : Sse u gl Pc Vm [] 2 0 0 (cc ++ (pp ++ []) ++ [em 37 (nI (1 + np))]) := by
      have z0 := Sse_i (pre := []) (Is_dr (u := u) (gl := gl) (Pc := Pc) (Vm := Vm) (pre := []) (n := 0) (k := 1 + np) (by omega)) (by show 1 ≤ 1; decide) (by omega)
      rw [Nat.zero_add] at z0
      have z1 := Sse_seq r5 z0 (by omega)
      have z2 := Sse_seq r4 z1 (by omega)
      rw [List.append_nil, List.append_assoc]
      exact z2
    have le : ∀ w : Int32, (cc ++ (pp ++ []) ++ [w]).length = cc.length + pp.length + 1 := fun w => by rw [List.length_append, lcp]; rfl
    refine Tm_some (Zfin s4 ⟨⟨_, 2, s4.1.1, s4.2.1, ⟨ty, Nat.le_refl _⟩, ?_, ?_, r8⟩, s4.2.2⟩)
    · rw [le]
      show 2 * (cc.length + pp.length + 1) ≤ 7 * (r.1 - q)
      omega
    · show q < r.1
      omega
end CXM
end JnS497

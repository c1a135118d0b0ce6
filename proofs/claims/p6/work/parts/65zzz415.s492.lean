/-! The class: code is kept for later. -/
section CXH
variable {σ σ' σ0 τ τ' : CS} {L : LV} {b : Bool} {T : Nat → Int32} {n q q' u al o v mk mk' p sz szB nc nc0 sz0 mk0 a1 a2 m kk f e s ow a t0 g D op w st w' st' : Nat} {y qh qh' : Int32} {l l' cs cs' ll lt : List Int32} {tb : List Ent} {E : En} {gl : Nat × (Nat → Nat → Prop)} {Vm : Nat → Prop} {Pc : Nat → Nat → Prop} {bt : BT} {ks : List Nat} {α : Type} {S : α → Int32 → CS → Prop} {x : Option α} {C : Prop} {lo lo' : Option Nat}
/-- what is kept so far -/
def Kpt (lt : List Int32) (σ : CS) : Prop := (σ.1 4013 = nI lt.length ∧ lt.length ≤ sN σ 42) ∧ ∀ i, i < lt.length → σ.2.2.1 42 i = lt.getD i 0
theorem Kpt_k (h : Kpt lt σ) (x : XK b u nc sz mk σ σ') : Kpt lt σ' := by
  obtain ⟨⟨h1, h2⟩, h3⟩ := h
  have e : σ'.2.2.1 42 = σ.2.2.1 42 := x.2.1.1 42 (by have := pR_d b; omega)
  exact ⟨⟨by rw [x.1.1 4013 (by have := fP_c b 1; have := fP_c b 11; have := fP_c b 19; omega)]; exact h1, by rw [x.2.1.2.1 42 (by decide)]; exact h2⟩, fun i hi => by rw [e]; exact h3 i hi⟩
/-- the row of what is kept changes -/
theorem Zy_42 {n1 n2 : Nat} (h : Zy T n b u al σ0 nc0 sz0 mk0 a1 a2 tb o q v mk w st lo qh szB cs τ) (f1 : ∀ j, ¬ j = 4013 → τ'.1 j = τ.1 j) (f2 : τ'.2.1 = τ.2.1) (f3 : ∀ k, ¬ k = 42 → τ'.2.2.1 k = τ.2.2.1 k ∧ sN τ' k = sN τ k) (f4 : τ'.2.2.2.1 = τ.2.2.2.1) (f5 : τ'.2.2.2.2.2 = τ.2.2.2.2.2) (s42 : sN τ' 42 = sN τ 42 ∨ sN τ' 42 = 16384) (c : n1 + PhC τ' ≤ PhC τ ∧ n2 + PhS τ' ≤ PhS τ) : Zy T n b u al σ0 nc0 sz0 mk0 (a1 + n1) (a2 + n2) tb o q v mk w st lo qh szB cs τ' := by
  obtain ⟨⟨⟨h1, h2, h3, h4, ⟨h5, h5', h5''⟩, ⟨h6, h6'⟩, ⟨h7, h7'⟩, h8⟩, k1, k2, k3, k4, k5⟩, z1, ⟨z2, z3, z4, z5, z6⟩⟩ := h
  have pc := pR_c b
  have pd := pR_d b
  have c1 := fP_c b 1
  have c2 := fP_c b 3
  have c3 := fP_c b 11
  have c4 := fP_c b 19
  have kd : ∀ c, sKd τ' c = sKd τ c := fun c => by show τ'.2.2.2.2.2.1.2.2.2.2 c = _; rw [f5]
  have cd : ∀ c i, cdr c τ' i = cdr c τ i := fun c i => by
    show τ'.2.2.1 (pR0 (sKd τ' c)) i = _
    rw [kd, (f3 _ (by rcases pR0_c (sKd τ c) with z | z <;> omega)).1]
  have m3 := h3.2
  have cl := CdL_s (σ' := τ') h2 (f1 _ (by omega)) (kd b) ⟨(f3 43 (by decide)).2, (f3 51 (by decide)).2⟩
  have q1 : QS T n b u al tb o q v mk 0 (szB + cs.length) τ' := ⟨LxQ_s h1 (fun j _ hj => f1 j (by omega)) (by rw [f2]; exact ⟨rfl, rfl⟩) (f3 38 (by decide)).1 (f3 38 (by decide)).2 (by rw [f4]), cl, ⟨by rw [f1 _ (by decide)]; exact h3.1, by rw [(f3 41 (by decide)).2]; exact m3⟩, TbR_s h4 (f1 _ (by omega)) (by rw [f4]) (by rw [f4]) (f3 _ (by omega)).1 (f3 _ (by omega)).1 (f3 _ (by omega)).1 (f3 _ (by omega)).1, ⟨by show τ'.2.2.2.2.2.1.2.2.2.1 = _; rw [f5]; exact h5, by rw [f1 _ (by decide)]; exact h5', by rw [f1 _ (by decide)]; exact h5''⟩, ⟨by rw [f1 _ (by decide)]; exact h6, h6'⟩, ⟨by rw [(f3 _ (by omega)).1]; exact h7, h7'⟩, by rw [f1 _ (by omega)]; exact h8⟩
  have zk : ZK b u tb.length (szB + cs.length) mk τ τ' := by
    refine ⟨⟨fun j hj => f1 j (by omega), fun j _ => by rw [f2]⟩, ⟨fun k hk => (f3 k (by omega)).1, fun k hk => (f3 k (by omega)).2, fun k _ => by rw [f4]⟩, ⟨⟨by show τ'.2.2.2.2.2.1.1 = _; rw [f5], by show τ'.2.2.2.2.2.1.2.1 = _; rw [f5], by show τ'.2.2.2.2.2.1.2.2.1 = _; rw [f5], by show τ'.2.2.2.2.2.1.2.2.2.1 = _; rw [f5]⟩, fun c _ => kd c, by rw [f5]⟩, fun i _ => ⟨by rw [(f3 _ (by omega)).1], by rw [(f3 _ (by omega)).1]⟩, fun i hi => ⟨⟨by rw [f4], by rw [f4]⟩, ⟨by rw [(f3 _ (by omega)).1], by rw [(f3 _ (by omega)).1]⟩, by rw [(f3 _ (by omega)).1], by rw [(f3 _ (by omega)).1]⟩, fun i _ => ⟨cd b i, cd (!b) i⟩, fun i _ => by rw [(f3 41 (by decide)).1], cl.2, by rw [(f3 41 (by decide)).2]; exact m3, s42⟩
  exact ⟨⟨q1, ZK_t k1 zk k3 k4 k5, ⟨by omega, by omega⟩, k3, k4, k5⟩, fun i hi => by rw [cd]; exact z1 i hi, ⟨by rw [(f3 _ (by omega)).1]; exact z2, ⟨by rw [f1 _ (by omega)]; exact z3.1, z3.2⟩, by rw [f1 _ (by decide)]; exact z4, by rw [f1 _ (by decide)]; exact z5, by omega⟩⟩
/-- some of the code is kept -/
theorem zt_keep {f : Nat → RS → Option RS} (h : Zy T n b u al σ0 nc0 sz0 mk0 a1 a2 tb o q v mk w st lo qh szB cs τ) (kp : Kpt lt τ) (hb : L.2.2.1 1 = sKd τ b) (l2 : L.1 2 = nI a) (l3 : L.1 3 = nI ll.length) (hl : ∀ i, i < ll.length → cdr b τ (a + i) = ll.getD i 0) (ha : a + ll.length ≤ szB + cs.length) (hm : lt.length + ll.length ≤ 16384) (cont : ∀ (τ' : CS) (n1 n2 : Nat), Zy T n b u al σ0 nc0 sz0 mk0 (a1 + n1) (a2 + n2) tb o q v mk w st lo qh szB cs τ' → Kpt (lt ++ ll) τ' → (∀ k, ¬ k = 42 → τ'.2.2.1 k = τ.2.2.1 k ∧ sN τ' k = sN τ k) → Tm (fun k => f k ((0, 0), τ', (n1, n2))) (ZPo b u nc0 sz0 mk0 x S σ0 (a1 + n1) (a2 + n2))) : Tm (fun k => ox (f_X5_keep__A0 k 0 L τ) (f k)) (ZPo b u nc0 sz0 mk0 x S σ0 a1 a2) := by
  obtain ⟨⟨k1, k2⟩, k3⟩ := kp
  have s42 := h.2.2.2.2.2.2
  have n36 := cdn_b h.1.1
  have le : szB + cs.length ≤ cdn b τ := h.1.1.2.1.2.1
  have ea : τ.1 4013 + L.1 3 = nI (lt.length + ll.length) := by rw [k1, l3, n_add (by omega)]
  -- from the row on, that is long enough
  have b1 : ∀ (τ1 : CS) (n1 n2 : Nat), τ1.1 = τ.1 → τ1.2.1 = τ.2.1 → (∀ k, ¬ k = 42 → τ1.2.2.1 k = τ.2.2.1 k ∧ sN τ1 k = sN τ k) → τ1.2.2.2.1 = τ.2.2.2.1 → τ1.2.2.2.2.2 = τ.2.2.2.2.2 → (sN τ1 42 = sN τ 42 ∨ sN τ1 42 = 16384) → (n1 + PhC τ1 ≤ PhC τ ∧ n2 + PhS τ1 ≤ PhS τ) → lt.length + ll.length ≤ sN τ1 42 → (∀ i, i < lt.length → τ1.2.2.1 42 i = lt.getD i 0) → Tm (fun k => f_X5_keep__A0 k 1 L τ1) (fun r => r.1 = (0, 0) ∧ (n1 + r.2.2.1 + PhC r.2.1 ≤ PhC τ ∧ n2 + r.2.2.2 + PhS r.2.1 ≤ PhS τ) ∧ (∀ j, ¬ j = 4013 → r.2.1.1 j = τ.1 j) ∧ r.2.1.2.1 = τ.2.1 ∧ (∀ k, ¬ k = 42 → r.2.1.2.2.1 k = τ.2.2.1 k ∧ sN r.2.1 k = sN τ k) ∧ r.2.1.2.2.2.1 = τ.2.2.2.1 ∧ r.2.1.2.2.2.2.2 = τ.2.2.2.2.2 ∧ (sN r.2.1 42 = sN τ 42 ∨ sN r.2.1 42 = 16384) ∧ Kpt (lt ++ ll) r.2.1) := by
    intro τ1 n1 n2 f1 f2 f3 f4 f5 f6 f7 f8 f9
    have kd : sKd τ1 b = sKd τ b := by show τ1.2.2.2.2.2.1.2.2.2.2 b = _; rw [f5]
    have pn : ¬ pR0 (sKd τ b) = 42 := by rcases pR0_c (sKd τ b) with z | z <;> omega
    refine Tm_suc (fun k => by rw [f_X5_keep__A0]) ?_
    rw [f1, ea]
    refine Tm_yes ?_ ?_
    · show nI (lt.length + ll.length) ≤ nI (sN τ1 42)
      rw [n_le (by omega) (by omega)]; exact f8
    refine Tm_suc (fun k => by rw [f_X5_keep__A0]) ?_
    rw [f1, l2, l3, k1, hb, (f3 _ pn).1, (f3 _ pn).2]
    refine Tm_chk ⟨n_nn (by omega), n_nn (by omega), n_nn (by omega), by rw [n_cl (by omega), n_cl (by omega)]; show a + ll.length ≤ cdn b τ; omega, by rw [n_cl (by omega), n_cl (by omega)]; exact f8⟩ ?_
    rw [n_cl (by omega), n_cl (by omega), n_cl (by omega)]
    refine Tm_suc (fun k => by rw [f_X5_keep__A0]) ?_
    have e13 : (uF τ1 42 (va_cpy (τ.2.2.1 (pR0 (sKd τ b))) (τ1.2.2.1 42) a lt.length ll.length)).1 4013 + L.1 3 = nI (lt.length + ll.length) := by
      show τ1.1 4013 + L.1 3 = _
      rw [f1]; exact ea
    rw [e13]
    have ph := Ph_s (σ := τ1) (σ' := uI (uF τ1 42 (va_cpy (τ.2.2.1 (pR0 (sKd τ b))) (τ1.2.2.1 42) a lt.length ll.length)) 4013 (nI (lt.length + ll.length))) rfl
    refine Tm_some ⟨rfl, ⟨?_, ?_⟩, fun j hj => ?_, f2, fun k hk => ⟨?_, (f3 k hk).2⟩, f4, f5, f6, ⟨⟨?_, ?_⟩, fun i hi => ?_⟩⟩
    · show n1 + 0 + PhC (uI (uF τ1 42 (va_cpy (τ.2.2.1 (pR0 (sKd τ b))) (τ1.2.2.1 42) a lt.length ll.length)) 4013 (nI (lt.length + ll.length))) ≤ _
      omega
    · show n2 + 0 + PhS (uI (uF τ1 42 (va_cpy (τ.2.2.1 (pR0 (sKd τ b))) (τ1.2.2.1 42) a lt.length ll.length)) 4013 (nI (lt.length + ll.length))) ≤ _
      omega
    · rw [uI_o hj]; show τ1.1 j = _; rw [f1]
    · show updG τ1.2.2.1 42 _ k = _
      rw [updG_other hk]; exact (f3 k hk).1
    · rw [uI_s, List.length_append]
    · rw [List.length_append]; exact f8
    · rw [List.length_append] at hi
      show updG τ1.2.2.1 42 (va_cpy (τ.2.2.1 (pR0 (sKd τ b))) (τ1.2.2.1 42) a lt.length ll.length) 42 i = _
      rw [updG_same]
      unfold va_cpy
      rcases Nat.lt_or_ge i lt.length with z | z
      · rw [if_neg (by omega), gd_l z]; exact f9 i z
      · rw [if_pos (by omega)]
        have e := hl (i - lt.length) (by omega)
        have g := gd_r (a := lt) (b := ll) (i - lt.length)
        rw [show lt.length + (i - lt.length) = i by omega] at g
        rw [g]; exact e
  have fin : Tm (fun k => f_X5_keep__A0 k 0 L τ) (fun r => r.1 = (0, 0) ∧ (0 + r.2.2.1 + PhC r.2.1 ≤ PhC τ ∧ 0 + r.2.2.2 + PhS r.2.1 ≤ PhS τ) ∧ (∀ j, ¬ j = 4013 → r.2.1.1 j = τ.1 j) ∧ r.2.1.2.1 = τ.2.1 ∧ (∀ k, ¬ k = 42 → r.2.1.2.2.1 k = τ.2.2.1 k ∧ sN r.2.1 k = sN τ k) ∧ r.2.1.2.2.2.1 = τ.2.2.2.1 ∧ r.2.1.2.2.2.2.2 = τ.2.2.2.2.2 ∧ (sN r.2.1 42 = sN τ 42 ∨ sN r.2.1 42 = 16384) ∧ Kpt (lt ++ ll) r.2.1) := by
    refine Tm_suc (fun k => by rw [f_X5_keep__A0]) ?_
    rw [ea]
    have e9 : (16384 : Int32).toNatClampNeg = 16384 := rfl
    refine Tm_chk ⟨by decide, by decide, by omega⟩ ?_
    rw [e9]
    refine Tm_ite (fun c => ?_) (fun c => ?_)
    · have c1 := c.1
      rw [n_lt (by omega) (by omega)] at c1
      refine Tm_adR ?_
      have ph := Ph_z42 (σ := τ) c.2
      have n42 : sN (uZ τ 42 16384) 42 = 16384 := by show updN (sN τ) 42 16384 42 = _; unfold updN; rw [if_pos rfl]
      refine Tm_mono (b1 (uZ τ 42 16384) 1 16384 rfl rfl (fun k hk => ⟨updG_other hk, if_neg hk⟩) rfl rfl (Or.inr n42) ⟨by omega, by omega⟩ (by rw [n42]; exact hm) (fun i hi => ?_)) (fun r z => ?_)
      · show updG τ.2.2.1 42 (fun i => if i < sN τ 42 then τ.2.2.1 42 i else 0) 42 i = _
        rw [updG_same]
        show (if i < sN τ 42 then τ.2.2.1 42 i else 0) = _
        rw [if_pos (by omega)]; exact k3 i hi
      · obtain ⟨z1, ⟨z2, z2'⟩, z3⟩ := z
        exact ⟨z1, ⟨by show 0 + (1 + r.2.2.1) + PhC r.2.1 ≤ _; omega, by show 0 + (16384 + r.2.2.2) + PhS r.2.1 ≤ _; omega⟩, z3⟩
    · have c' : lt.length + ll.length ≤ sN τ 42 := by
        rw [n_lt (by omega) (by omega)] at c
        omega
      exact b1 τ 0 0 rfl rfl (fun _ _ => ⟨rfl, rfl⟩) rfl rfl (Or.inl rfl) ⟨by omega, by omega⟩ c' k3
  refine Tm_ox fin (fun r w nz => absurd (by rw [w.1]) nz) (fun r w e0 => ?_)
  obtain ⟨w1, ⟨w2, w2'⟩, w3, w4, w5, w6, w7, w8, w9⟩ := w
  have k := cont r.2.1 r.2.2.1 r.2.2.2 (Zy_42 h w3 w4 w5 w6 w7 w8 ⟨by omega, by omega⟩) w9 w5
  have er : ((0, 0), r.2.1, (r.2.2.1, r.2.2.2)) = r := by rw [← w1]
  rw [er] at k
  exact Tm_mono k (fun q z => ZPo_s z)
theorem c_words42 (h : CdL b sz σ) (hb : L.2.2.1 0 = b) (l2 : L.1 2 = nI a) (l3 : L.1 3 = nI ll.length) (ha : a + ll.length ≤ sN σ 42) (h42 : sN σ 42 ≤ 16384) (hm : sz + ll.length ≤ 36864) (hl : ∀ i, i < ll.length → σ.2.2.1 42 (a + i) = ll.getD i 0) : Tm (fun k => f_X7_words__P__z42 k 0 L σ) (fun r => r.1 = (0, 0) ∧ CoP σ r ∧ CdO b sz ll σ r.2.1) := by
  refine Tm_suc (fun k => by rw [f_X7_words__P__z42]) ?_
  rw [hb, l2, l3]
  refine Tm_oxc (c_widenC (m := ll.length) h rfl rfl hm) (fun r w => by rw [w.1]) (fun r w => ?_)
  obtain ⟨w1, ⟨w2, w2'⟩, w3, w4⟩ := w
  have es : r.2.1.1 (fP b 1) = nI sz := w3.2.1.1
  have e42 := w3.1.2.2.1 42 (by decide)
  rw [es, e42.1, e42.2]
  refine Tm_chk ⟨n_nn (by omega), n_nn (by omega), n_nn (by omega), by rw [n_cl (by omega), n_cl (by omega)]; exact ha, by rw [n_cl (by omega), n_cl (by omega)]; exact w4⟩ ?_
  rw [n_cl (by omega), n_cl (by omega), n_cl (by omega)]
  refine Tm_suc (fun k => by rw [f_X7_words__P__z42]) ?_
  rw [hb, l3]
  have e : (uF r.2.1 (pR0 (sKd r.2.1 b)) (va_cpy (σ.2.2.1 42) (r.2.1.2.2.1 (pR0 (sKd r.2.1 b))) a sz ll.length)).1 (fP b 1) + nI ll.length = nI (sz + ll.length) := by
    show r.2.1.1 (fP b 1) + _ = _
    rw [es, n_add (by omega)]
  rw [e]
  have z := CdO_w (a := a) (src := σ.2.2.1 42) w3 w4 hl
  have ph := Ph_s (σ := r.2.1) (σ' := uI (uF r.2.1 (pR0 (sKd r.2.1 b)) (va_cpy (σ.2.2.1 42) (r.2.1.2.2.1 (pR0 (sKd r.2.1 b))) a sz ll.length)) (fP b 1) (nI (sz + ll.length))) rfl
  refine Tm_some ⟨rfl, ⟨?_, ?_⟩, z⟩
  · show r.2.2.1 + 0 + PhC (uI (uF r.2.1 (pR0 (sKd r.2.1 b)) (va_cpy (σ.2.2.1 42) (r.2.1.2.2.1 (pR0 (sKd r.2.1 b))) a sz ll.length)) (fP b 1) (nI (sz + ll.length))) ≤ _
    omega
  · show r.2.2.2 + 0 + PhS (uI (uF r.2.1 (pR0 (sKd r.2.1 b)) (va_cpy (σ.2.2.1 42) (r.2.1.2.2.1 (pR0 (sKd r.2.1 b))) a sz ll.length)) (fP b 1) (nI (sz + ll.length))) ≤ _
    omega
theorem c_wordsA (h : CdL b sz σ) (hb : L.2.2.1 0 = b) (hb1 : L.2.2.1 1 = sKd σ b) (l2 : L.1 2 = nI a) (l3 : L.1 3 = nI ll.length) (ha : a + ll.length ≤ sz) (hm : sz + ll.length ≤ 36864) (hl : ∀ i, i < ll.length → cdr b σ (a + i) = ll.getD i 0) : Tm (fun k => f_X7_words__P__A0 k 0 L σ) (fun r => r.1 = (0, 0) ∧ CoP σ r ∧ CdO b sz ll σ r.2.1) := by
  have le := h.2.1
  refine Tm_suc (fun k => by rw [f_X7_words__P__A0]) ?_
  rw [hb, hb1]
  refine Tm_chk rfl ?_
  rw [l2, l3]
  refine Tm_oxc (c_widenC (m := ll.length) h rfl rfl hm) (fun r w => by rw [w.1]) (fun r w => ?_)
  obtain ⟨w1, ⟨w2, w2'⟩, w3, w4⟩ := w
  have es : r.2.1.1 (fP b 1) = nI sz := w3.2.1.1
  rw [es]
  refine Tm_chk ⟨n_nn (by omega), n_nn (by omega), n_nn (by omega), by rw [n_cl (by omega), n_cl (by omega)]; show a + ll.length ≤ cdn b σ; omega, by rw [n_cl (by omega), n_cl (by omega)]; exact w4⟩ ?_
  rw [n_cl (by omega), n_cl (by omega), n_cl (by omega)]
  refine Tm_suc (fun k => by rw [f_X7_words__P__A0]) ?_
  rw [hb, l3]
  have e : (uF r.2.1 (pR0 (sKd r.2.1 b)) (va_cpy (σ.2.2.1 (pR0 (sKd σ b))) (r.2.1.2.2.1 (pR0 (sKd r.2.1 b))) a sz ll.length)).1 (fP b 1) + nI ll.length = nI (sz + ll.length) := by
    show r.2.1.1 (fP b 1) + _ = _
    rw [es, n_add (by omega)]
  rw [e]
  have z := CdO_w (a := a) (src := σ.2.2.1 (pR0 (sKd σ b))) w3 w4 hl
  have ph := Ph_s (σ := r.2.1) (σ' := uI (uF r.2.1 (pR0 (sKd r.2.1 b)) (va_cpy (σ.2.2.1 (pR0 (sKd σ b))) (r.2.1.2.2.1 (pR0 (sKd r.2.1 b))) a sz ll.length)) (fP b 1) (nI (sz + ll.length))) rfl
  refine Tm_some ⟨rfl, ⟨?_, ?_⟩, z⟩
  · show r.2.2.1 + 0 + PhC (uI (uF r.2.1 (pR0 (sKd r.2.1 b)) (va_cpy (σ.2.2.1 (pR0 (sKd σ b))) (r.2.1.2.2.1 (pR0 (sKd r.2.1 b))) a sz ll.length)) (fP b 1) (nI (sz + ll.length))) ≤ _
    omega
  · show r.2.2.2 + 0 + PhS (uI (uF r.2.1 (pR0 (sKd r.2.1 b)) (va_cpy (σ.2.2.1 (pR0 (sKd σ b))) (r.2.1.2.2.1 (pR0 (sKd r.2.1 b))) a sz ll.length)) (fP b 1) (nI (sz + ll.length))) ≤ _
    omega
theorem zt_words42 {f : Nat → RS → Option RS} (h : Zy T n b u al σ0 nc0 sz0 mk0 a1 a2 tb o q v mk w st lo qh szB cs τ) (hb : L.2.2.1 0 = b) (l2 : L.1 2 = nI a) (l3 : L.1 3 = nI ll.length) (ha : a + ll.length ≤ sN τ 42) (hm : szB + cs.length + ll.length ≤ 36864) (hl : ∀ i, i < ll.length → τ.2.2.1 42 (a + i) = ll.getD i 0) (cont : ∀ (τ' : CS) (n1 n2 : Nat), Zy T n b u al σ0 nc0 sz0 mk0 (a1 + n1) (a2 + n2) tb o q v mk w st lo qh szB (cs ++ ll) τ' → XK b u tb.length (szB + cs.length) mk τ τ' → Tm (fun k => f k ((0, 0), τ', (n1, n2))) (ZPo b u nc0 sz0 mk0 x S σ0 (a1 + n1) (a2 + n2))) : Tm (fun k => ox (f_X7_words__P__z42 k 0 L τ) (f k)) (ZPo b u nc0 sz0 mk0 x S σ0 a1 a2) := by
  have s42 := h.2.2.2.2.2.2
  refine Tm_ox (c_words42 h.1.1.2.1 hb l2 l3 ha (by omega) hm hl) (fun r w nz => absurd (by rw [w.1]) nz) (fun r w e0 => ?_)
  obtain ⟨w1, ⟨w2, w2'⟩, w3⟩ := w
  obtain ⟨q1, q2⟩ := QS_cd h.1.1 w3
  have hc := h.1.2.2.1
  have k := cont r.2.1 r.2.2.1 r.2.2.2 (Zy_cl h q1 q2 ⟨by omega, by omega⟩ w3.2.2.2 h.1.2.2.2.1 h.1.2.2.2.2.2) q2
  have er : ((0, 0), r.2.1, (r.2.2.1, r.2.2.2)) = r := by rw [← w1]
  rw [er] at k
  exact Tm_mono k (fun q z => ZPo_s z)
theorem zt_wordsA {f : Nat → RS → Option RS} (h : Zy T n b u al σ0 nc0 sz0 mk0 a1 a2 tb o q v mk w st lo qh szB cs τ) (hb : L.2.2.1 0 = b) (hb1 : L.2.2.1 1 = sKd τ b) (l2 : L.1 2 = nI a) (l3 : L.1 3 = nI ll.length) (ha : a + ll.length ≤ szB + cs.length) (hm : szB + cs.length + ll.length ≤ 36864) (hl : ∀ i, i < ll.length → cdr b τ (a + i) = ll.getD i 0) (cont : ∀ (τ' : CS) (n1 n2 : Nat), Zy T n b u al σ0 nc0 sz0 mk0 (a1 + n1) (a2 + n2) tb o q v mk w st lo qh szB (cs ++ ll) τ' → CdO b (szB + cs.length) ll τ τ' → Tm (fun k => f k ((0, 0), τ', (n1, n2))) (ZPo b u nc0 sz0 mk0 x S σ0 (a1 + n1) (a2 + n2))) : Tm (fun k => ox (f_X7_words__P__A0 k 0 L τ) (f k)) (ZPo b u nc0 sz0 mk0 x S σ0 a1 a2) := by
  refine Tm_ox (c_wordsA h.1.1.2.1 hb hb1 l2 l3 ha hm hl) (fun r w nz => absurd (by rw [w.1]) nz) (fun r w e0 => ?_)
  obtain ⟨w1, ⟨w2, w2'⟩, w3⟩ := w
  obtain ⟨q1, q2⟩ := QS_cd h.1.1 w3
  have hc := h.1.2.2.1
  have k := cont r.2.1 r.2.2.1 r.2.2.2 (Zy_cl h q1 q2 ⟨by omega, by omega⟩ w3.2.2.2 h.1.2.2.2.1 h.1.2.2.2.2.2) w3
  have er : ((0, 0), r.2.1, (r.2.2.1, r.2.2.2)) = r := by rw [← w1]
  rw [er] at k
  exact Tm_mono k (fun q z => ZPo_s z)
end CXH

/-! The class: a name of an iter is told. -/
section CVR
variable {σ σ' σ0 τ τ' : CS} {L : LV} {b : Bool} {T : Nat → Int32} {n q q' u al o v mk p sz szB nc0 sz0 mk0 a1 a2 m kk f e t nc r0 : Nat} {y w : Int32} {l l' cs cs' : List Int32} {tb tb' : List Ent} {α : Type} {S : α → Int32 → CS → Prop} {x : Option α} {C : Prop} {E : En} {gl : Nat × (Nat → Nat → Prop)} {Vm : Nat → Prop} {bt : BT}
/-! words have so many bytes -/
theorem wordF_i {s : List Int32} {k : Nat} (hk : k < 1000) : ∀ (f w : Nat), w + f < 1000 → wordF s f w = nI k → wdL.getD k [] = s
  | 0, w, _, h => by
    have h' : (-1 : Int32) = nI k := h
    have z := congrArg uN h'
    rw [u_n (by omega)] at z
    have : uN (-1 : Int32) = 4294967295 := by decide
    omega
  | f + 1, w, hw, h => by
    have h' : (if wdL.getD w [] = s then nI w else wordF s f (w + 1)) = nI k := h
    by_cases c : wdL.getD w [] = s
    · rw [if_pos c, n_eq (by omega) (by omega)] at h'
      rw [← h']; exact c
    · rw [if_neg c] at h'
      exact wordF_i hk f (w + 1) (by omega) h'
theorem tk_wd (hq : q ≤ n) (hk : 32 ≤ tkK T n q) : (wdL.getD (tkK T n q - 32) []).length = tkE T n q - q ∧ q < tkE T n q := by
  have hc : q < n ∧ (tokM 0 T n q).1 = 5 ∧ tkK T n q = 32 + (tokM 0 T n q).2.1.toNatClampNeg := by
    rcases tk_cases T n q hq with ⟨_, a, b⟩ | ⟨hl, ⟨a, b⟩ | ⟨a, b⟩ | ⟨a, b⟩ | ⟨a, b1, b2, b3⟩ | ⟨a, b1, b2, b3⟩ | ⟨a, b⟩⟩
    · omega
    · omega
    · omega
    · omega
    · omega
    · refine ⟨hl, a, ?_⟩
      unfold tkK tkc
      rw [a]
      rfl
    · omega
  obtain ⟨hl, a, ek⟩ := hc
  have n0 : ¬ q = n := by omega
  have eE : tkE T n q = (tokM 0 T n q).2.2 := rfl
  generalize hm : tokM 0 T n q = tm at *
  unfold tokM at hm
  rw [if_neg n0] at hm
  by_cases c : isL (rB T n q)
  · rw [if_pos c] at hm
    have e2 : tm.2.1 = wordI (seg T q (nameE T n (n + 1) q)) := by rw [← hm]
    have e3 : tm.2.2 = nameE T n (n + 1) q := by rw [← hm]
    have e1 : tm.1 = (if nameE T n (n + 1) q - q ≤ 16 then (if wordI (seg T q (nameE T n (n + 1) q)) = -1 then (1 : Int32) else 5) else 6) := by rw [← hm]
    have wn : ¬ wordI (seg T q (nameE T n (n + 1) q)) = -1 := by
      intro z
      rw [if_pos z, a] at e1
      split at e1 <;> exact absurd e1 (by decide)
    have g1 := nameE_ge T n n (q + 1)
    have gt : q < nameE T n (n + 1) q := by
      rw [nameE_step, if_pos (Or.inl c)]; omega
    -- its number
    have hw : ∀ (f w : Nat), w + f < 1000 → ¬ wordF (seg T q (nameE T n (n + 1) q)) f w = -1 → ∃ k, k < 1000 ∧ wordF (seg T q (nameE T n (n + 1) q)) f w = nI k := by
      intro f
      induction f with
      | zero => intro w _ z; exact absurd rfl z
      | succ f ih =>
        intro w h1 z
        have e4 : wordF (seg T q (nameE T n (n + 1) q)) (f + 1) w = (if wdL.getD w [] = seg T q (nameE T n (n + 1) q) then nI w else wordF (seg T q (nameE T n (n + 1) q)) f (w + 1)) := rfl
        rw [e4] at z ⊢
        by_cases c4 : wdL.getD w [] = seg T q (nameE T n (n + 1) q)
        · rw [if_pos c4]
          exact ⟨w, by omega, rfl⟩
        · rw [if_neg c4] at z ⊢
          exact ih (w + 1) (by omega) z
    obtain ⟨k, k1, k2⟩ := hw 53 0 (by decide) wn
    have e5 := wordF_i k1 53 0 (by decide) k2
    have e6 : tm.2.1 = nI k := by rw [e2]; exact k2
    rw [e6, n_cl (by omega)] at ek
    have e7 : tkK T n q - 32 = k := by omega
    rw [e7, e5, seg_len, eE, e3]
    exact ⟨rfl, gt⟩
  · exfalso
    rw [if_neg c] at hm
    by_cases c2 : isD (rB T n q)
    · rw [if_pos c2] at hm
      have a' : (if digE T n (n + 1) q - q ≤ 60 then (2 : Int32) else 6) = 5 := by rw [← a, ← hm]
      split at a' <;> exact absurd a' (by decide)
    · rw [if_neg c2] at hm
      by_cases c3 : rB T n q = 34
      · rw [if_pos c3] at hm
        have a' : (if (strE T n (n + 1) (q + 1) < n ∧ T (strE T n (n + 1) (q + 1)) = 34) ∧ strE T n (n + 1) (q + 1) - q - 1 ≤ 100 then (3 : Int32) else 6) = 5 := by rw [← a, ← hm]
        split at a' <;> exact absurd a' (by decide)
      · rw [if_neg c3] at hm
        have a' : (if signF (rB T n q) (rB T n (q + 1)) = 0 then (6 : Int32) else 4) = 5 := by rw [← a, ← hm]
        split at a' <;> exact absurd a' (by decide)
theorem tk_wl {k m : Nat} (h : QS T n b u al tb o q v mk p sz σ) (hk : tkK T n q = k) (h32 : 32 ≤ k) (hm : (wdL.getD (k - 32) []).length = m) : q + m ≤ tkN T n q := by
  have z := tk_wd (T := T) h.1.2.2.2.1 (by omega)
  rw [hk, hm] at z
  have := (tkN_b T n q h.1.2.2.2.1).2.2.1
  omega
/-- one variable more -/
theorem Sy_v (h : Sy T n b u al σ0 nc0 sz0 mk0 a1 a2 tb o q v mk p szB cs τ) (hv : v < 60) : Sy T n b u al σ0 nc0 sz0 mk0 a1 a2 tb o q (v + 1) mk p szB cs (uA τ (pR16 b) u (nI (v + 1))) := by
  have ph := Ph_s (σ := τ) (σ' := uA τ (pR16 b) u (nI (v + 1))) rfl
  obtain ⟨⟨hq, h2', h3, h4, h5, h6⟩, k2⟩ := h
  obtain ⟨h1, h2, h3', h4', ⟨h5', h5'', h5'''⟩, ⟨h6', h6''⟩, ⟨h7, h7'⟩, h8⟩ := hq
  have pc := pR_c b
  have m3 := h3'.2
  have cd : ∀ c i, cdr c (uA τ (pR16 b) u (nI (v + 1))) i = cdr c τ i := fun c i => by
    show (uA τ (pR16 b) u (nI (v + 1))).2.2.1 (pR0 (sKd τ c)) i = _
    rcases pR0_c (sKd τ c) with z | z
    · rw [uA_k (by omega)]
    · rw [uA_k (by omega)]
  have q1 : QS T n b u al tb o q (v + 1) mk p (szB + cs.length) (uA τ (pR16 b) u (nI (v + 1))) := ⟨LxQ_s h1 (fun _ _ _ => rfl) ⟨rfl, rfl⟩ (uA_k (by omega)) rfl rfl, CdL_s h2 rfl rfl ⟨rfl, rfl⟩, h3', TbR_s h4' rfl rfl rfl (uA_k (by omega)) (uA_k (by omega)) (uA_k (by omega)) (uA_k (by omega)), ⟨h5', h5'', h5'''⟩, ⟨h6', h6''⟩, ⟨by rw [uA_r, upd_same], by omega⟩, h8⟩
  have q2 : XK b u tb.length (szB + cs.length) mk τ (uA τ (pR16 b) u (nI (v + 1))) := ⟨⟨fun _ _ => rfl, fun _ _ => rfl⟩, ⟨fun k hk => uA_k (by omega), fun _ _ => rfl, fun _ _ => rfl⟩, ⟨⟨rfl, rfl, rfl, rfl⟩, fun _ _ => rfl, rfl⟩, fun i hi => by rw [uA_r, upd_other hi], fun i _ => ⟨⟨rfl, rfl⟩, ⟨by rw [uA_k (by omega)], by rw [uA_k (by omega)]⟩, by rw [uA_k (by omega)], by rw [uA_k (by omega)]⟩, fun i _ => ⟨cd b i, cd (!b) i⟩, fun i _ => by rw [uA_k (by omega)], (CdL_s (σ' := uA τ (pR16 b) u (nI (v + 1))) h2 rfl rfl ⟨rfl, rfl⟩).2, m3⟩
  refine ⟨⟨q1, XK_t h2' q2 h4 h5 h6, ⟨by omega, by omega⟩, h4, h5, h6⟩, fun i hi => ?_⟩
  rw [cd]
  exact k2 i hi
theorem uA_self {k i : Nat} : uA σ k i (σ.2.2.1 k i + 0) = σ := by
  have e1 : upd (σ.2.2.1 k) i (σ.2.2.1 k i + 0) = σ.2.2.1 k := by
    funext j
    by_cases z : j = i
    · rw [z, upd_same, Int32.add_zero]
    · rw [upd_other z]
  show (σ.1, σ.2.1, updG σ.2.2.1 k (upd (σ.2.2.1 k) i (σ.2.2.1 k i + 0)), σ.2.2.2) = σ
  rw [e1]
  have e2 : updG σ.2.2.1 k (σ.2.2.1 k) = σ.2.2.1 := by
    funext j
    by_cases z : j = k
    · rw [z, updG_same]
    · rw [updG_other z]
  rw [e2]
/-- slots of iters are taken -/
theorem Sy_p {p' : Nat} (h : Sy T n b u al σ0 nc0 sz0 mk0 a1 a2 tb o q v mk p szB cs τ) : Sy T n b u al σ0 nc0 sz0 mk0 a1 a2 tb o q v mk p' szB cs (uI τ (fP b 19) (nI p')) := by
  have fc := fP_c b 19
  exact ⟨Sx_f h.1 (fun j hj => uI_o (by omega)) rfl (by rw [uI_o (by omega)]; exact h.1.1.2.2.2.2.2.1.1) h.1.1.2.2.2.2.2.1.2 (by rw [uI_o (by omega)]; exact h.1.1.2.2.1.1) (Nat.le_refl _) h.1.2.2.2.2.2 uI_s, h.2⟩
theorem c_newPassing {k0 : Nat} (h : Sy T n b u al σ0 nc0 sz0 mk0 a1 a2 tb o q v mk p szB cs τ) (hp : p + k0 < 2147483648) (hb : L.2.2.1 0 = b) (h1 : L.1 1 = nI k0) : Tm (fun k => y_X7_newPassing__P k 0 L τ) (fun r => r.1 = nI p ∧ Sy T n b u al σ0 nc0 sz0 mk0 a1 a2 tb o q v mk (p + k0) szB cs r.2) := by
  refine Tm_suc (fun k => by rw [y_X7_newPassing__P]) ?_
  have e8 : τ.1 (fP b 19) = nI p := h.1.1.2.2.2.2.2.2.2
  rw [hb, e8, h1, n_add hp, uI_s, n_sub (by omega) (by omega)]
  exact Tm_some ⟨congrArg nI (by omega), Sy_p h⟩
theorem st_chk {f' : Nat → RS → Option RS} (h : Sy T n b u al σ0 nc0 sz0 mk0 a1 a2 tb o q v mk p szB cs τ) (hu : u < 42) (h1 : L.1 1 = nI r0) (hr : r0 ≤ tb.length) (hx : (¬ (tkK T n q = 26 ∧ (∀ j, r0 ≤ j → j < tb.length → ¬ (tb.getD j e0E).1 = tkS T n q) ∧ ¬ v = 60) ∧ x = none) ∨ ((tkK T n q = 26 ∧ (∀ j, r0 ≤ j → j < tb.length → ¬ (tb.getD j e0E).1 = tkS T n q) ∧ ¬ v = 60) ∧ C)) (cont : ∀ (τ' : CS) (ret : Int32) (n1 n2 : Nat), C → Sy T n b u al σ0 nc0 sz0 mk0 (a1 + n1) (a2 + n2) tb o q (v + 1) mk p szB cs τ' → Tm (fun k => f' k ((0, ret), τ', (n1, n2))) (QPo b u nc0 sz0 mk0 x S σ0 (a1 + n1) (a2 + n2))) : Tm (fun k => ox (f_X5_checkName k 0 L τ) (f' k)) (QPo b u nc0 sz0 mk0 x S σ0 a1 a2) := by
  have s0 := Sy_0 h.1.1
  have e3 : τ.1 4003 = nI u := h.1.1.2.2.2.2.1.2.1
  have i42 : ¬ (nI u < 0 ∨ 42 ≤ (nI u).toNatClampNeg) := u_in (by rw [u_n (by omega)]; omega) (by decide)
  have e7 := h.1.1.2.2.2.2.2.2.1
  -- the method by itself
  have t : ∀ z : Option Unit, ((¬ (tkK T n q = 26 ∧ (∀ j, r0 ≤ j → j < tb.length → ¬ (tb.getD j e0E).1 = tkS T n q) ∧ ¬ v = 60) ∧ z = none) ∨ ((tkK T n q = 26 ∧ (∀ j, r0 ≤ j → j < tb.length → ¬ (tb.getD j e0E).1 = tkS T n q) ∧ ¬ v = 60) ∧ z = some ())) → Tm (fun k => f_X5_checkName k 0 L τ) (QPo b u tb.length (szB + cs.length) mk z (fun _ _ τ' => QS T n b u al tb o q (v + 1) mk p (szB + cs.length) τ') τ 0 0) := by
    intro z hz
    refine Tm_suc (fun k => by rw [f_X5_checkName]) ?_
    by_cases k26 : tkK T n q = 26
    · have okn : okN (tkS T n q) := (s0.1.1.1.2.2.2.2.2.2.2.2 k26).2
      have ky := (s0.1.1.1.2.2.2.2.2.2.2.2 k26).1
      refine Tm_yes ((lx_k (kk := 26) s0.1.1 (by decide)).2 k26) ?_
      refine Tm_suc (fun k => by rw [f_X5_checkName]) ?_
      refine Tm_oP (Sy_pp s0) ?_
      refine Tm_op (c_toldFrom (r0 := r0) (bs := tkS T n q) s0.1.1.2.2.2.1 rfl okn ky.1 ky.2 h1 hr) (fun r2 z2 => ?_)
      obtain ⟨e2, f2⟩ := z2
      rw [e2]
      by_cases kt : ∀ j, r0 ≤ j → j < tb.length → ¬ (tb.getD j e0E).1 = tkS T n q
      · refine Tm_yes (f2.2 kt) ?_
        refine Tm_suc (fun k => by rw [f_X5_checkName]) ?_
        refine Tm_oP (Sy_pp s0) ?_
        rw [e3]
        refine Tm_chk i42 ?_
        rw [n_cl (p := u) (by omega), e7.1]
        by_cases v60 : v = 60
        · refine Tm_no (by show ¬ nI v < nI 60; rw [n_lt (by omega) (by decide)]; omega) ?_
          have zn : z = none := by
            rcases hz with w | w
            · exact w.2
            · exact absurd v60 w.1.2.2
          rw [zn]
          exact st_ref s0.1
        · refine Tm_yes (by show nI v < nI 60; rw [n_lt (by omega) (by decide)]; omega) ?_
          have zs : z = some () := by
            rcases hz with w | w
            · exact absurd ⟨k26, kt, v60⟩ w.1
            · exact w.2
          rw [zs]
          refine Tm_suc (fun k => by rw [f_X5_checkName]) ?_
          refine Tm_oP (Sy_pp s0) ?_
          rw [e3]
          refine Tm_chk i42 (Tm_chk i42 ?_)
          rw [n_cl (p := u) (by omega), e7.1, n_add1]
          have s1 := Sy_v s0 (by omega)
          exact Tm_some (Qfin s1.1 s1.1.1)
      · refine Tm_no (fun w => kt (f2.1 w)) ?_
        have zn : z = none := by
          rcases hz with w | w
          · exact w.2
          · exact absurd w.1.2.1 kt
        rw [zn]
        exact st_ref s0.1
    · refine Tm_no (fun w => k26 ((lx_k (kk := 26) s0.1.1 (by decide)).1 w)) ?_
      have zn : z = none := by
        rcases hz with w | w
        · exact w.2
        · exact absurd w.1.1 k26
      rw [zn]
      exact st_ref s0.1
  rcases hx with ⟨w1, w2⟩ | ⟨w1, c⟩
  · exact st_call (C := True) h.1 (t none (Or.inl ⟨w1, rfl⟩)) (Or.inl ⟨rfl, w2⟩)
  · exact st_call (C := C) h.1 (t (some ()) (Or.inr ⟨w1, rfl⟩)) (Or.inr ⟨_, rfl, c, fun τ' ret n1 n2 hq xk hc => cont τ' ret n1 n2 c (Sy_c0 h hq xk hc h.1.2.2.2.1 h.1.2.2.2.2.2)⟩)
end CVR

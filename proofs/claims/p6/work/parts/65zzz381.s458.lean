/-! The class: names are told, hidden, seen, and taken back. -/
section CVQ
variable {σ σ' σ0 τ τ' : CS} {L : LV} {b : Bool} {T : Nat → Int32} {n q q' u al o v mk p sz szB nc0 sz0 mk0 a1 a2 m kk f e t nc : Nat} {y w : Int32} {l l' cs cs' : List Int32} {tb tb' : List Ent} {α : Type} {S : α → Int32 → CS → Prop} {x : Option α} {C : Prop} {E : En} {gl : Nat × (Nat → Nat → Prop)} {Vm : Nat → Prop} {bt : BT}
theorem gE_l {a c : List Ent} {i : Nat} (h : i < a.length) : (a ++ c).getD i e0E = a.getD i e0E := by
  rw [List.getD_eq_getElem?_getD, List.getD_eq_getElem?_getD, List.getElem?_append_left h]
theorem gE_r {a c : List Ent} (i : Nat) : (a ++ c).getD (a.length + i) e0E = c.getD i e0E := by
  rw [List.getD_eq_getElem?_getD, List.getD_eq_getElem?_getD, List.getElem?_append_right (Nat.le_add_right _ _), Nat.add_sub_cancel_left]
theorem gE_0 {a : List Ent} {c : Ent} : (a ++ [c]).getD a.length e0E = c := gE_r (a := a) (c := [c]) 0
theorem uA_k {k i k' : Nat} {x : Int32} (h : k' ≠ k) : (uA σ k i x).2.2.1 k' = σ.2.2.1 k' := updG_other h
theorem uJ_k {k i k' : Nat} {x : Int64} (h : k' ≠ k) : (uJ σ k i x).2.2.2.1 k' = σ.2.2.2.1 k' := if_neg h
theorem uJ_r {k i : Nat} {x : Int64} : (uJ σ k i x).2.2.2.1 k = fun j => if j = i then x else σ.2.2.2.1 k j := if_pos rfl
/-- only the table of names changes, from the nc-th on -/
def TbQ (b : Bool) (nc : Nat) (tb' : List Ent) (σ σ' : CS) : Prop := (∀ j, ¬ j = fP b 11 → σ'.1 j = σ.1 j) ∧ σ'.2.1 = σ.2.1 ∧ (∀ k, ¬ (k = pR7 b ∨ k = pR8 b ∨ k = pR9 b ∨ k = pR10 b) → σ'.2.2.1 k = σ.2.2.1 k) ∧ (∀ k, ¬ (k = pR5 b ∨ k = pR6 b) → σ'.2.2.2.1 k = σ.2.2.2.1 k) ∧ σ'.2.2.2.2 = σ.2.2.2.2 ∧ (∀ i, i < nc → (σ'.2.2.2.1 (pR5 b) i = σ.2.2.2.1 (pR5 b) i ∧ σ'.2.2.2.1 (pR6 b) i = σ.2.2.2.1 (pR6 b) i) ∧ (σ'.2.2.1 (pR7 b) i = σ.2.2.1 (pR7 b) i ∧ σ'.2.2.1 (pR8 b) i = σ.2.2.1 (pR8 b) i) ∧ σ'.2.2.1 (pR9 b) i = σ.2.2.1 (pR9 b) i ∧ σ'.2.2.1 (pR10 b) i = σ.2.2.1 (pR10 b) i) ∧ TbR b tb' σ'
theorem QS_tb (h : QS T n b u al tb o q v mk p sz σ) (a : TbQ b nc tb' σ σ') : QS T n b u al tb' o q v mk p sz σ' ∧ XK b u nc sz mk σ σ' := by
  obtain ⟨h1, h2, h3, h4, ⟨h5, h5', h5''⟩, ⟨h6, h6'⟩, ⟨h7, h7'⟩, h8⟩ := h
  obtain ⟨f1, f2, f3, f4, f5, f6, f7⟩ := a
  have pc := pR_c b
  have fc1 := fP_c b 1
  have fc2 := fP_c b 11
  have fc3 := fP_c b 19
  have n1 := fP_ne b (i := 1) (j := 11) (by decide)
  have n2 := fP_ne b (i := 19) (j := 11) (by decide)
  have sn : ∀ k, sN σ' k = sN σ k := fun k => by show σ'.2.2.2.2.1 k = _; rw [f5]
  have kd : ∀ c, sKd σ' c = sKd σ c := fun c => by show σ'.2.2.2.2.2.1.2.2.2.2 c = _; rw [f5]
  have cd : ∀ c i, cdr c σ' i = cdr c σ i := fun c i => by
    show σ'.2.2.1 (pR0 (sKd σ' c)) i = _
    rw [kd c]
    rcases pR0_c (sKd σ c) with z | z
    · rw [f3 _ (by omega)]
    · rw [f3 _ (by omega)]
  have cl := CdL_s h2 (f1 _ n1) (kd b) ⟨sn 43, sn 51⟩
  have m3 := h3.2
  refine ⟨⟨LxQ_s h1 (fun j _ hj => f1 j (by omega)) (by rw [f2]; exact ⟨rfl, rfl⟩) (f3 38 (by omega)) (sn 38) (f4 39 (by omega)), cl, ⟨by rw [f1 _ (by omega)]; exact h3.1, by rw [sn]; exact m3.1, by rw [sn]; exact m3.2⟩, f7, ⟨by show σ'.2.2.2.2.2.1.2.2.2.1 = _; rw [f5]; exact h5, by rw [f1 _ (by omega)]; exact h5', by rw [f1 _ (by omega)]; exact h5''⟩, ⟨by rw [f1 _ (by omega)]; exact h6, h6'⟩, ⟨by rw [f3 _ (by omega)]; exact h7, h7'⟩, by rw [f1 _ n2]; exact h8⟩, ?_⟩
  exact ⟨⟨fun j hj => f1 j (by omega), fun j _ => by rw [f2]⟩, ⟨fun k hk => f3 k (by omega), fun k hk => sn k, f4⟩, ⟨⟨by show σ'.2.2.2.2.2.1.1 = _; rw [f5], by show σ'.2.2.2.2.2.1.2.1 = _; rw [f5], by show σ'.2.2.2.2.2.1.2.2.1 = _; rw [f5], by show σ'.2.2.2.2.2.1.2.2.2.1 = _; rw [f5]⟩, fun c _ => kd c, by rw [f5]⟩, fun i _ => by rw [f3 _ (by omega)], f6, fun i _ => ⟨cd b i, cd (!b) i⟩, fun i _ => by rw [f3 41 (by omega)], cl.2, ⟨by rw [sn]; omega, by rw [sn]; exact m3.2⟩⟩
theorem Sy_tb (h : Sy T n b u al σ0 nc0 sz0 mk0 a1 a2 tb o q v mk p szB cs τ) (a : TbQ b nc tb' τ τ') (h1 : nc0 ≤ nc) (h2 : nc0 ≤ tb'.length) : Sy T n b u al σ0 nc0 sz0 mk0 a1 a2 tb' o q v mk p szB cs τ' := by
  obtain ⟨q1, q2⟩ := QS_tb h.1.1 a
  have ph := Ph_s (σ := τ) (σ' := τ') (by rw [a.2.2.2.2.1])
  obtain ⟨⟨h1', h2', h3, h4, h5, h6⟩, k2⟩ := h
  refine ⟨⟨q1, XK_t h2' q2 h1 h5 h6, ⟨by omega, by omega⟩, h2, h5, h6⟩, fun i hi => ?_⟩
  rw [(q2.2.2.2.2.2.1 (szB + i) (by omega)).1]
  exact k2 i hi
theorem c_toldFrom {bs : List Int32} {r0 : Nat} (h : TbR b tb σ) (hb : L.2.2.1 0 = b) (hk : okN bs) (h2 : L.2.1 2 = kyH bs) (h4 : L.2.1 4 = kyL bs) (h1 : L.1 1 = nI r0) (hr : r0 ≤ tb.length) : Tm (fun k => y_X7_isToldFrom__P k 0 L σ) (fun r => r.2 = σ ∧ (r.1 = 0 ↔ ∀ j, r0 ≤ j → j < tb.length → ¬ (tb.getD j e0E).1 = bs)) := by
  obtain ⟨t1, t2, t3⟩ := h
  have b1 : ∀ (d i : Nat) (L' : LV), i + d = tb.length → r0 ≤ i → L'.2.2.1 0 = b → L'.2.1 2 = kyH bs → L'.2.1 4 = kyL bs → L'.1 6 = nI i → (∀ j, r0 ≤ j → j < i → ¬ (tb.getD j e0E).1 = bs) → Tm (fun k => y_X7_isToldFrom__P k 1 L' σ) (fun r => r.2 = σ ∧ (r.1 = 0 ↔ ∀ j, r0 ≤ j → j < tb.length → ¬ (tb.getD j e0E).1 = bs)) := by
    intro d
    induction d with
    | zero =>
      intro i L' hi ri lb l2 l4 l6 no
      refine Tm_suc (fun k => by rw [y_X7_isToldFrom__P]) ?_
      rw [lb, t1, l6]
      refine Tm_yes (by rw [n_le (by omega) (by omega)]; omega) ?_
      refine Tm_suc (fun k => by rw [y_X7_isToldFrom__P]) ?_
      exact Tm_some ⟨rfl, fun _ j j1 j2 => no j j1 (by omega), fun _ => rfl⟩
    | succ d ih =>
      intro i L' hi ri lb l2 l4 l6 no
      obtain ⟨w1, w2, w3, w4, w5, w6, w7⟩ := t3 i (by omega)
      have nx : ¬ (tb.getD i e0E).1 = bs → Tm (fun k => y_X7_isToldFrom__P k 3 L' σ) (fun r => r.2 = σ ∧ (r.1 = 0 ↔ ∀ j, r0 ≤ j → j < tb.length → ¬ (tb.getD j e0E).1 = bs)) := by
        intro ne
        refine Tm_suc (fun k => by rw [y_X7_isToldFrom__P]) ?_
        refine ih (i + 1) _ (by omega) (by omega) lb l2 l4 ?_ (fun j j1 j2 => ?_)
        · show L'.1 6 + 1 = _
          rw [l6, n_add1]
        · by_cases z : j = i
          · rw [z]; exact ne
          · exact no j j1 (by omega)
      have ki := ky_inj w1 hk
      refine Tm_suc (fun k => by rw [y_X7_isToldFrom__P]) ?_
      rw [lb, t1, l6]
      refine Tm_no (by rw [n_le (by omega) (by omega)]; omega) ?_
      have ii : ¬ (nI i < 0 ∨ 256 ≤ (nI i).toNatClampNeg) := u_in (by rw [u_n (by omega)]; omega) (by decide)
      refine Tm_chk ii ?_
      rw [n_cl (p := i) (by omega), w2, w3, l2, l4]
      refine Tm_ite (fun g1 => ?_) (fun g1 => nx (fun z => g1 (nbCmp_0.mpr (ki.2 z).1)))
      rw [n_cl (p := i) (by omega)] at ii
      refine Tm_chk ii ?_
      refine Tm_ite (fun g2 => ?_) (fun g2 => nx (fun z => g2 (nbCmp_0.mpr (ki.2 z).2)))
      refine Tm_some ⟨rfl, fun z => absurd (show (1 : Int32) = 0 from z) (by decide), fun z => ?_⟩
      exact absurd (ki.1 ⟨nbCmp_0.mp g1, nbCmp_0.mp g2⟩) (z i ri (by omega))
  refine Tm_suc (fun k => by rw [y_X7_isToldFrom__P]) ?_
  exact b1 (tb.length - r0) r0 _ (by omega) (Nat.le_refl _) hb h2 h4 h1 (fun j j1 j2 => by omega)
theorem c_tell {bs : List Int32} {w0 o0 s0 : Nat} (h : TbR b tb σ) (hl : tb.length < 256) (hb : L.2.2.1 0 = b) (hk : okN bs) (h1 : L.2.1 1 = kyH bs) (h3 : L.2.1 3 = kyL bs) (h5 : L.1 5 = nI w0) (h6 : L.1 6 = nI o0) (h7 : L.1 7 = nI s0) : Tm (fun k => y_X7_tell__P k 0 L σ) (fun r => TbQ b tb.length (tb ++ [(bs, w0, o0, s0, false)]) σ r.2) := by
  obtain ⟨t1, t2, t3⟩ := h
  have pc := pR_c b
  have fc2 := fP_c b 11
  have ii : ¬ (σ.1 (fP (L.2.2.1 0) 11) < 0 ∨ 256 ≤ (σ.1 (fP (L.2.2.1 0) 11)).toNatClampNeg) := by
    rw [hb, t1]
    exact u_in (by rw [u_n (by omega)]; omega) (by decide)
  refine Tm_suc (fun k => by rw [y_X7_tell__P]) ?_
  refine Tm_no (by rw [hb, t1]; show ¬ nI 256 ≤ nI tb.length; rw [n_le (by decide) (by omega)]; omega) ?_
  refine Tm_chk ii (Tm_chk ii (Tm_chk ii ?_))
  refine Tm_suc (fun k => by rw [y_X7_tell__P]) ?_
  refine Tm_chk ii (Tm_chk ii (Tm_chk ii ?_))
  refine Tm_suc (fun k => by rw [y_X7_tell__P]) ?_
  refine Tm_suc (fun k => by rw [y_X7_tell__P]) ?_
  refine Tm_some ?_
  show TbQ b tb.length (tb ++ [(bs, w0, o0, s0, false)]) σ (uI (uA (uA (uA (uA (uJ (uJ σ (pR5 (L.2.2.1 0)) (σ.1 (fP (L.2.2.1 0) 11)).toNatClampNeg (L.2.1 1)) (pR6 (L.2.2.1 0)) (σ.1 (fP (L.2.2.1 0) 11)).toNatClampNeg (L.2.1 3)) (pR7 (L.2.2.1 0)) (σ.1 (fP (L.2.2.1 0) 11)).toNatClampNeg (L.1 5)) (pR8 (L.2.2.1 0)) (σ.1 (fP (L.2.2.1 0) 11)).toNatClampNeg (L.1 6)) (pR9 (L.2.2.1 0)) (σ.1 (fP (L.2.2.1 0) 11)).toNatClampNeg (L.1 7)) (pR10 (L.2.2.1 0)) (σ.1 (fP (L.2.2.1 0) 11)).toNatClampNeg (vp_nar .boolean 0)) (fP (L.2.2.1 0) 11) (σ.1 (fP (L.2.2.1 0) 11) + 1))
  rw [hb, t1, n_cl (p := tb.length) (by omega), n_add1, h1, h3, h5, h6, h7, show vp_nar .boolean 0 = (0 : Int32) from rfl]
  have r5 : ∀ i, (uJ (uJ σ (pR5 b) tb.length (kyH bs)) (pR6 b) tb.length (kyL bs)).2.2.2.1 (pR5 b) i = if i = tb.length then kyH bs else σ.2.2.2.1 (pR5 b) i := fun i => by
    rw [uJ_k (by omega), uJ_r]
  have r6 : ∀ i, (uJ (uJ σ (pR5 b) tb.length (kyH bs)) (pR6 b) tb.length (kyL bs)).2.2.2.1 (pR6 b) i = if i = tb.length then kyL bs else σ.2.2.2.1 (pR6 b) i := fun i => by
    rw [uJ_r, uJ_k (by omega)]
  generalize hJ : uJ (uJ σ (pR5 b) tb.length (kyH bs)) (pR6 b) tb.length (kyL bs) = σj at *
  have j1 : σj.1 = σ.1 := by rw [← hJ]; rfl
  have j2 : σj.2.1 = σ.2.1 := by rw [← hJ]; rfl
  have j3 : σj.2.2.1 = σ.2.2.1 := by rw [← hJ]; rfl
  have j4 : ∀ k, ¬ (k = pR5 b ∨ k = pR6 b) → σj.2.2.2.1 k = σ.2.2.2.1 k := fun k hk => by rw [← hJ, uJ_k (by omega), uJ_k (by omega)]
  have j5 : σj.2.2.2.2 = σ.2.2.2.2 := by rw [← hJ]; rfl
  have r7 : ∀ i, (uA (uA (uA (uA σj (pR7 b) tb.length (nI w0)) (pR8 b) tb.length (nI o0)) (pR9 b) tb.length (nI s0)) (pR10 b) tb.length 0).2.2.1 (pR7 b) i = if i = tb.length then nI w0 else σ.2.2.1 (pR7 b) i := fun i => by
    rw [uA_k (by omega), uA_k (by omega), uA_k (by omega), uA_r, j3]; rfl
  have r8 : ∀ i, (uA (uA (uA (uA σj (pR7 b) tb.length (nI w0)) (pR8 b) tb.length (nI o0)) (pR9 b) tb.length (nI s0)) (pR10 b) tb.length 0).2.2.1 (pR8 b) i = if i = tb.length then nI o0 else σ.2.2.1 (pR8 b) i := fun i => by
    rw [uA_k (by omega), uA_k (by omega), uA_r, uA_k (by omega), j3]; rfl
  have r9 : ∀ i, (uA (uA (uA (uA σj (pR7 b) tb.length (nI w0)) (pR8 b) tb.length (nI o0)) (pR9 b) tb.length (nI s0)) (pR10 b) tb.length 0).2.2.1 (pR9 b) i = if i = tb.length then nI s0 else σ.2.2.1 (pR9 b) i := fun i => by
    rw [uA_k (by omega), uA_r, uA_k (by omega), uA_k (by omega), j3]; rfl
  have r10 : ∀ i, (uA (uA (uA (uA σj (pR7 b) tb.length (nI w0)) (pR8 b) tb.length (nI o0)) (pR9 b) tb.length (nI s0)) (pR10 b) tb.length 0).2.2.1 (pR10 b) i = if i = tb.length then 0 else σ.2.2.1 (pR10 b) i := fun i => by
    rw [uA_r, uA_k (by omega), uA_k (by omega), uA_k (by omega), j3]; rfl
  have rr : ∀ k, ¬ (k = pR7 b ∨ k = pR8 b ∨ k = pR9 b ∨ k = pR10 b) → (uA (uA (uA (uA σj (pR7 b) tb.length (nI w0)) (pR8 b) tb.length (nI o0)) (pR9 b) tb.length (nI s0)) (pR10 b) tb.length 0).2.2.1 k = σ.2.2.1 k := fun k hk => by
    rw [uA_k (by omega), uA_k (by omega), uA_k (by omega), uA_k (by omega), j3]
  generalize hA : uA (uA (uA (uA σj (pR7 b) tb.length (nI w0)) (pR8 b) tb.length (nI o0)) (pR9 b) tb.length (nI s0)) (pR10 b) tb.length 0 = σa at *
  have k1 : σa.1 = σ.1 := by rw [← hA]; exact j1
  have k2 : σa.2.1 = σ.2.1 := by rw [← hA]; exact j2
  have k4 : σa.2.2.2.1 = σj.2.2.2.1 := by rw [← hA]; rfl
  have k5 : σa.2.2.2.2 = σ.2.2.2.2 := by rw [← hA]; exact j5
  refine ⟨fun j hj => by rw [uI_o hj, k1], k2, rr, fun k hk => by show σa.2.2.2.1 k = _; rw [k4]; exact j4 k hk, k5, fun i hi => ?_, ?_⟩
  · show (σa.2.2.2.1 (pR5 b) i = _ ∧ σa.2.2.2.1 (pR6 b) i = _) ∧ (σa.2.2.1 (pR7 b) i = _ ∧ σa.2.2.1 (pR8 b) i = _) ∧ σa.2.2.1 (pR9 b) i = _ ∧ σa.2.2.1 (pR10 b) i = _
    rw [k4, r5, r6, r7, r8, r9, r10]
    have z : ¬ i = tb.length := by omega
    rw [if_neg z, if_neg z, if_neg z, if_neg z, if_neg z, if_neg z]
    exact ⟨⟨rfl, rfl⟩, ⟨rfl, rfl⟩, rfl, rfl⟩
  · refine ⟨?_, ?_, fun i hi => ?_⟩
    · rw [uI_s, List.length_append]; rfl
    · rw [List.length_append]; show tb.length + 1 ≤ 256; omega
    · rw [List.length_append] at hi
      have hi' : i < tb.length + 1 := hi
      show okN _ ∧ σa.2.2.2.1 (pR5 b) i = _ ∧ σa.2.2.2.1 (pR6 b) i = _ ∧ σa.2.2.1 (pR7 b) i = _ ∧ σa.2.2.1 (pR8 b) i = _ ∧ σa.2.2.1 (pR9 b) i = _ ∧ σa.2.2.1 (pR10 b) i = _
      rw [k4, r5, r6, r7, r8, r9, r10]
      by_cases z : i = tb.length
      · rw [z, gE_0]
        rw [if_pos rfl, if_pos rfl, if_pos rfl, if_pos rfl, if_pos rfl, if_pos rfl]
        exact ⟨hk, rfl, rfl, rfl, rfl, rfl, rfl⟩
      · rw [gE_l (by omega)]
        rw [if_neg z, if_neg z, if_neg z, if_neg z, if_neg z, if_neg z]
        exact t3 i (by omega)
/-- an entry is hidden, or seen -/
theorem TbQ_hd {i : Nat} {e1 : Ent} {hd : Bool} (h : TbR b tb σ) (hi : i < tb.length) (hn : nc ≤ i) (he : tb.getD i e0E = e1) : TbQ b nc (tb.set i (e1.1, e1.2.1, e1.2.2.1, e1.2.2.2.1, hd)) σ (uA σ (pR10 b) i (if hd = true then 1 else 0)) := by
  obtain ⟨t1, t2, t3⟩ := h
  have pc := pR_c b
  refine ⟨fun _ _ => rfl, rfl, fun k hk => uA_k (by omega), fun _ _ => rfl, rfl, fun j hj => ⟨⟨rfl, rfl⟩, ⟨by rw [uA_k (by omega)], by rw [uA_k (by omega)]⟩, by rw [uA_k (by omega)], by rw [uA_r, upd_other (by omega)]⟩, ?_⟩
  refine ⟨by rw [List.length_set]; exact t1, by rw [List.length_set]; exact t2, fun j hj => ?_⟩
  rw [List.length_set] at hj
  have gs : (tb.set i (e1.1, e1.2.1, e1.2.2.1, e1.2.2.2.1, hd)).getD j e0E = if j = i then (e1.1, e1.2.1, e1.2.2.1, e1.2.2.2.1, hd) else tb.getD j e0E := by
    by_cases z : j = i
    · rw [if_pos z, z, List.getD_eq_getElem?_getD, List.getElem?_set_self hi]; rfl
    · rw [if_neg z, List.getD_eq_getElem?_getD, List.getElem?_set_ne (by omega), List.getD_eq_getElem?_getD]
  rw [gs]
  obtain ⟨w1, w2, w3, w4, w5, w6, w7⟩ := t3 j hj
  rw [uA_k (by omega), uA_k (by omega), uA_k (by omega), uA_r]
  by_cases z : j = i
  · rw [if_pos z, z, upd_same]
    rw [z, he] at w1 w2 w3 w4 w5 w6
    exact ⟨w1, w2, w3, w4, w5, w6, rfl⟩
  · rw [if_neg z, upd_other z]
    exact ⟨w1, w2, w3, w4, w5, w6, w7⟩
/-- the newest names are taken back -/
theorem TbQ_tk (h : TbR b (tb ++ tb') σ) : TbQ b tb.length tb σ (uI σ (fP b 11) (nI tb.length)) := by
  obtain ⟨t1, t2, t3⟩ := h
  rw [List.length_append] at t2 t3
  refine ⟨fun j hj => uI_o hj, rfl, fun _ _ => rfl, fun _ _ => rfl, rfl, fun _ _ => ⟨⟨rfl, rfl⟩, ⟨rfl, rfl⟩, rfl, rfl⟩, uI_s, by omega, fun i hi => ?_⟩
  have z := t3 i (by omega)
  rw [gE_l hi] at z
  exact z
end CVQ

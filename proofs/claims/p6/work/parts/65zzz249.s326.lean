/-! The set of statements that the grammar lays: ifs, whiles, fors. -/
section IWF
variable {T : Nat → Int32} {n : Nat} {FN : Nat → Nat → Prop} {GF : Nat → Prop} {E : En} {MD : Nat → Nat → Nat} {lp d o q v un vv vw lo lo' top e : Nat} {b b' : BT} {s : SB} {T' : Nat → Nat → Int32} {S : Nat → Nat → Nat → Nat → Prop} {x : Int32}
theorem AgS_up (h : AgS T' un vv b lo e) (hl : lo ≤ lo') (he : e < lo') : Agr T' un vv b lo' top := ⟨fun a i h4 h9 hi hb hx => h.1 a i h4 h9 (by omega) hb (by omega), h.2⟩
theorem Agr_st {j l : Nat} (h : Agr T' un vv (bSet b j l x) lo top) (hl : l < lo) : Agr T' un vv b lo top := ⟨fun a i h4 h9 hi hb hx => (h.1 a i h4 h9 hi hb hx).trans (bSet_o (by omega)), h.2⟩
theorem Kd_46 (h4 : T' 4 e = 46) (h : ∃ q, BrL T' FN S un d v e (q + 1) (T' 5 e)) : KdO T' FN S un d v e := by
  have no : ∀ j : Int32, j ≠ 46 → T' 4 e = j → False := fun j hj z => hj (z.symm.trans h4)
  exact ⟨fun z => (no _ (by decide) z).elim, fun z => (no _ (by decide) z).elim, fun z => (no _ (by decide) z).elim, fun _ => h, fun z => z.elim (fun z => (no _ (by decide) z).elim) (fun z => (no _ (by decide) z).elim), fun z => (no _ (by decide) z).elim, fun z => (no _ (by decide) z).elim, fun z => (no _ (by decide) z).elim, fun z => (no _ (by decide) z).elim, fun z => z.elim (fun z => (no _ (by decide) z).elim) (fun z => (no _ (by decide) z).elim), fun z => (no _ (by decide) z).elim, fun z => (no _ (by decide) z).elim, fun z => (no _ (by decide) z).elim⟩
theorem Kd_47 (h4 : T' 4 e = 47) (h : Wx0 T' FN (lcU un T') (T' 5 e) ∧ BdE T' S un d v e (T' 6 e)) : KdO T' FN S un d v e := by
  have no : ∀ j : Int32, j ≠ 47 → T' 4 e = j → False := fun j hj z => hj (z.symm.trans h4)
  exact ⟨fun z => (no _ (by decide) z).elim, fun z => (no _ (by decide) z).elim, fun z => (no _ (by decide) z).elim, fun z => (no _ (by decide) z).elim, fun z => z.elim (fun z => (no _ (by decide) z).elim) (fun z => (no _ (by decide) z).elim), fun z => (no _ (by decide) z).elim, fun z => (no _ (by decide) z).elim, fun z => (no _ (by decide) z).elim, fun _ => h, fun z => z.elim (fun z => (no _ (by decide) z).elim) (fun z => (no _ (by decide) z).elim), fun z => (no _ (by decide) z).elim, fun z => (no _ (by decide) z).elim, fun z => (no _ (by decide) z).elim⟩
theorem Kd_48 (h4 : T' 4 e = 48) (h : d ≤ 19 ∧ FoN T' FN S un d v e) : KdO T' FN S un d v e := by
  have no : ∀ j : Int32, j ≠ 48 → T' 4 e = j → False := fun j hj z => hj (z.symm.trans h4)
  exact ⟨fun _ => h, fun z => (no _ (by decide) z).elim, fun z => (no _ (by decide) z).elim, fun z => (no _ (by decide) z).elim, fun z => z.elim (fun z => (no _ (by decide) z).elim) (fun z => (no _ (by decide) z).elim), fun z => (no _ (by decide) z).elim, fun z => (no _ (by decide) z).elim, fun z => (no _ (by decide) z).elim, fun z => (no _ (by decide) z).elim, fun z => z.elim (fun z => (no _ (by decide) z).elim) (fun z => (no _ (by decide) z).elim), fun z => (no _ (by decide) z).elim, fun z => (no _ (by decide) z).elim, fun z => (no _ (by decide) z).elim⟩
/-- an if without an else -/
theorem RIn_if {r : ST} {q1 qF : Nat} (hb : 1 ≤ b.1) (hq : q ≤ q1) (hqF : r.1 < qF) (hR : RB3 FN GF MD E lp d q1 v v b.1 0 (bNode b 46 (-1) 0 0) s r) : RIn FN GF MD E lp d q v b s (qF, r.2.1, 0, b.1, r.2.2.2.2.1, r.2.2.2.2.2) := by
  obtain ⟨X, y, A, C, c, f1, s1, ⟨e1, e2, e3⟩, w0, _, g1, H1⟩ := hR
  have w5 := w0 rfl
  obtain ⟨n4, n5, n6, n7, n8, n9⟩ := nd_t (b := b) (k := 46) (x := -1) (y := 0) (z := 0)
  have l1 : b.1 + 1 ≤ r.2.2.2.2.1.1 := f1.1
  have e1 : b.1 + 1 ≤ r.2.2.2.1 := e1
  have at0 : ∀ a, ¬ a = 5 → r.2.2.2.2.1.2.2.1 a b.1 = (bNode b 46 (-1) 0 0).2.2.1 a b.1 := fun a ha => f1.2.2.1 a b.1 (Nat.lt_succ_self _) (by omega) (by omega)
  refine ⟨X, A, C, ⟨by show b.1 ≤ r.2.2.2.2.1.1; omega, f1.2.1, fun a j hj hx => ?_, fun j hj => f1.2.2.2.1 j hj, fun j hj => f1.2.2.2.2 j hj⟩, s1, ⟨Nat.le_refl _, by show b.1 < r.2.2.2.2.1.1; omega, (at0 9 (by decide)).trans n9⟩, by show _ < qF; omega, fun T' S hA hU hY hXS hSi hl => ?_⟩
  · show r.2.2.2.2.1.2.2.1 a j = _
    rw [f1.2.2.1 a j (Nat.lt_succ_of_lt hj) (by omega) (by omega)]
    exact (Frm_node (un := 0) (vv := 0) (e := 0)).2.2.1 a j hj (by omega)
  · have t4 : T' 4 b.1 = 46 := (hA.1 4 b.1 (by decide) (by decide) (Nat.le_refl _) l1 (by omega)).trans ((at0 4 (by decide)).trans n4)
    have t5 : T' 5 b.1 = nI y := (hA.1 5 b.1 (by decide) (by decide) (Nat.le_refl _) l1 (by omega)).trans w5
    have hA1 : ∀ top, Agr T' E.2.2.2.1 r.2.1 r.2.2.2.2.1 (b.1 + 1) top := fun top => AgS_up hA (Nat.le_succ _) (Nat.lt_succ_self _)
    obtain ⟨k1, k2⟩ := H1 T' S (hA1 _) hU hY hXS hSi t4 hl
    have k3 := k2 0 (by show T' 9 r.2.2.2.1 = -1; rw [(hA1 0).1 9 _ (by decide) (by decide) e1 e2 (by omega)]; exact e3)
    rw [Nat.zero_add] at k3
    exact ⟨k1, Kd_46 t4 ⟨c, by rw [t5]; exact k3⟩⟩
/-- an if with an else -/
theorem RIn_ie {r t : ST} {q1 q2 qF : Nat} (hb : 1 ≤ b.1) (hq : q ≤ q1) (hq2 : r.1 ≤ q2) (hqF : t.1 < qF) (hv : v ≤ r.2.1) (hvt : r.2.1 ≤ t.2.1) (hb2 : b.1 ≤ 70000) (hR : RB3 FN GF MD E lp d q1 v v b.1 0 (bNode b 46 (-1) 0 0) s r) (hB : RB0 FN GF MD E lp (d + 1) q2 r.2.1 (nI b.1) 0 0 r.2.2.2.2.1 r.2.2.2.2.2 t) : RIn FN GF MD E lp d q v b s (qF, t.2.1, 0, b.1, bSet (bNode t.2.2.2.2.1 33 (-2) (hd t.2.2.2.1) 0) 9 r.2.2.2.1 (nI t.2.2.2.2.1.1), t.2.2.2.2.2) := by
  obtain ⟨X, y, A, C, c, f1, s1, ⟨e1, e2, e3⟩, w0, _, g1, H1⟩ := hR
  obtain ⟨X2, y2, A2, C2, f2, s2, u1, _, g2, x2, H2⟩ := hB
  rw [if_pos rfl] at u1
  have w5 := w0 rfl
  obtain ⟨n4, n5, n6, n7, n8, n9⟩ := nd_t (b := b) (k := 46) (x := -1) (y := 0) (z := 0)
  obtain ⟨o4, o5, o6, o7, o8, o9⟩ := nd_t (b := t.2.2.2.2.1) (k := 33) (x := -2) (y := hd t.2.2.2.1) (z := 0)
  have l1 : b.1 + 1 ≤ r.2.2.2.2.1.1 := f1.1
  have l2 := f2.1
  have e1 : b.1 + 1 ≤ r.2.2.2.1 := e1
  have at0 : ∀ a, ¬ a = 5 → r.2.2.2.2.1.2.2.1 a b.1 = (bNode b 46 (-1) 0 0).2.2.1 a b.1 := fun a ha => f1.2.2.1 a b.1 (Nat.lt_succ_self _) (by omega) (by omega)
  have f3 : ∀ {vv : Nat}, Frm E.2.2.2.1 vv t.2.2.2.2.1 r.2.2.2.1 (bSet (bNode t.2.2.2.2.1 33 (-2) (hd t.2.2.2.1) 0) 9 r.2.2.2.1 (nI t.2.2.2.2.1.1)) := fun {vv} => Frm_tr (Frm_node (vv := vv)) (Frm_set9 (vv := vv)) (Nat.le_refl _) (Or.inl rfl)
  have f5 : Frm E.2.2.2.1 r.2.1 r.2.2.2.2.1 r.2.2.2.1 (bSet (bNode t.2.2.2.2.1 33 (-2) (hd t.2.2.2.1) 0) 9 r.2.2.2.1 (nI t.2.2.2.2.1.1)) := Frm_tr (Frm_wk f2) f3 hvt (Or.inl rfl)
  have at5 : ∀ a, (bSet (bNode t.2.2.2.2.1 33 (-2) (hd t.2.2.2.1) 0) 9 r.2.2.2.1 (nI t.2.2.2.2.1.1)).2.2.1 a b.1 = r.2.2.2.2.1.2.2.1 a b.1 := fun a => f5.2.2.1 a b.1 (by omega) (by omega)
  refine ⟨fun d' v' n' => X d' v' n' ∨ X2 d' v' n', max A A2, max C C2, ⟨Nat.le_trans (show b.1 ≤ r.2.2.2.2.1.1 by omega) f5.1, Nat.le_trans f1.2.1 f5.2.1, fun a j hj hx => ?_, fun j hj => ?_, fun j hj => ?_⟩, FrS_tr s1 s2, ⟨Nat.le_refl _, Nat.lt_of_lt_of_le (show b.1 < r.2.2.2.2.1.1 by omega) f5.1, (at5 9).trans ((at0 9 (by decide)).trans n9)⟩, by show _ < qF; omega, fun T' S hA hU hY hXS hSi hl => ?_⟩
  · rw [f5.2.2.1 a j (by omega) (by omega), f1.2.2.1 a j (Nat.lt_succ_of_lt hj) (by omega) (by omega)]
    exact (Frm_node (un := 0) (vv := 0) (e := 0)).2.2.1 a j hj (by omega)
  · rw [f5.2.2.2.1 j (Nat.lt_of_lt_of_le hj f1.2.1)]; exact f1.2.2.2.1 j hj
  · rw [f5.2.2.2.2 j (by omega)]; exact f1.2.2.2.2 j hj
  · have lt : b.1 < (bSet (bNode t.2.2.2.2.1 33 (-2) (hd t.2.2.2.1) 0) 9 r.2.2.2.1 (nI t.2.2.2.2.1.1)).1 := by have := f5.1; omega
    have t4 : T' 4 b.1 = 46 := (hA.1 4 b.1 (by decide) (by decide) (Nat.le_refl _) lt (by omega)).trans ((at5 4).trans ((at0 4 (by decide)).trans n4))
    have t5 : T' 5 b.1 = nI y := (hA.1 5 b.1 (by decide) (by decide) (Nat.le_refl _) lt (by omega)).trans ((at5 5).trans w5)
    have hA1 : ∀ top, Agr T' E.2.2.2.1 t.2.1 (bSet (bNode t.2.2.2.2.1 33 (-2) (hd t.2.2.2.1) 0) 9 r.2.2.2.1 (nI t.2.2.2.2.1.1)) (b.1 + 1) top := fun top => AgS_up hA (Nat.le_succ _) (Nat.lt_succ_self _)
    have hA2 : Agr T' E.2.2.2.1 r.2.1 r.2.2.2.2.1 (b.1 + 1) r.2.2.2.1 := Agr_g (hA1 _) f5 hvt (by omega) (Nat.le_refl _) (Or.inr rfl) (Or.inl rfl)
    have hA3 : Agr T' E.2.2.2.1 t.2.1 t.2.2.2.2.1 r.2.2.2.2.1.1 0 := Agr_g (hA1 _) (f3 (vv := t.2.1)) (Nat.le_refl _) (by omega) l1 (Or.inl e2) (Or.inl rfl)
    obtain ⟨k1, k2⟩ := H1 T' S hA2 (AgU_dn hU s2 (Nat.le_refl _)) (HyT_mo hY (by omega) (by omega)) (fun d' v' n' z => hXS d' v' n' (Or.inl z)) hSi t4 hl
    obtain ⟨j1, j2⟩ := H2 T' S hA3 (AgU_lo hU s1.1) (HyT_mo hY (by omega) (by omega)) (fun d' v' n' z => hXS d' v' n' (Or.inr z)) (Or.inr ⟨b.1, d, v, rfl, rfl, hSi, by rw [if_neg (by rw [t4]; decide)]; omega, Or.inl t4⟩) (fun z => hlq_in (by omega) (Or.inr (Or.inr (hl z))))
    have nd : ∀ a, 4 ≤ a → a ≤ 9 → T' a t.2.2.2.2.1.1 = (bNode t.2.2.2.2.1 33 (-2) (hd t.2.2.2.1) 0).2.2.1 a t.2.2.2.2.1.1 := fun a h4 h9 => by
      rw [(hA1 0).1 a _ h4 h9 (by omega) (Nat.lt_succ_self _) (by omega)]
      exact bSet_o (by omega)
    have t9 : T' 9 r.2.2.2.1 = nI t.2.2.2.2.1.1 := by
      rw [(hA1 0).1 9 _ (by decide) (by decide) e1 (by show _ < t.2.2.2.2.1.1 + 1; omega) (by omega)]; exact bSet_s
    have lN : t.2.2.2.2.1.1 < LNo T' % 70001 := (hA1 0).2.2.2.1
    have k3 := k2 1 (by
      show BrL T' FN S E.2.2.2.1 d v b.1 1 (T' 9 r.2.2.2.1)
      rw [t9]
      refine ⟨t.2.2.2.2.1.1, rfl, ⟨by omega, lN⟩, Or.inl ((nd 5 (by decide) (by decide)).trans o5), ?_, (nd 9 (by decide) (by decide)).trans o9⟩
      rw [nd 6 (by decide) (by decide), o6, u1]
      rcases x2 with z | ⟨z1, z2, z3⟩
      · rw [z]; exact Or.inl rfl
      · exact Or.inr ⟨y2, r.2.1, hd_1 (by omega), hXS _ _ _ (Or.inr z3), hv, j2 (by omega)⟩)
    rw [Nat.add_comm 1 c] at k3
    exact ⟨fun d' v' n' z => z.elim (k1 d' v' n') (j1 d' v' n'), Kd_46 t4 ⟨c + 1, by rw [t5]; exact k3⟩⟩
/-- a while -/
theorem RIn_w {r : RT} {t : ST} {O K q2 qF : Nat} (hb : 1 ≤ b.1) (hb2 : b.1 ≤ 70000) (hq : q ≤ q2) (hqF : t.1 < qF) (hv : v ≤ r.2.1) (hvt : r.2.1 ≤ t.2.1) (hO : O ≤ 20) (hK : K ≤ 60) (hF : Frm E.2.2.2.1 v (bNode b 47 0 0 0) 0 r.2.2.2.2.1) (hP : LPt FN (eFl E) E.2.2.2.1 r.2.1 O 14 K (b.1 + 1) r.2.2.2.2.1 r.2.2.2.1) (hB : RB0 FN GF MD E (lp + 1) (d + 1) q2 r.2.1 (nI b.1) 0 0 (bSet r.2.2.2.2.1 5 b.1 (nI r.2.2.2.1)) s t) : RIn FN GF MD E lp d q v b s (qF, t.2.1, 0, b.1, bSet t.2.2.2.2.1 6 b.1 (hd t.2.2.2.1), t.2.2.2.2.2) := by
  obtain ⟨X2, y2, A2, C2, f2, s2, u1, _, g2, x2, H2⟩ := hB
  rw [if_pos rfl] at u1
  obtain ⟨n4, n5, n6, n7, n8, n9⟩ := nd_t (b := b) (k := 47) (x := 0) (y := 0) (z := 0)
  have l1 : b.1 + 1 ≤ r.2.2.2.2.1.1 := hF.1
  have l2 : r.2.2.2.2.1.1 ≤ t.2.2.2.2.1.1 := f2.1
  have at0 : ∀ a, r.2.2.2.2.1.2.2.1 a b.1 = (bNode b 47 0 0 0).2.2.1 a b.1 := fun a => hF.2.2.1 a b.1 (Nat.lt_succ_self _) (by omega)
  have at1 : ∀ a, ¬ a = 6 → (bSet t.2.2.2.2.1 6 b.1 (hd t.2.2.2.1)).2.2.1 a b.1 = (bSet r.2.2.2.2.1 5 b.1 (nI r.2.2.2.1)).2.2.1 a b.1 := fun a ha => by
    rw [bSet_o (by omega)]; exact f2.2.2.1 a b.1 (show b.1 < r.2.2.2.2.1.1 by omega) (by omega)
  have f0 : Frm E.2.2.2.1 v b 0 (bSet t.2.2.2.2.1 6 b.1 (hd t.2.2.2.1)) := Frm_set8 (Nat.le_refl _) (Frm_tr (Frm_set8 (Nat.le_refl _) (Frm_tr (Frm_node (vv := v)) hF (Nat.le_refl _) (Or.inl rfl))) f2 hv (Or.inl rfl))
  refine ⟨X2, A2, C2, f0, s2, ⟨Nat.le_refl _, by show b.1 < t.2.2.2.2.1.1; omega, ?_⟩, by show _ < qF; omega, fun T' S hA hU hY hXS hSi hl => ?_⟩
  · show (bSet t.2.2.2.2.1 6 b.1 (hd t.2.2.2.1)).2.2.1 9 b.1 = -1
    rw [at1 9 (by decide), bSet_o (by omega), at0, n9]
  · have lt : b.1 < (bSet t.2.2.2.2.1 6 b.1 (hd t.2.2.2.1)).1 := by show b.1 < t.2.2.2.2.1.1; omega
    have g : ∀ a, 4 ≤ a → a ≤ 7 → T' a b.1 = (bSet t.2.2.2.2.1 6 b.1 (hd t.2.2.2.1)).2.2.1 a b.1 := fun a h4 h7 => hA.1 a b.1 h4 (by omega) (Nat.le_refl _) lt (by omega)
    have t4 : T' 4 b.1 = 47 := by rw [g 4 (by decide) (by decide), at1 4 (by decide), bSet_o (by omega), at0, n4]
    have t5 : T' 5 b.1 = nI r.2.2.2.1 := by rw [g 5 (by decide) (by decide), at1 5 (by decide), bSet_s]
    have t6 : T' 6 b.1 = hd y2 := by rw [g 6 (by decide) (by decide), bSet_s, u1]
    have hA1 : ∀ top, Agr T' E.2.2.2.1 t.2.1 t.2.2.2.2.1 (b.1 + 1) top := fun top => Agr_st (AgS_up hA (Nat.le_succ _) (Nat.lt_succ_self _)) (Nat.lt_succ_self _)
    have hA2 : Agr T' E.2.2.2.1 r.2.1 r.2.2.2.2.1 (b.1 + 1) r.2.2.2.1 := Agr_st (Agr_g (hA1 r.2.2.2.1) f2 hvt (by omega) (Nat.le_refl _) (Or.inl (by omega)) (Or.inl rfl)) (Nat.lt_succ_self _)
    obtain ⟨j1, j2⟩ := H2 T' S (Agr_up (hA1 0) l1) hU hY hXS (Or.inr ⟨b.1, d, v, rfl, rfl, hSi, by rw [if_neg (by rw [t4]; decide)]; omega, Or.inr (Or.inl t4)⟩) (fun _ => hlq_in (by omega) (Or.inl t4))
    refine ⟨j1, Kd_47 t4 ⟨?_, ?_⟩⟩
    · show Wx0 T' FN _ (T' 5 b.1)
      rw [t5]; exact Wx_of hO hK (by decide) (hP.2.2.2.2 T' hA2)
    · show BdE T' S _ d v b.1 (T' 6 b.1)
      rw [t6]
      rcases x2 with z | ⟨z1, z2, z3⟩
      · rw [z]; exact Or.inl rfl
      · have z1 : r.2.2.2.2.1.1 ≤ y2 := z1
        exact Or.inr ⟨y2, r.2.1, hd_1 (by omega), hXS _ _ _ z3, hv, j2 (by omega)⟩
/-- a for, from its block on -/
theorem RIn_f {E' : En} {cb : BT} {t : ST} {cv k q2 qF : Nat} (he : E'.2.2.2.1 = E.2.2.2.1) (hY : ∀ T' S A C, HyT GF T' S E MD A C → HyT GF T' S E' MD A C) (hb : 1 ≤ b.1) (hb2 : b.1 ≤ 70000) (hd19 : d ≤ 19) (hq : q ≤ q2) (hqF : t.1 < qF) (hcv : cv ≤ 60) (hvt : cv ≤ t.2.1) (hk : 1 ≤ k) (hvk : v + k ≤ cv) (hF : Frm E.2.2.2.1 v b 0 cb) (hlt : b.1 < cb.1) (c4 : cb.2.2.1 4 b.1 = 48) (c9 : cb.2.2.1 9 b.1 = -1) (hI : ∀ T', Agr T' E.2.2.2.1 cv cb (b.1 + 1) 0 → ItL T' FN (lcU E.2.2.2.1 T') (cnU E.2.2.2.1 T') k (cb.2.2.1 5 b.1)) (hC : ∀ T', Agr T' E.2.2.2.1 cv cb (b.1 + 1) 0 → (cb.2.2.1 6 b.1 = -1 ∨ Wx0 T' FN (lcU E.2.2.2.1 T') (cb.2.2.1 6 b.1))) (hB : RB0 FN GF MD E' (lp + 1) (d + 1) q2 cv (nI b.1) 0 0 cb s t) : RIn FN GF MD E lp d q v b s (qF, t.2.1, 0, b.1, bSet t.2.2.2.2.1 7 b.1 (hd t.2.2.2.1), t.2.2.2.2.2) := by
  obtain ⟨X2, y2, A2, C2, f2, s2, u1, _, g2, x2, H2⟩ := hB
  rw [he] at f2 H2
  rw [if_pos rfl] at u1
  have l2 := f2.1
  have at1 : ∀ a, ¬ a = 7 → (bSet t.2.2.2.2.1 7 b.1 (hd t.2.2.2.1)).2.2.1 a b.1 = cb.2.2.1 a b.1 := fun a ha => by
    rw [bSet_o (by omega)]; exact f2.2.2.1 a b.1 hlt (by omega)
  refine ⟨X2, A2, C2, Frm_set8 (Nat.le_refl _) (Frm_tr hF f2 (by omega) (Or.inl rfl)), s2, ⟨Nat.le_refl _, by show b.1 < t.2.2.2.2.1.1; omega, (at1 9 (by decide)).trans c9⟩, by show _ < qF; omega, fun T' S hA hU hYT hXS hSi hl => ?_⟩
  have lt : b.1 < (bSet t.2.2.2.2.1 7 b.1 (hd t.2.2.2.1)).1 := by show b.1 < t.2.2.2.2.1.1; omega
  have g : ∀ a, 4 ≤ a → a ≤ 7 → T' a b.1 = (bSet t.2.2.2.2.1 7 b.1 (hd t.2.2.2.1)).2.2.1 a b.1 := fun a h4 h7 => hA.1 a b.1 h4 (by omega) (Nat.le_refl _) lt (by omega)
  have t4 : T' 4 b.1 = 48 := by rw [g 4 (by decide) (by decide), at1 4 (by decide), c4]
  have t5 : T' 5 b.1 = cb.2.2.1 5 b.1 := by rw [g 5 (by decide) (by decide), at1 5 (by decide)]
  have t6 : T' 6 b.1 = cb.2.2.1 6 b.1 := by rw [g 6 (by decide) (by decide), at1 6 (by decide)]
  have t7 : T' 7 b.1 = hd y2 := by rw [g 7 (by decide) (by decide), bSet_s, u1]
  have hA1 : Agr T' E.2.2.2.1 t.2.1 t.2.2.2.2.1 (b.1 + 1) 0 := Agr_st (AgS_up hA (Nat.le_succ _) (Nat.lt_succ_self _)) (Nat.lt_succ_self _)
  have hA2 : Agr T' E.2.2.2.1 cv cb (b.1 + 1) 0 := Agr_g hA1 f2 hvt (by omega) (Nat.le_refl _) (Or.inl (by omega)) (Or.inl rfl)
  have i5 := hI T' hA2
  rw [← t5] at i5
  have ei : itn T' b.1 = k := chl_I k 61 _ (by omega) i5
  obtain ⟨j1, j2⟩ := H2 T' S (Agr_up hA1 hlt) hU (hY _ _ _ _ hYT) hXS (Or.inr ⟨b.1, d, v, rfl, rfl, hSi, by rw [if_pos t4, ei]; exact hvk, Or.inr (Or.inr t4)⟩) (fun _ => hlq_in (by omega) (Or.inr (Or.inl t4)))
  refine ⟨j1, Kd_48 t4 ⟨hd19, ?_⟩⟩
  show FoN T' FN S _ d v b.1
  unfold FoN
  rw [ei, t6, t7]
  refine ⟨hk, by omega, i5, hC T' hA2, ?_⟩
  rcases x2 with z | ⟨z1, z2, z3⟩
  · rw [z]; exact Or.inl rfl
  · exact Or.inr ⟨y2, cv, hd_1 (by omega), hXS _ _ _ z3, hvk, j2 (by omega)⟩
end IWF

section JnS462
/-! The class: what is to be seen behind an iter. -/
section CVU
variable {σ σ' σ0 τ τ' : CS} {L : LV} {b : Bool} {T : Nat → Int32} {n q q' u al o v mk p sz szB nc0 sz0 mk0 a1 a2 m kk f e t nc r0 c g : Nat} {y w : Int32} {l l' cs cs' : List Int32} {tb tb' es : List Ent} {ns : List Nm} {α : Type} {S : α → Int32 → CS → Prop} {x : Fl α} {C : Prop} {E E' : En} {gl : Nat × (Nat → Nat → Prop)} {Vm Vm' : Nat → Prop} {bt : BT} {hd : Bool}
theorem NmR_h (h : NmR E u gl Vm tb) (k : NsR u p true es ns) : NmR (rowN E ns) u gl Vm (tb ++ es) := by
  refine ⟨h.1, fun bs ok => ⟨fun i lk => ?_, fun lk => ?_⟩⟩
  · obtain ⟨l1, l2, l3⟩ := lk
    rw [List.length_append] at l1 l3
    rcases Nat.lt_or_ge i tb.length with z | z
    · rw [gE_l z] at l2 ⊢
      refine (h.2 bs ok).1 i ⟨z, l2, fun j j1 j2 w => l3 j j1 (by omega) ?_⟩
      rw [gE_l j2]; exact w
    · exfalso
      have e1 : i = tb.length + (i - tb.length) := by omega
      rw [e1, gE_r] at l2
      have z2 := k.1 (i - tb.length) (by omega)
      rw [z2] at l2
      exact absurd (show true = false from l2.2) (by decide)
  · refine (h.2 bs ok).2 (fun j j1 w => lk j (by rw [List.length_append]; omega) ?_)
    rw [gE_l j1]; exact w
theorem fd_in {bs : List Int32} (h : ∃ nm, nm ∈ ns ∧ nm.1 = bs) : (fd (seeN E ns) bs).1 = 1 := by
  have z := fs_m.2 h
  unfold fd
  rw [show (seeN E ns).2.1 = ns ++ E.2.1 from rfl]
  rw [List.find?_append]
  obtain ⟨y, hy⟩ := Option.isSome_iff_exists.1 z
  rw [hy]
  rfl
theorem fd_out {bs : List Int32} (h : ¬ ∃ nm, nm ∈ ns ∧ nm.1 = bs) : fd (seeN E ns) bs = fd E bs := by
  have z : ns.find? (fun x => decide (x.1 = bs)) = none := by
    cases hc : ns.find? (fun x => decide (x.1 = bs)) with
    | none => rfl
    | some y =>
      exfalso
      apply h
      apply fs_m.1
      rw [hc]
      rfl
  unfold fd
  rw [show (seeN E ns).2.1 = ns ++ E.2.1 from rfl]
  rw [List.find?_append, z, Option.none_or]
  rfl
/-- entries say the same with more to be seen -/
theorem EntR_m {a : Ent} {bs : List Int32} (h : EntR E u gl Vm a bs) (hf : fd E' bs = fd E bs) (he : E'.2.2.2 = E.2.2.2) (hV : ∀ i, Vm i → Vm' i) : EntR E' u gl Vm' a bs := by
  unfold EntR at *
  rw [hf, he]
  obtain ⟨h0, h1, h2, h3⟩ := h
  refine ⟨h0, fun z => ?_, fun z => ?_, h3⟩
  · obtain ⟨y1, y2, y3⟩ := h1 z
    exact ⟨y1, fun w => ⟨(y2 w).1, hV _ (y2 w).2⟩, y3⟩
  · obtain ⟨y1, y2, y3, y4⟩ := h2 z
    exact ⟨y1, y2, y3, hV _ y4⟩
theorem NmR_s (h : NmR E u gl Vm tb) (k : NsR u p false es ns) (hp : p + es.length ≤ 180) (hm : ∀ i, i < es.length → Vm' (bsl + 500000 + (p + i))) (hV : ∀ i, Vm i → Vm' i) (hu : u < 42) : NmR (rowN (seeN E ns) ns) u gl Vm' (tb ++ es) := by
  refine ⟨h.1, fun bs ok => ⟨fun i lk => ?_, fun lk => ?_⟩⟩
  · obtain ⟨l1, l2, l3⟩ := lk
    rw [List.length_append] at l1 l3
    rcases Nat.lt_or_ge i tb.length with z | z
    · rw [gE_l z] at l2 ⊢
      have no : ¬ ∃ nm, nm ∈ ns ∧ nm.1 = bs := fun w => by
        obtain ⟨j, j1, j2⟩ := (k.2 bs).1 w
        refine l3 (tb.length + j) (by omega) (by omega) ?_
        rw [gE_r]
        refine ⟨j2, ?_⟩
        have z2 := k.1 j j1
        rw [z2]
      have lk2 : LkI tb bs i := ⟨z, l2, fun j j1 j2 w => l3 j j1 (by omega) (by rw [gE_l j2]; exact w)⟩
      exact EntR_m ((h.2 bs ok).1 i lk2) (fd_out no) rfl hV
    · have e1 : i = tb.length + (i - tb.length) := by omega
      have z2 := k.1 (i - tb.length) (by omega)
      rw [e1, gE_r] at l2 ⊢
      have fi : (fd (rowN (seeN E ns) ns) bs).1 = 1 := fd_in ((k.2 bs).2 ⟨i - tb.length, by omega, l2.1⟩)
      unfold EntR
      rw [z2]
      exact ⟨⟨Nat.le_refl 3, hu⟩, fun z => absurd (show 3 = 0 from z) (by decide), fun _ => ⟨fi, rfl, by show p + (i - tb.length) < 180; omega, hm _ (by omega)⟩, fun z => absurd (show 3 = 1 from z) (by decide), fun z => absurd (show 3 = 2 from z) (by decide)⟩
  · have no : ¬ ∃ nm, nm ∈ ns ∧ nm.1 = bs := fun w => by
      obtain ⟨j, j1, j2⟩ := (k.2 bs).1 w
      refine lk (tb.length + j) (by rw [List.length_append]; omega) ?_
      rw [gE_r]
      refine ⟨j2, ?_⟩
      have z2 := k.1 j j1
      rw [z2]
    show (fd (seeN E ns) bs).1 = 0
    rw [fd_out no]
    refine (h.2 bs ok).2 (fun j j1 w => lk j (by rw [List.length_append]; omega) ?_)
    rw [gE_l j1]; exact w
/-- what an exp sees of its env -/
theorem EvX_e (h : EvX E b u al gl Vm tb σ) (h1 : E'.1 = E.1) (h2 : E'.2.1 = E.2.1) (h3 : E'.2.2.2 = E.2.2.2) : EvX E' b u al gl Vm tb σ := by
  have hf : ∀ bs, fd E' bs = fd E bs := fun bs => by unfold fd; rw [h1, h2, h3]
  obtain ⟨⟨n1, n2⟩, e2, e3, e4, e5⟩ := h
  refine ⟨⟨n1, fun bs ok => ⟨fun i lk => EntR_m ((n2 bs ok).1 i lk) (hf bs) h3 (fun _ z => z), fun lk => by rw [hf]; exact (n2 bs ok).2 lk⟩⟩, e2, e3, ?_, ?_⟩
  · rw [h3]; exact e4
  · rw [h3]; exact e5
theorem EvX_h (h : EvX E b u al gl Vm tb σ) (k : NsR u p true es ns) : EvX (rowN E ns) b u al gl Vm (tb ++ es) σ := ⟨NmR_h h.1 k, h.2⟩
theorem EvX_s (h : EvX E b u al gl Vm tb σ) (k : NsR u p false es ns) (hp : p + es.length ≤ 180) (hm : ∀ i, i < es.length → Vm' (bsl + 500000 + (p + i))) (hV : ∀ i, Vm i → Vm' i) : EvX (rowN (seeN E ns) ns) b u al gl Vm' (tb ++ es) σ := ⟨NmR_s h.1 k hp hm hV h.2.2.1.2, h.2⟩
/-- entries, to be seen -/
def seeE (es : List Ent) : List Ent := es.map (fun e => (e.1, e.2.1, e.2.2.1, e.2.2.2.1, false))
theorem seeE_l : (seeE es).length = es.length := List.length_map _
theorem seeE_g {i : Nat} (h : i < es.length) : (seeE es).getD i e0E = ((es.getD i e0E).1, (es.getD i e0E).2.1, (es.getD i e0E).2.2.1, (es.getD i e0E).2.2.2.1, false) := by
  unfold seeE
  rw [List.getD_eq_getElem?_getD, List.getElem?_map, List.getD_eq_getElem?_getD, List.getElem?_eq_getElem h]
  rfl
theorem NsR_see (k : NsR u p hd es ns) : NsR u p false (seeE es) ns := by
  refine ⟨fun i hi => ?_, fun bs => ?_⟩
  · rw [seeE_l] at hi
    rw [seeE_g hi, k.1 i hi]
  · rw [seeE_l]
    constructor
    · intro z
      obtain ⟨i, i1, i2⟩ := (k.2 bs).1 z
      exact ⟨i, i1, by rw [seeE_g i1]; exact i2⟩
    · rintro ⟨i, i1, i2⟩
      rw [seeE_g i1] at i2
      exact (k.2 bs).2 ⟨i, i1, i2⟩
/-- some of the newest are seen already -/
theorem see_set (tb es : List Ent) (i : Nat) (h : i < es.length) : (tb ++ (seeE (es.take i) ++ es.drop i)).set (tb.length + i) ((es.getD i e0E).1, (es.getD i e0E).2.1, (es.getD i e0E).2.2.1, (es.getD i e0E).2.2.2.1, false) = tb ++ (seeE (es.take (i + 1)) ++ es.drop (i + 1)) := by
  have lt : (seeE (es.take i)).length = i := by rw [seeE_l, List.length_take]; omega
  rw [List.set_append_right _ _ (Nat.le_add_right _ _), Nat.add_sub_cancel_left, List.set_append_right _ _ (by omega), lt, Nat.sub_self]
  have ed : es.drop i = es[i] :: es.drop (i + 1) := List.drop_eq_getElem_cons h
  have eg : es.getD i e0E = es[i] := by rw [List.getD_eq_getElem?_getD, List.getElem?_eq_getElem h]; rfl
  have et : es.take (i + 1) = es.take i ++ [es[i]] := (List.take_append_getElem h).symm
  rw [ed, eg, et]
  unfold seeE
  rw [List.map_append, List.append_assoc]
  rfl
theorem see_gd (tb es : List Ent) (i : Nat) (h : i < es.length) : (tb ++ (seeE (es.take i) ++ es.drop i)).getD (tb.length + i) e0E = es.getD i e0E := by
  have lt : (seeE (es.take i)).length = i := by rw [seeE_l, List.length_take]; omega
  rw [gE_r]
  have z := gE_r (a := seeE (es.take i)) (c := es.drop i) 0
  rw [lt, Nat.add_zero] at z
  rw [z, List.getD_eq_getElem?_getD, List.getElem?_drop, Nat.add_zero, List.getD_eq_getElem?_getD]
theorem n_ss (a i j : Nat) (h : a + i < 2147483648) (h2 : a + j < 2147483648) : nI (a + i) - nI (a + j) = nI i - nI j := by
  rw [← n_add h, ← n_add h2, Int32.sub_eq_add_neg, Int32.neg_add, Int32.sub_eq_add_neg, Int32.sub_eq_add_neg, Int32.add_comm (nI a) (nI i), Int32.add_assoc, ← Int32.add_assoc (nI a), Int32.add_right_neg, Int32.zero_add]
end CVU
end JnS462
section JnS463
/-! The class: iters of formers and quantifiers are read. -/
section CVV
variable {σ σ' σ0 τ τ' : CS} {L : LV} {b : Bool} {T : Nat → Int32} {n q q' u al o v mk p sz szB nc0 sz0 mk0 a1 a2 m kk f e t nc r0 c g : Nat} {y w : Int32} {l l' cs cs' : List Int32} {tb tb' es : List Ent} {ns : List Nm} {α : Type} {S : α → Int32 → CS → Prop} {C : Prop} {E E' : En} {gl : Nat × (Nat → Nat → Prop)} {Vm Vm' : Nat → Prop} {bt : BT} {hd : Bool}
theorem gb_id (x : RG) : gb x (fun r => some (Sum.inr r)) = x := by
  rcases x with _ | _ | x
  · rfl
  · rfl
  · rfl
/-- one iter, then the rest -/
def gIt (T : Nat → Int32) (n f : Nat) (E : En) (o i e c g : Nat) (z : RT) : RG := gW T n 46 z.1 (fun q2 => gb (G T n f 6 (rowN E z.2.2.2.2.2) o q2 z.2.1 0 0 0 0 z.2.2.2.2.1) (fun s =>
  if tkK T n s.1 = 12 then gT T n s.1 (fun q3 => gb (G T n f 17 (rowN (seeN E z.2.2.2.2.2) z.2.2.2.2.2) o q3 s.2.1 (if i = 0 then s.2.2.2.2.1.1 else i) s.2.2.2.2.1.1 c g (if i = 0 then bNode s.2.2.2.2.1 30 (if z.2.2.1 = 0 then 0 else 1) (nI z.2.2.2.1) (nI s.2.2.2.1) else bSet (bNode s.2.2.2.2.1 30 (if z.2.2.1 = 0 then 0 else 1) (nI z.2.2.2.1) (nI s.2.2.2.1)) 9 e (nI s.2.2.2.2.1.1))) (fun t => some (Sum.inr (t.1, t.2.1, 0, t.2.2.2.1, t.2.2.2.2.1, t.2.2.2.2.2 ++ z.2.2.2.2.2))))
  else some (Sum.inr (s.1, s.2.1, 0, (if i = 0 then s.2.2.2.2.1.1 else i), (if i = 0 then bNode s.2.2.2.2.1 30 (if z.2.2.1 = 0 then 0 else 1) (nI z.2.2.2.1) (nI s.2.2.2.1) else bSet (bNode s.2.2.2.2.1 30 (if z.2.2.1 = 0 then 0 else 1) (nI z.2.2.2.1) (nI s.2.2.2.1)) 9 e (nI s.2.2.2.2.1.1)), z.2.2.2.2.2))))
theorem G17_p {i : Nat} : G T n (f + 1) 17 E o q v i e c g bt = gb (gIn T n f E o c g q v bt) (gIt T n f E o i e c g) := by
  unfold gIn
  have e17 : G T n (f + 1) 17 E o q v i e c g bt = (if tkK T n q = 10 then gO o q (gT T n q (fun q1 => gN T n E c g q1 v bt (fun q2 v2 e2 b2 nm => gb (G T n f 18 (rowN E [nm]) (o + 1) q2 v2 0 e2 c g b2) (fun r => gW T n 11 r.1 (fun q3 => gIt T n f E o i e c g (q3, r.2.1, 1, e2, r.2.2.2.2.1, r.2.2.2.2.2 ++ [nm])))))) else gN T n E c g q v bt (fun q1 v1 e1 b1 nm => gIt T n f E o i e c g (q1, v1, 0, e1, b1, [nm]))) := rfl
  rw [e17]
  by_cases k10 : tkK T n q = 10
  · rw [if_pos k10, if_pos k10, gb_gO, gb_gT]
    simp only [gb_gN, gb_gb, gb_gW]
    rfl
  · rw [if_neg k10, if_neg k10, gb_gN]
    rfl
/-- behind the iters of a row -/
def ItR (T : Nat → Int32) (n : Nat) (b : Bool) (u al : Nat) (gl : Nat × (Nat → Nat → Prop)) (Vm : Nat → Prop) (tb : List Ent) (o mk p sz q v : Nat) (E : En) (r : RT) (τ : CS) : Prop := ∃ (es : List Ent) (cs : List Int32) (p' : Nat) (xm : List Nat) (e0 : Nat × Nat × List Nat) (nl : List (Nat × Nat × List Nat)), QS T n b u al (tb ++ es) o r.1 r.2.1 mk p' (sz + cs.length) τ ∧ (∀ i, i < cs.length → cdr b τ (sz + i) = cs.getD i 0) ∧ Row u p gl Vm p' xm (e0 :: nl) cs ∧ (∀ i, i = bsl + e0.2.1 ∨ i ∈ e0.2.2 → i ∈ xm) ∧ (τ.1 4014 = nI (sz + fstP (e0 :: nl)) ∧ τ.1 4015 = nI (sz + e0.1)) ∧ EvX (seeN E r.2.2.2.2.2) b u al gl (fun i => Vm i ∨ i ∈ xm) (tb ++ es) τ ∧ BdX n o r.1 r.2.1 mk p' (sz + cs.length) (tb ++ es).length ∧ 2 * cs.length ≤ 3 * (r.1 - q) ∧ q < r.1 ∧ v ≤ r.2.1
theorem st_store {k0 c0 : Nat} {f' : Nat → RS → Option RS} {x : Fl α} (h : Sy T n b u al σ0 nc0 sz0 mk0 a1 a2 tb o q v mk p szB cs τ) (h1 : L.1 1 = nI k0) (h2 : L.1 2 = nI c0) (h3 : L.1 3 = 0) (hc : c0 < 1000) (hm : szB + cs.length + 2 ≤ 36864) (cont : ∀ (τ' : CS) (ret : Int32) (m1 m2 : Nat), Sy T n b u al σ0 nc0 sz0 mk0 (a1 + m1) (a2 + m2) tb o q v mk p szB (cs ++ (if c0 = 0 then [em 66 (nI k0)] else [em 67 (nI k0), nI c0])) τ' → Tm (fun k => f' k ((0, ret), τ', (m1, m2))) (QPo b u nc0 sz0 mk0 x S σ0 (a1 + m1) (a2 + m2))) : Tm (fun k => ox (f_X5_iterStore k 0 L τ) (f' k)) (QPo b u nc0 sz0 mk0 x S σ0 a1 a2) := by
  have s0 := Sy_0 h.1.1
  have t : Tm (fun k => f_X5_iterStore k 0 L τ) (QPo b u tb.length (szB + cs.length) mk (Sum.inr ()) (fun _ _ τ' => QS T n b u al tb o q v mk p (szB + cs.length + (if c0 = 0 then [em 66 (nI k0)] else [em 67 (nI k0), nI c0]).length) τ' ∧ ∀ i, i < (if c0 = 0 then [em 66 (nI k0)] else [em 67 (nI k0), nI c0]).length → cdr b τ' (szB + cs.length + i) = (if c0 = 0 then [em 66 (nI k0)] else [em 67 (nI k0), nI c0]).getD i 0) τ 0 0) := by
    refine Tm_suc (fun k => by rw [f_X5_iterStore]) ?_
    rw [h2]
    by_cases z : c0 = 0
    · rw [if_pos z]
      refine Tm_yes (by rw [z]; rfl) ?_
      refine Tm_oP (Sy_pp s0) ?_
      refine Tm_yes h3 ?_
      refine Tm_suc (fun k => by rw [f_X5_iterStore]) ?_
      refine Tm_suc (fun k => by rw [f_X5_iterStore]) ?_
      refine st_emit (op := 66) s0 rfl rfl (by show szB + cs.length + 0 + 1 ≤ _; omega) (fun τ2 m1 m2 s2 => ?_)
      refine Tm_suc (fun k => by rw [f_X5_iterStore]) ?_
      have s2' : Sy T n b u al τ tb.length (szB + cs.length) mk (0 + m1) (0 + m2) tb o q v mk p (szB + cs.length) [em 66 (nI k0)] τ2 := by
        rw [← h1]; exact s2
      exact Tm_some (Qfin s2'.1 ⟨s2'.1.1, s2'.2⟩)
    · rw [if_neg z]
      refine Tm_no (by rw [n_eq0 (by omega)]; exact z) ?_
      refine Tm_suc (fun k => by rw [f_X5_iterStore]) ?_
      refine Tm_oP (Sy_pp s0) ?_
      refine Tm_yes h3 ?_
      refine Tm_suc (fun k => by rw [f_X5_iterStore]) ?_
      refine Tm_suc (fun k => by rw [f_X5_iterStore]) ?_
      refine st_emit (op := 67) s0 rfl rfl (by show szB + cs.length + 0 + 1 ≤ _; omega) (fun τ2 m1 m2 s2 => ?_)
      refine Tm_oP (Sy_pp s2) ?_
      refine st_word s2 rfl (by show szB + cs.length + 1 + 1 ≤ _; omega) (fun τ3 m3 m4 s3 => ?_)
      refine Tm_suc (fun k => by rw [f_X5_iterStore]) ?_
      have s3' : Sy T n b u al τ tb.length (szB + cs.length) mk (0 + m1 + m3) (0 + m2 + m4) tb o q v mk p (szB + cs.length) [em 67 (nI k0), nI c0] τ3 := by
        rw [← h1, ← h2]; exact s3
      exact Tm_some (Qfin s3'.1 ⟨s3'.1.1, s3'.2⟩)
  exact st_call (C := True) h.1 t (Or.inr ⟨(), rfl, trivial, fun τ' ret n1 n2 hq xk hc => cont τ' ret n1 n2 (Sy_ca h hq.1 xk hc hq.2 h.1.2.2.2.1 h.1.2.2.2.2.2)⟩)
end CVV
end JnS463
section JnS464
/-! The class: iters of formers and quantifiers are read. -/
section CVW
variable {σ σ' σ0 τ τ' : CS} {L : LV} {b : Bool} {T : Nat → Int32} {n q q' u al o v mk p sz szB nc0 sz0 mk0 a1 a2 m kk f e t nc r0 c g : Nat} {y w : Int32} {l l' cs cs' : List Int32} {tb tb' es : List Ent} {ns : List Nm} {α : Type} {S : α → Int32 → CS → Prop} {C : Prop} {E E' : En} {gl : Nat × (Nat → Nat → Prop)} {Vm Vm' : Nat → Prop} {bt : BT} {hd : Bool}
theorem it_0 (k d : Nat) (L : LV) (σ : CS) : f_F2 (k + 1) d 5 0 L σ = (oP (sPp σ) (fun b1 => f_F2 k d 5 1 (lI (lI (lI (lI (lI L 2 ((σ.1 (fP b1 11)))) 3 ((-1))) 4 ((-1))) 5 1) 6 0) σ)) := rfl
theorem it_1 (k d : Nat) (L : LV) (σ : CS) : f_F2 (k + 1) d 5 1 L σ = (if 32768 < ((L.1 6)) then (f_F2 k d 5 2 L σ) else (if ((L.1 5)) = 0 then (f_F2 k d 5 2 L σ) else (oP (sPp σ) (fun b3 => if ((L.1 1)) = 0 then (f_F2 k d 5 3 (lI L 7 ((σ.1 (fP b3 11)))) σ) else (oP (sPp σ) (fun b5 => if ¬ (((σ.1 4003)) < 0 ∨ 42 ≤ ((σ.1 4003)).toNatClampNeg) then (f_F2 k d 5 4 (lI (lI L 7 ((σ.1 (fP b3 11)))) 100 ((σ.2.2.1 (pR18 b5) ((σ.1 4003)).toNatClampNeg))) σ) else none)))))) := rfl
theorem it_2 (k d : Nat) (L : LV) (σ : CS) : f_F2 (k + 1) d 5 2 L σ = (some ((0, 0), (uI (uI σ 4014 ((L.1 3))) 4015 ((L.1 4))), (0, 0))) := rfl
theorem it_3 (k d : Nat) (L : LV) (σ : CS) : f_F2 (k + 1) d 5 3 L σ = (oP (sPp σ) (fun b1 => f_F2 k d 5 4 (lI L 100 ((σ.1 (fP b1 19)))) σ)) := rfl
theorem it_4 (k d : Nat) (L : LV) (σ : CS) : f_F2 (k + 1) d 5 4 L σ = (if ((σ.1 3702)) = 14 then (f_F2 k d 5 6 (lI (lI L 8 ((L.1 100))) 100 1) σ) else (f_F2 k d 5 5 (lI L 8 ((L.1 100))) σ)) := rfl
theorem it_5 (k d : Nat) (L : LV) (σ : CS) : f_F2 (k + 1) d 5 5 L σ = (f_F2 k d 5 6 (lI L 100 0) σ) := rfl
theorem it_6 (k d : Nat) (L : LV) (σ : CS) : f_F2 (k + 1) d 5 6 L σ = (ox (f_X5_iterNames k 0 (lI (lI (lI lZ 1 ((L.1 2))) 2 ((L.1 100))) 3 ((L.1 1))) σ) (fun r1 => oP (sPp r1.2.1) (fun b2 => ox (f_X5_expect k 0 (lI lZ 1 46) r1.2.1) (fun r3 => of d (fun e4 => ox (f_F2 k e4 1 0 (lI lZ 1 4) r3.2.1) (fun r4 => if ((L.1 1)) = 0 then (f_F2 k d 5 7 (lI (lI L 9 ((L.1 100))) 10 ((((r1.2.1.1 (fP b2 11))) - ((L.1 7))))) r4.2.1) else (oP (sPp r4.2.1) (fun b6 => op (y_X7_newSlots__P k 0 (lI (lI (lB lZ 0 b6) 1 ((r4.2.1.1 4003))) 2 2) r4.2.1) (fun r7 => f_F2 k d 5 8 (lI (lI (lI L 9 ((L.1 100))) 10 ((((r1.2.1.1 (fP b2 11))) - ((L.1 7))))) 100 r7.1) r7.2))))))))) := rfl
theorem it_7 (k d : Nat) (L : LV) (σ : CS) : f_F2 (k + 1) d 5 7 L σ = (oP (sPp σ) (fun b1 => op (y_X7_newPassing__P k 0 (lI (lB lZ 0 b1) 1 2) σ) (fun r2 => f_F2 k d 5 8 (lI L 100 r2.1) r2.2))) := rfl
theorem it_8 (k d : Nat) (L : LV) (σ : CS) : f_F2 (k + 1) d 5 8 L σ = (oP (sPp σ) (fun b1 => if ((L.1 1)) = 0 then (f_F2 k d 5 9 (lB (lI L 11 ((L.1 100))) 100 b1) σ) else (f_F2 k d 5 10 (lB (lI (lI L 11 ((L.1 100))) 100 69) 101 b1) σ))) := rfl
theorem it_9 (k d : Nat) (L : LV) (σ : CS) : f_F2 (k + 1) d 5 9 L σ = (f_F2 k d 5 10 (lB (lI L 100 64) 101 ((L.2.2.1 100))) σ) := rfl
theorem it_10 (k d : Nat) (L : LV) (σ : CS) : f_F2 (k + 1) d 5 10 L σ = (ox (f_X7_emit__P k 0 (lI (lI (lB lZ 0 ((L.2.2.1 101))) 1 ((L.1 100))) 2 ((L.1 11))) σ) (fun r1 => oP (sPp r1.2.1) (fun b2 => if ((L.1 1)) = 0 then (f_F2 k d 5 11 (lB L 100 b2) r1.2.1) else (f_F2 k d 5 12 (lB (lI L 100 70) 101 b2) r1.2.1)))) := rfl
theorem it_11 (k d : Nat) (L : LV) (σ : CS) : f_F2 (k + 1) d 5 11 L σ = (f_F2 k d 5 12 (lB (lI L 100 65) 101 ((L.2.2.1 100))) σ) := rfl
theorem it_12 (k d : Nat) (L : LV) (σ : CS) : f_F2 (k + 1) d 5 12 L σ = (ox (f_X7_emit__P k 0 (lI (lI (lB lZ 0 ((L.2.2.1 101))) 1 ((L.1 100))) 2 ((L.1 11))) σ) (fun r1 => oP (sPp r1.2.1) (fun b2 => ox (f_X7_word__P k 0 (lI (lB lZ 0 b2) 1 ((((L.1 4)) - r1.1.2))) r1.2.1) (fun r3 => if ((L.1 3)) = ((-1)) then (f_F2 k d 5 14 (lI (lI L 12 r1.1.2) 100 r1.1.2) r3.2.1) else (f_F2 k d 5 13 (lI L 12 r1.1.2) r3.2.1))))) := rfl
theorem it_13 (k d : Nat) (L : LV) (σ : CS) : f_F2 (k + 1) d 5 13 L σ = (f_F2 k d 5 14 (lI L 100 ((L.1 3))) σ) := rfl
theorem it_14 (k d : Nat) (L : LV) (σ : CS) : f_F2 (k + 1) d 5 14 L σ = (if ((L.1 9)) = 0 then (f_F2 k d 5 15 (lI (lI (lI L 3 ((L.1 100))) 4 ((L.1 12))) 100 ((L.1 8))) σ) else (f_F2 k d 5 16 (lI (lI (lI (lI L 3 ((L.1 100))) 4 ((L.1 12))) 100 ((L.1 10))) 101 ((L.1 8))) σ)) := rfl
theorem it_15 (k d : Nat) (L : LV) (σ : CS) : f_F2 (k + 1) d 5 15 L σ = (f_F2 k d 5 16 (lI (lI L 100 0) 101 ((L.1 100))) σ) := rfl
theorem it_16 (k d : Nat) (L : LV) (σ : CS) : f_F2 (k + 1) d 5 16 L σ = (ox (f_X5_iterStore k 0 (lI (lI (lI lZ 1 ((L.1 101))) 2 ((L.1 100))) 3 ((L.1 1))) σ) (fun r1 => f_F2 k d 5 17 (lI L 13 ((L.1 7))) r1.2.1)) := rfl
theorem it_17 (k d : Nat) (L : LV) (σ : CS) : f_F2 (k + 1) d 5 17 L σ = (oP (sPp σ) (fun b1 => if ((σ.1 (fP b1 11))) ≤ ((L.1 13)) then (f_F2 k d 5 18 L σ) else (oP (sPp σ) (fun b3 => if ¬ (((L.1 13)) < 0 ∨ 256 ≤ ((L.1 13)).toNatClampNeg) then (f_F2 k d 5 17 (lI L 13 ((((L.1 13)) + 1))) (uA σ (pR10 b3) ((L.1 13)).toNatClampNeg (vp_nar .boolean 0))) else none)))) := rfl
theorem it_18 (k d : Nat) (L : LV) (σ : CS) : f_F2 (k + 1) d 5 18 L σ = (if ((L.1 1)) = 0 then (f_F2 k d 5 19 L σ) else (ox (f_X5_mark k 0 (lI lZ 1 ((L.1 11))) σ) (fun r2 => ox (f_X5_mark k 0 (lI lZ 1 ((L.1 8))) r2.2.1) (fun r3 => ox (f_X5_mark k 0 (lI lZ 1 ((L.1 10))) r3.2.1) (fun r4 => f_F2 k d 5 19 L r4.2.1))))) := rfl
theorem it_19 (k d : Nat) (L : LV) (σ : CS) : f_F2 (k + 1) d 5 19 L σ = (if ((σ.1 3702)) = 16 then (f_F2 k d 5 21 (lI L 100 1) σ) else (f_F2 k d 5 20 L σ)) := rfl
theorem it_20 (k d : Nat) (L : LV) (σ : CS) : f_F2 (k + 1) d 5 20 L σ = (f_F2 k d 5 21 (lI L 100 0) σ) := rfl
theorem it_21 (k d : Nat) (L : LV) (σ : CS) : f_F2 (k + 1) d 5 21 L σ = (if ((L.1 100)) = 0 then (f_F2 k d 5 22 (lI L 5 ((L.1 100))) σ) else (ox (f_X2_advance k 0 lZ σ) (fun r2 => f_F2 k d 5 22 (lI L 5 ((L.1 100))) r2.2.1))) := rfl
theorem it_22 (k d : Nat) (L : LV) (σ : CS) : f_F2 (k + 1) d 5 22 L σ = (f_F2 k d 5 1 (lI L 6 ((((L.1 6)) + 1))) σ) := rfl
/-- the names of an iter are to be seen -/
theorem st_see {x : Fl α} (es : List Ent) (hl : (tb ++ es).length ≤ 256) (cont : ∀ (L' : LV) (τ' : CS), (∀ j, ¬ j = 13 → L'.1 j = L.1 j) → L'.2 = L.2 → Sy T n b u al σ0 nc0 sz0 mk0 a1 a2 (tb ++ seeE es) o q v mk p szB cs τ' → Tm (fun k => f_F2 k (e + 1) 5 18 L' τ') (QPo b u nc0 sz0 mk0 x S σ0 a1 a2)) (hnc : nc0 ≤ tb.length) : ∀ (d i : Nat) (L' : LV) (τ : CS), i + d = es.length → L'.1 13 = nI (tb.length + i) → (∀ j, ¬ j = 13 → L'.1 j = L.1 j) → L'.2 = L.2 → Sy T n b u al σ0 nc0 sz0 mk0 a1 a2 (tb ++ (seeE (es.take i) ++ es.drop i)) o q v mk p szB cs τ → Tm (fun k => f_F2 k (e + 1) 5 17 L' τ) (QPo b u nc0 sz0 mk0 x S σ0 a1 a2) := by
  intro d
  rw [List.length_append] at hl
  have lg : ∀ i, i ≤ es.length → (tb ++ (seeE (es.take i) ++ es.drop i)).length = tb.length + es.length := fun i hi => by
    rw [List.length_append, List.length_append, seeE_l, List.length_take, List.length_drop]
    omega
  induction d with
  | zero =>
    intro i L' τ hi l13 lj lL s1
    have e11 := s1.1.1.2.2.2.1.1
    rw [lg i (by omega)] at e11
    refine Tm_suc (fun k => it_17 k _ _ _) ?_
    refine Tm_oP (Sy_pp s1) ?_
    rw [e11, l13]
    refine Tm_yes (by rw [n_le (by omega) (by omega)]; omega) ?_
    have ei : i = es.length := by omega
    rw [ei, List.take_length, List.drop_length, List.append_nil] at s1
    exact cont L' τ lj lL s1
  | succ d ih =>
    intro i L' τ hi l13 lj lL s1
    have e11 := s1.1.1.2.2.2.1.1
    rw [lg i (by omega)] at e11
    refine Tm_suc (fun k => it_17 k _ _ _) ?_
    refine Tm_oP (Sy_pp s1) ?_
    rw [e11, l13]
    refine Tm_no (by rw [n_le (by omega) (by omega)]; omega) ?_
    refine Tm_oP (Sy_pp s1) ?_
    refine Tm_chk (u_in (by rw [u_n (by omega)]; omega) (by decide)) ?_
    rw [n_cl (p := tb.length + i) (by omega), show vp_nar .boolean 0 = (0 : Int32) from rfl]
    have ho := TbQ_hd (nc := tb.length) (e1 := es.getD i e0E) (hd := false) s1.1.1.2.2.2.1 (i := tb.length + i) (by rw [lg i (by omega)]; omega) (by omega) (see_gd tb es i (by omega))
    rw [see_set tb es i (by omega)] at ho
    have s2 := Sy_tb s1 ho hnc (by rw [lg (i + 1) (by omega)]; omega)
    refine ih (i + 1) _ _ (by omega) ?_ ?_ ?_ s2
    · show nI (tb.length + i) + 1 = _
      rw [n_add1]; rfl
    · intro j hj
      show upd L'.1 13 _ j = _
      rw [upd_other hj]
      exact lj j hj
    · exact lL
theorem RwL_l {xm : List Nat} {p' : Nat} {e0 : Nat × Nat × List Nat} {nl : List (Nat × Nat × List Nat)} : fstP (e0 :: nl) = if nl = [] then e0.1 else fstP nl := by
  cases nl with
  | nil => rfl
  | cons a l => rw [if_neg (by intro z; cases z)]; rfl
theorem c_iters {i0 e0 : Nat} {x : Fl RT} (px : ∀ f', f' ≤ f → PXp T n b u al f' e) (h : QS T n b u al tb o q v mk p sz σ) (ev : EvX E b u al gl Vm tb σ) (bd : BdX n o q v mk p sz tb.length) (l1 : L.1 1 = 0) (hG : G T n f 17 E o q v i0 e0 E.2.2.1.length g bt = some x) (hd : 6 * (20 - o) + 8 ≤ e) : Tm (fun k => f_F2 k (e + 1) 5 0 L σ) (QPo b u tb.length sz mk x (fun r _ τ => ItR T n b u al gl Vm tb o mk p sz q v E r τ) σ 0 0) := by
  have s0 := Sy_0 h
  have b22 := bd.2.1
  have n10 := bd.1
  have u42 : u < 42 := ev.2.2.1.2
  have p180 : p ≤ 180 := by
    have := bd.2.2.2.2
    have := h.2.2.2.2.2.2.1.2
    omega
  have evm : ∀ (E2 : En) (tb2 : List Ent) (Vm2 : Nat → Prop) (τ2 : CS), NmR E2 u gl Vm2 tb2 → E2.2.2.2 = E.2.2.2 → XK b u tb.length sz mk σ τ2 → EvX E2 b u al gl Vm2 tb2 τ2 := fun E2 tb2 Vm2 τ2 nm he xk => ⟨nm, PrR_k ev.2.1 xk, ev.2.2.1, by rw [he]; exact ev.2.2.2.1, by rw [he]; exact ev.2.2.2.2⟩
  have lp : ∀ (f1 : Nat), f1 ≤ f → ∀ (K : RT → RG) (acc : List Nm) (E1 : En) (L' : LV) (τ : CS) (a1 a2 q1 v1 p1 i1 e1 it : Nat) (bt1 : BT) (es : List Ent) (cs : List Int32) (xm : List Nat) (nl : List (Nat × Nat × List Nat)), gb (G T n f1 17 E1 o q1 v1 i1 e1 E.2.2.1.length g bt1) K = some x → (∀ r : RT, ∃ r' : RT, K r = some (Sum.inr r') ∧ r'.1 = r.1 ∧ r'.2.1 = r.2.1 ∧ r'.2.2.2.2.2 = r.2.2.2.2.2 ++ acc) → (E1.1 = E.1 ∧ E1.2.1 = acc ++ E.2.1 ∧ E1.2.2.2 = E.2.2.2) → Sy T n b u al σ tb.length sz mk a1 a2 (tb ++ es) o q1 v1 mk p1 sz cs τ → Row u p gl Vm p1 xm nl cs → (∀ fe nl', nl = fe :: nl' → (∀ i, i = bsl + fe.2.1 ∨ i ∈ fe.2.2 → i ∈ xm) ∧ L'.1 4 = nI (sz + fe.1)) → ((nl = [] → L'.1 3 = -1) ∧ (¬ nl = [] → L'.1 3 = nI (sz + fstP nl) ∧ fstP nl ≤ cs.length)) → NmR E1 u gl (fun i => Vm i ∨ i ∈ xm) (tb ++ es) → RwE E1 E.2.2.1.length (tb ++ es) tb.length → BdX n o q1 v1 mk p1 (sz + cs.length) (tb ++ es).length → 2 * cs.length ≤ 3 * (q1 - q) → q ≤ q1 → v ≤ v1 → it ≤ q1 → L'.1 1 = 0 → L'.1 2 = nI tb.length → L'.1 5 = 1 → L'.1 6 = nI it → Tm (fun k => f_F2 k (e + 1) 5 1 L' τ) (QPo b u tb.length sz mk x (fun r _ τ => ItR T n b u al gl Vm tb o mk p sz q v E r τ) σ a1 a2) := by
    intro f1
    induction f1 with
    | zero =>
      intro _ K acc E1 L' τ a1 a2 q1 v1 p1 i1 e1 it bt1 es cs xm nl hg
      exact absurd hg (by intro z; cases z)
    | succ f1 ih =>
      intro hf K acc E1 L' τ a1 a2 q1 v1 p1 i1 e1 it bt1 es cs xm nl hg hK hE s1 rw1 hn4 hn3 ev1 re1 bd1 ln lq lv li l1 l2 l5 l6
      rw [G17_p, gb_gb] at hg
      have go1 := tk_go s1.1.1
      have b22' := bd1.2.1
      have p3 := bd1.2.2.2.2
      have nt := bd1.2.2.2.1
      have v60 := s1.1.1.2.2.2.2.2.2.1.2
      have la : (tb ++ es).length = tb.length + es.length := List.length_append
      have e11 := s1.1.1.2.2.2.1.1
      have e19 := s1.1.1.2.2.2.2.2.2.2
      have t256 := s1.1.1.2.2.2.1.2.1
      -- from the names on
      have b6 : ∀ (L2 : LV), L2.1 1 = 0 → L2.1 2 = nI tb.length → L2.1 3 = L'.1 3 → L2.1 4 = L'.1 4 → L2.1 6 = nI it → L2.1 7 = nI (tb ++ es).length → L2.1 8 = nI p1 → ((tkK T n q1 = 10 → L2.1 100 = 1) ∧ (¬ tkK T n q1 = 10 → L2.1 100 = 0)) → Tm (fun k => f_F2 k (e + 1) 5 6 L2 τ) (QPo b u tb.length sz mk x (fun r _ τ => ItR T n b u al gl Vm tb o mk p sz q v E r τ) σ a1 a2) := by
        intro L2 m1 m2 m3 m4 m6 m7 m8 m100
        have gi : ∃ z, gIn T n f1 E1 o E.2.2.1.length g q1 v1 bt1 = some z := by
          rcases gb_any hg with ⟨yf, y1, y2⟩ | ⟨r4, y1, y2⟩
          · exact ⟨_, y1⟩
          · exact ⟨_, y1⟩
        obtain ⟨z, hz⟩ := gi
        refine Tm_suc (fun k => it_6 k _ _ _) ?_
        refine st_call (C := True) s1.1 (c_iterNames (r0 := tb.length) s1.1.1 u42 nt (by omega) m2 (by rw [la]; omega) m100 m1 re1 hz) ?_
        rcases gb_any hg with ⟨yf, y1, y2⟩ | ⟨zz, y1, y2⟩
        · rw [hz] at y1
          exact Or.inl ⟨_, Option.some.inj y1, y2⟩
        rw [hz] at y1
        refine Or.inr ⟨zz, Option.some.inj y1, trivial, fun τ2 ret2 n1 n2 hr xk2 hc2 => ?_⟩
        obtain ⟨es1, i1', i2, i3, i4, i5, i6⟩ := hr
        have s2 : Sy T n b u al σ tb.length sz mk (a1 + n1) (a2 + n2) (tb ++ es ++ es1) o zz.1 zz.2.1 mk (p1 + es1.length) sz cs τ2 := Sy_c0 s1 i2 xk2 hc2 (by rw [List.length_append, la]; omega) s1.1.2.2.2.2.2
        have lb : (tb ++ es ++ es1).length = tb.length + es.length + es1.length := by rw [List.length_append, la]
        have e112 := s2.1.1.2.2.2.1.1
        rw [lb] at e112
        have v602 := s2.1.1.2.2.2.2.2.2.1.2
        have t2562 := s2.1.1.2.2.2.1.2.1
        rw [lb] at t2562
        have gz := tk_go s2.1.1
        unfold gIt at y2
        rw [gb_gW] at y2
        refine Tm_oP (Sy_pp s2) ?_
        refine st_expect (kk := 46) s2 (by decide) rfl (gW_a3 y2) (fun τ3 ret3 n3 n4 c3 s3 => ?_)
        obtain ⟨k46, c3⟩ := c3
        have w2 := tk_wl (m := 2) s2.1.1 k46 (by decide) rfl
        have kn1 : zz.2.2.1 = 0 ∨ zz.2.2.1 = 1 := by
          rcases i6 with w | w
          · exact Or.inl w.1
          · exact Or.inr w.1
        refine Tm_d ?_
        have ev3 : EvX (rowN E1 zz.2.2.2.2.2) b u al gl (fun i => Vm i ∨ i ∈ xm) (tb ++ es ++ es1) τ3 := evm _ _ _ _ (NmR_h ev1 i3) hE.2.2 s3.1.2.1
        have bd3 : BdX n o (tkN T n zz.1) zz.2.1 mk (p1 + es1.length) (sz + cs.length) (tb ++ es ++ es1).length := by
          obtain ⟨d1, d2, d3, d4, d5⟩ := bd1
          rw [la] at d4
          exact ⟨d1, by omega, by omega, by rw [lb]; omega, by omega⟩
        have ec : τ2.1 (fP b 11) - L2.1 7 = nI es1.length := by
          rw [e112, m7, la, n_sub (by omega) (by omega)]
          exact congrArg nI (by omega)
        rw [gb_gb] at c3
        rcases gb_any c3 with ⟨yf, y5, y6⟩ | ⟨s, y5, y6⟩
        · exact st_exp (C := True) (px f1 (by omega)) (Or.inr ⟨rfl, rfl⟩) s3 ev3 bd3 rfl hd y5 (Or.inl ⟨_, rfl, y6⟩) (fun _ _ _ _ _ _ z => by cases z)
        refine st_exp (C := True) (px f1 (by omega)) (Or.inr ⟨rfl, rfl⟩) s3 ev3 bd3 rfl hd y5 (Or.inr ⟨s, rfl, trivial⟩) (fun τ4 ret4 n5 n6 s' l4 hz4 _ s4 xk4 sg4 ln4 lt4 lv4 tg4 => ?_)
        cases hz4
        have go4 := tk_go s4.1.1
        have v604 := s4.1.1.2.2.2.2.2.2.1.2
        have lc : (cs ++ l4).length = cs.length + l4.length := List.length_append
        generalize hcnt : es1.length = cnt at *
        -- behind the code of the iter, but for its names
        have b16 : ∀ (L5 : LV) (τ5 : CS) (a5 a6 c0 fx : Nat) (wd : Int32), L5.1 1 = 0 → L5.1 2 = nI tb.length → L5.1 3 = nI (sz + fx) → fx = (if nl = [] then cs.length + l4.length + 1 else fstP nl) → L5.1 4 = nI (sz + (cs.length + l4.length + 1)) → L5.1 6 = nI it → L5.1 7 = nI (tb ++ es).length → L5.1 100 = nI c0 → L5.1 101 = nI p1 → (c0 = 0 ∧ cnt = 1 ∨ c0 = cnt ∧ zz.2.2.1 = 1) → (∀ fe nl', nl = fe :: nl' → wd = nI fe.1 - nI (cs.length + l4.length + 1)) → Sy T n b u al σ tb.length sz mk a5 a6 (tb ++ es ++ es1) o s.1 s.2.1 mk (p1 + cnt + 2) sz (cs ++ (l4 ++ [em 64 (nI (p1 + cnt)), em 65 (nI (p1 + cnt)), wd])) τ5 → Tm (fun k => f_F2 k (e + 1) 5 16 L5 τ5) (QPo b u tb.length sz mk x (fun r _ τ => ItR T n b u al gl Vm tb o mk p sz q v E r τ) σ a5 a6) := by
          intro L5 τ5 a5 a6 c0 fx wd h1 h2 h3 hfx h4 h6 h7 h100 h101 hc0 hwd s5
          have lcs : (cs ++ (l4 ++ [em 64 (nI (p1 + cnt)), em 65 (nI (p1 + cnt)), wd])).length = cs.length + l4.length + 3 := by rw [List.length_append, List.length_append]; show cs.length + (l4.length + 3) = _; omega
          refine Tm_suc (fun k => it_16 k _ _ _) ?_
          refine st_store (k0 := p1) (c0 := c0) s5 h101 h100 h1 (by omega) (by rw [lcs]; omega) (fun τ6 ret6 n7 n8 s6 => ?_)
          have hlo : (if c0 = 0 then [em 66 (nI p1)] else [em 67 (nI p1), nI c0]).length ≤ 1 + zz.2.2.1 ∧ 1 ≤ (if c0 = 0 then [em 66 (nI p1)] else [em 67 (nI p1), nI c0]).length := by
            rcases hc0 with ⟨z1, z2⟩ | ⟨z1, z2⟩
            · rw [if_pos z1]; exact ⟨by show 1 ≤ _; omega, by show 1 ≤ 1; omega⟩
            · rw [if_neg (by omega)]; exact ⟨by show 2 ≤ _; omega, by show 1 ≤ 2; omega⟩
          have hnm : Nms p1 cnt (if c0 = 0 then [em 66 (nI p1)] else [em 67 (nI p1), nI c0]) := by
            refine ⟨by omega, ?_⟩
            rcases hc0 with ⟨z1, z2⟩ | ⟨z1, z2⟩
            · rw [if_pos z1]; exact Or.inl ⟨z2, rfl⟩
            · rw [if_neg (by omega), z1]; exact Or.inr rfl
          generalize (if c0 = 0 then [em 66 (nI p1)] else [em 67 (nI p1), nI c0]) = ins at *
          have eap : cs ++ (l4 ++ [em 64 (nI (p1 + cnt)), em 65 (nI (p1 + cnt)), wd]) ++ ins = cs ++ (l4 ++ (em 64 (nI (p1 + cnt)) :: em 65 (nI (p1 + cnt)) :: wd :: ins)) := by rw [List.append_assoc, List.append_assoc]; rfl
          rw [eap] at s6
          have lfull : (cs ++ (l4 ++ (em 64 (nI (p1 + cnt)) :: em 65 (nI (p1 + cnt)) :: wd :: ins))).length = cs.length + l4.length + 3 + ins.length := by rw [← eap, List.length_append, lcs]
          have row2 := Row_ad (wd := wd) rw1 (fun i z => z) sg4 (by omega) hnm (fun fe nl' z => ⟨hwd fe nl' z, (hn4 fe nl' z).1⟩)
          generalize hcs' : cs ++ (l4 ++ (em 64 (nI (p1 + cnt)) :: em 65 (nI (p1 + cnt)) :: wd :: ins)) = cs' at *
          generalize hxm' : nmL p1 cnt ++ (bsl + (p1 + cnt)) :: xm = xm' at *
          have hV : ∀ i, i ∈ xm → i ∈ xm' := fun i z => by rw [← hxm']; exact List.mem_append_right _ (List.mem_cons_of_mem _ z)
          have nms2 := NsR_see i3
          have ls1 : (seeE es1).length = cnt := by rw [seeE_l, hcnt]
          have nm2 : NmR (rowN (seeN E1 zz.2.2.2.2.2) zz.2.2.2.2.2) u gl (fun i => Vm i ∨ i ∈ xm') (tb ++ es ++ seeE es1) := by
            refine NmR_s ev1 nms2 (by rw [ls1]; omega) (fun i hi => ?_) (fun i z => z.imp id (hV i)) u42
            rw [ls1] at hi
            refine Or.inr ?_
            rw [← hxm']
            exact List.mem_append_left _ ((nmL_m cnt _).2 ⟨by omega, by omega⟩)
          have re2 : RwE (rowN (seeN E1 zz.2.2.2.2.2) zz.2.2.2.2.2) E.2.2.1.length (tb ++ es ++ seeE es1) tb.length := RwE_ns re1 (by rw [la]; omega) nms2
          have hE2 : (rowN (seeN E1 zz.2.2.2.2.2) zz.2.2.2.2.2).1 = E.1 ∧ (rowN (seeN E1 zz.2.2.2.2.2) zz.2.2.2.2.2).2.1 = (zz.2.2.2.2.2 ++ acc) ++ E.2.1 ∧ (rowN (seeN E1 zz.2.2.2.2.2) zz.2.2.2.2.2).2.2.2 = E.2.2.2 := by
            refine ⟨hE.1, ?_, hE.2.2⟩
            show zz.2.2.2.2.2 ++ E1.2.1 = _
            rw [hE.2.1, List.append_assoc]
          have lse : (tb ++ es ++ seeE es1).length = tb.length + es.length + cnt := by rw [List.length_append, la, ls1]
          have eas : tb ++ es ++ seeE es1 = tb ++ (es ++ seeE es1) := List.append_assoc _ _ _
          have bd2 : BdX n o s.1 s.2.1 mk (p1 + cnt + 2) (sz + cs'.length) (tb ++ es ++ seeE es1).length := by
            obtain ⟨d1, d2, d3, d4, d5⟩ := bd1
            rw [la] at d4
            exact ⟨d1, by rw [lfull]; omega, by omega, by rw [lse]; omega, by omega⟩
          have fl : fstP ((cs.length + l4.length + 1, p1 + cnt, xm) :: nl) = fx := by rw [hfx]; exact RwL_l (xm := []) (p' := 0)
          have fxl : fx ≤ cs'.length := by
            rw [hfx, lfull]
            by_cases z : nl = []
            · rw [if_pos z]; omega
            · rw [if_neg z]
              have := (hn3.2 z).2
              omega
          refine st_see (tb := tb ++ es) (L := lI L5 13 (L5.1 7)) es1 (by rw [lb]; omega) (fun L7 τ7 k1 k2 s7 => ?_) (by rw [la]; omega) es1.length 0 _ τ6 (by omega) (by show L5.1 7 = _; rw [h7]; rfl) (fun _ _ => rfl) rfl s6
          have g1' : L7.1 1 = 0 := by rw [k1 1 (by decide)]; exact h1
          refine Tm_suc (fun k => it_18 k _ _ _) ?_
          refine Tm_yes g1' ?_
          refine Tm_suc (fun k => it_19 k _ _ _) ?_
          by_cases k12 : tkK T n s.1 = 12
          · rw [if_pos k12, gb_gT] at y6
            simp only [gb_gb] at y6
            refine Tm_yes ((lx_k (kk := 12) s7.1.1 (by decide)).2 k12) ?_
            refine Tm_suc (fun k => it_21 k _ _ _) ?_
            refine Tm_no (by show ¬ (1 : Int32) = 0; decide) ?_
            refine st_advY s7 (gT_any y6) (fun τ8 r8 er c8 s8 => ?_)
            rw [er]
            refine Tm_suc (fun k => it_22 k _ _ _) ?_
            have g8 := go4.2.2 (by omega)
            rw [eas] at s8 nm2 re2 bd2
            refine ih (by omega) _ (zz.2.2.2.2.2 ++ acc) _ _ τ8 _ _ (tkN T n s.1) s.2.1 (p1 + cnt + 2) _ _ (it + 1) _ (es ++ seeE es1) cs' xm' _ c8 (fun r => ?_) hE2 s8 row2 (fun fe nl' z => ?_) ⟨fun z => (by cases z), fun _ => ⟨?_, by rw [fl]; exact fxl⟩⟩ nm2 re2 (BdX_g bd2 (by omega) go4.2.1 (Nat.le_refl _) (Nat.le_refl _) (by omega)) (by rw [lfull]; omega) (by omega) (by omega) (by omega) ?_ ?_ rfl ?_
            · obtain ⟨r', e1', e2', e3', e4'⟩ := hK (r.1, r.2.1, 0, r.2.2.2.1, r.2.2.2.2.1, r.2.2.2.2.2 ++ zz.2.2.2.2.2)
              exact ⟨r', e1', e2', e3', by rw [e4', List.append_assoc]⟩
            · cases z
              refine ⟨fun i hi => ?_, ?_⟩
              · rcases hi with hi | hi
                · rw [hi, ← hxm']
                  exact List.mem_append_right _ List.mem_cons_self
                · exact hV i hi
              · show L7.1 4 = _
                rw [k1 4 (by decide)]; exact h4
            · show L7.1 3 = _
              rw [k1 3 (by decide), fl]; exact h3
            · show L7.1 1 = _
              exact g1'
            · show L7.1 2 = _
              rw [k1 2 (by decide)]; exact h2
            · show L7.1 6 + 1 = _
              rw [k1 6 (by decide)]
              show L5.1 6 + 1 = _
              rw [h6, n_add1]
          · rw [if_neg k12] at y6
            obtain ⟨r', e1', e2', e3', e4'⟩ := hK (s.1, s.2.1, 0, (if i1 = 0 then s.2.2.2.2.1.1 else i1), (if i1 = 0 then bNode s.2.2.2.2.1 30 (if zz.2.2.1 = 0 then 0 else 1) (nI zz.2.2.2.1) (nI s.2.2.2.1) else bSet (bNode s.2.2.2.2.1 30 (if zz.2.2.1 = 0 then 0 else 1) (nI zz.2.2.2.1) (nI s.2.2.2.1)) 9 e1 (nI s.2.2.2.2.1.1)), zz.2.2.2.2.2)
            have hx : x = Sum.inr r' := by
              have y7 : K (s.1, s.2.1, 0, (if i1 = 0 then s.2.2.2.2.1.1 else i1), (if i1 = 0 then bNode s.2.2.2.2.1 30 (if zz.2.2.1 = 0 then 0 else 1) (nI zz.2.2.2.1) (nI s.2.2.2.1) else bSet (bNode s.2.2.2.2.1 30 (if zz.2.2.1 = 0 then 0 else 1) (nI zz.2.2.2.1) (nI s.2.2.2.1)) 9 e1 (nI s.2.2.2.2.1.1)), zz.2.2.2.2.2) = some x := y6
              rw [e1'] at y7
              exact (Option.some.inj y7).symm
            refine Tm_no (fun z => k12 ((lx_k (kk := 12) s7.1.1 (by decide)).1 z)) ?_
            refine Tm_suc (fun k => it_20 k _ _ _) ?_
            refine Tm_suc (fun k => it_21 k _ _ _) ?_
            refine Tm_yes rfl ?_
            refine Tm_suc (fun k => it_22 k _ _ _) ?_
            refine Tm_suc (fun k => it_1 k _ _ _) ?_
            refine Tm_no (by show ¬ nI 32768 < L7.1 6 + 1; rw [k1 6 (by decide)]; show ¬ nI 32768 < L5.1 6 + 1; rw [h6, n_add1, n_lt (by decide) (by omega)]; omega) ?_
            refine Tm_yes rfl ?_
            refine Tm_suc (fun k => it_2 k _ _ _) ?_
            have e31 : L7.1 3 = nI (sz + fx) := by rw [k1 3 (by decide)]; exact h3
            have e41 : L7.1 4 = nI (sz + (cs.length + l4.length + 1)) := by rw [k1 4 (by decide)]; exact h4
            have fc := fP_c b 19
            have s9 : Sy T n b u al σ tb.length sz mk (a5 + n7) (a6 + n8) (tb ++ es ++ seeE es1) o s.1 s.2.1 mk (p1 + cnt + 2) sz cs' (uI (uI τ7 4014 (L7.1 3)) 4015 (L7.1 4)) := by
              refine ⟨Sx_f s7.1 (fun j hj => by rw [uI_o (by omega), uI_o (by omega)]) rfl (by rw [uI_o (by decide), uI_o (by decide)]; exact s7.1.1.2.2.2.2.2.1.1) s7.1.1.2.2.2.2.2.1.2 (by rw [uI_o (by decide), uI_o (by decide)]; exact s7.1.1.2.2.1.1) (Nat.le_refl _) s7.1.2.2.2.2.2 (by rw [uI_o (by omega), uI_o (by omega)]; exact s7.1.1.2.2.2.2.2.2.2), s7.2⟩
            rw [hx]
            rw [eas] at s9 nm2 bd2
            have ev9 : EvX (seeN E r'.2.2.2.2.2) b u al gl (fun i => Vm i ∨ i ∈ xm') (tb ++ (es ++ seeE es1)) (uI (uI τ7 4014 (L7.1 3)) 4015 (L7.1 4)) := by
              refine EvX_e (evm _ _ _ _ nm2 hE2.2.2 s9.1.2.1) hE2.1.symm ?_ hE2.2.2.symm
              rw [hE2.2.1, e4']
              rfl
            refine Tm_some (Qfin s9.1 ⟨es ++ seeE es1, cs', p1 + cnt + 2, xm', _, nl, by rw [e2', e3']; exact s9.1.1, s9.2, row2, fun i hi => ?_, ⟨?_, ?_⟩, ev9, by rw [e2', e3']; exact bd2, ?_, ?_, ?_⟩)
            · rcases hi with hi | hi
              · rw [hi, ← hxm']
                exact List.mem_append_right _ List.mem_cons_self
              · exact hV i hi
            · rw [uI_o (by decide), uI_s, fl]; exact e31
            · rw [uI_s]; exact e41
            · rw [e2', lfull]
              show 2 * (cs.length + l4.length + 3 + ins.length) ≤ 3 * (s.1 - q)
              omega
            · rw [e2']; show q < s.1; omega
            · rw [e3']; show v ≤ s.2.1; omega
        refine Tm_yes m1 ?_
        refine Tm_suc (fun k => it_7 k _ _ _) ?_
        refine Tm_oP (Sy_pp s4) ?_
        refine Tm_op (c_newPassing (k0 := 2) s4 (by omega) rfl rfl) (fun r7 z7 => ?_)
        obtain ⟨er7, s7⟩ := z7
        refine Tm_suc (fun k => it_8 k _ _ _) ?_
        refine Tm_oP (Sy_pp s7) ?_
        refine Tm_yes m1 ?_
        refine Tm_suc (fun k => it_9 k _ _ _) ?_
        refine Tm_suc (fun k => it_10 k _ _ _) ?_
        refine st_emit (op := 64) s7 rfl rfl (by rw [lc]; omega) (fun τ8 x1 x2 s8 => ?_)
        refine Tm_oP (Sy_pp s8) ?_
        refine Tm_yes m1 ?_
        refine Tm_suc (fun k => it_11 k _ _ _) ?_
        refine Tm_suc (fun k => it_12 k _ _ _) ?_
        have ld : ∀ w : Int32, (cs ++ l4 ++ [em 64 w]).length = cs.length + l4.length + 1 := fun w => by rw [List.length_append, lc]; rfl
        refine st_emit (op := 65) s8 rfl rfl (by rw [ld]; omega) (fun τ9 x3 x4 s9 => ?_)
        refine Tm_oP (Sy_pp s9) ?_
        have le' : ∀ w w' : Int32, (cs ++ l4 ++ [em 64 w] ++ [em 65 w']).length = cs.length + l4.length + 2 := fun w w' => by rw [List.length_append, ld]; rfl
        refine st_word s9 rfl (by rw [le']; omega) (fun τ10 x5 x6 s10 => ?_)
        have s10' : Sy T n b u al σ tb.length sz mk (a1 + n1 + n3 + n5 + x1 + x3 + x5) (a2 + n2 + n4 + n6 + x2 + x4 + x6) (tb ++ es ++ es1) o s.1 s.2.1 mk (p1 + cnt + 2) sz (cs ++ (l4 ++ [em 64 (nI (p1 + cnt)), em 65 (nI (p1 + cnt)), L2.1 4 - nI (sz + (cs.length + l4.length + 1))])) τ10 := by
          have e1' : cs ++ (l4 ++ [em 64 (nI (p1 + cnt)), em 65 (nI (p1 + cnt)), L2.1 4 - nI (sz + (cs.length + l4.length + 1))]) = cs ++ l4 ++ [em 64 (nI (p1 + cnt))] ++ [em 65 (nI (p1 + cnt))] ++ [L2.1 4 - nI (sz + (cs.length + l4.length + 1))] := by simp only [List.append_assoc]; rfl
          rw [e1', ← er7]
          have e2' := ld r7.1
          have s10'' : Sy T n b u al σ tb.length sz mk (a1 + n1 + n3 + n5 + x1 + x3 + x5) (a2 + n2 + n4 + n6 + x2 + x4 + x6) (tb ++ es ++ es1) o s.1 s.2.1 mk (p1 + cnt + 2) sz (cs ++ l4 ++ [em 64 r7.1] ++ [em 65 r7.1] ++ [L2.1 4 - nI (sz + (cs ++ l4 ++ [em 64 r7.1]).length)]) τ10 := s10
          rw [e2'] at s10''
          exact s10''
        have nxe : nI (sz + (cs ++ l4 ++ [em 64 r7.1]).length) = nI (sz + (cs.length + l4.length + 1)) := by rw [ld]
        have hwd : ∀ fe nl', nl = fe :: nl' → L2.1 4 - nI (sz + (cs.length + l4.length + 1)) = nI fe.1 - nI (cs.length + l4.length + 1) := fun fe nl' z => by
          have z2 := RwL_le nl rw1.2.2.2.1 fe (by rw [z]; exact List.mem_cons_self)
          rw [m4, (hn4 fe nl' z).2]
          exact n_ss sz fe.1 (cs.length + l4.length + 1) (by omega) (by omega)
        -- which is first
        have b14 : ∀ (L6 : LV) (fx : Nat), L6.1 1 = 0 → L6.1 2 = nI tb.length → L6.1 6 = nI it → L6.1 7 = nI (tb ++ es).length → L6.1 8 = nI p1 → L6.1 9 = L2.1 100 → L6.1 10 = nI cnt → L6.1 12 = nI (sz + (cs.length + l4.length + 1)) → L6.1 100 = nI (sz + fx) → fx = (if nl = [] then cs.length + l4.length + 1 else fstP nl) → Tm (fun k => f_F2 k (e + 1) 5 14 L6 τ10) (QPo b u tb.length sz mk x (fun r _ τ => ItR T n b u al gl Vm tb o mk p sz q v E r τ) σ (a1 + n1 + n3 + n5 + x1 + x3 + x5) (a2 + n2 + n4 + n6 + x2 + x4 + x6)) := by
          intro L6 fx h1 h2 h6 h7 h8 h9 h10 h12 h100 hfx
          refine Tm_suc (fun k => it_14 k _ _ _) ?_
          rw [h9]
          rcases i6 with ⟨z1, z2, z3⟩ | ⟨z1, z2⟩
          · refine Tm_yes (m100.2 z3) ?_
            refine Tm_suc (fun k => it_15 k _ _ _) ?_
            exact b16 _ τ10 _ _ 0 fx _ h1 h2 h100 hfx h12 h6 h7 rfl h8 (Or.inl ⟨rfl, z2⟩) hwd s10'
          · refine Tm_no (by rw [m100.1 z2]; decide) ?_
            exact b16 _ τ10 _ _ cnt fx _ h1 h2 h100 hfx h12 h6 h7 h10 h8 (Or.inr ⟨rfl, z1⟩) hwd s10'
        by_cases nln : nl = []
        · refine Tm_yes (by show L2.1 3 = -1; rw [m3]; exact hn3.1 nln) ?_
          refine b14 _ (cs.length + l4.length + 1) m1 m2 m6 m7 m8 rfl ec nxe nxe ?_
          rw [if_pos nln]
        · obtain ⟨h31, h32⟩ := hn3.2 nln
          refine Tm_no ?_ ?_
          · show ¬ L2.1 3 = -1
            rw [m3, h31]
            intro z
            have z' := congrArg uN z
            rw [u_n (by omega)] at z'
            have : uN (-1 : Int32) = 4294967295 := by decide
            omega
          · refine Tm_suc (fun k => it_13 k _ _ _) ?_
            refine b14 _ (fstP nl) m1 m2 m6 m7 m8 rfl ec nxe (by show L2.1 3 = _; rw [m3]; exact h31) ?_
            rw [if_neg nln]
      refine Tm_suc (fun k => it_1 k _ _ _) ?_
      refine Tm_no (by rw [l6]; show ¬ nI 32768 < nI it; rw [n_lt (by decide) (by omega)]; omega) ?_
      refine Tm_no (by rw [l5]; decide) ?_
      refine Tm_oP (Sy_pp s1) ?_
      refine Tm_yes l1 ?_
      refine Tm_suc (fun k => it_3 k _ _ _) ?_
      refine Tm_oP (Sy_pp s1) ?_
      refine Tm_suc (fun k => it_4 k _ _ _) ?_
      by_cases k10 : tkK T n q1 = 10
      · refine Tm_yes ((lx_k (kk := 10) s1.1.1 (by decide)).2 k10) ?_
        exact b6 _ l1 l2 rfl rfl l6 e11 e19 ⟨fun _ => rfl, fun z => absurd k10 z⟩
      · refine Tm_no (fun z => k10 ((lx_k (kk := 10) s1.1.1 (by decide)).1 z)) ?_
        refine Tm_suc (fun k => it_5 k _ _ _) ?_
        exact b6 _ l1 l2 rfl rfl l6 e11 e19 ⟨fun z => absurd z k10, fun _ => rfl⟩
  refine Tm_suc (fun k => it_0 k _ _ _) ?_
  refine Tm_oP (Sy_pp s0) ?_
  have s0' : Sy T n b u al σ tb.length sz mk 0 0 (tb ++ []) o q v mk p sz [] σ := by rw [List.append_nil]; exact s0
  refine lp f (Nat.le_refl _) (fun r => some (Sum.inr r)) [] E _ σ 0 0 q v p i0 e0 0 bt [] [] [] [] (by rw [gb_id]; exact hG) (fun r => ⟨r, rfl, rfl, rfl, by rw [List.append_nil]⟩) ⟨rfl, rfl, rfl⟩ s0' (Row_0 p180) (fun fe nl' z => by cases z) ⟨fun _ => rfl, fun z => absurd rfl z⟩ ?_ ?_ ?_ (by show 2 * 0 ≤ _; omega) (Nat.le_refl _) (Nat.le_refl _) (Nat.zero_le _) l1 s0.1.1.2.2.2.1.1 rfl rfl
  · rw [List.append_nil]
    exact ⟨ev.1.1, fun bs ok => ⟨fun i lk => EntR_m ((ev.1.2 bs ok).1 i lk) rfl rfl (fun i z => Or.inl z), (ev.1.2 bs ok).2⟩⟩
  · rw [List.append_nil]
    refine ⟨Nat.le_refl _, fun bs => ⟨fun z => ?_, fun z => ?_⟩⟩
    · obtain ⟨nm, z1, z2⟩ := z
      rw [Nat.sub_self, List.take_zero] at z1
      cases z1
    · obtain ⟨j, z1, z2, z3⟩ := z
      omega
  · rw [List.append_nil]
    exact bd
end CVW
end JnS464
section JnS465
/-! The class: formers are read. -/
section CVX
variable {σ σ' σ0 τ τ' : CS} {L : LV} {b : Bool} {T : Nat → Int32} {n q q' u al o v mk p sz szB nc0 sz0 mk0 a1 a2 m kk f e t nc r0 c g : Nat} {y w : Int32} {l l' cs cs' : List Int32} {tb tb' es : List Ent} {ns : List Nm} {α : Type} {S : α → Int32 → CS → Prop} {C : Prop} {E E' : En} {gl : Nat × (Nat → Nat → Prop)} {Vm Vm' : Nat → Prop} {bt : BT}
theorem EvX_at {sz' mk' : Nat} (h : EvX E' b u al gl Vm' tb' τ) (h0 : EvX E b u al gl Vm tb σ) (x : XK b u nc sz' mk' σ τ') : EvX E' b u al gl Vm' tb' τ' := ⟨h.1, PrR_k h0.2.1 x, h.2.2⟩
theorem set_last (cs : List Int32) (x w : Int32) : (cs ++ [x]).set cs.length w = cs ++ [w] := by
  rw [List.set_append_right _ _ (Nat.le_refl _), Nat.sub_self]; rfl
/-- the newest instruction is aimed -/
theorem c_aimL {op : Nat} {x : Int32} (s : Sy T n b u al σ0 nc0 sz0 mk0 a1 a2 tb o q v mk p szB (cs ++ [em op x]) τ) (hs : sz0 ≤ szB) (ho : op < 256) (hb : L.2.2.1 0 = b) (h1 : L.1 1 = nI (szB + cs.length)) : Tm (fun k => y_X7_aim__P k 0 L τ) (fun r => Sy T n b u al σ0 nc0 sz0 mk0 a1 a2 tb o q v mk p szB (cs ++ [em op (L.1 2 - L.1 1)]) r.2) := by
  have z := c_aim (h := cs.length) s hs (by rw [List.length_append]; show cs.length < cs.length + 1; omega) ho (gd_r (a := cs) (b := [em op x]) 0) hb h1
  refine Tm_mono z (fun r w => ?_)
  rw [set_last] at w
  exact w
theorem st_clear {p0 : Nat} {f' : Nat → RS → Option RS} {x : Fl α} (h : Sy T n b u al σ0 nc0 sz0 mk0 a1 a2 tb o q v mk p szB cs τ) (h1 : L.1 1 = nI p0) (hp : p0 ≤ p ∧ p ≤ 1000) (hm : szB + cs.length + 2 ≤ 36864) (cont : ∀ (τ' : CS) (ret : Int32) (m1 m2 : Nat), Sy T n b u al σ0 nc0 sz0 mk0 (a1 + m1) (a2 + m2) tb o q v mk p0 szB (cs ++ [em 68 (nI p0), nI (p - p0)]) τ' → Tm (fun k => f' k ((0, ret), τ', (m1, m2))) (QPo b u nc0 sz0 mk0 x S σ0 (a1 + m1) (a2 + m2))) : Tm (fun k => ox (f_X5_clear k 0 L τ) (f' k)) (QPo b u nc0 sz0 mk0 x S σ0 a1 a2) := by
  have s0 := Sy_0 h.1.1
  have t : Tm (fun k => f_X5_clear k 0 L τ) (QPo b u tb.length (szB + cs.length) mk (Sum.inr ()) (fun _ _ τ' => QS T n b u al tb o q v mk p0 (szB + cs.length + [em 68 (nI p0), nI (p - p0)].length) τ' ∧ ∀ i, i < [em 68 (nI p0), nI (p - p0)].length → cdr b τ' (szB + cs.length + i) = [em 68 (nI p0), nI (p - p0)].getD i 0) τ 0 0) := by
    refine Tm_suc (fun k => by rw [f_X5_clear]) ?_
    refine Tm_oP (Sy_pp s0) ?_
    refine st_emit (op := 68) s0 rfl rfl (by show szB + cs.length + 0 + 1 ≤ _; omega) (fun τ2 m1 m2 s2 => ?_)
    refine Tm_oP (Sy_pp s2) (Tm_oP (Sy_pp s2) ?_)
    refine st_word s2 rfl (by show szB + cs.length + 1 + 1 ≤ _; omega) (fun τ3 m3 m4 s3 => ?_)
    refine Tm_oP (Sy_pp s3) ?_
    have e19 : τ2.1 (fP b 19) = nI p := s2.1.1.2.2.2.2.2.2.2
    have ew : τ2.1 (fP b 19) - L.1 1 = nI (p - p0) := by rw [e19, h1, n_sub (by omega) hp.1]
    have s3' : Sy T n b u al τ tb.length (szB + cs.length) mk (0 + m1 + m3) (0 + m2 + m4) tb o q v mk p (szB + cs.length) [em 68 (nI p0), nI (p - p0)] τ3 := by
      rw [← ew, ← h1]; exact s3
    rw [h1]
    have s4 := Sy_p (p' := p0) s3'
    exact Tm_some (Qfin s4.1 ⟨s4.1.1, s4.2⟩)
  exact st_call (C := True) h.1 t (Or.inr ⟨(), rfl, trivial, fun τ' ret n1 n2 hq xk hc => cont τ' ret n1 n2 (Sy_ca h hq.1 xk hc hq.2 h.1.2.2.2.1 h.1.2.2.2.2.2)⟩)
/-- a former, but for its bracket -/
def gFm (T : Nat → Int32) (n f : Nat) (E : En) (o q v tu : Nat) (b : BT) : RG := gT T n q (fun q2 => gb (G T n f 17 E o q2 v 0 0 E.2.2.1.length 0 b) (fun r =>
  if tkK T n r.1 = 15 then gT T n r.1 (fun q3 => gb (G T n f 0 (seeN E r.2.2.2.2.2) o q3 r.2.1 0 0 0 0 r.2.2.2.2.1) (fun s => gW T n 14 s.1 (fun q4 => gb (G T n f 0 (seeN E r.2.2.2.2.2) o q4 s.2.1 0 0 0 0 s.2.2.2.2.1) (fun t => some (Sum.inr (t.1, t.2.1, 0, t.2.2.2.2.1.1, bWrap t.2.2.2.2.1 13 (if tu = 8 then 1 else 0) (hd r.2.2.2.1) (nI s.2.2.2.1) (nI t.2.2.2.1), []))))))
  else gW T n 14 r.1 (fun q4 => gb (G T n f 0 (seeN E r.2.2.2.2.2) o q4 r.2.1 0 0 0 0 r.2.2.2.2.1) (fun t => some (Sum.inr (t.1, t.2.1, 0, t.2.2.2.2.1.1, bWrap t.2.2.2.2.1 13 (if tu = 8 then 1 else 0) (hd r.2.2.2.1) (-1) (nI t.2.2.2.1), []))))))
/-- behind what lies within brackets: a former, a span, members -/
def FmR (T : Nat → Int32) (n : Nat) (b : Bool) (u al : Nat) (gl : Nat × (Nat → Nat → Prop)) (Vm : Nat → Prop) (tb : List Ent) (o mk p sz q v : Nat) (r : RT) (τ : CS) : Prop := ∃ cs : List Int32, QS T n b u al tb o r.1 r.2.1 mk p (sz + cs.length) τ ∧ (∀ i, i < cs.length → cdr b τ (sz + i) = cs.getD i 0) ∧ Sgm u p gl Vm 1 cs ∧ 2 * cs.length ≤ 3 * (r.1 - q) + 1 ∧ q < r.1 ∧ v ≤ r.2.1
theorem fm_0 (k d : Nat) (L : LV) (σ : CS) : f_F2 (k + 1) d 3 0 L σ = (ox (f_X2_advance k 0 lZ σ) (fun r1 => oP (sPp r1.2.1) (fun b2 => oP (sPp r1.2.1) (fun b3 => oP (sPp r1.2.1) (fun b4 => ox (f_X7_emit__P k 0 (lI (lI (lB lZ 0 b4) 1 80) 2 0) r1.2.1) (fun r5 => of d (fun e6 => ox (f_F2 k e6 5 0 (lI lZ 1 0) r5.2.1) (fun r6 => if ((r6.2.1.1 3702)) = 19 then (ox (f_X2_advance k 0 lZ r6.2.1) (fun r8 => of d (fun e9 => ox (f_F2 k e9 1 0 (lI lZ 1 0) r8.2.1) (fun r9 => oP (sPp r9.2.1) (fun b10 => oP (sPp r9.2.1) (fun b11 => ox (f_X7_emit__P k 0 (lI (lI (lB lZ 0 b11) 1 4) 2 0) r9.2.1) (fun r12 => op (y_X7_aim__P k 0 (lI (lI (lB lZ 0 b10) 1 r12.1.2) 2 ((r6.2.1.1 4015))) r12.2.1) (fun r13 => f_F2 k d 3 1 (lI (lI (lI (lI L 2 ((r1.2.1.1 (fP b2 11)))) 3 ((r1.2.1.1 (fP b3 19)))) 4 ((r6.2.1.1 4014))) 5 ((r6.2.1.1 4015))) r13.2)))))))) else (f_F2 k d 3 1 (lI (lI (lI (lI L 2 ((r1.2.1.1 (fP b2 11)))) 3 ((r1.2.1.1 (fP b3 19)))) 4 ((r6.2.1.1 4014))) 5 ((r6.2.1.1 4015))) r6.2.1))))))))) := rfl
theorem fm_1 (k d : Nat) (L : LV) (σ : CS) : f_F2 (k + 1) d 3 1 L σ = (ox (f_X5_expect k 0 (lI lZ 1 18) σ) (fun r1 => of d (fun e2 => ox (f_F2 k e2 1 0 (lI lZ 1 0) r1.2.1) (fun r2 => oP (sPp r2.2.1) (fun b3 => ox (f_X7_emit__P k 0 (lI (lI (lB lZ 0 b3) 1 ((81 + ((L.1 1))))) 2 0) r2.2.1) (fun r4 => oP (sPp r4.2.1) (fun b5 => oP (sPp r4.2.1) (fun b6 => ox (f_X7_emit__P k 0 (lI (lI (lB lZ 0 b6) 1 3) 2 0) r4.2.1) (fun r7 => op (y_X7_aim__P k 0 (lI (lI (lB lZ 0 b5) 1 r7.1.2) 2 ((L.1 5))) r7.2.1) (fun r8 => oP (sPp r8.2) (fun b9 => oP (sPp r8.2) (fun b10 => if ¬ (((((L.1 4)) + 1)) < 0 ∨ (sN r8.2 (pR0 ((sKd r8.2 b9)))) ≤ ((((L.1 4)) + 1)).toNatClampNeg) then (ox (f_X5_clear k 0 (lI lZ 1 ((L.1 3))) (uA r8.2 (pR0 ((sKd r8.2 b9))) ((((L.1 4)) + 1)).toNatClampNeg ((((r8.2.1 (fP b10 1))) - ((L.1 4)))))) (fun r12 => oP (sPp r12.2.1) (fun b13 => ox (f_X7_emit__P k 0 (lI (lI (lB lZ 0 b13) 1 ((83 + ((L.1 1))))) 2 0) r12.2.1) (fun r14 => oP (sPp r14.2.1) (fun b15 => some ((0, 0), (uI r14.2.1 (fP b15 11) ((L.1 2))), (0, 0))))))) else none)))))))))))) := rfl
theorem c_former {tt tu : Nat} {x : Fl RT} (ht : tt = 0 ∨ tt = 1) (h1 : L.1 1 = nI tt) (px : ∀ f', f' ≤ f → ∀ e', PXp T n b u al f' e') (h : QS T n b u al tb o q v mk p sz σ) (ev : EvX E b u al gl Vm tb σ) (bd : BdX n o q v mk p sz tb.length) (hk : tkK T n q = 45) (hG : gFm T n f E o q v tu bt = some x) (hd0 : 6 * (20 - o) + 8 ≤ e) : Tm (fun k => f_F2 k (e + 2) 3 0 L σ) (QPo b u tb.length sz mk x (fun r _ τ => FmR T n b u al gl Vm tb o mk p sz q v r τ) σ 0 0) := by
  have s0 := Sy_0 h
  have go := tk_go h
  have b22 := bd.2.1
  have n10 := bd.1
  have w3 := tk_wl (m := 3) h hk (by decide) rfl
  unfold gFm at hG
  refine Tm_suc (fun k => fm_0 k _ _ _) ?_
  refine st_advY s0 (gT_any hG) (fun τ1 r1 er c1 s1 => ?_)
  rw [er]
  have e11 : τ1.1 (fP b 11) = nI tb.length := s1.1.1.2.2.2.1.1
  have e19 : τ1.1 (fP b 19) = nI p := s1.1.1.2.2.2.2.2.2.2
  refine Tm_oP (Sy_pp s1) (Tm_oP (Sy_pp s1) (Tm_oP (Sy_pp s1) ?_))
  refine st_emit (op := 80) s1 rfl rfl (by show sz + 0 + 1 ≤ _; omega) (fun τ2 m1 m2 s2 => ?_)
  have s2' : Sy T n b u al σ tb.length sz mk (0 + m1) (0 + m2) tb o (tkN T n q) v mk p sz [em 80 0] τ2 := s2
  refine Tm_d ?_
  have bd2 : BdX n o (tkN T n q) v mk p (sz + 1) tb.length := BdX_g bd (by omega) go.2.1 (Nat.le_refl _) (Nat.le_refl _) (by omega)
  have gi : ∃ z, G T n f 17 E o (tkN T n q) v 0 0 E.2.2.1.length 0 bt = some z := by
    rcases gb_any c1 with ⟨yf, y1, y2⟩ | ⟨r4, y1, y2⟩
    · exact ⟨_, y1⟩
    · exact ⟨_, y1⟩
  obtain ⟨z, hz⟩ := gi
  refine st_call (C := True) s2'.1 (c_iters (fun f' hf' => px f' hf' e) s2'.1.1 (EvX_k ev s2'.1.2.1) bd2 rfl hz hd0) ?_
  rcases gb_any c1 with ⟨yf, y1, y2⟩ | ⟨r, y1, y2⟩
  · rw [hz] at y1
    exact Or.inl ⟨_, Option.some.inj y1, y2⟩
  rw [hz] at y1
  refine Or.inr ⟨r, Option.some.inj y1, trivial, fun τ3 ret3 m3 m4 hr xk3 hc3 => ?_⟩
  obtain ⟨es, cs, p', xm, e0, nl, i1, i2, row, hs, ⟨i4, i5⟩, ev3, bd3, ln3, lt3, lv3⟩ := hr
  have s3 : Sy T n b u al σ tb.length sz mk (0 + m1 + m3) (0 + m2 + m4) (tb ++ es) o r.1 r.2.1 mk p' sz (em 80 0 :: cs) τ3 := Sy_ca s2' i1 xk3 hc3 i2 (by rw [List.length_append]; omega) s2'.1.2.2.2.2.2
  have go3 := tk_go s3.1.1
  have bd3' : BdX n o r.1 r.2.1 mk p' (sz + 1 + cs.length) (tb ++ es).length := bd3
  have fl : fstP (e0 :: nl) + 2 ≤ cs.length := by
    obtain ⟨e1, e2, e3⟩ := fst_m (nl := e0 :: nl) (by show 1 ≤ nl.length + 1; omega)
    have := RwL_le _ row.2.2.2.1 e1 e2
    omega
  have el0 : e0.1 + 2 ≤ cs.length := RwL_le _ row.2.2.2.1 e0 List.mem_cons_self
  have pp := row.1
  -- from the colon on
  have b1 : ∀ (L' : LV) (τ : CS) (a1 a2 q1 v1 : Nat) (bt1 : BT) (bt2 : RT → BT) (ca : List Int32), L'.1 1 = nI tt → L'.1 2 = nI tb.length → L'.1 3 = nI p → L'.1 4 = nI (sz + 1 + fstP (e0 :: nl)) → L'.1 5 = nI (sz + 1 + e0.1) → gW T n 14 q1 (fun q4 => gb (G T n f 0 (seeN E r.2.2.2.2.2) o q4 v1 0 0 0 0 bt1) (fun t => some (Sum.inr (t.1, t.2.1, 0, t.2.2.2.2.1.1, bt2 t, [])))) = some x → Sy T n b u al σ tb.length sz mk a1 a2 (tb ++ es) o q1 v1 mk p' sz (em 80 0 :: ca) τ → RwB u p gl Vm p' xm (e0 :: nl) 0 ca → cs.length ≤ ca.length → r.1 ≤ q1 → r.2.1 ≤ v1 → 2 * ca.length ≤ 3 * (q1 - tkN T n q) → Tm (fun k => f_F2 k (e + 2) 3 1 L' τ) (QPo b u tb.length sz mk x (fun r _ τ => FmR T n b u al gl Vm tb o mk p sz q v r τ) σ a1 a2) := by
    intro L' τ a1 a2 q1 v1 bt1 bt2 ca l1 l2 l3 l4 l5 hg s4 rb lca lq lv ln
    have go4 := tk_go s4.1.1
    refine Tm_suc (fun k => fm_1 k _ _ _) ?_
    refine st_expect (kk := 14) s4 (by decide) rfl (gW_a3 hg) (fun τ5 ret5 n1 n2 c5 s5 => ?_)
    obtain ⟨k14, c5⟩ := c5
    have g5 := go4.2.2 (by omega)
    refine Tm_d ?_
    have ev5 := EvX_at ev3 ev s5.1.2.1
    have bd5 : BdX n o (tkN T n q1) v1 mk p' (sz + (em 80 0 :: ca).length) (tb ++ es).length := by
      obtain ⟨d1, d2, d3, d4, d5⟩ := bd3'
      exact ⟨d1, by show 2 * (sz + (ca.length + 1)) + _ + 100 ≤ _; omega, by omega, by omega, by omega⟩
    rcases gb_any c5 with ⟨yf, y5, y6⟩ | ⟨s, y5, y6⟩
    · exact st_exp (C := True) (px f (Nat.le_refl _) (e + 1)) (Or.inl ⟨rfl, rfl⟩) s5 ev5 bd5 rfl (by omega) y5 (Or.inl ⟨_, rfl, y6⟩) (fun _ _ _ _ _ _ z => by cases z)
    refine st_exp (C := True) (px f (Nat.le_refl _) (e + 1)) (Or.inl ⟨rfl, rfl⟩) s5 ev5 bd5 rfl (by omega) y5 (Or.inr ⟨s, rfl, trivial⟩) (fun τ6 ret6 n3 n4 s' l6 hz6 _ s6 xk6 sg6 ln6 lt6 lv6 tg6 => ?_)
    cases hz6
    have q6n := (tk_go s6.1.1).1
    have s6' : Sy T n b u al σ tb.length sz mk (a1 + n1 + n3) (a2 + n2 + n4) (tb ++ es) o s.1 s.2.1 mk p' sz (em 80 0 :: (ca ++ l6)) τ6 := s6
    have rb1 : RwB u p gl Vm p' xm (e0 :: nl) 1 (ca ++ l6) := RwB_sg rb (fun _ z => z) sg6
    have lcb : (ca ++ l6).length = ca.length + l6.length := List.length_append
    have fin := Sgm_fr (g := 81 + tt) (f := 83 + tt) (t := 1 - tt) (by
      rcases ht with z | z
      · rw [z]; exact Or.inl ⟨rfl, rfl, rfl⟩
      · rw [z]; exact Or.inr ⟨rfl, rfl, rfl⟩) rb1 hs
    generalize hcb : ca ++ l6 = cb at *
    have w1 : ∀ w : Int32, (em 80 0 :: cb ++ [em (81 + tt) w]).length = cb.length + 2 := fun w => by rw [List.length_append]; rfl
    refine Tm_oP (Sy_pp s6') ?_
    refine st_emit (op := 81 + tt) s6' rfl (by show nI 81 + L'.1 1 = _; rw [l1]; exact tt_a ht 81 (by decide)) (by show sz + (cb.length + 1) + 1 ≤ _; omega) (fun τ7 x1 x2 s7 => ?_)
    refine Tm_oP (Sy_pp s7) (Tm_oP (Sy_pp s7) ?_)
    refine st_emit (op := 3) s7 rfl rfl (by rw [w1]; omega) (fun τ8 x3 x4 s8 => ?_)
    refine Tm_op (c_aimL (op := 3) s8 (Nat.le_refl _) (by decide) rfl rfl) (fun r9 s9 => ?_)
    have ej : L'.1 5 - nI (sz + (em 80 0 :: cb ++ [em (81 + tt) 0]).length) = nI e0.1 - nI (cb.length + 1) := by
      rw [l5, w1, show sz + (cb.length + 2) = sz + 1 + (cb.length + 1) by omega]
      exact n_ss (sz + 1) e0.1 (cb.length + 1) (by omega) (by omega)
    have s9' : Sy T n b u al σ tb.length sz mk (a1 + n1 + n3 + x1 + x3) (a2 + n2 + n4 + x2 + x4) (tb ++ es) o s.1 s.2.1 mk p' sz (em 80 0 :: (cb ++ [em (81 + tt) 0, em 3 (nI e0.1 - nI (cb.length + 1))])) r9.2 := by
      have e1 : em 80 0 :: (cb ++ [em (81 + tt) 0, em 3 (nI e0.1 - nI (cb.length + 1))]) = em 80 0 :: cb ++ [em (81 + tt) 0] ++ [em 3 (L'.1 5 - nI (sz + (em 80 0 :: cb ++ [em (81 + tt) 0]).length))] := by
        rw [ej, List.append_assoc]; rfl
      rw [e1]; exact s9
    have lx : (em 80 0 :: (cb ++ [em (81 + tt) 0, em 3 (nI e0.1 - nI (cb.length + 1))])).length = cb.length + 3 := by rw [List.length_cons, List.length_append]; rfl
    refine Tm_oP (Sy_pp s9') (Tm_oP (Sy_pp s9') ?_)
    have e1s : r9.2.1 (fP b 1) = nI (sz + (cb.length + 3)) := by
      have := s9'.1.1.2.1.1
      rw [lx] at this
      exact this
    have cn36 := cdn_b s9'.1.1
    have cle := s9'.1.1.2.1.2.1
    rw [lx] at cle
    have ix : L'.1 4 + 1 = nI (sz + (fstP (e0 :: nl) + 2)) := by rw [l4, n_add1]; exact congrArg nI (by omega)
    have ev' : r9.2.1 (fP b 1) - L'.1 4 = nI (cb.length + 2 - fstP (e0 :: nl)) := by
      rw [e1s, l4, n_sub (by omega) (by omega)]
      exact congrArg nI (by omega)
    rw [ix, ev']
    refine Tm_chk (u_in (n := cdn b r9.2) (by rw [u_n (by omega)]; omega) (by omega)) ?_
    rw [n_cl (p := sz + (fstP (e0 :: nl) + 2)) (by omega)]
    have s10 := Sy_set s9' (Nat.le_refl _) (h := fstP (e0 :: nl) + 2) (by rw [lx]; omega) (nI (cb.length + 2 - fstP (e0 :: nl)))
    have es1 : (em 80 0 :: (cb ++ [em (81 + tt) 0, em 3 (nI e0.1 - nI (cb.length + 1))])).set (fstP (e0 :: nl) + 2) (nI (cb.length + 2 - fstP (e0 :: nl))) = em 80 0 :: (cb.set (fstP (e0 :: nl) + 1) (nI (cb.length + 2 - fstP (e0 :: nl))) ++ [em (81 + tt) 0, em 3 (nI e0.1 - nI (cb.length + 1))]) := by
      show em 80 0 :: (cb ++ [em (81 + tt) 0, em 3 (nI e0.1 - nI (cb.length + 1))]).set (fstP (e0 :: nl) + 1) _ = _
      rw [List.set_append_left _ _ (by omega)]
    rw [es1] at s10
    have ly : (em 80 0 :: (cb.set (fstP (e0 :: nl) + 1) (nI (cb.length + 2 - fstP (e0 :: nl))) ++ [em (81 + tt) 0, em 3 (nI e0.1 - nI (cb.length + 1))])).length = cb.length + 3 := by rw [List.length_cons, List.length_append, List.length_set]; rfl
    have hv3 := s10.1.1.2.2.2.2.2.2.1.2
    refine st_clear (p0 := p) s10 l3 ⟨pp.1, by omega⟩ (by rw [ly]; omega) (fun τ11 ret11 x5 x6 s11 => ?_)
    refine Tm_oP (Sy_pp s11) ?_
    have lz : (em 80 0 :: (cb.set (fstP (e0 :: nl) + 1) (nI (cb.length + 2 - fstP (e0 :: nl))) ++ [em (81 + tt) 0, em 3 (nI e0.1 - nI (cb.length + 1))]) ++ [em 68 (nI p), nI (p' - p)]).length = cb.length + 5 := by rw [List.length_append, ly]; rfl
    refine st_emit (op := 83 + tt) s11 rfl (by show nI 83 + L'.1 1 = _; rw [l1]; exact tt_a ht 83 (by decide)) (by rw [lz]; omega) (fun τ12 x7 x8 s12 => ?_)
    refine Tm_oP (Sy_pp s12) ?_
    rw [l2]
    have s13 := Sy_tb s12 (TbQ_tk s12.1.1.2.2.2.1) (Nat.le_refl _) (Nat.le_refl _)
    have ef : em 80 0 :: (cb.set (fstP (e0 :: nl) + 1) (nI (cb.length + 2 - fstP (e0 :: nl))) ++ [em (81 + tt) 0, em 3 (nI e0.1 - nI (cb.length + 1))]) ++ [em 68 (nI p), nI (p' - p)] ++ [em (83 + tt) 0] = em 80 0 :: (cb.set (fstP (e0 :: nl) + 1) (nI (cb.length + 2 - fstP (e0 :: nl))) ++ [em (81 + tt) 0, em 3 (nI e0.1 - nI (cb.length + 1)), em 68 (nI p), nI (p' - p), em (83 + tt) 0]) := by
      show em 80 0 :: (((cb.set _ _ ++ _) ++ _) ++ _) = _
      rw [List.append_assoc, List.append_assoc]; rfl
    rw [← ef] at fin
    rw [← Option.some.inj y6]
    have lw : ∀ w : Int32, (em 80 0 :: (cb.set (fstP (e0 :: nl) + 1) (nI (cb.length + 2 - fstP (e0 :: nl))) ++ [em (81 + tt) 0, em 3 (nI e0.1 - nI (cb.length + 1))]) ++ [em 68 (nI p), nI (p' - p)] ++ [em (83 + tt) w]).length = cb.length + 6 := fun w => by rw [List.length_append, lz]; rfl
    refine Tm_some (Qfin s13.1 ⟨_, s13.1.1, s13.2, fin, ?_, ?_, ?_⟩)
    · rw [lw]
      show 2 * (cb.length + 6) ≤ 3 * (s.1 - q) + 1
      omega
    · show q < s.1
      omega
    · show v ≤ s.2.1
      omega
  by_cases k15 : tkK T n r.1 = 15
  · rw [if_pos k15] at y2
    have g3 := go3.2.2 (by omega)
    refine Tm_yes ((lx_k (kk := 15) s3.1.1 (by decide)).2 k15) ?_
    refine st_advY s3 (gT_any y2) (fun τ4 r4 er4 c4 s4 => ?_)
    rw [er4]
    refine Tm_d ?_
    have ev4 := EvX_at ev3 ev s4.1.2.1
    have bd4 : BdX n o (tkN T n r.1) r.2.1 mk p' (sz + (em 80 0 :: cs).length) (tb ++ es).length := by
      obtain ⟨d1, d2, d3, d4, d5⟩ := bd3'
      exact ⟨d1, by show 2 * (sz + (cs.length + 1)) + _ + 100 ≤ _; omega, by omega, by omega, by omega⟩
    rcases gb_any c4 with ⟨yf, y5, y6⟩ | ⟨s, y5, y6⟩
    · exact st_exp (C := True) (px f (Nat.le_refl _) (e + 1)) (Or.inl ⟨rfl, rfl⟩) s4 ev4 bd4 rfl (by omega) y5 (Or.inl ⟨_, rfl, y6⟩) (fun _ _ _ _ _ _ z => by cases z)
    refine st_exp (C := True) (px f (Nat.le_refl _) (e + 1)) (Or.inl ⟨rfl, rfl⟩) s4 ev4 bd4 rfl (by omega) y5 (Or.inr ⟨s, rfl, trivial⟩) (fun τ6 ret6 n3 n4 s' l6 hz6 _ s6 xk6 sg6 ln6 lt6 lv6 tg6 => ?_)
    cases hz6
    have q6n := (tk_go s6.1.1).1
    have s6' : Sy T n b u al σ tb.length sz mk (0 + m1 + m3 + n3) (0 + m2 + m4 + n4) (tb ++ es) o s.1 s.2.1 mk p' sz (em 80 0 :: (cs ++ l6)) τ6 := s6
    have lcb : (cs ++ l6).length = cs.length + l6.length := List.length_append
    refine Tm_oP (Sy_pp s6') (Tm_oP (Sy_pp s6') ?_)
    refine st_emit (op := 4) s6' rfl rfl (by show sz + ((cs ++ l6).length + 1) + 1 ≤ _; omega) (fun τ7 x1 x2 s7 => ?_)
    refine Tm_op (c_aimL (op := 4) s7 (Nat.le_refl _) (by decide) rfl rfl) (fun r9 s9 => ?_)
    have ej : τ3.1 4015 - nI (sz + (em 80 0 :: (cs ++ l6)).length) = nI e0.1 - nI (cs ++ l6).length := by
      show τ3.1 4015 - nI (sz + ((cs ++ l6).length + 1)) = _
      rw [i5, show sz + ((cs ++ l6).length + 1) = sz + 1 + (cs ++ l6).length by omega]
      exact n_ss (sz + 1) e0.1 (cs ++ l6).length (by omega) (by omega)
    have s9' : Sy T n b u al σ tb.length sz mk (0 + m1 + m3 + n3 + x1) (0 + m2 + m4 + n4 + x2) (tb ++ es) o s.1 s.2.1 mk p' sz (em 80 0 :: (cs ++ l6 ++ [em 4 (nI e0.1 - nI (cs ++ l6).length)])) r9.2 := by
      rw [← ej]; exact s9
    have rb := RwB_jb (op := 4) (RwB_sg (RwB_0 row) (fun _ z => z) sg6) (Or.inl rfl) hs
    have lcd : (cs ++ l6 ++ [em 4 (nI e0.1 - nI (cs ++ l6).length)]).length = cs.length + l6.length + 1 := by rw [List.length_append, lcb]; rfl
    exact b1 _ r9.2 _ _ s.1 s.2.1 _ _ _ h1 e11 e19 i4 i5 y6 s9' rb (by rw [lcd]; omega) (by omega) (by omega) (by rw [lcd]; omega)
  · rw [if_neg k15] at y2
    refine Tm_no (fun z => k15 ((lx_k (kk := 15) s3.1.1 (by decide)).1 z)) ?_
    exact b1 _ τ3 _ _ r.1 r.2.1 _ _ cs h1 e11 e19 i4 i5 y2 s3 (RwB_0 row) (Nat.le_refl _) (Nat.le_refl _) (Nat.le_refl _) ln3
end CVX
end JnS465
section JnS466
/-! The class: quantifiers are read. -/
section CVY
variable {σ σ' σ0 τ τ' : CS} {L : LV} {b : Bool} {T : Nat → Int32} {n q q' u al o v mk p sz szB nc0 sz0 mk0 a1 a2 m kk f e t nc r0 c g : Nat} {y w : Int32} {l l' cs cs' : List Int32} {tb tb' es : List Ent} {ns : List Nm} {α : Type} {S : α → Int32 → CS → Prop} {C : Prop} {E E' : En} {gl : Nat × (Nat → Nat → Prop)} {Vm Vm' : Nat → Prop} {bt : BT}
theorem c_truL : Tm (fun k => y_X11_truth k 0 L σ) (fun r => r.2 = σ ∧ LitG r.1) := by
  refine Tm_suc (fun k => by rw [y_X11_truth]) ?_
  refine Tm_ite (fun _ => ?_) (fun _ => ?_)
  · refine Tm_suc (fun k => by rw [y_X11_truth]) ?_
    refine Tm_suc (fun k => by rw [y_X11_truth]) ?_
    exact Tm_some ⟨rfl, Or.inl (by show 2147483648 ≤ uN (-1879048192 : Int32) ∧ uN (-1879048192 : Int32) < 3489660928; decide)⟩
  · refine Tm_suc (fun k => by rw [y_X11_truth]) ?_
    exact Tm_some ⟨rfl, Or.inl (by show 2147483648 ≤ uN (-1879048191 : Int32) ∧ uN (-1879048191 : Int32) < 3489660928; decide)⟩
theorem st_push {f' : Nat → RS → Option RS} {x : Fl α} (h : Sy T n b u al σ0 nc0 sz0 mk0 a1 a2 tb o q v mk p szB cs τ) (hv : LitG (L.1 1)) (hm : szB + cs.length + 2 ≤ 36864) (cont : ∀ (τ' : CS) (ret : Int32) (m1 m2 : Nat), Sy T n b u al σ0 nc0 sz0 mk0 (a1 + m1) (a2 + m2) tb o q v mk p szB (cs ++ [em 32 0, L.1 1]) τ' → Tm (fun k => f' k ((0, ret), τ', (m1, m2))) (QPo b u nc0 sz0 mk0 x S σ0 (a1 + m1) (a2 + m2))) : Tm (fun k => ox (f_X5_push k 0 L τ) (f' k)) (QPo b u nc0 sz0 mk0 x S σ0 a1 a2) := by
  refine st_call (C := True) h.1 (c_pushQ h.1.1 hv hm) (Or.inr ⟨(), rfl, trivial, fun τ' ret n1 n2 hq xk hc => ?_⟩)
  obtain ⟨c1, _, h2, h3, h4⟩ := hq
  subst h4
  exact cont τ' ret n1 n2 (Sy_ca h h2 xk hc h3 h.1.2.2.2.1 h.1.2.2.2.2.2)
theorem Sy_o {o' : Nat} (h : Sy T n b u al σ0 nc0 sz0 mk0 a1 a2 tb o q v mk p szB cs τ) (ho : o' ≤ 20) : Sy T n b u al σ0 nc0 sz0 mk0 a1 a2 tb o' q v mk p szB cs (uI τ 4005 (nI o')) := ⟨Sx_o h.1 ho, h.2⟩
theorem qun_0 (k d : Nat) (L : LV) (σ : CS) : f_F2 (k + 1) d 11 0 L σ = (if ((σ.1 3702)) = 69 then (f_F2 k d 11 2 (lI L 100 1) σ) else (f_F2 k d 11 1 L σ)) := rfl
theorem qun_1 (k d : Nat) (L : LV) (σ : CS) : f_F2 (k + 1) d 11 1 L σ = (f_F2 k d 11 2 (lI L 100 0) σ) := rfl
theorem qun_2 (k d : Nat) (L : LV) (σ : CS) : f_F2 (k + 1) d 11 2 L σ = (ox (f_X5_opens k 0 lZ σ) (fun r1 => oP (sPp r1.2.1) (fun b2 => oP (sPp r1.2.1) (fun b3 => of d (fun e4 => ox (f_F2 k e4 5 0 (lI lZ 1 0) r1.2.1) (fun r4 => ox (f_X5_expect k 0 (lI lZ 1 19) r4.2.1) (fun r5 => of d (fun e6 => ox (f_F2 k e6 1 0 (lI lZ 1 0) r5.2.1) (fun r6 => oP (sPp (uI r6.2.1 4005 ((((r6.2.1.1 4005)) - 1)))) (fun b7 => oP (sPp (uI r6.2.1 4005 ((((r6.2.1.1 4005)) - 1)))) (fun b8 => if ((L.1 100)) = 0 then (f_F2 k d 11 3 (lB (lB (lI (lI (lI (lI (lI L 1 ((L.1 100))) 2 ((r1.2.1.1 (fP b2 11)))) 3 ((r1.2.1.1 (fP b3 19)))) 4 ((r4.2.1.1 4014))) 5 ((r4.2.1.1 4015))) 100 b8) 101 b7) (uI r6.2.1 4005 ((((r6.2.1.1 4005)) - 1)))) else (f_F2 k d 11 4 (lB (lB (lI (lI (lI (lI (lI (lI L 1 ((L.1 100))) 2 ((r1.2.1.1 (fP b2 11)))) 3 ((r1.2.1.1 (fP b3 19)))) 4 ((r4.2.1.1 4014))) 5 ((r4.2.1.1 4015))) 100 4) 101 b8) 102 b7) (uI r6.2.1 4005 ((((r6.2.1.1 4005)) - 1))))))))))))))) := rfl
theorem qun_3 (k d : Nat) (L : LV) (σ : CS) : f_F2 (k + 1) d 11 3 L σ = (f_F2 k d 11 4 (lB (lB (lI L 100 5) 101 ((L.2.2.1 100))) 102 ((L.2.2.1 101))) σ) := rfl
theorem qun_4 (k d : Nat) (L : LV) (σ : CS) : f_F2 (k + 1) d 11 4 L σ = (ox (f_X7_emit__P k 0 (lI (lI (lB lZ 0 ((L.2.2.1 101))) 1 ((L.1 100))) 2 0) σ) (fun r1 => op (y_X7_aim__P k 0 (lI (lI (lB lZ 0 ((L.2.2.1 102))) 1 r1.1.2) 2 ((L.1 5))) r1.2.1) (fun r2 => op (y_X11_truth k 0 (lI lZ 0 ((L.1 1))) r2.2) (fun r3 => ox (f_X5_push k 0 (lI lZ 1 r3.1) r3.2) (fun r4 => oP (sPp r4.2.1) (fun b5 => ox (f_X7_emit__P k 0 (lI (lI (lB lZ 0 b5) 1 3) 2 0) r4.2.1) (fun r6 => oP (sPp r6.2.1) (fun b7 => oP (sPp r6.2.1) (fun b8 => if ¬ (((((L.1 4)) + 1)) < 0 ∨ (sN r6.2.1 (pR0 ((sKd r6.2.1 b7)))) ≤ ((((L.1 4)) + 1)).toNatClampNeg) then (if ((L.1 1)) = 0 then (f_F2 k d 11 6 (lI (lI L 6 r6.1.2) 100 1) (uA r6.2.1 (pR0 ((sKd r6.2.1 b7))) ((((L.1 4)) + 1)).toNatClampNeg ((((r6.2.1.1 (fP b8 1))) - ((L.1 4)))))) else (f_F2 k d 11 5 (lI L 6 r6.1.2) (uA r6.2.1 (pR0 ((sKd r6.2.1 b7))) ((((L.1 4)) + 1)).toNatClampNeg ((((r6.2.1.1 (fP b8 1))) - ((L.1 4))))))) else none))))))))) := rfl
theorem qun_5 (k d : Nat) (L : LV) (σ : CS) : f_F2 (k + 1) d 11 5 L σ = (f_F2 k d 11 6 (lI L 100 0) σ) := rfl
theorem qun_6 (k d : Nat) (L : LV) (σ : CS) : f_F2 (k + 1) d 11 6 L σ = (op (y_X11_truth k 0 (lI lZ 0 ((L.1 100))) σ) (fun r1 => ox (f_X5_push k 0 (lI lZ 1 r1.1) r1.2) (fun r2 => oP (sPp r2.2.1) (fun b3 => oP (sPp r2.2.1) (fun b4 => op (y_X7_aim__P k 0 (lI (lI (lB lZ 0 b3) 1 ((L.1 6))) 2 ((r2.2.1.1 (fP b4 1)))) r2.2.1) (fun r5 => ox (f_X5_clear k 0 (lI lZ 1 ((L.1 3))) r5.2) (fun r6 => oP (sPp r6.2.1) (fun b7 => ox (f_X7_emit__P k 0 (lI (lI (lB lZ 0 b7) 1 40) 2 0) r6.2.1) (fun r8 => oP (sPp r8.2.1) (fun b9 => some ((0, 0), (uI r8.2.1 (fP b9 11) ((L.1 2))), (0, 0)))))))))))) := rfl
theorem c_quant {ex : Nat} {bt2 : RT → RT → BT} {x : Fl RT} (px : ∀ f', f' ≤ f → ∀ e', PXp T n b u al f' e') (h : QS T n b u al tb o q v mk p sz σ) (ev : EvX E b u al gl Vm tb σ) (bd : BdX n o q v mk p sz tb.length) (hk : tkK T n q = 69 ∨ tkK T n q = 70) (hG : gO o q (gT T n q (fun q1 => gb (G T n f 17 E (o + 1) q1 v 0 0 E.2.2.1.length 0 bt) (fun r => gW T n 15 r.1 (fun q2 => gb (G T n f 0 (seeN E r.2.2.2.2.2) (o + 1) q2 r.2.1 0 0 0 0 r.2.2.2.2.1) (fun s => some (Sum.inr (s.1, s.2.1, 0, s.2.2.2.2.1.1, bt2 r s, []))))))) = some x) (hd0 : ¬ o = 20 → 6 * (20 - (o + 1)) + 8 ≤ e) : Tm (fun k => f_F2 k (e + 2) 11 0 L σ) (QPo b u tb.length sz mk x (fun r _ τ => XN T n b u al gl Vm tb o mk p sz q v r τ) σ 0 0) := by
  have s0 := Sy_0 h
  have go := tk_go h
  have b22 := bd.2.1
  have n10 := bd.1
  have w6 : q + 6 ≤ tkN T n q := by
    rcases hk with z | z
    · exact tk_wl (m := 6) h z (by decide) rfl
    · exact tk_wl (m := 6) h z (by decide) rfl
  have hop : (¬ (¬ o = 20 ∧ ¬ tkK T n (tkN T n q) = 0) ∧ x = Sum.inl (oF T n o q)) ∨ ((¬ o = 20 ∧ ¬ tkK T n (tkN T n q) = 0) ∧ gb (G T n f 17 E (o + 1) (tkN T n q) v 0 0 E.2.2.1.length 0 bt) (fun r => gW T n 15 r.1 (fun q2 => gb (G T n f 0 (seeN E r.2.2.2.2.2) (o + 1) q2 r.2.1 0 0 0 0 r.2.2.2.2.1) (fun s => some (Sum.inr (s.1, s.2.1, 0, s.2.2.2.2.1.1, bt2 r s, []))))) = some x) := by
    rcases gO_any hG with ⟨w1, w2⟩ | ⟨w1, w2⟩
    · exact Or.inl ⟨fun z => z.1 w1, oF_a w1 w2⟩
    · rcases gT_any w2 with ⟨w3, w4⟩ | ⟨w3, w4⟩
      · exact Or.inl ⟨fun z => z.2 w3, oF_b w1 w4⟩
      · exact Or.inr ⟨⟨w1, w3⟩, w4⟩
  have b2 : ∀ (L' : LV), Tm (fun k => f_F2 k (e + 2) 11 2 L' σ) (QPo b u tb.length sz mk x (fun r _ τ => XN T n b u al gl Vm tb o mk p sz q v r τ) σ 0 0) := by
    intro L'
    refine Tm_suc (fun k => qun_2 k _ _ _) ?_
    refine st_opens s0 hop (fun τ1 ret1 m1 m2 c1 s1 => ?_)
    have e11 : τ1.1 (fP b 11) = nI tb.length := s1.1.1.2.2.2.1.1
    have e19 : τ1.1 (fP b 19) = nI p := s1.1.1.2.2.2.2.2.2.2
    have o20 : ¬ o = 20 := fun z => by
      have := s1.1.1.2.2.2.2.2.1.2
      omega
    refine Tm_oP (Sy_pp s1) (Tm_oP (Sy_pp s1) ?_)
    refine Tm_d ?_
    have bd1 : BdX n (o + 1) (tkN T n q) v mk p (sz + 0) tb.length := BdX_g bd (by omega) go.2.1 (by omega) (Nat.le_refl _) (by omega)
    have gi : ∃ z, G T n f 17 E (o + 1) (tkN T n q) v 0 0 E.2.2.1.length 0 bt = some z := by
      rcases gb_any c1 with ⟨yf, y1, y2⟩ | ⟨r4, y1, y2⟩
      · exact ⟨_, y1⟩
      · exact ⟨_, y1⟩
    obtain ⟨z, hz⟩ := gi
    refine st_call (C := True) s1.1 (c_iters (fun f' hf' => px f' hf' e) s1.1.1 (EvX_k ev s1.1.2.1) bd1 rfl hz (hd0 o20)) ?_
    rcases gb_any c1 with ⟨yf, y1, y2⟩ | ⟨r, y1, y2⟩
    · rw [hz] at y1
      exact Or.inl ⟨_, Option.some.inj y1, y2⟩
    rw [hz] at y1
    refine Or.inr ⟨r, Option.some.inj y1, trivial, fun τ3 ret3 m3 m4 hr xk3 hc3 => ?_⟩
    obtain ⟨es, cs, p', xm, e0, nl, i1, i2, row, hs, ⟨i4, i5⟩, ev3, bd3, ln3, lt3, lv3⟩ := hr
    have i4' : τ3.1 4014 = nI (sz + fstP (e0 :: nl)) := i4
    have i5' : τ3.1 4015 = nI (sz + e0.1) := i5
    have s3 : Sy T n b u al σ tb.length sz mk (0 + m1 + m3) (0 + m2 + m4) (tb ++ es) (o + 1) r.1 r.2.1 mk p' sz cs τ3 := Sy_ca s1 i1 xk3 hc3 i2 (by rw [List.length_append]; omega) s1.1.2.2.2.2.2
    have go3 := tk_go s3.1.1
    have bd3' : BdX n (o + 1) r.1 r.2.1 mk p' (sz + cs.length) (tb ++ es).length := bd3
    have fl : fstP (e0 :: nl) + 2 ≤ cs.length := by
      obtain ⟨e1, e2, e3⟩ := fst_m (nl := e0 :: nl) (by show 1 ≤ nl.length + 1; omega)
      have := RwL_le _ row.2.2.2.1 e1 e2
      omega
    have el0 : e0.1 + 2 ≤ cs.length := RwL_le _ row.2.2.2.1 e0 List.mem_cons_self
    have pp := row.1
    refine st_expect (kk := 15) s3 (by decide) rfl (gW_a3 y2) (fun τ5 ret5 n1 n2 c5 s5 => ?_)
    obtain ⟨k15, c5⟩ := c5
    have g5 := go3.2.2 (by omega)
    refine Tm_d ?_
    have ev5 := EvX_at ev3 ev s5.1.2.1
    have bd5 : BdX n (o + 1) (tkN T n r.1) r.2.1 mk p' (sz + cs.length) (tb ++ es).length := BdX_g bd3' (by omega) go3.2.1 (Nat.le_refl _) (Nat.le_refl _) (by omega)
    rcases gb_any c5 with ⟨yf, y5, y6⟩ | ⟨s, y5, y6⟩
    · exact st_exp (C := True) (px f (Nat.le_refl _) (e + 1)) (Or.inl ⟨rfl, rfl⟩) s5 ev5 bd5 rfl (by have := hd0 o20; omega) y5 (Or.inl ⟨_, rfl, y6⟩) (fun _ _ _ _ _ _ z => by cases z)
    refine st_exp (C := True) (px f (Nat.le_refl _) (e + 1)) (Or.inl ⟨rfl, rfl⟩) s5 ev5 bd5 rfl (by have := hd0 o20; omega) y5 (Or.inr ⟨s, rfl, trivial⟩) (fun τ6 ret6 n3 n4 s' l6 hz6 _ s6 xk6 sg6 ln6 lt6 lv6 tg6 => ?_)
    cases hz6
    have q6n := (tk_go s6.1.1).1
    have rb1 : RwB u p gl Vm p' xm (e0 :: nl) 1 (cs ++ l6) := RwB_sg (RwB_0 row) (fun _ z => z) sg6
    have lcb : (cs ++ l6).length = cs.length + l6.length := List.length_append
    generalize hcb : cs ++ l6 = cb at *
    have o19 := s6.1.1.2.2.2.2.2.1.2
    have e05 : τ6.1 4005 - 1 = nI o := by
      rw [s6.1.1.2.2.2.2.2.1.1]
      exact n_sub1 (by omega)
    have s7 := Sy_o (o' := o) s6 (by omega)
    show Tm (fun k => oP (sPp (uI τ6 4005 (τ6.1 4005 - 1))) (fun b7 => _)) _
    rw [e05]
    -- the last block
    have b6 : ∀ (L8 : LV) (τ8 : CS) (a5 a6 : Nat) (tv : Int32) (cc : List Int32), L8.1 2 = nI tb.length → L8.1 3 = nI p → L8.1 6 = nI (sz + (cc.length + 2)) → LitG tv → RwB u p gl Vm p' xm (e0 :: nl) 0 cc → cc.length = cb.length + 1 → Sy T n b u al σ tb.length sz mk a5 a6 (tb ++ es) o s.1 s.2.1 mk p' sz (cc.set (fstP (e0 :: nl) + 1) (nI (cc.length + 3 - fstP (e0 :: nl))) ++ [em 32 0, tv, em 3 0]) τ8 → Tm (fun k => f_F2 k (e + 2) 11 6 L8 τ8) (QPo b u tb.length sz mk x (fun r _ τ => XN T n b u al gl Vm tb o mk p sz q v r τ) σ a5 a6) := by
      intro L8 τ8 a5 a6 tv cc l2 l3 l6' ltv rb lcc s8
      generalize hst : cc.set (fstP (e0 :: nl) + 1) (nI (cc.length + 3 - fstP (e0 :: nl))) = ct at *
      have lct : ct.length = cc.length := by rw [← hst, List.length_set]
      have ls8 : (ct ++ [em 32 0, tv, em 3 0]).length = cc.length + 3 := by rw [List.length_append, lct]; rfl
      refine Tm_suc (fun k => qun_6 k _ _ _) ?_
      refine Tm_op c_truL (fun r9 z9 => ?_)
      obtain ⟨e9, lfv⟩ := z9
      rw [e9]
      refine st_push (L := lI lZ 1 r9.1) s8 lfv (by rw [ls8]; omega) (fun τ10 ret10 x1 x2 s10 => ?_)
      have s10' : Sy T n b u al σ tb.length sz mk (a5 + x1) (a6 + x2) (tb ++ es) o s.1 s.2.1 mk p' sz (ct ++ [em 32 0, tv, em 3 0, em 32 0, r9.1]) τ10 := by
        have e1 : ct ++ [em 32 0, tv, em 3 0, em 32 0, r9.1] = ct ++ [em 32 0, tv, em 3 0] ++ [em 32 0, r9.1] := by rw [List.append_assoc]; rfl
        rw [e1]; exact s10
      have ls10 : (ct ++ [em 32 0, tv, em 3 0, em 32 0, r9.1]).length = cc.length + 5 := by rw [List.length_append, lct]; rfl
      refine Tm_oP (Sy_pp s10') (Tm_oP (Sy_pp s10') ?_)
      have e1s : τ10.1 (fP b 1) = nI (sz + (cc.length + 5)) := by
        have := s10'.1.1.2.1.1
        rw [ls10] at this
        exact this
      have hget : (ct ++ [em 32 0, tv, em 3 0, em 32 0, r9.1]).getD (cc.length + 2) 0 = em 3 0 := by
        have z := gd_r (a := ct) (b := [em 32 0, tv, em 3 0, em 32 0, r9.1]) 2
        rw [lct] at z
        exact z
      refine Tm_op (c_aim (h := cc.length + 2) (op := 3) s10' (Nat.le_refl _) (by rw [ls10]; omega) (by decide) hget rfl l6') (fun r11 z11 => ?_)
      have ej : τ10.1 (fP b 1) - L8.1 6 = nI 3 := by
        rw [e1s, l6', n_sub (by omega) (by omega)]
        exact congrArg nI (by omega)
      have es2 : (ct ++ [em 32 0, tv, em 3 0, em 32 0, r9.1]).set (cc.length + 2) (em 3 (nI 3)) = ct ++ [em 32 0, tv, em 3 (nI 3), em 32 0, r9.1] := by
        rw [List.set_append_right _ _ (by omega), lct, Nat.add_sub_cancel_left]; rfl
      have s11 : Sy T n b u al σ tb.length sz mk (a5 + x1) (a6 + x2) (tb ++ es) o s.1 s.2.1 mk p' sz (ct ++ [em 32 0, tv, em 3 (nI 3), em 32 0, r9.1]) r11.2 := by
        rw [← es2, ← ej]; exact z11
      have ls11 : (ct ++ [em 32 0, tv, em 3 (nI 3), em 32 0, r9.1]).length = cc.length + 5 := by rw [List.length_append, lct]; rfl
      refine st_clear (p0 := p) s11 l3 ⟨pp.1, by omega⟩ (by rw [ls11]; omega) (fun τ12 ret12 x5 x6 s12 => ?_)
      refine Tm_oP (Sy_pp s12) ?_
      have ls12 : (ct ++ [em 32 0, tv, em 3 (nI 3), em 32 0, r9.1] ++ [em 68 (nI p), nI (p' - p)]).length = cc.length + 7 := by rw [List.length_append, ls11]; rfl
      refine st_emit (op := 40) s12 rfl rfl (by rw [ls12]; omega) (fun τ13 x7 x8 s13 => ?_)
      refine Tm_oP (Sy_pp s13) ?_
      rw [l2]
      have s14 := Sy_tb s13 (TbQ_tk s13.1.1.2.2.2.1) (Nat.le_refl _) (Nat.le_refl _)
      have fin := Sgm_qu rb ltv lfv
      rw [hst] at fin
      have ef : ct ++ [em 32 0, tv, em 3 (nI 3), em 32 0, r9.1, em 68 (nI p), nI (p' - p), em 40 0] = ct ++ [em 32 0, tv, em 3 (nI 3), em 32 0, r9.1] ++ [em 68 (nI p), nI (p' - p)] ++ [em 40 0] := by rw [List.append_assoc, List.append_assoc]; rfl
      rw [ef] at fin
      rw [← Option.some.inj y6]
      have lw : ∀ w : Int32, (ct ++ [em 32 0, tv, em 3 (nI 3), em 32 0, r9.1] ++ [em 68 (nI p), nI (p' - p)] ++ [em 40 w]).length = cc.length + 8 := fun w => by rw [List.length_append, ls12]; rfl
      refine Tm_some (Qfin s14.1 ⟨_, s14.1.1, s14.2, fin, ?_, ?_, ?_, rfl⟩)
      · rw [lw]
        show 2 * (cc.length + 8) ≤ 3 * (s.1 - q) + 1
        omega
      · show q < s.1
        omega
      · show v ≤ s.2.1
        omega
    have b4 : ∀ (L8 : LV) (op1 : Nat), (op1 = 4 ∨ op1 = 5) → L8.1 100 = nI op1 → L8.2.2.1 101 = b → L8.2.2.1 102 = b → L8.1 2 = nI tb.length → L8.1 3 = nI p → L8.1 4 = nI (sz + fstP (e0 :: nl)) → L8.1 5 = nI (sz + e0.1) → Tm (fun k => f_F2 k (e + 2) 11 4 L8 (uI τ6 4005 (nI o))) (QPo b u tb.length sz mk x (fun r _ τ => XN T n b u al gl Vm tb o mk p sz q v r τ) σ (0 + m1 + m3 + n1 + n3) (0 + m2 + m4 + n2 + n4)) := by
      intro L8 op1 ho l100 lb1 lb2 l2 l3 l4 l5
      refine Tm_suc (fun k => qun_4 k _ _ _) ?_
      refine st_emit (op := op1) s7 lb1 l100 (by omega) (fun τ8 x1 x2 s8 => ?_)
      refine Tm_op (c_aimL (op := op1) s8 (Nat.le_refl _) (by omega) lb2 rfl) (fun r9 s9 => ?_)
      have ej : L8.1 5 - nI (sz + cb.length) = nI e0.1 - nI cb.length := by
        rw [l5]
        exact n_ss sz e0.1 cb.length (by omega) (by omega)
      have s9' : Sy T n b u al σ tb.length sz mk (0 + m1 + m3 + n1 + n3 + x1) (0 + m2 + m4 + n2 + n4 + x2) (tb ++ es) o s.1 s.2.1 mk p' sz (cb ++ [em op1 (nI e0.1 - nI cb.length)]) r9.2 := by
        rw [← ej]; exact s9
      have rb := RwB_jb (op := op1) rb1 ho hs
      have lcc : (cb ++ [em op1 (nI e0.1 - nI cb.length)]).length = cb.length + 1 := by rw [List.length_append]; rfl
      generalize hcc : cb ++ [em op1 (nI e0.1 - nI cb.length)] = cc at *
      refine Tm_op c_truL (fun r10 z10 => ?_)
      obtain ⟨e10, ltv⟩ := z10
      rw [e10]
      refine st_push (L := lI lZ 1 r10.1) s9' ltv (by omega) (fun τ11 ret11 x3 x4 s11 => ?_)
      have ls11 : ∀ w : Int32, (cc ++ [em 32 0, w]).length = cc.length + 2 := fun w => by rw [List.length_append]; rfl
      refine Tm_oP (Sy_pp s11) ?_
      refine st_emit (op := 3) s11 rfl rfl (by rw [ls11]; omega) (fun τ12 x5 x6 s12 => ?_)
      have s12' : Sy T n b u al σ tb.length sz mk (0 + m1 + m3 + n1 + n3 + x1 + x3 + x5) (0 + m2 + m4 + n2 + n4 + x2 + x4 + x6) (tb ++ es) o s.1 s.2.1 mk p' sz (cc ++ [em 32 0, r10.1, em 3 0]) τ12 := by
        have e1 : cc ++ [em 32 0, r10.1, em 3 0] = cc ++ [em 32 0, r10.1] ++ [em 3 0] := by rw [List.append_assoc]; rfl
        rw [e1]; exact s12
      have ls12 : (cc ++ [em 32 0, r10.1, em 3 0]).length = cc.length + 3 := by rw [List.length_append]; rfl
      refine Tm_oP (Sy_pp s12') (Tm_oP (Sy_pp s12') ?_)
      have e1s : τ12.1 (fP b 1) = nI (sz + (cc.length + 3)) := by
        have := s12'.1.1.2.1.1
        rw [ls12] at this
        exact this
      have cn36 := cdn_b s12'.1.1
      have cle := s12'.1.1.2.1.2.1
      rw [ls12] at cle
      have ix : L8.1 4 + 1 = nI (sz + (fstP (e0 :: nl) + 1)) := by rw [l4, n_add1]; exact congrArg nI (by omega)
      have ev' : τ12.1 (fP b 1) - L8.1 4 = nI (cc.length + 3 - fstP (e0 :: nl)) := by
        rw [e1s, l4, n_sub (by omega) (by omega)]
        exact congrArg nI (by omega)
      show Tm (fun k => if ¬ (L8.1 4 + 1 < 0 ∨ cdn b τ12 ≤ (L8.1 4 + 1).toNatClampNeg) then (if L8.1 1 = 0 then f_F2 k (e + 2) 11 6 (lI (lI L8 6 (nI (sz + (cc ++ [em 32 0, r10.1]).length))) 100 1) (uA τ12 (pR0 (sKd τ12 b)) (L8.1 4 + 1).toNatClampNeg (τ12.1 (fP b 1) - L8.1 4)) else f_F2 k (e + 2) 11 5 (lI L8 6 (nI (sz + (cc ++ [em 32 0, r10.1]).length))) (uA τ12 (pR0 (sKd τ12 b)) (L8.1 4 + 1).toNatClampNeg (τ12.1 (fP b 1) - L8.1 4))) else none) _
      rw [ix, ev', ls11]
      refine Tm_chk (u_in (n := cdn b τ12) (by rw [u_n (by omega)]; omega) (by omega)) ?_
      rw [n_cl (p := sz + (fstP (e0 :: nl) + 1)) (by omega)]
      have s13 := Sy_set s12' (Nat.le_refl _) (h := fstP (e0 :: nl) + 1) (by rw [ls12]; omega) (nI (cc.length + 3 - fstP (e0 :: nl)))
      rw [List.set_append_left _ _ (by omega)] at s13
      refine Tm_ite (fun _ => ?_) (fun _ => ?_)
      · exact b6 _ _ _ _ r10.1 cc l2 l3 rfl ltv rb lcc s13
      · refine Tm_suc (fun k => qun_5 k _ _ _) ?_
        exact b6 _ _ _ _ r10.1 cc l2 l3 rfl ltv rb lcc s13
    refine Tm_oP (Sy_pp s7) (Tm_oP (Sy_pp s7) ?_)
    refine Tm_ite (fun _ => ?_) (fun _ => ?_)
    · refine Tm_suc (fun k => qun_3 k _ _ _) ?_
      exact b4 _ 5 (Or.inr rfl) rfl rfl rfl e11 e19 i4' i5'
    · exact b4 _ 4 (Or.inl rfl) rfl rfl rfl e11 e19 i4' i5'
  refine Tm_suc (fun k => qun_0 k _ _ _) ?_
  refine Tm_ite (fun _ => b2 _) (fun _ => ?_)
  refine Tm_suc (fun k => qun_1 k _ _ _) ?_
  exact b2 _
end CVY
end JnS466

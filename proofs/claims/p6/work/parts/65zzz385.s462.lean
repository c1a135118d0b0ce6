/-! The class: what is to be seen behind an iter. -/
section CVU
variable {σ σ' σ0 τ τ' : CS} {L : LV} {b : Bool} {T : Nat → Int32} {n q q' u al o v mk p sz szB nc0 sz0 mk0 a1 a2 m kk f e t nc r0 c g : Nat} {y w : Int32} {l l' cs cs' : List Int32} {tb tb' es : List Ent} {ns : List Nm} {α : Type} {S : α → Int32 → CS → Prop} {x : Option α} {C : Prop} {E E' : En} {gl : Nat × (Nat → Nat → Prop)} {Vm Vm' : Nat → Prop} {bt : BT} {hd : Bool}
theorem NmR_h (h : NmR E u gl Vm tb) (k : NsR u p true es ns) : NmR (rowN E ns) u gl Vm (tb ++ es) := by
  refine ⟨h.1, fun bs ok => ⟨fun i lk => ?_, fun lk => ?_⟩⟩
  · obtain ⟨l1, l2, l3⟩ := lk
    rw [List.length_append] at l1 l3
    rcases Nat.lt_or_ge i tb.length with z | z
    · rw [gE_l z] at l2 ⊢
      refine (h.2 bs ok).1 i ⟨z, l2, fun j j1 j2 w => l3 j j1 (by omega) ?_⟩
      rw [gE_l j2]; exact w
    · exfalso
      have e1 : i = tb.length + (i - tb.length) := by omega
      rw [e1, gE_r] at l2
      have z2 := k.1 (i - tb.length) (by omega)
      rw [z2] at l2
      exact absurd (show true = false from l2.2) (by decide)
  · refine (h.2 bs ok).2 (fun j j1 w => lk j (by rw [List.length_append]; omega) ?_)
    rw [gE_l j1]; exact w
theorem fd_in {bs : List Int32} (h : ∃ nm, nm ∈ ns ∧ nm.1 = bs) : (fd (seeN E ns) bs).1 = 1 := by
  have z := fs_m.2 h
  unfold fd
  rw [show (seeN E ns).2.1 = ns ++ E.2.1 from rfl]
  rw [List.find?_append]
  obtain ⟨y, hy⟩ := Option.isSome_iff_exists.1 z
  rw [hy]
  rfl
theorem fd_out {bs : List Int32} (h : ¬ ∃ nm, nm ∈ ns ∧ nm.1 = bs) : fd (seeN E ns) bs = fd E bs := by
  have z : ns.find? (fun x => decide (x.1 = bs)) = none := by
    cases hc : ns.find? (fun x => decide (x.1 = bs)) with
    | none => rfl
    | some y =>
      exfalso
      apply h
      apply fs_m.1
      rw [hc]
      rfl
  unfold fd
  rw [show (seeN E ns).2.1 = ns ++ E.2.1 from rfl]
  rw [List.find?_append, z, Option.none_or]
  rfl
/-- entries say the same with more to be seen -/
theorem EntR_m {a : Ent} {bs : List Int32} (h : EntR E u gl Vm a bs) (hf : fd E' bs = fd E bs) (he : E'.2.2.2 = E.2.2.2) (hV : ∀ i, Vm i → Vm' i) : EntR E' u gl Vm' a bs := by
  unfold EntR at *
  rw [hf, he]
  obtain ⟨h0, h1, h2, h3⟩ := h
  refine ⟨h0, fun z => ?_, fun z => ?_, h3⟩
  · obtain ⟨y1, y2, y3⟩ := h1 z
    exact ⟨y1, fun w => ⟨(y2 w).1, hV _ (y2 w).2⟩, y3⟩
  · obtain ⟨y1, y2, y3, y4⟩ := h2 z
    exact ⟨y1, y2, y3, hV _ y4⟩
theorem NmR_s (h : NmR E u gl Vm tb) (k : NsR u p false es ns) (hp : p + es.length ≤ 180) (hm : ∀ i, i < es.length → Vm' (bsl + 500000 + (p + i))) (hV : ∀ i, Vm i → Vm' i) (hu : u < 42) : NmR (rowN (seeN E ns) ns) u gl Vm' (tb ++ es) := by
  refine ⟨h.1, fun bs ok => ⟨fun i lk => ?_, fun lk => ?_⟩⟩
  · obtain ⟨l1, l2, l3⟩ := lk
    rw [List.length_append] at l1 l3
    rcases Nat.lt_or_ge i tb.length with z | z
    · rw [gE_l z] at l2 ⊢
      have no : ¬ ∃ nm, nm ∈ ns ∧ nm.1 = bs := fun w => by
        obtain ⟨j, j1, j2⟩ := (k.2 bs).1 w
        refine l3 (tb.length + j) (by omega) (by omega) ?_
        rw [gE_r]
        refine ⟨j2, ?_⟩
        have z2 := k.1 j j1
        rw [z2]
      have lk2 : LkI tb bs i := ⟨z, l2, fun j j1 j2 w => l3 j j1 (by omega) (by rw [gE_l j2]; exact w)⟩
      exact EntR_m ((h.2 bs ok).1 i lk2) (fd_out no) rfl hV
    · have e1 : i = tb.length + (i - tb.length) := by omega
      have z2 := k.1 (i - tb.length) (by omega)
      rw [e1, gE_r] at l2 ⊢
      have fi : (fd (rowN (seeN E ns) ns) bs).1 = 1 := fd_in ((k.2 bs).2 ⟨i - tb.length, by omega, l2.1⟩)
      unfold EntR
      rw [z2]
      exact ⟨⟨Nat.le_refl 3, hu⟩, fun z => absurd (show 3 = 0 from z) (by decide), fun _ => ⟨fi, rfl, by show p + (i - tb.length) < 180; omega, hm _ (by omega)⟩, fun z => absurd (show 3 = 1 from z) (by decide), fun z => absurd (show 3 = 2 from z) (by decide)⟩
  · have no : ¬ ∃ nm, nm ∈ ns ∧ nm.1 = bs := fun w => by
      obtain ⟨j, j1, j2⟩ := (k.2 bs).1 w
      refine lk (tb.length + j) (by rw [List.length_append]; omega) ?_
      rw [gE_r]
      refine ⟨j2, ?_⟩
      have z2 := k.1 j j1
      rw [z2]
    show (fd (seeN E ns) bs).1 = 0
    rw [fd_out no]
    refine (h.2 bs ok).2 (fun j j1 w => lk j (by rw [List.length_append]; omega) ?_)
    rw [gE_l j1]; exact w
/-- what an exp sees of its env -/
theorem EvX_e (h : EvX E b u al gl Vm tb σ) (h1 : E'.1 = E.1) (h2 : E'.2.1 = E.2.1) (h3 : E'.2.2.2 = E.2.2.2) : EvX E' b u al gl Vm tb σ := by
  have hf : ∀ bs, fd E' bs = fd E bs := fun bs => by unfold fd; rw [h1, h2, h3]
  obtain ⟨⟨n1, n2⟩, e2, e3, e4, e5⟩ := h
  refine ⟨⟨n1, fun bs ok => ⟨fun i lk => EntR_m ((n2 bs ok).1 i lk) (hf bs) h3 (fun _ z => z), fun lk => by rw [hf]; exact (n2 bs ok).2 lk⟩⟩, e2, e3, ?_, ?_⟩
  · rw [h3]; exact e4
  · rw [h3]; exact e5
theorem EvX_h (h : EvX E b u al gl Vm tb σ) (k : NsR u p true es ns) : EvX (rowN E ns) b u al gl Vm (tb ++ es) σ := ⟨NmR_h h.1 k, h.2⟩
theorem EvX_s (h : EvX E b u al gl Vm tb σ) (k : NsR u p false es ns) (hp : p + es.length ≤ 180) (hm : ∀ i, i < es.length → Vm' (bsl + 500000 + (p + i))) (hV : ∀ i, Vm i → Vm' i) : EvX (rowN (seeN E ns) ns) b u al gl Vm' (tb ++ es) σ := ⟨NmR_s h.1 k hp hm hV h.2.2.1.2, h.2⟩
/-- entries, to be seen -/
def seeE (es : List Ent) : List Ent := es.map (fun e => (e.1, e.2.1, e.2.2.1, e.2.2.2.1, false))
theorem seeE_l : (seeE es).length = es.length := List.length_map _
theorem seeE_g {i : Nat} (h : i < es.length) : (seeE es).getD i e0E = ((es.getD i e0E).1, (es.getD i e0E).2.1, (es.getD i e0E).2.2.1, (es.getD i e0E).2.2.2.1, false) := by
  unfold seeE
  rw [List.getD_eq_getElem?_getD, List.getElem?_map, List.getD_eq_getElem?_getD, List.getElem?_eq_getElem h]
  rfl
theorem NsR_see (k : NsR u p hd es ns) : NsR u p false (seeE es) ns := by
  refine ⟨fun i hi => ?_, fun bs => ?_⟩
  · rw [seeE_l] at hi
    rw [seeE_g hi, k.1 i hi]
  · rw [seeE_l]
    constructor
    · intro z
      obtain ⟨i, i1, i2⟩ := (k.2 bs).1 z
      exact ⟨i, i1, by rw [seeE_g i1]; exact i2⟩
    · rintro ⟨i, i1, i2⟩
      rw [seeE_g i1] at i2
      exact (k.2 bs).2 ⟨i, i1, i2⟩
/-- some of the newest are seen already -/
theorem see_set (tb es : List Ent) (i : Nat) (h : i < es.length) : (tb ++ (seeE (es.take i) ++ es.drop i)).set (tb.length + i) ((es.getD i e0E).1, (es.getD i e0E).2.1, (es.getD i e0E).2.2.1, (es.getD i e0E).2.2.2.1, false) = tb ++ (seeE (es.take (i + 1)) ++ es.drop (i + 1)) := by
  have lt : (seeE (es.take i)).length = i := by rw [seeE_l, List.length_take]; omega
  rw [List.set_append_right _ _ (Nat.le_add_right _ _), Nat.add_sub_cancel_left, List.set_append_right _ _ (by omega), lt, Nat.sub_self]
  have ed : es.drop i = es[i] :: es.drop (i + 1) := List.drop_eq_getElem_cons h
  have eg : es.getD i e0E = es[i] := by rw [List.getD_eq_getElem?_getD, List.getElem?_eq_getElem h]; rfl
  have et : es.take (i + 1) = es.take i ++ [es[i]] := (List.take_append_getElem h).symm
  rw [ed, eg, et]
  unfold seeE
  rw [List.map_append, List.append_assoc]
  rfl
theorem see_gd (tb es : List Ent) (i : Nat) (h : i < es.length) : (tb ++ (seeE (es.take i) ++ es.drop i)).getD (tb.length + i) e0E = es.getD i e0E := by
  have lt : (seeE (es.take i)).length = i := by rw [seeE_l, List.length_take]; omega
  rw [gE_r]
  have z := gE_r (a := seeE (es.take i)) (c := es.drop i) 0
  rw [lt, Nat.add_zero] at z
  rw [z, List.getD_eq_getElem?_getD, List.getElem?_drop, Nat.add_zero, List.getD_eq_getElem?_getD]
theorem n_ss (a i j : Nat) (h : a + i < 2147483648) (h2 : a + j < 2147483648) : nI (a + i) - nI (a + j) = nI i - nI j := by
  rw [← n_add h, ← n_add h2, Int32.sub_eq_add_neg, Int32.neg_add, Int32.sub_eq_add_neg, Int32.sub_eq_add_neg, Int32.add_comm (nI a) (nI i), Int32.add_assoc, ← Int32.add_assoc (nI a), Int32.add_right_neg, Int32.zero_add]
end CVU

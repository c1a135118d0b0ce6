/-! The class: its parser's marks. -/
section CVC
variable {σ σ' σ2 τ : CS} {L : LV} {b : Bool} {mk m n : Nat} {x y z : Int32} {l l' : List Int32}
def MkL (mk : Nat) (σ : CS) : Prop := σ.1 4011 = nI mk ∧ mk ≤ sN σ 41 ∧ sN σ 41 ≤ 21504
def MkF (σ σ' : CS) : Prop := (∀ j, ¬ j = 4011 → σ'.1 j = σ.1 j) ∧ σ'.2.1 = σ.2.1 ∧ (∀ k, ¬ k = 41 → σ'.2.2.1 k = σ.2.2.1 k ∧ sN σ' k = sN σ k) ∧ σ'.2.2.2.1 = σ.2.2.2.1 ∧ σ'.2.2.2.2.2 = σ.2.2.2.2.2
theorem MkF_r (σ : CS) : MkF σ σ := ⟨fun _ _ => rfl, rfl, fun _ _ => ⟨rfl, rfl⟩, rfl, rfl⟩
theorem MkF_t (a : MkF σ σ') (d : MkF σ' σ2) : MkF σ σ2 := ⟨fun j hj => (d.1 j hj).trans (a.1 j hj), d.2.1.trans a.2.1, fun k hk => ⟨(d.2.2.1 k hk).1.trans (a.2.2.1 k hk).1, (d.2.2.1 k hk).2.trans (a.2.2.1 k hk).2⟩, d.2.2.2.1.trans a.2.2.2.1, d.2.2.2.2.trans a.2.2.2.2⟩
/-- marks are laid upon the others -/
def MrO (mk : Nat) (l : List Int32) (σ σ' : CS) : Prop := MkF σ σ' ∧ MkL (mk + l.length) σ' ∧ (∀ i, i < mk → σ'.2.2.1 41 i = σ.2.2.1 41 i) ∧ ∀ i, i < l.length → σ'.2.2.1 41 (mk + i) = l.getD i 0
theorem MrO_0 (h : MkL mk σ) : MrO mk [] σ σ := ⟨MkF_r σ, h, fun _ _ => rfl, fun i hi => absurd hi (Nat.not_lt_zero _)⟩
theorem MrO_t (a : MrO mk l σ σ') (d : MrO (mk + l.length) l' σ' σ2) : MrO mk (l ++ l') σ σ2 := by
  obtain ⟨a1, a2, a3, a4⟩ := a
  obtain ⟨d1, d2, d3, d4⟩ := d
  refine ⟨MkF_t a1 d1, ?_, fun i hi => (d3 i (by omega)).trans (a3 i hi), fun i hi => ?_⟩
  · rw [List.length_append, ← Nat.add_assoc]; exact d2
  · rw [List.length_append] at hi
    rcases Nat.lt_or_ge i l.length with z | z
    · rw [d3 (mk + i) (by omega), a4 i z, gd_l z]
    · have e := d4 (i - l.length) (by omega)
      rw [show mk + l.length + (i - l.length) = mk + i from by omega] at e
      rw [e]
      have g := gd_r (a := l) (b := l') (i - l.length)
      rw [show l.length + (i - l.length) = i from by omega] at g
      exact g.symm
theorem c_widenMk (h : MkL mk σ) (h1 : L.1 1 = nI m) (hm : mk + m ≤ 21504) : Tm (fun k => f_X5_widenMarks k 0 L σ) (fun r => r.1 = (0, 0) ∧ CoP σ r ∧ MrO mk [] σ r.2.1 ∧ mk + m ≤ sN r.2.1 41) := by
  obtain ⟨c1, c2, c3⟩ := h
  have ea : ∀ τ : CS, τ.1 4011 = nI mk → τ.1 4011 + L.1 1 = nI (mk + m) := fun τ e => by rw [e, h1, n_add (by omega)]
  have b2 : ∀ (τ : CS) (n1 n2 : Nat), (n1 + PhC τ ≤ PhC σ ∧ n2 + PhS τ ≤ PhS σ) → MrO mk [] σ τ → mk + m ≤ sN τ 41 → Tm (fun k => f_X5_widenMarks k 1 L τ) (fun q => q.1 = (0, 0) ∧ CoP σ (q.1, q.2.1, (n1 + q.2.2.1, n2 + q.2.2.2)) ∧ MrO mk [] σ q.2.1 ∧ mk + m ≤ sN q.2.1 41) := by
    intro τ n1 n2 co cd hh
    have e1 : τ.1 4011 = nI mk := cd.2.1.1
    have e2 : sN τ 41 ≤ 21504 := cd.2.1.2.2
    refine Tm_suc (fun k => by rw [f_X5_widenMarks]) ?_
    rw [ea τ e1]
    refine Tm_yes ?_ ?_
    · show nI (mk + m) ≤ nI (sN τ 41)
      rw [n_le (by omega) (by omega)]; exact hh
    · refine Tm_suc (fun k => by rw [f_X5_widenMarks]) ?_
      exact Tm_some ⟨rfl, ⟨by show n1 + 0 + PhC τ ≤ _; omega, by show n2 + 0 + PhS τ ≤ _; omega⟩, cd, hh⟩
  refine Tm_suc (fun k => by rw [f_X5_widenMarks]) ?_
  rw [ea σ c1]
  refine Tm_ite (fun c => ?_) (fun c => ?_)
  · have c' : nI (mk + m) ≤ nI (sN σ 41) := c
    rw [n_le (by omega) (by omega)] at c'
    refine Tm_mono (b2 σ 0 0 ⟨by omega, by omega⟩ (MrO_0 ⟨c1, c2, c3⟩) c') (fun q z => ?_)
    rw [Nat.zero_add, Nat.zero_add] at z
    exact z
  · have c' : ¬ nI (mk + m) ≤ nI (sN σ 41) := c
    rw [n_le (by omega) (by omega)] at c'
    have e9 : (21504 : Int32).toNatClampNeg = 21504 := rfl
    have lt : sN σ 41 < 21504 := by omega
    refine Tm_no ?_ ?_
    · show ¬ nI 21504 ≤ nI (sN σ 41)
      rw [n_le (by omega) (by omega)]; omega
    · refine Tm_chk ⟨by decide, by decide, by omega⟩ (Tm_chk (by rw [e9]; exact lt) ?_)
      refine Tm_adR ?_
      have ph := Ph_z41 (σ := σ) lt
      have n41 : sN (uZ σ 41 21504) 41 = 21504 := by show updN (sN σ) 41 21504 41 = _; unfold updN; rw [if_pos rfl]
      refine Tm_mono (b2 (uZ σ 41 21504) 1 21504 ⟨by omega, by omega⟩ ⟨⟨fun _ _ => rfl, rfl, fun k hk => ⟨updG_other hk, if_neg hk⟩, rfl, rfl⟩, ⟨c1, by rw [n41]; show mk + 0 ≤ _; omega, by rw [n41]; exact Nat.le_refl _⟩, fun i hi => ?_, fun i hi => absurd hi (Nat.not_lt_zero _)⟩ (by rw [n41]; exact hm)) (fun q y => y)
      show updG σ.2.2.1 41 (fun i => if i < sN σ 41 then σ.2.2.1 41 i else 0) 41 i = _
      rw [updG_same]
      show (if i < sN σ 41 then σ.2.2.1 41 i else 0) = _
      rw [if_pos (by omega)]
theorem uA_r {τ : CS} {k i : Nat} {x : Int32} : (uA τ k i x).2.2.1 k = upd (τ.2.2.1 k) i x := updG_same
theorem MrO_1 (h : MrO mk [] σ τ) (hn : mk + 1 ≤ sN τ 41) (x : Int32) : MrO mk [x] σ (uI (uA τ 41 mk x) 4011 (nI (mk + 1))) := by
  obtain ⟨h1, ⟨h2, h3, h4⟩, h5, h6⟩ := h
  refine ⟨MkF_t h1 ⟨fun j hj => uI_o hj, rfl, fun k hk => ⟨updG_other hk, rfl⟩, rfl, rfl⟩, ⟨uI_s, hn, h4⟩, fun i hi => ?_, fun i hi => ?_⟩
  · rw [← h5 i hi]
    show updG τ.2.2.1 41 (upd (τ.2.2.1 41) mk x) 41 i = _
    rw [updG_same, upd_other (by omega)]
  · have hi' : i < 1 := hi
    rw [show i = 0 from by omega]
    show updG τ.2.2.1 41 (upd (τ.2.2.1 41) mk x) 41 (mk + 0) = x
    rw [updG_same, Nat.add_zero, upd_same]
theorem c_mark (h : MkL mk σ) (hm : mk + 1 ≤ 21504) : Tm (fun k => f_X5_mark k 0 L σ) (fun r => r.1 = (0, nI mk) ∧ CoP σ r ∧ MrO mk [L.1 1] σ r.2.1) := by
  refine Tm_suc (fun k => by rw [f_X5_mark]) ?_
  refine Tm_oxc (c_widenMk (m := 1) h rfl hm) (fun r z => by rw [z.1]) (fun r z => ?_)
  obtain ⟨z1, z2, z3, z4⟩ := z
  have e1 : r.2.1.1 4011 = nI mk := z3.2.1.1
  have s3 := z3.2.1.2.2
  rw [e1]
  refine Tm_chk (u_in (by rw [u_n (by omega)]; omega) (by omega)) ?_
  rw [n_cl (by omega)]
  have e2 : (uA r.2.1 41 mk (L.1 1)).1 4011 + 1 = nI (mk + 1) := by
    show r.2.1.1 4011 + 1 = _
    rw [e1, n_add1]
  rw [e2]
  refine Tm_some ⟨?_, ?_, MrO_1 z3 z4 _⟩
  · show (0, (uI (uA r.2.1 41 mk (L.1 1)) 4011 (nI (mk + 1))).1 4011 - 1) = _
    rw [uI_s, sub1_n (by omega)]
  · have ph := Ph_s (σ := r.2.1) (σ' := uI (uA r.2.1 41 mk (L.1 1)) 4011 (nI (mk + 1))) rfl
    obtain ⟨p1, p2⟩ := z2
    refine ⟨?_, ?_⟩
    · show r.2.2.1 + 0 + PhC (uI (uA r.2.1 41 mk (L.1 1)) 4011 (nI (mk + 1))) ≤ _
      omega
    · show r.2.2.2 + 0 + PhS (uI (uA r.2.1 41 mk (L.1 1)) 4011 (nI (mk + 1))) ≤ _
      omega
theorem c_postpone (h : MkL mk σ) (hm : mk + 3 ≤ 21504) : Tm (fun k => f_X5_postpone k 0 L σ) (fun r => r.1 = (0, 0) ∧ CoP σ r ∧ MrO mk [L.1 1, L.1 2, L.1 3] σ r.2.1) := by
  refine Tm_suc (fun k => by rw [f_X5_postpone]) ?_
  refine Tm_oxc (c_widenMk (m := 3) h rfl hm) (fun r z => by rw [z.1]) (fun r z => ?_)
  obtain ⟨z1, z2, z3, z4⟩ := z
  have e1 : r.2.1.1 4011 = nI mk := z3.2.1.1
  have s3 := z3.2.1.2.2
  have e2 : nI mk + 1 = nI (mk + 1) := n_add1 mk
  have e3 : nI mk + 2 = nI (mk + 2) := n_add (q := 2) (by omega)
  obtain ⟨p1, p2⟩ := z2
  generalize r.2.1 = τ at *
  have f1 : (uA τ 41 mk (L.1 1)).1 4011 = nI mk := e1
  have f2 : (uA (uA τ 41 mk (L.1 1)) 41 (mk + 1) (L.1 2)).1 4011 = nI mk := e1
  rw [e1]
  refine Tm_chk (u_in (by rw [u_n (by omega)]; omega) (by omega)) ?_
  rw [n_cl (by omega), f1, e2]
  refine Tm_chk (u_in (by rw [u_n (by omega)]; show mk + 1 < sN τ 41; omega) (by show sN τ 41 ≤ _; omega)) ?_
  rw [n_cl (by omega), f2, e3]
  refine Tm_chk (u_in (by rw [u_n (by omega)]; show mk + 2 < sN τ 41; omega) (by show sN τ 41 ≤ _; omega)) ?_
  rw [n_cl (by omega)]
  refine Tm_suc (fun k => by rw [f_X5_postpone]) ?_
  have e4 : (uA (uA (uA τ 41 mk (L.1 1)) 41 (mk + 1) (L.1 2)) 41 (mk + 2) (L.1 3)).1 4011 + 3 = nI (mk + 3) := by
    show τ.1 4011 + 3 = _
    rw [e1]; exact n_add (q := 3) (by omega)
  rw [e4]
  obtain ⟨h1, ⟨h2, h3, h4⟩, h5, h6⟩ := z3
  have rw3 : (uA (uA (uA τ 41 mk (L.1 1)) 41 (mk + 1) (L.1 2)) 41 (mk + 2) (L.1 3)).2.2.1 41 = upd (upd (upd (τ.2.2.1 41) mk (L.1 1)) (mk + 1) (L.1 2)) (mk + 2) (L.1 3) := by
    rw [uA_r, uA_r, uA_r]
  refine Tm_some ⟨rfl, ?_, ⟨MkF_t h1 ⟨fun j hj => ?_, rfl, fun k hk => ⟨?_, rfl⟩, rfl, rfl⟩, ⟨uI_s, z4, h4⟩, fun i hi => ?_, fun i hi => ?_⟩⟩
  · have ph := Ph_s (σ := τ) (σ' := uI (uA (uA (uA τ 41 mk (L.1 1)) 41 (mk + 1) (L.1 2)) 41 (mk + 2) (L.1 3)) 4011 (nI (mk + 3))) rfl
    refine ⟨?_, ?_⟩
    · show r.2.2.1 + 0 + PhC (uI (uA (uA (uA τ 41 mk (L.1 1)) 41 (mk + 1) (L.1 2)) 41 (mk + 2) (L.1 3)) 4011 (nI (mk + 3))) ≤ _
      omega
    · show r.2.2.2 + 0 + PhS (uI (uA (uA (uA τ 41 mk (L.1 1)) 41 (mk + 1) (L.1 2)) 41 (mk + 2) (L.1 3)) 4011 (nI (mk + 3))) ≤ _
      omega
  · exact uI_o hj
  · show updG (updG (updG τ.2.2.1 41 _) 41 _) 41 _ k = _
    rw [updG_other hk, updG_other hk, updG_other hk]
  · show (uA (uA (uA τ 41 mk (L.1 1)) 41 (mk + 1) (L.1 2)) 41 (mk + 2) (L.1 3)).2.2.1 41 i = _
    rw [rw3, upd_other (by omega), upd_other (by omega), upd_other (by omega)]
    exact h5 i hi
  · show (uA (uA (uA τ 41 mk (L.1 1)) 41 (mk + 1) (L.1 2)) 41 (mk + 2) (L.1 3)).2.2.1 41 (mk + i) = _
    have hi' : i < 3 := hi
    rw [rw3]
    rcases (show i = 0 ∨ i = 1 ∨ i = 2 by omega) with w | w | w
    · rw [w, upd_other (by omega), upd_other (by omega), Nat.add_zero, upd_same]; rfl
    · rw [w, upd_other (by omega), upd_same]; rfl
    · rw [w, upd_same]; rfl
end CVC

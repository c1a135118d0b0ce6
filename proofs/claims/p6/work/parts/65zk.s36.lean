/-! Names of iters are told. -/
theorem n_add {p q : Nat} (h : p + q < 2147483648) : nI p + nI q = nI (p + q) := by
  rw [i_eq, i_add (by rw [n_int (by omega), n_int (by omega)]; omega) (by rw [n_int (by omega), n_int (by omega)]; omega), n_int (by omega), n_int (by omega), n_int h]; omega
theorem n_mul60 {w : Nat} (h : w ≤ 42) : (60 : Int32) * nI w = nI (60 * w) := by
  have h60 : (60 : Int32).toInt = 60 := rfl
  rw [i_eq, i_mul (by rw [h60, n_int (by omega)]; omega) (by rw [h60, n_int (by omega)]; omega), h60, n_int (by omega), n_int (by omega)]; omega
theorem nar_b {g : Nat} (h : g ≤ 1) : vp_nar .boolean (nI g) = nI g := by
  have : g = 0 ∨ g = 1 := by omega
  rcases this with rfl | rfl <;> rfl
section PC
variable {T : Nat → Int32} {n : Nat} {E : En} {o q v w : Nat} {b : BT} {σ τ : MS}
theorem PT_c (hs : ∀ j, 4 ≤ j → j ≤ 10 → τ.1 j = σ.1 j) (h3 : τ.2.2 3 = σ.2.2 3) (h1 : τ.2.2 1 = σ.2.2 1) (h : PT T n σ q) : PT T n τ q := by
  obtain ⟨⟨a1, a2⟩, a3, a4, a5, ⟨c1, c2, c3, c4, c5, wv, c6⟩, a6⟩ := h
  exact ⟨⟨(hs 4 (by decide) (by decide)).trans a1, a2⟩, h3.trans a3, h1.trans a4, (hs 10 (by decide) (by decide)).trans a5, ⟨c1, (hs 8 (by decide) (by decide)).trans c2, (hs 5 (by decide) (by decide)).trans c3, (hs 9 (by decide) (by decide)).trans c4, (hs 6 (by decide) (by decide)).trans c5, wv, (hs 7 (by decide) (by decide)).trans c6⟩, a6⟩
theorem PB_c (h22 : τ.1 22 = σ.1 22) (h24 : τ.1 24 = σ.1 24) (hg : ∀ j, (4 ≤ j ∧ j ≤ 9) ∨ j = 12 → τ.2.2 j = σ.2.2 j) (h : PB σ b) : PB τ b := by
  obtain ⟨e1, e2, e3, e4, e5⟩ := h
  exact ⟨h22.trans e1, e2, h24.trans e3, fun j h4 h9 i hi hi2 => by rw [hg j (Or.inl ⟨h4, h9⟩)]; exact e4 j h4 h9 i hi hi2, fun i hi => by rw [hg 12 (Or.inr rfl)]; exact e5 i hi⟩
theorem PV_c (h37 : τ.1 37 = σ.1 37) (h21 : τ.2.2 21 = σ.2.2 21) (h20 : τ.2.2 20 = σ.2.2 20) (h : PV σ w v b) : PV τ w v b := by
  obtain ⟨f1, f2, f3, f4, f5⟩ := h
  exact ⟨h37.trans f1, f2, by rw [h21]; exact f3, f4, fun i hi => by rw [h20]; exact f5 i hi⟩
theorem PF_c (h43 : τ.1 43 = σ.1 43) (h42 : τ.1 42 = σ.1 42) (h18 : τ.2.2 18 = σ.2.2 18) (h : PF σ E) : PF τ E := by
  unfold PF
  rw [h43, h42, h18]; exact h
theorem PN_c (h38 : τ.1 38 = σ.1 38) (h52 : τ.1 52 = σ.1 52) (h25 : τ.1 25 = σ.1 25) (hg : ∀ j, (13 ≤ j ∧ j ≤ 16) ∨ (22 ≤ j ∧ j ≤ 27) → τ.2.2 j = σ.2.2 j) (h : PN σ E b v) : PN τ E b v := by
  unfold PN
  rw [h38, h52, h25, hg 22 (by decide), hg 23 (by decide), hg 24 (by decide), hg 25 (by decide), hg 26 (by decide), hg 27 (by decide), hg 13 (by decide), hg 14 (by decide), hg 15 (by decide), hg 16 (by decide)]; exact h
end PC
section TELL
variable {T : Nat → Int32} {n : Nat} {E : En} {o q v M P w : Nat} {b : BT} {σ : MS}
/-- a slot of the unit's -/
def mSlot (σ : MS) (w v : Nat) (x : Int32) : MS := (σ.1, σ.2.1, updG (updG σ.2.2 20 (upd (σ.2.2 20) (60 * w + v) x)) 21 (upd (σ.2.2 21) w (nI (v + 1))))
theorem mSlot_o {x : Int32} {j : Nat} (h : j ≠ 20) (h2 : j ≠ 21) : (mSlot σ w v x).2.2 j = σ.2.2 j := by
  show updG (updG σ.2.2 20 _) 21 _ j = _
  rw [updG_other h2, updG_other h]
theorem mSlot_21 {x : Int32} : (mSlot σ w v x).2.2 21 = upd (σ.2.2 21) w (nI (v + 1)) := rfl
theorem mSlot_20 {x : Int32} : (mSlot σ w v x).2.2 20 = upd (σ.2.2 20) (60 * w + v) x := rfl
theorem PS_slot (h : PS T n E o q v b σ) (hv : v < 60) (x : Int32) : PS T n E o q (v + 1) (bSlot b (60 * E.2.2.2.1 + v) x) (mSlot σ E.2.2.2.1 v x) := by
  obtain ⟨hT, hO, hB, ⟨f1, f2, f3, f4, f5⟩, ⟨⟨g1, g2, g3⟩, ⟨g4, g5, g6⟩, g7⟩, hF⟩ := h
  have oo : ∀ j, j ≠ 20 → j ≠ 21 → (mSlot σ E.2.2.2.1 v x).2.2 j = σ.2.2 j := fun j a b => mSlot_o a b
  refine ⟨PT_c (fun _ _ _ => rfl) (oo 3 (by decide) (by decide)) (oo 1 (by decide) (by decide)) hT, hO, PB_c (σ := σ) (b := bSlot b (60 * E.2.2.2.1 + v) x) rfl rfl (fun j hj => oo j (by omega) (by omega)) hB, ⟨f1, f2, ?_, by omega, fun i hi => ?_⟩, PN_c (σ := σ) (b := bSlot b (60 * E.2.2.2.1 + v) x) rfl rfl rfl (fun j hj => oo j (by omega) (by omega)) ⟨⟨g1, by omega, g3⟩, ⟨g4, by omega, g6⟩, g7⟩, PF_c rfl rfl (oo 18 (by decide) (by decide)) hF⟩
  · rw [mSlot_21, upd_same]
  · rw [mSlot_20]
    show _ = upd b.2.2.2.2 (60 * E.2.2.2.1 + v) x (60 * E.2.2.2.1 + i)
    by_cases hi2 : i = v
    · subst hi2; rw [upd_same, upd_same]
    · rw [upd_other (by omega), upd_other (by omega)]; exact f5 i (by omega)
theorem FrM_slot (hv : v < 60) (x : Int32) : FrM M P w σ (mSlot σ w v x) := by
  refine ⟨fun _ _ => rfl, rfl, fun j hj => mSlot_o (by omega) (by omega), fun j h4 h9 i _ _ => by rw [mSlot_o (by omega) (by omega)], fun i _ => by rw [mSlot_o (by decide) (by decide)], fun i hi => ?_, fun i hi => ?_⟩
  · rw [mSlot_21, upd_other hi]
  · rw [mSlot_20, upd_other (by omega)]
theorem p_newSlot (h : PS T n E o q v b σ) {g : Nat} (hg : g ≤ 1) {L : Nat → Int32} (hL : L 1 = nI g) : Tm (fun k => x_newSlot k 0 L σ) (fun r => FrM M P E.2.2.2.1 σ r.2 ∧ ((v = 60 ∧ Bb b.1 r.2) ∨ (v < 60 ∧ r = (nI v, mSlot σ E.2.2.2.1 v (nI g)) ∧ PS T n E o q (v + 1) (bSlot b (60 * E.2.2.2.1 + v) (nI g)) r.2))) := by
  have h0 := h
  obtain ⟨f1, f2, f3, f4, f5⟩ := h.2.2.2.1
  have hi : ¬ (nI E.2.2.2.1 < 0 ∨ 43 ≤ (nI E.2.2.2.1).toNatClampNeg) := n_in (by omega) (by omega)
  have hc : (nI E.2.2.2.1).toNatClampNeg = E.2.2.2.1 := n_cl (by omega)
  refine Tm_suc (fun k => by rw [x_newSlot]) ?_
  rw [f1]
  refine Tm_chk hi ?_
  rw [hc, f3]
  refine Tm_ite (fun c => ?_) (fun c => ?_)
  · have c : nI v = nI 60 := c
    rw [n_eq (by omega) (by omega)] at c
    refine Tm_ob (p_fault (M := M) (P := P) (w := E.2.2.2.1) h0 _) (fun r hr => ?_)
    exact Tm_some ⟨hr.2, Or.inl ⟨c, hr.1⟩⟩
  · have c : ¬ nI v = nI 60 := c
    rw [n_eq (by omega) (by omega)] at c
    have hv : v < 60 := by omega
    refine Tm_suc (fun k => by rw [x_newSlot]) ?_
    rw [f1]
    refine Tm_chk hi ?_
    rw [hc, f3, n_mul60 f2, n_add (by omega)]
    refine Tm_chk (n_in (by omega) (by omega)) ?_
    rw [n_cl (p := 60 * E.2.2.2.1 + v) (by omega), hL, nar_b hg]
    have e21 : (updG σ.2.2 20 (upd (σ.2.2 20) (60 * E.2.2.2.1 + v) (nI g))) 21 = σ.2.2 21 := updG_other (by decide)
    refine Tm_suc (fun k => by rw [x_newSlot]) ?_
    show Tm (fun k => if ¬ (σ.1 37 < 0 ∨ 43 ≤ (σ.1 37).toNatClampNeg) then (if ¬ (σ.1 37 < 0 ∨ 43 ≤ (σ.1 37).toNatClampNeg) then x_newSlot k 3 L (σ.1, σ.2.1, updG (updG σ.2.2 20 (upd (σ.2.2 20) (60 * E.2.2.2.1 + v) (nI g))) 21 (upd ((updG σ.2.2 20 (upd (σ.2.2 20) (60 * E.2.2.2.1 + v) (nI g))) 21) (σ.1 37).toNatClampNeg ((updG σ.2.2 20 (upd (σ.2.2 20) (60 * E.2.2.2.1 + v) (nI g))) 21 (σ.1 37).toNatClampNeg + 1))) else none) else none) _
    rw [f1]
    refine Tm_chk hi ?_
    refine Tm_chk hi ?_
    rw [hc, e21, f3, n_add1]
    refine Tm_suc (fun k => by rw [x_newSlot]) ?_
    show Tm (fun k => if ¬ (σ.1 37 < 0 ∨ 43 ≤ (σ.1 37).toNatClampNeg) then some ((mSlot σ E.2.2.2.1 v (nI g)).2.2 21 (σ.1 37).toNatClampNeg - 1, mSlot σ E.2.2.2.1 v (nI g)) else none) _
    rw [f1]
    refine Tm_chk hi ?_
    rw [hc, show (mSlot σ E.2.2.2.1 v (nI g)).2.2 21 E.2.2.2.1 = nI (v + 1) from by rw [mSlot_21, upd_same], show (nI (v + 1) - 1 : Int32) = nI (v + 1) - nI 1 from rfl, n_sub (by omega) (by omega)]
    exact Tm_some ⟨FrM_slot hv _, Or.inr ⟨hv, rfl, PS_slot h0 hv _⟩⟩
/-- a row of names, pushed -/
def mRowP (σ : MS) (r : Nat) (x y z : Int32) : MS := (upd σ.1 52 (nI (r + 1)), σ.2.1, updG (updG (updG σ.2.2 25 (upd (σ.2.2 25) r x)) 26 (upd (σ.2.2 26) r y)) 27 (upd (σ.2.2 27) r z))
theorem mRowP_o {r : Nat} {x y z : Int32} {j : Nat} (h : j < 25 ∨ 27 < j) : (mRowP σ r x y z).2.2 j = σ.2.2 j := by
  show updG (updG (updG σ.2.2 25 _) 26 _) 27 _ j = _
  rw [updG_other (by omega), updG_other (by omega), updG_other (by omega)]
theorem mRowP_s {r : Nat} {x y z : Int32} {j : Nat} (h : j ≠ 52) : (mRowP σ r x y z).1 j = σ.1 j := upd_other h
theorem PS_row (h : PS T n E o q v b σ) (nm : Nm) (hl : E.2.2.1.length + 1 ≤ v) (hp : nm.2.1 + nm.1.length ≤ b.2.1) (hs : nm.2.2 < 60) (hc : ∀ i, i < nm.1.length → b.2.2.2.1 (nm.2.1 + i) = nm.1.getD i 0) : PS T n (rowN E [nm]) o q v b (mRowP σ E.2.2.1.length (nI nm.2.1) (nI nm.1.length) (nI nm.2.2)) := by
  obtain ⟨hT, hO, hB, hV, ⟨⟨g1, g2, g3⟩, ⟨g4, g5, g6⟩, ⟨g7, g8, g9⟩⟩, hF⟩ := h
  have e25 : (mRowP σ E.2.2.1.length (nI nm.2.1) (nI nm.1.length) (nI nm.2.2)).2.2 25 = upd (σ.2.2 25) E.2.2.1.length (nI nm.2.1) := rfl
  have e26 : (mRowP σ E.2.2.1.length (nI nm.2.1) (nI nm.1.length) (nI nm.2.2)).2.2 26 = upd (σ.2.2 26) E.2.2.1.length (nI nm.1.length) := rfl
  have e27 : (mRowP σ E.2.2.1.length (nI nm.2.1) (nI nm.1.length) (nI nm.2.2)).2.2 27 = upd (σ.2.2 27) E.2.2.1.length (nI nm.2.2) := rfl
  refine ⟨PT_c (fun j _ _ => mRowP_s (by omega)) (mRowP_o (by decide)) (mRowP_o (by decide)) hT, ⟨(mRowP_s (by decide)).trans hO.1, hO.2⟩, PB_c (mRowP_s (by decide)) (mRowP_s (by decide)) (fun j hj => mRowP_o (by omega)) hB, PV_c (mRowP_s (by decide)) (mRowP_o (by decide)) (mRowP_o (by decide)) hV, ⟨⟨(mRowP_s (by decide)).trans g1, g2, ?_⟩, ⟨?_, hl, ?_⟩, ⟨(mRowP_s (by decide)).trans g7, g8, ?_⟩⟩, PF_c (mRowP_s (by decide)) (mRowP_s (by decide)) (mRowP_o (by decide)) hF⟩
  · rw [mRowP_o (by decide), mRowP_o (by decide), mRowP_o (by decide)]; exact g3
  · exact (upd_same : upd σ.1 52 (nI (E.2.2.1.length + 1)) 52 = _)
  · rw [e25, e26, e27]
    refine ⟨⟨upd_same, upd_same, upd_same, hp, hs, hc⟩, rowsOK_mono _ (fun i hi => ?_) (fun _ _ => rfl) (Nat.le_refl _) g6⟩
    have hi : i < E.2.2.1.length := hi
    exact ⟨upd_other (by omega), upd_other (by omega), upd_other (by omega)⟩
  · rw [mRowP_o (by decide), mRowP_o (by decide), mRowP_o (by decide), mRowP_o (by decide)]; exact g9
theorem FrM_row {r : Nat} {x y z : Int32} : FrM M P w σ (mRowP σ r x y z) :=
  ⟨fun j hj => mRowP_s (by omega), rfl, fun j hj => mRowP_o (by omega), fun j h4 h9 i _ _ => by rw [mRowP_o (by omega)], fun i _ => by rw [mRowP_o (by decide)], fun i hi => by rw [mRowP_o (by decide)], fun i hi => by rw [mRowP_o (by decide)]⟩
/-- a row of names that are seen, pushed -/
def mSeeP (σ : MS) (r : Nat) (x y z : Int32) : MS := (upd σ.1 38 (nI (r + 1)), σ.2.1, updG (updG (updG σ.2.2 22 (upd (σ.2.2 22) r x)) 23 (upd (σ.2.2 23) r y)) 24 (upd (σ.2.2 24) r z))
theorem mSeeP_o {r : Nat} {x y z : Int32} {j : Nat} (h : j < 22 ∨ 24 < j) : (mSeeP σ r x y z).2.2 j = σ.2.2 j := by
  show updG (updG (updG σ.2.2 22 _) 23 _) 24 _ j = _
  rw [updG_other (by omega), updG_other (by omega), updG_other (by omega)]
theorem mSeeP_s {r : Nat} {x y z : Int32} {j : Nat} (h : j ≠ 38) : (mSeeP σ r x y z).1 j = σ.1 j := upd_other h
theorem PS_see (h : PS T n E o q v b σ) (nm : Nm) (hl : E.2.1.length + 1 ≤ v) (hp : nm.2.1 + nm.1.length ≤ b.2.1) (hs : nm.2.2 < 60) (hc : ∀ i, i < nm.1.length → b.2.2.2.1 (nm.2.1 + i) = nm.1.getD i 0) : PS T n (seeN E [nm]) o q v b (mSeeP σ E.2.1.length (nI nm.2.1) (nI nm.1.length) (nI nm.2.2)) := by
  obtain ⟨hT, hO, hB, hV, ⟨⟨g1, g2, g3⟩, ⟨g4, g5, g6⟩, ⟨g7, g8, g9⟩⟩, hF⟩ := h
  have e25 : (mSeeP σ E.2.1.length (nI nm.2.1) (nI nm.1.length) (nI nm.2.2)).2.2 22 = upd (σ.2.2 22) E.2.1.length (nI nm.2.1) := rfl
  have e26 : (mSeeP σ E.2.1.length (nI nm.2.1) (nI nm.1.length) (nI nm.2.2)).2.2 23 = upd (σ.2.2 23) E.2.1.length (nI nm.1.length) := rfl
  have e27 : (mSeeP σ E.2.1.length (nI nm.2.1) (nI nm.1.length) (nI nm.2.2)).2.2 24 = upd (σ.2.2 24) E.2.1.length (nI nm.2.2) := rfl
  refine ⟨PT_c (fun j _ _ => mSeeP_s (by omega)) (mSeeP_o (by decide)) (mSeeP_o (by decide)) hT, ⟨(mSeeP_s (by decide)).trans hO.1, hO.2⟩, PB_c (mSeeP_s (by decide)) (mSeeP_s (by decide)) (fun j hj => mSeeP_o (by omega)) hB, PV_c (mSeeP_s (by decide)) (mSeeP_o (by decide)) (mSeeP_o (by decide)) hV, ⟨⟨?_, hl, ?_⟩, ⟨(mSeeP_s (by decide)).trans g4, g5, ?_⟩, ⟨(mSeeP_s (by decide)).trans g7, g8, ?_⟩⟩, PF_c (mSeeP_s (by decide)) (mSeeP_s (by decide)) (mSeeP_o (by decide)) hF⟩
  · exact (upd_same : upd σ.1 38 (nI (E.2.1.length + 1)) 38 = _)
  · rw [e25, e26, e27]
    refine ⟨⟨upd_same, upd_same, upd_same, hp, hs, hc⟩, rowsOK_mono _ (fun i hi => ?_) (fun _ _ => rfl) (Nat.le_refl _) g3⟩
    have hi : i < E.2.1.length := hi
    exact ⟨upd_other (by omega), upd_other (by omega), upd_other (by omega)⟩
  · rw [mSeeP_o (by decide), mSeeP_o (by decide), mSeeP_o (by decide)]; exact g6
  · rw [mSeeP_o (by decide), mSeeP_o (by decide), mSeeP_o (by decide), mSeeP_o (by decide)]; exact g9
theorem FrM_see {r : Nat} {x y z : Int32} : FrM M P w σ (mSeeP σ r x y z) :=
  ⟨fun j hj => mSeeP_s (by omega), rfl, fun j hj => mSeeP_o (by omega), fun j h4 h9 i _ _ => by rw [mSeeP_o (by omega)], fun i _ => by rw [mSeeP_o (by decide)], fun i hi => by rw [mSeeP_o (by decide)], fun i hi => by rw [mSeeP_o (by decide)]⟩
theorem s_see {r : Nat} (h : σ.1 38 = nI r) (hr : r < 400) (L : Nat → Int32) : Tm (fun k => x_see k 0 L σ) (fun z => z = (0, mSeeP σ r (L 1) (L 2) (L 3))) := by
  have hi : ¬ (nI r < 0 ∨ 400 ≤ (nI r).toNatClampNeg) := n_in (by omega) hr
  have hc : (nI r).toNatClampNeg = r := n_cl (by omega)
  refine Tm_suc (fun k => by rw [x_see]) ?_
  rw [h]
  refine Tm_chk hi ?_
  refine Tm_suc (fun k => by rw [x_see]) ?_
  rw [h]
  refine Tm_chk hi ?_
  refine Tm_suc (fun k => by rw [x_see]) ?_
  rw [h]
  refine Tm_chk hi ?_
  refine Tm_suc (fun k => by rw [x_see]) ?_
  rw [h, n_add1, hc]
  exact Tm_some rfl
end TELL

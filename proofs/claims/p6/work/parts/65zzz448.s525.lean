/-! The class: the frame among declarations; a unit is opened. -/
section DYC
variable {σ σ' σ0 σ2 τ τ' τ0 : CS} {L L2 : LV} {b : Bool} {T : Nat → Int32} {n q q' q0 u al o v mk mk' p sz sz' szB nc nc0 sz0 mk0 a1 a2 m kk f w st w' st' r0 c vg vg' vg0 N N0 : Nat} {y qh : Int32} {l l' cs cs' : List Int32} {tb tb' es : List Ent} {E E' E0 E1 : En} {bt : BT} {lo : Option Nat} {α β : Type} {S : α → Int32 → CS → Prop} {x : Option α} {C : Prop} {bs : List Int32}
/-- rows of a program's names and units -/
abbrev pRw (b : Bool) (k : Nat) : Prop := (k = pR7 b ∨ k = pR8 b ∨ k = pR9 b ∨ k = pR10 b ∨ k = pR13 b) ∨ (k = pR14 b ∨ k = pR15 b ∨ k = pR16 b ∨ k = pR17 b ∨ k = pR18 b)
/-- what the reading of a program leaves -/
def DK (b : Bool) (sz : Nat) (σ σ' : CS) : Prop := ((∀ j, ¬ (j = 404 ∨ (3702 ≤ j ∧ j ≤ 3704) ∨ (4003 ≤ j ∧ j ≤ 4020) ∨ (fP b 1 ≤ j ∧ j ≤ fP b 19)) → σ'.1 j = σ.1 j) ∧ (∀ j, ¬ (j = 3705 ∨ j = 3706) → σ'.2.1 j = σ.2.1 j)) ∧ ((∀ k, ¬ ((5 ≤ k ∧ k ≤ 11) ∨ (41 ≤ k ∧ k ≤ 43) ∨ k = 51 ∨ pRw b k) → σ'.2.2.1 k = σ.2.2.1 k) ∧ (∀ k, ¬ ((41 ≤ k ∧ k ≤ 43) ∨ k = 51) → sN σ' k = sN σ k) ∧ (∀ k, ¬ (k = pR5 b ∨ k = pR6 b) → σ'.2.2.2.1 k = σ.2.2.2.1 k)) ∧ ((sCur σ' = sCur σ ∧ sOt σ' = sOt σ ∧ sPr σ' = sPr σ ∧ sPp σ' = sPp σ) ∧ (∀ c, ¬ c = b → sKd σ' c = sKd σ c) ∧ σ'.2.2.2.2.2.2 = σ.2.2.2.2.2.2) ∧ (∀ i, i < sz → cdr b σ' i = cdr b σ i ∧ cdr (!b) σ' i = cdr (!b) σ i) ∧ (sz ≤ cdn b σ' ∧ (cdn b σ' = 36864 ∨ (sN σ' 43 = 1024 ∧ sN σ' 51 = 1024))) ∧ sN σ' 41 ≤ 21504 ∧ (sN σ' 42 = sN σ 42 ∨ sN σ' 42 = 16384) ∧ (σ'.2.2.1 (pR18 b) 41 = σ.2.2.1 (pR18 b) 41 ∧ σ'.2.2.1 (pR14 b) 41 = σ.2.2.1 (pR14 b) 41)
theorem DK_t (a : DK b sz σ σ') (d : DK b sz' σ' σ2) (h2 : sz ≤ sz') : DK b sz σ σ2 := by
  obtain ⟨⟨a1, a2⟩, ⟨a3, a4, a5⟩, ⟨⟨a6, a7, a8, a9⟩, a10, a11⟩, a12, a13, a14, a15, a16⟩ := a
  obtain ⟨⟨d1, d2⟩, ⟨d3, d4, d5⟩, ⟨⟨d6, d7, d8, d9⟩, d10, d11⟩, d12, d13, d14, d15, d16⟩ := d
  exact ⟨⟨fun j hj => (d1 j hj).trans (a1 j hj), fun j hj => (d2 j hj).trans (a2 j hj)⟩, ⟨fun k hk => (d3 k hk).trans (a3 k hk), fun k hk => (d4 k hk).trans (a4 k hk), fun k hk => (d5 k hk).trans (a5 k hk)⟩, ⟨⟨d6.trans a6, d7.trans a7, d8.trans a8, d9.trans a9⟩, fun c hc => (d10 c hc).trans (a10 c hc), d11.trans a11⟩, fun i hi => ⟨(d12 i (by omega)).1.trans (a12 i hi).1, (d12 i (by omega)).2.trans (a12 i hi).2⟩, ⟨by omega, d13.2⟩, d14, by omega, d16.1.trans a16.1, d16.2.trans a16.2⟩
theorem fP_19 (b : Bool) : fP b 1 ≤ fP b 3 ∧ fP b 3 ≤ fP b 19 ∧ fP b 1 ≤ fP b 11 ∧ fP b 11 ≤ fP b 19 ∧ fP b 1 ≤ fP b 12 ∧ fP b 12 ≤ fP b 19 ∧ fP b 1 ≤ fP b 2 ∧ fP b 2 ≤ fP b 19 ∧ fP b 1 ≤ fP b 4 ∧ fP b 4 ≤ fP b 19 ∧ ((5001 ≤ fP b 1 ∧ fP b 19 ≤ 5019) ∨ (6801 ≤ fP b 1 ∧ fP b 19 ≤ 6819)) := by cases b <;> decide
theorem DK_Z (h : ZK b u nc sz mk σ σ') (hu : ¬ u = 41 := by omega) : DK b sz σ σ' := by
  obtain ⟨⟨d1, d2⟩, ⟨d3, d4, d5⟩, d6, d12, d13, d14, d15, d16, d17, d18⟩ := h
  have f := fP_19 b
  refine ⟨⟨fun j hj => d1 j (fun z => hj ?_), d2⟩, ⟨fun k hk => d3 k (fun z => hk ?_), d4, d5⟩, d6, d14, d16, d17.2, d18, (d12 41 (fun z => hu z.symm)).2, congrFun (d3 (pR14 b) (by cases b <;> decide)) 41⟩
  · obtain ⟨f1, f2, f3, f4, _⟩ := f
    clear d1 d2 d3 d4 d5 d6 d12 d13 d14 d15 d16 d17 d18 hj
    rcases z with z | z | z | z | z | z | z
    · exact Or.inl z
    · exact Or.inr (Or.inl z)
    · exact Or.inr (Or.inr (Or.inl ⟨by omega, z.2⟩))
    · exact Or.inr (Or.inr (Or.inr ⟨by omega, by omega⟩))
    · exact Or.inr (Or.inr (Or.inr ⟨by omega, by omega⟩))
    · exact Or.inr (Or.inr (Or.inr ⟨by omega, by omega⟩))
    · exact Or.inr (Or.inr (Or.inr ⟨by omega, by omega⟩))
  · rcases z with z | z | z | z | z | z | z | z | z | z
    · exact Or.inl z
    · exact Or.inr (Or.inl z)
    · exact Or.inr (Or.inr (Or.inl z))
    · exact Or.inr (Or.inr (Or.inr (Or.inl (Or.inl z))))
    · exact Or.inr (Or.inr (Or.inr (Or.inl (Or.inr (Or.inl z)))))
    · exact Or.inr (Or.inr (Or.inr (Or.inl (Or.inr (Or.inr (Or.inl z))))))
    · exact Or.inr (Or.inr (Or.inr (Or.inl (Or.inr (Or.inr (Or.inr (Or.inl z)))))))
    · exact Or.inr (Or.inr (Or.inr (Or.inr (Or.inr (Or.inr (Or.inl z))))))
    · exact Or.inr (Or.inr (Or.inr (Or.inr (Or.inr (Or.inr (Or.inr (Or.inl z)))))))
    · exact Or.inr (Or.inr (Or.inr (Or.inr (Or.inr (Or.inr (Or.inr (Or.inr z)))))))
theorem DK_X (hx : XK b u nc sz mk σ σ') : DK b sz σ σ' := by
  have e18 := hx.2.1.1 (pR18 b) (by cases b <;> decide)
  have h := ZK_of hx
  obtain ⟨⟨d1, d2⟩, ⟨d3, d4, d5⟩, d6, d12, d13, d14, d15, d16, d17, d18⟩ := h
  have f := fP_19 b
  refine ⟨⟨fun j hj => d1 j (fun z => hj ?_), d2⟩, ⟨fun k hk => d3 k (fun z => hk ?_), d4, d5⟩, d6, d14, d16, d17.2, d18, congrFun e18 41, congrFun (d3 (pR14 b) (by cases b <;> decide)) 41⟩
  · obtain ⟨f1, f2, f3, f4, _⟩ := f
    clear d1 d2 d3 d4 d5 d6 d12 d13 d14 d15 d16 d17 d18 hj
    rcases z with z | z | z | z | z | z | z
    · exact Or.inl z
    · exact Or.inr (Or.inl z)
    · exact Or.inr (Or.inr (Or.inl ⟨by omega, z.2⟩))
    · exact Or.inr (Or.inr (Or.inr ⟨by omega, by omega⟩))
    · exact Or.inr (Or.inr (Or.inr ⟨by omega, by omega⟩))
    · exact Or.inr (Or.inr (Or.inr ⟨by omega, by omega⟩))
    · exact Or.inr (Or.inr (Or.inr ⟨by omega, by omega⟩))
  · rcases z with z | z | z | z | z | z | z | z | z | z
    · exact Or.inl z
    · exact Or.inr (Or.inl z)
    · exact Or.inr (Or.inr (Or.inl z))
    · exact Or.inr (Or.inr (Or.inr (Or.inl (Or.inl z))))
    · exact Or.inr (Or.inr (Or.inr (Or.inl (Or.inr (Or.inl z)))))
    · exact Or.inr (Or.inr (Or.inr (Or.inl (Or.inr (Or.inr (Or.inl z))))))
    · exact Or.inr (Or.inr (Or.inr (Or.inl (Or.inr (Or.inr (Or.inr (Or.inl z)))))))
    · exact Or.inr (Or.inr (Or.inr (Or.inr (Or.inr (Or.inr (Or.inl z))))))
    · exact Or.inr (Or.inr (Or.inr (Or.inr (Or.inr (Or.inr (Or.inr (Or.inl z)))))))
    · exact Or.inr (Or.inr (Or.inr (Or.inr (Or.inr (Or.inr (Or.inr (Or.inr z)))))))
theorem DK_r (h1 : sz ≤ cdn b σ ∧ (cdn b σ = 36864 ∨ (sN σ 43 = 1024 ∧ sN σ 51 = 1024))) (h2 : sN σ 41 ≤ 21504) : DK b sz σ σ := ⟨⟨fun _ _ => rfl, fun _ _ => rfl⟩, ⟨fun _ _ => rfl, fun _ _ => rfl, fun _ _ => rfl⟩, ⟨⟨rfl, rfl, rfl, rfl⟩, fun _ _ => rfl, rfl⟩, fun _ _ => ⟨rfl, rfl⟩, h1, h2, Or.inl rfl, rfl, rfl⟩
theorem DK_q (h : QS T n b u al tb o q v mk p sz σ) : DK b sz σ σ := DK_r h.2.1.2 h.2.2.1.2.2
/-- what a method leaves, among declarations -/
def DPo (b : Bool) (sz0 : Nat) {α : Type} (x : Option α) (S : α → Int32 → CS → Prop) (σ0 : CS) (a1 a2 : Nat) (r : RS) : Prop := (∀ t, x = some t → r.1.1 = 0 ∧ S t r.1.2 r.2.1) ∧ (x = none → r.1.1 = 1) ∧ (r.1.1 = 0 → a1 + r.2.2.1 + PhC r.2.1 ≤ PhC σ0 ∧ a2 + r.2.2.2 + PhS r.2.1 ≤ PhS σ0) ∧ (¬ r.1.1 = 0 → a1 + r.2.2.1 + PhC r.2.1 ≤ PhC σ0 + 1 ∧ a2 + r.2.2.2 + PhS r.2.1 ≤ PhS σ0 + 6) ∧ DK b sz0 σ0 r.2.1
theorem DPo_s {n1 n2 : Nat} {r : RS} (h : DPo b sz0 x S σ0 (a1 + n1) (a2 + n2) r) : DPo b sz0 x S σ0 a1 a2 (r.1, r.2.1, (n1 + r.2.2.1, n2 + r.2.2.2)) := by
  obtain ⟨h1, h2, h3, h4, h5⟩ := h
  refine ⟨h1, h2, fun z => ?_, fun z => ?_, h5⟩
  · have y := h3 z
    show a1 + (n1 + r.2.2.1) + PhC r.2.1 ≤ PhC σ0 ∧ a2 + (n2 + r.2.2.2) + PhS r.2.1 ≤ PhS σ0
    omega
  · have y := h4 z
    show a1 + (n1 + r.2.2.1) + PhC r.2.1 ≤ PhC σ0 + 1 ∧ a2 + (n2 + r.2.2.2) + PhS r.2.1 ≤ PhS σ0 + 6
    omega
/-- within a method that began at σ0 -/
def Dy (b : Bool) (σ0 : CS) (sz0 a1 a2 : Nat) (τ : CS) : Prop := DK b sz0 σ0 τ ∧ a1 + PhC τ ≤ PhC σ0 ∧ a2 + PhS τ ≤ PhS σ0
theorem Dy_0 (h : QS T n b u al tb o q v mk p sz σ) : Dy b σ sz 0 0 σ := ⟨DK_q h, by omega, by omega⟩
theorem Dfin {t : α} (h : Dy b σ0 sz0 a1 a2 τ) (hs : S t y τ) : DPo b sz0 (some t) S σ0 a1 a2 ((0, y), τ, (0, 0)) := ⟨fun t' e => by cases e; exact ⟨rfl, hs⟩, fun e => (by cases e), fun _ => ⟨by have := h.2.1; show a1 + 0 + PhC τ ≤ _; omega, by have := h.2.2; show a2 + 0 + PhS τ ≤ _; omega⟩, fun z => absurd rfl z, h.1⟩
/-- a call within, of the frame among declarations -/
theorem dt_callD {z : Option β} {R : β → Int32 → CS → Prop} {g : Nat → Option RS} {f : Nat → RS → Option RS} (h : Dy b σ0 sz0 a1 a2 τ) (hs : sz0 ≤ sz) (t : Tm g (DPo b sz z R τ 0 0)) (hx : (z = none ∧ x = none) ∨ ∃ s, z = some s ∧ ∀ (τ' : CS) (ret : Int32) (n1 n2 : Nat), R s ret τ' → DK b sz τ τ' → Dy b σ0 sz0 (a1 + n1) (a2 + n2) τ' → Tm (fun k => f k ((0, ret), τ', (n1, n2))) (DPo b sz0 x S σ0 (a1 + n1) (a2 + n2))) : Tm (fun k => ox (g k) (f k)) (DPo b sz0 x S σ0 a1 a2) := by
  obtain ⟨h1, h2, h3⟩ := h
  refine Tm_ox t (fun r w nz => ?_) (fun r w e0 => ?_)
  · rcases hx with ⟨e1, e2⟩ | ⟨s, e1, _⟩
    · rw [e2]
      refine ⟨fun t' e => (by cases e), fun _ => w.2.1 e1, fun z => absurd z nz, fun z => ?_, DK_t h1 w.2.2.2.2 hs⟩
      have y := w.2.2.2.1 z
      omega
    · exact absurd (w.1 s e1).1 nz
  · rcases hx with ⟨e1, e2⟩ | ⟨s, e1, cont⟩
    · exact absurd (w.2.1 e1) (by rw [e0]; decide)
    · have y := w.2.2.1 e0
      have k := cont r.2.1 r.1.2 r.2.2.1 r.2.2.2 (w.1 s e1).2 w.2.2.2.2 ⟨DK_t h1 w.2.2.2.2 hs, by omega, by omega⟩
      have er : ((0, r.1.2), r.2.1, (r.2.2.1, r.2.2.2)) = r := by
        rw [← e0]
      rw [er] at k
      exact Tm_mono k (fun q z => DPo_s z)
theorem DPo_Z {r : RS} (h : ZPo b u nc sz mk x S σ0 a1 a2 r) (hu : ¬ u = 41 := by omega) : DPo b sz x S σ0 a1 a2 r := ⟨h.1, h.2.1, h.2.2.1, h.2.2.2.1, DK_Z h.2.2.2.2 hu⟩
theorem dt_callZ {z : Option β} {R : β → Int32 → CS → Prop} {g : Nat → Option RS} {f : Nat → RS → Option RS} (h : Dy b σ0 sz0 a1 a2 τ) (hs : sz0 ≤ sz) (t : Tm g (ZPo b u nc sz mk z R τ 0 0)) (hx : (z = none ∧ x = none) ∨ ∃ s, z = some s ∧ ∀ (τ' : CS) (ret : Int32) (n1 n2 : Nat), R s ret τ' → ZK b u nc sz mk τ τ' → Dy b σ0 sz0 (a1 + n1) (a2 + n2) τ' → Tm (fun k => f k ((0, ret), τ', (n1, n2))) (DPo b sz0 x S σ0 (a1 + n1) (a2 + n2))) (hu : ¬ u = 41 := by omega) : Tm (fun k => ox (g k) (f k)) (DPo b sz0 x S σ0 a1 a2) := by
  obtain ⟨h1, h2, h3⟩ := h
  refine Tm_ox t (fun r w nz => ?_) (fun r w e0 => ?_)
  · rcases hx with ⟨e1, e2⟩ | ⟨s, e1, _⟩
    · rw [e2]
      refine ⟨fun t' e => (by cases e), fun _ => w.2.1 e1, fun z => absurd z nz, fun z => ?_, DK_t h1 (DK_Z w.2.2.2.2 hu) hs⟩
      have y := w.2.2.2.1 z
      omega
    · exact absurd (w.1 s e1).1 nz
  · rcases hx with ⟨e1, e2⟩ | ⟨s, e1, cont⟩
    · exact absurd (w.2.1 e1) (by rw [e0]; decide)
    · have y := w.2.2.1 e0
      have k := cont r.2.1 r.1.2 r.2.2.1 r.2.2.2 (w.1 s e1).2 w.2.2.2.2 ⟨DK_t h1 (DK_Z w.2.2.2.2 hu) hs, by omega, by omega⟩
      have er : ((0, r.1.2), r.2.1, (r.2.2.1, r.2.2.2)) = r := by
        rw [← e0]
      rw [er] at k
      exact Tm_mono k (fun q z => DPo_s z)
theorem dt_callQ {z : Option β} {R : β → Int32 → CS → Prop} {g : Nat → Option RS} {f : Nat → RS → Option RS} (h : Dy b σ0 sz0 a1 a2 τ) (hs : sz0 ≤ sz) (t : Tm g (QPo b u nc sz mk z R τ 0 0)) (hx : (z = none ∧ x = none) ∨ ∃ s, z = some s ∧ ∀ (τ' : CS) (ret : Int32) (n1 n2 : Nat), R s ret τ' → XK b u nc sz mk τ τ' → Dy b σ0 sz0 (a1 + n1) (a2 + n2) τ' → Tm (fun k => f k ((0, ret), τ', (n1, n2))) (DPo b sz0 x S σ0 (a1 + n1) (a2 + n2))) : Tm (fun k => ox (g k) (f k)) (DPo b sz0 x S σ0 a1 a2) := by
  obtain ⟨h1, h2, h3⟩ := h
  refine Tm_ox t (fun r w nz => ?_) (fun r w e0 => ?_)
  · rcases hx with ⟨e1, e2⟩ | ⟨s, e1, _⟩
    · rw [e2]
      refine ⟨fun t' e => (by cases e), fun _ => w.2.1 e1, fun z => absurd z nz, fun z => ?_, DK_t h1 (DK_X w.2.2.2.2) hs⟩
      have y := w.2.2.2.1 z
      omega
    · exact absurd (w.1 s e1).1 nz
  · rcases hx with ⟨e1, e2⟩ | ⟨s, e1, cont⟩
    · exact absurd (w.2.1 e1) (by rw [e0]; decide)
    · have y := w.2.2.1 e0
      have k := cont r.2.1 r.1.2 r.2.2.1 r.2.2.2 (w.1 s e1).2 w.2.2.2.2 ⟨DK_t h1 (DK_X w.2.2.2.2) hs, by omega, by omega⟩
      have er : ((0, r.1.2), r.2.1, (r.2.2.1, r.2.2.2)) = r := by
        rw [← e0]
      rw [er] at k
      exact Tm_mono k (fun q z => DPo_s z)
theorem dt_ref {f : Nat → RS → Option RS} (h : QS T n b u al tb o q v mk p sz τ) (hd : Dy b σ0 sz0 a1 a2 τ) (hs : sz0 ≤ sz) : Tm (fun k => ox (f_X5_refuse k 0 L τ) (f k)) (DPo b sz0 (none : Option α) S σ0 a1 a2) := by
  have t2 : Tm (fun k => f_X5_refuse k 0 L τ) (QPo b u tb.length sz mk (none : Option Unit) (fun _ _ _ => True) τ 0 0) := by
    refine Tm_suc (fun k => by rw [f_X5_refuse]) ?_
    have s := Sx_0 h
    refine Tm_some ?_
    have ph := Ph_s (σ := τ) (σ' := uI (uI τ 4006 (L.1 1)) 4007 (L.1 2)) rfl
    have fc := fP_c b 19
    have e5 := h.2.2.2.2.2.1
    have e11 := h.2.2.1.1
    have q1 := (QS_f (σ' := uI (uI τ 4006 (L.1 1)) 4007 (L.1 2)) (o' := o) (mk' := mk) (p' := p) h (fun j hj => by rw [uI_o (by omega), uI_o (by omega)]) rfl (by rw [uI_o (by decide), uI_o (by decide)]; exact e5.1) e5.2 (by rw [uI_o (by decide), uI_o (by decide)]; exact e11) (Nat.le_refl _) (by rw [uI_o (by omega), uI_o (by omega)]; exact h.2.2.2.2.2.2.2)).2
    exact ⟨fun t' e => (by cases e), fun _ => rfl, fun z => absurd (show (1 : Nat) = 0 from z) (by decide), fun _ => ⟨by show 0 + 1 + PhC (uI (uI τ 4006 (L.1 1)) 4007 (L.1 2)) ≤ _; omega, by show 0 + 6 + PhS (uI (uI τ 4006 (L.1 1)) 4007 (L.1 2)) ≤ _; omega⟩, q1⟩
  exact dt_callQ hd hs t2 (Or.inl ⟨rfl, rfl⟩)
/-- the rows of a unit are set -/
def opU (b : Bool) (u : Nat) (x : Int32) (σ : CS) : CS := uI (uA (uA (uA (uA (uA (uA σ (pR13 b) u x) (pR14 b) u 0) (pR15 b) u 0) (pR16 b) u 0) (pR17 b) u 0) (pR18 b) u 0) (fP b 19) 0
theorem c_openUnit (hu : u < 42) (hb : L.2.2.1 0 = b) (h1 : L.1 1 = nI u) : Tm (fun k => y_X7_openUnit__P k 0 L σ) (fun r => r.2 = opU b u (σ.1 (fP b 1)) σ) := by
  have i42 : ¬ (nI u < 0 ∨ 42 ≤ (nI u).toNatClampNeg) := u_in (by rw [u_n (by omega)]; omega) (by decide)
  refine Tm_suc (fun k => by rw [y_X7_openUnit__P]) ?_
  rw [hb, h1]
  refine Tm_chk i42 (Tm_chk i42 (Tm_chk i42 ?_))
  rw [n_cl (p := u) (by omega)]
  refine Tm_suc (fun k => by rw [y_X7_openUnit__P]) ?_
  rw [hb, h1]
  refine Tm_chk i42 (Tm_chk i42 (Tm_chk i42 ?_))
  rw [n_cl (p := u) (by omega)]
  refine Tm_suc (fun k => by rw [y_X7_openUnit__P]) ?_
  rw [hb]
  exact Tm_some rfl
end DYC

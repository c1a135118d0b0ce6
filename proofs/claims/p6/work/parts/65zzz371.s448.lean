/-! The class: steps of its parser, as the grammar has them; parts. -/
section CVG
variable {σ σ' σ0 τ τ' : CS} {L : LV} {b : Bool} {T : Nat → Int32} {n q q' u al o v mk p sz szB nc0 sz0 mk0 a1 a2 m kk f e : Nat} {y : Int32} {l l' cs cs' : List Int32} {tb : List Ent} {α : Type} {x : Option α} {S : α → Int32 → CS → Prop} {C : Prop} {E : En} {gl : Nat × (Nat → Nat → Prop)} {Vm : Nat → Prop} {bt : BT}
/-- a call within that lays no code -/
theorem Sy_c0 (h : Sy T n b u al σ0 nc0 sz0 mk0 a1 a2 tb o q v mk p szB cs τ) {n1 n2 : Nat} {o' v' mk' p' : Nat} {tb' : List Ent} (hq : QS T n b u al tb' o' q' v' mk' p' (szB + cs.length) τ') (xk : XK b u tb.length (szB + cs.length) mk τ τ') (c : a1 + n1 + PhC τ' ≤ PhC σ0 ∧ a2 + n2 + PhS τ' ≤ PhS σ0) (h4 : nc0 ≤ tb'.length) (h6 : mk0 ≤ mk') : Sy T n b u al σ0 nc0 sz0 mk0 (a1 + n1) (a2 + n2) tb' o' q' v' mk' p' szB cs τ' := by
  have z := Sy_ca (ll := []) h hq xk c (fun i hi => absurd hi (Nat.not_lt_zero _)) h4 h6
  rw [List.append_nil] at z
  exact z
theorem st_opens {f : Nat → RS → Option RS} (h : Sy T n b u al σ0 nc0 sz0 mk0 a1 a2 tb o q v mk p szB cs τ) (hx : (¬ (¬ o = 20 ∧ ¬ tkK T n (tkN T n q) = 0) ∧ x = none) ∨ ((¬ o = 20 ∧ ¬ tkK T n (tkN T n q) = 0) ∧ C)) (cont : ∀ (τ' : CS) (ret : Int32) (n1 n2 : Nat), C → Sy T n b u al σ0 nc0 sz0 mk0 (a1 + n1) (a2 + n2) tb (o + 1) (tkN T n q) v mk p szB cs τ' → Tm (fun k => f k ((0, ret), τ', (n1, n2))) (QPo b u nc0 sz0 mk0 x S σ0 (a1 + n1) (a2 + n2))) : Tm (fun k => ox (f_X5_opens k 0 L τ) (f k)) (QPo b u nc0 sz0 mk0 x S σ0 a1 a2) := by
  rcases hx with ⟨w1, w2⟩ | ⟨w1, c⟩
  · exact st_call (C := True) h.1 (c_opensQ h.1.1 (Or.inl ⟨w1, rfl⟩)) (Or.inl ⟨rfl, w2⟩)
  · exact st_call (C := C) h.1 (c_opensQ h.1.1 (Or.inr ⟨w1, rfl⟩)) (Or.inr ⟨_, rfl, c, fun τ' ret n1 n2 hq xk hc => cont τ' ret n1 n2 c (Sy_c0 h hq xk hc h.1.2.2.2.1 h.1.2.2.2.2.2)⟩)
theorem st_closes {f : Nat → RS → Option RS} (h : Sy T n b u al σ0 nc0 sz0 mk0 a1 a2 tb (o + 1) q v mk p szB cs τ) (hk : tkV kk) (h1 : L.1 1 = cKd kk) (hx : (¬ (tkK T n q = kk ∧ ¬ tkK T n (tkN T n q) = 0) ∧ x = none) ∨ ((tkK T n q = kk ∧ ¬ tkK T n (tkN T n q) = 0) ∧ C)) (cont : ∀ (τ' : CS) (ret : Int32) (n1 n2 : Nat), C → Sy T n b u al σ0 nc0 sz0 mk0 (a1 + n1) (a2 + n2) tb o (tkN T n q) v mk p szB cs τ' → Tm (fun k => f k ((0, ret), τ', (n1, n2))) (QPo b u nc0 sz0 mk0 x S σ0 (a1 + n1) (a2 + n2))) : Tm (fun k => ox (f_X5_closes k 0 L τ) (f k)) (QPo b u nc0 sz0 mk0 x S σ0 a1 a2) := by
  rcases hx with ⟨w1, w2⟩ | ⟨w1, c⟩
  · exact st_call (C := True) h.1 (c_closesQ h.1.1 hk h1 (Or.inl ⟨w1, rfl⟩)) (Or.inl ⟨rfl, w2⟩)
  · exact st_call (C := C) h.1 (c_closesQ h.1.1 hk h1 (Or.inr ⟨w1, rfl⟩)) (Or.inr ⟨_, rfl, c, fun τ' ret n1 n2 hq xk hc => cont τ' ret n1 n2 c (Sy_c0 h hq xk hc h.1.2.2.2.1 h.1.2.2.2.2.2)⟩)
theorem st_expect {f : Nat → RS → Option RS} (h : Sy T n b u al σ0 nc0 sz0 mk0 a1 a2 tb o q v mk p szB cs τ) (hk : tkV kk) (h1 : L.1 1 = cKd kk) (hx : (¬ (tkK T n q = kk ∧ ¬ tkK T n (tkN T n q) = 0) ∧ x = none) ∨ ((tkK T n q = kk ∧ ¬ tkK T n (tkN T n q) = 0) ∧ C)) (cont : ∀ (τ' : CS) (ret : Int32) (n1 n2 : Nat), C → Sy T n b u al σ0 nc0 sz0 mk0 (a1 + n1) (a2 + n2) tb o (tkN T n q) v mk p szB cs τ' → Tm (fun k => f k ((0, ret), τ', (n1, n2))) (QPo b u nc0 sz0 mk0 x S σ0 (a1 + n1) (a2 + n2))) : Tm (fun k => ox (f_X5_expect k 0 L τ) (f k)) (QPo b u nc0 sz0 mk0 x S σ0 a1 a2) := by
  rcases hx with ⟨w1, w2⟩ | ⟨w1, c⟩
  · exact st_call (C := True) h.1 (c_expectQ h.1.1 hk h1 (Or.inl ⟨w1, rfl⟩)) (Or.inl ⟨rfl, w2⟩)
  · exact st_call (C := C) h.1 (c_expectQ h.1.1 hk h1 (Or.inr ⟨w1, rfl⟩)) (Or.inr ⟨_, rfl, c, fun τ' ret n1 n2 hq xk hc => cont τ' ret n1 n2 c (Sy_c0 h hq xk hc h.1.2.2.2.1 h.1.2.2.2.2.2)⟩)
theorem st_want {f : Nat → RS → Option RS} (h : Sy T n b u al σ0 nc0 sz0 mk0 a1 a2 tb o q v mk p szB cs τ) (hk : tkV kk) (h1 : L.1 1 = cKd kk) (hx : (¬ tkK T n q = kk ∧ x = none) ∨ (tkK T n q = kk ∧ C)) (cont : ∀ (τ' : CS) (ret : Int32) (n1 n2 : Nat), C → Sy T n b u al σ0 nc0 sz0 mk0 (a1 + n1) (a2 + n2) tb o q v mk p szB cs τ' → Tm (fun k => f k ((0, ret), τ', (n1, n2))) (QPo b u nc0 sz0 mk0 x S σ0 (a1 + n1) (a2 + n2))) : Tm (fun k => ox (f_X5_want k 0 L τ) (f k)) (QPo b u nc0 sz0 mk0 x S σ0 a1 a2) := by
  rcases hx with ⟨w1, w2⟩ | ⟨w1, c⟩
  · exact st_call (C := True) h.1 (c_wantQ h.1.1 hk h1 (Or.inl ⟨w1, rfl⟩)) (Or.inl ⟨rfl, w2⟩)
  · exact st_call (C := C) h.1 (c_wantQ h.1.1 hk h1 (Or.inr ⟨w1, rfl⟩)) (Or.inr ⟨_, rfl, c, fun τ' ret n1 n2 hq xk hc => cont τ' ret n1 n2 c (Sy_c0 h (by rw [hq]; exact h.1.1) xk hc h.1.2.2.2.1 h.1.2.2.2.2.2)⟩)
theorem st_advY {f : Nat → RS → Option RS} (h : Sy T n b u al σ0 nc0 sz0 mk0 a1 a2 tb o q v mk p szB cs τ) (hx : (tkK T n (tkN T n q) = 0 ∧ x = none) ∨ (¬ tkK T n (tkN T n q) = 0 ∧ C)) (cont : ∀ (τ' : CS) (r : RS), r.2.1 = τ' → C → Sy T n b u al σ0 nc0 sz0 mk0 a1 a2 tb o (tkN T n q) v mk p szB cs τ' → Tm (fun k => f k r) (QPo b u nc0 sz0 mk0 x S σ0 a1 a2)) : Tm (fun k => ox (f_X2_advance k 0 L τ) (f k)) (QPo b u nc0 sz0 mk0 x S σ0 a1 a2) := by
  have hh := h
  obtain ⟨⟨h1, h2, h3, h4, h5, h6⟩, k2⟩ := h
  have t : Tm (fun k => f_X2_advance k 0 L τ) (fun r => QA T n b u al tb o (tkN T n q) v mk p (szB + cs.length) τ r ∧ (r.1.1 = 0 → r.2.2 = (0, 0) ∧ PhC r.2.1 = PhC τ ∧ PhS r.2.1 = PhS τ)) := by
    refine Tm_and (c_advQ h1) (Tm_mono (c_adv h1.1) (fun r z e => ?_))
    obtain ⟨z1, z2, kd, st, en, hi, lo, z3⟩ := z
    by_cases k0 : tkK T n (tkN T n q) = 0
    · rw [(z1 k0).1] at e
      exact absurd e (by decide)
    · refine ⟨(z2 k0).2.1, ?_⟩
      exact Ph_s (by rw [z3]; rfl)
  refine Tm_ox t (fun r w nz => ?_) (fun r w e0 => ?_)
  · obtain ⟨w, _⟩ := w
    rcases hx with ⟨e1, e2⟩ | ⟨e1, c⟩
    · rw [e2]
      exact Qthr hh.1 (w.1 e1) w.2.2.1 w.2.2.2
    · exact absurd (w.2.1 e1).1 nz
  · obtain ⟨w, wc⟩ := w
    rcases hx with ⟨e1, e2⟩ | ⟨e1, c⟩
    · exact absurd (w.1 e1) (by rw [e0]; decide)
    · obtain ⟨c1, c2, c3⟩ := wc e0
      have k := cont r.2.1 r rfl c (Sy_c0 (n1 := 0) (n2 := 0) hh (w.2.1 e1).2 w.2.2.2 ⟨by omega, by omega⟩ h4 h6)
      refine Tm_mono k (fun q z => ?_)
      rw [c1]
      exact QPo_s (n1 := 0) (n2 := 0) z
/-- parts behind a variable: their code, their kinds -/
def ptC : List (List Int32 × Nat) → List Int32
  | [] => []
  | z :: r => z.1 ++ (em z.2 0 :: ptC r)
def PtM (τ : CS) (mk st : Nat) : List (List Int32 × Nat) → Prop
  | [] => True
  | z :: r => (τ.2.2.1 41 mk = nI st ∧ τ.2.2.1 41 (mk + 1) = nI (st + z.1.length) ∧ τ.2.2.1 41 (mk + 2) = nI z.2) ∧ PtM τ (mk + 3) (st + z.1.length + 1) r
def PtG (u p : Nat) (gl : Nat × (Nat → Nat → Prop)) (Vm : Nat → Prop) : List (List Int32 × Nat) → Prop
  | [] => True
  | z :: r => ((z.2 = 96 ∧ Sgm u p gl Vm 1 z.1) ∨ (z.2 = 98 ∧ Sgm u p gl Vm 1 z.1) ∨ (z.2 = 97 ∧ Sgm u p gl Vm 2 z.1)) ∧ PtG u p gl Vm r
/-- whether the exp is a variable with its parts -/
def TgI (T : Nat → Int32) (n u p : Nat) (gl : Nat × (Nat → Nat → Prop)) (Vm : Nat → Prop) (tb : List Ent) (q sz mk : Nat) (cs : List Int32) (i : Nat) (τ : CS) : Prop := (i = 0 → ¬ τ.1 4016 = nI q) ∧ (¬ i = 0 → (τ.1 4016 = nI q ∧ τ.1 4017 = nI (sz + cs.length) ∧ τ.1 4018 = nI mk) ∧ ∃ (nm : Nat) (ld : Int32) (pl : List (List Int32 × Nat)), (τ.1 4020 = nI nm ∧ τ.1 4019 = nI pl.length) ∧ LkI tb (tkS T n q) nm ∧ cs = ld :: ptC pl ∧ PtM τ mk (sz + 1) pl ∧ PtG u p gl Vm pl ∧ mk + 3 * pl.length ≤ sN τ 41)
/-- behind an exp of the grammar -/
def XR (T : Nat → Int32) (n : Nat) (b : Bool) (u al : Nat) (gl : Nat × (Nat → Nat → Prop)) (Vm : Nat → Prop) (tb : List Ent) (o mk p sz q v : Nat) (r : RT) (τ : CS) : Prop := ∃ cs : List Int32, QS T n b u al tb o r.1 r.2.1 mk p (sz + cs.length) τ ∧ (∀ i, i < cs.length → cdr b τ (sz + i) = cs.getD i 0) ∧ Sgm u p gl Vm 1 cs ∧ 2 * cs.length ≤ 3 * (r.1 - q) + 1 ∧ q < r.1 ∧ v ≤ r.2.1 ∧ TgI T n u p gl Vm tb q sz mk cs r.2.2.1 τ
/-- exps of the grammar, read at depth e: whole ones, or sums -/
def PXp (T : Nat → Int32) (n : Nat) (b : Bool) (u al f e : Nat) : Prop := ∀ (nt ls : Nat), (nt = 0 ∧ ls = 0) ∨ (nt = 6 ∧ ls = 4) → ∀ (E : En) (o q v : Nat) (bt : BT) (x : Option RT), G T n f nt E o q v 0 0 0 0 bt = some x → ∀ (gl : Nat × (Nat → Nat → Prop)) (Vm : Nat → Prop) (tb : List Ent) (mk p sz : Nat) (σ : CS) (L : LV), QS T n b u al tb o q v mk p sz σ → EvX E b u al gl Vm tb σ → BdX n o q v mk p sz tb.length → L.1 1 = nI ls → 6 * (20 - o) + 8 ≤ e → Tm (fun k => f_F2 k e 1 0 L σ) (QPo b u tb.length sz mk x (fun r _ τ => XR T n b u al gl Vm tb o mk p sz q v r τ) σ 0 0)
theorem EvX_k {nc' sz' mk' : Nat} (h : EvX E b u al gl Vm tb σ) (x : XK b u nc' sz' mk' σ τ) : EvX E b u al gl Vm tb τ := ⟨h.1, PrR_k h.2.1 x, h.2.2⟩
theorem Tm_d {g : Nat → Nat → Option RS} {Q : RS → Prop} {e : Nat} (h : Tm (fun k => g k e) Q) : Tm (fun k => of (e + 1) (g k)) Q := h
/-- an exp within -/
theorem st_exp {nt ls f e : Nat} {f' : Nat → RS → Option RS} {bt : BT} {z : Option RT} (px : PXp T n b u al f e) (hn : (nt = 0 ∧ ls = 0) ∨ (nt = 6 ∧ ls = 4)) (h : Sy T n b u al σ0 nc0 sz0 mk0 a1 a2 tb o q v mk p szB cs τ) (ev : EvX E b u al gl Vm tb τ) (bd : BdX n o q v mk p (szB + cs.length) tb.length) (h1 : L.1 1 = nI ls) (hd : 6 * (20 - o) + 8 ≤ e) (hG : G T n f nt E o q v 0 0 0 0 bt = some z) (hx : (z = none ∧ x = none) ∨ ∃ s, z = some s ∧ C) (cont : ∀ (τ' : CS) (ret : Int32) (n1 n2 : Nat) (r : RT) (ll : List Int32), z = some r → C → Sy T n b u al σ0 nc0 sz0 mk0 (a1 + n1) (a2 + n2) tb o r.1 r.2.1 mk p szB (cs ++ ll) τ' → XK b u tb.length (szB + cs.length) mk τ τ' → Sgm u p gl Vm 1 ll → 2 * ll.length ≤ 3 * (r.1 - q) + 1 → q < r.1 → v ≤ r.2.1 → TgI T n u p gl Vm tb q (szB + cs.length) mk ll r.2.2.1 τ' → Tm (fun k => f' k ((0, ret), τ', (n1, n2))) (QPo b u nc0 sz0 mk0 x S σ0 (a1 + n1) (a2 + n2))) : Tm (fun k => ox (f_F2 k e 1 0 L τ) (f' k)) (QPo b u nc0 sz0 mk0 x S σ0 a1 a2) := by
  refine st_call (C := C) h.1 (px nt ls hn E o q v bt z hG gl Vm tb mk p (szB + cs.length) τ L h.1.1 ev bd h1 hd) ?_
  rcases hx with ⟨w1, w2⟩ | ⟨s, w1, c⟩
  · exact Or.inl ⟨w1, w2⟩
  · refine Or.inr ⟨s, w1, c, fun τ' ret n1 n2 hr xk hc => ?_⟩
    obtain ⟨ll, r1, r2, r3, r4, r5, r6, r7⟩ := hr
    exact cont τ' ret n1 n2 s ll w1 c (Sy_ca h r1 xk hc r2 h.1.2.2.2.1 h.1.2.2.2.2.2) xk r3 r4 r5 r6 r7
/-- a part: the next token, variables, its kind, node, what is laid -/
def gPt (T : Nat → Int32) (n f : Nat) (E : En) (o q v e : Nat) (b : BT) : Option (Option (Nat × Nat × Nat × Nat × BT)) :=
  if o = 20 then some none else pT T n q (fun q1 => pb (G T n f 0 E (o + 1) q1 v 0 0 0 0 b) (fun r =>
    if tkK T n q = 6 ∧ tkK T n r.1 = 16 then pT T n r.1 (fun q2 => pb (G T n f 0 E (o + 1) q2 r.2.1 0 0 0 0 r.2.2.2.2.1) (fun s => pW T n 7 s.1 (fun q3 => some (some (q3, s.2.1, 97, s.2.2.2.2.1.1, bSet (bOver s.2.2.2.2.1 22 0 e (nI r.2.2.2.1)) 8 s.2.2.2.2.1.1 (nI s.2.2.2.1))))))
    else pW T n (if tkK T n q = 8 then 9 else 7) r.1 (fun q2 => some (some (q2, r.2.1, (if tkK T n q = 8 then 98 else 96), r.2.2.2.2.1.1, bOver r.2.2.2.2.1 (if tkK T n q = 8 then 23 else 21) 0 e (nI r.2.2.2.1))))))
theorem G12_p {i e c g : Nat} (h : tkK T n q = 6 ∨ tkK T n q = 8) : G T n (f + 1) 12 E o q v i e c g bt = pb (gPt T n f E o q v e bt) (fun z => G T n f 12 E o z.1 z.2.1 (if i = 0 then 0 else 2) z.2.2.2.1 0 0 z.2.2.2.2) := by
  show (if tkK T n q = 6 ∨ tkK T n q = 8 then _ else _) = _
  rw [if_pos h]
  unfold gPt gO
  by_cases c1 : o = 20
  · rw [if_pos c1, if_pos c1]; rfl
  rw [if_neg c1, if_neg c1]
  unfold gT pT
  by_cases c2 : tkK T n (tkN T n q) = 0
  · rw [if_pos c2, if_pos c2]; rfl
  rw [if_neg c2, if_neg c2]
  show gb (G T n f 0 E (o + 1) (tkN T n q) v 0 0 0 0 bt) _ = pb (pb (G T n f 0 E (o + 1) (tkN T n q) v 0 0 0 0 bt) _) _
  generalize hg : G T n f 0 E (o + 1) (tkN T n q) v 0 0 0 0 bt = g1
  match g1 with
  | none => rfl
  | some none => rfl
  | some (some r) =>
    show (if tkK T n q = 6 ∧ tkK T n r.1 = 16 then _ else _) = pb (if tkK T n q = 6 ∧ tkK T n r.1 = 16 then _ else _) _
    by_cases c3 : tkK T n q = 6 ∧ tkK T n r.1 = 16
    · rw [if_pos c3, if_pos c3]
      by_cases c4 : tkK T n (tkN T n r.1) = 0
      · rw [if_pos c4, if_pos c4]; rfl
      rw [if_neg c4, if_neg c4]
      show gb (G T n f 0 E (o + 1) (tkN T n r.1) r.2.1 0 0 0 0 r.2.2.2.2.1) _ = pb (pb (G T n f 0 E (o + 1) (tkN T n r.1) r.2.1 0 0 0 0 r.2.2.2.2.1) _) _
      generalize hg2 : G T n f 0 E (o + 1) (tkN T n r.1) r.2.1 0 0 0 0 r.2.2.2.2.1 = g2
      match g2 with
      | none => rfl
      | some none => rfl
      | some (some s) =>
        show gW T n 7 s.1 _ = pb (pW T n 7 s.1 _) _
        unfold gW pW
        by_cases c5 : tkK T n s.1 = 7
        · rw [if_pos c5, if_pos c5]
          unfold gT pT
          by_cases c6 : tkK T n (tkN T n s.1) = 0
          · rw [if_pos c6, if_pos c6]; rfl
          · rw [if_neg c6, if_neg c6]; rfl
        · rw [if_neg c5, if_neg c5]; rfl
    · rw [if_neg c3, if_neg c3]
      unfold gW pW
      by_cases c5 : tkK T n r.1 = (if tkK T n q = 8 then 9 else 7)
      · rw [if_pos c5, if_pos c5]
        unfold gT pT
        by_cases c6 : tkK T n (tkN T n r.1) = 0
        · rw [if_pos c6, if_pos c6]; rfl
        · rw [if_neg c6, if_neg c6]; rfl
      · rw [if_neg c5, if_neg c5]; rfl
end CVG

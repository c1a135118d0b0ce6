/-! The class: iters of formers and quantifiers are read. -/
section CVV
variable {σ σ' σ0 τ τ' : CS} {L : LV} {b : Bool} {T : Nat → Int32} {n q q' u al o v mk p sz szB nc0 sz0 mk0 a1 a2 m kk f e t nc r0 c g : Nat} {y w : Int32} {l l' cs cs' : List Int32} {tb tb' es : List Ent} {ns : List Nm} {α : Type} {S : α → Int32 → CS → Prop} {C : Prop} {E E' : En} {gl : Nat × (Nat → Nat → Prop)} {Vm Vm' : Nat → Prop} {bt : BT} {hd : Bool}
theorem gb_id (x : RG) : gb x (fun r => some (some r)) = x := by
  rcases x with _ | _ | x
  · rfl
  · rfl
  · rfl
/-- one iter, then the rest -/
def gIt (T : Nat → Int32) (n f : Nat) (E : En) (o i e c g : Nat) (z : RT) : RG := gW T n 46 z.1 (fun q2 => gb (G T n f 6 (rowN E z.2.2.2.2.2) o q2 z.2.1 0 0 0 0 z.2.2.2.2.1) (fun s =>
  if tkK T n s.1 = 12 then gT T n s.1 (fun q3 => gb (G T n f 17 (rowN (seeN E z.2.2.2.2.2) z.2.2.2.2.2) o q3 s.2.1 (if i = 0 then s.2.2.2.2.1.1 else i) s.2.2.2.2.1.1 c g (if i = 0 then bNode s.2.2.2.2.1 30 (if z.2.2.1 = 0 then 0 else 1) (nI z.2.2.2.1) (nI s.2.2.2.1) else bSet (bNode s.2.2.2.2.1 30 (if z.2.2.1 = 0 then 0 else 1) (nI z.2.2.2.1) (nI s.2.2.2.1)) 9 e (nI s.2.2.2.2.1.1))) (fun t => some (some (t.1, t.2.1, 0, t.2.2.2.1, t.2.2.2.2.1, t.2.2.2.2.2 ++ z.2.2.2.2.2))))
  else some (some (s.1, s.2.1, 0, (if i = 0 then s.2.2.2.2.1.1 else i), (if i = 0 then bNode s.2.2.2.2.1 30 (if z.2.2.1 = 0 then 0 else 1) (nI z.2.2.2.1) (nI s.2.2.2.1) else bSet (bNode s.2.2.2.2.1 30 (if z.2.2.1 = 0 then 0 else 1) (nI z.2.2.2.1) (nI s.2.2.2.1)) 9 e (nI s.2.2.2.2.1.1)), z.2.2.2.2.2))))
theorem G17_p {i : Nat} : G T n (f + 1) 17 E o q v i e c g bt = gb (gIn T n f E o c g q v bt) (gIt T n f E o i e c g) := by
  unfold gIn
  have e17 : G T n (f + 1) 17 E o q v i e c g bt = (if tkK T n q = 10 then gO o (gT T n q (fun q1 => gN T n E c g q1 v bt (fun q2 v2 e2 b2 nm => gb (G T n f 18 (rowN E [nm]) (o + 1) q2 v2 0 e2 c g b2) (fun r => gW T n 11 r.1 (fun q3 => gIt T n f E o i e c g (q3, r.2.1, 1, e2, r.2.2.2.2.1, r.2.2.2.2.2 ++ [nm])))))) else gN T n E c g q v bt (fun q1 v1 e1 b1 nm => gIt T n f E o i e c g (q1, v1, 0, e1, b1, [nm]))) := rfl
  rw [e17]
  by_cases k10 : tkK T n q = 10
  · rw [if_pos k10, if_pos k10, gb_gO, gb_gT]
    simp only [gb_gN, gb_gb, gb_gW]
    rfl
  · rw [if_neg k10, if_neg k10, gb_gN]
    rfl
/-- behind the iters of a row -/
def ItR (T : Nat → Int32) (n : Nat) (b : Bool) (u al : Nat) (gl : Nat × (Nat → Nat → Prop)) (Vm : Nat → Prop) (tb : List Ent) (o mk p sz q v : Nat) (E : En) (r : RT) (τ : CS) : Prop := ∃ (es : List Ent) (cs : List Int32) (p' : Nat) (xm : List Nat) (e0 : Nat × Nat × List Nat) (nl : List (Nat × Nat × List Nat)), QS T n b u al (tb ++ es) o r.1 r.2.1 mk p' (sz + cs.length) τ ∧ (∀ i, i < cs.length → cdr b τ (sz + i) = cs.getD i 0) ∧ Row u p gl Vm p' xm (e0 :: nl) cs ∧ (∀ i, i = bsl + e0.2.1 ∨ i ∈ e0.2.2 → i ∈ xm) ∧ (τ.1 4014 = nI (sz + fstP (e0 :: nl)) ∧ τ.1 4015 = nI (sz + e0.1)) ∧ EvX (seeN E r.2.2.2.2.2) b u al gl (fun i => Vm i ∨ i ∈ xm) (tb ++ es) τ ∧ BdX n o r.1 r.2.1 mk p' (sz + cs.length) (tb ++ es).length ∧ 2 * cs.length ≤ 3 * (r.1 - q) ∧ q < r.1 ∧ v ≤ r.2.1
theorem st_store {k0 c0 : Nat} {f' : Nat → RS → Option RS} {x : Option α} (h : Sy T n b u al σ0 nc0 sz0 mk0 a1 a2 tb o q v mk p szB cs τ) (h1 : L.1 1 = nI k0) (h2 : L.1 2 = nI c0) (h3 : L.1 3 = 0) (hc : c0 < 1000) (hm : szB + cs.length + 2 ≤ 36864) (cont : ∀ (τ' : CS) (ret : Int32) (m1 m2 : Nat), Sy T n b u al σ0 nc0 sz0 mk0 (a1 + m1) (a2 + m2) tb o q v mk p szB (cs ++ (if c0 = 0 then [em 66 (nI k0)] else [em 67 (nI k0), nI c0])) τ' → Tm (fun k => f' k ((0, ret), τ', (m1, m2))) (QPo b u nc0 sz0 mk0 x S σ0 (a1 + m1) (a2 + m2))) : Tm (fun k => ox (f_X5_iterStore k 0 L τ) (f' k)) (QPo b u nc0 sz0 mk0 x S σ0 a1 a2) := by
  have s0 := Sy_0 h.1.1
  have t : Tm (fun k => f_X5_iterStore k 0 L τ) (QPo b u tb.length (szB + cs.length) mk (some ()) (fun _ _ τ' => QS T n b u al tb o q v mk p (szB + cs.length + (if c0 = 0 then [em 66 (nI k0)] else [em 67 (nI k0), nI c0]).length) τ' ∧ ∀ i, i < (if c0 = 0 then [em 66 (nI k0)] else [em 67 (nI k0), nI c0]).length → cdr b τ' (szB + cs.length + i) = (if c0 = 0 then [em 66 (nI k0)] else [em 67 (nI k0), nI c0]).getD i 0) τ 0 0) := by
    refine Tm_suc (fun k => by rw [f_X5_iterStore]) ?_
    rw [h2]
    by_cases z : c0 = 0
    · rw [if_pos z]
      refine Tm_yes (by rw [z]; rfl) ?_
      refine Tm_oP (Sy_pp s0) ?_
      refine Tm_yes h3 ?_
      refine Tm_suc (fun k => by rw [f_X5_iterStore]) ?_
      refine Tm_suc (fun k => by rw [f_X5_iterStore]) ?_
      refine st_emit (op := 66) s0 rfl rfl (by show szB + cs.length + 0 + 1 ≤ _; omega) (fun τ2 m1 m2 s2 => ?_)
      refine Tm_suc (fun k => by rw [f_X5_iterStore]) ?_
      have s2' : Sy T n b u al τ tb.length (szB + cs.length) mk (0 + m1) (0 + m2) tb o q v mk p (szB + cs.length) [em 66 (nI k0)] τ2 := by
        rw [← h1]; exact s2
      exact Tm_some (Qfin s2'.1 ⟨s2'.1.1, s2'.2⟩)
    · rw [if_neg z]
      refine Tm_no (by rw [n_eq0 (by omega)]; exact z) ?_
      refine Tm_suc (fun k => by rw [f_X5_iterStore]) ?_
      refine Tm_oP (Sy_pp s0) ?_
      refine Tm_yes h3 ?_
      refine Tm_suc (fun k => by rw [f_X5_iterStore]) ?_
      refine Tm_suc (fun k => by rw [f_X5_iterStore]) ?_
      refine st_emit (op := 67) s0 rfl rfl (by show szB + cs.length + 0 + 1 ≤ _; omega) (fun τ2 m1 m2 s2 => ?_)
      refine Tm_oP (Sy_pp s2) ?_
      refine st_word s2 rfl (by show szB + cs.length + 1 + 1 ≤ _; omega) (fun τ3 m3 m4 s3 => ?_)
      refine Tm_suc (fun k => by rw [f_X5_iterStore]) ?_
      have s3' : Sy T n b u al τ tb.length (szB + cs.length) mk (0 + m1 + m3) (0 + m2 + m4) tb o q v mk p (szB + cs.length) [em 67 (nI k0), nI c0] τ3 := by
        rw [← h1, ← h2]; exact s3
      exact Tm_some (Qfin s3'.1 ⟨s3'.1.1, s3'.2⟩)
  exact st_call (C := True) h.1 t (Or.inr ⟨(), rfl, trivial, fun τ' ret n1 n2 hq xk hc => cont τ' ret n1 n2 (Sy_ca h hq.1 xk hc hq.2 h.1.2.2.2.1 h.1.2.2.2.2.2)⟩)
end CVV

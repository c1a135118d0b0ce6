/-! The class: fors, from do on. -/
section CYI
variable {σ σ' σ0 τ τ' τ0 : CS} {L : LV} {b : Bool} {T : Nat → Int32} {n q q' u al o v mk mk' p sz sz' szB szE nc nc0 sz0 mk0 a1 a2 m kk f e s0 ow a t0 g D w st w' st' M nm deep vv np lp N Bd nb k d P h st0 b0 it q0 v0 r0 c : Nat} {y qh qh' y0 y1 wd x0 x1 x3 : Int32} {l l' cs cs' cs2 ll lt lt0 co bo : List Int32} {tb tb' es : List Ent} {ns : List Nm} {E : En} {gl : Nat × (Nat → Nat → Prop)} {Vm Vm' : Nat → Prop} {Pc : Nat → Nat → Prop} {MD : Nat → Nat → Nat} {md : Nat → Nat} {bt : BT} {ks qs qs' qa qb js qsI : List Nat} {lo lo' : Option Nat} {s : SB} {α : Type} {S : α → Int32 → CS → Prop} {x : Option α} {C : Prop} {hd : Bool}
/-- how a for stands behind its iters -/
def FoS (T : Nat → Int32) (n : Nat) (b : Bool) (u al : Nat) (gl : Nat × (Nat → Nat → Prop)) (Pc : Nat → Nat → Prop) (Vm : Nat → Prop) (σ : CS) (a1 a2 : Nat) (tb : List Ent) (o mk N w st : Nat) (lo : Option Nat) (qh : Int32) (q v : Nat) (E' : En) (cq cv : Nat) (L : LV) (τ : CS) : Prop := ∃ (es : List Ent) (cs csR : List Int32) (w2 fi la : Nat) (xm lm : List Nat) (pl : List (Nat × Nat × Nat)), Zy T n b u al σ tb.length N mk a1 a2 (tb ++ es) (o + 1) cq cv (mk + 3 * pl.length) w2 st lo qh N cs τ ∧ FRw u gl Pc Vm w N w2 pl.length fi la xm lm csR ∧ (cs.length = csR.length ∧ cs.getD 1 0 = em 42 (nI (w2 - w)) ∧ ∀ i, i < csR.length → ¬ i = 1 → cs.getD i 0 = csR.getD i 0) ∧ (2 ≤ fi ∧ 1 ≤ pl.length ∧ v + pl.length ≤ cv ∧ w2 ≤ 3 * cv) ∧ (∀ e, e ∈ pl → (w ≤ e.1 ∧ e.1 + 1 < w2) ∧ w ≤ e.2.1 ∧ e.2.1 + e.2.2 ≤ w2) ∧ (∀ i, i < 3 * pl.length → τ.2.2.1 41 (mk + i) = (mkF3 pl).getD i 0) ∧ (2 * cs.length + 6 * pl.length ≤ 7 * (cq - q) ∧ q < cq) ∧ NmR E' u gl (VmX Vm xm) (tb ++ es) ∧ (∀ i, i < (tb ++ es).length → ¬ ((tb ++ es).getD i e0E).2.1 = 3) ∧ ((tb ++ es).length + (60 - cv) ≤ 256 ∧ mk + 3 * pl.length ≤ 2 * cq + 18 * (o + 1)) ∧ (L.1 1 = nI tb.length ∧ L.1 2 = nI mk ∧ L.1 3 = nI w) ∧ L.1 5 = nI (w2 - w) ∧ L.1 6 = nI (N + fi) ∧ L.1 7 = nI (N + la)
theorem EvX_f {E' : En} {tb2 : List Ent} {Vm2 : Nat → Prop} (h : EvX E b u al gl Vm tb σ) (nm : NmR E' u gl Vm2 tb2) (he : E'.2.2.2 = E.2.2.2) : EvX E' b u al gl Vm2 tb2 σ := ⟨nm, h.2.1, h.2.2.1, by rw [he]; exact h.2.2.2.1, by rw [he]; exact h.2.2.2.2⟩
theorem PcE_f (h : PcE E Pc) : PcE (seeN E ns) Pc := fun bs ok hf => by
  by_cases c : ∃ nm, nm ∈ ns ∧ nm.1 = bs
  · rw [fd_in c] at hf; exact absurd hf (by decide)
  · rw [fd_out c] at hf ⊢
    exact h bs ok hf
/-- from do on -/
theorem c_forT {cq cv b0 : Nat} {bc : BT} {nd : ST → Nat} {bb : ST → BT} {y : Option ST} (pb : PBk T n b u al MD f) (hq : cq ≤ n) (hv : cv ≤ 60) (hs : s.1 ≤ 400) (hB1 : 1 ≤ bc.1) (hG : hW T n 44 cq (fun q3 => hb (GS T n MD f 0 (seeN E ns) (lp + 1) (o + 1) q3 cv (nI b0) 0 0 bc s) (fun t => hE T n t.1 (fun q4 => some (some (q4, t.2.1, 0, nd t, bb t, t.2.2.2.2.2))))) = some y) : ∃ z, SemS T n y z ∧ ∀ (d : Nat) (gl : Nat × (Nat → Nat → Prop)) (Pc : Nat → Nat → Prop) (Vm : Nat → Prop) (tb : List Ent) (mk N w q v a1 a2 : Nat) (lo : Option Nat) (qh : Int32) (σ τ : CS) (L : LV), CxS n E b u al gl Vm Pc MD tb lp lo σ → BdB n o q v mk N w tb.length → 4 * (20 - (o + 1)) + 1 ≤ d → o < 20 → FoS T n b u al gl Pc Vm σ a1 a2 tb o mk N w s.1 lo qh q v (seeN E ns) cq cv L τ → Tm (fun k => f_F3 k (d + 2) 1 1 L τ) (ZPo b u tb.length N mk z (fun r _ τ => S1W T n b u al gl Pc Vm tb o mk N q v w s.1 lo qh (bdO o v) r τ) σ a1 a2) := by
  rcases hW_any hG with ⟨w1, w2⟩ | ⟨w1, w2⟩
  · refine ⟨none, Or.inl ⟨rfl, w2⟩, fun d gl Pc Vm tb mk N w q v a1 a2 lo qh σ τ L cx bd hd ho fs => ?_⟩
    obtain ⟨es, cs, csR, w2', fi, la, xm, lm, pl, s1, _⟩ := fs
    refine Tm_suc (fun k => fr1_1 k _ _ _) ?_
    exact zt_expect (kk := 44) (C := False) s1 (by decide) rfl (Or.inl ⟨w1, rfl⟩) (fun _ _ _ _ c _ _ => c.elim)
  have tb1 := tkN_b T n cq hq
  have gz : ∃ x, GS T n MD f 0 (seeN E ns) (lp + 1) (o + 1) (tkN T n cq) cv (nI b0) 0 0 bc s = some x := by
    rcases hb_any w2 with ⟨y1, _⟩ | ⟨_, y1, _⟩
    · exact ⟨_, y1⟩
    · exact ⟨_, y1⟩
  obtain ⟨x, hx⟩ := gz
  rw [hx] at w2
  obtain ⟨z, bz, run⟩ := pb (seeN E ns) (lp + 1) (o + 1) (tkN T n cq) cv (nI b0) 0 0 bc s x tb1.2.1 hv hs hB1 hx
  refine ⟨lbZ T n z, hE_z bz w2, fun d gl Pc Vm tb mk N w q v a1 a2 lo qh σ τ L cx bd hd ho fs => ?_⟩
  obtain ⟨es, cs, csR, w2', fi, la, xm, lm, pl, s1, fr, ⟨f1, f2, f3⟩, ⟨f4, f5, f6, f6'⟩, f7, f8, ⟨f9, f9'⟩, nm, n3, ⟨nt, mb⟩, ⟨l1, l2, l3⟩, l5, l6, l7⟩ := fs
  obtain ⟨bd1, bd2, bd3, bd4⟩ := bd
  have n10 := cx.1.2.2.2.2
  have g1 := (tk_go s1.1.1).2.2 (by omega)
  have f33 := fr.1.2.2 f5
  refine c_for1 s1 fr f1 f2 f3 f4 f5 f6 (by omega) f7 f8 f9 f9' n10 bd1 ho (by have := cx.2.2.1; omega) w1 (fun σ' L' hq' zf' zk' => ?_) l1 l2 l3 l5 l6 l7
  have cx' : CxS n (seeN E ns) b u al gl (VmX Vm xm) Pc MD (tb ++ es) (lp + 1) (some (N + la)) σ' := ⟨⟨EvX_f (EvX_z cx.1.1 zk') nm rfl, PcR_k cx.1.2.1 zk', PcE_f cx.1.2.2.1, n3, n10⟩, cx.2.1, cx.2.2.1, ⟨fun z => by omega, fun z => by cases z⟩, fun p e => by cases e; omega⟩
  exact run d gl Pc (VmX Vm xm) (tb ++ es) (mk + 3 * pl.length) (N + cs.length) w2' (some (N + la)) 0 σ' L' hq' zf' cx' ⟨by omega, by omega, by omega, f6'⟩ hd
end CYI

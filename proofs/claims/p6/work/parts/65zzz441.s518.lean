/-! The class: the body of a for. -/
section CYH
variable {σ σ' σ0 τ τ' τ0 : CS} {L : LV} {b : Bool} {T : Nat → Int32} {n q q' u al o v mk mk' p sz sz' szB szE nc nc0 sz0 mk0 a1 a2 m kk f e s0 ow a t0 g D w st w' st' M nm deep vv np lp N Bd nb k d P h st0 b0 it q0 v0 r0 c : Nat} {y qh qh' y0 y1 wd x0 x1 x3 : Int32} {l l' cs cs' cs2 ll lt lt0 co bo : List Int32} {tb tb' es : List Ent} {ns : List Nm} {E : En} {gl : Nat × (Nat → Nat → Prop)} {Vm Vm' : Nat → Prop} {Pc : Nat → Nat → Prop} {MD : Nat → Nat → Nat} {md : Nat → Nat} {bt : BT} {ks qs qs' qa qb js qsI : List Nat} {lo lo' : Option Nat} {s : SB} {α : Type} {S : α → Int32 → CS → Prop} {x : Option α} {C : Prop} {hd : Bool}
/-- do .. end of a for -/
theorem c_for1 {z : Option (Nat × Nat × Nat)} {csR : List Int32} {fi la w2 cq cv : Nat} {xm lm : List Nat} {pl : List (Nat × Nat × Nat)} (s1 : Zy T n b u al σ tb.length N mk a1 a2 (tb ++ es) (o + 1) cq cv (mk + 3 * pl.length) w2 st lo qh N cs τ) (fr : FRw u gl Pc Vm w N w2 pl.length fi la xm lm csR) (lcs : cs.length = csR.length) (c1 : cs.getD 1 0 = em 42 (nI (w2 - w))) (ci : ∀ i, i < csR.length → ¬ i = 1 → cs.getD i 0 = csR.getD i 0) (hfi : 2 ≤ fi) (hp : 1 ≤ pl.length) (hvp : v + pl.length ≤ cv) (w200 : w2 ≤ 200) (ple : ∀ e, e ∈ pl → (w ≤ e.1 ∧ e.1 + 1 < w2) ∧ w ≤ e.2.1 ∧ e.2.1 + e.2.2 ≤ w2) (mks : ∀ i, i < 3 * pl.length → τ.2.2.1 41 (mk + i) = (mkF3 pl).getD i 0) (hlen : 2 * cs.length + 6 * pl.length ≤ 7 * (cq - q)) (hq : q < cq) (n10 : n ≤ 10240) (hN : 2 * N + 7 * (n - q) + 110 ≤ 73728) (ho : o < 20) (u42 : u < 42) (k44 : tkK T n cq = 44 ∧ ¬ tkK T n (tkN T n cq) = 0) (blk : ∀ (σ' : CS) (L' : LV), QS T n b u al (tb ++ es) (o + 1) (tkN T n cq) cv (mk + 3 * pl.length) 0 (N + cs.length) σ' → ZF b u w2 st (some (N + la)) 0 σ' → ZK b u tb.length N mk σ σ' → Tm (fun k => f_F3 k d 0 0 L' σ') (ZPo b u (tb ++ es).length (N + cs.length) (mk + 3 * pl.length) z (fun r _ τ => BlR T n b u al gl Pc (VmX Vm xm) (tb ++ es) (o + 1) (mk + 3 * pl.length) (N + cs.length) (tkN T n cq) cv w2 st (some (N + la)) 0 r τ) σ' 0 0)) (l1 : L.1 1 = nI tb.length) (l2 : L.1 2 = nI mk) (l3 : L.1 3 = nI w) (l5 : L.1 5 = nI (w2 - w)) (l6 : L.1 6 = nI (N + fi)) (l7 : L.1 7 = nI (N + la)) : Tm (fun k => f_F3 k (d + 2) 1 1 L τ) (ZPo b u tb.length N mk (lbZ T n z) (fun r _ τ => S1W T n b u al gl Pc Vm tb o mk N q v w st lo qh (bdO o v) r τ) σ a1 a2) := by
  have go1 := tk_go s1.1.1
  have g1 := go1.2.2 (by omega)
  have f3 := fr.1.2.2 hp
  have cv60 : cv ≤ 60 := s1.1.1.2.2.2.2.2.2.1.2
  have mkb : mk + 3 * pl.length ≤ 21504 := by
    have z := s1.1.1.2.2.1
    have z1 : mk + 3 * pl.length ≤ sN τ 41 := z.2.1
    have z2 : sN τ 41 ≤ 21504 := z.2.2
    omega
  refine Tm_suc (fun k => fr1_1 k _ _ _) ?_
  refine zt_expect (kk := 44) (C := True) s1 (by decide) rfl (Or.inr ⟨k44, trivial⟩) (fun τ2 ret2 n1 n2 _ s2 xk2 => ?_)
  refine Tm_d ?_
  have go2 := tk_go s2.1.1
  refine zt_callZ (C := True) s2 (c_loopBody (gl := gl) (Pc := Pc) (Vm := VmX Vm xm) (P := N + la) (z := z) (fun σ' L' hq' zf' zk' => blk σ' L' hq' zf' (ZK_t s2.1.2.1 zk' s2.1.2.2.2.1 s2.1.2.2.2.2.1 s2.1.2.2.2.2.2)) s2.1.1 s2.2.2 n10 (by omega) (by omega) l7) ?_
  cases hz : lbZ T n z with
  | none => exact Or.inl ⟨rfl, rfl⟩
  | some t =>
    refine Or.inr ⟨t, rfl, trivial, fun τ5 ret5 n7 n8 hr zk5 hc5 => ?_⟩
    obtain ⟨cl, bo, qb, nb, r1, r2, r3, r4, ⟨r5, r6, r7, r8⟩, ⟨r9, r9'⟩, ra, rb⟩ := hr
    have s5 := Zy_ca (ll := cl) s2 r1 zk5 hc5 r2 (by rw [List.length_append]; omega) s2.1.2.2.2.2.2 r3
    have l5c : (cs ++ cl).length = cs.length + bo.length + 1 := by rw [List.length_append, r5]; omega
    have go5 := tk_go s5.1.1
    refine Tm_oP (Zy_pp s5) (Tm_oP (Zy_pp s5) ?_)
    have e5 : τ5.1 (fP b 1) = nI (N + (cs.length + bo.length + 1)) := by have z := s5.1.1.2.1.1; rw [l5c] at z; exact z
    have ei : L.1 6 + 1 = nI (N + (fi + 1)) := by rw [l6, n_add1]; exact congrArg nI (by omega)
    have mks5 : ∀ i, i < 3 * pl.length → τ5.2.2.1 41 (mk + i) = (mkF3 pl).getD i 0 := fun i hi => by
      rw [zk5.2.2.2.2.2.2.1 (mk + i) (by omega), xk2.2.2.2.2.2.2.1 (mk + i) (by omega)]; exact mks i hi
    have go : Tm (fun k => if ¬ (L.1 6 + 1 < 0 ∨ sN τ5 (pR0 (sKd τ5 b)) ≤ (L.1 6 + 1).toNatClampNeg) then (f_F3 k (d + 2) 1 2 (lI L 8 (L.1 2)) (uA τ5 (pR0 (sKd τ5 b)) (L.1 6 + 1).toNatClampNeg (τ5.1 (fP b 1) - L.1 6))) else none) (ZPo b u tb.length N mk (some t) (fun r _ τ => S1W T n b u al gl Pc Vm tb o mk N q v w st lo qh (bdO o v) r τ) σ (a1 + n1 + n7) (a2 + n2 + n8)) := by
      have ex : τ5.1 (fP b 1) - L.1 6 = nI (cs.length + bo.length + 1 - fi) := by rw [e5, l6]; exact n_ss1 (by omega) (by omega)
      rw [ei, ex]
      refine Tm_chk (Zy_in s5 (by rw [l5c]; omega)) ?_
      rw [n_cl (p := N + (fi + 1)) (by omega)]
      have s6 := Zy_set (hp := fi + 1) s5 (Nat.le_refl _) (by rw [l5c]; omega) (nI (cs.length + bo.length + 1 - fi))
      have mks6 : ∀ i, i < 3 * pl.length → (uA τ5 (pR0 (sKd τ5 b)) (N + (fi + 1)) (nI (cs.length + bo.length + 1 - fi))).2.2.1 41 (mk + i) = (mkF3 pl).getD i 0 := fun i hi => by
        rw [uA_k (by rcases pR0_c (sKd τ5 b) with y | y <;> omega)]; exact mks5 i hi
      generalize hA : (cs ++ cl).set (fi + 1) (nI (cs.length + bo.length + 1 - fi)) = A at *
      have lA : A.length = cs.length + bo.length + 1 := by rw [← hA, List.length_set, l5c]
      have gA : ∀ i, ¬ i = fi + 1 → A.getD i 0 = (cs ++ cl).getD i 0 := fun i hi => by rw [← hA, gd_set, if_neg (fun z => hi z.1)]
      have gA1 : A.getD (fi + 1) 0 = nI (cs.length + bo.length + 1 - fi) := by rw [← hA, gd_set, if_pos ⟨rfl, by rw [l5c]; omega⟩]
      have lf := fcL_l pl
      have hsz : N + (cs.length + bo.length + 1) + 3 * pl.length + 1 ≤ 36864 := by omega
      refine c_for2L (L := L) (cs0 := A) (pl0 := pl) (mkE := mk + 3 * pl.length) mkb (fun L' τ' m1 m2 lj s7 => ?_) pl mk _ _ _ _ A rfl mks6 rfl l2 (fun j hj => upd_other hj) (by rw [lA]; omega) s6
      have lAf : (A ++ fcL pl).length = cs.length + bo.length + 1 + 3 * pl.length := by rw [List.length_append, lA, lf]
      refine c_for3 (x5 := nI (w2 - w)) (mk := mk) (w := w) s7 u42 (by omega) (Nat.le_refl _) (Nat.le_refl _) (by rw [lAf]; omega) ((lj 5 (by decide)).trans l5) ((lj 2 (by decide)).trans l2) ((lj 3 (by decide)).trans l3) ((lj 1 (by decide)).trans l1) (fun τ9 m3 m4 s9 => ?_)
      have l2c : (A ++ fcL pl ++ [em 37 (nI (w2 - w))]).length = cs.length + bo.length + 1 + 3 * pl.length + 1 := by rw [List.length_append, lAf]; rfl
      have g2 : ∀ i, i < cs.length + bo.length + 1 → (A ++ fcL pl ++ [em 37 (nI (w2 - w))]).getD i 0 = A.getD i 0 := fun i hi => (gd_l (by rw [lAf]; omega)).trans (gd_l (by rw [lA]; exact hi))
      have gcl : ∀ i, i < bo.length + 1 → (A ++ fcL pl ++ [em 37 (nI (w2 - w))]).getD (cs.length + i) 0 = cl.getD i 0 := fun i hi => by
        rw [g2 _ (by omega), gA _ (by omega)]
        exact gd_r (a := cs) (b := cl) i
      have ty : Stm u gl Pc Vm w N lo (bdO o v) (nb + 1) [] (A ++ fcL pl ++ [em 37 (nI (w2 - w))]) := by
        rw [lcs] at l2c g2 gcl r4 gA1
        refine Stm_fo (l := pl) (Bd' := bdO (o + 1) cv) (bo := bo) (qb := qb) (nb := nb) fr hp (Vm' := VmX Vm xm) (fun i z => z) (fun i z => Or.inl z) w200 r4 (by unfold bdO; omega) ple l2c (fun i hi h1 h2 => ?_) ?_ ?_ (fun i hi hn => ?_) (fun i hi => ?_) ?_ (fun i hi => ?_) ?_
        · rw [g2 i (by omega), gA i h2, gd_l (by omega)]; exact ci i hi h1
        · rw [g2 1 (by omega), gA 1 (by omega), gd_l (by omega)]; exact c1
        · rw [g2 _ (by omega)]; exact gA1
        · rw [gcl i (by omega)]; exact r6 i hi hn
        · have hb := r4.1.1 i hi
          rw [gcl i (by omega)]; exact r7 i hi
        · rw [gcl _ (by omega), r8]
          rw [lcs]
          have z := n_ss N la (csR.length + bo.length) (by omega) (by omega)
          rw [← z]
          exact congrArg (fun y => em 3 (nI (N + la) - nI y)) (by omega)
        · have y := gd_r (a := A) (b := fcL pl) i
          rw [lA, lcs] at y
          rw [gd_l (by rw [lAf]; omega)]
          exact y
        · have y := gd_r (a := A ++ fcL pl) (b := [em 37 (nI (w2 - w))]) 0
          rw [lAf, lcs] at y
          exact y
      refine ⟨_, [], nb + 1, s9.1.1, s9.2.1, s9.2.2, ty, trivial, ⟨by rw [l2c]; omega, by omega, Nat.zero_le _⟩, by omega, by omega⟩
    exact go
end CYH

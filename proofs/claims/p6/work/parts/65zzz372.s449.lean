/-! The class: parts and rows of exps are read. -/
section CVH
variable {σ σ' σ0 τ τ' : CS} {L : LV} {b : Bool} {T : Nat → Int32} {n q q' u al o v mk p sz szB nc0 sz0 mk0 a1 a2 m kk f e : Nat} {y : Int32} {l l' cs cs' : List Int32} {tb : List Ent} {α : Type} {S : α → Int32 → CS → Prop} {C : Prop} {E : En} {gl : Nat × (Nat → Nat → Prop)} {Vm : Nat → Prop} {bt : BT}
/-- the next token lies behind -/
theorem tk_go (h : QS T n b u al tb o q v mk p sz σ) : q ≤ n ∧ tkN T n q ≤ n ∧ (¬ tkK T n q = 25 → q < tkN T n q) := by
  have z := tkN_b T n q h.1.2.2.2.1
  exact ⟨h.1.2.2.2.1, z.2.1, z.2.2.2⟩
/-- the bounds go on: further in the text -/
theorem BdX_g {o' q' v' sz' : Nat} {nt : Nat} (h : BdX n o q v mk p sz nt) (h1 : q ≤ q') (h2 : q' ≤ n) (h3 : o ≤ o') (h4 : v ≤ v') (h5 : 2 * sz' + 3 * (n - q') ≤ 2 * sz + 3 * (n - q)) : BdX n o' q' v' mk p sz' nt := by
  obtain ⟨b1, b2, b3, b4, b5⟩ := h
  exact ⟨b1, by omega, by omega, by omega, by omega⟩
/-- behind a part -/
def PtR (T : Nat → Int32) (n : Nat) (b : Bool) (u al : Nat) (gl : Nat × (Nat → Nat → Prop)) (Vm : Nat → Prop) (tb : List Ent) (o mk p sz q v : Nat) (z : Nat × Nat × Nat × Nat × BT) (y : Int32) (τ : CS) : Prop := y = nI z.2.2.1 ∧ ∃ cs : List Int32, QS T n b u al tb o z.1 z.2.1 mk p (sz + cs.length) τ ∧ (∀ i, i < cs.length → cdr b τ (sz + i) = cs.getD i 0) ∧ ((z.2.2.1 = 96 ∧ Sgm u p gl Vm 1 cs) ∨ (z.2.2.1 = 98 ∧ Sgm u p gl Vm 1 cs) ∨ (z.2.2.1 = 97 ∧ Sgm u p gl Vm 2 cs)) ∧ 2 * cs.length + 2 ≤ 3 * (z.1 - q) ∧ q < z.1 ∧ v ≤ z.2.1
theorem pt_0 (k d : Nat) (L : LV) (σ : CS) : f_F2 (k + 1) d 9 0 L σ = (if ((σ.1 3702)) = 12 then (ox (f_X5_opens k 0 lZ σ) (fun r2 => of d (fun e3 => ox (f_F2 k e3 1 0 (lI lZ 1 0) r2.2.1) (fun r3 => ox (f_X5_closes k 0 (lI lZ 1 13) r3.2.1) (fun r4 => some ((0, 98), r4.2.1, (0, 0))))))) else (f_F2 k d 9 1 (lI L 1 96) σ)) := rfl
theorem pt_1 (k d : Nat) (L : LV) (σ : CS) : f_F2 (k + 1) d 9 1 L σ = (ox (f_X5_opens k 0 lZ σ) (fun r1 => of d (fun e2 => ox (f_F2 k e2 1 0 (lI lZ 1 0) r1.2.1) (fun r2 => if ((r2.2.1.1 3702)) = 28 then (ox (f_X2_advance k 0 lZ r2.2.1) (fun r4 => of d (fun e5 => ox (f_F2 k e5 1 0 (lI lZ 1 0) r4.2.1) (fun r5 => f_F2 k d 9 2 (lI L 1 97) r5.2.1)))) else (f_F2 k d 9 2 L r2.2.1))))) := rfl
theorem pt_2 (k d : Nat) (L : LV) (σ : CS) : f_F2 (k + 1) d 9 2 L σ = (ox (f_X5_closes k 0 (lI lZ 1 11) σ) (fun r1 => some ((0, (L.1 1)), r1.2.1, (0, 0)))) := rfl
theorem c_partQ {e0 : Nat} {x : Option (Nat × Nat × Nat × Nat × BT)} (px : PXp T n b u al f e) (h : QS T n b u al tb o q v mk p sz σ) (ev : EvX E b u al gl Vm tb σ) (bd : BdX n o q v mk p sz tb.length) (hk : tkK T n q = 6 ∨ tkK T n q = 8) (hG : gPt T n f E o q v e0 bt = some x) (hd : ¬ o = 20 → 6 * (20 - (o + 1)) + 8 ≤ e) : Tm (fun k => f_F2 k (e + 1) 9 0 L σ) (QPo b u tb.length sz mk x (PtR T n b u al gl Vm tb o mk p sz q v) σ 0 0) := by
  have s0 := Sy_0 h
  have go := tk_go h
  have g1 := go.2.2 (by omega)
  have hop : (¬ (¬ o = 20 ∧ ¬ tkK T n (tkN T n q) = 0) ∧ x = none) ∨ ((¬ o = 20 ∧ ¬ tkK T n (tkN T n q) = 0) ∧ pb (G T n f 0 E (o + 1) (tkN T n q) v 0 0 0 0 bt) (fun r =>
    if tkK T n q = 6 ∧ tkK T n r.1 = 16 then pT T n r.1 (fun q2 => pb (G T n f 0 E (o + 1) q2 r.2.1 0 0 0 0 r.2.2.2.2.1) (fun s => pW T n 7 s.1 (fun q3 => some (some (q3, s.2.1, 97, s.2.2.2.2.1.1, bSet (bOver s.2.2.2.2.1 22 0 e0 (nI r.2.2.2.1)) 8 s.2.2.2.2.1.1 (nI s.2.2.2.1))))))
    else pW T n (if tkK T n q = 8 then 9 else 7) r.1 (fun q2 => some (some (q2, r.2.1, (if tkK T n q = 8 then 98 else 96), r.2.2.2.2.1.1, bOver r.2.2.2.2.1 (if tkK T n q = 8 then 23 else 21) 0 e0 (nI r.2.2.2.1))))) = some x) := by
    unfold gPt at hG
    by_cases c1 : o = 20
    · rw [if_pos c1] at hG
      exact Or.inl ⟨fun z => z.1 c1, (Option.some.inj hG).symm⟩
    · rw [if_neg c1] at hG
      rcases pT_any hG with ⟨w1, w2⟩ | ⟨w1, w2⟩
      · exact Or.inl ⟨fun z => z.2 w1, w2⟩
      · exact Or.inr ⟨⟨c1, w1⟩, w2⟩
  by_cases k8 : tkK T n q = 8
  · refine Tm_suc (fun k => pt_0 k _ _ _) ?_
    refine Tm_yes ((lx_k (kk := 8) h (by decide)).2 k8) ?_
    refine st_opens s0 hop (fun τ1 ret n1 n2 c1 s1 => ?_)
    refine Tm_d ?_
    have o20 : ¬ o = 20 := fun z => by
      have := s1.1.1.2.2.2.2.2.1.2
      omega
    rcases pb_any c1 with ⟨w1, w2⟩ | ⟨r0, w1, w2⟩
    · exact st_exp (C := True) px (Or.inl ⟨rfl, rfl⟩) s1 (EvX_k ev s1.1.2.1) (BdX_g bd (by omega) go.2.1 (by omega) (Nat.le_refl _) (by show 2 * (sz + 0) + _ ≤ _; omega)) rfl (hd o20) w1 (Or.inl ⟨rfl, w2⟩) (fun _ _ _ _ _ _ z => by cases z)
    · refine st_exp (C := True) px (Or.inl ⟨rfl, rfl⟩) s1 (EvX_k ev s1.1.2.1) (BdX_g bd (by omega) go.2.1 (by omega) (Nat.le_refl _) (by show 2 * (sz + 0) + _ ≤ _; omega)) rfl (hd o20) w1 (Or.inr ⟨r0, rfl, trivial⟩) (fun τ2 ret2 m1 m2 r ll hz _ s2 xk sg ln lt lv tg => ?_)
      cases hz
      rw [if_neg (fun z => by omega), if_pos k8] at w2
      have go2 := tk_go s2.1.1
      have y9 := pW_any w2
      refine st_closes (kk := 9) s2 (by decide) rfl y9 (fun τ3 ret3 l1 l2 c3 s3 => ?_)
      rw [if_pos k8] at c3
      cases c3
      have k9 : tkK T n r0.1 = 9 := by
        rcases y9 with ⟨y1, y2⟩ | ⟨y1, _⟩
        · cases y2
        · exact y1.1
      have g3 := go2.2.2 (by omega)
      refine Tm_some (Qfin s3.1 ⟨rfl, ll, s3.1.1, s3.2, Or.inr (Or.inl ⟨rfl, sg⟩), ?_, ?_, lv⟩)
      · show 2 * ll.length + 2 ≤ 3 * (tkN T n r0.1 - q)
        omega
      · show q < tkN T n r0.1
        omega
  · have k6 : tkK T n q = 6 := by omega
    have b2 : ∀ (L' : LV) (τ' : CS) (a1 a2 kd : Nat) (ll : List Int32) (q2 v2 : Nat) (w : Nat × BT), L'.1 1 = nI kd → Sy T n b u al σ tb.length sz mk a1 a2 tb (o + 1) q2 v2 mk p sz ll τ' → ((kd = 96 ∧ Sgm u p gl Vm 1 ll) ∨ (kd = 97 ∧ Sgm u p gl Vm 2 ll)) → pW T n 7 q2 (fun q3 => some (some (q3, v2, kd, w))) = some x → 2 * ll.length ≤ 3 * (q2 - q) → q < q2 → v ≤ v2 → Tm (fun k => f_F2 k (e + 1) 9 2 L' τ') (QPo b u tb.length sz mk x (PtR T n b u al gl Vm tb o mk p sz q v) σ a1 a2) := by
      intro L' τ' a1 a2 kd ll q2 v2 w l1 s2 sg hw ln lt lv
      have go2 := tk_go s2.1.1
      have y9 := pW_any hw
      refine Tm_suc (fun k => pt_2 k _ _ _) ?_
      refine st_closes (kk := 7) s2 (by decide) rfl y9 (fun τ3 ret3 l1' l2 c3 s3 => ?_)
      have k7 : tkK T n q2 = 7 := by
        rcases y9 with ⟨y1, y2⟩ | ⟨y1, _⟩
        · rw [y2] at c3; cases c3
        · exact y1.1
      cases c3
      have g3 := go2.2.2 (by omega)
      refine Tm_some (Qfin s3.1 ⟨l1, ll, s3.1.1, s3.2, ?_, ?_, ?_, lv⟩)
      · rcases sg with ⟨z1, z2⟩ | ⟨z1, z2⟩
        · exact Or.inl ⟨z1, z2⟩
        · exact Or.inr (Or.inr ⟨z1, z2⟩)
      · show 2 * ll.length + 2 ≤ 3 * (tkN T n q2 - q)
        omega
      · show q < tkN T n q2
        omega
    refine Tm_suc (fun k => pt_0 k _ _ _) ?_
    refine Tm_no (fun z => k8 ((lx_k (kk := 8) h (by decide)).1 z)) ?_
    refine Tm_suc (fun k => pt_1 k _ _ _) ?_
    refine st_opens s0 hop (fun τ1 ret n1 n2 c1 s1 => ?_)
    refine Tm_d ?_
    have o20 : ¬ o = 20 := fun z => by
      have := s1.1.1.2.2.2.2.2.1.2
      omega
    rcases pb_any c1 with ⟨w1, w2⟩ | ⟨r0, w1, w2⟩
    · exact st_exp (C := True) px (Or.inl ⟨rfl, rfl⟩) s1 (EvX_k ev s1.1.2.1) (BdX_g bd (by omega) go.2.1 (by omega) (Nat.le_refl _) (by show 2 * (sz + 0) + _ ≤ _; omega)) rfl (hd o20) w1 (Or.inl ⟨rfl, w2⟩) (fun _ _ _ _ _ _ z => by cases z)
    · refine st_exp (C := True) px (Or.inl ⟨rfl, rfl⟩) s1 (EvX_k ev s1.1.2.1) (BdX_g bd (by omega) go.2.1 (by omega) (Nat.le_refl _) (by show 2 * (sz + 0) + _ ≤ _; omega)) rfl (hd o20) w1 (Or.inr ⟨r0, rfl, trivial⟩) (fun τ2 ret2 m1 m2 r ll hz _ s2 xk sg ln lt lv tg => ?_)
      cases hz
      have go2 := tk_go s2.1.1
      have s2' : Sy T n b u al σ tb.length sz mk (0 + n1 + m1) (0 + n2 + m2) tb (o + 1) r0.1 r0.2.1 mk p sz ll τ2 := s2
      by_cases k16 : tkK T n r0.1 = 16
      · rw [if_pos ⟨k6, k16⟩] at w2
        refine Tm_yes ((lx_k (kk := 16) s2.1.1 (by decide)).2 k16) ?_
        refine st_advY s2' (pT_any w2) (fun τ3 r3 er c3 s3 => ?_)
        refine Tm_d ?_
        rw [er]
        have g2 := go2.2.2 (by omega)
        have bd3 : BdX n (o + 1) (tkN T n r0.1) r0.2.1 mk p (sz + ll.length) tb.length := BdX_g bd (by omega) go2.2.1 (by omega) lv (by omega)
        rcases pb_any c3 with ⟨y1, y2⟩ | ⟨r4, y1, y2⟩
        · exact st_exp (C := True) px (Or.inl ⟨rfl, rfl⟩) s3 (EvX_k ev s3.1.2.1) bd3 rfl (hd o20) y1 (Or.inl ⟨rfl, y2⟩) (fun _ _ _ _ _ _ z => by cases z)
        · refine st_exp (C := True) px (Or.inl ⟨rfl, rfl⟩) s3 (EvX_k ev s3.1.2.1) bd3 rfl (hd o20) y1 (Or.inr ⟨r4, rfl, trivial⟩) (fun τ5 ret5 p1 p2 r5 l5 hz5 _ s5 xk5 sg5 ln5 lt5 lv5 tg5 => ?_)
          cases hz5
          refine b2 _ τ5 _ _ 97 (ll ++ l5) r4.1 r4.2.1 _ rfl s5 (Or.inr ⟨rfl, Sgm_seq sg sg5⟩) y2 ?_ (by omega) (by omega)
          rw [List.length_append]
          omega
      · rw [if_neg (fun z => k16 z.2), if_neg k8, if_neg k8, if_neg k8] at w2
        refine Tm_no (fun z => k16 ((lx_k (kk := 16) s2.1.1 (by decide)).1 z)) ?_
        exact b2 _ τ2 _ _ 96 ll r0.1 r0.2.1 _ rfl s2' (Or.inl ⟨rfl, sg⟩) w2 (by omega) (by omega) lv
/-- behind a row of exps: how many -/
def EsR (T : Nat → Int32) (n : Nat) (b : Bool) (u al : Nat) (gl : Nat × (Nat → Nat → Prop)) (Vm : Nat → Prop) (tb : List Ent) (o mk p sz q v : Nat) (r : RT) (y : Int32) (τ : CS) : Prop := y = nI r.2.2.1 ∧ ∃ cs : List Int32, QS T n b u al tb o r.1 r.2.1 mk p (sz + cs.length) τ ∧ (∀ i, i < cs.length → cdr b τ (sz + i) = cs.getD i 0) ∧ Sgm u p gl Vm r.2.2.1 cs ∧ 2 * cs.length ≤ 3 * (r.1 - q) + 1 ∧ q < r.1 ∧ v ≤ r.2.1
theorem es_0 (k d : Nat) (L : LV) (σ : CS) : f_F2 (k + 1) d 2 0 L σ = (of d (fun e1 => ox (f_F2 k e1 1 0 (lI lZ 1 0) σ) (fun r1 => f_F2 k d 2 1 (lI (lI L 1 1) 2 0) r1.2.1))) := rfl
theorem es_1 (k d : Nat) (L : LV) (σ : CS) : f_F2 (k + 1) d 2 1 L σ = (if 32768 < ((L.1 2)) then (f_F2 k d 2 2 L σ) else (if ((σ.1 3702)) = 16 then (ox (f_X2_advance k 0 lZ σ) (fun r3 => of d (fun e4 => ox (f_F2 k e4 1 0 (lI lZ 1 0) r3.2.1) (fun r4 => f_F2 k d 2 1 (lI (lI L 1 ((((L.1 1)) + 1))) 2 ((((L.1 2)) + 1))) r4.2.1)))) else (f_F2 k d 2 2 L σ))) := rfl
theorem es_2 (k d : Nat) (L : LV) (σ : CS) : f_F2 (k + 1) d 2 2 L σ = (some ((0, (L.1 1)), σ, (0, 0))) := rfl
theorem c_exps {x : Option RT} (px : ∀ f', f' ≤ f → PXp T n b u al f' e) (h : QS T n b u al tb o q v mk p sz σ) (ev : EvX E b u al gl Vm tb σ) (bd : BdX n o q v mk p sz tb.length) (hk : ¬ tkK T n q = 7) (hG : G T n (f + 1) 14 E o q v 0 0 0 0 bt = some x) (hd : 6 * (20 - o) + 8 ≤ e) : Tm (fun k => f_F2 k (e + 1) 2 0 L σ) (QPo b u tb.length sz mk x (EsR T n b u al gl Vm tb o mk p sz q v) σ 0 0) := by
  have s0 := Sy_0 h
  have go := tk_go h
  have n10 := bd.1
  have b1 : ∀ (f1 : Nat), f1 ≤ f → ∀ (L' : LV) (τ' : CS) (a1 a2 c q1 v1 i1 e1 : Nat) (bt1 : BT) (ll : List Int32), G T n f1 14 E o q1 v1 i1 e1 c 0 bt1 = some x → 1 ≤ c → c ≤ q1 → L'.1 1 = nI c → L'.1 2 = nI (c - 1) → Sy T n b u al σ tb.length sz mk a1 a2 tb o q1 v1 mk p sz ll τ' → Sgm u p gl Vm c ll → 2 * ll.length ≤ 3 * (q1 - q) + 1 → q < q1 → v ≤ v1 → Tm (fun k => f_F2 k (e + 1) 2 1 L' τ') (QPo b u tb.length sz mk x (EsR T n b u al gl Vm tb o mk p sz q v) σ a1 a2) := by
    intro f1
    induction f1 with
    | zero =>
      intro _ L' τ' a1 a2 c q1 v1 i1 e1 bt1 ll hg
      cases hg
    | succ f1 ih =>
      intro hf L' τ' a1 a2 c q1 v1 i1 e1 bt1 ll hg c1 cq l1 l2 s1 sg ln lt lv
      have go1 := tk_go s1.1.1
      have hg' : (if c = 0 then (if tkK T n q1 = 7 then some (some (q1, v1, 0, 0, bt1, [])) else gb (G T n f1 0 E o q1 v1 0 0 0 0 bt1) (fun r => G T n f1 14 E o r.1 r.2.1 r.2.2.2.1 r.2.2.2.1 1 0 r.2.2.2.2.1)) else if tkK T n q1 = 12 then gT T n q1 (fun q2 => gb (G T n f1 0 E o q2 v1 0 0 0 0 bt1) (fun r => G T n f1 14 E o r.1 r.2.1 i1 r.2.2.2.1 (c + 1) 0 (bSet r.2.2.2.2.1 9 e1 (nI r.2.2.2.1)))) else some (some (q1, v1, c, i1, bt1, []))) = some x := hg
      rw [if_neg (by omega)] at hg'
      refine Tm_suc (fun k => es_1 k _ _ _) ?_
      refine Tm_no ?_ ?_
      · rw [l2]
        show ¬ nI 32768 < nI (c - 1)
        rw [u_ltn (by decide) (by rw [u_n (by omega)]; omega), u_n (by decide), u_n (by omega)]
        omega
      by_cases k12 : tkK T n q1 = 12
      · rw [if_pos k12] at hg'
        have g2 := go1.2.2 (by omega)
        refine Tm_yes ((lx_k (kk := 12) s1.1.1 (by decide)).2 k12) ?_
        refine st_advY s1 (gT_any hg') (fun τ2 r2 er c2 s2 => ?_)
        refine Tm_d ?_
        rw [er]
        have bd2 : BdX n o (tkN T n q1) v1 mk p (sz + ll.length) tb.length := BdX_g bd (by omega) go1.2.1 (Nat.le_refl _) lv (by omega)
        rcases gb_any c2 with ⟨y1, y2⟩ | ⟨r4, y1, y2⟩
        · exact st_exp (C := True) (px f1 (by omega)) (Or.inl ⟨rfl, rfl⟩) s2 (EvX_k ev s2.1.2.1) bd2 rfl hd y1 (Or.inl ⟨rfl, y2⟩) (fun _ _ _ _ _ _ z => by cases z)
        · refine st_exp (C := True) (px f1 (by omega)) (Or.inl ⟨rfl, rfl⟩) s2 (EvX_k ev s2.1.2.1) bd2 rfl hd y1 (Or.inr ⟨r4, rfl, trivial⟩) (fun τ5 ret5 p1 p2 r5 l5 hz5 _ s5 xk5 sg5 ln5 lt5 lv5 tg5 => ?_)
          cases hz5
          refine ih (by omega) _ τ5 _ _ (c + 1) r4.1 r4.2.1 _ _ _ (ll ++ l5) y2 (by omega) (by omega) ?_ ?_ s5 (Sgm_seq sg sg5) ?_ (by omega) (by omega)
          · show L'.1 1 + 1 = _
            rw [l1, n_add1]
          · show L'.1 2 + 1 = nI (c + 1 - 1)
            rw [l2, n_add1]
            exact congrArg nI (by omega)
          · rw [List.length_append]
            omega
      · rw [if_neg k12] at hg'
        refine Tm_no (fun z => k12 ((lx_k (kk := 12) s1.1.1 (by decide)).1 z)) ?_
        refine Tm_suc (fun k => es_2 k _ _ _) ?_
        cases hg'
        exact Tm_some (Qfin s1.1 ⟨l1, ll, s1.1.1, s1.2, sg, ln, lt, lv⟩)
  have hg' : (if (0 : Nat) = 0 then (if tkK T n q = 7 then some (some (q, v, 0, 0, bt, [])) else gb (G T n f 0 E o q v 0 0 0 0 bt) (fun r => G T n f 14 E o r.1 r.2.1 r.2.2.2.1 r.2.2.2.1 1 0 r.2.2.2.2.1)) else if tkK T n q = 12 then gT T n q (fun q2 => gb (G T n f 0 E o q2 v 0 0 0 0 bt) (fun r => G T n f 14 E o r.1 r.2.1 0 r.2.2.2.1 (0 + 1) 0 (bSet r.2.2.2.2.1 9 0 (nI r.2.2.2.1)))) else some (some (q, v, 0, 0, bt, []))) = some x := hG
  rw [if_pos rfl, if_neg hk] at hg'
  refine Tm_suc (fun k => es_0 k _ _ _) ?_
  refine Tm_d ?_
  rcases gb_any hg' with ⟨y1, y2⟩ | ⟨r4, y1, y2⟩
  · exact st_exp (C := True) (px f (Nat.le_refl _)) (Or.inl ⟨rfl, rfl⟩) s0 ev (by show BdX n o q v mk p (sz + 0) tb.length; exact bd) rfl hd y1 (Or.inl ⟨rfl, y2⟩) (fun _ _ _ _ _ _ z => by cases z)
  · refine st_exp (C := True) (px f (Nat.le_refl _)) (Or.inl ⟨rfl, rfl⟩) s0 ev (by show BdX n o q v mk p (sz + 0) tb.length; exact bd) rfl hd y1 (Or.inr ⟨r4, rfl, trivial⟩) (fun τ5 ret5 p1 p2 r5 l5 hz5 _ s5 xk5 sg5 ln5 lt5 lv5 tg5 => ?_)
    cases hz5
    exact b1 f (Nat.le_refl _) _ τ5 _ _ 1 r4.1 r4.2.1 _ _ _ l5 y2 (by omega) (by omega) rfl rfl s5 sg5 ln5 lt5 lv5
end CVH

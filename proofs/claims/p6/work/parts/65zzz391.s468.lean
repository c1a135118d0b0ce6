/-! The class: operands, with their parts. -/
section CWA
variable {σ σ' σ0 τ τ' : CS} {L : LV} {b : Bool} {T : Nat → Int32} {n q q' u al o v mk p sz szB nc0 sz0 mk0 a1 a2 m kk f e t : Nat} {y w : Int32} {l l' cs cs' : List Int32} {tb : List Ent} {α : Type} {S : α → Int32 → CS → Prop} {C : Prop} {E : En} {gl : Nat × (Nat → Nat → Prop)} {Vm : Nat → Prop} {bt : BT} {x : Option α}
theorem Sy_mk (h : Sy T n b u al σ0 nc0 sz0 mk0 a1 a2 tb o q v mk p szB cs τ) (a : MrO mk l τ τ') {n1 n2 : Nat} (c : n1 + PhC τ' ≤ PhC τ ∧ n2 + PhS τ' ≤ PhS τ) : Sy T n b u al σ0 nc0 sz0 mk0 (a1 + n1) (a2 + n2) tb o q v (mk + l.length) p szB cs τ' := by
  obtain ⟨⟨h1, h2, h3, h4, h5, h6⟩, k2⟩ := h
  obtain ⟨q1, q2⟩ := QS_mk h1 a
  refine ⟨⟨q1, XK_t h2 q2 h4 h5 h6, ⟨by omega, by omega⟩, h4, h5, by omega⟩, fun i hi => ?_⟩
  rw [(q2.2.2.2.2.2.1 (szB + i) (by omega)).1]
  exact k2 i hi
theorem st_mark {f' : Nat → RS → Option RS} (h : Sy T n b u al σ0 nc0 sz0 mk0 a1 a2 tb o q v mk p szB cs τ) (hm : mk + 1 ≤ 21504) (cont : ∀ (τ' : CS) (n1 n2 : Nat), Sy T n b u al σ0 nc0 sz0 mk0 (a1 + n1) (a2 + n2) tb o q v (mk + 1) p szB cs τ' → (∀ i, i < mk → τ'.2.2.1 41 i = τ.2.2.1 41 i) → τ'.2.2.1 41 mk = L.1 1 → Tm (fun k => f' k ((0, nI mk), τ', (n1, n2))) (QPo b u nc0 sz0 mk0 x S σ0 (a1 + n1) (a2 + n2))) : Tm (fun k => ox (f_X5_mark k 0 L τ) (f' k)) (QPo b u nc0 sz0 mk0 x S σ0 a1 a2) := by
  refine Tm_ox (c_mark h.1.1.2.2.1 hm) (fun r w nz => absurd (by rw [w.1]) nz) (fun r w e0 => ?_)
  obtain ⟨w1, w2, w3⟩ := w
  have k := cont r.2.1 r.2.2.1 r.2.2.2 (Sy_mk h w3 ⟨w2.1, w2.2⟩) w3.2.2.1 (w3.2.2.2 0 (by show 0 < 1; decide))
  have er : ((0, nI mk), r.2.1, (r.2.2.1, r.2.2.2)) = r := by rw [← w1]
  rw [er] at k
  exact Tm_mono k (fun q z => QPo_s z)
theorem st_post {f' : Nat → RS → Option RS} (h : Sy T n b u al σ0 nc0 sz0 mk0 a1 a2 tb o q v mk p szB cs τ) (hm : mk + 3 ≤ 21504) (cont : ∀ (τ' : CS) (n1 n2 : Nat), Sy T n b u al σ0 nc0 sz0 mk0 (a1 + n1) (a2 + n2) tb o q v (mk + 3) p szB cs τ' → (∀ i, i < mk → τ'.2.2.1 41 i = τ.2.2.1 41 i) → (τ'.2.2.1 41 mk = L.1 1 ∧ τ'.2.2.1 41 (mk + 1) = L.1 2 ∧ τ'.2.2.1 41 (mk + 2) = L.1 3) → τ'.1 4016 = τ.1 4016 → Tm (fun k => f' k ((0, 0), τ', (n1, n2))) (QPo b u nc0 sz0 mk0 x S σ0 (a1 + n1) (a2 + n2))) : Tm (fun k => ox (f_X5_postpone k 0 L τ) (f' k)) (QPo b u nc0 sz0 mk0 x S σ0 a1 a2) := by
  refine Tm_ox (c_postpone h.1.1.2.2.1 hm) (fun r w nz => absurd (by rw [w.1]) nz) (fun r w e0 => ?_)
  obtain ⟨w1, w2, w3⟩ := w
  have k := cont r.2.1 r.2.2.1 r.2.2.2 (Sy_mk h w3 ⟨w2.1, w2.2⟩) w3.2.2.1 ⟨w3.2.2.2 0 (by show 0 < 3; decide), w3.2.2.2 1 (by show 1 < 3; decide), w3.2.2.2 2 (by show 2 < 3; decide)⟩ (w3.1.1 4016 (by decide))
  have er : ((0, 0), r.2.1, (r.2.2.1, r.2.2.2)) = r := by rw [← w1]
  rw [er] at k
  exact Tm_mono k (fun q z => QPo_s z)
/-- an instruction; what is not the code stays -/
theorem st_emitF {op : Nat} {f' : Nat → RS → Option RS} (h : Sy T n b u al σ0 nc0 sz0 mk0 a1 a2 tb o q v mk p szB cs τ) (hb : L.2.2.1 0 = b) (h1 : L.1 1 = nI op) (hm : szB + cs.length + 1 ≤ 36864) (cont : ∀ (τ' : CS) (n1 n2 : Nat), Sy T n b u al σ0 nc0 sz0 mk0 (a1 + n1) (a2 + n2) tb o q v mk p szB (cs ++ [em op (L.1 2)]) τ' → (τ'.2.2.1 41 = τ.2.2.1 41 ∧ sN τ' 41 = sN τ 41) → (∀ j, ¬ j = fP b 1 → τ'.1 j = τ.1 j) → Tm (fun k => f' k ((0, nI (szB + cs.length)), τ', (n1, n2))) (QPo b u nc0 sz0 mk0 x S σ0 (a1 + n1) (a2 + n2))) : Tm (fun k => ox (f_X7_emit__P k 0 L τ) (f' k)) (QPo b u nc0 sz0 mk0 x S σ0 a1 a2) := by
  refine Tm_ox (c_emit h.1.1.2.1 hb hm) (fun r w nz => absurd (by rw [w.1]) nz) (fun r w e0 => ?_)
  obtain ⟨w1, w2, w3⟩ := w
  rw [h1] at w3
  have k := cont r.2.1 r.2.2.1 r.2.2.2 (Sy_cd h w3 ⟨w2.1, w2.2⟩) (w3.1.2.2.1 41 (by decide)) w3.1.1
  have er : ((0, nI (szB + cs.length)), r.2.1, (r.2.2.1, r.2.2.2)) = r := by rw [← w1]
  rw [er] at k
  exact Tm_mono k (fun q z => QPo_s z)
theorem PtM_k : ∀ (pl : List (List Int32 × Nat)) (mk st : Nat), (∀ i, i < mk + 3 * pl.length → τ'.2.2.1 41 i = τ.2.2.1 41 i) → PtM τ mk st pl → PtM τ' mk st pl
  | [], k0, st, _, _ => trivial
  | z :: r, k0, st, e, h => by
    have el : (z :: r).length = r.length + 1 := rfl
    obtain ⟨⟨h1, h2, h3⟩, h4⟩ := h
    refine ⟨⟨by rw [e k0 (by omega)]; exact h1, by rw [e (k0 + 1) (by omega)]; exact h2, by rw [e (k0 + 2) (by omega)]; exact h3⟩, PtM_k r (k0 + 3) _ (fun i hi => e i (by omega)) h4⟩
theorem ptC_ap (z : List Int32 × Nat) : ∀ (pl : List (List Int32 × Nat)), ptC (pl ++ [z]) = ptC pl ++ (z.1 ++ [em z.2 0])
  | [] => by show z.1 ++ (em z.2 0 :: []) = [] ++ _; rw [List.nil_append]
  | a :: r => by
    show a.1 ++ (em a.2 0 :: ptC (r ++ [z])) = (a.1 ++ (em a.2 0 :: ptC r)) ++ _
    rw [ptC_ap z r, List.append_assoc]; rfl
theorem PtM_ap (z : List Int32 × Nat) : ∀ (pl : List (List Int32 × Nat)) (mk st : Nat), PtM τ mk st pl → (τ.2.2.1 41 (mk + 3 * pl.length) = nI (st + (ptC pl).length) ∧ τ.2.2.1 41 (mk + 3 * pl.length + 1) = nI (st + (ptC pl).length + z.1.length) ∧ τ.2.2.1 41 (mk + 3 * pl.length + 2) = nI z.2) → PtM τ mk st (pl ++ [z])
  | [], k0, st, _, h => ⟨h, trivial⟩
  | a :: r, k0, st, hp, h => by
    have el : (a :: r).length = r.length + 1 := rfl
    have ec : (ptC (a :: r)).length = a.1.length + ((ptC r).length + 1) := by
      show (a.1 ++ (em a.2 0 :: ptC r)).length = _
      rw [List.length_append]; rfl
    refine ⟨hp.1, PtM_ap z r (k0 + 3) (st + a.1.length + 1) hp.2 ?_⟩
    rw [el, ec] at h
    rw [show k0 + 3 + 3 * r.length = k0 + 3 * (r.length + 1) by omega, show st + a.1.length + 1 + (ptC r).length = st + (a.1.length + ((ptC r).length + 1)) by omega]
    exact h
theorem PtG_ap (z : List Int32 × Nat) (hz : (z.2 = 96 ∧ Sgm u p gl Vm 1 z.1) ∨ (z.2 = 98 ∧ Sgm u p gl Vm 1 z.1) ∨ (z.2 = 97 ∧ Sgm u p gl Vm 2 z.1)) : ∀ (pl : List (List Int32 × Nat)), PtG u p gl Vm pl → PtG u p gl Vm (pl ++ [z])
  | [], _ => ⟨hz, trivial⟩
  | a :: r, h => ⟨h.1, PtG_ap z hz r h.2⟩
/-- what is known of a target while its parts are read -/
def TgLp (T : Nat → Int32) (n u p : Nat) (gl : Nat × (Nat → Nat → Prop)) (Vm : Nat → Prop) (tb : List Ent) (q sz mk : Nat) (cs : List Int32) (i c : Nat) (nx : Int32) (τ : CS) : Prop := (i = 0 ∧ nx = -1) ∨ (¬ i = 0 ∧ ∃ (nm : Nat) (ld : Int32) (pl : List (List Int32 × Nat)), nx = nI nm ∧ LkI tb (tkS T n q) nm ∧ cs = ld :: ptC pl ∧ PtM τ mk (sz + 1) pl ∧ PtG u p gl Vm pl ∧ pl.length = c)
theorem n_mn {k : Nat} (h : k < 2147483648) : ¬ nI k = -1 := fun z => by
  have z' := congrArg uN z
  rw [u_n (by omega)] at z'
  have : uN (-1 : Int32) = 4294967295 := by decide
  omega
/-- a part, where one int more has been laid -/
theorem c_partW {e0 szb : Nat} {x : Option (Nat × Nat × Nat × Nat × BT)} (px : PXp T n b u al f e) (h : QS T n b u al tb o q v mk p sz σ) (ev : EvX E b u al gl Vm tb σ) (bd : BdX n o q v mk p szb tb.length) (hsz : sz ≤ szb + 1) (hk : tkK T n q = 6 ∨ tkK T n q = 8) (hG : gPt T n f E o q v e0 bt = some x) (hd : ¬ o = 20 → 6 * (20 - (o + 1)) + 8 ≤ e) : Tm (fun k => f_F2 k (e + 1) 9 0 L σ) (QPo b u tb.length sz mk x (PtR T n b u al gl Vm tb o mk p sz q v) σ 0 0) := by
  have s0 := Sy_0 h
  have go := tk_go h
  have g1 := go.2.2 (by omega)
  have hop : (¬ (¬ o = 20 ∧ ¬ tkK T n (tkN T n q) = 0) ∧ x = none) ∨ ((¬ o = 20 ∧ ¬ tkK T n (tkN T n q) = 0) ∧ pb (G T n f 0 E (o + 1) (tkN T n q) v 0 0 0 0 bt) (fun r =>
    if tkK T n q = 6 ∧ tkK T n r.1 = 16 then pT T n r.1 (fun q2 => pb (G T n f 0 E (o + 1) q2 r.2.1 0 0 0 0 r.2.2.2.2.1) (fun s => pW T n 7 s.1 (fun q3 => some (some (q3, s.2.1, 97, s.2.2.2.2.1.1, bSet (bOver s.2.2.2.2.1 22 0 e0 (nI r.2.2.2.1)) 8 s.2.2.2.2.1.1 (nI s.2.2.2.1))))))
    else pW T n (if tkK T n q = 8 then 9 else 7) r.1 (fun q2 => some (some (q2, r.2.1, (if tkK T n q = 8 then 98 else 96), r.2.2.2.2.1.1, bOver r.2.2.2.2.1 (if tkK T n q = 8 then 23 else 21) 0 e0 (nI r.2.2.2.1))))) = some x) := by
    unfold gPt at hG
    by_cases c1 : o = 20
    · rw [if_pos c1] at hG
      exact Or.inl ⟨fun z => z.1 c1, (Option.some.inj hG).symm⟩
    · rw [if_neg c1] at hG
      rcases pT_any hG with ⟨w1, w2⟩ | ⟨w1, w2⟩
      · exact Or.inl ⟨fun z => z.2 w1, w2⟩
      · exact Or.inr ⟨⟨c1, w1⟩, w2⟩
  by_cases k8 : tkK T n q = 8
  · refine Tm_suc (fun k => pt_0 k _ _ _) ?_
    refine Tm_yes ((lx_k (kk := 8) h (by decide)).2 k8) ?_
    refine st_opens s0 hop (fun τ1 ret n1 n2 c1 s1 => ?_)
    refine Tm_d ?_
    have o20 : ¬ o = 20 := fun z => by
      have := s1.1.1.2.2.2.2.2.1.2
      omega
    rcases pb_any c1 with ⟨w1, w2⟩ | ⟨r0, w1, w2⟩
    · exact st_exp (C := True) px (Or.inl ⟨rfl, rfl⟩) s1 (EvX_k ev s1.1.2.1) (BdX_g bd (by omega) go.2.1 (by omega) (Nat.le_refl _) (by show 2 * (sz + 0) + _ ≤ _; omega)) rfl (hd o20) w1 (Or.inl ⟨rfl, w2⟩) (fun _ _ _ _ _ _ z => by cases z)
    · refine st_exp (C := True) px (Or.inl ⟨rfl, rfl⟩) s1 (EvX_k ev s1.1.2.1) (BdX_g bd (by omega) go.2.1 (by omega) (Nat.le_refl _) (by show 2 * (sz + 0) + _ ≤ _; omega)) rfl (hd o20) w1 (Or.inr ⟨r0, rfl, trivial⟩) (fun τ2 ret2 m1 m2 r ll hz _ s2 xk sg ln lt lv tg => ?_)
      cases hz
      rw [if_neg (fun z => by omega), if_pos k8] at w2
      have go2 := tk_go s2.1.1
      have y9 := pW_any w2
      refine st_closes (kk := 9) s2 (by decide) rfl y9 (fun τ3 ret3 l1 l2 c3 s3 => ?_)
      rw [if_pos k8] at c3
      cases c3
      have k9 : tkK T n r0.1 = 9 := by
        rcases y9 with ⟨y1, y2⟩ | ⟨y1, _⟩
        · cases y2
        · exact y1.1
      have g3 := go2.2.2 (by omega)
      refine Tm_some (Qfin s3.1 ⟨rfl, ll, s3.1.1, s3.2, Or.inr (Or.inl ⟨rfl, sg⟩), ?_, ?_, lv⟩)
      · show 2 * ll.length + 2 ≤ 3 * (tkN T n r0.1 - q)
        omega
      · show q < tkN T n r0.1
        omega
  · have k6 : tkK T n q = 6 := by omega
    have b2 : ∀ (L' : LV) (τ' : CS) (a1 a2 kd : Nat) (ll : List Int32) (q2 v2 : Nat) (w : Nat × BT), L'.1 1 = nI kd → Sy T n b u al σ tb.length sz mk a1 a2 tb (o + 1) q2 v2 mk p sz ll τ' → ((kd = 96 ∧ Sgm u p gl Vm 1 ll) ∨ (kd = 97 ∧ Sgm u p gl Vm 2 ll)) → pW T n 7 q2 (fun q3 => some (some (q3, v2, kd, w))) = some x → 2 * ll.length ≤ 3 * (q2 - q) → q < q2 → v ≤ v2 → Tm (fun k => f_F2 k (e + 1) 9 2 L' τ') (QPo b u tb.length sz mk x (PtR T n b u al gl Vm tb o mk p sz q v) σ a1 a2) := by
      intro L' τ' a1 a2 kd ll q2 v2 w l1 s2 sg hw ln lt lv
      have go2 := tk_go s2.1.1
      have y9 := pW_any hw
      refine Tm_suc (fun k => pt_2 k _ _ _) ?_
      refine st_closes (kk := 7) s2 (by decide) rfl y9 (fun τ3 ret3 l1' l2 c3 s3 => ?_)
      have k7 : tkK T n q2 = 7 := by
        rcases y9 with ⟨y1, y2⟩ | ⟨y1, _⟩
        · rw [y2] at c3; cases c3
        · exact y1.1
      cases c3
      have g3 := go2.2.2 (by omega)
      refine Tm_some (Qfin s3.1 ⟨l1, ll, s3.1.1, s3.2, ?_, ?_, ?_, lv⟩)
      · rcases sg with ⟨z1, z2⟩ | ⟨z1, z2⟩
        · exact Or.inl ⟨z1, z2⟩
        · exact Or.inr (Or.inr ⟨z1, z2⟩)
      · show 2 * ll.length + 2 ≤ 3 * (tkN T n q2 - q)
        omega
      · show q < tkN T n q2
        omega
    refine Tm_suc (fun k => pt_0 k _ _ _) ?_
    refine Tm_no (fun z => k8 ((lx_k (kk := 8) h (by decide)).1 z)) ?_
    refine Tm_suc (fun k => pt_1 k _ _ _) ?_
    refine st_opens s0 hop (fun τ1 ret n1 n2 c1 s1 => ?_)
    refine Tm_d ?_
    have o20 : ¬ o = 20 := fun z => by
      have := s1.1.1.2.2.2.2.2.1.2
      omega
    rcases pb_any c1 with ⟨w1, w2⟩ | ⟨r0, w1, w2⟩
    · exact st_exp (C := True) px (Or.inl ⟨rfl, rfl⟩) s1 (EvX_k ev s1.1.2.1) (BdX_g bd (by omega) go.2.1 (by omega) (Nat.le_refl _) (by show 2 * (sz + 0) + _ ≤ _; omega)) rfl (hd o20) w1 (Or.inl ⟨rfl, w2⟩) (fun _ _ _ _ _ _ z => by cases z)
    · refine st_exp (C := True) px (Or.inl ⟨rfl, rfl⟩) s1 (EvX_k ev s1.1.2.1) (BdX_g bd (by omega) go.2.1 (by omega) (Nat.le_refl _) (by show 2 * (sz + 0) + _ ≤ _; omega)) rfl (hd o20) w1 (Or.inr ⟨r0, rfl, trivial⟩) (fun τ2 ret2 m1 m2 r ll hz _ s2 xk sg ln lt lv tg => ?_)
      cases hz
      have go2 := tk_go s2.1.1
      have s2' : Sy T n b u al σ tb.length sz mk (0 + n1 + m1) (0 + n2 + m2) tb (o + 1) r0.1 r0.2.1 mk p sz ll τ2 := s2
      by_cases k16 : tkK T n r0.1 = 16
      · rw [if_pos ⟨k6, k16⟩] at w2
        refine Tm_yes ((lx_k (kk := 16) s2.1.1 (by decide)).2 k16) ?_
        refine st_advY s2' (pT_any w2) (fun τ3 r3 er c3 s3 => ?_)
        refine Tm_d ?_
        rw [er]
        have g2 := go2.2.2 (by omega)
        have bd3 : BdX n (o + 1) (tkN T n r0.1) r0.2.1 mk p (sz + ll.length) tb.length := BdX_g bd (by omega) go2.2.1 (by omega) lv (by omega)
        rcases pb_any c3 with ⟨y1, y2⟩ | ⟨r4, y1, y2⟩
        · exact st_exp (C := True) px (Or.inl ⟨rfl, rfl⟩) s3 (EvX_k ev s3.1.2.1) bd3 rfl (hd o20) y1 (Or.inl ⟨rfl, y2⟩) (fun _ _ _ _ _ _ z => by cases z)
        · refine st_exp (C := True) px (Or.inl ⟨rfl, rfl⟩) s3 (EvX_k ev s3.1.2.1) bd3 rfl (hd o20) y1 (Or.inr ⟨r4, rfl, trivial⟩) (fun τ5 ret5 p1 p2 r5 l5 hz5 _ s5 xk5 sg5 ln5 lt5 lv5 tg5 => ?_)
          cases hz5
          refine b2 _ τ5 _ _ 97 (ll ++ l5) r4.1 r4.2.1 _ rfl s5 (Or.inr ⟨rfl, Sgm_seq sg sg5⟩) y2 ?_ (by omega) (by omega)
          rw [List.length_append]
          omega
      · rw [if_neg (fun z => k16 z.2), if_neg k8, if_neg k8, if_neg k8] at w2
        refine Tm_no (fun z => k16 ((lx_k (kk := 16) s2.1.1 (by decide)).1 z)) ?_
        exact b2 _ τ2 _ _ 96 ll r0.1 r0.2.1 _ rfl s2' (Or.inl ⟨rfl, sg⟩) w2 (by omega) (by omega) lv
theorem opn_0 (k d : Nat) (L : LV) (σ : CS) : f_F2 (k + 1) d 8 0 L σ = (of d (fun e1 => ox (f_F2 k e1 10 0 lZ σ) (fun r1 => f_F2 k d 8 1 (lI (lI (lI (lI (lI L 1 ((σ.1 3703))) 2 ((σ.1 4011))) 3 r1.1.2) 4 0) 5 0) r1.2.1))) := rfl
theorem opn_1 (k d : Nat) (L : LV) (σ : CS) : f_F2 (k + 1) d 8 1 L σ = (if 32768 < ((L.1 5)) then (f_F2 k d 8 2 L σ) else (if ((σ.1 3702)) = 10 then (f_F2 k d 8 3 L σ) else (if ((σ.1 3702)) = 12 then (f_F2 k d 8 3 L σ) else (f_F2 k d 8 2 L σ)))) := rfl
theorem opn_2 (k d : Nat) (L : LV) (σ : CS) : f_F2 (k + 1) d 8 2 L σ = (if ((L.1 3)) = ((-1)) then (f_F2 k d 8 5 (lI L 100 ((-1))) σ) else (f_F2 k d 8 4 L σ)) := rfl
theorem opn_3 (k d : Nat) (L : LV) (σ : CS) : f_F2 (k + 1) d 8 3 L σ = (oP (sPp σ) (fun b1 => of d (fun e2 => ox (f_F2 k e2 9 0 lZ σ) (fun r2 => ox (f_X5_mark k 0 (lI lZ 1 ((σ.1 (fP b1 1)))) r2.2.1) (fun r3 => oP (sPp r3.2.1) (fun b4 => ox (f_X5_mark k 0 (lI lZ 1 ((r3.2.1.1 (fP b4 1)))) r3.2.1) (fun r5 => ox (f_X5_mark k 0 (lI lZ 1 r2.1.2) r5.2.1) (fun r6 => oP (sPp r6.2.1) (fun b7 => ox (f_X7_emit__P k 0 (lI (lI (lB lZ 0 b7) 1 r2.1.2) 2 0) r6.2.1) (fun r8 => f_F2 k d 8 1 (lI (lI L 4 ((((L.1 4)) + 1))) 5 ((((L.1 5)) + 1))) r8.2.1)))))))))) := rfl
theorem opn_4 (k d : Nat) (L : LV) (σ : CS) : f_F2 (k + 1) d 8 4 L σ = (f_F2 k d 8 5 (lI L 100 ((L.1 1))) σ) := rfl
theorem opn_5 (k d : Nat) (L : LV) (σ : CS) : f_F2 (k + 1) d 8 5 L σ = (oP (sPp (uI σ 4016 ((L.1 100)))) (fun b1 => f_F2 k d 8 6 L (uI (uI (uI σ 4016 ((L.1 100))) 4017 (((uI σ 4016 ((L.1 100))).1 (fP b1 1)))) 4018 ((L.1 2))))) := rfl
theorem opn_6 (k d : Nat) (L : LV) (σ : CS) : f_F2 (k + 1) d 8 6 L σ = (f_F2 k d 8 7 L (uI (uI (uI σ 4019 ((L.1 4))) 4020 ((L.1 3))) 4011 ((L.1 2)))) := rfl
theorem opn_7 (k d : Nat) (L : LV) (σ : CS) : f_F2 (k + 1) d 8 7 L σ = (some ((0, 0), σ, (0, 0))) := rfl
theorem c_operand {x : Option RT} (px : ∀ f', f' < f → ∀ e', PXp T n b u al f' e') (h : QS T n b u al tb o q v mk p sz σ) (ev : EvX E b u al gl Vm tb σ) (bd : BdX n o q v mk p sz tb.length) (hG : gb (G T n f 13 E o q v 0 0 0 0 bt) (fun r => G T n f 12 E o r.1 r.2.1 r.2.2.1 r.2.2.2.1 0 0 r.2.2.2.2.1) = some x) (hd0 : ¬ o = 20 → 6 * (20 - (o + 1)) + 8 ≤ e) : Tm (fun k => f_F2 k (e + 5) 8 0 L σ) (QPo b u tb.length sz mk x (fun r _ τ => XR T n b u al gl Vm tb o mk p sz q v r τ ∧ (r.2.2.1 = 0 → τ.1 4016 = -1)) σ 0 0) := by
  have s0 := Sy_0 h
  have go := tk_go h
  obtain ⟨n10, b22, b33, b44, b55⟩ := bd
  have e03 : σ.1 3703 = nI q := h.1.2.2.2.2.2.2.1
  have e11 : σ.1 4011 = nI mk := h.2.2.1.1
  have o20 := h.2.2.2.2.2.1.2
  -- the end
  have b5 : ∀ (L' : LV) (τ : CS) (a1 a2 i c : Nat) (r : RT) (ca : List Int32), L'.1 1 = nI q → L'.1 2 = nI mk → L'.1 4 = nI c → Sy T n b u al σ tb.length sz mk a1 a2 tb o r.1 r.2.1 (mk + 3 * c) p sz ca τ → Sgm u p gl Vm 1 ca → 2 * ca.length ≤ 3 * (r.1 - q) + 1 → q < r.1 → v ≤ r.2.1 → r.2.2.1 = i → TgLp T n u p gl Vm tb q sz mk ca i c (L'.1 3) τ → (i = 0 → L'.1 100 = -1) → (¬ i = 0 → L'.1 100 = nI q) → Tm (fun k => f_F2 k (e + 5) 8 5 L' τ) (QPo b u tb.length sz mk (some r) (fun r _ τ => XR T n b u al gl Vm tb o mk p sz q v r τ ∧ (r.2.2.1 = 0 → τ.1 4016 = -1)) σ a1 a2) := by
    intro L' τ a1 a2 i c r ca l1 l2 l4 s sg ln lt lv hi tg la lb
    have fc := fP_c b 19
    have fc1 := fP_c b 1
    refine Tm_suc (fun k => opn_5 k _ _ _) ?_
    have pp : sPp τ = some b := Sy_pp s
    refine Tm_oP (show sPp (uI τ 4016 (L'.1 100)) = some b from pp) ?_
    have ez : (uI τ 4016 (L'.1 100)).1 (fP b 1) = nI (sz + ca.length) := by
      rw [uI_o (by omega)]; exact s.1.1.2.1.1
    rw [ez, l2]
    refine Tm_suc (fun k => opn_6 k _ _ _) ?_
    rw [l4, l2]
    refine Tm_suc (fun k => opn_7 k _ _ _) ?_
    generalize hτ' : uI (uI (uI (uI (uI (uI τ 4016 (L'.1 100)) 4017 (nI (sz + ca.length))) 4018 (nI mk)) 4019 (nI c)) 4020 (L'.1 3)) 4011 (nI mk) = τ'
    have r2 : τ'.2 = τ.2 := by rw [← hτ']; rfl
    have f1 : ∀ j, ¬ ((4016 ≤ j ∧ j ≤ 4020) ∨ j = 4011) → τ'.1 j = τ.1 j := fun j hj => by
      rw [← hτ', uI_o (by omega), uI_o (by omega), uI_o (by omega), uI_o (by omega), uI_o (by omega), uI_o (by omega)]
    have g16 : τ'.1 4016 = L'.1 100 := by rw [← hτ', uI_o (by decide), uI_o (by decide), uI_o (by decide), uI_o (by decide), uI_o (by decide), uI_s]
    have g17 : τ'.1 4017 = nI (sz + ca.length) := by rw [← hτ', uI_o (by decide), uI_o (by decide), uI_o (by decide), uI_o (by decide), uI_s]
    have g18 : τ'.1 4018 = nI mk := by rw [← hτ', uI_o (by decide), uI_o (by decide), uI_o (by decide), uI_s]
    have g19 : τ'.1 4019 = nI c := by rw [← hτ', uI_o (by decide), uI_o (by decide), uI_s]
    have g20 : τ'.1 4020 = L'.1 3 := by rw [← hτ', uI_o (by decide), uI_s]
    have g11 : τ'.1 4011 = nI mk := by rw [← hτ', uI_s]
    have s' : Sx T n b u al σ tb.length sz mk a1 a2 tb o r.1 r.2.1 mk p (sz + ca.length) τ' := Sx_f s.1 (fun j hj => f1 j (by omega)) r2 (by rw [f1 _ (by omega)]; exact s.1.1.2.2.2.2.2.1.1) o20 g11 (by omega) (Nat.le_refl _) (by rw [f1 _ (by omega)]; exact s.1.1.2.2.2.2.2.2.2)
    have q1n := (tk_go s.1.1).1
    refine Tm_some (Qfin s' ⟨⟨ca, s'.1, fun j hj => ?_, sg, ln, lt, lv, fun z => ?_, fun z => ?_⟩, fun z => g16.trans (la (hi ▸ z))⟩)
    · have := s.2 j hj
      have kd : sKd τ' b = sKd τ b := by show τ'.2.2.2.2.2.1.2.2.2.2 b = _; rw [r2]
      show τ'.2.2.1 (pR0 (sKd τ' b)) (sz + j) = _
      rw [kd, r2]
      exact this
    · rw [g16, la (hi ▸ z)]
      exact fun y => n_mn (by omega) y.symm
    · rcases tg with ⟨t1, t2⟩ | ⟨t1, nm, ld, pl, t2, t3, t4, t5, t6, t7⟩
      · exact absurd (hi.trans t1) z
      · refine ⟨⟨by rw [g16]; exact lb t1, g17, g18⟩, nm, ld, pl, ⟨by rw [g20]; exact t2, by rw [g19, t7]⟩, t3, t4, PtM_k pl mk (sz + 1) (fun i _ => by rw [r2]) t5, t6, by
          have e41 : sN τ' 41 = sN τ 41 := by show τ'.2.2.2.2.1 41 = _; rw [r2]
          have m1 := s.1.1.2.2.1.2.1
          rw [e41, t7]; exact m1⟩
  -- the parts
  have b1 : ∀ (f1 : Nat), f1 ≤ f → ∀ (L' : LV) (τ : CS) (a1 a2 q1 v1 i1 e1 c : Nat) (bt1 : BT) (ca : List Int32), G T n f1 12 E o q1 v1 i1 e1 0 0 bt1 = some x → L'.1 1 = nI q → L'.1 2 = nI mk → L'.1 4 = nI c → L'.1 5 = nI c → Sy T n b u al σ tb.length sz mk a1 a2 tb o q1 v1 (mk + 3 * c) p sz ca τ → Sgm u p gl Vm 1 ca → 2 * ca.length ≤ 3 * (q1 - q) + 1 → 3 * c ≤ 2 * (q1 - q) → q < q1 → v ≤ v1 → TgLp T n u p gl Vm tb q sz mk ca i1 c (L'.1 3) τ → Tm (fun k => f_F2 k (e + 5) 8 1 L' τ) (QPo b u tb.length sz mk x (fun r _ τ => XR T n b u al gl Vm tb o mk p sz q v r τ ∧ (r.2.2.1 = 0 → τ.1 4016 = -1)) σ a1 a2) := by
    intro f1
    induction f1 with
    | zero =>
      intro _ L' τ a1 a2 q1 v1 i1 e1 c bt1 ca hg
      exact absurd hg (by intro z; cases z)
    | succ f1 ih =>
      intro hf L' τ a1 a2 q1 v1 i1 e1 c bt1 ca hg l1 l2 l4 l5 s sg ln lm lt lv tg
      have go1 := tk_go s.1.1
      have q1n := go1.1
      refine Tm_suc (fun k => opn_1 k _ _ _) ?_
      refine Tm_no ?_ ?_
      · rw [l5]
        show ¬ nI 32768 < nI c
        rw [u_ltn (by decide) (by rw [u_n (by omega)]; omega), u_n (by decide), u_n (by omega)]
        omega
      have bp : (tkK T n q1 = 6 ∨ tkK T n q1 = 8) → Tm (fun k => f_F2 k (e + 5) 8 3 L' τ) (QPo b u tb.length sz mk x (fun r _ τ => XR T n b u al gl Vm tb o mk p sz q v r τ ∧ (r.2.2.1 = 0 → τ.1 4016 = -1)) σ a1 a2) := by
        intro kp
        rw [G12_p kp] at hg
        have es : τ.1 (fP b 1) = nI (sz + ca.length) := s.1.1.2.1.1
        refine Tm_suc (fun k => opn_3 k _ _ _) ?_
        refine Tm_oP (Sy_pp s) ?_
        refine Tm_d ?_
        rw [es]
        have hz : ∃ z, gPt T n f1 E o q1 v1 e1 bt1 = some z := by
          rcases pb_any hg with ⟨y1, _⟩ | ⟨r4, y1, _⟩
          · exact ⟨_, y1⟩
          · exact ⟨_, y1⟩
        obtain ⟨z, hz⟩ := hz
        have bdp : BdX n o q1 v1 (mk + 3 * c) p (sz + ca.length - 1) tb.length := ⟨n10, by omega, by omega, by omega, by omega⟩
        refine st_call (C := True) s.1 (c_partW (px f1 (by omega) (e + 3)) s.1.1 (EvX_k ev s.1.2.1) bdp (by omega) kp hz (fun z => by have := hd0 z; omega)) ?_
        rcases pb_any hg with ⟨y1, y2⟩ | ⟨r, y1, y2⟩
        · rw [hz] at y1
          exact Or.inl ⟨Option.some.inj y1, y2⟩
        rw [hz] at y1
        refine Or.inr ⟨r, Option.some.inj y1, trivial, fun τ3 ret3 m3 m4 hr xk3 hc3 => ?_⟩
        obtain ⟨er, ll, i1', i2, sgp, ln3, lt3, lv3⟩ := hr
        have s3 := Sy_ca s i1' xk3 hc3 i2 (Nat.le_refl _) s.1.2.2.2.2.2
        have mk3 := xk3.2.2.2.2.2.2.1
        have q3n := (tk_go s3.1.1).1
        have la : (ca ++ ll).length = ca.length + ll.length := List.length_append
        have ll1 : 1 ≤ ll.length := by
          rcases sgp with z | z | z
          · exact z.2.1
          · exact z.2.1
          · have := z.2.1; omega
        have kd256 : r.2.2.1 < 256 ∧ (r.2.2.1 = 96 ∨ r.2.2.1 = 98 ∨ r.2.2.1 = 97) := by
          rcases sgp with z | z | z <;> omega
        refine st_mark s3 (by omega) (fun τ4 x1 x2 s4 k4 w4 => ?_)
        refine Tm_oP (Sy_pp s4) ?_
        have es4 : τ4.1 (fP b 1) = nI (sz + (ca ++ ll).length) := s4.1.1.2.1.1
        rw [es4]
        refine st_mark s4 (by omega) (fun τ5 x3 x4 s5 k5 w5 => ?_)
        refine st_mark s5 (by omega) (fun τ6 x5 x6 s6 k6 w6 => ?_)
        refine Tm_oP (Sy_pp s6) ?_
        refine st_emitF (op := r.2.2.1) s6 rfl er (by rw [la]; omega) (fun τ7 x7 x8 s7 k7' _ => ?_)
        have k7 := k7'.1
        have lb : (ca ++ ll ++ [em r.2.2.1 0]).length = ca.length + ll.length + 1 := by rw [List.length_append, la]; rfl
        have sg7 : Sgm u p gl Vm 1 (ca ++ ll ++ [em r.2.2.1 0]) := by
          rcases sgp with z | z | z
          · rw [z.1]; exact Sgm_ap (m := 2) (Sgm_seq sg z.2) (by decide) (by rw [la]; show 1 ≤ _ + 1; omega) It_p1
          · rw [z.1]; exact Sgm_ap (m := 2) (Sgm_seq sg z.2) (by decide) (by rw [la]; show 1 ≤ _ + 1; omega) It_pa
          · rw [z.1]; exact Sgm_ap (m := 3) (Sgm_seq sg z.2) (by decide) (by rw [la]; show 1 ≤ _ + 1; omega) It_pr
        have s7' : Sy T n b u al σ tb.length sz mk (a1 + m3 + x1 + x3 + x5 + x7) (a2 + m4 + x2 + x4 + x6 + x8) tb o r.1 r.2.1 (mk + 3 * (c + 1)) p sz (ca ++ ll ++ [em r.2.2.1 0]) τ7 := by
          rw [show mk + 3 * (c + 1) = mk + 3 * c + 1 + 1 + 1 by omega]; exact s7
        have m0 : τ7.2.2.1 41 (mk + 3 * c) = nI (sz + ca.length) := by rw [k7, k6 _ (by omega), k5 _ (by omega)]; exact w4
        have m1 : τ7.2.2.1 41 (mk + 3 * c + 1) = nI (sz + (ca ++ ll).length) := by rw [k7, k6 _ (by omega)]; exact w5
        have m2 : τ7.2.2.1 41 (mk + 3 * c + 2) = nI r.2.2.1 := by rw [k7]; exact w6.trans er
        refine ih (by omega) _ τ7 _ _ r.1 r.2.1 _ _ (c + 1) _ _ y2 l1 l2 ?_ ?_ s7' sg7 (by rw [lb]; omega) (by omega) (by omega) (by omega) ?_
        · show L'.1 4 + 1 = _
          rw [l4, n_add1]
        · show L'.1 5 + 1 = _
          rw [l5, n_add1]
        · rcases tg with ⟨t1, t2⟩ | ⟨t1, nm, ld, pl, t2, t3, t4, t5, t6, t7⟩
          · exact Or.inl ⟨if_pos t1, t2⟩
          · refine Or.inr ⟨by rw [if_neg t1]; decide, nm, ld, pl ++ [(ll, r.2.2.1)], t2, t3, ?_, ?_, PtG_ap _ sgp pl t6, by rw [List.length_append, t7]; rfl⟩
            · rw [ptC_ap, t4, List.append_assoc]; rfl
            · have lc : ca.length = (ptC pl).length + 1 := by rw [t4]; rfl
              refine PtM_ap _ pl mk (sz + 1) (PtM_k pl mk (sz + 1) (fun i hi => ?_) t5) ⟨?_, ?_, ?_⟩
              · rw [t7] at hi
                rw [k7, k6 _ (by omega), k5 _ (by omega), k4 _ (by omega)]
                exact mk3 i (by omega)
              · rw [t7, m0]; exact congrArg nI (by omega)
              · rw [t7, m1, la]; exact congrArg nI (by show _ = sz + 1 + (ptC pl).length + ll.length; omega)
              · rw [t7]; exact m2
      by_cases k6 : tkK T n q1 = 6
      · refine Tm_yes ((lx_k (kk := 6) s.1.1 (by decide)).2 k6) ?_
        exact bp (Or.inl k6)
      refine Tm_no (fun z => k6 ((lx_k (kk := 6) s.1.1 (by decide)).1 z)) ?_
      by_cases k8 : tkK T n q1 = 8
      · refine Tm_yes ((lx_k (kk := 8) s.1.1 (by decide)).2 k8) ?_
        exact bp (Or.inr k8)
      refine Tm_no (fun z => k8 ((lx_k (kk := 8) s.1.1 (by decide)).1 z)) ?_
      rw [G_12, if_neg (fun z => by omega)] at hg
      rw [← Option.some.inj hg]
      refine Tm_suc (fun k => opn_2 k _ _ _) ?_
      rcases tg with ⟨t1, t2⟩ | ⟨t1, nm, ld, pl, t2, t3⟩
      · refine Tm_yes t2 ?_
        exact b5 _ τ _ _ i1 c _ ca l1 l2 l4 s sg ln lt lv rfl (Or.inl ⟨t1, t2⟩) (fun _ => rfl) (fun z => absurd t1 z)
      · have n256 := t3.1.1
        have t256 := s.1.1.2.2.2.1.2.1
        refine Tm_no (fun z => n_mn (k := nm) (by omega) (t2.symm.trans z)) ?_
        refine Tm_suc (fun k => opn_4 k _ _ _) ?_
        exact b5 _ τ _ _ i1 c _ ca l1 l2 l4 s sg ln lt lv rfl (Or.inr ⟨t1, nm, ld, pl, t2, t3⟩) (fun z => absurd z t1) (fun _ => l1)
  rcases f with _ | f0
  · exact absurd hG (by intro z; cases z)
  refine Tm_suc (fun k => opn_0 k _ _ _) ?_
  refine Tm_d ?_
  obtain ⟨z, hz⟩ := gb_some hG
  refine st_call (C := True) s0.1 (c_primary (e := e) (fun f' hf' => px f' (by omega)) h ev ⟨n10, b22, b33, b44, b55⟩ hz hd0) ?_
  rcases gb_any hG with ⟨y1, y2⟩ | ⟨r, y1, y2⟩
  · rw [hz] at y1
    exact Or.inl ⟨Option.some.inj y1, y2⟩
  rw [hz] at y1
  refine Or.inr ⟨r, Option.some.inj y1, trivial, fun τ3 ret3 m3 m4 hr xk3 hc3 => ?_⟩
  obtain ⟨ll, i1, i2, sg, ln, lt, lv, i0⟩ := hr
  have s3 : Sy T n b u al σ tb.length sz mk (0 + m3) (0 + m4) tb o r.1 r.2.1 mk p sz ll τ3 := Sy_ca s0 i1 xk3 hc3 i2 (Nat.le_refl _) s0.1.2.2.2.2.2
  refine b1 (f0 + 1) (Nat.le_refl _) _ τ3 _ _ r.1 r.2.1 r.2.2.1 _ 0 _ ll y2 e03 e11 rfl rfl s3 sg ln (by omega) lt lv ?_
  rcases i0 with ⟨w1, w2⟩ | ⟨w1, i, ld, w2, w3, w4⟩
  · exact Or.inl ⟨w1, w2⟩
  · exact Or.inr ⟨by omega, i, ld, [], w2, w3, w4, trivial, trivial, rfl⟩
end CWA

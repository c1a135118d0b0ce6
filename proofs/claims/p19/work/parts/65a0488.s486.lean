section JnS486
/-! The class: targets are read. -/
section CXB
variable {σ σ' σ0 τ τ' : CS} {L : LV} {b : Bool} {T : Nat → Int32} {n q q' u al o v mk p sz szB nc0 sz0 mk0 a1 a2 m kk f e s ow : Nat} {y : Int32} {l l' cs cs' : List Int32} {tb : List Ent} {α : Type} {S : α → Int32 → CS → Prop} {C : Prop} {E : En} {gl : Nat × (Nat → Nat → Prop)} {Vm : Nat → Prop} {bt : BT} {ks : List Nat}
theorem c_partS {e0 : Nat} {x : Fl (Nat × Nat × Nat × Nat × BT)} (px : PXp T n b u al f e) (h : QS T n b u al tb o q v mk p sz σ) (ev : EvX E b u al gl Vm tb σ) (bd : BdX n (o + 1) q v mk p sz tb.length) (hk : tkK T n q = 6 ∨ tkK T n q = 8) (hG : gPt T n f E o q v e0 bt = some x) (hd : ¬ o = 20 → 6 * (20 - (o + 1)) + 8 ≤ e) : Tm (fun k => f_F2 k (e + 1) 9 0 L σ) (QPo b u tb.length sz mk x (PtR T n b u al gl Vm tb o mk p sz q v) σ 0 0) := by
  have s0 := Sy_0 h
  have go := tk_go h
  have g1 := go.2.2 (by omega)
  have hop : (¬ (¬ o = 20 ∧ ¬ tkK T n (tkN T n q) = 0) ∧ x = Sum.inl (oF T n o q)) ∨ ((¬ o = 20 ∧ ¬ tkK T n (tkN T n q) = 0) ∧ pb (G T n f 0 E (o + 1) (tkN T n q) v 0 0 0 0 bt) (fun r =>
    if tkK T n q = 6 ∧ tkK T n r.1 = 16 then pT T n r.1 (fun q2 => pb (G T n f 0 E (o + 1) q2 r.2.1 0 0 0 0 r.2.2.2.2.1) (fun s => pW T n 7 s.1 (fun q3 => some (Sum.inr (q3, s.2.1, 97, s.2.2.2.2.1.1, bSet (bOver s.2.2.2.2.1 22 0 e0 (nI r.2.2.2.1)) 8 s.2.2.2.2.1.1 (nI s.2.2.2.1))))))
    else pW T n (if tkK T n q = 8 then 9 else 7) r.1 (fun q2 => some (Sum.inr (q2, r.2.1, (if tkK T n q = 8 then 98 else 96), r.2.2.2.2.1.1, bOver r.2.2.2.2.1 (if tkK T n q = 8 then 23 else 21) 0 e0 (nI r.2.2.2.1))))) = some x) := by
    unfold gPt at hG
    by_cases c1 : o = 20
    · rw [if_pos c1] at hG
      exact Or.inl ⟨fun z => z.1 c1, oF_a c1 (Option.some.inj hG).symm⟩
    · rw [if_neg c1] at hG
      rcases pT_any hG with ⟨w1, w2⟩ | ⟨w1, w2⟩
      · exact Or.inl ⟨fun z => z.2 w1, oF_b c1 w2⟩
      · exact Or.inr ⟨⟨c1, w1⟩, w2⟩
  by_cases k8 : tkK T n q = 8
  · refine Tm_suc (fun k => pt_0 k _ _ _) ?_
    refine Tm_yes ((lx_k (kk := 8) h (by decide)).2 k8) ?_
    refine st_opens s0 hop (fun τ1 ret n1 n2 c1 s1 => ?_)
    refine Tm_d ?_
    have o20 : ¬ o = 20 := fun z => by
      have := s1.1.1.2.2.2.2.2.1.2
      omega
    rcases pb_any c1 with ⟨yf, w1, w2⟩ | ⟨r0, w1, w2⟩
    · exact st_exp (C := True) px (Or.inl ⟨rfl, rfl⟩) s1 (EvX_k ev s1.1.2.1) (BdX_g bd (by omega) go.2.1 (by omega) (Nat.le_refl _) (by show 2 * (sz + 0) + _ ≤ _; omega)) rfl (hd o20) w1 (Or.inl ⟨_, rfl, w2⟩) (fun _ _ _ _ _ _ z => by cases z)
    · refine st_exp (C := True) px (Or.inl ⟨rfl, rfl⟩) s1 (EvX_k ev s1.1.2.1) (BdX_g bd (by omega) go.2.1 (by omega) (Nat.le_refl _) (by show 2 * (sz + 0) + _ ≤ _; omega)) rfl (hd o20) w1 (Or.inr ⟨r0, rfl, trivial⟩) (fun τ2 ret2 m1 m2 r ll hz _ s2 xk sg ln lt lv tg => ?_)
      cases hz
      rw [if_neg (fun z => by omega), if_pos k8] at w2
      have go2 := tk_go s2.1.1
      have y9 := pW_any w2
      refine st_closes (kk := 9) s2 (by decide) rfl y9 (fun τ3 ret3 l1 l2 c3 s3 => ?_)
      rw [if_pos k8] at c3
      cases c3
      have k9 : tkK T n r0.1 = 9 := by
        rcases y9 with ⟨y1, y2⟩ | ⟨y1, _⟩
        · cases y2
        · exact y1.1
      have g3 := go2.2.2 (by omega)
      refine Tm_some (Qfin s3.1 ⟨rfl, ll, s3.1.1, s3.2, Or.inr (Or.inl ⟨rfl, sg⟩), ?_, ?_, lv⟩)
      · show 2 * ll.length + 2 ≤ 3 * (tkN T n r0.1 - q)
        omega
      · show q < tkN T n r0.1
        omega
  · have k6 : tkK T n q = 6 := by omega
    have b2 : ∀ (L' : LV) (τ' : CS) (a1 a2 kd : Nat) (ll : List Int32) (q2 v2 : Nat) (w : Nat × BT), L'.1 1 = nI kd → Sy T n b u al σ tb.length sz mk a1 a2 tb (o + 1) q2 v2 mk p sz ll τ' → ((kd = 96 ∧ Sgm u p gl Vm 1 ll) ∨ (kd = 97 ∧ Sgm u p gl Vm 2 ll)) → pW T n 7 q2 (fun q3 => some (Sum.inr (q3, v2, kd, w))) = some x → 2 * ll.length ≤ 3 * (q2 - q) → q < q2 → v ≤ v2 → Tm (fun k => f_F2 k (e + 1) 9 2 L' τ') (QPo b u tb.length sz mk x (PtR T n b u al gl Vm tb o mk p sz q v) σ a1 a2) := by
      intro L' τ' a1 a2 kd ll q2 v2 w l1 s2 sg hw ln lt lv
      have go2 := tk_go s2.1.1
      have y9 := pW_any hw
      refine Tm_suc (fun k => pt_2 k _ _ _) ?_
      refine st_closes (kk := 7) s2 (by decide) rfl y9 (fun τ3 ret3 l1' l2 c3 s3 => ?_)
      have k7 : tkK T n q2 = 7 := by
        rcases y9 with ⟨y1, y2⟩ | ⟨y1, _⟩
        · rw [y2] at c3; cases c3
        · exact y1.1
      cases c3
      have g3 := go2.2.2 (by omega)
      refine Tm_some (Qfin s3.1 ⟨l1, ll, s3.1.1, s3.2, ?_, ?_, ?_, lv⟩)
      · rcases sg with ⟨z1, z2⟩ | ⟨z1, z2⟩
        · exact Or.inl ⟨z1, z2⟩
        · exact Or.inr (Or.inr ⟨z1, z2⟩)
      · show 2 * ll.length + 2 ≤ 3 * (tkN T n q2 - q)
        omega
      · show q < tkN T n q2
        omega
    refine Tm_suc (fun k => pt_0 k _ _ _) ?_
    refine Tm_no (fun z => k8 ((lx_k (kk := 8) h (by decide)).1 z)) ?_
    refine Tm_suc (fun k => pt_1 k _ _ _) ?_
    refine st_opens s0 hop (fun τ1 ret n1 n2 c1 s1 => ?_)
    refine Tm_d ?_
    have o20 : ¬ o = 20 := fun z => by
      have := s1.1.1.2.2.2.2.2.1.2
      omega
    rcases pb_any c1 with ⟨yf, w1, w2⟩ | ⟨r0, w1, w2⟩
    · exact st_exp (C := True) px (Or.inl ⟨rfl, rfl⟩) s1 (EvX_k ev s1.1.2.1) (BdX_g bd (by omega) go.2.1 (by omega) (Nat.le_refl _) (by show 2 * (sz + 0) + _ ≤ _; omega)) rfl (hd o20) w1 (Or.inl ⟨_, rfl, w2⟩) (fun _ _ _ _ _ _ z => by cases z)
    · refine st_exp (C := True) px (Or.inl ⟨rfl, rfl⟩) s1 (EvX_k ev s1.1.2.1) (BdX_g bd (by omega) go.2.1 (by omega) (Nat.le_refl _) (by show 2 * (sz + 0) + _ ≤ _; omega)) rfl (hd o20) w1 (Or.inr ⟨r0, rfl, trivial⟩) (fun τ2 ret2 m1 m2 r ll hz _ s2 xk sg ln lt lv tg => ?_)
      cases hz
      have go2 := tk_go s2.1.1
      have s2' : Sy T n b u al σ tb.length sz mk (0 + n1 + m1) (0 + n2 + m2) tb (o + 1) r0.1 r0.2.1 mk p sz ll τ2 := s2
      by_cases k16 : tkK T n r0.1 = 16
      · rw [if_pos ⟨k6, k16⟩] at w2
        refine Tm_yes ((lx_k (kk := 16) s2.1.1 (by decide)).2 k16) ?_
        refine st_advY s2' (pT_any w2) (fun τ3 r3 er c3 s3 => ?_)
        refine Tm_d ?_
        rw [er]
        have g2 := go2.2.2 (by omega)
        have bd3 : BdX n (o + 1) (tkN T n r0.1) r0.2.1 mk p (sz + ll.length) tb.length := BdX_g bd (by omega) go2.2.1 (by omega) lv (by omega)
        rcases pb_any c3 with ⟨yf, y1, y2⟩ | ⟨r4, y1, y2⟩
        · exact st_exp (C := True) px (Or.inl ⟨rfl, rfl⟩) s3 (EvX_k ev s3.1.2.1) bd3 rfl (hd o20) y1 (Or.inl ⟨_, rfl, y2⟩) (fun _ _ _ _ _ _ z => by cases z)
        · refine st_exp (C := True) px (Or.inl ⟨rfl, rfl⟩) s3 (EvX_k ev s3.1.2.1) bd3 rfl (hd o20) y1 (Or.inr ⟨r4, rfl, trivial⟩) (fun τ5 ret5 p1 p2 r5 l5 hz5 _ s5 xk5 sg5 ln5 lt5 lv5 tg5 => ?_)
          cases hz5
          refine b2 _ τ5 _ _ 97 (ll ++ l5) r4.1 r4.2.1 _ rfl s5 (Or.inr ⟨rfl, Sgm_seq sg sg5⟩) y2 ?_ (by omega) (by omega)
          rw [List.length_append]
          omega
      · rw [if_neg (fun z => k16 z.2), if_neg k8, if_neg k8, if_neg k8] at w2
        refine Tm_no (fun z => k16 ((lx_k (kk := 16) s2.1.1 (by decide)).1 z)) ?_
        exact b2 _ τ2 _ _ 96 ll r0.1 r0.2.1 _ rfl s2' (Or.inl ⟨rfl, sg⟩) w2 (by omega) (by omega) lv

/-- a mark is set anew -/
theorem Sy_ma {i : Nat} (h : Sy T n b u al σ0 nc0 sz0 mk0 a1 a2 tb o q v mk p szB cs τ) (hi : mk0 ≤ i) (x : Int32) : Sy T n b u al σ0 nc0 sz0 mk0 a1 a2 tb o q v mk p szB cs (uA τ 41 i x) := by
  have ph := Ph_s (σ := τ) (σ' := uA τ 41 i x) rfl
  obtain ⟨⟨hq, h2', h3, h4, h5, h6⟩, k2⟩ := h
  obtain ⟨h1, h2, h3', h4', ⟨h5', h5'', h5'''⟩, ⟨h6', h6''⟩, ⟨h7, h7'⟩, h8⟩ := hq
  have pc := pR_c b
  have cd : ∀ c i', cdr c (uA τ 41 i x) i' = cdr c τ i' := fun c i' => by
    show (uA τ 41 i x).2.2.1 (pR0 (sKd τ c)) i' = _
    rcases pR0_c (sKd τ c) with z | z
    · rw [uA_k (by omega)]
    · rw [uA_k (by omega)]
  have q1 : QS T n b u al tb o q v mk p (szB + cs.length) (uA τ 41 i x) := ⟨LxQ_s h1 (fun _ _ _ => rfl) ⟨rfl, rfl⟩ (uA_k (by omega)) rfl rfl, CdL_s h2 rfl rfl ⟨rfl, rfl⟩, h3', TbR_s h4' rfl rfl rfl (uA_k (by omega)) (uA_k (by omega)) (uA_k (by omega)) (uA_k (by omega)), ⟨h5', h5'', h5'''⟩, ⟨h6', h6''⟩, ⟨by rw [uA_k (by omega)]; exact h7, h7'⟩, h8⟩
  obtain ⟨d1, ⟨d3, d4, d5⟩, d6, d12, d13, d14, d15, d16, d17⟩ := h2'
  refine ⟨⟨q1, ⟨d1, ⟨fun k hk => by rw [uA_k (by omega)]; exact d3 k hk, d4, d5⟩, d6, fun i' hi' => by rw [uA_k (by omega)]; exact d12 i' hi', fun i' hi' => ?_, fun i' hi' => ?_, fun i' hi' => ?_, d16, d17⟩, ⟨by omega, by omega⟩, h4, h5, h6⟩, fun i' hi' => ?_⟩
  · have y := d13 i' hi'
    rw [uA_k (k' := pR7 b) (by omega), uA_k (k' := pR8 b) (by omega), uA_k (k' := pR9 b) (by omega), uA_k (k' := pR10 b) (by omega)]
    exact y
  · rw [cd, cd]; exact d14 i' hi'
  · rw [uA_r, upd_other (by omega)]; exact d15 i' hi'
  · rw [cd]; exact k2 i' hi'
/-- a target among the marks: its slot and unit, how many values, its parts' kinds -/
def TgM (τ : CS) (mk s ow : Nat) (ks : List Nat) : Prop := (τ.2.2.1 41 mk = nI s ∧ τ.2.2.1 41 (mk + 1) = nI ow ∧ τ.2.2.1 41 (mk + 2) = nI (wdN ks) ∧ τ.2.2.1 41 (mk + 3) = nI ks.length) ∧ ∀ i, i < ks.length → τ.2.2.1 41 (mk + 4 + i) = nI (ks.getD i 0)
theorem TgM_k {mk' nc' sz' : Nat} (h : TgM τ mk s ow ks) (x : XK b u nc' sz' mk' τ τ') (hm : mk + 4 + ks.length ≤ mk') : TgM τ' mk s ow ks := by
  obtain ⟨⟨h1, h2, h3, h4⟩, h5⟩ := h
  have z := x.2.2.2.2.2.2.1
  exact ⟨⟨by rw [z _ (by omega)]; exact h1, by rw [z _ (by omega)]; exact h2, by rw [z _ (by omega)]; exact h3, by rw [z _ (by omega)]; exact h4⟩, fun i hi => by rw [z _ (by omega)]; exact h5 i hi⟩
/-- its variable -/
def TgV (u : Nat) (gl : Nat × (Nat → Nat → Prop)) (Vm : Nat → Prop) (s ow : Nat) : Prop := (ow = u → s < 200 ∧ Vm (500000 + s)) ∧ (¬ ow = u → s < gl.1) ∧ ow < 42
def kOK (ks : List Nat) : Prop := ∀ i, i < ks.length → ks.getD i 0 = 96 ∨ ks.getD i 0 = 97 ∨ ks.getD i 0 = 98
theorem gN_ap : ∀ {ks : List Nat} {k i : Nat}, i < ks.length → (ks ++ [k]).getD i 0 = ks.getD i 0
  | [], _, _, h => absurd h (Nat.not_lt_zero _)
  | _ :: _, _, 0, _ => rfl
  | _ :: r, k, i + 1, h => gN_ap (ks := r) (k := k) (i := i) (Nat.lt_of_succ_lt_succ h)
theorem gN_la : ∀ {ks : List Nat} {k : Nat}, (ks ++ [k]).getD ks.length 0 = k
  | [], _ => rfl
  | _ :: r, k => gN_la (ks := r) (k := k)
theorem kOK_ap {k : Nat} (h : kOK ks) (hk : k = 96 ∨ k = 97 ∨ k = 98) : kOK (ks ++ [k]) := by
  intro i hi
  rw [List.length_append] at hi
  have hi' : i < ks.length + 1 := hi
  rcases Nat.lt_or_ge i ks.length with z | z
  · rw [gN_ap z]; exact h i z
  · have : i = ks.length := by omega
    subst this
    rw [gN_la]; exact hk
/-- behind a target -/
def TtR (T : Nat → Int32) (n : Nat) (b : Bool) (u al : Nat) (gl : Nat × (Nat → Nat → Prop)) (Vm : Nat → Prop) (tb : List Ent) (o mk p sz q v s ow : Nat) (r : RT) (y : Int32) (τ : CS) : Prop := y = nI mk ∧ ∃ (cs : List Int32) (ks : List Nat), QS T n b u al tb o r.1 r.2.1 (mk + 4 + ks.length) p (sz + cs.length) τ ∧ (∀ i, i < cs.length → cdr b τ (sz + i) = cs.getD i 0) ∧ Sgm u p gl Vm (wdN ks) cs ∧ TgM τ mk s ow ks ∧ kOK ks ∧ 2 * cs.length + 2 * ks.length ≤ 3 * (r.1 - q) ∧ q ≤ r.1 ∧ v ≤ r.2.1 ∧ r.2.2.1 = (if ks.length = 0 then 1 else 2)
theorem ptS_seq {z3 : Nat} {c1 c2 : List Int32} (h : Sgm u p gl Vm (wdN ks) c1) (h2 : (z3 = 96 ∧ Sgm u p gl Vm 1 c2) ∨ (z3 = 98 ∧ Sgm u p gl Vm 1 c2) ∨ (z3 = 97 ∧ Sgm u p gl Vm 2 c2)) : Sgm u p gl Vm (wdN (ks ++ [z3])) (c1 ++ c2) := by
  rw [wdN_ap]
  rcases h2 with ⟨e, g⟩ | ⟨e, g⟩ | ⟨e, g⟩
  · rw [if_neg (by omega)]; exact Sgm_seq h g
  · rw [if_neg (by omega)]; exact Sgm_seq h g
  · rw [if_pos e]; exact Sgm_seq h g
theorem wdN_b (ks : List Nat) : ks.length ≤ wdN ks ∧ wdN ks ≤ 2 * ks.length := Wkk_le ks ks.length
/-- the parts of a target -/
theorem c_tgL {x : Fl RT} {q0 v0 : Nat} (ev0 : ∀ τ', XK b u nc0 sz0 mk σ τ' → EvX E b u al gl Vm tb τ') (n10 : n ≤ 10240) (hmk : mk ≤ 2 * q0 + 18 * o) (hsz : 2 * szB + 3 * (n - q0) + 100 ≤ 73728) (hnt : tb.length + (60 - v0) ≤ 256) (hp : p ≤ 3 * v0) (h0 : sz0 ≤ szB) : ∀ (f1 : Nat) (L' : LV) (τ : CS) (a1 a2 q1 v1 i1 e1 it : Nat) (bt1 : BT) (cs : List Int32) (ks : List Nat), G T n f1 12 E o q1 v1 i1 e1 0 0 bt1 = some x → i1 = (if ks.length = 0 then 1 else 2) → L'.1 3 = nI mk → L'.1 4 = nI it → it ≤ q1 → Sy T n b u al σ nc0 sz0 mk a1 a2 tb o q1 v1 (mk + 4 + ks.length) p szB cs τ → TgM τ mk s ow ks → kOK ks → Sgm u p gl Vm (wdN ks) cs → 2 * cs.length + 2 * ks.length ≤ 3 * (q1 - q0) → q0 ≤ q1 → v0 ≤ v1 → Tm (fun k => f_X5_target k 3 L' τ) (QPo b u nc0 sz0 mk x (fun r y τ => TtR T n b u al gl Vm tb o mk p szB q0 v0 s ow r y τ) σ a1 a2) := by
  intro f1
  induction f1 with
  | zero =>
    intro L' τ a1 a2 q1 v1 i1 e1 it bt1 cs ks hg
    cases hg
  | succ f1 ih =>
    intro L' τ a1 a2 q1 v1 i1 e1 it bt1 cs ks hg hi l3 l4 hit s1 tm ko sg ln lq lv
    have go := tk_go s1.1.1
    have v60 := s1.1.1.2.2.2.2.2.2.1.2
    have o20 := s1.1.1.2.2.2.2.2.1.2
    have fin : x = Sum.inr (q1, v1, i1, e1, bt1, []) → Tm (fun k => f_X5_target k 4 L' τ) (QPo b u nc0 sz0 mk x (fun r y τ => TtR T n b u al gl Vm tb o mk p szB q0 v0 s ow r y τ) σ a1 a2) := by
      intro hx
      refine Tm_suc (fun k => by rw [f_X5_target]) ?_
      rw [hx, l3]
      exact Tm_some (Qfin s1.1 ⟨rfl, cs, ks, s1.1.1, s1.2, sg, tm, ko, ln, lq, lv, hi⟩)
    have b5 : tkK T n q1 = 6 ∨ tkK T n q1 = 8 → Tm (fun k => f_X5_target k 5 L' τ) (QPo b u nc0 sz0 mk x (fun r y τ => TtR T n b u al gl Vm tb o mk p szB q0 v0 s ow r y τ) σ a1 a2) := by
      intro hk
      have g1 := go.2.2 (by omega)
      rw [G12_p hk] at hg
      have gz : ∃ z, gPt T n f1 E o q1 v1 e1 bt1 = some z := by
        rcases pb_any hg with ⟨yf, y1, y2⟩ | ⟨r4, y1, y2⟩
        · exact ⟨_, y1⟩
        · exact ⟨_, y1⟩
      obtain ⟨z, hz⟩ := gz
      refine Tm_suc (fun k => by rw [f_X5_target]) ?_
      have bd1 : BdX n (o + 1) q1 v1 (mk + 4 + ks.length) p (szB + cs.length) tb.length := ⟨n10, by omega, by omega, by omega, by omega⟩
      refine st_call (C := True) s1.1 (c_partS (e := 399) (px_all f1 399) s1.1.1 (ev0 _ s1.1.2.1) bd1 hk hz (fun _ => by omega)) ?_
      rcases pb_any hg with ⟨yf, y1, y2⟩ | ⟨zz, y1, y2⟩
      · rw [hz] at y1
        exact Or.inl ⟨_, Option.some.inj y1, y2⟩
      rw [hz] at y1
      refine Or.inr ⟨zz, Option.some.inj y1, trivial, fun τ2 ret2 n1 n2 hr xk2 hc2 => ?_⟩
      obtain ⟨er, l2, r1, r2, r3, r4, r5, r6⟩ := hr
      have s2 := Sy_ca s1 r1 xk2 hc2 r2 s1.1.2.2.2.1 s1.1.2.2.2.2.2
      have tm2 := TgM_k tm xk2 (Nat.le_refl _)
      have kd : zz.2.2.1 = 96 ∨ zz.2.2.1 = 97 ∨ zz.2.2.1 = 98 := by omega
      have lc : (cs ++ l2).length = cs.length + l2.length := List.length_append
      have gz := tk_go s2.1.1
      refine st_mark s2 (by omega) (fun τ3 m1 m2 s3 k3 k4 => ?_)
      have ek : (lI lZ 1 ret2).1 1 = nI zz.2.2.1 := er
      rw [ek] at k4
      have sn := s3.1.1.2.2.1
      have sn1 : mk + 4 + ks.length + 1 ≤ sN τ3 41 := sn.2.1
      have sn2 : sN τ3 41 ≤ 21504 := sn.2.2
      have e32 : L'.1 3 + 2 = nI (mk + 2) := by rw [l3]; exact n_add (q := 2) (by omega)
      have e33 : L'.1 3 + 3 = nI (mk + 3) := by rw [l3]; exact n_add (q := 3) (by omega)
      obtain ⟨⟨t1, t2, t3, t4⟩, t5⟩ := tm2
      have wb := wdN_b ks
      -- what is told of the target
      have b7 : ∀ (L7 : LV) (dd : Nat), L7.1 3 = nI mk → L7.1 4 = nI it → L7.1 100 = nI dd → L7.1 101 = nI (wdN ks) → L7.1 102 = nI (mk + 2) → dd = (if zz.2.2.1 = 97 then 2 else 1) → Tm (fun k => f_X5_target k 7 L7 τ3) (QPo b u nc0 sz0 mk x (fun r y τ => TtR T n b u al gl Vm tb o mk p szB q0 v0 s ow r y τ) σ (a1 + n1 + m1) (a2 + n2 + m2)) := by
        intro L7 dd j3 j4 j100 j101 j102 hdd
        have d2 : dd ≤ 2 := by rw [hdd]; split <;> omega
        have e7 : L7.1 3 + 3 = nI (mk + 3) := by rw [j3]; exact n_add (q := 3) (by omega)
        refine Tm_suc (fun k => by rw [f_X5_target]) ?_
        rw [j102, e7, j101, j100, n_add (by omega)]
        refine Tm_chk (n_in (by omega) (by omega)) ?_
        have sn3 : ∀ w, sN (uA τ3 41 (nI (mk + 2)).toNatClampNeg w) 41 = sN τ3 41 := fun w => rfl
        refine Tm_chk (by rw [sn3]; exact n_in (by omega) (by omega)) ?_
        refine Tm_chk (by rw [sn3]; exact n_in (by omega) (by omega)) ?_
        rw [n_cl (by omega), n_cl (by omega)]
        have ew : (uA τ3 41 (mk + 2) (nI (wdN ks + dd))).2.2.1 41 (mk + 3) = nI ks.length := by
          rw [uA_r, upd_other (by omega), k3 _ (by omega)]; exact t4
        rw [ew, n_add1]
        have s4 := Sy_ma (i := mk + 3) (Sy_ma (i := mk + 2) s3 (by omega) (nI (wdN ks + dd))) (by omega) (nI (ks.length + 1))
        have lk : (ks ++ [zz.2.2.1]).length = ks.length + 1 := List.length_append
        have wd : wdN (ks ++ [zz.2.2.1]) = wdN ks + dd := by rw [wdN_ap, hdd]
        refine ih _ _ _ _ zz.1 zz.2.1 _ _ (it + 1) _ (cs ++ l2) (ks ++ [zz.2.2.1]) y2 ?_ j3 (by show L7.1 4 + 1 = _; rw [j4, n_add1]) (by omega) (by rw [lk, ← Nat.add_assoc]; exact s4) ⟨⟨?_, ?_, ?_, ?_⟩, fun i hi' => ?_⟩ (kOK_ap ko kd) (ptS_seq sg r3) (by rw [lc, lk]; omega) (by omega) (by omega)
        · have i10 : ¬ i1 = 0 := by rw [hi]; split <;> omega
          rw [if_neg i10, lk, if_neg (by omega)]
        · rw [uA_r, upd_other (by omega), uA_r, upd_other (by omega), k3 _ (by omega)]; exact t1
        · rw [uA_r, upd_other (by omega), uA_r, upd_other (by omega), k3 _ (by omega)]; exact t2
        · rw [uA_r, upd_other (by omega), uA_r, upd_same, wd]
        · rw [uA_r, upd_same, lk]
        · rw [lk] at hi'
          rw [uA_r, upd_other (by omega), uA_r, upd_other (by omega)]
          rcases Nat.lt_or_ge i ks.length with z | z
          · rw [k3 _ (by omega), gN_ap z]; exact t5 i z
          · have : i = ks.length := by omega
            subst this
            rw [gN_la]; exact k4
      refine Tm_chk (by show ¬ (L'.1 3 + 2 < 0 ∨ sN τ3 41 ≤ (L'.1 3 + 2).toNatClampNeg); rw [e32]; exact n_in (by omega) (by omega)) ?_
      have v3 : τ3.2.2.1 41 (L'.1 3 + 2).toNatClampNeg = nI (wdN ks) := by
        rw [e32, n_cl (by omega), k3 _ (by omega)]; exact t3
      have er' : ret2 = nI zz.2.2.1 := er
      by_cases k97 : zz.2.2.1 = 97
      · refine Tm_yes (by show ret2 = 97; rw [er', k97]; rfl) ?_
        exact b7 _ 2 l3 l4 rfl v3 e32 (by rw [if_pos k97])
      · refine Tm_no (by show ¬ ret2 = 97; rw [er']; show ¬ nI zz.2.2.1 = nI 97; rw [n_eq (by omega) (by decide)]; exact k97) ?_
        refine Tm_suc (fun k => by rw [f_X5_target]) ?_
        exact b7 _ 1 l3 l4 rfl v3 e32 (by rw [if_neg k97])
    refine Tm_suc (fun k => by rw [f_X5_target]) ?_
    refine Tm_no (by rw [l4]; show ¬ nI 32768 < nI it; rw [n_lt (by decide) (by omega)]; omega) ?_
    by_cases k6 : tkK T n q1 = 6
    · refine Tm_yes ((lx_k (kk := 6) s1.1.1 (by decide)).2 k6) ?_
      exact b5 (Or.inl k6)
    · refine Tm_no (fun z => k6 ((lx_k (kk := 6) s1.1.1 (by decide)).1 z)) ?_
      by_cases k8 : tkK T n q1 = 8
      · refine Tm_yes ((lx_k (kk := 8) s1.1.1 (by decide)).2 k8) ?_
        exact b5 (Or.inr k8)
      · refine Tm_no (fun z => k8 ((lx_k (kk := 8) s1.1.1 (by decide)).1 z)) ?_
        refine fin ?_
        rw [G_12, if_neg (fun z => z.elim k6 k8)] at hg
        exact (Option.some.inj hg).symm
/-- from the name on, when it is found -/
theorem c_tg1 {i : Nat} {x : Fl RT} {e1 : Nat} {bt1 : BT} (h : QS T n b u al tb o q v mk p sz σ) (ev : EvX E b u al gl Vm tb σ) (n10 : n ≤ 10240) (hmk : mk ≤ 2 * q + 18 * o) (hsz : 2 * sz + 3 * (n - q) + 100 ≤ 73728) (hnt : tb.length + (60 - v) ≤ 256) (hp : p ≤ 3 * v) (hi : i < tb.length) (hs : (tb.getD i e0E).2.2.2.1 = s ∧ (tb.getD i e0E).2.2.1 = ow) (l2 : L.1 2 = nI i) (hG : G T n f 12 E o q v 1 e1 0 0 bt1 = some x) : Tm (fun k => f_X5_target k 1 L σ) (QPo b u tb.length sz mk x (fun r y τ => TtR T n b u al gl Vm tb o mk p sz q v s ow r y τ) σ 0 0) := by
  have s0 := Sy_0 h
  obtain ⟨hs1, hs2⟩ := hs
  have t256 := h.2.2.2.1.2.1
  have go := tk_go h
  have o20 := h.2.2.2.2.2.1.2
  obtain ⟨t1, t2, t3, t4, t5, t6, t7⟩ := h.2.2.2.1.2.2 i hi
  rw [hs1] at t6
  rw [hs2] at t5
  have ii : ¬ (nI i < 0 ∨ 256 ≤ (nI i).toNatClampNeg) := n_in (by omega) (by omega)
  refine Tm_suc (fun k => by rw [f_X5_target]) ?_
  refine Tm_oP (Sy_pp s0) ?_
  rw [l2]
  refine Tm_chk ii ?_
  rw [n_cl (by omega), t6]
  refine st_mark s0 (by omega) (fun τ1 m1 m2 s1 k1 w1 => ?_)
  refine Tm_oP (Sy_pp s1) ?_
  refine Tm_chk (n_in2 (by omega) (by omega)) ?_
  have e8 : τ1.2.2.1 (pR8 b) (L.1 2).toNatClampNeg = nI ow := by
    rw [l2, n_cl (by omega)]
    have z := (s1.1.2.1.2.2.2.2.1 i hi).2.1.2
    rw [z]; exact t5
  have e8' : τ1.2.2.1 (pR8 b) i = nI ow := by rw [l2, n_cl (by omega)] at e8; exact e8
  rw [e8']
  refine st_mark s1 (by omega) (fun τ2 m3 m4 s2 k2 w2 => ?_)
  refine st_mark s2 (by omega) (fun τ3 m5 m6 s3 k3 w3 => ?_)
  refine st_mark s3 (by omega) (fun τ4 m7 m8 s4 k4 w4 => ?_)
  have wd0 : wdN [] = 0 := rfl
  refine c_tgL (σ := σ) (nc0 := tb.length) (sz0 := sz) (q0 := q) (v0 := v) (fun τ' xk => EvX_k ev xk) n10 hmk hsz hnt hp (Nat.le_refl _) f _ τ4 _ _ q v 1 e1 0 bt1 [] [] hG rfl rfl rfl (Nat.zero_le _) s4 ⟨⟨?_, ?_, ?_, ?_⟩, fun i hi => absurd hi (Nat.not_lt_zero _)⟩ (fun i hi => absurd hi (Nat.not_lt_zero _)) (by rw [wd0]; exact Sgm_nil u p gl Vm) (by show 2 * 0 + 2 * 0 ≤ _; omega) (Nat.le_refl _) (Nat.le_refl _)
  · rw [k4 _ (by omega), k3 _ (by omega), k2 _ (by omega)]; exact w1
  · rw [k4 _ (by omega), k3 _ (by omega)]; exact w2
  · rw [k4 _ (by omega), wd0]; exact w3
  · exact w4
end CXB
end JnS486
section JnS487
/-! The class: targets are read and written into code. -/
section CXC
variable {σ σ' σ0 τ τ' : CS} {L : LV} {b : Bool} {T : Nat → Int32} {n q q' u al o v mk p sz szB nc0 sz0 mk0 a1 a2 m kk f e s ow a t0 g D op : Nat} {y : Int32} {l l' cs cs' ll : List Int32} {tb : List Ent} {α : Type} {x : Fl α} {S S' : α → Int32 → CS → Prop} {C : Prop} {E : En} {gl : Nat × (Nat → Nat → Prop)} {Vm : Nat → Prop} {bt : BT} {ks : List Nat}
/-- a method that began later -/
theorem Q_re {g : Nat → Option RS} (h : Sx T n b u al σ0 nc0 sz0 mk0 a1 a2 tb o q v mk p sz τ) (t : Tm g (QPo b u tb.length sz mk x S τ 0 0)) : Tm g (QPo b u nc0 sz0 mk0 x S σ0 a1 a2) := by
  obtain ⟨h1, h2, h3, h4, h5, h6⟩ := h
  refine Tm_mono t (fun r w => ⟨w.1, w.2.1, fun e => ?_, fun e => ?_, XK_t h2 w.2.2.2.2 h4 h5 h6⟩)
  · have y := w.2.2.1 e; omega
  · have y := w.2.2.2.1 e; omega
theorem Q_w {g : Nat → Option RS} (t : Tm g (QPo b u nc0 sz0 mk0 x S σ0 a1 a2)) (i : ∀ t y τ, S t y τ → S' t y τ) : Tm g (QPo b u nc0 sz0 mk0 x S' σ0 a1 a2) := Tm_mono t (fun r w => ⟨fun t e => ⟨(w.1 t e).1, i t _ _ (w.1 t e).2⟩, w.2⟩)
theorem n_nn {p : Nat} (h : p < 2147483648) : ¬ nI p < 0 := fun z => n_in (n := 2147483648) h h (Or.inl z)
/-- a target, its name with it -/
theorem c_target {x : Fl RT} (h : QS T n b u al tb o q v mk p sz σ) (ev : EvX E b u al gl Vm tb σ) (n3 : ∀ i, i < tb.length → ¬ (tb.getD i e0E).2.1 = 3) (n10 : n ≤ 10240) (hmk : mk ≤ 2 * q + 18 * o) (hsz : 2 * sz + 3 * (n - q) + 100 ≤ 73728) (hnt : tb.length + (60 - v) ≤ 256) (hp : p ≤ 3 * v) (l1 : L.1 1 = -1) (hG : gTg T n f E o q v bt = some x) : Tm (fun k => f_X5_target k 0 L σ) (QPo b u tb.length sz mk x (fun r y τ => ∃ s ow, TgV u gl Vm s ow ∧ q < tkN T n q ∧ TtR T n b u al gl Vm tb o mk p sz (tkN T n q) v s ow r y τ) σ 0 0) := by
  have s0 := Sy_0 h
  unfold gTg at hG
  refine Tm_suc (fun k => by rw [f_X5_target]) ?_
  refine Tm_yes l1 ?_
  by_cases k26 : tkK T n q = 26
  case neg =>
    rw [if_neg k26] at hG
    exact st_want (kk := 26) (C := False) s0 (by decide) rfl (Or.inl ⟨k26, (Option.some.inj hG).symm⟩) (fun _ _ _ _ c _ => c.elim)
  rw [if_pos k26] at hG
  have go := tk_go h
  have g1 := go.2.2 (by omega)
  have okn : okN (tkS T n q) := (h.1.2.2.2.2.2.2.2.2 k26).2
  obtain ⟨nr1, nr2⟩ := ev.1.2 (tkS T n q) okn
  refine st_want (kk := 26) (C := True) s0 (by decide) rfl (Or.inr ⟨k26, trivial⟩) (fun τ1 ret1 n1 n2 _ s1 => ?_)
  rcases gT_any hG with ⟨w1, w2⟩ | ⟨w1, w2⟩
  · exact st_call (C := True) s1.1 (c_takenName (bs := tkS T n q) s1.1.1 k26 (Or.inl ⟨w1, rfl⟩)) (Or.inl ⟨_, rfl, w2⟩)
  refine st_call (C := True) s1.1 (c_takenName (bs := tkS T n q) s1.1.1 k26 (Or.inr ⟨w1, rfl⟩)) (Or.inr ⟨_, rfl, trivial, fun τ2 ret m1 m2 hr xk hc => ?_⟩)
  obtain ⟨hr1, hr2⟩ := hr
  have s2 : Sy T n b u al σ tb.length sz mk (0 + n1 + m1) (0 + n2 + m2) tb o (tkN T n q) v mk p sz [] τ2 := Sy_c0 s1 hr1 xk hc (Nat.le_refl _) (Nat.le_refl _)
  have b2 : ∀ L' : LV, L'.1 3 = nI q → x = Sum.inl (5, q) → Tm (fun k => f_X5_target k 2 L' τ2) (QPo b u tb.length sz mk x (fun r y τ => ∃ s ow, TgV u gl Vm s ow ∧ q < tkN T n q ∧ TtR T n b u al gl Vm tb o mk p sz (tkN T n q) v s ow r y τ) σ (0 + n1 + m1) (0 + n2 + m2)) := by
    intro L' l3 hx
    refine Tm_suc (fun k => by rw [f_X5_target]) ?_
    rw [hx]
    exact st_ref s2.1 rfl l3 (by decide)
  rcases hr2 with ⟨i, e1, lk⟩ | ⟨e1, lk⟩
  · have t256 := s2.1.1.2.2.2.1.2.1
    have lk1 := lk.1
    obtain ⟨en0, en1, en2, en3, en4⟩ := nr1 i lk
    obtain ⟨t1, t2, t3, t4, t5, t6, t7⟩ := s2.1.1.2.2.2.1.2.2 i lk.1
    have n3' := n3 i lk.1
    have ii : ¬ (nI i < 0 ∨ 256 ≤ (nI i).toNatClampNeg) := n_in (by omega) (by omega)
    have ci : (nI i).toNatClampNeg = i := n_cl (by omega)
    rw [e1]
    refine Tm_no (n_mn (by omega)) ?_
    refine Tm_oP (Sy_pp s2) ?_
    refine Tm_chk ii ?_
    have ev7 : τ2.2.2.1 (pR7 b) (nI i).toNatClampNeg = nI (tb.getD i e0E).2.1 := by rw [ci]; exact t4
    by_cases k0 : (tb.getD i e0E).2.1 = 0
    · obtain ⟨z1, z2, z3⟩ := en1 k0
      rw [if_pos z1] at w2
      refine Tm_yes (by show τ2.2.2.1 (pR7 b) (nI i).toNatClampNeg = 0; rw [ev7, k0]; rfl) ?_
      refine Q_re s2.1 (Q_w (c_tg1 (i := i) s2.1.1 (EvX_k ev s2.1.2.1) n10 (by omega) (by show 2 * (sz + 0) + 3 * (n - tkN T n q) + 100 ≤ _; omega) hnt hp lk.1 ⟨rfl, rfl⟩ rfl w2) (fun r y τ z => ⟨_, _, ⟨z2, z3, en0.2⟩, g1, z⟩))
    · refine Tm_no (by show ¬ τ2.2.2.1 (pR7 b) (nI i).toNatClampNeg = 0; rw [ev7, n_eq0 (by omega)]; exact k0) ?_
      refine b2 _ (lx_3 s1.1.1) ?_
      have f1 : ¬ (fd E (tkS T n q)).1 = 1 := fun z => by
        have c : (tb.getD i e0E).2.1 = 1 ∨ (tb.getD i e0E).2.1 = 2 := by omega
        rcases c with c | c
        · have := (en3 c).1; omega
        · have := (en4 c).1; omega
      rw [if_neg f1] at w2
      exact (Option.some.inj w2).symm
  · have f0 := nr2 lk
    rw [if_neg (by omega)] at w2
    rw [e1]
    refine Tm_yes rfl ?_
    exact b2 _ (lx_3 s1.1.1) (Option.some.inj w2).symm
/-- ints are copied behind the code -/
theorem CdO_w {src : Nat → Int32} (h : CdO b sz [] σ τ) (hn : sz + ll.length ≤ cdn b τ) (hl : ∀ i, i < ll.length → src (a + i) = ll.getD i 0) : CdO b sz ll σ (uI (uF τ (pR0 (sKd τ b)) (va_cpy src (τ.2.2.1 (pR0 (sKd τ b))) a sz ll.length)) (fP b 1) (nI (sz + ll.length))) := by
  obtain ⟨h1, ⟨h2, h3, h4⟩, h5, h6⟩ := h
  have nb : ¬ (!b) = b := by cases b <;> decide
  refine ⟨CdF_t h1 ⟨fun j hj => uI_o hj, rfl, fun k hk => ⟨updG_other (fun e => by rcases pR0_c (sKd τ b) with z | z <;> omega), rfl⟩, rfl, ⟨rfl, rfl, rfl, rfl⟩, fun _ _ => rfl, rfl⟩, ⟨uI_s, hn, h4⟩, fun i hi => ⟨?_, ?_⟩, fun i hi => ?_⟩
  · rw [← (h5 i hi).1]
    show updG τ.2.2.1 (pR0 (sKd τ b)) (va_cpy src (τ.2.2.1 (pR0 (sKd τ b))) a sz ll.length) (pR0 (sKd τ b)) i = _
    rw [updG_same]
    unfold va_cpy
    rw [if_neg (by omega)]
  · rw [← (h5 i hi).2]
    show updG τ.2.2.1 (pR0 (sKd τ b)) (va_cpy src (τ.2.2.1 (pR0 (sKd τ b))) a sz ll.length) (pR0 (sKd τ (!b))) i = _
    by_cases e : pR0 (sKd τ (!b)) = pR0 (sKd τ b)
    · rw [e, updG_same]
      unfold va_cpy
      rw [if_neg (by omega)]
      show _ = τ.2.2.1 (pR0 (sKd τ (!b))) i
      rw [e]
    · rw [updG_other e]
  · show updG τ.2.2.1 (pR0 (sKd τ b)) (va_cpy src (τ.2.2.1 (pR0 (sKd τ b))) a sz ll.length) (pR0 (sKd τ b)) (sz + i) = _
    rw [updG_same]
    unfold va_cpy
    rw [if_pos (by omega), Nat.add_sub_cancel_left]
    exact hl i hi
theorem c_words41 (h : CdL b sz σ) (hb : L.2.2.1 0 = b) (l2 : L.1 2 = nI a) (l3 : L.1 3 = nI ll.length) (ha : a + ll.length ≤ sN σ 41) (h41 : sN σ 41 ≤ 21504) (hm : sz + ll.length ≤ 36864) (hl : ∀ i, i < ll.length → σ.2.2.1 41 (a + i) = ll.getD i 0) : Tm (fun k => f_X7_words__P__z41 k 0 L σ) (fun r => r.1 = (0, 0) ∧ CoP σ r ∧ CdO b sz ll σ r.2.1) := by
  refine Tm_suc (fun k => by rw [f_X7_words__P__z41]) ?_
  rw [hb, l2, l3]
  refine Tm_oxc (c_widenC (m := ll.length) h rfl rfl hm) (fun r w => by rw [w.1]) (fun r w => ?_)
  obtain ⟨w1, ⟨w2, w2'⟩, w3, w4⟩ := w
  have es : r.2.1.1 (fP b 1) = nI sz := w3.2.1.1
  have e41 := w3.1.2.2.1 41 (by decide)
  rw [es, e41.1, e41.2]
  refine Tm_chk ⟨n_nn (by omega), n_nn (by omega), n_nn (by omega), by rw [n_cl (by omega), n_cl (by omega)]; exact ha, by rw [n_cl (by omega), n_cl (by omega)]; exact w4⟩ ?_
  rw [n_cl (by omega), n_cl (by omega), n_cl (by omega)]
  refine Tm_suc (fun k => by rw [f_X7_words__P__z41]) ?_
  rw [hb, l3]
  have e : (uF r.2.1 (pR0 (sKd r.2.1 b)) (va_cpy (σ.2.2.1 41) (r.2.1.2.2.1 (pR0 (sKd r.2.1 b))) a sz ll.length)).1 (fP b 1) + nI ll.length = nI (sz + ll.length) := by
    show r.2.1.1 (fP b 1) + _ = _
    rw [es, n_add (by omega)]
  rw [e]
  have z := CdO_w (a := a) (src := σ.2.2.1 41) w3 w4 hl
  have ph := Ph_s (σ := r.2.1) (σ' := uI (uF r.2.1 (pR0 (sKd r.2.1 b)) (va_cpy (σ.2.2.1 41) (r.2.1.2.2.1 (pR0 (sKd r.2.1 b))) a sz ll.length)) (fP b 1) (nI (sz + ll.length))) rfl
  refine Tm_some ⟨rfl, ⟨?_, ?_⟩, z⟩
  · show r.2.2.1 + 0 + PhC (uI (uF r.2.1 (pR0 (sKd r.2.1 b)) (va_cpy (σ.2.2.1 41) (r.2.1.2.2.1 (pR0 (sKd r.2.1 b))) a sz ll.length)) (fP b 1) (nI (sz + ll.length))) ≤ _
    omega
  · show r.2.2.2 + 0 + PhS (uI (uF r.2.1 (pR0 (sKd r.2.1 b)) (va_cpy (σ.2.2.1 41) (r.2.1.2.2.1 (pR0 (sKd r.2.1 b))) a sz ll.length)) (fP b 1) (nI (sz + ll.length))) ≤ _
    omega
theorem st_words41 {f : Nat → RS → Option RS} (h : Sy T n b u al σ0 nc0 sz0 mk0 a1 a2 tb o q v mk p szB cs τ) (hb : L.2.2.1 0 = b) (l2 : L.1 2 = nI a) (l3 : L.1 3 = nI ll.length) (ha : a + ll.length ≤ mk) (hm : szB + cs.length + ll.length ≤ 36864) (hl : ∀ i, i < ll.length → τ.2.2.1 41 (a + i) = ll.getD i 0) (cont : ∀ (τ' : CS) (n1 n2 : Nat), Sy T n b u al σ0 nc0 sz0 mk0 (a1 + n1) (a2 + n2) tb o q v mk p szB (cs ++ ll) τ' → Tm (fun k => f k ((0, 0), τ', (n1, n2))) (QPo b u nc0 sz0 mk0 x S σ0 (a1 + n1) (a2 + n2))) : Tm (fun k => ox (f_X7_words__P__z41 k 0 L τ) (f k)) (QPo b u nc0 sz0 mk0 x S σ0 a1 a2) := by
  have m4 := h.1.1.2.2.1
  have m41 := m4.2.1
  refine Tm_ox (c_words41 h.1.1.2.1 hb l2 l3 (by omega) m4.2.2 hm hl) (fun r w nz => absurd (by rw [w.1]) nz) (fun r w e0 => ?_)
  obtain ⟨w1, w2, w3⟩ := w
  have k := cont r.2.1 r.2.2.1 r.2.2.2 (Sy_cd h w3 ⟨w2.1, w2.2⟩)
  have er : ((0, 0), r.2.1, (r.2.2.1, r.2.2.2)) = r := by rw [← w1]
  rw [er] at k
  exact Tm_mono k (fun q z => QPo_s z)
theorem c_emitT (h : QS T n b u al tb o q v mk p sz τ) (hu : u < 42) (tm : TgM τ t0 s ow ks) (ht : t0 + 4 + ks.length ≤ mk) (hg : g = if ow = u then 0 else 1) (how : ow < 42) (hop : op + 1 < 256) (hm : sz + 3 + ks.length ≤ 36864) (l1 : L.1 1 = nI op) (l2 : L.1 2 = nI t0) (l3 : L.1 3 = nI D) : Tm (fun k => f_X5_emitTarget k 0 L τ) (QPo b u tb.length sz mk (Sum.inr ()) (fun _ _ τ' => QS T n b u al tb o q v mk p (sz + (rwL (op + g) s D ks).length) τ' ∧ (∀ i, i < (rwL (op + g) s D ks).length → cdr b τ' (sz + i) = (rwL (op + g) s D ks).getD i 0)) τ 0 0) := by
  have s0 := Sy_0 h
  have sn := h.2.2.1
  have sn1 := sn.2.1
  have sn2 := sn.2.2
  have e3 := h.2.2.2.2.1.2.1
  obtain ⟨⟨t1, t2, t3, t4⟩, t5⟩ := tm
  have e21 : L.1 2 + 1 = nI (t0 + 1) := by rw [l2, n_add1]
  have b2 : ∀ L' : LV, L'.1 1 = nI op → L'.1 2 = nI t0 → L'.1 3 = nI D → L'.1 100 = nI g → Tm (fun k => f_X5_emitTarget k 2 L' τ) (QPo b u tb.length sz mk (Sum.inr ()) (fun _ _ τ' => QS T n b u al tb o q v mk p (sz + (rwL (op + g) s D ks).length) τ' ∧ (∀ i, i < (rwL (op + g) s D ks).length → cdr b τ' (sz + i) = (rwL (op + g) s D ks).getD i 0)) τ 0 0) := by
    intro L' j1 j2 j3 j100
    have g1 : g ≤ 1 := by rw [hg]; split <;> omega
    have e23 : L'.1 2 + 3 = nI (t0 + 3) := by rw [j2]; exact n_add (q := 3) (by omega)
    have e24 : L'.1 2 + 4 = nI (t0 + 4) := by rw [j2]; exact n_add (q := 4) (by omega)
    refine Tm_suc (fun k => by rw [f_X5_emitTarget]) ?_
    refine Tm_oP (Sy_pp s0) ?_
    rw [e23, e24, j2, j1, j100, n_add (by omega), j3]
    refine Tm_chk (n_in (by omega) (by omega)) ?_
    rw [n_cl (by omega), t1]
    refine st_emit (op := op + g) s0 rfl rfl (by show sz + 0 + 1 ≤ _; omega) (fun τ1 n1 n2 s1 => ?_)
    refine Tm_oP (Sy_pp s1) ?_
    refine st_word s1 rfl (by show sz + 1 + 1 ≤ _; omega) (fun τ2 n3 n4 s2 => ?_)
    refine Tm_oP (Sy_pp s2) ?_
    have x2 := s2.1.2.1.2.2.2.2.2.2.1
    have m2 := s2.1.1.2.2.1
    have m21 := m2.2.1
    refine Tm_chk (n_in (n := sN τ2 41) (by omega) (by omega)) ?_
    have k3 : τ2.2.2.1 41 (nI (t0 + 3)).toNatClampNeg = nI ks.length := by rw [n_cl (by omega), x2 _ (by omega)]; exact t4
    rw [k3]
    refine st_word s2 rfl (by show sz + 2 + 1 ≤ _; omega) (fun τ3 n5 n6 s3 => ?_)
    refine Tm_oP (Sy_pp s3) ?_
    have x3 := s3.1.2.1.2.2.2.2.2.2.1
    have m3 := s3.1.1.2.2.1
    have m31 := m3.2.1
    refine Tm_chk (n_in (n := sN τ3 41) (by omega) (by omega)) ?_
    have k4 : τ3.2.2.1 41 (nI (t0 + 3)).toNatClampNeg = nI ks.length := by rw [n_cl (by omega), x3 _ (by omega)]; exact t4
    rw [k4]
    refine st_words41 (a := t0 + 4) (ll := kdL ks) s3 rfl rfl (by rw [kdL_l]; rfl) (by rw [kdL_l]; exact ht) (by rw [kdL_l]; show sz + 3 + ks.length ≤ _; exact hm) (fun i hi => ?_) (fun τ4 n7 n8 s4 => ?_)
    · rw [kdL_l] at hi
      rw [x3 _ (by omega), kdL_g ks i hi]; exact t5 i hi
    · exact Tm_some (Qfin s4.1 ⟨s4.1.1, s4.2⟩)
  refine Tm_suc (fun k => by rw [f_X5_emitTarget]) ?_
  rw [e21]
  refine Tm_chk (n_in (by omega) (by omega)) ?_
  rw [n_cl (by omega), t2, e3]
  by_cases ho : ow = u
  · refine Tm_yes (by rw [ho]) ?_
    refine b2 _ l1 l2 l3 ?_
    rw [hg, if_pos ho]; rfl
  · refine Tm_no (by rw [n_eq (by omega) (by omega)]; exact ho) ?_
    refine Tm_suc (fun k => by rw [f_X5_emitTarget]) ?_
    refine b2 _ l1 l2 l3 ?_
    rw [hg, if_neg ho]; rfl
/-- a target is written into code: READ or WRITE -/
theorem st_emitT {f : Nat → RS → Option RS} (h : Sy T n b u al σ0 nc0 sz0 mk0 a1 a2 tb o q v mk p szB cs τ) (hu : u < 42) (tm : TgM τ t0 s ow ks) (ht : t0 + 4 + ks.length ≤ mk) (hg : g = if ow = u then 0 else 1) (how : ow < 42) (hop : op + 1 < 256) (hm : szB + cs.length + 3 + ks.length ≤ 36864) (l1 : L.1 1 = nI op) (l2 : L.1 2 = nI t0) (l3 : L.1 3 = nI D) (cont : ∀ (τ' : CS) (ret : Int32) (n1 n2 : Nat), Sy T n b u al σ0 nc0 sz0 mk0 (a1 + n1) (a2 + n2) tb o q v mk p szB (cs ++ rwL (op + g) s D ks) τ' → XK b u tb.length (szB + cs.length) mk τ τ' → Tm (fun k => f k ((0, ret), τ', (n1, n2))) (QPo b u nc0 sz0 mk0 x S σ0 (a1 + n1) (a2 + n2))) : Tm (fun k => ox (f_X5_emitTarget k 0 L τ) (f k)) (QPo b u nc0 sz0 mk0 x S σ0 a1 a2) := by
  refine st_call (C := True) h.1 (c_emitT h.1.1 hu tm ht hg how hop hm l1 l2 l3) (Or.inr ⟨(), rfl, trivial, fun τ' ret n1 n2 hr xk hc => ?_⟩)
  exact cont τ' ret n1 n2 (Sy_ca h hr.1 xk hc hr.2 h.1.2.2.2.1 h.1.2.2.2.2.2) xk
end CXC
end JnS487
section JnS488
/-! The class: assignments, operations, takings are read. -/
section CXD
variable {σ σ' σ0 τ τ' : CS} {L : LV} {b : Bool} {T : Nat → Int32} {n q q' u al o v mk p sz szB nc0 sz0 mk0 a1 a2 m kk f e s ow a t0 g D op : Nat} {y : Int32} {l l' cs cs' ll : List Int32} {tb : List Ent} {E : En} {gl : Nat × (Nat → Nat → Prop)} {Vm : Nat → Prop} {Pc : Nat → Nat → Prop} {bt : BT} {ks : List Nat}
/-- ok begins no exp -/
theorem g_63 (h : tkK T n q = 63) : ∀ (F : Nat) (r : Fl RT), G T n F 0 E o q v 0 0 0 0 bt = some r → r = Sum.inl (2, q) := by
  have h13 : ∀ (F : Nat) (r : Fl RT), G T n F 13 E o q v 0 0 0 0 bt = some r → r = Sum.inl (2, q) := by
    intro F r e
    cases F with
    | zero => cases e
    | succ F =>
      rw [G_13, if_neg (by omega), if_neg (by omega), if_neg (by omega), if_neg (by omega), if_neg (by omega), if_neg (by omega), if_neg (by omega), if_neg (by omega), if_neg (fun z => by omega), if_neg (fun z => by rcases z with z | z | z <;> omega)] at e
      exact (Option.some.inj e).symm
  have h11 : ∀ (F : Nat) (r : Fl RT), G T n F 11 E o q v 0 0 0 0 bt = some r → r = Sum.inl (2, q) := by
    intro F r e
    cases F with
    | zero => cases e
    | succ F =>
      rw [G_11, if_neg (by omega), if_neg (by omega)] at e
      rcases gb_any e with ⟨yf, w, y⟩ | ⟨s, y, _⟩
      · exact y.trans (h13 _ _ w)
      · exact absurd (h13 _ _ y) (by intro z; cases z)
  have h10 : ∀ (F : Nat) (r : Fl RT), G T n F 10 E o q v 0 0 0 0 bt = some r → r = Sum.inl (2, q) := by
    intro F r e
    cases F with
    | zero => cases e
    | succ F =>
      rw [G_10] at e
      rcases gb_any e with ⟨yf, w, y⟩ | ⟨s, y, _⟩
      · exact y.trans (h11 _ _ w)
      · exact absurd (h11 _ _ y) (by intro z; cases z)
  have h8 : ∀ (F : Nat) (r : Fl RT), G T n F 8 E o q v 0 0 0 0 bt = some r → r = Sum.inl (2, q) := by
    intro F r e
    cases F with
    | zero => cases e
    | succ F =>
      rw [G_8] at e
      rcases gb_any e with ⟨yf, w, y⟩ | ⟨s, y, _⟩
      · exact y.trans (h10 _ _ w)
      · exact absurd (h10 _ _ y) (by intro z; cases z)
  have h6 : ∀ (F : Nat) (r : Fl RT), G T n F 6 E o q v 0 0 0 0 bt = some r → r = Sum.inl (2, q) := by
    intro F r e
    cases F with
    | zero => cases e
    | succ F =>
      rw [G_6] at e
      rcases gb_any e with ⟨yf, w, y⟩ | ⟨s, y, _⟩
      · exact y.trans (h8 _ _ w)
      · exact absurd (h8 _ _ y) (by intro z; cases z)
  have h5 : ∀ (F : Nat) (r : Fl RT), G T n F 5 E o q v 0 0 0 0 bt = some r → r = Sum.inl (2, q) := by
    intro F r e
    cases F with
    | zero => cases e
    | succ F =>
      rw [G_5] at e
      rcases gb_any e with ⟨yf, w, y⟩ | ⟨s, y, _⟩
      · exact y.trans (h6 _ _ w)
      · exact absurd (h6 _ _ y) (by intro z; cases z)
  have h4 : ∀ (F : Nat) (r : Fl RT), G T n F 4 E o q v 0 0 0 0 bt = some r → r = Sum.inl (2, q) := by
    intro F r e
    cases F with
    | zero => cases e
    | succ F =>
      rw [G_4, if_neg (by omega)] at e
      exact h5 _ _ e
  have h2 : ∀ (F : Nat) (r : Fl RT), G T n F 2 E o q v 0 0 0 0 bt = some r → r = Sum.inl (2, q) := by
    intro F r e
    cases F with
    | zero => cases e
    | succ F =>
      rw [G_2] at e
      rcases gb_any e with ⟨yf, w, y⟩ | ⟨s, y, _⟩
      · exact y.trans (h4 _ _ w)
      · exact absurd (h4 _ _ y) (by intro z; cases z)
  intro F r e
  cases F with
  | zero => cases e
  | succ F =>
    rw [G_0] at e
    rcases gb_any e with ⟨yf, w, y⟩ | ⟨s, y, _⟩
    · exact y.trans (h2 _ _ w)
    · exact absurd (h2 _ _ y) (by intro z; cases z)
def b0T : BT := (1, 0, fun _ _ => 0, fun _ => 0, fun _ => 0)
theorem g_ex (E : En) (o q v : Nat) (hq : q ≤ n) (hv : v ≤ 60) : ∃ F x, G T n F 0 E o q v 0 0 0 0 b0T = some x := ⟨30 * n + 30, g_tot T n _ 0 E o q v 0 0 0 0 b0T (by decide) hq hv (Nat.le_refl 1) trivial (by simp only [lvG]; omega)⟩
/-- behind a statement, before its ; -/
def Sem (T : Nat → Int32) (n : Nat) (x : Fl RT) (z : Fl (Nat × Nat)) : Prop := (∃ y, z = Sum.inl y ∧ x = Sum.inl y) ∨ ∃ (r : Nat × Nat) (e : Nat) (bb : BT), z = Sum.inr r ∧ gW T n 13 r.1 (fun q4 => some (Sum.inr (q4, r.2, 0, e, bb, []))) = some x
/-- code that comes behind m values, and makes an end of them -/
def AsR (T : Nat → Int32) (n : Nat) (b : Bool) (u al : Nat) (gl : Nat × (Nat → Nat → Prop)) (Pc : Nat → Nat → Prop) (Vm : Nat → Prop) (tb : List Ent) (o mk sz q v m c : Nat) (r : Nat × Nat) (τ : CS) : Prop := ∃ ll : List Int32, QS T n b u al tb o r.1 r.2 mk 0 (sz + ll.length) τ ∧ (∀ i, i < ll.length → cdr b τ (sz + i) = ll.getD i 0) ∧ Sse u gl Pc Vm [] 0 m 0 ll ∧ 2 * ll.length ≤ 3 * (r.1 - q) + c ∧ q < r.1 ∧ v ≤ r.2
theorem tgO_of (tv : TgV u gl Vm s ow) (hg : g = if ow = u then 0 else 1) (h1 : gl.1 ≤ 1000) : TgO gl Vm g s := by
  obtain ⟨t1, t2, t3⟩ := tv
  by_cases z : ow = u
  · rw [if_pos z] at hg
    exact Or.inl ⟨hg, t1 z⟩
  · rw [if_neg z] at hg
    exact Or.inr ⟨hg, t2 z, h1⟩
theorem kOK_b (h : kOK ks) : ∀ i, i < ks.length → ks.getD i 0 < 256 := fun i hi => by have := h i hi; omega
theorem tpv_0 {m D w : Nat} {ms : List Nat} (h : D ≤ m) : TpV m (sh [] w ms) D := Or.inl h
/-- the value is there: it is written, and all is dropped -/
theorem Sse_as (tv : TgV u gl Vm s ow) (hg : g = if ow = u then 0 else 1) (h1 : gl.1 ≤ 1000) (ko : kOK ks) (kl : ks.length ≤ 30000) : Sse u gl Pc Vm [] 0 (wdN ks + 1) 0 (rwL (192 + g) s (wdN ks + 1) ks ++ [em 37 (nI (wdN ks + 1))]) := by
  have wb := wdN_b ks
  have e0 : wdN ks + 1 = 0 + (wdN ks + 1) := by omega
  have k1 : Sst u gl Pc Vm [] 0 (wdN ks + 1) (wdN ks + 1) (rwL (192 + g) s (wdN ks + 1) ks) := Sst_i (Is_wr (tgO_of tv hg h1) (kOK_b ko) (Nat.le_refl _) (fun w ms => tpv_0 (Nat.le_refl _)) (by omega) (by omega)) (by rw [rwL_l]; omega) (by omega)
  have k2 : Sse u gl Pc Vm [] 0 (wdN ks + 1) 0 [em 37 (nI (wdN ks + 1))] := by
    have z := Sse_i (pre := []) (Is_dr (u := u) (gl := gl) (Pc := Pc) (Vm := Vm) (pre := []) (n := 0) (k := wdN ks + 1) (by omega)) (by show 1 ≤ 1; decide) (by omega)
    rw [← e0] at z
    exact z
  have z := Sse_seq k1 k2 (by omega)
  exact z
theorem c_assignment {i : Nat} {x : Fl RT} (h : QS T n b u al tb o q v mk 0 sz σ) (ev : EvX E b u al gl Vm tb σ) (bd : BdX n o q v mk 0 sz tb.length) (hs2 : 2 * sz + 3 * (n - q) + 2 * ks.length + 100 ≤ 73728) (tm : TgM σ t0 s ow ks) (ht : t0 + 4 + ks.length ≤ mk) (tv : TgV u gl Vm s ow) (ko : kOK ks) (kl : ks.length ≤ 30000) (hi : i = if ks.length = 0 then 1 else 2) (l1 : L.1 1 = nI t0) (hG : (if tkK T n q = 63 then (if i = 1 then gT T n q (fun q2 => some (Sum.inr (q2, v, 0, 0, bt, []))) else some (Sum.inl (2, q))) else G T n f 0 E o q v 0 0 0 0 bt) = some x) : Tm (fun k => f_X5_assignment k 0 L σ) (QPo b u tb.length sz mk (mF (fun r => (r.1, r.2.1)) x) (fun r _ τ => AsR T n b u al gl Pc Vm tb o mk sz q v (wdN ks) (2 * ks.length + 10) r τ) σ 0 0) := by
  have s0 := Sy_0 h
  have sn := h.2.2.1
  have sn1 := sn.2.1
  have sn2 := sn.2.2
  have u42 := ev.2.2.1.2
  have gl1 := ev.1.1
  have go := tk_go h
  have n10 := bd.1
  have v60 := h.2.2.2.2.2.2.1.2
  have wb := wdN_b ks
  obtain ⟨g, hg⟩ : ∃ g, g = if ow = u then 0 else 1 := ⟨_, rfl⟩
  have e12 : L.1 1 + 2 = nI (t0 + 2) := by rw [l1]; exact n_add (q := 2) (by omega)
  have e13 : L.1 1 + 3 = nI (t0 + 3) := by rw [l1]; exact n_add (q := 3) (by omega)
  -- it is written
  have b2 : ∀ (L' : LV) (τ : CS) (a1 a2 : Nat) (q1 v1 : Nat) (ll : List Int32), L'.1 1 = nI t0 → Sy T n b u al σ tb.length sz mk a1 a2 tb o q1 v1 mk 0 sz ll τ → Sst u gl Pc Vm [] 0 (wdN ks) (wdN ks + 1) ll → 2 * ll.length ≤ 3 * (q1 - q) + 1 → 1 ≤ ll.length → q < q1 → v ≤ v1 → Tm (fun k => f_X5_assignment k 2 L' τ) (QPo b u tb.length sz mk (Sum.inr (q1, v1)) (fun r _ τ => AsR T n b u al gl Pc Vm tb o mk sz q v (wdN ks) (2 * ks.length + 10) r τ) σ a1 a2) := by
    intro L' τ a1 a2 q1 v1 ll j1 s1 sg ln l1' lq lv
    have go1 := tk_go s1.1.1
    have j2 : L'.1 1 + 2 = nI (t0 + 2) := by rw [j1]; exact n_add (q := 2) (by omega)
    have tm1 := TgM_k tm s1.1.2.1 ht
    have m1 := s1.1.1.2.2.1.2.1
    have k1 : τ.2.2.1 41 (nI (t0 + 2)).toNatClampNeg = nI (wdN ks) := by rw [n_cl (by omega)]; exact tm1.1.2.2.1
    refine Tm_suc (fun k => by rw [f_X5_assignment]) ?_
    rw [j2]
    refine Tm_chk (n_in (by omega) (by omega)) ?_
    rw [k1, n_add1]
    refine st_emitT (op := 192) (D := wdN ks + 1) s1 u42 tm1 ht hg tv.2.2 (by decide) (by omega) rfl j1 rfl (fun τ2 ret2 n1 n2 s2 xk2 => ?_)
    refine Tm_oP (Sy_pp s2) ?_
    have tm2 := TgM_k tm1 xk2 ht
    have m2 := s2.1.1.2.2.1.2.1
    have k2 : τ2.2.2.1 41 (nI (t0 + 2)).toNatClampNeg = nI (wdN ks) := by rw [n_cl (by omega)]; exact tm2.1.2.2.1
    refine Tm_chk (n_in (n := sN τ2 41) (by omega) (by omega)) ?_
    rw [k2, n_add1]
    have lr : (ll ++ rwL (192 + g) s (wdN ks + 1) ks).length = ll.length + (ks.length + 3) := by rw [List.length_append, rwL_l]
    refine st_emit (op := 37) s2 rfl rfl (by rw [lr]; omega) (fun τ3 n3 n4 s3 => ?_)
    have ea : ll ++ rwL (192 + g) s (wdN ks + 1) ks ++ [em 37 (nI (wdN ks + 1))] = ll ++ (rwL (192 + g) s (wdN ks + 1) ks ++ [em 37 (nI (wdN ks + 1))]) := List.append_assoc _ _ _
    have s3' : Sy T n b u al σ tb.length sz mk (a1 + n1 + n3) (a2 + n2 + n4) tb o q1 v1 mk 0 sz (ll ++ (rwL (192 + g) s (wdN ks + 1) ks ++ [em 37 (nI (wdN ks + 1))])) τ3 := by
      rw [← ea]; exact s3
    have lf : (ll ++ (rwL (192 + g) s (wdN ks + 1) ks ++ [em 37 (nI (wdN ks + 1))])).length = ll.length + (ks.length + 4) := by rw [← ea, List.length_append, lr]; show ll.length + (ks.length + 3) + 1 = _; omega
    have ty : Sse u gl Pc Vm [] 0 (wdN ks) 0 (ll ++ (rwL (192 + g) s (wdN ks + 1) ks ++ [em 37 (nI (wdN ks + 1))])) := Sse_seq sg (Sse_as tv hg gl1 ko kl) (by omega)
    refine Tm_some (Qfin s3'.1 ⟨_, s3'.1.1, s3'.2, ty, ?_, lq, lv⟩)
    rw [lf]
    show 2 * (ll.length + (ks.length + 4)) ≤ 3 * (q1 - q) + (2 * ks.length + 10)
    omega
  -- an exp
  have b1 : ∀ (F : Nat) (y : Fl RT) (bt' : BT) (L' : LV), L'.1 1 = nI t0 → G T n F 0 E o q v 0 0 0 0 bt' = some y → Tm (fun k => f_X5_assignment k 1 L' σ) (QPo b u tb.length sz mk (mF (fun r => (r.1, r.2.1)) y) (fun r _ τ => AsR T n b u al gl Pc Vm tb o mk sz q v (wdN ks) (2 * ks.length + 10) r τ) σ 0 0) := by
    intro F y bt' L' j1 hg'
    refine Tm_suc (fun k => by rw [f_X5_assignment]) ?_
    cases y with
    | inl yf => exact st_exp (C := True) (px_all F 400) (Or.inl ⟨rfl, rfl⟩) s0 ev bd rfl (by omega) hg' (Or.inl ⟨_, rfl, rfl⟩) (fun _ _ _ _ _ _ z => by cases z)
    | inr r =>
      refine st_exp (C := True) (px_all F 400) (Or.inl ⟨rfl, rfl⟩) s0 ev bd rfl (by omega) hg' (Or.inr ⟨r, rfl, trivial⟩) (fun τ1 ret1 n1 n2 r1 l1' hz _ s1 xk sg ln lt lv tg => ?_)
      cases hz
      exact b2 _ τ1 _ _ r.1 r.2.1 l1' j1 s1 (Sst_sg sg (wdN ks)) ln sg.1 lt lv
  by_cases k63 : tkK T n q = 63
  · rw [if_pos k63] at hG
    by_cases kz : ks.length = 0
    · rw [if_pos kz] at hi
      rw [if_pos hi] at hG
      have w0 : wdN ks = 0 := by omega
      rcases gT_any hG with ⟨w1, w2⟩ | ⟨w1, w2⟩
      · rw [w2]
        refine Tm_suc (fun k => by rw [f_X5_assignment]) ?_
        refine Tm_yes ((lx_k (kk := 63) h (by decide)).2 k63) ?_
        rw [e13]
        refine Tm_chk (n_in (by omega) (by omega)) ?_
        rw [n_cl (by omega)]
        refine Tm_yes (by rw [tm.1.2.2.2, kz]; rfl) ?_
        exact st_advY (C := True) s0 (Or.inl ⟨w1, rfl⟩) (fun _ _ _ _ s => absurd w1 s.1.1.1.2.2.2.2.1)
      · rw [← Option.some.inj w2]
        have g1 := go.2.2 (by omega)
        refine Tm_suc (fun k => by rw [f_X5_assignment]) ?_
        refine Tm_yes ((lx_k (kk := 63) h (by decide)).2 k63) ?_
        rw [e13]
        refine Tm_chk (n_in (by omega) (by omega)) ?_
        rw [n_cl (by omega)]
        refine Tm_yes (by rw [tm.1.2.2.2, kz]; rfl) ?_
        refine st_advY (C := True) s0 (Or.inr ⟨w1, trivial⟩) (fun τ1 r1 er _ s1 => ?_)
        rw [er]
        refine Tm_oP (Sy_pp s1) ?_
        refine st_emit (op := 21) s1 rfl rfl (by show sz + 0 + 1 ≤ _; have := bd.2.1; omega) (fun τ2 n1 n2 s2 => ?_)
        refine b2 _ τ2 _ _ (tkN T n q) v [em 21 0] l1 s2 ?_ (by show 2 * 1 ≤ _; omega) (Nat.le_refl _) g1 (Nat.le_refl _)
        rw [w0]
        exact Sst_i Is_po (Nat.le_refl _) (by show 1 ≤ 0 + 1; omega)
    · rw [if_neg kz] at hi
      rw [if_neg (by omega)] at hG
      obtain ⟨F, y, hy⟩ := g_ex (T := T) (n := n) E o q v go.1 v60
      have yn : y = Sum.inl (2, q) := g_63 k63 F y hy
      subst yn
      rw [← Option.some.inj hG]
      refine Tm_suc (fun k => by rw [f_X5_assignment]) ?_
      refine Tm_yes ((lx_k (kk := 63) h (by decide)).2 k63) ?_
      rw [e13]
      refine Tm_chk (n_in (by omega) (by omega)) ?_
      rw [n_cl (by omega), tm.1.2.2.2]
      refine Tm_no (by rw [n_eq0 (by omega)]; exact kz) ?_
      exact b1 F (Sum.inl (2, q)) b0T L l1 hy
  · rw [if_neg k63] at hG
    refine Tm_suc (fun k => by rw [f_X5_assignment]) ?_
    refine Tm_no (fun z => k63 ((lx_k (kk := 63) h (by decide)).1 z)) ?_
    exact b1 f x bt L l1 hG
end CXD
end JnS488
section JnS489
/-! The class: operations, takings are read. -/
section CXE
variable {σ σ' σ0 τ τ' : CS} {L : LV} {b : Bool} {T : Nat → Int32} {n q q' u al o v mk sz szB nc0 sz0 mk0 a1 a2 m kk f e s ow a t0 t1 g D op s1 ow1 g1 way : Nat} {y : Int32} {pre : List Nat} {l l' cs cs' ll : List Int32} {tb : List Ent} {E : En} {gl : Nat × (Nat → Nat → Prop)} {Vm : Nat → Prop} {Pc : Nat → Nat → Prop} {bt : BT} {ks ks1 : List Nat}
theorem Is_bi (h : 128 ≤ op ∧ op < 144) : Isc u gl Pc Vm pre 0 (m + 2) (m + 1) [em op 0] := Is_1 (by omega) Sm3_0 (fun O nu R re c c' pc w ms hN no2 hD2 hr cn hp hR1 hR2 hd a => OKI_b h ⟨m, rfl, sx_S a cn hp hD2 no2 (by omega)⟩)
/-- the value is there: an operation with what the target holds -/
theorem Sse_op (tv : TgV u gl Vm s ow) (hg : g = if ow = u then 0 else 1) (h1 : gl.1 ≤ 1000) (ko : kOK ks) (kl : ks.length ≤ 30000) (hop : 128 ≤ op ∧ op < 144) : Sse u gl Pc Vm [] 0 (wdN ks + 1) 0 (rwL (176 + g) s (wdN ks + 1) ks ++ ([em 39 0] ++ ([em op 0] ++ (rwL (192 + g) s (wdN ks + 1) ks ++ [em 37 (nI (wdN ks + 1))])))) := by
  have wb := wdN_b ks
  have k1 : Sst u gl Pc Vm [] 0 (wdN ks + 1) (wdN ks + 1 + 1) (rwL (176 + g) s (wdN ks + 1) ks) := Sst_i (Is_rd (tgO_of tv hg h1) (kOK_b ko) (by omega) (fun w ms => tpv_0 (Nat.le_refl _)) (by omega)) (by rw [rwL_l]; omega) (by rw [rwL_l]; omega)
  have k2 : Sst u gl Pc Vm [] 0 (wdN ks + 1 + 1) (wdN ks + 1 + 1) [em 39 0] := Sst_i (Is_sw (by omega)) (Nat.le_refl _) (by omega)
  have k3 : Sst u gl Pc Vm [] 0 (wdN ks + 2) (wdN ks + 1) [em op 0] := Sst_i (Is_bi hop) (Nat.le_refl _) (by omega)
  have z3 := Sse_seq k3 (Sse_as (Pc := Pc) tv hg h1 ko kl) (by omega)
  have z2 := Sse_seq k2 z3 (by omega)
  exact Sse_seq k1 z2 (by rw [rwL_l]; omega)
theorem c_operation {x : Fl RT} (h : QS T n b u al tb o q v mk 0 sz σ) (ev : EvX E b u al gl Vm tb σ) (n10 : n ≤ 10240) (hmk : mk ≤ 2 * q + 18 * o + 4) (hnt : tb.length + (60 - v) ≤ 256) (hs2 : 2 * sz + 3 * (n - q) + 4 * ks.length + 100 ≤ 73728) (tm : TgM σ t0 s ow ks) (ht : t0 + 4 + ks.length ≤ mk) (tv : TgV u gl Vm s ow) (ko : kOK ks) (kl : ks.length ≤ 30000) (l1 : L.1 1 = nI t0) (hk : tkK T n q = 2 ∨ tkK T n q = 3 ∨ tkK T n q = 4) (l2 : L.1 2 = cKd (tkK T n q)) (hG : gT T n q (fun q1 => gW T n 1 q1 (fun q2 => G T n f 0 E o q2 v 0 0 0 0 bt)) = some x) : Tm (fun k => f_X5_operation k 0 L σ) (QPo b u tb.length sz mk (mF (fun r => (r.1, r.2.1)) x) (fun r _ τ => AsR T n b u al gl Pc Vm tb o mk sz q v (wdN ks) (4 * ks.length + 13) r τ ∧ q + 3 ≤ r.1) σ 0 0) := by
  have s0 := Sy_0 h
  have sn := h.2.2.1
  have sn1 := sn.2.1
  have sn2 := sn.2.2
  have u42 := ev.2.2.1.2
  have gl1 := ev.1.1
  have go := tk_go h
  have g1 := go.2.2 (by omega)
  have wb := wdN_b ks
  have o20 := h.2.2.2.2.2.1.2
  have v60 := h.2.2.2.2.2.2.1.2
  obtain ⟨g, hg⟩ : ∃ g, g = if ow = u then 0 else 1 := ⟨_, rfl⟩
  rcases gT_any hG with ⟨w1, w2⟩ | ⟨w1, w2⟩
  · rw [w2]
    refine Tm_suc (fun k => by rw [f_X5_operation]) ?_
    exact st_advY (C := True) s0 (Or.inl ⟨w1, rfl⟩) (fun _ _ _ _ s => absurd w1 s.1.1.1.2.2.2.2.1)
  rcases gW_any w2 with ⟨w3, w4⟩ | ⟨w3, w4⟩
  · rw [w4]
    refine Tm_suc (fun k => by rw [f_X5_operation]) ?_
    refine st_advY (C := True) s0 (Or.inr ⟨w1, trivial⟩) (fun τ1 r1 er _ s1 => ?_)
    rw [er]
    exact st_expect (kk := 1) (C := False) s1 (by decide) rfl (Or.inl ⟨w3, rfl⟩) (fun _ _ _ _ c _ => c.elim)
  have go1 := tkN_b T n (tkN T n q) go.2.1
  have g2 := go1.2.2.2 (by omega)
  -- from the exp on
  have key : ∀ (y : Fl RT), G T n f 0 E o (tkN T n (tkN T n q)) v 0 0 0 0 bt = some y → Tm (fun k => f_X5_operation k 0 L σ) (QPo b u tb.length sz mk (mF (fun r => (r.1, r.2.1)) y) (fun r _ τ => AsR T n b u al gl Pc Vm tb o mk sz q v (wdN ks) (4 * ks.length + 13) r τ ∧ q + 3 ≤ r.1) σ 0 0) := by
    intro y hy
    have bd : BdX n o (tkN T n (tkN T n q)) v mk 0 sz tb.length := ⟨n10, by omega, by omega, hnt, by omega⟩
    refine Tm_suc (fun k => by rw [f_X5_operation]) ?_
    refine st_advY (C := True) s0 (Or.inr ⟨w1, trivial⟩) (fun τ1 r1 er _ s1 => ?_)
    rw [er]
    refine st_expect (kk := 1) (C := True) s1 (by decide) rfl (Or.inr ⟨w3, trivial⟩) (fun τ2 ret2 n1 n2 _ s2 => ?_)
    cases y with
    | inl yf => exact st_exp (C := True) (px_all f 400) (Or.inl ⟨rfl, rfl⟩) s2 (EvX_k ev s2.1.2.1) bd rfl (by omega) hy (Or.inl ⟨_, rfl, rfl⟩) (fun _ _ _ _ _ _ z => by cases z)
    | inr r =>
      refine st_exp (C := True) (px_all f 400) (Or.inl ⟨rfl, rfl⟩) s2 (EvX_k ev s2.1.2.1) bd rfl (by omega) hy (Or.inr ⟨r, rfl, trivial⟩) (fun τ3 ret3 n3 n4 r1 ll hz _ s3 xk sg ln lt lv tg => ?_)
      cases hz
      have go3 := tk_go s3.1.1
      have tm3 := TgM_k tm s3.1.2.1 ht
      have m3 := s3.1.1.2.2.1.2.1
      have j2 : L.1 1 + 2 = nI (t0 + 2) := by rw [l1]; exact n_add (q := 2) (by omega)
      have k3 : τ3.2.2.1 41 (nI (t0 + 2)).toNatClampNeg = nI (wdN ks) := by rw [n_cl (by omega)]; exact tm3.1.2.2.1
      rw [j2]
      refine Tm_chk (n_in (n := sN τ3 41) (by omega) (by omega)) ?_
      rw [k3, n_add1]
      have s3' : Sy T n b u al σ tb.length sz mk (0 + n1 + n3) (0 + n2 + n4) tb o r.1 r.2.1 mk 0 sz ll τ3 := s3
      refine st_emitT (op := 176) (D := wdN ks + 1) s3' u42 tm3 ht hg tv.2.2 (by decide) (by omega) rfl l1 rfl (fun τ4 ret4 n5 n6 s4 xk4 => ?_)
      refine Tm_oP (Sy_pp s4) ?_
      have lr : (ll ++ rwL (176 + g) s (wdN ks + 1) ks).length = ll.length + (ks.length + 3) := by rw [List.length_append, rwL_l]
      refine st_emit (op := 39) s4 rfl rfl (by rw [lr]; omega) (fun τ5 n7 n8 s5 => ?_)
      refine Tm_oP (Sy_pp s5) ?_
      have lr5 : ∀ w : Int32, (ll ++ rwL (176 + g) s (wdN ks + 1) ks ++ [w]).length = ll.length + (ks.length + 3) + 1 := fun w => by rw [List.length_append, lr]; rfl
      have tm5 := TgM_k tm s5.1.2.1 ht
      have b2 : ∀ (L' : LV) (op : Nat), L'.1 1 = nI t0 → L'.1 100 = nI op → L'.2.2.1 101 = b → 128 ≤ op ∧ op < 144 → Tm (fun k => f_X5_operation k 2 L' τ5) (QPo b u tb.length sz mk (mF (fun r => (r.1, r.2.1)) (Sum.inr r)) (fun r _ τ => AsR T n b u al gl Pc Vm tb o mk sz q v (wdN ks) (4 * ks.length + 13) r τ ∧ q + 3 ≤ r.1) σ (0 + n1 + n3 + n5 + n7) (0 + n2 + n4 + n6 + n8)) := by
        intro L' op i1 i100 i101 hop
        have i2 : L'.1 1 + 2 = nI (t0 + 2) := by rw [i1]; exact n_add (q := 2) (by omega)
        refine Tm_suc (fun k => by rw [f_X5_operation]) ?_
        refine st_emit (op := op) s5 i101 i100 (by rw [lr5]; omega) (fun τ6 n9 n10' s6 => ?_)
        have tm6 := TgM_k tm s6.1.2.1 ht
        have m6 := s6.1.1.2.2.1.2.1
        have k6 : τ6.2.2.1 41 (nI (t0 + 2)).toNatClampNeg = nI (wdN ks) := by rw [n_cl (by omega)]; exact tm6.1.2.2.1
        rw [i2]
        refine Tm_chk (n_in (n := sN τ6 41) (by omega) (by omega)) ?_
        rw [k6, n_add1]
        have lr6 : ∀ w0 w : Int32, (ll ++ rwL (176 + g) s (wdN ks + 1) ks ++ [w0] ++ [w]).length = ll.length + (ks.length + 3) + 2 := fun w0 w => by rw [List.length_append, lr5]; rfl
        refine st_emitT (op := 192) (D := wdN ks + 1) s6 u42 tm6 ht hg tv.2.2 (by decide) (by rw [lr6]; omega) rfl i1 rfl (fun τ7 ret7 n11 n12 s7 xk7 => ?_)
        refine Tm_oP (Sy_pp s7) ?_
        have tm7 := TgM_k tm6 xk7 ht
        have m7 := s7.1.1.2.2.1.2.1
        have k7 : τ7.2.2.1 41 (nI (t0 + 2)).toNatClampNeg = nI (wdN ks) := by rw [n_cl (by omega)]; exact tm7.1.2.2.1
        refine Tm_chk (n_in (n := sN τ7 41) (by omega) (by omega)) ?_
        rw [k7, n_add1]
        have lr7 : ∀ w0 w : Int32, (ll ++ rwL (176 + g) s (wdN ks + 1) ks ++ [w0] ++ [w] ++ rwL (192 + g) s (wdN ks + 1) ks).length = ll.length + (ks.length + 3) + 2 + (ks.length + 3) := fun w0 w => by rw [List.length_append, lr6, rwL_l]
        refine st_emit (op := 37) s7 rfl rfl (by rw [lr7]; omega) (fun τ8 n13 n14 s8 => ?_)
        have ea : ll ++ rwL (176 + g) s (wdN ks + 1) ks ++ [em 39 0] ++ [em op 0] ++ rwL (192 + g) s (wdN ks + 1) ks ++ [em 37 (nI (wdN ks + 1))] = ll ++ (rwL (176 + g) s (wdN ks + 1) ks ++ ([em 39 0] ++ ([em op 0] ++ (rwL (192 + g) s (wdN ks + 1) ks ++ [em 37 (nI (wdN ks + 1))])))) := by simp only [List.append_assoc]
        have s8' : Sy T n b u al σ tb.length sz mk (0 + n1 + n3 + n5 + n7 + n9 + n11 + n13) (0 + n2 + n4 + n6 + n8 + n10' + n12 + n14) tb o r.1 r.2.1 mk 0 sz (ll ++ (rwL (176 + g) s (wdN ks + 1) ks ++ ([em 39 0] ++ ([em op 0] ++ (rwL (192 + g) s (wdN ks + 1) ks ++ [em 37 (nI (wdN ks + 1))]))))) τ8 := by
          rw [← ea]; exact s8
        have lf : (ll ++ (rwL (176 + g) s (wdN ks + 1) ks ++ ([em 39 0] ++ ([em op 0] ++ (rwL (192 + g) s (wdN ks + 1) ks ++ [em 37 (nI (wdN ks + 1))]))))).length = ll.length + 2 * ks.length + 9 := by rw [← ea, List.length_append, lr7]; show ll.length + (ks.length + 3) + 2 + (ks.length + 3) + 1 = _; omega
        have ty : Sse u gl Pc Vm [] 0 (wdN ks) 0 (ll ++ (rwL (176 + g) s (wdN ks + 1) ks ++ ([em 39 0] ++ ([em op 0] ++ (rwL (192 + g) s (wdN ks + 1) ks ++ [em 37 (nI (wdN ks + 1))]))))) := Sse_seq (Sst_sg sg (wdN ks)) (Sse_op tv hg gl1 ko kl hop) (by have := sg.1; omega)
        refine Tm_some (Qfin s8'.1 ⟨⟨_, s8'.1.1, s8'.2, ty, ?_, ?_, lv⟩, by show q + 3 ≤ r.1; omega⟩)
        · rw [lf]
          show 2 * (ll.length + 2 * ks.length + 9) ≤ 3 * (r.1 - q) + (4 * ks.length + 13)
          omega
        · show q < r.1
          omega
      rcases hk with hk | hk | hk
      · refine Tm_yes (by show L.1 2 = 6; rw [l2, hk]; rfl) ?_
        exact b2 _ 128 l1 rfl rfl (by decide)
      · refine Tm_no (by show ¬ L.1 2 = 6; rw [l2, hk]; decide) ?_
        refine Tm_suc (fun k => by rw [f_X5_operation]) ?_
        refine Tm_yes (by show L.1 2 = 7; rw [l2, hk]; rfl) ?_
        exact b2 _ 129 l1 rfl rfl (by decide)
      · refine Tm_no (by show ¬ L.1 2 = 6; rw [l2, hk]; decide) ?_
        refine Tm_suc (fun k => by rw [f_X5_operation]) ?_
        refine Tm_no (by show ¬ L.1 2 = 7; rw [l2, hk]; decide) ?_
        refine Tm_suc (fun k => by rw [f_X5_operation]) ?_
        exact b2 _ 130 l1 rfl rfl (by decide)
  exact key x w4
theorem set_mid {x y w : Int32} {W : List Int32} : ∀ A : List Int32, (A ++ x :: y :: W).set (A.length + 1) w = A ++ x :: w :: W
  | [] => rfl
  | a :: A => congrArg (fun l => a :: l) (set_mid A)
/-- what is taken of one target goes into another -/
theorem Sse_tk (tv : TgV u gl Vm s ow) (hg : g = if ow = u then 0 else 1) (tv1 : TgV u gl Vm s1 ow1) (hg1 : g1 = if ow1 = u then 0 else 1) (h1 : gl.1 ≤ 1000) (ko : kOK ks) (kl : ks.length ≤ 30000) (ko1 : kOK ks1) (kl1 : ks1.length ≤ 30000) (hw : way < 1000) : Sse u gl Pc Vm [] 0 (wdN ks + wdN ks1) 0 (rwL (176 + g1) s1 (wdN ks1) ks1 ++ ((em 101 (nI way) :: nI (2 + (rwL (192 + g1) s1 (wdN ks1 + 2) ks1).length) :: rwL (192 + g1) s1 (wdN ks1 + 2) ks1) ++ ([em 37 (nI 1)] ++ (rwL (192 + g) s (wdN ks + wdN ks1 + 1) ks ++ [em 37 (nI (wdN ks + wdN ks1 + 1))])))) := by
  have wb := wdN_b ks
  have wb1 := wdN_b ks1
  have k1 : Sst u gl Pc Vm [] 0 (wdN ks + wdN ks1) (wdN ks + wdN ks1 + 1) (rwL (176 + g1) s1 (wdN ks1) ks1) := Sst_i (Is_rd (tgO_of tv1 hg1 h1) (kOK_b ko1) (Nat.le_refl _) (fun w ms => tpv_0 (by omega)) (by omega)) (by rw [rwL_l]; omega) (by rw [rwL_l]; omega)
  have k2 : Sst u gl Pc Vm [] 0 (wdN ks + wdN ks1 + 1 + 1) (wdN ks + wdN ks1 + 1 + 1) (rwL (192 + g1) s1 (wdN ks1 + 2) ks1) := Sst_i (Is_wr (tgO_of tv1 hg1 h1) (kOK_b ko1) (by omega) (fun w ms => tpv_0 (by omega)) (by omega) (by omega)) (by rw [rwL_l]; omega) (by omega)
  have k3 := Sst_tk (way := way) (m := wdN ks + wdN ks1 + 1) (by omega) hw k2 (by rw [rwL_l]; omega)
  have k4 : Sst u gl Pc Vm [] 0 (wdN ks + wdN ks1 + 1 + 1) (wdN ks + wdN ks1 + 1) [em 37 (nI 1)] := Sst_i (Is_dr (k := 1) (n := wdN ks + wdN ks1 + 1) (by decide)) (Nat.le_refl _) (by omega)
  have k5 : Sst u gl Pc Vm [] 0 (wdN ks + wdN ks1 + 1) (wdN ks + wdN ks1 + 1) (rwL (192 + g) s (wdN ks + wdN ks1 + 1) ks) := Sst_i (Is_wr (tgO_of tv hg h1) (kOK_b ko) (by omega) (fun w ms => tpv_0 (Nat.le_refl _)) (by omega) (by omega)) (by rw [rwL_l]; omega) (by omega)
  have k6 : Sse u gl Pc Vm [] 0 (wdN ks + wdN ks1 + 1) 0 [em 37 (nI (wdN ks + wdN ks1 + 1))] := by
    have z := Sse_i (pre := []) (Is_dr (u := u) (gl := gl) (Pc := Pc) (Vm := Vm) (pre := []) (n := 0) (k := wdN ks + wdN ks1 + 1) (by omega)) (by show 1 ≤ 1; decide) (by omega)
    rw [show 0 + (wdN ks + wdN ks1 + 1) = wdN ks + wdN ks1 + 1 by omega] at z
    exact z
  have z5 := Sse_seq k5 k6 (by omega)
  have z4 := Sse_seq k4 z5 (by omega)
  have z3 := Sse_seq k3 z4 (by rw [List.length_cons]; omega)
  exact Sse_seq k1 z3 (by rw [rwL_l]; omega)
theorem c_taking (h : QS T n b u al tb o q v mk 0 sz σ) (u42 : u < 42) (gl1 : gl.1 ≤ 1000) (hs2 : sz + ks.length + 2 * ks1.length + 30 ≤ 36864) (tm : TgM σ t0 s ow ks) (ht : t0 + 4 + ks.length ≤ mk) (tv : TgV u gl Vm s ow) (ko : kOK ks) (kl : ks.length ≤ 30000) (tm1 : TgM σ t1 s1 ow1 ks1) (ht1 : t1 + 4 + ks1.length ≤ mk) (tv1 : TgV u gl Vm s1 ow1) (ko1 : kOK ks1) (kl1 : ks1.length ≤ 30000) (hw : way < 1000) (l1 : L.1 1 = nI t0) (l2 : L.1 2 = nI t1) (l3 : L.1 3 = nI way) : Tm (fun k => f_X5_taking k 0 L σ) (QPo b u tb.length sz mk (Sum.inr ()) (fun _ _ τ => ∃ ll : List Int32, QS T n b u al tb o q v mk 0 (sz + ll.length) τ ∧ (∀ i, i < ll.length → cdr b τ (sz + i) = ll.getD i 0) ∧ Sse u gl Pc Vm [] 0 (wdN ks + wdN ks1) 0 ll ∧ ll.length = ks.length + 2 * ks1.length + 13) σ 0 0) := by
  have s0 := Sy_0 h
  have sn := h.2.2.1
  have sn1 := sn.2.1
  have sn2 := sn.2.2
  have wb := wdN_b ks
  have wb1 := wdN_b ks1
  obtain ⟨g, hg⟩ : ∃ g, g = if ow = u then 0 else 1 := ⟨_, rfl⟩
  obtain ⟨g1, hg1⟩ : ∃ g, g = if ow1 = u then 0 else 1 := ⟨_, rfl⟩
  have j1 : L.1 1 + 2 = nI (t0 + 2) := by rw [l1]; exact n_add (q := 2) (by omega)
  have j2 : L.1 2 + 2 = nI (t1 + 2) := by rw [l2]; exact n_add (q := 2) (by omega)
  have k1 : σ.2.2.1 41 (nI (t0 + 2)).toNatClampNeg = nI (wdN ks) := by rw [n_cl (by omega)]; exact tm.1.2.2.1
  have k2 : σ.2.2.1 41 (nI (t1 + 2)).toNatClampNeg = nI (wdN ks1) := by rw [n_cl (by omega)]; exact tm1.1.2.2.1
  have ea2 : nI (wdN ks1) + 2 = nI (wdN ks1 + 2) := n_add (q := 2) (by omega)
  refine Tm_suc (fun k => by rw [f_X5_taking]) ?_
  rw [j1, j2]
  refine Tm_chk (n_in (by omega) (by omega)) (Tm_chk (n_in (by omega) (by omega)) ?_)
  rw [k1, k2, ea2, n_add (by omega), n_add1]
  refine st_emitT (op := 176) (D := wdN ks1) s0 u42 tm1 ht1 hg1 tv1.2.2 (by decide) (by show sz + 0 + 3 + _ ≤ _; omega) rfl l2 rfl (fun τ1 ret1 n1 n2 s1' xk1 => ?_)
  have lA : (rwL (176 + g1) s1 (wdN ks1) ks1).length = ks1.length + 3 := rwL_l
  have s1'' : Sy T n b u al σ tb.length sz mk (0 + n1) (0 + n2) tb o q v mk 0 sz (rwL (176 + g1) s1 (wdN ks1) ks1) τ1 := s1'
  generalize hA : rwL (176 + g1) s1 (wdN ks1) ks1 = A at *
  refine Tm_oP (Sy_pp s1'') ?_
  refine st_emit (op := 101) s1'' rfl rfl (by omega) (fun τ2 n3 n4 s2 => ?_)
  have lA1 : ∀ w : Int32, (A ++ [w]).length = A.length + 1 := fun w => by rw [List.length_append]; rfl
  refine Tm_oP (Sy_pp s2) ?_
  refine st_word s2 rfl (by rw [lA1]; omega) (fun τ3 n5 n6 s3 => ?_)
  have lA2 : ∀ w w' : Int32, (A ++ [w] ++ [w']).length = A.length + 2 := fun w w' => by rw [List.length_append, lA1]; rfl
  have tm13 := TgM_k tm1 s3.1.2.1 ht1
  refine st_emitT (op := 192) (D := wdN ks1 + 2) s3 u42 tm13 ht1 hg1 tv1.2.2 (by decide) (by rw [lA2]; omega) rfl l2 rfl (fun τ4 ret4 n7 n8 s4 xk4 => ?_)
  have lW : (rwL (192 + g1) s1 (wdN ks1 + 2) ks1).length = ks1.length + 3 := rwL_l
  generalize hW : rwL (192 + g1) s1 (wdN ks1 + 2) ks1 = W at *
  have e4 : A ++ [em 101 (L.1 3)] ++ [(0 : Int32)] ++ W = A ++ em 101 (L.1 3) :: 0 :: W := by simp only [List.append_assoc]; rfl
  have s4' : Sy T n b u al σ tb.length sz mk (0 + n1 + n3 + n5 + n7) (0 + n2 + n4 + n6 + n8) tb o q v mk 0 sz (A ++ em 101 (L.1 3) :: 0 :: W) τ4 := by rw [← e4]; exact s4
  have l4 : (A ++ em 101 (L.1 3) :: 0 :: W).length = A.length + W.length + 2 := by rw [List.length_append, List.length_cons, List.length_cons]; omega
  refine Tm_oP (Sy_pp s4') (Tm_oP (Sy_pp s4') ?_)
  have le := s4'.1.1.2.1.2.1
  have n36 := cdn_b s4'.1.1
  rw [l4] at le
  have en : nI (sz + A.length) + 1 = nI (sz + (A.length + 1)) := by rw [n_add1]; rfl
  have es : τ4.1 (fP b 1) = nI (sz + (A.length + W.length + 2)) := by have z := s4'.1.1.2.1.1; rw [l4] at z; exact z
  refine Tm_chk (by show ¬ (nI (sz + A.length) + 1 < 0 ∨ _ ≤ (nI (sz + A.length) + 1).toNatClampNeg); rw [en]; exact n_in (by omega) (by show sz + (A.length + 1) < cdn b τ4; omega)) ?_
  have ew : τ4.1 (fP b 1) - nI (sz + A.length) = nI (2 + W.length) := by
    rw [es, n_sub (by omega) (by omega)]
    exact congrArg nI (by omega)
  have ex : (nI (sz + A.length) + 1).toNatClampNeg = sz + (A.length + 1) := by rw [en, n_cl (by omega)]
  have s5 := Sy_set (h := A.length + 1) s4' (Nat.le_refl _) (by rw [l4]; omega) (nI (2 + W.length))
  rw [set_mid] at s5
  have eU : uA τ4 (pR0 (sKd τ4 b)) (nI (sz + A.length) + 1).toNatClampNeg (τ4.1 (fP b 1) - nI (sz + A.length)) = uA τ4 (pR0 (sKd τ4 b)) (sz + (A.length + 1)) (nI (2 + W.length)) := by rw [ex, ew]
  show Tm (fun k => oP (sPp (uA τ4 (pR0 (sKd τ4 b)) (nI (sz + A.length) + 1).toNatClampNeg (τ4.1 (fP b 1) - nI (sz + A.length)))) (fun b12 => ox (f_X7_emit__P k 0 (lI (lI (lB lZ 0 b12) 1 37) 2 1) (uA τ4 (pR0 (sKd τ4 b)) (nI (sz + A.length) + 1).toNatClampNeg (τ4.1 (fP b 1) - nI (sz + A.length)))) _)) _
  rw [eU]
  refine Tm_oP (Sy_pp s5) ?_
  have l5 : (A ++ em 101 (L.1 3) :: nI (2 + W.length) :: W).length = A.length + W.length + 2 := by rw [List.length_append, List.length_cons, List.length_cons]; omega
  refine st_emit (op := 37) s5 rfl rfl (by rw [l5]; omega) (fun τ6 n9 n10 s6 => ?_)
  have l6 : ∀ w : Int32, (A ++ em 101 (L.1 3) :: nI (2 + W.length) :: W ++ [w]).length = A.length + W.length + 3 := fun w => by rw [List.length_append, l5]; rfl
  have tm6 := TgM_k tm s6.1.2.1 ht
  refine st_emitT (op := 192) (D := wdN ks + wdN ks1 + 1) s6 u42 tm6 ht hg tv.2.2 (by decide) (by rw [l6]; omega) rfl l1 rfl (fun τ7 ret7 n11 n12 s7 xk7 => ?_)
  refine Tm_oP (Sy_pp s7) ?_
  have l7 : ∀ w : Int32, (A ++ em 101 (L.1 3) :: nI (2 + W.length) :: W ++ [w] ++ rwL (192 + g) s (wdN ks + wdN ks1 + 1) ks).length = A.length + W.length + 3 + (ks.length + 3) := fun w => by rw [List.length_append, l6, rwL_l]
  refine st_emit (op := 37) s7 rfl rfl (by rw [l7]; omega) (fun τ8 n13 n14 s8 => ?_)
  have ea : A ++ em 101 (L.1 3) :: nI (2 + W.length) :: W ++ [em 37 1] ++ rwL (192 + g) s (wdN ks + wdN ks1 + 1) ks ++ [em 37 (nI (wdN ks + wdN ks1 + 1))] = A ++ ((em 101 (nI way) :: nI (2 + W.length) :: W) ++ ([em 37 (nI 1)] ++ (rwL (192 + g) s (wdN ks + wdN ks1 + 1) ks ++ [em 37 (nI (wdN ks + wdN ks1 + 1))]))) := by rw [l3]; simp only [List.append_assoc]; rfl
  have s8' : Sy T n b u al σ tb.length sz mk (0 + n1 + n3 + n5 + n7 + n9 + n11 + n13) (0 + n2 + n4 + n6 + n8 + n10 + n12 + n14) tb o q v mk 0 sz (A ++ ((em 101 (nI way) :: nI (2 + W.length) :: W) ++ ([em 37 (nI 1)] ++ (rwL (192 + g) s (wdN ks + wdN ks1 + 1) ks ++ [em 37 (nI (wdN ks + wdN ks1 + 1))])))) τ8 := by
    rw [← ea]; exact s8
  have ty := Sse_tk (Pc := Pc) (way := way) tv hg tv1 hg1 gl1 ko kl ko1 kl1 hw
  rw [hA, hW] at ty
  refine Tm_some (Qfin s8'.1 ⟨_, s8'.1.1, s8'.2, ty, ?_⟩)
  rw [← ea, List.length_append, l7]
  show A.length + W.length + 3 + (ks.length + 3) + 1 = _
  omega
end CXE
end JnS489
section JnS490
/-! The class: tuples of targets are read. -/
section CXF
variable {σ σ' σ0 τ τ' : CS} {L : LV} {b : Bool} {T : Nat → Int32} {n q q' u al o v mk mk' p sz szB nc0 sz0 mk0 a1 a2 m kk f e s ow a t0 g D op : Nat} {y : Int32} {l l' cs cs' ll : List Int32} {tb : List Ent} {E : En} {gl : Nat × (Nat → Nat → Prop)} {Vm : Nat → Prop} {Pc : Nat → Nat → Prop} {bt : BT} {ks : List Nat}
/-- a hole of a tuple: nothing, or a target's slot, unit, parts -/
abbrev Hol := Option (Nat × Nat × List Nat)
def hoN : List Hol → Nat
  | [] => 0
  | none :: r => 4 + hoN r
  | some z :: r => 4 + z.2.2.length + hoN r
def hoV : List Hol → Nat
  | [] => 0
  | none :: r => hoV r
  | some z :: r => wdN z.2.2 + hoV r
def hoK : List Hol → Nat
  | [] => 0
  | none :: r => hoK r
  | some z :: r => z.2.2.length + 5 + hoK r
def hoM (τ : CS) : Nat → List Hol → Prop
  | _, [] => True
  | at_, none :: r => (τ.2.2.1 41 at_ = -1 ∧ τ.2.2.1 41 (at_ + 2) = 0 ∧ τ.2.2.1 41 (at_ + 3) = 0) ∧ hoM τ (at_ + 4) r
  | at_, some z :: r => TgM τ at_ z.1 z.2.1 z.2.2 ∧ hoM τ (at_ + 4 + z.2.2.length) r
def hoG (u : Nat) (gl : Nat × (Nat → Nat → Prop)) (Vm : Nat → Prop) : List Hol → Prop
  | [] => True
  | none :: r => hoG u gl Vm r
  | some z :: r => (TgV u gl Vm z.1 z.2.1 ∧ kOK z.2.2 ∧ z.2.2.length ≤ 30000 ∧ z.1 < 1000) ∧ hoG u gl Vm r
def hoU (u : Nat) : List Hol → List (Option (Nat × Nat × List Nat))
  | [] => []
  | none :: r => none :: hoU u r
  | some z :: r => some (if z.2.1 = u then 0 else 1, z.1, z.2.2) :: hoU u r
theorem hoU_l : ∀ hs : List Hol, (hoU u hs).length = hs.length
  | [] => rfl
  | none :: r => congrArg (fun z => z + 1) (hoU_l r)
  | some z :: r => congrArg (fun z => z + 1) (hoU_l r)
theorem hoN_ap : ∀ (hs hr : List Hol), hoN (hs ++ hr) = hoN hs + hoN hr
  | [], hr => (Nat.zero_add _).symm
  | none :: r, hr => by show 4 + hoN (r ++ hr) = 4 + hoN r + hoN hr; rw [hoN_ap r hr]; omega
  | some z :: r, hr => by show 4 + z.2.2.length + hoN (r ++ hr) = 4 + z.2.2.length + hoN r + hoN hr; rw [hoN_ap r hr]; omega
theorem hoV_ap : ∀ (hs hr : List Hol), hoV (hs ++ hr) = hoV hs + hoV hr
  | [], hr => (Nat.zero_add _).symm
  | none :: r, hr => hoV_ap r hr
  | some z :: r, hr => by show wdN z.2.2 + hoV (r ++ hr) = wdN z.2.2 + hoV r + hoV hr; rw [hoV_ap r hr]; omega
theorem hoK_ap : ∀ (hs hr : List Hol), hoK (hs ++ hr) = hoK hs + hoK hr
  | [], hr => (Nat.zero_add _).symm
  | none :: r, hr => hoK_ap r hr
  | some z :: r, hr => by show z.2.2.length + 5 + hoK (r ++ hr) = z.2.2.length + 5 + hoK r + hoK hr; rw [hoK_ap r hr]; omega
theorem hoM_ap : ∀ (hs hr : List Hol) (at_ : Nat), hoM τ at_ hs → hoM τ (at_ + hoN hs) hr → hoM τ at_ (hs ++ hr)
  | [], hr, at_, _, h => h
  | none :: r, hr, at_, h, k => ⟨h.1, hoM_ap r hr (at_ + 4) h.2 (by rw [Nat.add_assoc]; exact k)⟩
  | some z :: r, hr, at_, h, k => ⟨h.1, hoM_ap r hr (at_ + 4 + z.2.2.length) h.2 (by rw [show at_ + 4 + z.2.2.length + hoN r = at_ + (4 + z.2.2.length + hoN r) by omega]; exact k)⟩
theorem hoG_ap : ∀ (hs hr : List Hol), hoG u gl Vm hs → hoG u gl Vm hr → hoG u gl Vm (hs ++ hr)
  | [], hr, _, h => h
  | none :: r, hr, h, k => hoG_ap r hr h k
  | some z :: r, hr, h, k => ⟨h.1, hoG_ap r hr h.2 k⟩
theorem hoM_k {mk' nc' sz' : Nat} (x : XK b u nc' sz' mk' τ τ') : ∀ (hs : List Hol) (at_ : Nat), hoM τ at_ hs → at_ + hoN hs ≤ mk' → hoM τ' at_ hs
  | [], _, _, _ => trivial
  | none :: r, at_, h, hm => by
    have hm' : at_ + (4 + hoN r) ≤ mk' := hm
    have z := x.2.2.2.2.2.2.1
    exact ⟨⟨by rw [z _ (by omega)]; exact h.1.1, by rw [z _ (by omega)]; exact h.1.2.1, by rw [z _ (by omega)]; exact h.1.2.2⟩, hoM_k x r (at_ + 4) h.2 (by omega)⟩
  | some z :: r, at_, h, hm => by
    have hm' : at_ + (4 + z.2.2.length + hoN r) ≤ mk' := hm
    exact ⟨TgM_k h.1 x (by omega), hoM_k x r (at_ + 4 + z.2.2.length) h.2 (by omega)⟩
theorem hoO_of (gl1 : gl.1 ≤ 1000) : ∀ (hs : List Hol) (bl : Nat), hoG u gl Vm hs → hoV hs ≤ bl → hoO gl Vm bl (hoU u hs)
  | [], _, _, _ => trivial
  | none :: r, bl, h, k => hoO_of gl1 r bl h k
  | some z :: r, bl, h, k => by
    have k' : wdN z.2.2 + hoV r ≤ bl := k
    exact ⟨⟨tgO_of h.1.1 rfl gl1, kOK_b h.1.2.1, by show wdN z.2.2 ≤ bl; omega⟩, hoO_of gl1 r (bl - wdN z.2.2) h.2 (by omega)⟩
theorem hoC_l : ∀ (hs : List Hol) (i bl : Nat), (hoC i bl (hoU u hs)).length = hoK hs
  | [], _, _ => rfl
  | none :: r, i, bl => hoC_l r (i + 1) bl
  | some z :: r, i, bl => by
    show ([em 99 (nI i)] ++ (rwL (192 + (if z.2.1 = u then 0 else 1)) z.1 (bl + 2) z.2.2 ++ ([em 37 (nI 1)] ++ hoC (i + 1) (bl - wdN z.2.2) (hoU u r)))).length = z.2.2.length + 5 + hoK r
    rw [List.length_append, List.length_append, List.length_append, rwL_l, hoC_l r]
    show 1 + (z.2.2.length + 3 + (1 + hoK r)) = _
    omega
theorem c_whL {vt N : Nat} (u42 : u < 42) (hvt : vt ≤ 90000) (hN : N ≤ 30000) : ∀ (hr : List Hol) (i bl at_ : Nat) (L' : LV) (τ : CS) (a1 a2 : Nat) (cs : List Int32), hoM σ at_ hr → hoG u gl Vm hr → hoV hr ≤ bl → bl ≤ 90000 → at_ + hoN hr ≤ mk → i + hr.length = N → L'.1 2 = nI N → L'.1 3 = nI vt → L'.1 4 = nI bl → L'.1 5 = nI at_ → L'.1 6 = nI i → Sy T n b u al σ nc0 sz0 mk a1 a2 tb o q v mk p szB cs τ → szB + cs.length + hoK hr + 1 ≤ 36864 → Tm (fun k => f_X5_writeHoles k 1 L' τ) (QPo b u nc0 sz0 mk (Sum.inr ()) (fun _ _ τ => QS T n b u al tb o q v mk p (szB + (cs ++ (hoC i bl (hoU u hr) ++ [em 37 (nI (vt + 1))])).length) τ ∧ (∀ i', i' < (cs ++ (hoC i bl (hoU u hr) ++ [em 37 (nI (vt + 1))])).length → cdr b τ (szB + i') = (cs ++ (hoC i bl (hoU u hr) ++ [em 37 (nI (vt + 1))])).getD i' 0)) σ a1 a2) := by
  intro hr
  induction hr with
  | nil =>
    intro i bl at_ L' τ a1 a2 cs hm hg hv hb ha hi l2 l3 l4 l5 l6 s1 hsz
    have hi' : i = N := hi
    have hsz' : szB + cs.length + 0 + 1 ≤ 36864 := hsz
    refine Tm_suc (fun k => by rw [f_X5_writeHoles]) ?_
    rw [l2, l6]
    refine Tm_yes (by rw [n_le (by omega) (by omega)]; omega) ?_
    refine Tm_suc (fun k => by rw [f_X5_writeHoles]) ?_
    refine Tm_oP (Sy_pp s1) ?_
    rw [l3, n_add1]
    refine st_emit (op := 37) s1 rfl rfl (by omega) (fun τ2 n1 n2 s2 => ?_)
    exact Tm_some (Qfin s2.1 ⟨s2.1.1, s2.2⟩)
  | cons h r ih =>
    intro i bl at_ L' τ a1 a2 cs hm hg hv hb ha hi l2 l3 l4 l5 l6 s1 hsz
    have hi' : i + (r.length + 1) = N := hi
    have sn := s1.1.1.2.2.1
    have sn1 := sn.2.1
    have sn2 := sn.2.2
    -- the next hole
    have b3 : ∀ (L3 : LV) (τ3 : CS) (a3 a4 wd kl bl' : Nat) (cs3 : List Int32), L3.1 2 = nI N → L3.1 3 = nI vt → L3.1 4 = nI bl → L3.1 5 = nI at_ → L3.1 6 = nI i → Sy T n b u al σ nc0 sz0 mk a3 a4 tb o q v mk p szB cs3 τ3 → σ.2.2.1 41 (at_ + 2) = nI wd → σ.2.2.1 41 (at_ + 3) = nI kl → at_ + 4 + kl + hoN r ≤ mk → hoM σ (at_ + 4 + kl) r → hoG u gl Vm r → bl' = bl - wd → wd ≤ bl → hoV r ≤ bl' → szB + cs3.length + hoK r + 1 ≤ 36864 → Tm (fun k => f_X5_writeHoles k 3 L3 τ3) (QPo b u nc0 sz0 mk (Sum.inr ()) (fun _ _ τ => QS T n b u al tb o q v mk p (szB + (cs3 ++ (hoC (i + 1) bl' (hoU u r) ++ [em 37 (nI (vt + 1))])).length) τ ∧ (∀ i', i' < (cs3 ++ (hoC (i + 1) bl' (hoU u r) ++ [em 37 (nI (vt + 1))])).length → cdr b τ (szB + i') = (cs3 ++ (hoC (i + 1) bl' (hoU u r) ++ [em 37 (nI (vt + 1))])).getD i' 0)) σ a3 a4) := by
      intro L3 τ3 a3 a4 wd kl bl' cs3 j2 j3 j4 j5 j6 s3 t2 t3 ha3 hm3 hg3 hbl hwd hv3 hsz3
      have sn3 := s3.1.1.2.2.1
      have sn31 := sn3.2.1
      have x3 := s3.1.2.1.2.2.2.2.2.2.1
      have e52 : L3.1 5 + 2 = nI (at_ + 2) := by rw [j5]; exact n_add (q := 2) (by omega)
      have e53 : L3.1 5 + 3 = nI (at_ + 3) := by rw [j5]; exact n_add (q := 3) (by omega)
      have e54 : L3.1 5 + 4 = nI (at_ + 4) := by rw [j5]; exact n_add (q := 4) (by omega)
      have t2' : τ3.2.2.1 41 (nI (at_ + 2)).toNatClampNeg = nI wd := by rw [n_cl (by omega), x3 _ (by omega)]; exact t2
      have t3' : τ3.2.2.1 41 (nI (at_ + 3)).toNatClampNeg = nI kl := by rw [n_cl (by omega), x3 _ (by omega)]; exact t3
      refine Tm_suc (fun k => by rw [f_X5_writeHoles]) ?_
      rw [e52, e53, e54]
      refine Tm_chk (n_in (by omega) (by omega)) (Tm_chk (n_in (by omega) (by omega)) ?_)
      rw [t2', t3', j4, n_sub (by omega) hwd, n_add (by omega)]
      refine ih (i + 1) bl' (at_ + 4 + kl) _ τ3 a3 a4 cs3 hm3 hg3 hv3 (by omega) ha3 (by omega) j2 j3 (by rw [hbl]; rfl) rfl ?_ s3 hsz3
      show L3.1 6 + 1 = _
      rw [j6, n_add1]
    have x1 := s1.1.2.1.2.2.2.2.2.2.1
    refine Tm_suc (fun k => by rw [f_X5_writeHoles]) ?_
    rw [l2, l6]
    refine Tm_no (by rw [n_le (by omega) (by omega)]; omega) ?_
    cases h with
    | none =>
      have ha' : at_ + (4 + hoN r) ≤ mk := ha
      have hsz' : szB + cs.length + hoK r + 1 ≤ 36864 := hsz
      rw [l5]
      refine Tm_chk (n_in (by omega) (by omega)) ?_
      rw [n_cl (by omega)]
      refine Tm_yes (by rw [x1 _ (by omega)]; exact hm.1.1) ?_
      exact b3 L' τ a1 a2 0 0 bl cs l2 l3 l4 l5 l6 s1 hm.1.2.1 hm.1.2.2 (by omega) hm.2 hg rfl (Nat.zero_le _) hv hsz'
    | some z =>
      have ha' : at_ + (4 + z.2.2.length + hoN r) ≤ mk := ha
      have hv' : wdN z.2.2 + hoV r ≤ bl := hv
      have hsz' : szB + cs.length + (z.2.2.length + 5 + hoK r) + 1 ≤ 36864 := hsz
      obtain ⟨⟨tv, ko, kl, s200⟩, hg2⟩ := hg
      have e42 : nI bl + 2 = nI (bl + 2) := n_add (q := 2) (by omega)
      obtain ⟨g, hgg⟩ : ∃ g, g = if z.2.1 = u then 0 else 1 := ⟨_, rfl⟩
      rw [l5]
      refine Tm_chk (n_in (by omega) (by omega)) ?_
      rw [n_cl (by omega)]
      refine Tm_no (by rw [x1 _ (by omega), hm.1.1.1]; exact n_mn (by omega)) ?_
      refine Tm_oP (Sy_pp s1) ?_
      rw [l4, e42]
      refine st_emit (op := 99) s1 rfl rfl (by omega) (fun τ2 n1 n2 s2 => ?_)
      have lc2 : ∀ w : Int32, (cs ++ [w]).length = cs.length + 1 := fun w => by rw [List.length_append]; rfl
      have tm2 := TgM_k hm.1 s2.1.2.1 (by omega)
      refine st_emitT (op := 192) (D := bl + 2) s2 u42 tm2 (by omega) hgg tv.2.2 (by decide) (by rw [lc2]; omega) rfl rfl rfl (fun τ3 ret3 n3 n4 s3 xk3 => ?_)
      refine Tm_oP (Sy_pp s3) ?_
      have lc3 : ∀ w : Int32, (cs ++ [w] ++ rwL (192 + g) z.1 (bl + 2) z.2.2).length = cs.length + z.2.2.length + 4 := fun w => by rw [List.length_append, lc2, rwL_l]; omega
      refine st_emit (op := 37) s3 rfl rfl (by rw [lc3]; omega) (fun τ4 n5 n6 s4 => ?_)
      have ea : cs ++ [em 99 (nI i)] ++ rwL (192 + g) z.1 (bl + 2) z.2.2 ++ [em 37 1] ++ (hoC (i + 1) (bl - wdN z.2.2) (hoU u r) ++ [em 37 (nI (vt + 1))]) = cs ++ (hoC i bl (hoU u (some z :: r)) ++ [em 37 (nI (vt + 1))]) := by
        rw [hgg]
        show _ = cs ++ (([em 99 (nI i)] ++ (rwL (192 + (if z.2.1 = u then 0 else 1)) z.1 (bl + 2) z.2.2 ++ ([em 37 (nI 1)] ++ hoC (i + 1) (bl - wdN z.2.2) (hoU u r)))) ++ [em 37 (nI (vt + 1))])
        simp only [List.append_assoc]
        rfl
      have lc4 : ∀ w w' : Int32, (cs ++ [w] ++ rwL (192 + g) z.1 (bl + 2) z.2.2 ++ [w']).length = cs.length + z.2.2.length + 5 := fun w w' => by rw [List.length_append, lc3]; rfl
      rw [← ea]
      have s4' : Sy T n b u al σ nc0 sz0 mk (a1 + n1 + n3 + n5) (a2 + n2 + n4 + n6) tb o q v mk p szB (cs ++ [em 99 (nI i)] ++ rwL (192 + g) z.1 (bl + 2) z.2.2 ++ [em 37 1]) τ4 := s4
      exact b3 L' τ4 _ _ (wdN z.2.2) z.2.2.length (bl - wdN z.2.2) _ l2 l3 l4 l5 l6 s4' hm.1.1.2.2.1 hm.1.1.2.2.2 (by omega) hm.2 hg2 rfl (by omega) (by omega) (by rw [lc4]; omega)
end CXF
end JnS490
section JnS491
/-! The class: tuples of targets are read. -/
section CXG
variable {σ σ' σ0 τ τ' : CS} {L : LV} {b : Bool} {T : Nat → Int32} {n q q' u al o v mk mk' p sz szB nc0 sz0 mk0 a1 a2 m kk f e s ow a t0 g D op : Nat} {y : Int32} {l l' cs cs' ll : List Int32} {tb : List Ent} {E : En} {gl : Nat × (Nat → Nat → Prop)} {Vm : Nat → Prop} {Pc : Nat → Nat → Prop} {bt : BT} {ks : List Nat} {α : Type} {S : α → Int32 → CS → Prop} {x : Fl α} {C : Prop}
/-! steps that tell what stays since -/
theorem sx_adv {f : Nat → RS → Option RS} (h : Sy T n b u al σ0 nc0 sz0 mk0 a1 a2 tb o q v mk p szB cs τ) (hx : (tkK T n (tkN T n q) = 0 ∧ x = Sum.inl (1, tkN T n q)) ∨ (¬ tkK T n (tkN T n q) = 0 ∧ C)) (cont : ∀ (τ' : CS) (ret : Int32) (n1 n2 : Nat), C → Sy T n b u al σ0 nc0 sz0 mk0 (a1 + n1) (a2 + n2) tb o (tkN T n q) v mk p szB cs τ' → XK b u tb.length (szB + cs.length) mk τ τ' → Tm (fun k => f k ((0, ret), τ', (n1, n2))) (QPo b u nc0 sz0 mk0 x S σ0 (a1 + n1) (a2 + n2))) : Tm (fun k => ox (f_X2_advance k 0 L τ) (f k)) (QPo b u nc0 sz0 mk0 x S σ0 a1 a2) := by
  rcases hx with ⟨w1, w2⟩ | ⟨w1, c⟩
  · exact st_call (C := True) h.1 (c_advX h.1.1 (Or.inl ⟨w1, rfl⟩)) (Or.inl ⟨_, rfl, w2⟩)
  · exact st_call (C := C) h.1 (c_advX h.1.1 (Or.inr ⟨w1, rfl⟩)) (Or.inr ⟨_, rfl, c, fun τ' ret n1 n2 hq xk hc => cont τ' ret n1 n2 c (Sy_c0 h hq xk hc h.1.2.2.2.1 h.1.2.2.2.2.2) xk⟩)
theorem sx_closes {f : Nat → RS → Option RS} (h : Sy T n b u al σ0 nc0 sz0 mk0 a1 a2 tb (o + 1) q v mk p szB cs τ) (hk : tkV kk) (h1 : L.1 1 = cKd kk) (hx : (¬ (tkK T n q = kk ∧ ¬ tkK T n (tkN T n q) = 0) ∧ x = Sum.inl (wF T n kk q)) ∨ ((tkK T n q = kk ∧ ¬ tkK T n (tkN T n q) = 0) ∧ C)) (cont : ∀ (τ' : CS) (ret : Int32) (n1 n2 : Nat), C → Sy T n b u al σ0 nc0 sz0 mk0 (a1 + n1) (a2 + n2) tb o (tkN T n q) v mk p szB cs τ' → XK b u tb.length (szB + cs.length) mk τ τ' → Tm (fun k => f k ((0, ret), τ', (n1, n2))) (QPo b u nc0 sz0 mk0 x S σ0 (a1 + n1) (a2 + n2))) : Tm (fun k => ox (f_X5_closes k 0 L τ) (f k)) (QPo b u nc0 sz0 mk0 x S σ0 a1 a2) := by
  rcases hx with ⟨w1, w2⟩ | ⟨w1, c⟩
  · exact st_call (C := True) h.1 (c_closesQ h.1.1 hk h1 (Or.inl ⟨w1, rfl⟩)) (Or.inl ⟨_, rfl, w2⟩)
  · exact st_call (C := C) h.1 (c_closesQ h.1.1 hk h1 (Or.inr ⟨w1, rfl⟩)) (Or.inr ⟨_, rfl, c, fun τ' ret n1 n2 hq xk hc => cont τ' ret n1 n2 c (Sy_c0 h hq xk hc h.1.2.2.2.1 h.1.2.2.2.2.2) xk⟩)
theorem sx_expect {f : Nat → RS → Option RS} (h : Sy T n b u al σ0 nc0 sz0 mk0 a1 a2 tb o q v mk p szB cs τ) (hk : tkV kk) (h1 : L.1 1 = cKd kk) (hx : (¬ (tkK T n q = kk ∧ ¬ tkK T n (tkN T n q) = 0) ∧ x = Sum.inl (wF T n kk q)) ∨ ((tkK T n q = kk ∧ ¬ tkK T n (tkN T n q) = 0) ∧ C)) (cont : ∀ (τ' : CS) (ret : Int32) (n1 n2 : Nat), C → Sy T n b u al σ0 nc0 sz0 mk0 (a1 + n1) (a2 + n2) tb o (tkN T n q) v mk p szB cs τ' → XK b u tb.length (szB + cs.length) mk τ τ' → Tm (fun k => f k ((0, ret), τ', (n1, n2))) (QPo b u nc0 sz0 mk0 x S σ0 (a1 + n1) (a2 + n2))) : Tm (fun k => ox (f_X5_expect k 0 L τ) (f k)) (QPo b u nc0 sz0 mk0 x S σ0 a1 a2) := by
  rcases hx with ⟨w1, w2⟩ | ⟨w1, c⟩
  · exact st_call (C := True) h.1 (c_expectQ h.1.1 hk h1 (Or.inl ⟨w1, rfl⟩)) (Or.inl ⟨_, rfl, w2⟩)
  · exact st_call (C := C) h.1 (c_expectQ h.1.1 hk h1 (Or.inr ⟨w1, rfl⟩)) (Or.inr ⟨_, rfl, c, fun τ' ret n1 n2 hq xk hc => cont τ' ret n1 n2 c (Sy_c0 h hq xk hc h.1.2.2.2.1 h.1.2.2.2.2.2) xk⟩)
theorem c_writeHoles {vt N : Nat} {hs : List Hol} (h : QS T n b u al tb o q v mk p sz σ) (u42 : u < 42) (hvt : vt ≤ 90000) (hN : N ≤ 30000) (hm : hoM σ t0 hs) (hg : hoG u gl Vm hs) (hv : hoV hs = vt) (ha : t0 + hoN hs ≤ mk) (hl : hs.length = N) (l1 : L.1 1 = nI t0) (l2 : L.1 2 = nI N) (l3 : L.1 3 = nI vt) (hsz : sz + hoK hs + 2 ≤ 36864) : Tm (fun k => f_X5_writeHoles k 0 L σ) (QPo b u tb.length sz mk (Sum.inr ()) (fun _ _ τ => QS T n b u al tb o q v mk p (sz + ([em 100 0] ++ (hoC 0 vt (hoU u hs) ++ [em 37 (nI (vt + 1))])).length) τ ∧ (∀ i, i < ([em 100 0] ++ (hoC 0 vt (hoU u hs) ++ [em 37 (nI (vt + 1))])).length → cdr b τ (sz + i) = ([em 100 0] ++ (hoC 0 vt (hoU u hs) ++ [em 37 (nI (vt + 1))])).getD i 0)) σ 0 0) := by
  have s0 := Sy_0 h
  refine Tm_suc (fun k => by rw [f_X5_writeHoles]) ?_
  refine Tm_oP (Sy_pp s0) ?_
  refine st_emit (op := 100) s0 rfl rfl (by show sz + 0 + 1 ≤ _; omega) (fun τ1 n1 n2 s1 => ?_)
  have s1' : Sy T n b u al σ tb.length sz mk (0 + n1) (0 + n2) tb o q v mk p sz [em 100 0] τ1 := s1
  exact c_whL (vt := vt) (N := N) u42 hvt hN hs 0 vt t0 _ τ1 _ _ [em 100 0] hm hg (by omega) hvt ha (by omega) l2 l3 l3 l1 rfl s1' (by show sz + 1 + hoK hs + 1 ≤ _; omega)
theorem c_markNo (h : QS T n b u al tb o q v mk p sz σ) (hm : mk + 4 ≤ 21504) : Tm (fun k => f_X5_markNoTarget k 0 L σ) (QPo b u tb.length sz mk (Sum.inr ()) (fun _ _ τ => QS T n b u al tb o q v (mk + 4) p sz τ ∧ τ.2.2.1 41 mk = -1 ∧ τ.2.2.1 41 (mk + 2) = 0 ∧ τ.2.2.1 41 (mk + 3) = 0) σ 0 0) := by
  have s0 := Sy_0 h
  refine Tm_suc (fun k => by rw [f_X5_markNoTarget]) ?_
  refine st_mark s0 (by omega) (fun τ1 m1 m2 s1 k1 w1 => ?_)
  refine st_mark s1 (by omega) (fun τ2 m3 m4 s2 k2 w2 => ?_)
  refine st_mark s2 (by omega) (fun τ3 m5 m6 s3 k3 w3 => ?_)
  refine st_mark s3 (by omega) (fun τ4 m7 m8 s4 k4 w4 => ?_)
  refine Tm_some (Qfin s4.1 ⟨s4.1.1, ?_, ?_, ?_⟩)
  · rw [k4 _ (by omega), k3 _ (by omega), k2 _ (by omega)]; exact w1
  · rw [k4 _ (by omega)]; exact w3
  · exact w4
/-- a tuple of targets and its exp -/
def gPa0 (T : Nat → Int32) (n f : Nat) (E : En) (o q v : Nat) (b : BT) : RG := gO o q (gT T n q (fun q1 => gb (GPt T n E f (o + 1) q1 v 0 0 b) (fun r => gW T n 11 r.1 (fun q2 => gW T n 1 q2 (fun q3 => G T n f 0 E o q3 r.2.1 0 0 0 0 r.2.2.2.2.1)))))
theorem gPa_0 {x : Fl RT} (h : gPa T n f E o q v bt = some x) : ∃ z, gPa0 T n f E o q v bt = some z ∧ Sem T n x (mF (fun r => (r.1, r.2.1)) z) := by
  unfold gPa at h
  unfold gPa0
  rcases gO_any h with ⟨w1, w2⟩ | ⟨w1, w2⟩
  · exact ⟨Sum.inl (3, q), by unfold gO; rw [if_pos w1], Or.inl ⟨_, rfl, w2⟩⟩
  unfold gO
  rw [if_neg w1]
  rcases gT_any w2 with ⟨w3, w4⟩ | ⟨w3, w4⟩
  · exact ⟨Sum.inl (1, tkN T n q), by unfold gT; rw [if_pos w3], Or.inl ⟨_, rfl, w4⟩⟩
  unfold gT
  rw [if_neg w3]
  show ∃ z, gb (GPt T n E f (o + 1) (tkN T n q) v 0 0 bt) (fun r => gW T n 11 r.1 (fun q2 => gW T n 1 q2 (fun q3 => G T n f 0 E o q3 r.2.1 0 0 0 0 r.2.2.2.2.1))) = some z ∧ _
  rcases gb_any w4 with ⟨yf, w5, w6⟩ | ⟨r, w5, w6⟩
  · exact ⟨Sum.inl yf, by rw [w5]; rfl, Or.inl ⟨_, rfl, w6⟩⟩
  rw [w5]
  show ∃ z, gW T n 11 r.1 (fun q2 => gW T n 1 q2 (fun q3 => G T n f 0 E o q3 r.2.1 0 0 0 0 r.2.2.2.2.1)) = some z ∧ _
  have gw : ∀ (t q0 : Nat) (k : Nat → RG), ¬ (tkK T n q0 = t ∧ ¬ tkK T n (tkN T n q0) = 0) → gW T n t q0 k = some (Sum.inl (wF T n t q0)) := by
    intro t q0 k hn
    unfold gW gT
    by_cases c1 : tkK T n q0 = t
    · rw [if_pos c1, wF_y c1]
      by_cases c2 : tkK T n (tkN T n q0) = 0
      · rw [if_pos c2]
      · exact absurd ⟨c1, c2⟩ hn
    · rw [if_neg c1, wF_n c1]
  have gw2 : ∀ (t q0 : Nat) (k : Nat → RG), (tkK T n q0 = t ∧ ¬ tkK T n (tkN T n q0) = 0) → gW T n t q0 k = k (tkN T n q0) := by
    intro t q0 k hn
    unfold gW gT
    rw [if_pos hn.1, if_neg hn.2]
  rcases gW_any w6 with ⟨w7, w8⟩ | ⟨w7, w8⟩
  · exact ⟨Sum.inl (wF T n 11 r.1), gw _ _ _ w7, Or.inl ⟨_, rfl, w8⟩⟩
  rw [gw2 _ _ _ w7]
  rcases gW_any w8 with ⟨w9, wa⟩ | ⟨w9, wa⟩
  · exact ⟨Sum.inl (wF T n 1 (tkN T n r.1)), gw _ _ _ w9, Or.inl ⟨_, rfl, wa⟩⟩
  rw [gw2 _ _ _ w9]
  rcases gb_any wa with ⟨yf, wb, wc⟩ | ⟨s, wb, wc⟩
  · exact ⟨Sum.inl yf, wb, Or.inl ⟨_, rfl, wc⟩⟩
  · exact ⟨Sum.inr s, wb, Or.inr ⟨_, _, _, rfl, wc⟩⟩
/-- behind a simple statement, before its ; -/
def SqR (T : Nat → Int32) (n : Nat) (b : Bool) (u al : Nat) (gl : Nat × (Nat → Nat → Prop)) (Pc : Nat → Nat → Prop) (Vm : Nat → Prop) (tb : List Ent) (o mk sz q v : Nat) (r : Nat × Nat) (τ : CS) : Prop := ∃ (ll : List Int32) (x : Nat), QS T n b u al tb o r.1 r.2 mk 0 (sz + ll.length) τ ∧ (∀ i, i < ll.length → cdr b τ (sz + i) = ll.getD i 0) ∧ (Sse u gl Pc Vm [] x 0 0 ll ∧ x ≤ 2) ∧ 2 * ll.length ≤ 7 * (r.1 - q) ∧ q < r.1 ∧ v ≤ r.2
theorem c_holes {x : Fl RT} (h : QS T n b u al tb o q v mk 0 sz σ) (ev : EvX E b u al gl Vm tb σ) (n3 : ∀ i, i < tb.length → ¬ (tb.getD i e0E).2.1 = 3) (n10 : n ≤ 10240) (hmk : mk ≤ 2 * q + 18 * o) (hsz : 2 * sz + 7 * (n - q) + 100 ≤ 73728) (hnt : tb.length + (60 - v) ≤ 256) (hk : tkK T n q = 10) (hG : gPa0 T n f E o q v bt = some x) : Tm (fun k => f_X5_holesStatement k 0 L σ) (QPo b u tb.length sz mk (mF (fun r => (r.1, r.2.1)) x) (fun r _ τ => SqR T n b u al gl Pc Vm tb o mk sz q v r τ) σ 0 0) := by
  have s0 := Sy_0 h
  have go := tk_go h
  have g1 := go.2.2 (by omega)
  have u42 := ev.2.2.1.2
  have gl1 := ev.1.1
  have o20 := h.2.2.2.2.2.1.2
  have v60 := h.2.2.2.2.2.2.1.2
  unfold gPa0 at hG
  generalize hq0 : tkN T n q = q0 at *
  -- behind the holes
  have b2 : ∀ (L' : LV) (τ : CS) (a1 a2 q1 v1 N vt : Nat) (cs : List Int32) (hs : List Hol) (bt1 : BT) (x : Fl RT), gW T n 11 q1 (fun q2 => gW T n 1 q2 (fun q3 => G T n f 0 E o q3 v1 0 0 0 0 bt1)) = some x → L'.1 1 = nI mk → L'.1 2 = nI N → L'.1 3 = nI vt → Sy T n b u al σ tb.length sz mk a1 a2 tb (o + 1) q1 v1 (mk + hoN hs) 0 sz cs τ → hoM τ mk hs → hoG u gl Vm hs → hoV hs = vt → hs.length = N → Sgm u 0 gl Vm (hoV hs) cs → 2 * cs.length + 2 * hoK hs ≤ 5 * (q1 - q0) + 5 → hoN hs ≤ 2 * (q1 - q0) + 2 → hoV hs ≤ 3 * (q1 - q0) → hs.length ≤ q1 - q0 → q0 ≤ q1 → v ≤ v1 → Tm (fun k => f_X5_holesStatement k 2 L' τ) (QPo b u tb.length sz mk (mF (fun r => (r.1, r.2.1)) x) (fun r _ τ => SqR T n b u al gl Pc Vm tb o mk sz q v r τ) σ a1 a2) := by
    intro L' τ a1 a2 q1 v1 N vt cs hs bt1 x hg l1 l2 l3 s1 hm hh hv hl sg ln hn hvb hlb lq lv
    have go1 := tk_go s1.1.1
    refine Tm_suc (fun k => by rw [f_X5_holesStatement]) ?_
    rcases gW_any hg with ⟨w1, w2⟩ | ⟨w1, w2⟩
    · rw [w2]
      exact sx_closes (kk := 11) (C := False) s1 (by decide) rfl (Or.inl ⟨w1, rfl⟩) (fun _ _ _ _ c _ _ => c.elim)
    refine sx_closes (kk := 11) (C := True) s1 (by decide) rfl (Or.inr ⟨w1, trivial⟩) (fun τ2 ret2 n1 n2 _ s2 xk2 => ?_)
    have g2 := go1.2.2 (by omega)
    have go2 := tk_go s2.1.1
    rcases gW_any w2 with ⟨w3, w4⟩ | ⟨w3, w4⟩
    · rw [w4]
      exact sx_expect (kk := 1) (C := False) s2 (by decide) rfl (Or.inl ⟨w3, rfl⟩) (fun _ _ _ _ c _ _ => c.elim)
    refine sx_expect (kk := 1) (C := True) s2 (by decide) rfl (Or.inr ⟨w3, trivial⟩) (fun τ3 ret3 n3' n4 _ s3 xk3 => ?_)
    have g3 := go2.2.2 (by omega)
    have go3 := tk_go s3.1.1
    have bd3 : BdX n o (tkN T n (tkN T n q1)) v1 (mk + hoN hs) 0 (sz + cs.length) tb.length := ⟨n10, by omega, by omega, by omega, by omega⟩
    cases x with
    | inl yf => exact st_exp (C := True) (px_all f 400) (Or.inl ⟨rfl, rfl⟩) s3 (EvX_k ev s3.1.2.1) bd3 rfl (by omega) w4 (Or.inl ⟨_, rfl, rfl⟩) (fun _ _ _ _ _ _ z => by cases z)
    | inr r =>
      refine st_exp (C := True) (px_all f 400) (Or.inl ⟨rfl, rfl⟩) s3 (EvX_k ev s3.1.2.1) bd3 rfl (by omega) w4 (Or.inr ⟨r, rfl, trivial⟩) (fun τ4 ret4 n5 n6 r1 l4 hz _ s4 xk4 sg4 ln4 lt4 lv4 tg4 => ?_)
      cases hz
      have go4 := tk_go s4.1.1
      have m1 := hoM_k xk2 hs mk hm (Nat.le_refl _)
      have m2 := hoM_k xk3 hs mk m1 (Nat.le_refl _)
      have m3 := hoM_k xk4 hs mk m2 (Nat.le_refl _)
      have lc : (cs ++ l4).length = cs.length + l4.length := List.length_append
      refine st_call (C := True) s4.1 (c_writeHoles (t0 := mk) (vt := vt) (N := N) s4.1.1 u42 (by omega) (by omega) m3 hh hv (Nat.le_refl _) hl l1 l2 l3 (by rw [lc]; omega)) (Or.inr ⟨(), rfl, trivial, fun τ5 ret5 n7 n8 hr xk5 hc5 => ?_⟩)
      obtain ⟨r1, r2⟩ := hr
      have s5 := Sy_ca s4 r1 xk5 hc5 r2 (Nat.le_refl _) (by omega)
      have lw : ([em 100 0] ++ (hoC 0 vt (hoU u hs) ++ [em 37 (nI (vt + 1))])).length = hoK hs + 2 := by
        rw [List.length_append, List.length_append, hoC_l]
        show 1 + (hoK hs + 1) = _
        omega
      have ty : Sse u gl Pc Vm [] 0 0 0 (cs ++ l4 ++ ([em 100 0] ++ (hoC 0 vt (hoU u hs) ++ [em 37 (nI (vt + 1))]))) := by
        have z1 := Sse_ho (u := u) (Pc := Pc) (vt := vt) (hs := hoU u hs) (gl := gl) (Vm := Vm) (by omega) (by rw [hoU_l]; omega) (hoO_of gl1 hs vt hh (by omega))
        have z2 := Sst_sg (Pc := Pc) (pre := []) (Sgm_seq sg sg4) 0
        rw [Nat.zero_add] at z2
        rw [hv] at z2
        have sg1 := sg.1
        have sg41 := sg4.1
        exact Sse_seq z2 z1 (by rw [lc]; omega)
      have fc := fP_c b 19
      have s6 : Sx T n b u al σ tb.length sz mk (a1 + n1 + n3' + n5 + n7) (a2 + n2 + n4 + n6 + n8) tb o r.1 r.2.1 mk 0 (sz + (cs ++ l4 ++ ([em 100 0] ++ (hoC 0 vt (hoU u hs) ++ [em 37 (nI (vt + 1))]))).length) (uI τ5 4011 (L'.1 1)) := Sx_f s5.1 (fun j hj => uI_o (by omega)) rfl (by rw [uI_o (by decide)]; exact s5.1.1.2.2.2.2.2.1.1) s5.1.1.2.2.2.2.2.1.2 (by rw [uI_s]; exact l1) (by omega) (Nat.le_refl _) (by rw [uI_o (by omega)]; exact s5.1.1.2.2.2.2.2.2.2)
      refine Tm_some (Qfin s6 ⟨_, 0, s6.1, s5.2, ⟨ty, Nat.zero_le _⟩, ?_, ?_, ?_⟩)
      · rw [List.length_append, lc, lw]
        show 2 * (cs.length + l4.length + (hoK hs + 2)) ≤ 7 * (r.1 - q)
        omega
      · show q < r.1
        omega
      · show v ≤ r.2.1
        omega
  -- the holes
  have lp : ∀ (f1 : Nat) (L' : LV) (τ : CS) (a1 a2 q1 v1 i1 e1 it N vt : Nat) (bt1 : BT) (cs : List Int32) (hs : List Hol) (x : Fl RT), gb (GPt T n E f1 (o + 1) q1 v1 i1 e1 bt1) (fun r => gW T n 11 r.1 (fun q2 => gW T n 1 q2 (fun q3 => G T n f 0 E o q3 r.2.1 0 0 0 0 r.2.2.2.2.1))) = some x → L'.1 1 = nI mk → L'.1 2 = nI N → L'.1 3 = nI vt → L'.1 4 = 1 → L'.1 5 = nI it → it ≤ q1 → Sy T n b u al σ tb.length sz mk a1 a2 tb (o + 1) q1 v1 (mk + hoN hs) 0 sz cs τ → hoM τ mk hs → hoG u gl Vm hs → hoV hs = vt → hs.length = N → Sgm u 0 gl Vm (hoV hs) cs → 2 * cs.length + 2 * hoK hs ≤ 5 * (q1 - q0) → hoN hs ≤ 2 * (q1 - q0) → hoV hs ≤ 3 * (q1 - q0) → hs.length ≤ q1 - q0 → q0 ≤ q1 → v ≤ v1 → Tm (fun k => f_X5_holesStatement k 1 L' τ) (QPo b u tb.length sz mk (mF (fun r => (r.1, r.2.1)) x) (fun r _ τ => SqR T n b u al gl Pc Vm tb o mk sz q v r τ) σ a1 a2) := by
    intro f1
    induction f1 with
    | zero =>
      intro L' τ a1 a2 q1 v1 i1 e1 it N vt bt1 cs hs x hg
      cases hg
    | succ f1 ih =>
      intro L' τ a1 a2 q1 v1 i1 e1 it N vt bt1 cs hs x hg l1 l2 l3 l4 l5 hit s1 hm hh hv hl sg ln hn hvb hlb lq lv
      have go1 := tk_go s1.1.1
      have hg' : gb (gb (gHo T n f1 E (o + 1) q1 v1 bt1) (fun r => if tkK T n r.1 = 12 then gT T n r.1 (fun q2 => GPt T n E f1 (o + 1) q2 r.2.1 (fst2 i1 r.2.2.2.1) r.2.2.2.1 (bLnk i1 e1 r.2.2.2.1 r.2.2.2.2.1)) else some (Sum.inr (r.1, r.2.1, 0, fst2 i1 r.2.2.2.1, bLnk i1 e1 r.2.2.2.1 r.2.2.2.2.1, [])))) (fun r => gW T n 11 r.1 (fun q2 => gW T n 1 q2 (fun q3 => G T n f 0 E o q3 r.2.1 0 0 0 0 r.2.2.2.2.1))) = some x := hg
      rw [gb_gb] at hg'
      -- behind one hole
      have b4 : ∀ (L4 : LV) (τ4 : CS) (a3 a4 vt4 : Nat) (r : RT) (cs4 : List Int32) (hs4 : List Hol), gb (if tkK T n r.1 = 12 then gT T n r.1 (fun q2 => GPt T n E f1 (o + 1) q2 r.2.1 (fst2 i1 r.2.2.2.1) r.2.2.2.1 (bLnk i1 e1 r.2.2.2.1 r.2.2.2.2.1)) else some (Sum.inr (r.1, r.2.1, 0, fst2 i1 r.2.2.2.1, bLnk i1 e1 r.2.2.2.1 r.2.2.2.2.1, []))) (fun r => gW T n 11 r.1 (fun q2 => gW T n 1 q2 (fun q3 => G T n f 0 E o q3 r.2.1 0 0 0 0 r.2.2.2.2.1))) = some x → L4.1 1 = nI mk → L4.1 2 = nI N → L4.1 3 = nI vt4 → L4.1 5 = nI it → Sy T n b u al σ tb.length sz mk a3 a4 tb (o + 1) r.1 r.2.1 (mk + hoN hs4) 0 sz cs4 τ4 → hoM τ4 mk hs4 → hoG u gl Vm hs4 → hoV hs4 = vt4 → hs4.length = N + 1 → Sgm u 0 gl Vm (hoV hs4) cs4 → 2 * cs4.length + 2 * hoK hs4 ≤ 5 * (r.1 - q0) + 5 → hoN hs4 ≤ 2 * (r.1 - q0) + 2 → hoV hs4 ≤ 3 * (r.1 - q0) → hs4.length ≤ r.1 - q0 → q1 < r.1 → v ≤ r.2.1 → Tm (fun k => f_X5_holesStatement k 4 L4 τ4) (QPo b u tb.length sz mk (mF (fun r => (r.1, r.2.1)) x) (fun r _ τ => SqR T n b u al gl Pc Vm tb o mk sz q v r τ) σ a3 a4) := by
        intro L4 τ4 a3 a4 vt4 r cs4 hs4 hg4 j1 j2 j3 j5 s4 hm4 hh4 hv4 hl4 sg4 ln4 hn4 hvb4 hlb4 lq4 lv4
        have go4 := tk_go s4.1.1
        refine Tm_suc (fun k => by rw [f_X5_holesStatement]) ?_
        by_cases k12 : tkK T n r.1 = 12
        · rw [if_pos k12, gb_gT] at hg4
          have g4 := go4.2.2 (by omega)
          refine Tm_yes ((lx_k (kk := 12) s4.1.1 (by decide)).2 k12) ?_
          refine Tm_suc (fun k => by rw [f_X5_holesStatement]) ?_
          refine Tm_no (by show ¬ (1 : Int32) = 0; decide) ?_
          rcases gT_any hg4 with ⟨w1, w2⟩ | ⟨w1, w2⟩
          · rw [w2]
            exact sx_adv (C := False) s4 (Or.inl ⟨w1, rfl⟩) (fun _ _ _ _ c _ _ => c.elim)
          refine sx_adv (C := True) s4 (Or.inr ⟨w1, trivial⟩) (fun τ5 ret5 n1 n2 _ s5 xk5 => ?_)
          refine Tm_suc (fun k => by rw [f_X5_holesStatement]) ?_
          refine ih _ τ5 _ _ (tkN T n r.1) r.2.1 _ _ (it + 1) (N + 1) vt4 _ cs4 hs4 x w2 j1 ?_ j3 rfl ?_ (by omega) s5 (hoM_k xk5 hs4 mk hm4 (Nat.le_refl _)) hh4 hv4 hl4 sg4 (by omega) (by omega) (by omega) (by omega) (by omega) lv4
          · show L4.1 2 + 1 = _
            rw [j2, n_add1]
          · show L4.1 5 + 1 = _
            rw [j5, n_add1]
        · rw [if_neg k12] at hg4
          refine Tm_no (fun z => k12 ((lx_k (kk := 12) s4.1.1 (by decide)).1 z)) ?_
          refine Tm_suc (fun k => by rw [f_X5_holesStatement]) ?_
          refine Tm_suc (fun k => by rw [f_X5_holesStatement]) ?_
          refine Tm_yes rfl ?_
          refine Tm_suc (fun k => by rw [f_X5_holesStatement]) ?_
          refine Tm_suc (fun k => by rw [f_X5_holesStatement]) ?_
          refine Tm_no (by show ¬ nI 32768 < L4.1 5 + 1; rw [j5, n_add1, n_lt (by decide) (by omega)]; omega) ?_
          refine Tm_yes rfl ?_
          exact b2 _ τ4 _ _ r.1 r.2.1 (N + 1) vt4 cs4 hs4 _ x hg4 j1 (by show L4.1 2 + 1 = _; rw [j2, n_add1]) j3 s4 hm4 hh4 hv4 hl4 sg4 ln4 hn4 hvb4 hlb4 (by omega) lv4
      refine Tm_suc (fun k => by rw [f_X5_holesStatement]) ?_
      refine Tm_no (by rw [l5]; show ¬ nI 32768 < nI it; rw [n_lt (by decide) (by omega)]; omega) ?_
      refine Tm_no (by rw [l4]; decide) ?_
      by_cases k3 : tkK T n q1 = 3
      · have gh : gHo T n f1 E (o + 1) q1 v1 bt1 = gT T n q1 (fun q2 => some (Sum.inr (q2, v1, 0, bt1.1, bNode bt1 32 0 0 0, []))) := by unfold gHo; rw [if_pos k3]
        rw [gh, gb_gT] at hg'
        refine Tm_yes ((lx_k (kk := 3) s1.1.1 (by decide)).2 k3) ?_
        rcases gT_any hg' with ⟨w1, w2⟩ | ⟨w1, w2⟩
        · rw [w2]
          exact sx_adv (C := False) s1 (Or.inl ⟨w1, rfl⟩) (fun _ _ _ _ c _ _ => c.elim)
        refine sx_adv (C := True) s1 (Or.inr ⟨w1, trivial⟩) (fun τ2 ret2 n1 n2 _ s2 xk2 => ?_)
        have g2 := go1.2.2 (by omega)
        have go2 := tk_go s2.1.1
        refine st_call (C := True) s2.1 (c_markNo s2.1.1 (by omega)) (Or.inr ⟨(), rfl, trivial, fun τ3 ret3 n3' n4 hr xk3 hc3 => ?_⟩)
        obtain ⟨r1, r2, r3, r4⟩ := hr
        have s3 := Sy_c0 s2 r1 xk3 hc3 (Nat.le_refl _) (by omega)
        have hm3 := hoM_k xk3 hs mk (hoM_k xk2 hs mk hm (Nat.le_refl _)) (Nat.le_refl _)
        have eN : hoN (hs ++ [none]) = hoN hs + 4 := by rw [hoN_ap]; rfl
        have eV : hoV (hs ++ [none]) = hoV hs := by rw [hoV_ap]; rfl
        have eK : hoK (hs ++ [none]) = hoK hs := by rw [hoK_ap]; rfl
        refine b4 L' τ3 _ _ vt (tkN T n q1, v1, 0, bt1.1, bNode bt1 32 0 0 0, []) cs (hs ++ [none]) w2 l1 l2 l3 l5 (by rw [eN, ← Nat.add_assoc]; exact s3) (hoM_ap hs [none] mk hm3 ⟨⟨r2, r3, r4⟩, trivial⟩) (hoG_ap hs [none] hh trivial) (by rw [eV]; exact hv) (by rw [List.length_append, hl]; rfl) (by rw [eV]; exact sg) ?_ ?_ ?_ ?_ g2 lv
        · show 2 * cs.length + 2 * hoK (hs ++ [none]) ≤ 5 * (tkN T n q1 - q0) + 5
          rw [eK]; omega
        · show hoN (hs ++ [none]) ≤ 2 * (tkN T n q1 - q0) + 2
          rw [eN]; omega
        · show hoV (hs ++ [none]) ≤ 3 * (tkN T n q1 - q0)
          rw [eV]; omega
        · rw [List.length_append]
          show hs.length + 1 ≤ tkN T n q1 - q0
          omega
      · have gh : gHo T n f1 E (o + 1) q1 v1 bt1 = gTg T n f1 E (o + 1) q1 v1 bt1 := by unfold gHo; rw [if_neg k3]
        rw [gh] at hg'
        refine Tm_no (fun z => k3 ((lx_k (kk := 3) s1.1.1 (by decide)).1 z)) ?_
        refine Tm_suc (fun k => by rw [f_X5_holesStatement]) ?_
        have gz : ∃ z, gTg T n f1 E (o + 1) q1 v1 bt1 = some z := by
          rcases gb_any hg' with ⟨yf, y1, y2⟩ | ⟨r4, y1, y2⟩
          · exact ⟨_, y1⟩
          · exact ⟨_, y1⟩
        obtain ⟨z, hz⟩ := gz
        refine st_call (C := True) s1.1 (c_target (L := lI lZ 1 (-1)) s1.1.1 (EvX_k ev s1.1.2.1) n3 n10 (by omega) (by omega) (by omega) (by omega) rfl hz) ?_
        rcases gb_any hg' with ⟨yf, y1, y2⟩ | ⟨zz, y1, y2⟩
        · rw [hz] at y1
          exact Or.inl ⟨_, Option.some.inj y1, by rw [y2]; rfl⟩
        rw [hz] at y1
        refine Or.inr ⟨zz, Option.some.inj y1, trivial, fun τ2 ret2 n1 n2 hr xk2 hc2 => ?_⟩
        obtain ⟨s, ow, tv, gq, er, l2', ks, r1, r2, r3, r4, r5, r6, r7, r8, r9⟩ := hr
        have s2 := Sy_ca s1 r1 xk2 hc2 r2 (Nat.le_refl _) (by omega)
        have hm2 := hoM_k xk2 hs mk hm (Nat.le_refl _)
        have sn := s2.1.1.2.2.1
        have sn1 := sn.2.1
        have sn2 := sn.2.2
        have wb := wdN_b ks
        have eN : hoN (hs ++ [some (s, ow, ks)]) = hoN hs + 4 + ks.length := by rw [hoN_ap]; show hoN hs + (4 + ks.length + 0) = _; omega
        have eV : hoV (hs ++ [some (s, ow, ks)]) = hoV hs + wdN ks := by rw [hoV_ap]; show hoV hs + (wdN ks + 0) = _; omega
        have eK : hoK (hs ++ [some (s, ow, ks)]) = hoK hs + ks.length + 5 := by rw [hoK_ap]; show hoK hs + (ks.length + 5 + 0) = _; omega
        have go2 := tk_go s2.1.1
        have s1k : s < 1000 := by
          by_cases z : ow = u
          · have := (tv.1 z).1; omega
          · have := tv.2.1 z; omega
        have e2 : ret2 + 2 = nI (mk + hoN hs + 2) := by rw [er]; exact n_add (q := 2) (by omega)
        show Tm (fun k => if ¬ (ret2 + 2 < 0 ∨ sN τ2 41 ≤ (ret2 + 2).toNatClampNeg) then f_X5_holesStatement k 4 (lI L' 3 (L'.1 3 + τ2.2.2.1 41 (ret2 + 2).toNatClampNeg)) τ2 else none) _
        rw [e2]
        refine Tm_chk (n_in (by omega) (by omega)) ?_
        rw [n_cl (by omega), r4.1.2.2.1, l3, n_add (by omega)]
        have lc : (cs ++ l2').length = cs.length + l2'.length := List.length_append
        refine b4 _ τ2 _ _ (vt + wdN ks) zz (cs ++ l2') (hs ++ [some (s, ow, ks)]) y2 l1 l2 rfl l5 (by rw [eN, show mk + (hoN hs + 4 + ks.length) = mk + hoN hs + 4 + ks.length by omega]; exact s2) (hoM_ap hs _ mk hm2 ⟨r4, trivial⟩) (hoG_ap hs _ hh ⟨⟨tv, r5, by show ks.length ≤ 30000; omega, s1k⟩, trivial⟩) (by rw [eV, hv]) (by rw [List.length_append, hl]; rfl) (by rw [eV]; exact Sgm_seq sg r3) ?_ ?_ ?_ ?_ (by omega) (by omega)
        · rw [lc, eK]; omega
        · rw [eN]; omega
        · rw [eV]; omega
        · rw [List.length_append]
          show hs.length + 1 ≤ _
          omega
  refine Tm_suc (fun k => by rw [f_X5_holesStatement]) ?_
  have e11 := h.2.2.1.1
  rcases gO_any hG with ⟨w1, w2⟩ | ⟨w1, w2⟩
  · rw [w2]
    exact st_opens (C := False) s0 (Or.inl ⟨fun z => z.1 w1, oF_a w1 rfl⟩) (fun _ _ _ _ c _ => c.elim)
  rcases gT_any w2 with ⟨w3, w4⟩ | ⟨w3, w4⟩
  · rw [w4]
    exact st_opens (C := False) s0 (Or.inl ⟨fun z => z.2 w3, oF_b w1 rfl⟩) (fun _ _ _ _ c _ => c.elim)
  refine st_opens (C := True) s0 (Or.inr ⟨⟨w1, w3⟩, trivial⟩) (fun τ1 ret1 n1 n2 _ s1 => ?_)
  rw [hq0] at s1 w4
  exact lp f _ τ1 _ _ q0 v 0 0 0 0 0 bt [] [] x w4 e11 rfl rfl rfl rfl (Nat.zero_le _) s1 trivial trivial rfl rfl (Sgm_nil u 0 gl Vm) (by show 2 * 0 + 2 * 0 ≤ _; omega) (Nat.zero_le _) (Nat.zero_le _) (Nat.zero_le _) (Nat.le_refl _) (Nat.le_refl _)
end CXG
end JnS491

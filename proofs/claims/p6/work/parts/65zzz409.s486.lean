/-! The class: targets are read. -/
section CXB
variable {σ σ' σ0 τ τ' : CS} {L : LV} {b : Bool} {T : Nat → Int32} {n q q' u al o v mk p sz szB nc0 sz0 mk0 a1 a2 m kk f e s ow : Nat} {y : Int32} {l l' cs cs' : List Int32} {tb : List Ent} {α : Type} {S : α → Int32 → CS → Prop} {C : Prop} {E : En} {gl : Nat × (Nat → Nat → Prop)} {Vm : Nat → Prop} {bt : BT} {ks : List Nat}
theorem c_partS {e0 : Nat} {x : Option (Nat × Nat × Nat × Nat × BT)} (px : PXp T n b u al f e) (h : QS T n b u al tb o q v mk p sz σ) (ev : EvX E b u al gl Vm tb σ) (bd : BdX n (o + 1) q v mk p sz tb.length) (hk : tkK T n q = 6 ∨ tkK T n q = 8) (hG : gPt T n f E o q v e0 bt = some x) (hd : ¬ o = 20 → 6 * (20 - (o + 1)) + 8 ≤ e) : Tm (fun k => f_F2 k (e + 1) 9 0 L σ) (QPo b u tb.length sz mk x (PtR T n b u al gl Vm tb o mk p sz q v) σ 0 0) := by
  have s0 := Sy_0 h
  have go := tk_go h
  have g1 := go.2.2 (by omega)
  have hop : (¬ (¬ o = 20 ∧ ¬ tkK T n (tkN T n q) = 0) ∧ x = none) ∨ ((¬ o = 20 ∧ ¬ tkK T n (tkN T n q) = 0) ∧ pb (G T n f 0 E (o + 1) (tkN T n q) v 0 0 0 0 bt) (fun r =>
    if tkK T n q = 6 ∧ tkK T n r.1 = 16 then pT T n r.1 (fun q2 => pb (G T n f 0 E (o + 1) q2 r.2.1 0 0 0 0 r.2.2.2.2.1) (fun s => pW T n 7 s.1 (fun q3 => some (some (q3, s.2.1, 97, s.2.2.2.2.1.1, bSet (bOver s.2.2.2.2.1 22 0 e0 (nI r.2.2.2.1)) 8 s.2.2.2.2.1.1 (nI s.2.2.2.1))))))
    else pW T n (if tkK T n q = 8 then 9 else 7) r.1 (fun q2 => some (some (q2, r.2.1, (if tkK T n q = 8 then 98 else 96), r.2.2.2.2.1.1, bOver r.2.2.2.2.1 (if tkK T n q = 8 then 23 else 21) 0 e0 (nI r.2.2.2.1))))) = some x) := by
    unfold gPt at hG
    by_cases c1 : o = 20
    · rw [if_pos c1] at hG
      exact Or.inl ⟨fun z => z.1 c1, (Option.some.inj hG).symm⟩
    · rw [if_neg c1] at hG
      rcases pT_any hG with ⟨w1, w2⟩ | ⟨w1, w2⟩
      · exact Or.inl ⟨fun z => z.2 w1, w2⟩
      · exact Or.inr ⟨⟨c1, w1⟩, w2⟩
  by_cases k8 : tkK T n q = 8
  · refine Tm_suc (fun k => pt_0 k _ _ _) ?_
    refine Tm_yes ((lx_k (kk := 8) h (by decide)).2 k8) ?_
    refine st_opens s0 hop (fun τ1 ret n1 n2 c1 s1 => ?_)
    refine Tm_d ?_
    have o20 : ¬ o = 20 := fun z => by
      have := s1.1.1.2.2.2.2.2.1.2
      omega
    rcases pb_any c1 with ⟨w1, w2⟩ | ⟨r0, w1, w2⟩
    · exact st_exp (C := True) px (Or.inl ⟨rfl, rfl⟩) s1 (EvX_k ev s1.1.2.1) (BdX_g bd (by omega) go.2.1 (by omega) (Nat.le_refl _) (by show 2 * (sz + 0) + _ ≤ _; omega)) rfl (hd o20) w1 (Or.inl ⟨rfl, w2⟩) (fun _ _ _ _ _ _ z => by cases z)
    · refine st_exp (C := True) px (Or.inl ⟨rfl, rfl⟩) s1 (EvX_k ev s1.1.2.1) (BdX_g bd (by omega) go.2.1 (by omega) (Nat.le_refl _) (by show 2 * (sz + 0) + _ ≤ _; omega)) rfl (hd o20) w1 (Or.inr ⟨r0, rfl, trivial⟩) (fun τ2 ret2 m1 m2 r ll hz _ s2 xk sg ln lt lv tg => ?_)
      cases hz
      rw [if_neg (fun z => by omega), if_pos k8] at w2
      have go2 := tk_go s2.1.1
      have y9 := pW_any w2
      refine st_closes (kk := 9) s2 (by decide) rfl y9 (fun τ3 ret3 l1 l2 c3 s3 => ?_)
      rw [if_pos k8] at c3
      cases c3
      have k9 : tkK T n r0.1 = 9 := by
        rcases y9 with ⟨y1, y2⟩ | ⟨y1, _⟩
        · cases y2
        · exact y1.1
      have g3 := go2.2.2 (by omega)
      refine Tm_some (Qfin s3.1 ⟨rfl, ll, s3.1.1, s3.2, Or.inr (Or.inl ⟨rfl, sg⟩), ?_, ?_, lv⟩)
      · show 2 * ll.length + 2 ≤ 3 * (tkN T n r0.1 - q)
        omega
      · show q < tkN T n r0.1
        omega
  · have k6 : tkK T n q = 6 := by omega
    have b2 : ∀ (L' : LV) (τ' : CS) (a1 a2 kd : Nat) (ll : List Int32) (q2 v2 : Nat) (w : Nat × BT), L'.1 1 = nI kd → Sy T n b u al σ tb.length sz mk a1 a2 tb (o + 1) q2 v2 mk p sz ll τ' → ((kd = 96 ∧ Sgm u p gl Vm 1 ll) ∨ (kd = 97 ∧ Sgm u p gl Vm 2 ll)) → pW T n 7 q2 (fun q3 => some (some (q3, v2, kd, w))) = some x → 2 * ll.length ≤ 3 * (q2 - q) → q < q2 → v ≤ v2 → Tm (fun k => f_F2 k (e + 1) 9 2 L' τ') (QPo b u tb.length sz mk x (PtR T n b u al gl Vm tb o mk p sz q v) σ a1 a2) := by
      intro L' τ' a1 a2 kd ll q2 v2 w l1 s2 sg hw ln lt lv
      have go2 := tk_go s2.1.1
      have y9 := pW_any hw
      refine Tm_suc (fun k => pt_2 k _ _ _) ?_
      refine st_closes (kk := 7) s2 (by decide) rfl y9 (fun τ3 ret3 l1' l2 c3 s3 => ?_)
      have k7 : tkK T n q2 = 7 := by
        rcases y9 with ⟨y1, y2⟩ | ⟨y1, _⟩
        · rw [y2] at c3; cases c3
        · exact y1.1
      cases c3
      have g3 := go2.2.2 (by omega)
      refine Tm_some (Qfin s3.1 ⟨l1, ll, s3.1.1, s3.2, ?_, ?_, ?_, lv⟩)
      · rcases sg with ⟨z1, z2⟩ | ⟨z1, z2⟩
        · exact Or.inl ⟨z1, z2⟩
        · exact Or.inr (Or.inr ⟨z1, z2⟩)
      · show 2 * ll.length + 2 ≤ 3 * (tkN T n q2 - q)
        omega
      · show q < tkN T n q2
        omega
    refine Tm_suc (fun k => pt_0 k _ _ _) ?_
    refine Tm_no (fun z => k8 ((lx_k (kk := 8) h (by decide)).1 z)) ?_
    refine Tm_suc (fun k => pt_1 k _ _ _) ?_
    refine st_opens s0 hop (fun τ1 ret n1 n2 c1 s1 => ?_)
    refine Tm_d ?_
    have o20 : ¬ o = 20 := fun z => by
      have := s1.1.1.2.2.2.2.2.1.2
      omega
    rcases pb_any c1 with ⟨w1, w2⟩ | ⟨r0, w1, w2⟩
    · exact st_exp (C := True) px (Or.inl ⟨rfl, rfl⟩) s1 (EvX_k ev s1.1.2.1) (BdX_g bd (by omega) go.2.1 (by omega) (Nat.le_refl _) (by show 2 * (sz + 0) + _ ≤ _; omega)) rfl (hd o20) w1 (Or.inl ⟨rfl, w2⟩) (fun _ _ _ _ _ _ z => by cases z)
    · refine st_exp (C := True) px (Or.inl ⟨rfl, rfl⟩) s1 (EvX_k ev s1.1.2.1) (BdX_g bd (by omega) go.2.1 (by omega) (Nat.le_refl _) (by show 2 * (sz + 0) + _ ≤ _; omega)) rfl (hd o20) w1 (Or.inr ⟨r0, rfl, trivial⟩) (fun τ2 ret2 m1 m2 r ll hz _ s2 xk sg ln lt lv tg => ?_)
      cases hz
      have go2 := tk_go s2.1.1
      have s2' : Sy T n b u al σ tb.length sz mk (0 + n1 + m1) (0 + n2 + m2) tb (o + 1) r0.1 r0.2.1 mk p sz ll τ2 := s2
      by_cases k16 : tkK T n r0.1 = 16
      · rw [if_pos ⟨k6, k16⟩] at w2
        refine Tm_yes ((lx_k (kk := 16) s2.1.1 (by decide)).2 k16) ?_
        refine st_advY s2' (pT_any w2) (fun τ3 r3 er c3 s3 => ?_)
        refine Tm_d ?_
        rw [er]
        have g2 := go2.2.2 (by omega)
        have bd3 : BdX n (o + 1) (tkN T n r0.1) r0.2.1 mk p (sz + ll.length) tb.length := BdX_g bd (by omega) go2.2.1 (by omega) lv (by omega)
        rcases pb_any c3 with ⟨y1, y2⟩ | ⟨r4, y1, y2⟩
        · exact st_exp (C := True) px (Or.inl ⟨rfl, rfl⟩) s3 (EvX_k ev s3.1.2.1) bd3 rfl (hd o20) y1 (Or.inl ⟨rfl, y2⟩) (fun _ _ _ _ _ _ z => by cases z)
        · refine st_exp (C := True) px (Or.inl ⟨rfl, rfl⟩) s3 (EvX_k ev s3.1.2.1) bd3 rfl (hd o20) y1 (Or.inr ⟨r4, rfl, trivial⟩) (fun τ5 ret5 p1 p2 r5 l5 hz5 _ s5 xk5 sg5 ln5 lt5 lv5 tg5 => ?_)
          cases hz5
          refine b2 _ τ5 _ _ 97 (ll ++ l5) r4.1 r4.2.1 _ rfl s5 (Or.inr ⟨rfl, Sgm_seq sg sg5⟩) y2 ?_ (by omega) (by omega)
          rw [List.length_append]
          omega
      · rw [if_neg (fun z => k16 z.2), if_neg k8, if_neg k8, if_neg k8] at w2
        refine Tm_no (fun z => k16 ((lx_k (kk := 16) s2.1.1 (by decide)).1 z)) ?_
        exact b2 _ τ2 _ _ 96 ll r0.1 r0.2.1 _ rfl s2' (Or.inl ⟨rfl, sg⟩) w2 (by omega) (by omega) lv

/-- a mark is set anew -/
theorem Sy_ma {i : Nat} (h : Sy T n b u al σ0 nc0 sz0 mk0 a1 a2 tb o q v mk p szB cs τ) (hi : mk0 ≤ i) (x : Int32) : Sy T n b u al σ0 nc0 sz0 mk0 a1 a2 tb o q v mk p szB cs (uA τ 41 i x) := by
  have ph := Ph_s (σ := τ) (σ' := uA τ 41 i x) rfl
  obtain ⟨⟨hq, h2', h3, h4, h5, h6⟩, k2⟩ := h
  obtain ⟨h1, h2, h3', h4', ⟨h5', h5'', h5'''⟩, ⟨h6', h6''⟩, ⟨h7, h7'⟩, h8⟩ := hq
  have pc := pR_c b
  have cd : ∀ c i', cdr c (uA τ 41 i x) i' = cdr c τ i' := fun c i' => by
    show (uA τ 41 i x).2.2.1 (pR0 (sKd τ c)) i' = _
    rcases pR0_c (sKd τ c) with z | z
    · rw [uA_k (by omega)]
    · rw [uA_k (by omega)]
  have q1 : QS T n b u al tb o q v mk p (szB + cs.length) (uA τ 41 i x) := ⟨LxQ_s h1 (fun _ _ _ => rfl) ⟨rfl, rfl⟩ (uA_k (by omega)) rfl rfl, CdL_s h2 rfl rfl ⟨rfl, rfl⟩, h3', TbR_s h4' rfl rfl rfl (uA_k (by omega)) (uA_k (by omega)) (uA_k (by omega)) (uA_k (by omega)), ⟨h5', h5'', h5'''⟩, ⟨h6', h6''⟩, ⟨by rw [uA_k (by omega)]; exact h7, h7'⟩, h8⟩
  obtain ⟨d1, ⟨d3, d4, d5⟩, d6, d12, d13, d14, d15, d16, d17⟩ := h2'
  refine ⟨⟨q1, ⟨d1, ⟨fun k hk => by rw [uA_k (by omega)]; exact d3 k hk, d4, d5⟩, d6, fun i' hi' => by rw [uA_k (by omega)]; exact d12 i' hi', fun i' hi' => ?_, fun i' hi' => ?_, fun i' hi' => ?_, d16, d17⟩, ⟨by omega, by omega⟩, h4, h5, h6⟩, fun i' hi' => ?_⟩
  · have y := d13 i' hi'
    rw [uA_k (k' := pR7 b) (by omega), uA_k (k' := pR8 b) (by omega), uA_k (k' := pR9 b) (by omega), uA_k (k' := pR10 b) (by omega)]
    exact y
  · rw [cd, cd]; exact d14 i' hi'
  · rw [uA_r, upd_other (by omega)]; exact d15 i' hi'
  · rw [cd]; exact k2 i' hi'
/-- a target among the marks: its slot and unit, how many values, its parts' kinds -/
def TgM (τ : CS) (mk s ow : Nat) (ks : List Nat) : Prop := (τ.2.2.1 41 mk = nI s ∧ τ.2.2.1 41 (mk + 1) = nI ow ∧ τ.2.2.1 41 (mk + 2) = nI (wdN ks) ∧ τ.2.2.1 41 (mk + 3) = nI ks.length) ∧ ∀ i, i < ks.length → τ.2.2.1 41 (mk + 4 + i) = nI (ks.getD i 0)
theorem TgM_k {mk' nc' sz' : Nat} (h : TgM τ mk s ow ks) (x : XK b u nc' sz' mk' τ τ') (hm : mk + 4 + ks.length ≤ mk') : TgM τ' mk s ow ks := by
  obtain ⟨⟨h1, h2, h3, h4⟩, h5⟩ := h
  have z := x.2.2.2.2.2.2.1
  exact ⟨⟨by rw [z _ (by omega)]; exact h1, by rw [z _ (by omega)]; exact h2, by rw [z _ (by omega)]; exact h3, by rw [z _ (by omega)]; exact h4⟩, fun i hi => by rw [z _ (by omega)]; exact h5 i hi⟩
/-- its variable -/
def TgV (u : Nat) (gl : Nat × (Nat → Nat → Prop)) (Vm : Nat → Prop) (s ow : Nat) : Prop := (ow = u → s < 200 ∧ Vm (500000 + s)) ∧ (¬ ow = u → s < gl.1) ∧ ow < 42
def kOK (ks : List Nat) : Prop := ∀ i, i < ks.length → ks.getD i 0 = 96 ∨ ks.getD i 0 = 97 ∨ ks.getD i 0 = 98
theorem gN_ap : ∀ {ks : List Nat} {k i : Nat}, i < ks.length → (ks ++ [k]).getD i 0 = ks.getD i 0
  | [], _, _, h => absurd h (Nat.not_lt_zero _)
  | _ :: _, _, 0, _ => rfl
  | _ :: r, k, i + 1, h => gN_ap (ks := r) (k := k) (i := i) (Nat.lt_of_succ_lt_succ h)
theorem gN_la : ∀ {ks : List Nat} {k : Nat}, (ks ++ [k]).getD ks.length 0 = k
  | [], _ => rfl
  | _ :: r, k => gN_la (ks := r) (k := k)
theorem kOK_ap {k : Nat} (h : kOK ks) (hk : k = 96 ∨ k = 97 ∨ k = 98) : kOK (ks ++ [k]) := by
  intro i hi
  rw [List.length_append] at hi
  have hi' : i < ks.length + 1 := hi
  rcases Nat.lt_or_ge i ks.length with z | z
  · rw [gN_ap z]; exact h i z
  · have : i = ks.length := by omega
    subst this
    rw [gN_la]; exact hk
/-- behind a target -/
def TtR (T : Nat → Int32) (n : Nat) (b : Bool) (u al : Nat) (gl : Nat × (Nat → Nat → Prop)) (Vm : Nat → Prop) (tb : List Ent) (o mk p sz q v s ow : Nat) (r : RT) (y : Int32) (τ : CS) : Prop := y = nI mk ∧ ∃ (cs : List Int32) (ks : List Nat), QS T n b u al tb o r.1 r.2.1 (mk + 4 + ks.length) p (sz + cs.length) τ ∧ (∀ i, i < cs.length → cdr b τ (sz + i) = cs.getD i 0) ∧ Sgm u p gl Vm (wdN ks) cs ∧ TgM τ mk s ow ks ∧ kOK ks ∧ 2 * cs.length + 2 * ks.length ≤ 3 * (r.1 - q) ∧ q ≤ r.1 ∧ v ≤ r.2.1 ∧ r.2.2.1 = (if ks.length = 0 then 1 else 2)
theorem ptS_seq {z3 : Nat} {c1 c2 : List Int32} (h : Sgm u p gl Vm (wdN ks) c1) (h2 : (z3 = 96 ∧ Sgm u p gl Vm 1 c2) ∨ (z3 = 98 ∧ Sgm u p gl Vm 1 c2) ∨ (z3 = 97 ∧ Sgm u p gl Vm 2 c2)) : Sgm u p gl Vm (wdN (ks ++ [z3])) (c1 ++ c2) := by
  rw [wdN_ap]
  rcases h2 with ⟨e, g⟩ | ⟨e, g⟩ | ⟨e, g⟩
  · rw [if_neg (by omega)]; exact Sgm_seq h g
  · rw [if_neg (by omega)]; exact Sgm_seq h g
  · rw [if_pos e]; exact Sgm_seq h g
theorem wdN_b (ks : List Nat) : ks.length ≤ wdN ks ∧ wdN ks ≤ 2 * ks.length := Wkk_le ks ks.length
/-- the parts of a target -/
theorem c_tgL {x : Option RT} {q0 v0 : Nat} (ev0 : ∀ τ', XK b u nc0 sz0 mk σ τ' → EvX E b u al gl Vm tb τ') (n10 : n ≤ 10240) (hmk : mk ≤ 2 * q0 + 18 * o) (hsz : 2 * szB + 3 * (n - q0) + 100 ≤ 73728) (hnt : tb.length + (60 - v0) ≤ 256) (hp : p ≤ 3 * v0) (h0 : sz0 ≤ szB) : ∀ (f1 : Nat) (L' : LV) (τ : CS) (a1 a2 q1 v1 i1 e1 it : Nat) (bt1 : BT) (cs : List Int32) (ks : List Nat), G T n f1 12 E o q1 v1 i1 e1 0 0 bt1 = some x → i1 = (if ks.length = 0 then 1 else 2) → L'.1 3 = nI mk → L'.1 4 = nI it → it ≤ q1 → Sy T n b u al σ nc0 sz0 mk a1 a2 tb o q1 v1 (mk + 4 + ks.length) p szB cs τ → TgM τ mk s ow ks → kOK ks → Sgm u p gl Vm (wdN ks) cs → 2 * cs.length + 2 * ks.length ≤ 3 * (q1 - q0) → q0 ≤ q1 → v0 ≤ v1 → Tm (fun k => f_X5_target k 3 L' τ) (QPo b u nc0 sz0 mk x (fun r y τ => TtR T n b u al gl Vm tb o mk p szB q0 v0 s ow r y τ) σ a1 a2) := by
  intro f1
  induction f1 with
  | zero =>
    intro L' τ a1 a2 q1 v1 i1 e1 it bt1 cs ks hg
    cases hg
  | succ f1 ih =>
    intro L' τ a1 a2 q1 v1 i1 e1 it bt1 cs ks hg hi l3 l4 hit s1 tm ko sg ln lq lv
    have go := tk_go s1.1.1
    have v60 := s1.1.1.2.2.2.2.2.2.1.2
    have o20 := s1.1.1.2.2.2.2.2.1.2
    have fin : x = some (q1, v1, i1, e1, bt1, []) → Tm (fun k => f_X5_target k 4 L' τ) (QPo b u nc0 sz0 mk x (fun r y τ => TtR T n b u al gl Vm tb o mk p szB q0 v0 s ow r y τ) σ a1 a2) := by
      intro hx
      refine Tm_suc (fun k => by rw [f_X5_target]) ?_
      rw [hx, l3]
      exact Tm_some (Qfin s1.1 ⟨rfl, cs, ks, s1.1.1, s1.2, sg, tm, ko, ln, lq, lv, hi⟩)
    have b5 : tkK T n q1 = 6 ∨ tkK T n q1 = 8 → Tm (fun k => f_X5_target k 5 L' τ) (QPo b u nc0 sz0 mk x (fun r y τ => TtR T n b u al gl Vm tb o mk p szB q0 v0 s ow r y τ) σ a1 a2) := by
      intro hk
      have g1 := go.2.2 (by omega)
      rw [G12_p hk] at hg
      have gz : ∃ z, gPt T n f1 E o q1 v1 e1 bt1 = some z := by
        rcases pb_any hg with ⟨y1, y2⟩ | ⟨r4, y1, y2⟩
        · exact ⟨_, y1⟩
        · exact ⟨_, y1⟩
      obtain ⟨z, hz⟩ := gz
      refine Tm_suc (fun k => by rw [f_X5_target]) ?_
      have bd1 : BdX n (o + 1) q1 v1 (mk + 4 + ks.length) p (szB + cs.length) tb.length := ⟨n10, by omega, by omega, by omega, by omega⟩
      refine st_call (C := True) s1.1 (c_partS (e := 399) (px_all f1 399) s1.1.1 (ev0 _ s1.1.2.1) bd1 hk hz (fun _ => by omega)) ?_
      rcases pb_any hg with ⟨y1, y2⟩ | ⟨zz, y1, y2⟩
      · rw [hz] at y1
        exact Or.inl ⟨Option.some.inj y1, y2⟩
      rw [hz] at y1
      refine Or.inr ⟨zz, Option.some.inj y1, trivial, fun τ2 ret2 n1 n2 hr xk2 hc2 => ?_⟩
      obtain ⟨er, l2, r1, r2, r3, r4, r5, r6⟩ := hr
      have s2 := Sy_ca s1 r1 xk2 hc2 r2 s1.1.2.2.2.1 s1.1.2.2.2.2.2
      have tm2 := TgM_k tm xk2 (Nat.le_refl _)
      have kd : zz.2.2.1 = 96 ∨ zz.2.2.1 = 97 ∨ zz.2.2.1 = 98 := by omega
      have lc : (cs ++ l2).length = cs.length + l2.length := List.length_append
      have gz := tk_go s2.1.1
      refine st_mark s2 (by omega) (fun τ3 m1 m2 s3 k3 k4 => ?_)
      have ek : (lI lZ 1 ret2).1 1 = nI zz.2.2.1 := er
      rw [ek] at k4
      have sn := s3.1.1.2.2.1
      have sn1 : mk + 4 + ks.length + 1 ≤ sN τ3 41 := sn.2.1
      have sn2 : sN τ3 41 ≤ 21504 := sn.2.2
      have e32 : L'.1 3 + 2 = nI (mk + 2) := by rw [l3]; exact n_add (q := 2) (by omega)
      have e33 : L'.1 3 + 3 = nI (mk + 3) := by rw [l3]; exact n_add (q := 3) (by omega)
      obtain ⟨⟨t1, t2, t3, t4⟩, t5⟩ := tm2
      have wb := wdN_b ks
      -- what is told of the target
      have b7 : ∀ (L7 : LV) (dd : Nat), L7.1 3 = nI mk → L7.1 4 = nI it → L7.1 100 = nI dd → L7.1 101 = nI (wdN ks) → L7.1 102 = nI (mk + 2) → dd = (if zz.2.2.1 = 97 then 2 else 1) → Tm (fun k => f_X5_target k 7 L7 τ3) (QPo b u nc0 sz0 mk x (fun r y τ => TtR T n b u al gl Vm tb o mk p szB q0 v0 s ow r y τ) σ (a1 + n1 + m1) (a2 + n2 + m2)) := by
        intro L7 dd j3 j4 j100 j101 j102 hdd
        have d2 : dd ≤ 2 := by rw [hdd]; split <;> omega
        have e7 : L7.1 3 + 3 = nI (mk + 3) := by rw [j3]; exact n_add (q := 3) (by omega)
        refine Tm_suc (fun k => by rw [f_X5_target]) ?_
        rw [j102, e7, j101, j100, n_add (by omega)]
        refine Tm_chk (n_in (by omega) (by omega)) ?_
        have sn3 : ∀ w, sN (uA τ3 41 (nI (mk + 2)).toNatClampNeg w) 41 = sN τ3 41 := fun w => rfl
        refine Tm_chk (by rw [sn3]; exact n_in (by omega) (by omega)) ?_
        refine Tm_chk (by rw [sn3]; exact n_in (by omega) (by omega)) ?_
        rw [n_cl (by omega), n_cl (by omega)]
        have ew : (uA τ3 41 (mk + 2) (nI (wdN ks + dd))).2.2.1 41 (mk + 3) = nI ks.length := by
          rw [uA_r, upd_other (by omega), k3 _ (by omega)]; exact t4
        rw [ew, n_add1]
        have s4 := Sy_ma (i := mk + 3) (Sy_ma (i := mk + 2) s3 (by omega) (nI (wdN ks + dd))) (by omega) (nI (ks.length + 1))
        have lk : (ks ++ [zz.2.2.1]).length = ks.length + 1 := List.length_append
        have wd : wdN (ks ++ [zz.2.2.1]) = wdN ks + dd := by rw [wdN_ap, hdd]
        refine ih _ _ _ _ zz.1 zz.2.1 _ _ (it + 1) _ (cs ++ l2) (ks ++ [zz.2.2.1]) y2 ?_ j3 (by show L7.1 4 + 1 = _; rw [j4, n_add1]) (by omega) (by rw [lk, ← Nat.add_assoc]; exact s4) ⟨⟨?_, ?_, ?_, ?_⟩, fun i hi' => ?_⟩ (kOK_ap ko kd) (ptS_seq sg r3) (by rw [lc, lk]; omega) (by omega) (by omega)
        · have i10 : ¬ i1 = 0 := by rw [hi]; split <;> omega
          rw [if_neg i10, lk, if_neg (by omega)]
        · rw [uA_r, upd_other (by omega), uA_r, upd_other (by omega), k3 _ (by omega)]; exact t1
        · rw [uA_r, upd_other (by omega), uA_r, upd_other (by omega), k3 _ (by omega)]; exact t2
        · rw [uA_r, upd_other (by omega), uA_r, upd_same, wd]
        · rw [uA_r, upd_same, lk]
        · rw [lk] at hi'
          rw [uA_r, upd_other (by omega), uA_r, upd_other (by omega)]
          rcases Nat.lt_or_ge i ks.length with z | z
          · rw [k3 _ (by omega), gN_ap z]; exact t5 i z
          · have : i = ks.length := by omega
            subst this
            rw [gN_la]; exact k4
      refine Tm_chk (by show ¬ (L'.1 3 + 2 < 0 ∨ sN τ3 41 ≤ (L'.1 3 + 2).toNatClampNeg); rw [e32]; exact n_in (by omega) (by omega)) ?_
      have v3 : τ3.2.2.1 41 (L'.1 3 + 2).toNatClampNeg = nI (wdN ks) := by
        rw [e32, n_cl (by omega), k3 _ (by omega)]; exact t3
      have er' : ret2 = nI zz.2.2.1 := er
      by_cases k97 : zz.2.2.1 = 97
      · refine Tm_yes (by show ret2 = 97; rw [er', k97]; rfl) ?_
        exact b7 _ 2 l3 l4 rfl v3 e32 (by rw [if_pos k97])
      · refine Tm_no (by show ¬ ret2 = 97; rw [er']; show ¬ nI zz.2.2.1 = nI 97; rw [n_eq (by omega) (by decide)]; exact k97) ?_
        refine Tm_suc (fun k => by rw [f_X5_target]) ?_
        exact b7 _ 1 l3 l4 rfl v3 e32 (by rw [if_neg k97])
    refine Tm_suc (fun k => by rw [f_X5_target]) ?_
    refine Tm_no (by rw [l4]; show ¬ nI 32768 < nI it; rw [n_lt (by decide) (by omega)]; omega) ?_
    by_cases k6 : tkK T n q1 = 6
    · refine Tm_yes ((lx_k (kk := 6) s1.1.1 (by decide)).2 k6) ?_
      exact b5 (Or.inl k6)
    · refine Tm_no (fun z => k6 ((lx_k (kk := 6) s1.1.1 (by decide)).1 z)) ?_
      by_cases k8 : tkK T n q1 = 8
      · refine Tm_yes ((lx_k (kk := 8) s1.1.1 (by decide)).2 k8) ?_
        exact b5 (Or.inr k8)
      · refine Tm_no (fun z => k8 ((lx_k (kk := 8) s1.1.1 (by decide)).1 z)) ?_
        refine fin ?_
        rw [G_12, if_neg (fun z => z.elim k6 k8)] at hg
        exact (Option.some.inj hg).symm
/-- from the name on, when it is found -/
theorem c_tg1 {i : Nat} {x : Option RT} {e1 : Nat} {bt1 : BT} (h : QS T n b u al tb o q v mk p sz σ) (ev : EvX E b u al gl Vm tb σ) (n10 : n ≤ 10240) (hmk : mk ≤ 2 * q + 18 * o) (hsz : 2 * sz + 3 * (n - q) + 100 ≤ 73728) (hnt : tb.length + (60 - v) ≤ 256) (hp : p ≤ 3 * v) (hi : i < tb.length) (hs : (tb.getD i e0E).2.2.2.1 = s ∧ (tb.getD i e0E).2.2.1 = ow) (l2 : L.1 2 = nI i) (hG : G T n f 12 E o q v 1 e1 0 0 bt1 = some x) : Tm (fun k => f_X5_target k 1 L σ) (QPo b u tb.length sz mk x (fun r y τ => TtR T n b u al gl Vm tb o mk p sz q v s ow r y τ) σ 0 0) := by
  have s0 := Sy_0 h
  obtain ⟨hs1, hs2⟩ := hs
  have t256 := h.2.2.2.1.2.1
  have go := tk_go h
  have o20 := h.2.2.2.2.2.1.2
  obtain ⟨t1, t2, t3, t4, t5, t6, t7⟩ := h.2.2.2.1.2.2 i hi
  rw [hs1] at t6
  rw [hs2] at t5
  have ii : ¬ (nI i < 0 ∨ 256 ≤ (nI i).toNatClampNeg) := n_in (by omega) (by omega)
  refine Tm_suc (fun k => by rw [f_X5_target]) ?_
  refine Tm_oP (Sy_pp s0) ?_
  rw [l2]
  refine Tm_chk ii ?_
  rw [n_cl (by omega), t6]
  refine st_mark s0 (by omega) (fun τ1 m1 m2 s1 k1 w1 => ?_)
  refine Tm_oP (Sy_pp s1) ?_
  refine Tm_chk (n_in2 (by omega) (by omega)) ?_
  have e8 : τ1.2.2.1 (pR8 b) (L.1 2).toNatClampNeg = nI ow := by
    rw [l2, n_cl (by omega)]
    have z := (s1.1.2.1.2.2.2.2.1 i hi).2.1.2
    rw [z]; exact t5
  have e8' : τ1.2.2.1 (pR8 b) i = nI ow := by rw [l2, n_cl (by omega)] at e8; exact e8
  rw [e8']
  refine st_mark s1 (by omega) (fun τ2 m3 m4 s2 k2 w2 => ?_)
  refine st_mark s2 (by omega) (fun τ3 m5 m6 s3 k3 w3 => ?_)
  refine st_mark s3 (by omega) (fun τ4 m7 m8 s4 k4 w4 => ?_)
  have wd0 : wdN [] = 0 := rfl
  refine c_tgL (σ := σ) (nc0 := tb.length) (sz0 := sz) (q0 := q) (v0 := v) (fun τ' xk => EvX_k ev xk) n10 hmk hsz hnt hp (Nat.le_refl _) f _ τ4 _ _ q v 1 e1 0 bt1 [] [] hG rfl rfl rfl (Nat.zero_le _) s4 ⟨⟨?_, ?_, ?_, ?_⟩, fun i hi => absurd hi (Nat.not_lt_zero _)⟩ (fun i hi => absurd hi (Nat.not_lt_zero _)) (by rw [wd0]; exact Sgm_nil u p gl Vm) (by show 2 * 0 + 2 * 0 ≤ _; omega) (Nat.le_refl _) (Nat.le_refl _)
  · rw [k4 _ (by omega), k3 _ (by omega), k2 _ (by omega)]; exact w1
  · rw [k4 _ (by omega), k3 _ (by omega)]; exact w2
  · rw [k4 _ (by omega), wd0]; exact w3
  · exact w4
end CXB

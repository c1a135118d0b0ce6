/-! The class: plain statements are read. -/
section CXQ
variable {σ σ' σ0 τ τ' τ0 : CS} {L : LV} {b : Bool} {T : Nat → Int32} {n q q' u al o v mk mk' p sz szB szE nc nc0 sz0 mk0 a1 a2 m kk f e s ow a t0 g D op w st w' st' M nm deep vv np lp N Bd ns k : Nat} {y qh qh' y0 y1 wd : Int32} {l l' cs cs' cs2 ll lt lt0 : List Int32} {tb : List Ent} {E : En} {gl : Nat × (Nat → Nat → Prop)} {Vm : Nat → Prop} {Pc : Nat → Nat → Prop} {MD : Nat → Nat → Nat} {md : Nat → Nat} {bt : BT} {ks qs qs' qa qb : List Nat} {lo lo' : Option Nat}
/-- the newest of some quits, and those before them -/
def hdQ (szB : Nat) (y0 : Int32) : List Nat → Int32
  | [] => y0
  | j :: _ => nI (szB + j)
/-- quits that wait, each telling the one before it -/
def JsT (szB : Nat) (cs : List Int32) (y0 : Int32) : List Nat → Prop
  | [] => True
  | j :: js => j < cs.length ∧ 1 ≤ szB + j ∧ cs.getD j 0 = em 3 (hdQ szB y0 js) ∧ (∀ i, i ∈ js → ¬ i = j) ∧ JsT szB cs y0 js
theorem hdQ_0 (szB : Nat) : ∀ js : List Nat, hdQ szB 0 js = nI (jsH szB js)
  | [] => rfl
  | _ :: _ => rfl
theorem JsT_0 : ∀ js : List Nat, JsT szB cs 0 js → JsC szB cs js
  | [], _ => trivial
  | j :: js, h => ⟨h.1, h.2.1, by rw [← hdQ_0]; exact h.2.2.1, h.2.2.2.1, JsT_0 js h.2.2.2.2⟩
theorem JsT_l : ∀ js : List Nat, JsT szB cs y0 js → ∀ h, h ∈ js → h < cs.length
  | [], _, h, hh => absurd hh List.not_mem_nil
  | j :: js, z, h, hh => by
    rcases List.mem_cons.1 hh with y | y
    · rw [y]; exact z.1
    · exact JsT_l js z.2.2.2.2 h y
/-- other places may change -/
theorem JsT_o : ∀ js : List Nat, JsT szB cs y0 js → cs.length ≤ cs2.length → (∀ i, i ∈ js → cs2.getD i 0 = cs.getD i 0) → JsT szB cs2 y0 js
  | [], _, _, _ => trivial
  | j :: js, z, hl, he => ⟨Nat.lt_of_lt_of_le z.1 hl, z.2.1, by rw [he j List.mem_cons_self]; exact z.2.2.1, z.2.2.2.1, JsT_o js z.2.2.2.2 hl (fun i hi => he i (List.mem_cons_of_mem _ hi))⟩
/-- one behind another -/
theorem JsT_s : ∀ (js qa : List Nat), JsT szB cs y0 qa → JsT (szB + cs.length) cs2 (hdQ szB y0 qa) js → JsT szB (cs ++ cs2) y0 (shQ cs.length js ++ qa) ∧ hdQ szB y0 (shQ cs.length js ++ qa) = hdQ (szB + cs.length) (hdQ szB y0 qa) js
  | [], qa, h, _ => ⟨JsT_o qa h (by rw [List.length_append]; omega) (fun i hi => gd_l (JsT_l qa h i hi)), rfl⟩
  | j :: js, qa, h, k => by
    obtain ⟨i1, i2⟩ := JsT_s js qa h k.2.2.2.2
    refine ⟨⟨?_, ?_, ?_, fun i hi => ?_, i1⟩, ?_⟩
    · show cs.length + j < (cs ++ cs2).length
      rw [List.length_append]; have := k.1; omega
    · show 1 ≤ szB + (cs.length + j)
      have := k.2.1; omega
    · show (cs ++ cs2).getD (cs.length + j) 0 = em 3 (hdQ szB y0 (shQ cs.length js ++ qa))
      rw [gd_r, k.2.2.1, i2]
    · show ¬ i = cs.length + j
      rcases List.mem_append.1 hi with z | z
      · obtain ⟨i', z1, z2⟩ := shQ_m.1 z
        have := k.2.2.2.1 i' z1
        omega
      · have := JsT_l qa h i z
        omega
    · show nI (szB + (cs.length + j)) = nI (szB + cs.length + j)
      rw [Nat.add_assoc]
/-- quits in another order -/
theorem Stm_q (h : Stm u gl Pc Vm w N lo Bd ns qs cs) (hm : ∀ i, i ∈ qs' ↔ i ∈ qs) (pw : qs'.Pairwise (fun a b => ¬ a = b)) : Stm u gl Pc Vm w N lo Bd ns qs' cs := by
  obtain ⟨⟨p1, p2⟩, hh⟩ := h
  refine ⟨⟨fun i hi => p1 i ((hm i).1 hi), pw⟩, fun O H nu R ρ c ms C ti eN no hD cn lp hR1 hR2 h2 hB hN hC1 hC2 => ?_⟩
  obtain ⟨D, t, e1, e2, e3⟩ := hh O H nu R ρ c ms C ti eN no hD cn lp hR1 hR2 h2 hB hN hC1 (fun i hi hn => hC2 i hi (fun z => hn ((hm i).1 z)))
  exact ⟨D, TI_h t (fun q => ⟨fun z => z.imp id (fun ⟨i, a1, a2⟩ => ⟨i, (hm i).1 a1, a2⟩), fun z => z.imp id (fun ⟨i, a1, a2⟩ => ⟨i, (hm i).2 a1, a2⟩)⟩), e1, e2, fun i hi => e3 i ((hm i).1 hi)⟩
theorem JsT_p : ∀ js : List Nat, JsT szB cs y0 js → js.Pairwise (fun a b => ¬ a = b)
  | [], _ => List.Pairwise.nil
  | j :: js, z => List.Pairwise.cons (fun a ha e => z.2.2.2.1 a ha e.symm) (JsT_p js z.2.2.2.2)
/-- so many quits at most wait -/
def lqN (lo : Option Nat) (ns : Nat) : Nat := match lo with
  | none => 0
  | some _ => ns
theorem lqN_m {x y : Nat} (h : x ≤ y) : lqN lo x ≤ lqN lo y := by
  cases lo with
  | none => exact Nat.le_refl _
  | some _ => exact h
theorem lqN_a {x y a b : Nat} (h1 : a ≤ lqN lo x) (h2 : b ≤ lqN lo y) : a + b ≤ lqN lo (x + y) := by
  cases lo with
  | none =>
    have h1' : a ≤ 0 := h1
    have h2' : b ≤ 0 := h2
    show a + b ≤ 0
    omega
  | some _ =>
    have h1' : a ≤ x := h1
    have h2' : b ≤ y := h2
    show a + b ≤ x + y
    omega
/-- behind a statement that began at N -/
def S1R (T : Nat → Int32) (n : Nat) (b : Bool) (u al : Nat) (gl : Nat × (Nat → Nat → Prop)) (Pc : Nat → Nat → Prop) (Vm : Nat → Prop) (tb : List Ent) (o mk N q v w st : Nat) (lo : Option Nat) (qh : Int32) (Bd c : Nat) (r : Nat × Nat × Nat) (τ : CS) : Prop := ∃ (ll : List Int32) (qs : List Nat) (ns : Nat), QS T n b u al tb o r.1 r.2.1 mk 0 (N + 1 + ll.length) τ ∧ (∀ i, i < ll.length → cdr b τ (N + 1 + i) = ll.getD i 0) ∧ ZF b u w r.2.2 lo (hdQ N qh qs) τ ∧ Stm u gl Pc Vm w N lo Bd ns qs (em 0 (nI q) :: ll) ∧ JsT N (em 0 (nI q) :: ll) qh qs ∧ (2 * ll.length ≤ 7 * (r.1 - q) + c ∧ ns + st ≤ r.2.2 + 1 ∧ qs.length ≤ lqN lo ns) ∧ q < r.1 ∧ v ≤ r.2.1
/-! the grammar of plain statements, without the ; -/
def gP0 (T : Nat → Int32) (n f : Nat) (E : En) (o k q v : Nat) (b : BT) : RG := if k = 51 then (if tkK T n q = 13 then some (some (q, v, 0, 0, b, [])) else G T n f 0 E o q v 0 0 0 0 b) else if k = 52 then (if tkK T n q = 6 then gO o (gT T n q (fun q2 => gb (gb (G T n f 0 E (o + 1) q2 v 0 0 0 0 b) (fun r => GPr T n E f (o + 1) r.1 r.2.1 r.2.2.2.1 r.2.2.2.2.1)) (fun s => gW T n 7 s.1 (fun q3 => some (some (q3, s.2.1, 0, 0, b, [])))))) else some none) else if k = 53 then G T n f 0 E o q v 0 0 0 0 b else some (some (q, v, 0, 0, b, []))
theorem gSm_0 {x : Option RT} (h : gSm T n f lp E o q v bt = some x) (hk : 49 ≤ tkK T n q ∧ tkK T n q ≤ 56) : ((((tkK T n q = 49 ∨ tkK T n q = 50) ∧ lp = 0) ∨ (tkK T n q = 51 ∧ (E.2.2.2.1 = 0 ∨ 41 < E.2.2.2.1))) ∧ x = none) ∨ (¬ (((tkK T n q = 49 ∨ tkK T n q = 50) ∧ lp = 0) ∨ (tkK T n q = 51 ∧ (E.2.2.2.1 = 0 ∨ 41 < E.2.2.2.1))) ∧ ∃ z, gT T n q (fun q1 => gP0 T n f E o (tkK T n q) q1 v bt) = some z ∧ Sem T n x (zq z)) := by
  unfold gSm at h
  by_cases hb : (((tkK T n q = 49 ∨ tkK T n q = 50) ∧ lp = 0) ∨ (tkK T n q = 51 ∧ (E.2.2.2.1 = 0 ∨ 41 < E.2.2.2.1)))
  · rw [if_pos hb] at h
    exact Or.inl ⟨hb, (Option.some.inj h).symm⟩
  rw [if_neg hb] at h
  refine Or.inr ⟨hb, ?_⟩
  rcases gT_any h with ⟨w1, w2⟩ | ⟨w1, w2⟩
  · exact ⟨none, gT_n w1, Or.inl ⟨rfl, w2⟩⟩
  rw [gT_y w1]
  unfold gSm0 gS13 at w2
  unfold gP0
  by_cases k51 : tkK T n q = 51
  · rw [if_pos (by omega)] at w2
    rw [if_pos k51]
    by_cases k13 : tkK T n (tkN T n q) = 13
    · rw [if_pos k13] at w2 ⊢
      exact ⟨some _, rfl, Or.inr ⟨_, _, _, rfl, w2⟩⟩
    · rw [if_neg k13] at w2 ⊢
      rcases gb_any w2 with ⟨y1, y2⟩ | ⟨s, y1, y2⟩
      · exact ⟨none, y1, Or.inl ⟨rfl, y2⟩⟩
      · exact ⟨some s, y1, Or.inr ⟨_, _, _, rfl, y2⟩⟩
  rw [if_neg (by omega)] at w2
  rw [if_neg k51]
  by_cases k52 : tkK T n q = 52
  · rw [if_pos (by omega)] at w2
    rw [if_pos k52]
    by_cases k6 : tkK T n (tkN T n q) = 6
    case neg =>
      rw [if_neg k6] at w2 ⊢
      exact ⟨none, rfl, Or.inl ⟨rfl, (Option.some.inj w2).symm⟩⟩
    rw [if_pos k6] at w2 ⊢
    rcases gO_any w2 with ⟨y1, y2⟩ | ⟨y1, y2⟩
    · exact ⟨none, by unfold gO; rw [if_pos y1], Or.inl ⟨rfl, y2⟩⟩
    unfold gO
    rw [if_neg y1]
    rcases gT_any y2 with ⟨y3, y4⟩ | ⟨y3, y4⟩
    · exact ⟨none, gT_n y3, Or.inl ⟨rfl, y4⟩⟩
    rw [gT_y y3]
    rcases gb_any y4 with ⟨y5, y6⟩ | ⟨r, y5, y6⟩
    · exact ⟨none, by rw [y5]; rfl, Or.inl ⟨rfl, y6⟩⟩
    rw [y5]
    show ∃ z, gb (GPr T n E f (o + 1) r.1 r.2.1 r.2.2.2.1 r.2.2.2.2.1) (fun s => gW T n 7 s.1 (fun q3 => some (some (q3, s.2.1, 0, 0, bt, [])))) = some z ∧ _
    rcases gb_any y6 with ⟨y7, y8⟩ | ⟨s, y7, y8⟩
    · exact ⟨none, by rw [y7]; rfl, Or.inl ⟨rfl, y8⟩⟩
    rw [y7]
    show ∃ z, gW T n 7 s.1 (fun q3 => some (some (q3, s.2.1, 0, 0, bt, []))) = some z ∧ _
    rcases gW_any y8 with ⟨y9, ya⟩ | ⟨y9, ya⟩
    · exact ⟨none, gW_n y9, Or.inl ⟨rfl, ya⟩⟩
    · exact ⟨some _, gW_y y9, Or.inr ⟨_, _, _, rfl, ya⟩⟩
  rw [if_neg (by omega)] at w2
  rw [if_neg k52]
  by_cases k53 : tkK T n q = 53
  · rw [if_pos (by omega)] at w2
    rw [if_pos k53]
    rcases gb_any w2 with ⟨y1, y2⟩ | ⟨s, y1, y2⟩
    · exact ⟨none, y1, Or.inl ⟨rfl, y2⟩⟩
    · exact ⟨some s, y1, Or.inr ⟨_, _, _, rfl, y2⟩⟩
  · rw [if_neg (by omega)] at w2
    rw [if_neg k53]
    exact ⟨some _, rfl, Or.inr ⟨_, _, _, rfl, w2⟩⟩
theorem ck_w {k : Nat} (h : 49 ≤ k ∧ k ≤ 56) : cKd k = nI k := by
  have c : k = 49 ∨ k = 50 ∨ k = 51 ∨ k = 52 ∨ k = 53 ∨ k = 54 ∨ k = 55 ∨ k = 56 := by omega
  rcases c with c | c | c | c | c | c | c | c <;> (rw [c]; rfl)
theorem c_plain {x : Option RT} (h : QS T n b u al tb o q v mk 0 (N + 1) σ) (zf : ZF b u w st lo qh σ) (sx : StX n E b u al gl Vm Pc MD tb σ) (bd : BdS n o q v mk (N + 1) tb.length) (hk : 49 ≤ tkK T n q ∧ tkK T n q ≤ 56 ∧ ¬ tkK T n q = 52) (hl : tkK T n q = 49 ∨ tkK T n q = 50 → ∃ P0, lo = some P0) (hu : tkK T n q = 51 → ¬ u = 0) (hp : q < 8388608) (hG : gT T n q (fun q1 => gP0 T n f E o (tkK T n q) q1 v bt) = some x) : Tm (fun k => f_X5_plainStatement k 0 L σ) (ZPo b u tb.length (N + 1) mk (zq x) (fun r _ τ => S1R T n b u al gl Pc Vm tb o mk N q v w st lo qh Bd 0 (r.1, r.2, st) τ) σ 0 0) := by
  have s0 := Zy_0 h zf
  have go := tk_go h
  have g1 := go.2.2 (by omega)
  obtain ⟨bd1, bd2, bd3⟩ := bd
  obtain ⟨ev, pr, pe, n3, n10⟩ := sx
  have e2 : σ.1 3702 = nI (tkK T n q) := by rw [h.1.2.2.2.2.2.1]; exact ck_w ⟨hk.1, hk.2.1⟩
  have v60 := h.2.2.2.2.2.2.1.2
  have st4 := zf.2.1.2
  refine Tm_suc (fun k => by rw [f_X5_plainStatement]) ?_
  rcases gT_any hG with ⟨w1, w2⟩ | ⟨w1, w2⟩
  · rw [w2]
    exact zt_adv (C := False) s0 (Or.inl ⟨w1, rfl⟩) (fun _ _ _ _ c _ _ => c.elim)
  refine zt_adv (C := True) s0 (Or.inr ⟨w1, trivial⟩) (fun τ1 ret1 n1 n2 _ s1 xk1 => ?_)
  have go1 := tk_go s1.1.1
  have ev1 := EvX_z ev s1.1.2.1
  have bdx : BdX n o (tkN T n q) v mk 0 (N + 1 + 0) tb.length := ⟨n10, by omega, by omega, bd3, by omega⟩
  -- a piece that is whole in itself
  have fin : ∀ (L' : LV) (τ' : CS) (a1 a2 q2 v2 : Nat) (ll : List Int32) (x : Option RT), zq x = some (q2, v2) → Zy T n b u al σ tb.length (N + 1) mk a1 a2 tb o q2 v2 mk w st lo qh (N + 1) ll τ' → Stm u gl Pc Vm w N lo Bd 1 [] (em 0 (nI q) :: ll) → 2 * ll.length ≤ 7 * (q2 - q) → q < q2 → v ≤ v2 → Tm (fun k => f_X5_plainStatement k 8 L' τ') (ZPo b u tb.length (N + 1) mk (zq x) (fun r _ τ => S1R T n b u al gl Pc Vm tb o mk N q v w st lo qh Bd 0 (r.1, r.2, st) τ) σ a1 a2) := by
    intro L' τ' a1 a2 q2 v2 ll x hx s2 ty ln lq lv
    refine Tm_suc (fun k => by rw [f_X5_plainStatement]) ?_
    rw [hx]
    exact Tm_some (Zfin s2 ⟨ll, [], 1, s2.1.1, s2.2.1, s2.2.2, ty, trivial, ⟨by show 2 * ll.length ≤ 7 * (q2 - q) + 0; omega, by show 1 + st ≤ st + 1; omega, Nat.zero_le _⟩, lq, lv⟩)
  unfold gP0 at w2
  rw [e2]
  by_cases k49 : tkK T n q = 49
  · -- quit
    rw [k49, if_neg (by decide), if_neg (by decide), if_neg (by decide)] at w2
    rw [k49]
    refine Tm_yes rfl ?_
    refine Tm_suc (fun k => by rw [f_X5_plainStatement]) ?_
    refine Tm_oP (Zy_pp s1) ?_
    have e9 : τ1.1 4009 = qh := s1.2.2.2.2.2.1
    rw [e9]
    refine zt_emit (op := 3) s1 rfl rfl (by show N + 1 + 0 + 1 ≤ _; omega) (fun τ2 n3' n4 s2 xk2 => ?_)
    have zf2 := s2.2.2
    have fc := fP_c b 3
    have s3 : Zy T n b u al σ tb.length (N + 1) mk (0 + n1 + n3') (0 + n2 + n4) tb o (tkN T n q) v mk w st lo (nI (N + 1)) (N + 1) [em 3 qh] (uI τ2 4009 (nI (N + 1))) := Zy_g s2 (fun j hj => uI_o (by omega)) rfl (by rw [uI_o (by decide)]; exact s2.1.1.2.2.1.1) (Nat.le_refl _) (Nat.le_refl _) ⟨zf2.1, ⟨by rw [uI_o (by omega)]; exact zf2.2.1.1, zf2.2.1.2⟩, by rw [uI_o (by decide)]; exact zf2.2.2.1, uI_s, zf2.2.2.2.2⟩
    refine Tm_suc (fun k => by rw [f_X5_plainStatement]) ?_
    rw [← Option.some.inj w2]
    refine Tm_some (Zfin s3 ⟨[em 3 qh], [1], 1, s3.1.1, s3.2.1, s3.2.2, Stm_qu hp, ⟨by show 1 < 2; decide, by omega, rfl, fun i hi => absurd hi List.not_mem_nil, trivial⟩, ⟨by show 2 * 1 ≤ 7 * (tkN T n q - q) + 0; omega, by show 1 + st ≤ st + 1; omega, by obtain ⟨P0, eP⟩ := hl (Or.inl k49); rw [eP]; exact Nat.le_refl 1⟩, g1, Nat.le_refl _⟩)
  refine Tm_no (by show ¬ nI (tkK T n q) = nI 49; rw [n_eq (by omega) (by decide)]; exact k49) ?_
  by_cases k50 : tkK T n q = 50
  · -- continue
    rw [k50, if_neg (by decide), if_neg (by decide), if_neg (by decide)] at w2
    obtain ⟨P0, hl0⟩ := hl (Or.inr k50)
    rw [k50]
    refine Tm_yes rfl ?_
    refine Tm_suc (fun k => by rw [f_X5_plainStatement]) ?_
    refine Tm_oP (Zy_pp s1) (Tm_oP (Zy_pp s1) ?_)
    refine zt_emit (op := 3) s1 rfl rfl (by show N + 1 + 0 + 1 ≤ _; omega) (fun τ2 n3' n4 s2 xk2 => ?_)
    have s2' : Zy T n b u al σ tb.length (N + 1) mk (0 + n1 + n3') (0 + n2 + n4) tb o (tkN T n q) v mk w st lo qh (N + 1) [em 3 0] τ2 := s2
    have e8 : τ2.1 4008 = nI P0 := by have z := s2'.2.2.2.2.1; rw [hl0] at z; exact z
    refine Tm_op (c_aim (op := 3) (x := 0) (h := 0) (Sy_z s2') (Nat.le_refl _) (by show 0 < 1; decide) (by decide) rfl rfl rfl) (fun r3 z3 => ?_)
    have s3 := Zy_s s2' z3 (Nat.le_refl _)
    have ew : (lI (lI (lB lZ 0 b) 1 (nI (N + 1))) 2 (τ2.1 4008)).1 2 - (lI (lI (lB lZ 0 b) 1 (nI (N + 1))) 2 (τ2.1 4008)).1 1 = nI P0 - nI (N + 1) := by
      show τ2.1 4008 - nI (N + 1) = _
      rw [e8]
    have s3' : Zy T n b u al σ tb.length (N + 1) mk (0 + n1 + n3' + 0) (0 + n2 + n4 + 0) tb o (tkN T n q) v mk w st lo qh (N + 1) [em 3 (nI P0 - nI (N + 1))] r3.2 := by
      have z : [em 3 (nI P0 - nI (N + 1))] = [em 3 0].set 0 (em 3 ((lI (lI (lB lZ 0 b) 1 (nI (N + 1))) 2 (τ2.1 4008)).1 2 - (lI (lI (lB lZ 0 b) 1 (nI (N + 1))) 2 (τ2.1 4008)).1 1)) := by rw [ew]; rfl
      rw [z]; exact s3
    refine fin _ r3.2 _ _ (tkN T n q) v _ x (by rw [← Option.some.inj w2]; rfl) s3' (Stm_co hl0 hp) (by show 2 * 1 ≤ _; omega) g1 (Nat.le_refl _)
  refine Tm_no (by show ¬ nI (tkK T n q) = nI 50; rw [n_eq (by omega) (by decide)]; exact k50) ?_
  by_cases k51 : tkK T n q = 51
  · -- return
    rw [if_pos k51] at w2
    rw [k51]
    refine Tm_yes rfl ?_
    have b10 : ∀ (L' : LV) (τ' : CS) (a1 a2 q2 v2 : Nat) (ll : List Int32) (x : Option RT), zq x = some (q2, v2) → Zy T n b u al σ tb.length (N + 1) mk a1 a2 tb o q2 v2 mk w st lo qh (N + 1) ll τ' → Sgm u 0 gl Vm 1 ll → 2 * ll.length ≤ 3 * (q2 - q) + 2 → q < q2 → v ≤ v2 → Tm (fun k => f_X5_plainStatement k 10 L' τ') (ZPo b u tb.length (N + 1) mk (zq x) (fun r _ τ => S1R T n b u al gl Pc Vm tb o mk N q v w st lo qh Bd 0 (r.1, r.2, st) τ) σ a1 a2) := by
      intro L' τ' a1 a2 q2 v2 ll x hx s2 sg ln lq lv
      have go2 := tk_go s2.1.1
      refine Tm_suc (fun k => by rw [f_X5_plainStatement]) ?_
      refine Tm_oP (Zy_pp s2) ?_
      refine zt_emit (op := 20) s2 rfl rfl (by omega) (fun τ3 n3' n4 s3 xk3 => ?_)
      have s3' : Zy T n b u al σ tb.length (N + 1) mk (a1 + n3') (a2 + n4) tb o q2 v2 mk w st lo qh (N + 1) (ll ++ [em 20 0]) τ3 := s3
      have ty : Sse u gl Pc Vm [] 0 0 0 (ll ++ [em 20 0]) := by
        have z := Sst_sg (Pc := Pc) (pre := []) sg 0
        have z2 := Sse_i (pre := []) (Is_ep (u := u) (gl := gl) (Pc := Pc) (Vm := Vm) (m := 0 + 1) (by omega) (hu k51)) (Nat.le_refl _) (by omega)
        exact Sse_seq z z2 (by have := sg.1; omega)
      refine fin _ τ3 _ _ q2 v2 _ x hx s3' (Stm_s ty (by omega) hp) ?_ lq lv
      rw [List.length_append]
      show 2 * (ll.length + 1) ≤ _
      omega
    have w6 := tk_wl (m := 6) h k51 (by decide) rfl
    refine Tm_suc (fun k => by rw [f_X5_plainStatement]) ?_
    by_cases k13 : tkK T n (tkN T n q) = 13
    · rw [if_pos k13] at w2
      refine Tm_yes ((lx_k (kk := 13) s1.1.1 (by decide)).2 k13) ?_
      refine zt_push s1 lit_om (by show N + 1 + 0 + 2 ≤ _; omega) (fun τ2 ret2 n3' n4 s2 xk2 => ?_)
      exact b10 _ τ2 _ _ (tkN T n q) v _ x (by rw [← Option.some.inj w2]; rfl) s2 (Sgm_1 (by show 1 ≤ 2; decide) (by show 1 ≤ 2; decide) (It_pu lit_om)) (by show 2 * 2 ≤ _; omega) g1 (Nat.le_refl _)
    · rw [if_neg k13] at w2
      refine Tm_no (fun z => k13 ((lx_k (kk := 13) s1.1.1 (by decide)).1 z)) ?_
      refine Tm_suc (fun k => by rw [f_X5_plainStatement]) ?_
      cases x with
      | none => exact zt_exp (C := True) s1 ev1 bdx rfl w2 (Or.inl ⟨rfl, rfl⟩) (fun _ _ _ _ _ _ z => by cases z)
      | some r =>
        refine zt_exp (C := True) s1 ev1 bdx rfl w2 (Or.inr ⟨r, rfl, trivial⟩) (fun τ2 ret2 n3' n4 r' ll hz _ s2 xk2 sg ln lt lv tg => ?_)
        cases hz
        exact b10 _ τ2 _ _ r.1 r.2.1 ll (some r) rfl s2 sg (by omega) (by omega) lv
  refine Tm_no (by show ¬ nI (tkK T n q) = nI 51; rw [n_eq (by omega) (by decide)]; exact k51) ?_
  rw [if_neg k51, if_neg hk.2.2] at w2
  refine Tm_no (by show ¬ nI (tkK T n q) = nI 52; rw [n_eq (by omega) (by decide)]; exact hk.2.2) ?_
  by_cases k53 : tkK T n q = 53
  · -- assert
    rw [if_pos k53] at w2
    rw [k53]
    refine Tm_yes rfl ?_
    have w6 := tk_wl (m := 6) h k53 (by decide) rfl
    refine Tm_suc (fun k => by rw [f_X5_plainStatement]) ?_
    cases x with
    | none => exact zt_exp (C := True) s1 ev1 bdx rfl w2 (Or.inl ⟨rfl, rfl⟩) (fun _ _ _ _ _ _ z => by cases z)
    | some r =>
      refine zt_exp (C := True) s1 ev1 bdx rfl w2 (Or.inr ⟨r, rfl, trivial⟩) (fun τ2 ret2 n3' n4 r' ll hz _ s2 xk2 sg ln lt lv tg => ?_)
      cases hz
      have go2 := tk_go s2.1.1
      refine Tm_oP (Zy_pp s2) ?_
      have s2' : Zy T n b u al σ tb.length (N + 1) mk (0 + n1 + n3') (0 + n2 + n4) tb o r.1 r.2.1 mk w st lo qh (N + 1) ll τ2 := s2
      refine zt_emit (op := 24) s2' rfl rfl (by omega) (fun τ3 n5 n6 s3 xk3 => ?_)
      have s3' : Zy T n b u al σ tb.length (N + 1) mk (0 + n1 + n3' + n5) (0 + n2 + n4 + n6) tb o r.1 r.2.1 mk w st lo qh (N + 1) (ll ++ [em 24 0]) τ3 := s3
      have ty : Sse u gl Pc Vm [] 0 0 0 (ll ++ [em 24 0]) := by
        have z := Sst_sg (Pc := Pc) (pre := []) sg 0
        have z2 := Sse_i (pre := []) (Is_as (u := u) (gl := gl) (Pc := Pc) (Vm := Vm) (pre := []) (n := 0)) (Nat.le_refl _) (by omega)
        exact Sse_seq z z2 (by have := sg.1; omega)
      refine fin _ τ3 _ _ r.1 r.2.1 _ (some r) rfl s3' (Stm_s ty (by omega) hp) ?_ (by omega) lv
      rw [List.length_append]
      show 2 * (ll.length + 1) ≤ _
      omega
  refine Tm_no (by show ¬ nI (tkK T n q) = nI 53; rw [n_eq (by omega) (by decide)]; exact k53) ?_
  rw [if_neg k53] at w2
  have hx : zq x = some (tkN T n q, v) := by rw [← Option.some.inj w2]; rfl
  by_cases k54 : tkK T n q = 54
  · rw [k54]
    refine Tm_yes rfl ?_
    refine Tm_suc (fun k => by rw [f_X5_plainStatement]) ?_
    refine Tm_oP (Zy_pp s1) ?_
    refine zt_emit (op := 2) s1 rfl rfl (by show N + 1 + 0 + 1 ≤ _; omega) (fun τ2 n3' n4 s2 xk2 => ?_)
    exact fin _ τ2 _ _ (tkN T n q) v [em 2 0] x hx s2 (Stm_s (Sse_i Is_st (Nat.le_refl _) (by omega)) (Nat.zero_le _) hp) (by show 2 * 1 ≤ _; omega) g1 (Nat.le_refl _)
  refine Tm_no (by show ¬ nI (tkK T n q) = nI 54; rw [n_eq (by omega) (by decide)]; exact k54) ?_
  by_cases k55 : tkK T n q = 55
  · rw [k55]
    refine Tm_yes rfl ?_
    refine Tm_suc (fun k => by rw [f_X5_plainStatement]) ?_
    refine Tm_oP (Zy_pp s1) ?_
    refine zt_emit (op := 23) s1 rfl rfl (by show N + 1 + 0 + 1 ≤ _; omega) (fun τ2 n3' n4 s2 xk2 => ?_)
    exact fin _ τ2 _ _ (tkN T n q) v [em 23 0] x hx s2 (Stm_s (Sse_i Is_su (Nat.le_refl _) (by omega)) (Nat.zero_le _) hp) (by show 2 * 1 ≤ _; omega) g1 (Nat.le_refl _)
  refine Tm_no (by show ¬ nI (tkK T n q) = nI 55; rw [n_eq (by omega) (by decide)]; exact k55) ?_
  refine Tm_suc (fun k => by rw [f_X5_plainStatement]) ?_
  refine Tm_oP (Zy_pp s1) ?_
  refine zt_emit (op := 22) s1 rfl rfl (by show N + 1 + 0 + 1 ≤ _; omega) (fun τ2 n3' n4 s2 xk2 => ?_)
  exact fin _ τ2 _ _ (tkN T n q) v [em 22 0] x hx s2 (Stm_fa hp) (by show 2 * 1 ≤ _; omega) g1 (Nat.le_refl _)
end CXQ

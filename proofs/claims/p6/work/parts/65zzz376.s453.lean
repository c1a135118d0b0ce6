/-! The class: choices are read. -/
section CVL
variable {σ σ' σ0 τ τ' : CS} {L : LV} {b : Bool} {T : Nat → Int32} {n q q' u al o v mk p sz szB nc0 sz0 mk0 a1 a2 m kk f e t : Nat} {y w : Int32} {l l' cs cs' : List Int32} {tb : List Ent} {α : Type} {S : α → Int32 → CS → Prop} {C : Prop} {E : En} {gl : Nat × (Nat → Nat → Prop)} {Vm : Nat → Prop} {bt : BT}
theorem gW_a3 {t : Nat} {k : Nat → RG} {y : Option RT} (h : gW T n t q k = some y) : (¬ (tkK T n q = t ∧ ¬ tkK T n (tkN T n q) = 0) ∧ y = none) ∨ ((tkK T n q = t ∧ ¬ tkK T n (tkN T n q) = 0) ∧ (tkK T n q = t ∧ k (tkN T n q) = some y)) := by
  rcases gW_any h with z | z
  · exact Or.inl z
  · exact Or.inr ⟨z.1, z.1.1, z.2⟩
theorem gb_gb (x : RG) (k k' : RT → RG) : gb (gb x k) k' = gb x (fun r => gb (k r) k') := by
  rcases x with _ | _ | x
  · rfl
  · rfl
  · rfl
theorem gb_gT (q : Nat) (k : Nat → RG) (k' : RT → RG) : gb (gT T n q k) k' = gT T n q (fun q1 => gb (k q1) k') := by
  unfold gT
  by_cases c : tkK T n (tkN T n q) = 0
  · rw [if_pos c, if_pos c]; rfl
  · rw [if_neg c, if_neg c]
theorem gb_gW (t q : Nat) (k : Nat → RG) (k' : RT → RG) : gb (gW T n t q k) k' = gW T n t q (fun q1 => gb (k q1) k') := by
  unfold gW
  by_cases c : tkK T n q = t
  · rw [if_pos c, if_pos c, gb_gT]
  · rw [if_neg c, if_neg c]; rfl
theorem gb_gO (o : Nat) (k : RG) (k' : RT → RG) : gb (gO o k) k' = gO o (gb k k') := by
  unfold gO
  by_cases c : o = 20
  · rw [if_pos c, if_pos c]; rfl
  · rw [if_neg c, if_neg c]
def jsM (js : List Nat) : List (Nat × Nat × Nat) := js.map (fun j => (j, 3, 1))
theorem Ph_js : ∀ (js : List Nat) (cs : List Int32), PKh u p gl Vm (jsM js) 1 cs → PKh u p gl Vm [] 1 (jsF cs js)
  | [], cs, h => h
  | j :: js, cs, h => by
    have z := Ph_fi (h := j) (op := 3) (tt := 1) h rfl
    exact Ph_js js _ z
theorem jsF_l : ∀ (js : List Nat) (cs : List Int32), (jsF cs js).length = cs.length
  | [], cs => rfl
  | j :: js, cs => by
    show (jsF (cs.set j (em 3 (nI (cs.length - j)))) js).length = _
    rw [jsF_l js, List.length_set]
theorem JsC_ap : ∀ (js : List Nat), JsC szB cs js → JsC szB (cs ++ l) js
  | [], _ => trivial
  | j :: js, z => by
    obtain ⟨z1, z2, z3, z4, z5⟩ := z
    exact ⟨by rw [List.length_append]; omega, z2, by rw [gd_l z1]; exact z3, z4, JsC_ap js z5⟩
theorem JsC_lt : ∀ (js : List Nat), JsC szB cs js → ∀ i, i ∈ js → i < cs.length
  | [], _, i, h => absurd h List.not_mem_nil
  | j :: js, z, i, h => by
    rcases List.mem_cons.1 h with y | y
    · rw [y]; exact z.1
    · exact JsC_lt js z.2.2.2.2 i y
theorem ch_0 (k d : Nat) (L : LV) (σ : CS) : f_F2 (k + 1) d 0 0 L σ = (ox (f_X5_opens k 0 lZ σ) (fun r1 => of d (fun e2 => ox (f_F2 k e2 1 0 (lI lZ 1 0) r1.2.1) (fun r2 => ox (f_X5_expect k 0 (lI lZ 1 40) r2.2.1) (fun r3 => oP (sPp r3.2.1) (fun b4 => ox (f_X7_emit__P k 0 (lI (lI (lB lZ 0 b4) 1 4) 2 0) r3.2.1) (fun r5 => of d (fun e6 => ox (f_F2 k e6 1 0 (lI lZ 1 0) r5.2.1) (fun r6 => oP (sPp r6.2.1) (fun b7 => ox (f_X7_emit__P k 0 (lI (lI (lB lZ 0 b7) 1 3) 2 0) r6.2.1) (fun r8 => oP (sPp r8.2.1) (fun b9 => oP (sPp r8.2.1) (fun b10 => op (y_X7_aim__P k 0 (lI (lI (lB lZ 0 b9) 1 r5.1.2) 2 ((r8.2.1.1 (fP b10 1)))) r8.2.1) (fun r11 => f_F2 k d 0 1 (lI (lI L 2 r8.1.2) 3 0) r11.2)))))))))))))) := rfl
theorem ch_1 (k d : Nat) (L : LV) (σ : CS) : f_F2 (k + 1) d 0 1 L σ = (if 32768 < ((L.1 3)) then (f_F2 k d 0 2 L σ) else (if ((σ.1 3702)) = 41 then (ox (f_X2_advance k 0 lZ σ) (fun r3 => of d (fun e4 => ox (f_F2 k e4 1 0 (lI lZ 1 0) r3.2.1) (fun r4 => ox (f_X5_expect k 0 (lI lZ 1 40) r4.2.1) (fun r5 => oP (sPp r5.2.1) (fun b6 => ox (f_X7_emit__P k 0 (lI (lI (lB lZ 0 b6) 1 4) 2 0) r5.2.1) (fun r7 => of d (fun e8 => ox (f_F2 k e8 1 0 (lI lZ 1 0) r7.2.1) (fun r8 => oP (sPp r8.2.1) (fun b9 => ox (f_X7_emit__P k 0 (lI (lI (lB lZ 0 b9) 1 3) 2 ((L.1 2))) r8.2.1) (fun r10 => oP (sPp r10.2.1) (fun b11 => oP (sPp r10.2.1) (fun b12 => op (y_X7_aim__P k 0 (lI (lI (lB lZ 0 b11) 1 r7.1.2) 2 ((r10.2.1.1 (fP b12 1)))) r10.2.1) (fun r13 => f_F2 k d 0 1 (lI (lI L 2 r10.1.2) 3 ((((L.1 3)) + 1))) r13.2)))))))))))))) else (f_F2 k d 0 2 L σ))) := rfl
theorem ch_2 (k d : Nat) (L : LV) (σ : CS) : f_F2 (k + 1) d 0 2 L σ = (ox (f_X5_expect k 0 (lI lZ 1 42) σ) (fun r1 => of d (fun e2 => ox (f_F2 k e2 1 0 (lI lZ 1 0) r1.2.1) (fun r2 => ox (f_X5_closes k 0 (lI lZ 1 38) r2.2.1) (fun r3 => op (y_X5_aimAll k 0 (lI lZ 1 ((L.1 2))) r3.2.1) (fun r4 => some ((0, 0), r4.2, (0, 0)))))))) := rfl
theorem c_choice {i6 e6 : RT → RT → Nat} {b6 : RT → RT → BT} {e9 : RT → RT → RT → RT → Nat} {b9 : RT → RT → RT → RT → BT} {x : Option RT} (px : ∀ f', f' ≤ f → PXp T n b u al f' e) (h : QS T n b u al tb o q v mk p sz σ) (ev : EvX E b u al gl Vm tb σ) (bd : BdX n o q v mk p sz tb.length) (hk : ¬ tkK T n q = 25) (hG : gO o (gT T n q (fun q1 => gb (G T n f 0 E (o + 1) q1 v 0 0 0 0 bt) (fun r => gW T n 40 r.1 (fun q2 => gb (G T n f 0 E (o + 1) q2 r.2.1 0 0 0 0 r.2.2.2.2.1) (fun s => gb (G T n f 16 E (o + 1) s.1 s.2.1 (i6 r s) (e6 r s) 0 0 (b6 r s)) (fun t => gW T n 42 t.1 (fun q3 => gb (G T n f 0 E (o + 1) q3 t.2.1 0 0 0 0 t.2.2.2.2.1) (fun w => gW T n 38 w.1 (fun q4 => some (some (q4, w.2.1, 0, e9 r s t w, b9 r s t w, []))))))))))) = some x) (hd : ¬ o = 20 → 6 * (20 - (o + 1)) + 8 ≤ e) : Tm (fun k => f_F2 k (e + 1) 0 0 L σ) (QPo b u tb.length sz mk x (fun r _ τ => XN T n b u al gl Vm tb o mk p sz q v r τ) σ 0 0) := by
  have s0 := Sy_0 h
  have go := tk_go h
  have g1 := go.2.2 hk
  have b22 := bd.2.1
  have n10 := bd.1
  have hop : (¬ (¬ o = 20 ∧ ¬ tkK T n (tkN T n q) = 0) ∧ x = none) ∨ ((¬ o = 20 ∧ ¬ tkK T n (tkN T n q) = 0) ∧ gb (G T n f 0 E (o + 1) (tkN T n q) v 0 0 0 0 bt) (fun r => gW T n 40 r.1 (fun q2 => gb (G T n f 0 E (o + 1) q2 r.2.1 0 0 0 0 r.2.2.2.2.1) (fun s => gb (G T n f 16 E (o + 1) s.1 s.2.1 (i6 r s) (e6 r s) 0 0 (b6 r s)) (fun t => gW T n 42 t.1 (fun q3 => gb (G T n f 0 E (o + 1) q3 t.2.1 0 0 0 0 t.2.2.2.2.1) (fun w => gW T n 38 w.1 (fun q4 => some (some (q4, w.2.1, 0, e9 r s t w, b9 r s t w, []))))))))) = some x) := by
    rcases gO_any hG with ⟨w1, w2⟩ | ⟨w1, w2⟩
    · exact Or.inl ⟨fun z => z.1 w1, w2⟩
    · rcases gT_any w2 with ⟨w3, w4⟩ | ⟨w3, w4⟩
      · exact Or.inl ⟨fun z => z.2 w3, w4⟩
      · exact Or.inr ⟨⟨w1, w3⟩, w4⟩
  -- one branch
  have br : ∀ (Kf : RT → RT → RG) (num c3 : Int32) (L0 : LV) (τ : CS) (a1 a2 q1 v1 f1 : Nat) (cs : List Int32) (js : List Nat) (bt1 : BT), ¬ o = 20 → f1 ≤ f → gb (G T n f1 0 E (o + 1) q1 v1 0 0 0 0 bt1) (fun r => gW T n 40 r.1 (fun q2 => gb (G T n f1 0 E (o + 1) q2 r.2.1 0 0 0 0 r.2.2.2.2.1) (fun s => Kf r s))) = some x → num = nI (jsH sz js) → Sy T n b u al σ tb.length sz mk a1 a2 tb (o + 1) q1 v1 mk p sz cs τ → PKh u p gl Vm (jsM js) 0 cs → JsC sz cs js → 2 * cs.length + 3 ≤ 3 * (q1 - q) → q < q1 → v ≤ v1 → (∀ (r s : RT) (τ' : CS) (m1 m2 j : Nat) (cs' : List Int32), Kf r s = some x → Sy T n b u al σ tb.length sz mk m1 m2 tb (o + 1) s.1 s.2.1 mk p sz cs' τ' → PKh u p gl Vm (jsM (j :: js)) 0 cs' → JsC sz cs' (j :: js) → 2 * cs'.length ≤ 3 * (s.1 - q) → q1 + 2 ≤ s.1 → v ≤ s.2.1 → Tm (fun k => f_F2 k (e + 1) 0 1 (lI (lI L0 2 (nI (sz + j))) 3 c3) τ') (QPo b u tb.length sz mk x (fun r _ τ => XN T n b u al gl Vm tb o mk p sz q v r τ) σ m1 m2)) → Tm (fun k => of (e + 1) (fun e2 => ox (f_F2 k e2 1 0 (lI lZ 1 0) τ) (fun r2 => ox (f_X5_expect k 0 (lI lZ 1 40) r2.2.1) (fun r3 => oP (sPp r3.2.1) (fun b4 => ox (f_X7_emit__P k 0 (lI (lI (lB lZ 0 b4) 1 4) 2 0) r3.2.1) (fun r5 => of (e + 1) (fun e6 => ox (f_F2 k e6 1 0 (lI lZ 1 0) r5.2.1) (fun r6 => oP (sPp r6.2.1) (fun b7 => ox (f_X7_emit__P k 0 (lI (lI (lB lZ 0 b7) 1 3) 2 num) r6.2.1) (fun r8 => oP (sPp r8.2.1) (fun b9 => oP (sPp r8.2.1) (fun b10 => op (y_X7_aim__P k 0 (lI (lI (lB lZ 0 b9) 1 r5.1.2) 2 (r8.2.1.1 (fP b10 1))) r8.2.1) (fun r11 => f_F2 k (e + 1) 0 1 (lI (lI L0 2 r8.1.2) 3 c3) r11.2))))))))))))) (QPo b u tb.length sz mk x (fun r _ τ => XN T n b u al gl Vm tb o mk p sz q v r τ) σ a1 a2) := by
    intro Kf num c3 L0 τ a1 a2 q1 v1 f1 cs js bt1 o20 hf hg hn s1 pk jc ln lt lv cont
    have q1n := (tk_go s1.1.1).1
    refine Tm_d ?_
    have bd1 : BdX n (o + 1) q1 v1 mk p (sz + cs.length) tb.length := BdX_g bd (by omega) q1n (by omega) lv (by omega)
    rcases gb_any hg with ⟨y1, y2⟩ | ⟨r4, y1, y2⟩
    · exact st_exp (C := True) (px f1 hf) (Or.inl ⟨rfl, rfl⟩) s1 (EvX_k ev s1.1.2.1) bd1 rfl (hd o20) y1 (Or.inl ⟨rfl, y2⟩) (fun _ _ _ _ _ _ z => by cases z)
    refine st_exp (C := True) (px f1 hf) (Or.inl ⟨rfl, rfl⟩) s1 (EvX_k ev s1.1.2.1) bd1 rfl (hd o20) y1 (Or.inr ⟨r4, rfl, trivial⟩) (fun τ2 ret2 m1 m2 r2 l2 hz2 _ s2 xk2 sg2 ln2 lt2 lv2 tg2 => ?_)
    cases hz2
    have go2 := tk_go s2.1.1
    refine st_expect (kk := 40) s2 (by decide) rfl (gW_a3 y2) (fun τ3 ret3 m3 m4 c3' s3 => ?_)
    obtain ⟨k40, y3⟩ := c3'
    have g4 := go2.2.2 (by omega)
    refine Tm_oP (Sy_pp s3) ?_
    have la : (cs ++ l2).length = cs.length + l2.length := List.length_append
    refine st_emit (op := 4) s3 rfl rfl (by rw [la]; omega) (fun τ4 x1 x2 s4 => ?_)
    refine Tm_d ?_
    have lb : (cs ++ l2 ++ [em 4 0]).length = cs.length + l2.length + 1 := by rw [List.length_append, la]; rfl
    have bd4 : BdX n (o + 1) (tkN T n r4.1) r4.2.1 mk p (sz + (cs ++ l2 ++ [em 4 0]).length) tb.length := BdX_g bd (by omega) go2.2.1 (by omega) (by omega) (by rw [lb]; omega)
    have s4' : Sy T n b u al σ tb.length sz mk (a1 + m1 + m3 + x1) (a2 + m2 + m4 + x2) tb (o + 1) (tkN T n r4.1) r4.2.1 mk p sz (cs ++ l2 ++ [em 4 0]) τ4 := s4
    rcases gb_any y3 with ⟨z1, z2⟩ | ⟨r6, z1, z2⟩
    · exact st_exp (C := True) (px f1 hf) (Or.inl ⟨rfl, rfl⟩) s4' (EvX_k ev s4'.1.2.1) bd4 rfl (hd o20) z1 (Or.inl ⟨rfl, z2⟩) (fun _ _ _ _ _ _ z => by cases z)
    refine st_exp (C := True) (px f1 hf) (Or.inl ⟨rfl, rfl⟩) s4' (EvX_k ev s4'.1.2.1) bd4 rfl (hd o20) z1 (Or.inr ⟨r6, rfl, trivial⟩) (fun τ6 ret6 p1 p2 r6' l6 hz6 _ s6 xk6 sg6 ln6 lt6 lv6 tg6 => ?_)
    cases hz6
    have lc : (cs ++ l2 ++ [em 4 0] ++ l6).length = cs.length + l2.length + 1 + l6.length := by rw [List.length_append, lb]
    have q6n := (tk_go s6.1.1).1
    refine Tm_oP (Sy_pp s6) ?_
    refine st_emit (op := 3) s6 rfl rfl (by rw [lc]; omega) (fun τ8 x3 x4 s8 => ?_)
    refine Tm_oP (Sy_pp s8) (Tm_oP (Sy_pp s8) ?_)
    have ld : (cs ++ l2 ++ [em 4 0] ++ l6 ++ [em 3 num]).length = cs.length + l2.length + 1 + l6.length + 1 := by rw [List.length_append, lc]; rfl
    have hget : (cs ++ l2 ++ [em 4 0] ++ l6 ++ [em 3 num]).getD (cs.length + l2.length) 0 = em 4 0 := by
      rw [gd_l (by rw [lc]; omega), gd_l (by rw [lb]; omega)]
      have z := gd_r (a := cs ++ l2) (b := [em 4 0]) 0
      rw [la] at z
      exact z
    have s8' : Sy T n b u al σ tb.length sz mk (a1 + m1 + m3 + x1 + p1 + x3) (a2 + m2 + m4 + x2 + p2 + x4) tb (o + 1) r6.1 r6.2.1 mk p sz (cs ++ l2 ++ [em 4 0] ++ l6 ++ [em 3 num]) τ8 := s8
    refine Tm_op (c_aim (h := cs.length + l2.length) (op := 4) s8' (Nat.le_refl _) (by rw [ld]; omega) (by decide) hget rfl (by show nI (sz + (cs ++ l2).length) = _; rw [la])) (fun r11 z11 => ?_)
    have es8 : τ8.1 (fP b 1) = nI (sz + (cs ++ l2 ++ [em 4 0] ++ l6 ++ [em 3 num]).length) := s8'.1.1.2.1.1
    have s11 : Sy T n b u al σ tb.length sz mk (a1 + m1 + m3 + x1 + p1 + x3) (a2 + m2 + m4 + x2 + p2 + x4) tb (o + 1) r6.1 r6.2.1 mk p sz ((cs ++ l2 ++ [em 4 0] ++ l6 ++ [em 3 num]).set (cs.length + l2.length) (em 4 (nI ((cs ++ l2 ++ [em 4 0] ++ l6 ++ [em 3 num]).length - (cs.length + l2.length))))) r11.2 := by
      have e1 : τ8.1 (fP b 1) - nI (sz + (cs ++ l2).length) = nI ((cs ++ l2 ++ [em 4 0] ++ l6 ++ [em 3 num]).length - (cs.length + l2.length)) := by
        rw [es8, la, aim_n (by rw [ld]; omega) (by rw [ld]; omega)]
      rw [← e1]
      exact z11
    -- how it is typed
    have pk1 := Ph_sg pk sg2
    have pk2 := Ph_j (op := 4) (t' := 0) pk1 (by decide) (fun _ => rfl) (fun z => absurd z (by decide)) 0
    have pk3 := Ph_sg pk2 sg6
    have pk4 := Ph_j (op := 3) (t' := 0) pk3 (by decide) (fun z => absurd rfl z) (fun _ => Nat.zero_le _) num
    have pk5 : PKh u p gl Vm (((cs ++ l2).length, 4, 0) :: jsM ((cs ++ l2 ++ [em 4 0] ++ l6).length :: js)) 0 (cs ++ l2 ++ [em 4 0] ++ l6 ++ [em 3 num]) := Ph_sw pk4
    have pk6 := Ph_fi (h := (cs ++ l2).length) (op := 4) (tt := 0) pk5 rfl
    rw [la] at pk6
    have jc1 : JsC sz (cs ++ l2 ++ [em 4 0] ++ l6 ++ [em 3 num]) js := JsC_ap js (JsC_ap js (JsC_ap js (JsC_ap js jc)))
    have jlt := JsC_lt js jc
    have jc2 : JsC sz (cs ++ l2 ++ [em 4 0] ++ l6 ++ [em 3 num]) ((cs ++ l2 ++ [em 4 0] ++ l6).length :: js) := by
      refine ⟨by rw [ld, lc]; omega, by rw [lc]; omega, ?_, fun i hi => by have := jlt i hi; rw [lc]; omega, jc1⟩
      have z := gd_r (a := cs ++ l2 ++ [em 4 0] ++ l6) (b := [em 3 num]) 0
      rw [Nat.add_zero] at z
      rw [z, ← hn]
      rfl
    have jc3 := JsC_set (w := em 4 (nI ((cs ++ l2 ++ [em 4 0] ++ l6 ++ [em 3 num]).length - (cs.length + l2.length)))) ((cs ++ l2 ++ [em 4 0] ++ l6).length :: js) _ (cs.length + l2.length) (fun i hi => by
      rcases List.mem_cons.1 hi with y | y
      · rw [y, lc]; omega
      · have := jlt i y; omega) jc2
    exact cont r4 r6 r11.2 _ _ _ _ z2 s11 pk6 jc3 (by rw [List.length_set, ld]; omega) (by omega) (by omega)
  -- from the else on
  have b2 : ∀ (r s tt : RT) (L' : LV) (τ : CS) (a1 a2 : Nat) (cs : List Int32) (js : List Nat), ¬ o = 20 → gW T n 42 tt.1 (fun q3 => gb (G T n f 0 E (o + 1) q3 tt.2.1 0 0 0 0 tt.2.2.2.2.1) (fun w => gW T n 38 w.1 (fun q4 => some (some (q4, w.2.1, 0, e9 r s tt w, b9 r s tt w, []))))) = some x → L'.1 2 = nI (jsH sz js) → Sy T n b u al σ tb.length sz mk a1 a2 tb (o + 1) tt.1 tt.2.1 mk p sz cs τ → PKh u p gl Vm (jsM js) 0 cs → JsC sz cs js → js.length ≤ tt.1 → 2 * cs.length ≤ 3 * (tt.1 - q) → q < tt.1 → v ≤ tt.2.1 → Tm (fun k => f_F2 k (e + 1) 0 2 L' τ) (QPo b u tb.length sz mk x (fun r _ τ => XN T n b u al gl Vm tb o mk p sz q v r τ) σ a1 a2) := by
    intro r s tt L' τ a1 a2 cs js o20 hg l2 s1 pk jc jl ln lt lv
    have go1 := tk_go s1.1.1
    refine Tm_suc (fun k => ch_2 k _ _ _) ?_
    refine st_expect (kk := 42) s1 (by decide) rfl (gW_a3 hg) (fun τ2 ret2 m1 m2 c2 s2 => ?_)
    obtain ⟨k42, y2⟩ := c2
    have g2 := go1.2.2 (by omega)
    refine Tm_d ?_
    have bd2 : BdX n (o + 1) (tkN T n tt.1) tt.2.1 mk p (sz + cs.length) tb.length := BdX_g bd (by omega) go1.2.1 (by omega) lv (by omega)
    rcases gb_any y2 with ⟨z1, z2⟩ | ⟨r4, z1, z2⟩
    · exact st_exp (C := True) (px f (Nat.le_refl _)) (Or.inl ⟨rfl, rfl⟩) s2 (EvX_k ev s2.1.2.1) bd2 rfl (hd o20) z1 (Or.inl ⟨rfl, z2⟩) (fun _ _ _ _ _ _ z => by cases z)
    refine st_exp (C := True) (px f (Nat.le_refl _)) (Or.inl ⟨rfl, rfl⟩) s2 (EvX_k ev s2.1.2.1) bd2 rfl (hd o20) z1 (Or.inr ⟨r4, rfl, trivial⟩) (fun τ4 ret4 p1 p2 r4' l4 hz4 _ s4 xk4 sg4 ln4 lt4 lv4 tg4 => ?_)
    cases hz4
    have go4 := tk_go s4.1.1
    refine st_closes (kk := 38) s4 (by decide) rfl (gW_a3 z2) (fun τ5 ret5 x1 x2 c5 s5 => ?_)
    obtain ⟨k38, y5⟩ := c5
    cases y5
    have g5 := go4.2.2 (by omega)
    have la : (cs ++ l4).length = cs.length + l4.length := List.length_append
    have s5' : Sy T n b u al σ tb.length sz mk (a1 + m1 + p1 + x1) (a2 + m2 + p2 + x2) tb o (tkN T n r4.1) r4.2.1 mk p sz (cs ++ l4) τ5 := s5
    have t5 : Tm (fun k => y_X5_aimAll k 0 (lI lZ 1 (L'.1 2)) τ5) (fun r => Sy T n b u al σ tb.length sz mk (a1 + m1 + p1 + x1) (a2 + m2 + p2 + x2) tb o (tkN T n r4.1) r4.2.1 mk p sz (jsF (cs ++ l4) js) r.2) := by
      refine Tm_suc (fun k => by rw [y_X5_aimAll]) ?_
      exact c_aimAll (cs := cs ++ l4) (Nat.le_refl _) (by rw [la]; omega) js 0 (cs ++ l4) τ5 _ (by omega) (by rw [la]; omega) (JsC_ap js jc) l2 rfl s5'
    refine Tm_op t5 (fun r6 s6 => ?_)
    have lf := jsF_l js (cs ++ l4)
    have pk1 : PKh u p gl Vm (jsM js) 1 (cs ++ l4) := Ph_sg pk sg4
    refine Tm_some (Qfin s6.1 ⟨_, s6.1.1, s6.2, Ph_end (Ph_js js _ pk1), ?_, ?_, by show v ≤ r4.2.1; omega, rfl⟩)
    · show 2 * (jsF (cs ++ l4) js).length ≤ 3 * (tkN T n r4.1 - q) + 1
      rw [lf, la]; omega
    · show q < tkN T n r4.1
      omega
  -- the branches
  have b1 : ∀ (r s : RT) (f1 : Nat), f1 ≤ f → ∀ (L' : LV) (τ : CS) (a1 a2 q1 v1 i1 e1 : Nat) (bt1 : BT) (cs : List Int32) (js : List Nat), ¬ o = 20 → gb (G T n f1 16 E (o + 1) q1 v1 i1 e1 0 0 bt1) (fun t => gW T n 42 t.1 (fun q3 => gb (G T n f 0 E (o + 1) q3 t.2.1 0 0 0 0 t.2.2.2.2.1) (fun w => gW T n 38 w.1 (fun q4 => some (some (q4, w.2.1, 0, e9 r s t w, b9 r s t w, [])))))) = some x → L'.1 2 = nI (jsH sz js) → L'.1 3 = nI (js.length - 1) → 1 ≤ js.length → Sy T n b u al σ tb.length sz mk a1 a2 tb (o + 1) q1 v1 mk p sz cs τ → PKh u p gl Vm (jsM js) 0 cs → JsC sz cs js → js.length ≤ q1 → 2 * cs.length ≤ 3 * (q1 - q) → q < q1 → v ≤ v1 → Tm (fun k => f_F2 k (e + 1) 0 1 L' τ) (QPo b u tb.length sz mk x (fun r _ τ => XN T n b u al gl Vm tb o mk p sz q v r τ) σ a1 a2) := by
    intro r s f1
    induction f1 with
    | zero =>
      intro _ L' τ a1 a2 q1 v1 i1 e1 bt1 cs js _ hg
      exact absurd hg (by intro z; cases z)
    | succ f1 ih =>
      intro hf L' τ a1 a2 q1 v1 i1 e1 bt1 cs js o20 hg l2 l3 j1 s1 pk jc jl ln lt lv
      have go1 := tk_go s1.1.1
      have e16 : G T n (f1 + 1) 16 E (o + 1) q1 v1 i1 e1 0 0 bt1 = (if tkK T n q1 = 41 then gT T n q1 (fun q2 => gb (G T n f1 0 E (o + 1) q2 v1 0 0 0 0 bt1) (fun r => gW T n 40 r.1 (fun q2 => gb (G T n f1 0 E (o + 1) q2 r.2.1 0 0 0 0 r.2.2.2.2.1) (fun s => G T n f1 16 E (o + 1) s.1 s.2.1 i1 s.2.2.2.2.1.1 0 0 (bSet (bNode s.2.2.2.2.1 33 (nI r.2.2.2.1) (nI s.2.2.2.1) 0) 9 e1 (nI s.2.2.2.2.1.1)))))) else some (some (q1, v1, i1, e1, bt1, []))) := rfl
      rw [e16] at hg
      refine Tm_suc (fun k => ch_1 k _ _ _) ?_
      refine Tm_no ?_ ?_
      · rw [l3]
        show ¬ nI 32768 < nI (js.length - 1)
        rw [u_ltn (by decide) (by rw [u_n (by omega)]; omega), u_n (by decide), u_n (by omega)]
        omega
      by_cases k41 : tkK T n q1 = 41
      · rw [if_pos k41] at hg
        have g2 := go1.2.2 (by omega)
        refine Tm_yes ((lx_k (kk := 41) s1.1.1 (by decide)).2 k41) ?_
        -- the whole behind the token, as one
        have hg2 : (tkK T n (tkN T n q1) = 0 ∧ x = none) ∨ (¬ tkK T n (tkN T n q1) = 0 ∧ gb (G T n f1 0 E (o + 1) (tkN T n q1) v1 0 0 0 0 bt1) (fun r' => gW T n 40 r'.1 (fun q2 => gb (G T n f1 0 E (o + 1) q2 r'.2.1 0 0 0 0 r'.2.2.2.2.1) (fun s' => gb (G T n f1 16 E (o + 1) s'.1 s'.2.1 i1 s'.2.2.2.2.1.1 0 0 (bSet (bNode s'.2.2.2.2.1 33 (nI r'.2.2.2.1) (nI s'.2.2.2.1) 0) 9 e1 (nI s'.2.2.2.2.1.1))) (fun t => gW T n 42 t.1 (fun q3 => gb (G T n f 0 E (o + 1) q3 t.2.1 0 0 0 0 t.2.2.2.2.1) (fun w => gW T n 38 w.1 (fun q4 => some (some (q4, w.2.1, 0, e9 r s t w, b9 r s t w, [])))))))))  = some x) := by
          rw [gb_gT] at hg
          simp only [gb_gb, gb_gW] at hg
          exact gT_any hg
        refine st_advY s1 hg2 (fun τ2 r2 er c2 s2 => ?_)
        rw [er]
        refine br _ (L'.1 2) (L'.1 3 + 1) L' τ2 _ _ (tkN T n q1) v1 f1 cs js bt1 o20 (by omega) c2 l2 s2 pk jc (by omega) (by omega) lv (fun r' s' τ' m1 m2 j cs' k1 k2 k3 k4 k5 k6 k7 => ?_)
        refine ih (by omega) _ τ' m1 m2 s'.1 s'.2.1 _ _ _ cs' (j :: js) o20 k1 rfl ?_ (by show 1 ≤ js.length + 1; omega) k2 k3 k4 (by show js.length + 1 ≤ s'.1; omega) k5 (by omega) k7
        show L'.1 3 + 1 = nI (js.length + 1 - 1)
        rw [l3, n_add1]
        exact congrArg nI (by omega)
      · rw [if_neg k41] at hg
        refine Tm_no (fun z => k41 ((lx_k (kk := 41) s1.1.1 (by decide)).1 z)) ?_
        exact b2 r s (q1, v1, i1, e1, bt1, []) L' τ a1 a2 cs js o20 hg l2 s1 pk jc jl ln lt lv
  refine Tm_suc (fun k => ch_0 k _ _ _) ?_
  refine st_opens s0 hop (fun τ1 ret n1 n2 c1 s1 => ?_)
  have o20 : ¬ o = 20 := fun z => by
    have := s1.1.1.2.2.2.2.2.1.2
    omega
  refine br (fun r s => gb (G T n f 16 E (o + 1) s.1 s.2.1 (i6 r s) (e6 r s) 0 0 (b6 r s)) (fun t => gW T n 42 t.1 (fun q3 => gb (G T n f 0 E (o + 1) q3 t.2.1 0 0 0 0 t.2.2.2.2.1) (fun w => gW T n 38 w.1 (fun q4 => some (some (q4, w.2.1, 0, e9 r s t w, b9 r s t w, []))))))) 0 0 L τ1 _ _ (tkN T n q) v f [] [] bt o20 (Nat.le_refl _) c1 rfl s1 (Ph_nil u p gl Vm) trivial (by show 2 * 0 + 3 ≤ _; omega) g1 (Nat.le_refl _) (fun r' s' τ' m1 m2 j cs' k1 k2 k3 k4 k5 k6 k7 => ?_)
  exact b1 r' s' f (Nat.le_refl _) _ τ' m1 m2 s'.1 s'.2.1 _ _ _ cs' [j] o20 k1 rfl rfl (by show 1 ≤ 1; omega) k2 k3 k4 (by show 1 ≤ s'.1; omega) k5 (by omega) k7
end CVL

/-! A program as it is read: its statements are as a run wants them. -/
section PRK
variable {T : Nat → Int32} {n : Nat} {g : PRG} {t : ST}
/-- what is told of a program as it is read -/
def PgO (g : PRG) (t : ST) (KB : Nat) (S : Nat → Nat → Nat → Nat → Prop) : Prop := PrI (TPg g t KB) (FNg g) S g.2.1.1 g.2.1.2.2.2.2.2.2 t.2.2.2.2.1 t.2.1 ∧ (hd t.2.2.2.1 = -1 ∨ ∃ v m, hd t.2.2.2.1 = nI m ∧ S 0 0 v m) ∧ (∀ fn m, FNg g fn m → fn < g.2.2.2.1 ∧ m ≤ 8 ∧ ∃ F e, g.2.2.2.2.2.2.2.2 fn = nI e ∧ (1 ≤ e ∧ e < t.2.2.2.2.1.1) ∧ WN (TPg g t KB) (FNg g) F 0 20 14 60 lcF (nI e)) ∧ (g.2.2.2.1 ≤ 40 ∧ t.2.2.2.2.2.1 ≤ 400) ∧ PEn g.2.1 g.2.2.2.1 ∧ ∀ i, i < g.2.2.2.1 → ∃ h, h ≤ 60 ∧ g.2.2.2.2.2.2.2.2 (100 + i) = nI h
theorem prg_ok {u p : Nat → Int32} (hn : n ≤ 32768) (hT : ∀ i, i < n → ∃ d, d ≤ 300 ∧ T i = nI d) (hG : gPrg T n (g0 T n u p) = some (some (g, t))) : ∃ KB S, PgO g t KB S := by
  unfold gPrg at hG
  by_cases c0 : tkK T n (sk T n 0) = 0
  · rw [if_pos c0] at hG; cases hG
  rw [if_neg c0] at hG
  obtain ⟨g1, hg, hG⟩ := pb_s hG
  obtain ⟨t1, ht, hG⟩ := pb_s hG
  by_cases c25 : tkK T n t1.1 = 25
  case neg => rw [if_neg c25] at hG; cases hG
  rw [if_pos c25] at hG
  cases hG
  have P0 := g0_PL T n u p
  have P := gds_mo _ _ _ hg P0
  obtain ⟨p1, p2, p3, p4, p5, p6, p7⟩ := id P
  have hE : PEn g.2.1 g.2.2.2.1 := gds_e _ _ _ hg P0 ⟨fun x hx => absurd hx (List.not_mem_nil), fun i hi => absurd hi (Nat.not_lt_zero _)⟩
  have hF : EnF (FNg g) (GFg g) g.2.1 := fun x hx => ⟨fun x1 => ⟨⟨x, hx, x1, rfl⟩, (hE.1 x hx).1 x1⟩, fun x2 => ⟨⟨x, hx, x2, rfl, rfl⟩, by have := ((hE.1 x hx).2 (by rw [x2]; decide)).2; omega⟩⟩
  have hC : CmP g.2.1 g.2.2.1 g.2.2.2.1 g.2.1 g.2.2.1 := ⟨fun _ h => h, fun _ _ => ⟨rfl, rfl⟩⟩
  have D := gds_d (Ef := g.2.1) (MDf := g.2.2.1) hn hT hF _ _ _ hg P0 hC ⟨fun x hx => absurd hx (List.not_mem_nil), fun x hx => absurd hx (List.not_mem_nil), Nat.zero_le _, fun _ _ _ _ => False, 0, 0, Nat.zero_le _, fun T' S _ _ _ un d v n z => z.elim, fun i hi => absurd hi (Nat.not_lt_zero _)⟩
  obtain ⟨d1, d2, d3, X, A, C, d4, d5, d6⟩ := D
  have hEn : g.2.1.2.1 = [] ∧ g.2.1.2.2.1 = [] := by
    have key : ∀ (f : Nat) (g g' : PRG), GDs T n f g = some (some g') → PL n g → g.2.1.2.1 = [] ∧ g.2.1.2.2.1 = [] → g'.2.1.2.1 = [] ∧ g'.2.1.2.2.1 = [] := by
      intro f
      induction f with
      | zero => intro g g' hG; cases hG
      | succ f ih =>
        intro g g' hG hP h
        obtain ⟨p1, p2, p3, p4, p5, p6, p7⟩ := id hP
        have hN := tkN_b T n g.1 p1
        rw [GDs] at hG
        by_cases c1 : tkK T n g.1 = 32
        · rw [if_pos c1] at hG
          obtain ⟨r, hr, hG⟩ := pb_s hG
          obtain ⟨_, hr⟩ := pT_s hr
          obtain ⟨m1, m2, m3, m4, m5, m6, m7, m8, m9, m10, m11, m12⟩ := gvr_mo _ _ _ _ _ _ hN.2.1 p5 hr
          refine ih _ _ hG ⟨m2, by show 1 ≤ r.2.2.2.1; omega, by show r.2.2.2.1 ≤ 1 + r.1; omega, by show r.2.2.2.2.1 ≤ r.1; omega, m4, p6, by show r.2.1.2.2.2.1 = 0; rw [m8]; exact p7⟩ ?_
          show r.2.1.2.1 = [] ∧ r.2.1.2.2.1 = []
          rw [(m9 p7).2]; exact h
        · rw [if_neg c1] at hG
          by_cases c2 : tkK T n g.1 = 34 ∨ tkK T n g.1 = 33
          · rw [if_pos c2] at hG
            obtain ⟨r, hr, hG⟩ := pb_s hG
            refine ih _ _ hG (gCal_mo p1 p5 p2 p6 ⟨p3, p4⟩ hr).2 ?_
            unfold gCal at hr
            obtain ⟨_, hr⟩ := pT_s hr
            by_cases c1 : nmC T n g.2.1 g.2.2.2.1 (tkN T n g.1)
            case neg => rw [if_neg c1] at hr; cases hr
            rw [if_pos c1] at hr
            obtain ⟨_, hr⟩ := pT_s hr
            by_cases c2 : tkK T n (tkN T n (tkN T n g.1)) = 6
            case neg => rw [if_neg c2] at hr; cases hr
            rw [if_pos c2] at hr
            unfold gCb at hr
            obtain ⟨_, hr⟩ := pT_s hr
            obtain ⟨a, ga, hr⟩ := pb_s hr
            obtain ⟨_, hr⟩ := pT_s hr
            obtain ⟨z, gz, hr⟩ := pb_s hr
            cases hr
            exact ⟨rfl, rfl⟩
          · rw [if_neg c2] at hG
            cases hG
            exact h
    exact key _ _ _ hg P0 ⟨rfl, rfl⟩
  have EO : EnOK (FNg g) g.2.1 := ⟨fun x hx => by rw [hEn.1] at hx; exact absurd hx (List.not_mem_nil), fun x hx x1 => (hE.1 x hx).1 x1, fun x hx x2 => (hF x hx).2 x2⟩
  have NC : NmC g.2.1.2.2.2.1 g.2.2.2.2.2.1 g.2.2.2.2.2.2.1 (GFg g) g.2.1 := ⟨fun x hx => by rw [hEn.1] at hx; exact absurd hx (List.not_mem_nil), fun x hx x1 => (hF x hx).1 x1⟩
  have PZ0 : PrZ n (FNg g) (GFg g) g.2.1 0 g.1 g.2.2.2.2.2.1 g.2.2.2.2.2.2.1 g.2.2.2.2.2.2.2.1 0 := ⟨p1, p5, Nat.zero_le _, by omega, by omega, p2, p6, EO, NC, by rw [p7]; decide, Nat.le_refl _⟩
  have B := (x_all (FN := FNg g) (GF := GFg g) (MD := g.2.2.1) hn hT (fu n)).1 g.2.1 0 0 g.1 g.2.2.2.2.2.1 (-1) 0 0 g.2.2.2.2.2.2.1 g.2.2.2.2.2.2.2.1 t 0 PZ0 p2 (fun z => absurd rfl z) ht
  obtain ⟨⟨n1, n2, n3, n4, n5, n6, n7, n8, n9, n10⟩, _⟩ := gs_mo (fu n) 0 g.2.1 0 0 g.1 g.2.2.2.2.2.1 (-1) 0 0 g.2.2.2.2.2.2.1 g.2.2.2.2.2.2.2.1 t 1 (by decide) p1 p5 p6 ht (Nat.le_refl 1) p2 (fun _ z => absurd rfl z) (fun z => absurd z (by decide))
  obtain ⟨Xm, y, Am, Cm, f1, s1, w1, _, k1, x1, H1⟩ := B
  rw [if_pos rfl] at w1
  rw [p7] at f1 H1
  have lb : t.2.2.2.2.1.1 ≤ 32770 := by omega
  have lp : t.2.2.2.2.1.2.1 ≤ 32768 := by omega
  have kb : max C Cm ≤ 16384 := by omega
  have TL := TPg_l (g := g) (t := t) (KB := max C Cm) (by omega)
  have TP := TPg_p (g := g) (t := t) (KB := max C Cm) (by omega)
  have TS := TPg_s (g := g) (t := t) (KB := max C Cm) (by omega)
  have TC := TPg_c (g := g) (t := t) (KB := max C Cm) (by omega)
  have TK := TPg_k (g := g) (t := t) (KB := max C Cm) (by omega)
  have hA : AgD (TPg g t (max C Cm)) g.2.2.2.2.2.2.1 g.2.2.2.2.2.2.2.1 g.2.2.2.2.2.2.2.2 g.2.2.2.1 := by
    refine ⟨fun a i h4 h9 hi hb => (TPg_n h9).trans (f1.2.2.1 a i hb (by omega)), fun i hi => (TPg_12).trans (f1.2.2.2.1 i hi), ⟨by rw [TL]; exact f1.1, by rw [TP]; exact f1.2.1⟩, fun i hi => (TPg_10).trans (s1.2 i hi), by rw [TS]; exact s1.1, fun i h w hi e1 e2 hw => ?_⟩
    rw [TPg_20, fgP_u hi e1 e2 (by omega), if_pos hw]
  have hA0 : Agr (TPg g t (max C Cm)) 0 t.2.1 t.2.2.2.2.1 g.2.2.2.2.2.2.1.1 0 := by
    refine ⟨fun a i h4 h9 hi hb _ => TPg_n h9, fun i hi => TPg_12, fun w hw => ?_, by rw [TL]; omega, by rw [TP]; omega⟩
    rw [Nat.mul_zero, Nat.zero_add, TPg_20, fgP_0 n4 hw]
  have hU0 : AgU (TPg g t (max C Cm)) t.2.2.2.2.2 g.2.2.2.2.2.2.2.1.1 := ⟨fun i _ _ => TPg_10, by rw [TS]; omega⟩
  -- the tables of the procs
  have hTb : TbO (TPg g t (max C Cm)) (fun un d v m => X un d v m ∨ (un = 0 ∧ Xm d v m)) g.2.1 g.2.2.1 := by
    intro x hx x3
    have hl := ((hE.1 x hx).2 (by rw [x3]; decide)).1
    obtain ⟨h, q1, q2, q3, q4, q5, q6, q7⟩ := d6 x.2.2.2 hl
    refine ⟨by rw [TC]; exact hl, TPg_18, q3, ⟨h, TPg_21.trans q2, q1, fun w h1 h2 => ?_⟩, fun w hw => ?_, ?_, fun j hj => ⟨(q5 j hj).2, ?_⟩⟩
    · rw [TPg_20, fgP_u hl q2 q1 h2, if_neg (by omega)]
    · rw [TPg_20, fgP_u hl q2 q1 (by omega), if_pos (by omega), (q5 w hw).1]; decide
    · rw [TPg_17]
      refine (q7 x hx x3 rfl).imp id (fun z => ?_)
      obtain ⟨e, v', z1, z2⟩ := z
      exact ⟨e, v', z1, Or.inl z2⟩
    · rw [TPg_19, show (8 * x.2.2.2 + j) / 8 = x.2.2.2 by omega, show (8 * x.2.2.2 + j) % 8 = j by omega]
  have hGF : ∀ s, GFg g s → ¬ TPg g t (max C Cm) 20 s = 0 := fun s hs => by
    obtain ⟨x, hx, x1, rfl⟩ := hs
    obtain ⟨y1, y2⟩ := d2 x hx x1
    have e := f1.2.2.2.2 _ y1
    rw [Nat.mul_zero, Nat.zero_add] at e
    rw [TPg_20, fgP_0 n4 (by omega), e, y2]; decide
  have hY : HyT (GFg g) (TPg g t (max C Cm)) (fun un d v m => X un d v m ∨ (un = 0 ∧ Xm d v m)) g.2.1 g.2.2.1 (max A Am) (max C Cm) := ⟨hGF, hTb, by rw [TK]; exact Nat.le_refl _, by rw [TK]; omega⟩
  have okD := d5 _ _ hA (HyT_mo hY (by omega) (by omega)) (fun un d v m z => Or.inl z)
  have okM := H1 _ (fun un d v m => X un d v m ∨ (un = 0 ∧ Xm d v m)) hA0 hU0 (HyT_mo hY (by omega) (by omega)) (fun d v m z => Or.inr ⟨rfl, z⟩) (Or.inl ⟨rfl, rfl⟩) (fun z => absurd rfl z)
  obtain ⟨sw, sk'⟩ := SW_of (T := TPg g t (max C Cm)) (FN := FNg g) (S := fun un d v m => X un d v m ∨ (un = 0 ∧ Xm d v m)) (fun un d v m z => by
    rcases z with z | ⟨rfl, z⟩
    · exact okD un d v m z
    · exact okM.1 d v m z)
  refine ⟨max C Cm, fun un d v m => X un d v m ∨ (un = 0 ∧ Xm d v m), ⟨⟨sw, sk', by rw [TK]; omega⟩, ⟨rfl, n4⟩, ⟨TL, TP, by omega, by omega, by omega⟩, fun dr => ⟨fun x hx => absurd hx (List.not_mem_nil), fun x hx x1 => (hE.1 x hx).1 x1, fun x hx x2 => (hF x hx).2 x2⟩⟩, ?_, fun fn m hm => ?_, ⟨d3, n10⟩, hE, fun i hi => ?_⟩
  · rw [w1]
    rcases x1 with z | ⟨z1, z2, z3⟩
    · rw [z]; exact Or.inl rfl
    · exact Or.inr ⟨_, y, hd_1 (by omega), Or.inr ⟨rfl, z3⟩⟩
  · obtain ⟨x, hx, x2, rfl, rfl⟩ := hm
    obtain ⟨hl, h8⟩ := (hE.1 x hx).2 (by rw [x2]; decide)
    obtain ⟨h, q1, q2, q3, q4, q5, q6, q7⟩ := d6 x.2.2.2 hl
    obtain ⟨e, z1, z2, z3⟩ := q6 x hx x2 rfl
    obtain ⟨F, hW⟩ := z3 _ hA
    exact ⟨hl, h8, F, e, z1, ⟨z2.1, Nat.lt_of_lt_of_le z2.2 f1.1⟩, hW⟩
  · obtain ⟨h, q1, q2, _⟩ := d6 i hi
    exact ⟨h, q1, q2⟩
end PRK

/-! The set of statements that the grammar lays: branches of an if. -/
/-- what was laid stays, but for what stands behind e and what i begins with -/
def Fr3 (un vv : Nat) (b : BT) (e i : Nat) (b' : BT) : Prop := b.1 ≤ b'.1 ∧ b.2.1 ≤ b'.2.1 ∧ (∀ a j, j < b.1 → ¬ (a = 9 ∧ (j = e ∨ j = 0)) → ¬ (a = 5 ∧ j = i) → b'.2.2.1 a j = b.2.2.1 a j) ∧ (∀ i, i < b.2.1 → b'.2.2.2.1 i = b.2.2.2.1 i) ∧ ∀ s, s < vv → b'.2.2.2.2 (60 * un + s) = b.2.2.2.2 (60 * un + s)
/-- branches of the if i: y the first of them -/
def RB3 (FN : Nat → Nat → Prop) (GF : Nat → Prop) (MD : Nat → Nat → Nat) (E : En) (lp d q v v0 i l : Nat) (b : BT) (s : SB) (r : ST) : Prop := ∃ (X : Nat → Nat → Nat → Prop) (y A C c : Nat), Fr3 E.2.2.2.1 v b l i r.2.2.2.2.1 ∧ FrS s r.2.2.2.2.2 ∧ (b.1 ≤ r.2.2.2.1 ∧ r.2.2.2.1 < r.2.2.2.2.1.1 ∧ r.2.2.2.2.1.2.2.1 9 r.2.2.2.1 = -1) ∧ (l = 0 → r.2.2.2.2.1.2.2.1 5 i = nI y) ∧ (¬ l = 0 → r.2.2.2.2.1.2.2.1 9 l = nI y ∧ r.2.2.2.2.1.2.2.1 5 i = b.2.2.1 5 i) ∧ 2 * (A + C) + q ≤ r.1 ∧ ∀ (T' : Nat → Nat → Int32) (S : Nat → Nat → Nat → Nat → Prop), Agr T' E.2.2.2.1 r.2.1 r.2.2.2.2.1 b.1 r.2.2.2.1 → AgU T' r.2.2.2.2.2 s.1 → HyT GF T' S E MD A C → (∀ d' v' n', X d' v' n' → S E.2.2.2.1 d' v' n') → S E.2.2.2.1 d v0 i → T' 4 i = 46 → (¬ lp = 0 → hlp T' d i) → (∀ d' v' n', X d' v' n' → SOk T' FN S E.2.2.2.1 d' v' n') ∧ ∀ k, BrL T' FN S E.2.2.2.1 d v0 i k (T' 9 r.2.2.2.1) → BrL T' FN S E.2.2.2.1 d v0 i (k + c + 1) (nI y)
/-- a branch is laid -/
def b3N (l i : Nat) (t : BT) (x y : Int32) : BT := if l = 0 then bSet (bNode t 33 x y 0) 5 i (nI t.1) else bSet (bNode t 33 x y 0) 9 l (nI t.1)
section BRS
variable {T : Nat → Int32} {n : Nat} {FN : Nat → Nat → Prop} {GF : Nat → Prop} {E : En} {MD : Nat → Nat → Nat} {lp d o q v v0 i l un vv vw lo lo' top A C : Nat} {b b' : BT} {s : SB} {T' : Nat → Nat → Int32} {S : Nat → Nat → Nat → Nat → Prop}
theorem b3N_o {t : BT} {x y : Int32} {a j : Nat} (hj : ¬ (a = 5 ∧ j = i ∧ l = 0)) (hl : ¬ (a = 9 ∧ j = l ∧ ¬ l = 0)) : (b3N l i t x y).2.2.1 a j = (bNode t 33 x y 0).2.2.1 a j := by
  unfold b3N
  by_cases c : l = 0
  · rw [if_pos c, bSet_o (by omega)]
  · rw [if_neg c, bSet_o (by omega)]
theorem b3N_1 {t : BT} {x y : Int32} : (b3N l i t x y).1 = t.1 + 1 ∧ (b3N l i t x y).2.1 = t.2.1 ∧ (b3N l i t x y).2.2.2 = t.2.2.2 := by
  unfold b3N
  by_cases c : l = 0
  · rw [if_pos c]; exact ⟨rfl, rfl, rfl⟩
  · rw [if_neg c]; exact ⟨rfl, rfl, rfl⟩
/-- one branch -/
theorem Br1 {cb : BT} {cv ce O K q2 : Nat} {t : ST} (hF : Frm E.2.2.2.1 v b 0 cb) (hv : v ≤ cv) (hcv : cv ≤ t.2.1) (hO : O ≤ 20) (hK : K ≤ 60) (hc : ce = 0 ∨ LPt FN (eFl E) E.2.2.2.1 cv O 14 K b.1 cb ce) (hB : RB0 FN GF MD E lp (d + 1) q2 cv (nI i) 0 0 cb s t) (hb : 1 ≤ b.1) (hi : i < b.1) (hi2 : b.1 ≤ 70000) (hl : l < b.1) (hv0 : v0 ≤ v) : ∃ (X : Nat → Nat → Nat → Prop) (A C : Nat), Fr3 E.2.2.2.1 v b l i (b3N l i t.2.2.2.2.1 (if ce = 0 then -3 else nI ce) (hd t.2.2.2.1)) ∧ FrS s t.2.2.2.2.2 ∧ b.1 ≤ t.2.2.2.2.1.1 ∧ 2 * (A + C) + q2 ≤ t.1 ∧ ∀ (T' : Nat → Nat → Int32) (S : Nat → Nat → Nat → Nat → Prop), Agr T' E.2.2.2.1 t.2.1 (b3N l i t.2.2.2.2.1 (if ce = 0 then -3 else nI ce) (hd t.2.2.2.1)) b.1 t.2.2.2.2.1.1 → AgU T' t.2.2.2.2.2 s.1 → HyT GF T' S E MD A C → (∀ d' v' n', X d' v' n' → S E.2.2.2.1 d' v' n') → S E.2.2.2.1 d v0 i → T' 4 i = 46 → (¬ lp = 0 → hlp T' d i) → (∀ d' v' n', X d' v' n' → SOk T' FN S E.2.2.2.1 d' v' n') ∧ ∀ k, BrL T' FN S E.2.2.2.1 d v0 i k (T' 9 t.2.2.2.2.1.1) → BrL T' FN S E.2.2.2.1 d v0 i (k + 1) (nI t.2.2.2.2.1.1) := by
  obtain ⟨X, y, A, C, f1, s1, w1, w2, g1, x1, H1⟩ := hB
  rw [if_pos rfl] at w1
  have l1 := hF.1
  have l2 := f1.1
  obtain ⟨m1, m2, m3⟩ := b3N_1 (l := l) (i := i) (t := t.2.2.2.2.1) (x := if ce = 0 then -3 else nI ce) (y := hd t.2.2.2.1)
  have hF2 : Frm E.2.2.2.1 v b 0 t.2.2.2.2.1 := Frm_tr hF f1 hv (Or.inl rfl)
  refine ⟨X, A, C, ⟨by omega, by rw [m2]; exact hF2.2.1, fun a j hj h9 h5 => ?_, fun j hj => by rw [m3]; exact hF2.2.2.2.1 j hj, fun j hj => by rw [m3]; exact hF2.2.2.2.2 j hj⟩, s1, by omega, g1, fun T' S hA hU hY hXS hSi h46 hlp => ?_⟩
  · rw [b3N_o (by omega) (by omega), (Frm_node (un := 0) (vv := 0) (e := 0)).2.2.1 a j (by omega) (by omega)]
    exact hF2.2.2.1 a j hj (by omega)
  · have hA0 : ∀ top, Agr T' E.2.2.2.1 t.2.1 t.2.2.2.2.1 b.1 top := fun top => by
      refine ⟨fun a j h4 h9 hj hb' hx => ?_, fun j hj => ?_, fun j hj => ?_, ?_, ?_⟩
      · rw [hA.1 a j h4 h9 hj (by omega) (by omega), b3N_o (by omega) (by omega)]
        exact (Frm_node (un := 0) (vv := 0) (e := 0)).2.2.1 a j (by omega) (by omega)
      · rw [hA.2.1 j (by rw [m2]; exact hj), m3]
      · rw [hA.2.2.1 j hj, m3]
      · have := hA.2.2.2.1; omega
      · have := hA.2.2.2.2; rw [m2] at this; exact this
    have nd : ∀ a, 4 ≤ a → a ≤ 7 → T' a t.2.2.2.2.1.1 = (bNode t.2.2.2.2.1 33 (if ce = 0 then -3 else nI ce) (hd t.2.2.2.1) 0).2.2.1 a t.2.2.2.2.1.1 := fun a h4 h7 => by
      rw [hA.1 a _ h4 (by omega) (by omega) (by omega) (by omega), b3N_o (by omega) (by omega)]
    obtain ⟨n4, n5, n6, n7, _⟩ := nd_t (b := t.2.2.2.2.1) (k := 33) (x := if ce = 0 then -3 else nI ce) (y := hd t.2.2.2.1) (z := 0)
    obtain ⟨q1, q3⟩ := H1 T' S (Agr_up (hA0 0) l1) hU hY hXS (Or.inr ⟨i, d, v0, rfl, rfl, hSi, by rw [if_neg (by rw [h46]; decide)]; omega, Or.inl h46⟩) (fun z => hlq_in (by omega) (Or.inr (Or.inr (hlp z))))
    refine ⟨q1, fun k hk => ⟨t.2.2.2.2.1.1, rfl, ⟨by omega, by have := hA.2.2.2.1; omega⟩, ?_, ?_, hk⟩⟩
    · rw [nd 5 (by decide) (by decide), n5]
      rcases hc with z | z
      · rw [if_pos z]; exact Or.inr (Or.inl rfl)
      · have z1 := z.1
        have z2 := z.2.1
        rw [if_neg (by omega)]
        exact Or.inr (Or.inr (Wx_of hO hK (by decide) (z.2.2.2.2 T' (Agr_g (hA0 ce) f1 hcv hb (Nat.le_refl _) (Or.inl (by omega)) (Or.inl rfl)))))
    · rw [nd 6 (by decide) (by decide), n6, w1]
      rcases x1 with z | ⟨z1, z2, z3⟩
      · rw [z]; exact Or.inl rfl
      · exact Or.inr ⟨y, cv, hd_1 (by omega), hXS _ _ _ z3, by omega, q3 (by omega)⟩
/-- the last branch -/
theorem RB3_e {cb : BT} {cv ce O K q2 : Nat} {t : ST} (hF : Frm E.2.2.2.1 v b 0 cb) (hv : v ≤ cv) (hcv : cv ≤ t.2.1) (hO : O ≤ 20) (hK : K ≤ 60) (hc : ce = 0 ∨ LPt FN (eFl E) E.2.2.2.1 cv O 14 K b.1 cb ce) (hB : RB0 FN GF MD E lp (d + 1) q2 cv (nI i) 0 0 cb s t) (hb : 1 ≤ b.1) (hi : i < b.1) (hi2 : b.1 ≤ 70000) (hl : l < b.1) (hv0 : v0 ≤ v) (hq : q ≤ q2) : RB3 FN GF MD E lp d q v v0 i l b s (t.1, t.2.1, 0, t.2.2.2.2.1.1, b3N l i t.2.2.2.2.1 (if ce = 0 then -3 else nI ce) (hd t.2.2.2.1), t.2.2.2.2.2) := by
  obtain ⟨X, A, C, f1, s1, l1, g1, H1⟩ := Br1 (GF := GF) (l := l) hF hv hcv hO hK hc hB hb hi hi2 hl hv0
  obtain ⟨m1, m2, m3⟩ := b3N_1 (l := l) (i := i) (t := t.2.2.2.2.1) (x := if ce = 0 then -3 else nI ce) (y := hd t.2.2.2.1)
  refine ⟨X, t.2.2.2.2.1.1, A, C, 0, f1, s1, ⟨l1, by show t.2.2.2.2.1.1 < _; rw [m1]; omega, ?_⟩, fun z => ?_, fun z => ⟨?_, ?_⟩, by show _ ≤ t.1; omega, H1⟩
  · show (b3N l i t.2.2.2.2.1 _ _).2.2.1 9 t.2.2.2.2.1.1 = -1
    rw [b3N_o (by omega) (by omega)]; exact nd_t.2.2.2.2.2
  · show (b3N l i t.2.2.2.2.1 _ _).2.2.1 5 i = _
    unfold b3N; rw [if_pos z]; exact bSet_s
  · show (b3N l i t.2.2.2.2.1 _ _).2.2.1 9 l = _
    unfold b3N; rw [if_neg z]; exact bSet_s
  · show (b3N l i t.2.2.2.2.1 _ _).2.2.1 5 i = _
    obtain ⟨_, _, _, _, h3, _⟩ := hB
    have l2 := h3.1
    have l3 := hF.1
    rw [b3N_o (by omega) (by omega), (Frm_node (un := 0) (vv := 0) (e := 0)).2.2.1 5 i (by omega) (by omega), h3.2.2.1 5 i (by omega) (by omega), hF.2.2.1 5 i (by omega) (by omega)]
/-- a branch and those behind it -/
theorem RB3_s {cb : BT} {cv ce O K q2 q3 : Nat} {t r : ST} (hF : Frm E.2.2.2.1 v b 0 cb) (hv : v ≤ cv) (hcv : cv ≤ t.2.1) (hO : O ≤ 20) (hK : K ≤ 60) (hc : ce = 0 ∨ LPt FN (eFl E) E.2.2.2.1 cv O 14 K b.1 cb ce) (hB : RB0 FN GF MD E lp (d + 1) q2 cv (nI i) 0 0 cb s t) (hb : 1 ≤ b.1) (hi : i < b.1) (hi2 : b.1 ≤ 70000) (hl : l < b.1) (hv0 : v0 ≤ v) (hq : q ≤ q2) (hq3 : t.1 ≤ q3) (hvr : t.2.1 ≤ r.2.1) (hR : RB3 FN GF MD E lp d q3 t.2.1 v0 i t.2.2.2.2.1.1 (b3N l i t.2.2.2.2.1 (if ce = 0 then -3 else nI ce) (hd t.2.2.2.1)) t.2.2.2.2.2 r) : RB3 FN GF MD E lp d q v v0 i l b s r := by
  obtain ⟨X, A, C, f1, s1, l1, g1, H1⟩ := Br1 (GF := GF) (l := l) hF hv hcv hO hK hc hB hb hi hi2 hl hv0
  obtain ⟨m1, m2, m3⟩ := b3N_1 (l := l) (i := i) (t := t.2.2.2.2.1) (x := if ce = 0 then -3 else nI ce) (y := hd t.2.2.2.1)
  obtain ⟨X2, y2, A2, C2, c2, f2, s2, ⟨e1, e2, e3⟩, w0, w1, g2, H2⟩ := hR
  generalize hbb : b3N l i t.2.2.2.2.1 (if ce = 0 then -3 else nI ce) (hd t.2.2.2.1) = bb at *
  obtain ⟨y9, y5⟩ := w1 (by omega)
  have ll := f2.1
  refine ⟨fun d' v' n' => X d' v' n' ∨ X2 d' v' n', t.2.2.2.2.1.1, max A A2, max C C2, c2 + 1, ⟨by omega, by have := f2.2.1; have := f1.2.1; omega, fun a j hj h9 h5 => ?_, fun j hj => ?_, fun j hj => ?_⟩, FrS_tr s1 s2, ⟨by omega, e2, e3⟩, fun z => ?_, fun z => ⟨?_, ?_⟩, by omega, fun T' S hA hU hY hXS hSi h46 hlp => ?_⟩
  · rw [f2.2.2.1 a j (by omega) (by omega) h5]; exact f1.2.2.1 a j hj h9 h5
  · rw [f2.2.2.2.1 j (by have := f1.2.1; omega)]; exact f1.2.2.2.1 j hj
  · rw [f2.2.2.2.2 j (by omega)]; exact f1.2.2.2.2 j hj
  · rw [y5, ← hbb]; unfold b3N; rw [if_pos z]; exact bSet_s
  · rw [f2.2.2.1 9 l (by omega) (by omega) (by omega), ← hbb]; unfold b3N; rw [if_neg z]; exact bSet_s
  · rw [y5, ← hbb, b3N_o (by omega) (by omega)]
    obtain ⟨_, _, _, _, h3, _⟩ := hB
    have l2 := h3.1
    have l3 := hF.1
    rw [(Frm_node (un := 0) (vv := 0) (e := 0)).2.2.1 5 i (by omega) (by omega), h3.2.2.1 5 i (by omega) (by omega), hF.2.2.1 5 i (by omega) (by omega)]
  · have hA1 : Agr T' E.2.2.2.1 t.2.1 bb b.1 t.2.2.2.2.1.1 := by
      refine ⟨fun a j h4 h9 hj hb' hx => ?_, fun j hj => ?_, fun j hj => ?_, ?_, ?_⟩
      · rw [hA.1 a j h4 h9 hj (by omega) (by omega), f2.2.2.1 a j hb' (by omega) (by omega)]
      · rw [hA.2.1 j (Nat.lt_of_lt_of_le hj f2.2.1), f2.2.2.2.1 j hj]
      · rw [hA.2.2.1 j (by omega), f2.2.2.2.2 j hj]
      · have := hA.2.2.2.1; omega
      · exact Nat.le_trans f2.2.1 hA.2.2.2.2
    have e9 : T' 9 t.2.2.2.2.1.1 = nI y2 := by rw [hA.1 9 _ (by decide) (by decide) l1 (by omega) (by omega)]; exact y9
    obtain ⟨p1, p2⟩ := H1 T' S hA1 (AgU_dn hU s2 (Nat.le_refl _)) (HyT_mo hY (by omega) (by omega)) (fun d' v' n' z => hXS d' v' n' (Or.inl z)) hSi h46 hlp
    obtain ⟨q1, q2'⟩ := H2 T' S (Agr_up hA (by omega)) (AgU_lo hU s1.1) (HyT_mo hY (by omega) (by omega)) (fun d' v' n' z => hXS d' v' n' (Or.inr z)) hSi h46 hlp
    refine ⟨fun d' v' n' z => z.elim (p1 d' v' n') (q1 d' v' n'), fun k hk => ?_⟩
    have := p2 (k + c2 + 1) (by rw [e9]; exact q2' k hk)
    exact this
end BRS

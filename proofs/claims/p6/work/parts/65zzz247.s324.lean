/-! The set of statements that the grammar lays: a statement, a block. -/
/-- what T' and the set of all statements must have: A keys at most of what is no call, C of calls -/
def HyT (GF : Nat → Prop) (T' : Nat → Nat → Int32) (S : Nat → Nat → Nat → Nat → Prop) (E : En) (MD : Nat → Nat → Nat) (A C : Nat) : Prop := (∀ s, GF s → ¬ T' 20 s = 0) ∧ TbO T' S E MD ∧ C ≤ KBn T' ∧ A + KBn T' + 14 ≤ 17000
/-- before a statement -/
def PrZ (n : Nat) (FN : Nat → Nat → Prop) (GF : Nat → Prop) (E : En) (o q v : Nat) (b : BT) (s : SB) (d : Nat) : Prop := q ≤ n ∧ v ≤ 60 ∧ o ≤ 20 ∧ b.1 + n < 70000 + q ∧ b.2.1 + n ≤ 70000 + q ∧ 1 ≤ b.1 ∧ s.1 ≤ 400 ∧ EnOK FN E ∧ NmC E.2.2.2.1 v b GF E ∧ E.2.2.2.1 ≤ 41 ∧ d ≤ o
/-- a statement without its number: X within it -/
def RIn (FN : Nat → Nat → Prop) (GF : Nat → Prop) (MD : Nat → Nat → Nat) (E : En) (lp d q v : Nat) (b : BT) (s : SB) (r : ST) : Prop := ∃ (X : Nat → Nat → Nat → Prop) (A C : Nat), Frm E.2.2.2.1 v b 0 r.2.2.2.2.1 ∧ FrS s r.2.2.2.2.2 ∧ (b.1 ≤ r.2.2.2.1 ∧ r.2.2.2.1 < r.2.2.2.2.1.1 ∧ r.2.2.2.2.1.2.2.1 9 r.2.2.2.1 = -1) ∧ 2 * (A + C) + q < r.1 ∧ ∀ (T' : Nat → Nat → Int32) (S : Nat → Nat → Nat → Nat → Prop), AgS T' E.2.2.2.1 r.2.1 r.2.2.2.2.1 b.1 r.2.2.2.1 → AgU T' r.2.2.2.2.2 s.1 → HyT GF T' S E MD A C → (∀ d' v' n', X d' v' n' → S E.2.2.2.1 d' v' n') → S E.2.2.2.1 d v r.2.2.2.1 → (¬ lp = 0 → hlp T' d r.2.2.2.1) → (∀ d' v' n', X d' v' n' → SOk T' FN S E.2.2.2.1 d' v' n') ∧ KdO T' FN S E.2.2.2.1 d v r.2.2.2.1
/-- a statement -/
def RS1 (FN : Nat → Nat → Prop) (GF : Nat → Prop) (MD : Nat → Nat → Nat) (E : En) (lp d q v : Nat) (b : BT) (s : SB) (r : ST) : Prop := ∃ (X : Nat → Nat → Nat → Prop) (A C : Nat), Frm E.2.2.2.1 v b 0 r.2.2.2.2.1 ∧ FrS s r.2.2.2.2.2 ∧ (b.1 ≤ r.2.2.2.1 ∧ r.2.2.2.1 < r.2.2.2.2.1.1 ∧ r.2.2.2.2.1.2.2.1 9 r.2.2.2.1 = -1) ∧ (r.2.2.1 = s.1 ∧ s.1 < r.2.2.2.2.2.1) ∧ 2 * (A + C) + q < r.1 ∧ X d v r.2.2.2.1 ∧ ∀ (T' : Nat → Nat → Int32) (S : Nat → Nat → Nat → Nat → Prop) (pe : Int32), Agr T' E.2.2.2.1 r.2.1 r.2.2.2.2.1 b.1 r.2.2.2.1 → AgU T' r.2.2.2.2.2 (s.1 + 1) → T' 10 s.1 = pe → HyT GF T' S E MD A C → (∀ d' v' n', X d' v' n' → S E.2.2.2.1 d' v' n') → UpO T' S E.2.2.2.1 d v pe → (¬ lp = 0 → hlq T' d pe) → (T' 9 r.2.2.2.1 = -1 ∨ ∃ n' v', T' 9 r.2.2.2.1 = nI n' ∧ S E.2.2.2.1 d v' n' ∧ v ≤ v' ∧ upN T' n' = pe) → (∀ d' v' n', X d' v' n' → SOk T' FN S E.2.2.2.1 d' v' n') ∧ upN T' r.2.2.2.1 = pe
/-- a block, or the rest of one behind l: y the first of it, 0: none -/
def RB0 (FN : Nat → Nat → Prop) (GF : Nat → Prop) (MD : Nat → Nat → Nat) (E : En) (lp d q v : Nat) (pe : Int32) (i l : Nat) (b : BT) (s : SB) (r : ST) : Prop := ∃ (X : Nat → Nat → Nat → Prop) (y A C : Nat), Frm E.2.2.2.1 v b l r.2.2.2.2.1 ∧ FrS s r.2.2.2.2.2 ∧ r.2.2.2.1 = (if i = 0 then y else i) ∧ (¬ i = 0 → r.2.2.2.2.1.2.2.1 9 l = hd y) ∧ 2 * (A + C) + q ≤ r.1 ∧ (y = 0 ∨ (b.1 ≤ y ∧ y < r.2.2.2.2.1.1 ∧ X d v y)) ∧ ∀ (T' : Nat → Nat → Int32) (S : Nat → Nat → Nat → Nat → Prop), Agr T' E.2.2.2.1 r.2.1 r.2.2.2.2.1 b.1 0 → AgU T' r.2.2.2.2.2 s.1 → HyT GF T' S E MD A C → (∀ d' v' n', X d' v' n' → S E.2.2.2.1 d' v' n') → UpO T' S E.2.2.2.1 d v pe → (¬ lp = 0 → hlq T' d pe) → (∀ d' v' n', X d' v' n' → SOk T' FN S E.2.2.2.1 d' v' n') ∧ (¬ y = 0 → upN T' y = pe)
section SET
variable {T : Nat → Int32} {n : Nat} {FN : Nat → Nat → Prop} {GF : Nat → Prop} {E : En} {MD : Nat → Nat → Nat} {lp d o q v un vv vw lo lo' top A C A' C' : Nat} {b b' : BT} {s : SB} {T' : Nat → Nat → Int32} {S : Nat → Nat → Nat → Nat → Prop}
theorem HyT_mo (h : HyT GF T' S E MD A C) (ha : A' ≤ A) (hc : C' ≤ C) : HyT GF T' S E MD A' C' := ⟨h.1, h.2.1, by have := h.2.2.1; omega, by have := h.2.2.2; omega⟩
theorem Agr_up (h : Agr T' un vv b lo top) (hl : lo ≤ lo') : Agr T' un vv b lo' top := ⟨fun a i h4 h9 hi hb hx => h.1 a i h4 h9 (by omega) hb hx, h.2⟩
/-- a statement without parts -/
theorem RIn_s {r : RT} {ks : Nat} (hF : Frm E.2.2.2.1 v b 0 r.2.2.2.2.1) (hL : SLd GF E.2.2.2.1 r.2.1 b.1 r.2.2.2.2.1 r.2.2.2.1 (QSt FN E MD lp r.2.2.2.1 ks)) (hk : 2 * ks + q < r.1) : RIn FN GF MD E lp d q v b s (r.1, r.2.1, 0, r.2.2.2.1, r.2.2.2.2.1, s) := by
  obtain ⟨l1, l2, l3, l4, l5⟩ := hL
  by_cases c : r.2.2.2.2.1.2.2.1 4 r.2.2.2.1 = 45
  · refine ⟨fun _ _ _ => False, 0, ks, hF, FrS_rf, ⟨l2, l3, l4⟩, by show 2 * (0 + ks) + q < r.1; omega, fun T' S hA hU hY _ _ hl => ⟨fun _ _ _ z => z.elim, ?_⟩⟩
    have e4 : T' 4 r.2.2.2.1 = 45 := (hA.1 4 _ (by decide) (by decide) l2 l3 (by omega)).trans c
    have h3 := hY.2.2.1
    have h4 := hY.2.2.2
    exact Kd_st hY.2.1 (fun _ => ⟨h3, by omega⟩) (fun z => absurd e4 z) hl (l5 T' hA hY.1)
  · refine ⟨fun _ _ _ => False, ks, 0, hF, FrS_rf, ⟨l2, l3, l4⟩, by show 2 * (ks + 0) + q < r.1; omega, fun T' S hA hU hY _ _ hl => ⟨fun _ _ _ z => z.elim, ?_⟩⟩
    have e4 : ¬ T' 4 r.2.2.2.1 = 45 := fun z => c ((hA.1 4 _ (by decide) (by decide) l2 l3 (by omega)).symm.trans z)
    exact Kd_st hY.2.1 (fun z => absurd z e4) (fun _ => hY.2.2.2) hl (l5 T' hA hY.1)
/-- it gets its number -/
theorem S1_fin {r : ST} (hv : v ≤ 60) (hd : d ≤ 20) (hun : E.2.2.2.1 ≤ 41) (hb : 1 ≤ b.1) (hs : s.1 < 400) (h : RIn FN GF MD E lp d q v b (sMo s) r) : RS1 FN GF MD E lp d q v b s (r.1, r.2.1, s.1, r.2.2.2.1, bSet r.2.2.2.2.1 8 r.2.2.2.1 (nI s.1), sPl r.2.2.2.2.2 s.1 (nI q)) := by
  obtain ⟨X, A, C, hF, hS, ⟨e1, e2, e3⟩, hk, hX⟩ := h
  have hS1 : s.1 + 1 ≤ r.2.2.2.2.2.1 := hS.1
  refine ⟨fun d' v' n' => (d' = d ∧ v' = v ∧ n' = r.2.2.2.1) ∨ X d' v' n', A, C, Frm_set8 e1 hF, ⟨by show s.1 ≤ r.2.2.2.2.2.1; omega, fun i hi => hS.2 i (Nat.lt_succ_of_lt hi)⟩, ⟨e1, e2, (bSet_o (by omega)).trans e3⟩, ⟨rfl, hS1⟩, hk, Or.inl ⟨rfl, rfl, rfl⟩, fun T' S pe hA hU h10 hY hXS hUp hl hNx => ?_⟩
  have hAS : AgS T' E.2.2.2.1 r.2.1 r.2.2.2.2.1 b.1 r.2.2.2.1 := ⟨fun a i h4 h9 hi hb hx => (hA.1 a i h4 h9 hi hb (by dsimp only; omega)).trans (bSet_o (by omega)), hA.2⟩
  have t8 : T' 8 r.2.2.2.1 = nI s.1 := (hA.1 8 _ (by decide) (by decide) e1 e2 (by omega)).trans bSet_s
  have up : upN T' r.2.2.2.1 = pe := by unfold upN; rw [t8, n_cl (p := s.1) (by omega)]; exact h10
  have hN : s.1 < SNo T' % 402 := by
    have h2 : r.2.2.2.2.2.1 ≤ SNo T' % 402 := hU.2
    omega
  obtain ⟨k1, k2⟩ := hX T' S hAS hU hY (fun d' v' n' z => hXS d' v' n' (Or.inr z)) (hXS d v r.2.2.2.1 (Or.inl ⟨rfl, rfl, rfl⟩)) (fun z => hlp_q (by rw [up]; exact hl z))
  refine ⟨fun d' v' n' z => ?_, up⟩
  rcases z with ⟨rfl, rfl, rfl⟩ | z
  · refine ⟨⟨⟨⟨by omega, Nat.lt_of_lt_of_le e2 hAS.2.2.2.1⟩, hv, hd, hun⟩, ⟨s.1, t8, hN⟩, ?_, by rw [up]; exact hUp⟩, k2⟩
    refine hNx.imp id (fun z => ?_)
    obtain ⟨n', v', a1, a2, a3, a4⟩ := z
    exact ⟨n', v', a1, a2, a3, a4.trans up.symm⟩
  · exact k1 d' v' n' z
theorem bLnk_11 {i l x : Nat} : (bLnk i l x b).1 = b.1 ∧ (bLnk i l x b).2.1 = b.2.1 := by
  unfold bLnk
  by_cases c : i = 0
  · rw [if_pos c]; exact ⟨rfl, rfl⟩
  · rw [if_neg c]; exact ⟨rfl, rfl⟩
/-- a block goes on -/
theorem RB0_s {i l : Nat} {pe : Int32} {t r : ST} (hm : MoZ n b s q v t) (hb : 1 ≤ b.1) (hl : l < b.1) (hi : ¬ i = 0 → 1 ≤ l) (h1 : RS1 FN GF MD E lp d q v b s t) (h2 : RB0 FN GF MD E lp d t.1 t.2.1 pe (fst2 i t.2.2.2.1) t.2.2.2.1 (bLnk i l t.2.2.2.1 t.2.2.2.2.1) (sUp t.2.2.2.2.2 t.2.2.1 pe) r) (hm2 : t.2.1 ≤ r.2.1) : RB0 FN GF MD E lp d q v pe i l b s r := by
  obtain ⟨m1, m2, m3, m4, m5, m6, m7, m8, m9, m10⟩ := hm
  obtain ⟨X1, A1, C1, f1, s1, ⟨e1, e2, e3⟩, ⟨k1, k2⟩, g1, x1, H1⟩ := h1
  obtain ⟨X2, y2, A2, C2, f2, s2, w1, w2, g2, x2, H2⟩ := h2
  have hne : ¬ fst2 i t.2.2.2.1 = 0 := by
    unfold fst2
    by_cases c : i = 0
    · rw [if_pos c]; omega
    · rw [if_neg c]; exact c
  obtain ⟨bl1, bl2⟩ := bLnk_11 (i := i) (l := l) (x := t.2.2.2.1) (b := t.2.2.2.2.1)
  have f12 : Frm E.2.2.2.1 v b l (bLnk i l t.2.2.2.1 t.2.2.2.2.1) := Frm_tr (Frm_wk f1) (Frm_lnk (vv := v)) (Nat.le_refl _) (Or.inl rfl)
  have s12 : FrS s (sUp t.2.2.2.2.2 t.2.2.1 pe) := ⟨s1.1, fun i hi => by
    show upd t.2.2.2.2.2.2.1 t.2.2.1 pe i = _
    rw [upd_other (by omega)]; exact s1.2 i hi⟩
  rw [if_neg hne] at w1
  refine ⟨fun d' v' n' => X1 d' v' n' ∨ X2 d' v' n', t.2.2.2.1, max A1 A2, max C1 C2, Frm_tr f12 f2 m3 (Or.inr (Or.inl e1)), FrS_tr s12 s2, w1, fun z => ?_, by omega, Or.inr ⟨e1, ?_, Or.inl x1⟩, fun T' S hA hU hY hXS hUp hlq => ?_⟩
  · rw [f2.2.2.1 9 l (by rw [bl1]; omega) (fun y => by have := hi z; omega)]
    unfold bLnk
    rw [if_neg z, bSet_s, hd_1 (by omega)]
  · have := f2.1; rw [bl1] at this; omega
  · have hA2 := Agr_g (lo' := b.1) (top' := t.2.2.2.1) hA f2 hm2 hb (Nat.le_refl _) (Or.inr rfl) (Or.inr (Or.inr rfl))
    have hA1 : Agr T' E.2.2.2.1 t.2.1 t.2.2.2.2.1 b.1 t.2.2.2.1 := Agr_g hA2 (Frm_lnk (vv := t.2.1)) (Nat.le_refl _) hb (Nat.le_refl _) (Or.inl hl) (Or.inl rfl)
    have u2 : ∀ j, j < t.2.2.2.2.2.1 → r.2.2.2.2.2.2.1 j = upd t.2.2.2.2.2.2.1 s.1 pe j := fun j hj => by
      have := s2.2 j hj
      rw [k1] at this; exact this
    have s21 : t.2.2.2.2.2.1 ≤ r.2.2.2.2.2.1 := s2.1
    have hU1 : AgU T' t.2.2.2.2.2 (s.1 + 1) := ⟨fun j h1 h2 => by rw [hU.1 j (by omega) (by omega), u2 j h2, upd_other (by omega)], by have := hU.2; omega⟩
    have h10 : T' 10 s.1 = pe := by rw [hU.1 s.1 (Nat.le_refl _) (by omega), u2 s.1 k2, upd_same]
    have e9 : T' 9 t.2.2.2.1 = hd y2 := by
      have hlt := f2.1
      rw [bl1] at hlt
      rw [hA.1 9 _ (by decide) (by decide) e1 (by omega) (by omega)]; exact w2 hne
    obtain ⟨q1, q2⟩ := H2 T' S (Agr_up hA (by rw [bl1]; omega)) (AgU_lo hU (by show s.1 ≤ t.2.2.2.2.2.1; omega)) (HyT_mo hY (by omega) (by omega)) (fun d' v' n' z => hXS d' v' n' (Or.inr z)) (UpO_v hUp m3) hlq
    obtain ⟨p1, p2⟩ := H1 T' S pe hA1 hU1 h10 (HyT_mo hY (by omega) (by omega)) (fun d' v' n' z => hXS d' v' n' (Or.inl z)) hUp hlq (by
      rcases x2 with z | ⟨z1, z2, z3⟩
      · rw [e9, z]; exact Or.inl rfl
      · exact Or.inr ⟨y2, t.2.1, by rw [e9, hd_1 (by rw [bl1] at z1; omega)], hXS d t.2.1 y2 (Or.inr z3), m3, q2 (by rw [bl1] at z1; omega)⟩)
    exact ⟨fun d' v' n' z => z.elim (p1 d' v' n') (q1 d' v' n'), fun _ => p2⟩
end SET

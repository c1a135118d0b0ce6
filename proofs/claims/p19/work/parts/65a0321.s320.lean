section JnS320
/-! Statements that begin with a name, whole, and words. -/
section SL7
variable {T : Nat → Int32} {n : Nat} {FN : Nat → Nat → Prop} {GF : Nat → Prop} {E : En} {MD : Nat → Nat → Nat} {v lo e : Nat} {b : BT}
theorem gBh_t {f o i q kk q0 : Nat} {r : RT} (hT : ∀ i, i < n → ∃ d, d ≤ 300 ∧ T i = nI d) (hq : q ≤ n) (hv : v ≤ 60) (ho : o ≤ 20) (hbn : b.1 + n < 70000 + q) (hbp : b.2.1 + n ≤ 70000 + q) (hb1 : 1 ≤ b.1) (hE : EnOK FN E) (hN : NmC E.2.2.2.1 v b GF E) (hL : LTt FN GF E.2.2.2.1 v lo b e kk) (h7 : i = 1 → b.2.2.1 4 e = 7) (hkk : 2 * kk + q0 ≤ q) (hG : gBh T n f MD E o i e q v b = some (Sum.inr r)) : ∃ ks, Frm E.2.2.2.1 v b 0 r.2.2.2.2.1 ∧ SLd GF E.2.2.2.1 r.2.1 lo r.2.2.2.2.1 r.2.2.2.1 (QBg FN E MD r.2.2.2.1 ks) ∧ 2 * ks + q0 < r.1 := by
  unfold gBh at hG
  have l1 := hL.1
  have u1 := tkN_b T n q hq
  by_cases k2 : tkK T n q = 2 ∨ tkK T n q = 3 ∨ tkK T n q = 4
  · rw [if_pos k2] at hG
    obtain ⟨t1, hG⟩ := gT_s hG
    obtain ⟨w2, t2, hG⟩ := gW_s hG
    have u2 := tkN_b T n _ u1.2.1
    obtain ⟨r1, r2, r3⟩ := gE13_t (GF := GF) (Or.inr rfl) hT u2.2.1 hv ho (by omega) (by omega) hb1 hE hN hL hG
    exact ⟨kk, r1, SLd_mo r2 ⟨l1, Nat.le_refl _⟩ (fun T' _ _ h => Or.inl h), by omega⟩
  rw [if_neg k2] at hG
  by_cases k57 : tkK T n q = 57 ∨ tkK T n q = 58 ∨ tkK T n q = 59
  · rw [if_pos k57] at hG
    obtain ⟨t1, hG⟩ := gT_s hG
    obtain ⟨kb, r1, r2, r3⟩ := gFr_t (GF := GF) hT u1.2.1 hv ho (by omega) (by omega) hb1 hE hN hL hG
    exact ⟨kk + kb, r1, SLd_mo r2 ⟨l1, Nat.le_refl _⟩ (fun T' _ _ h => Or.inr (Or.inl h)), by omega⟩
  rw [if_neg k57] at hG
  obtain ⟨w2, t2, hG⟩ := gW_s hG
  exact gAs_t (GF := GF) hT u1.2.1 hv ho (by omega) (by omega) hb1 hE hN hL h7 (by omega) hG
/-- a statement that begins with a name -/
theorem gBg_t {f o q : Nat} {r : RT} (hT : ∀ i, i < n → ∃ d, d ≤ 300 ∧ T i = nI d) (hq : q ≤ n) (hk : tkK T n q = 26) (hv : v ≤ 60) (ho : o ≤ 20) (hbn : b.1 + n < 70000 + q) (hbp : b.2.1 + n ≤ 70000 + q) (hb1 : 1 ≤ b.1) (hE : EnOK FN E) (hN : NmC E.2.2.2.1 v b GF E) (hG : gBg T n f MD E o q v b = some (Sum.inr r)) : ∃ ks, Frm E.2.2.2.1 v b 0 r.2.2.2.2.1 ∧ SLd GF E.2.2.2.1 r.2.1 b.1 r.2.2.2.2.1 r.2.2.2.1 (QBg FN E MD r.2.2.2.1 ks) ∧ 2 * ks + q < r.1 := by
  unfold gBg at hG
  by_cases k3 : (fd E (tkS T n q)).1 = 3
  · rw [if_pos k3] at hG
    unfold gCa at hG
    obtain ⟨KB, r1, r2, r3⟩ := gCl_t (GF := GF) hT hq (by omega) hv ho hbn hbp hb1 hE hN hG
    exact ⟨KB, r1, SLd_mo r2 ⟨hb1, Nat.le_refl _⟩ (fun T' hA hGF h => Or.inr (Or.inr (Or.inr ⟨tkS T n q, -1, k3, h, Or.inl rfl⟩))), r3⟩
  rw [if_neg k3] at hG
  obtain ⟨s, g1, hG⟩ := gb_s hG
  obtain ⟨⟨a1, a2, a3, a4, a5, a6, a7, a8⟩, _⟩ := gTg_mo (M := 1) hq hv hb1 (Nat.le_refl 1) g1
  obtain ⟨kk, hF, hH, hkk⟩ := gTg_t hT hq hv ho hbn hbp hb1 hE hN g1
  obtain ⟨ks, r1, r2, r3⟩ := gBh_t (GF := GF) (q0 := q) hT a2 (by omega) ho (by omega) (by omega) (by omega) hE (NmC_fr hN hF a3) hH (fun z => by
    obtain ⟨z1, z2⟩ := gTg_1 g1 z
    rw [z1]; exact z2) (by omega) hG
  exact ⟨ks, Frm_tr hF r1 a3 (Or.inl rfl), r2, r3⟩
/-- a statement that begins with a word -/
theorem gSm_t {f o q lp : Nat} {r : RT} (hw : 49 ≤ tkK T n q ∧ tkK T n q ≤ 56) (hT : ∀ i, i < n → ∃ d, d ≤ 300 ∧ T i = nI d) (hq : q ≤ n) (hv : v ≤ 60) (ho : o ≤ 20) (hbn : b.1 + n < 70000 + q) (hbp : b.2.1 + n ≤ 70000 + q) (hb1 : 1 ≤ b.1) (hE : EnOK FN E) (hN : NmC E.2.2.2.1 v b GF E) (hG : gSm T n f lp E o q v b = some (Sum.inr r)) : ∃ ks, Frm E.2.2.2.1 v b 0 r.2.2.2.2.1 ∧ SLd GF E.2.2.2.1 r.2.1 b.1 r.2.2.2.2.1 r.2.2.2.1 (QSm FN E.2.2.2.1 lp r.2.2.2.1 ks) ∧ 2 * ks + q < r.1 := by
  unfold gSm at hG
  by_cases c : ((tkK T n q = 49 ∨ tkK T n q = 50) ∧ lp = 0) ∨ (tkK T n q = 51 ∧ (E.2.2.2.1 = 0 ∨ 41 < E.2.2.2.1))
  · rw [if_pos c] at hG; cases hG
  rw [if_neg c] at hG
  obtain ⟨t1, hG⟩ := gT_s hG
  have u1 := tkN_b T n q hq
  have u1' := u1.2.2.2 (by omega)
  obtain ⟨ks, r1, r2, r3⟩ := gSm0_t (GF := GF) (lp := lp) (by omega) (fun z y => c (Or.inl ⟨by omega, y⟩)) (fun z y => c (Or.inr ⟨by omega, Or.inl y⟩)) hT u1.2.1 hv ho (by omega) (by omega) hb1 hE hN hG
  exact ⟨ks, r1, r2, by omega⟩
end SL7
end JnS320
section JnS321
/-! The set of statements: what the kind of each asks, out of what the grammar lays. -/
/-- what the kind of a statement asks -/
def KdO (T : Nat → Nat → Int32) (FN : Nat → Nat → Prop) (S : Nat → Nat → Nat → Nat → Prop) (un d v n : Nat) : Prop :=
  (T 4 n = 48 → d ≤ 19 ∧ FoN T FN S un d v n) ∧
  (T 4 n = 45 → CaN T FN un n) ∧
  (T 4 n = 44 → ∃ a s, T 5 n = nI a ∧ NmW T (lcU un T) (cnU un T) a s) ∧
  (T 4 n = 46 → ∃ q, BrL T FN S un d v n (q + 1) (T 5 n)) ∧
  ((T 4 n = 40 ∨ T 4 n = 41) → ∃ k ch s, T 5 n = nI (ch k) ∧ Tgt T FN (lcU un T) k ch ∧ NmW T (lcU un T) (cnU un T) (ch 0) s ∧ kys T ch k + 10 + KBn T ≤ 17000 ∧ Wx0 T FN (lcU un T) (T 6 n)) ∧
  (T 4 n = 42 → ∃ q KK, KK + 12 + KBn T ≤ 17000 ∧ q ≤ 20000 ∧ TgL T FN (lcU un T) (cnU un T) q KK (T 5 n) ∧ Wx0 T FN (lcU un T) (T 6 n)) ∧
  (T 4 n = 43 → ∃ ka kb sa sb cha chb, Tgt T FN (lcU un T) ka cha ∧ NmW T (lcU un T) (cnU un T) (cha 0) sa ∧ Tgt T FN (lcU un T) kb chb ∧ NmW T (lcU un T) (cnU un T) (chb 0) sb ∧ T 5 n = nI (cha ka) ∧ T 6 n = nI (chb kb) ∧ kys T cha ka + kys T chb kb + 14 + KBn T ≤ 17000) ∧
  (T 4 n = 45 → ∀ pr np, T 7 n = nI pr → pr < 41 → T 18 pr = nI np → np ≤ 8 → (∀ i, i < np → ¬ T 20 (60 * (1 + pr) + i) = 0) ∧ (T 17 pr = -1 ∨ ∃ b v', T 17 pr = nI b ∧ S (1 + pr) 0 v' b)) ∧
  (T 4 n = 47 → Wx0 T FN (lcU un T) (T 5 n) ∧ BdE T S un d v n (T 6 n)) ∧
  ((T 4 n = 49 ∨ T 4 n = 50) → hlp T d n) ∧
  (T 4 n = 51 → ¬ un = 0 ∧ (T 5 n = -1 ∨ Wx0 T FN (lcU un T) (T 5 n))) ∧
  (T 4 n = 52 → ∃ q, q + 9 + KBn T ≤ 17000 ∧ ExL T FN (lcU un T) q (T 5 n)) ∧
  (T 4 n = 53 → Wx0 T FN (lcU un T) (T 5 n))
/-- what stands behind it -/
def NxO (T : Nat → Nat → Int32) (S : Nat → Nat → Nat → Nat → Prop) (un d v n : Nat) : Prop := T 9 n = -1 ∨ ∃ n' v', T 9 n = nI n' ∧ S un d v' n' ∧ v ≤ v' ∧ upN T n' = upN T n
/-- what it lies in -/
def UpO (T : Nat → Nat → Int32) (S : Nat → Nat → Nat → Nat → Prop) (un d v : Nat) (pe : Int32) : Prop := (pe = -1 ∧ d = 0) ∨ ∃ m d' v', pe = nI m ∧ d = d' + 1 ∧ S un d' v' m ∧ v' + (if T 4 m = 48 then itn T m else 0) ≤ v ∧ (T 4 m = 46 ∨ T 4 m = 47 ∨ T 4 m = 48)
/-- a statement in its place -/
def SOk (T : Nat → Nat → Int32) (FN : Nat → Nat → Prop) (S : Nat → Nat → Nat → Nat → Prop) (un d v n : Nat) : Prop := (((1 ≤ n ∧ n < LNo T % 70001) ∧ v ≤ 60 ∧ d ≤ 20 ∧ un ≤ 41) ∧ (∃ p, T 8 n = nI p ∧ p < SNo T % 402) ∧ NxO T S un d v n ∧ UpO T S un d v (upN T n)) ∧ KdO T FN S un d v n
theorem SW_of {T : Nat → Nat → Int32} {FN : Nat → Nat → Prop} {S : Nat → Nat → Nat → Nat → Prop} (h : ∀ un d v n, S un d v n → SOk T FN S un d v n) : SWf T FN S ∧ SWk T FN S := by
  refine ⟨fun un d v n hS => ?_, fun un d v n hS => ?_, fun un d v n hS => ?_⟩
  · obtain ⟨⟨p1, p2, p3, p4⟩, k48, k45, _⟩ := h un d v n hS
    exact ⟨p1, p2, p3, p4, k48, k45⟩
  · obtain ⟨_, _, _, k44, k46, _⟩ := h un d v n hS
    exact ⟨k44, k46⟩
  · obtain ⟨_, _, _, _, _, k⟩ := h un d v n hS
    exact k
/-- the table of a proc -/
def PcO (T : Nat → Nat → Int32) (S : Nat → Nat → Nat → Nat → Prop) (p np : Nat) (md : Nat → Nat) : Prop := p < CNo T % 42 ∧ T 18 p = nI np ∧ np ≤ 8 ∧ (∃ ns, T 21 (1 + p) = nI ns ∧ ns ≤ 60 ∧ ∀ s, ns ≤ s → s < 60 → T 20 (60 * (1 + p) + s) = 0) ∧ (∀ i, i < np → ¬ T 20 (60 * (1 + p) + i) = 0) ∧ (T 17 p = -1 ∨ ∃ b v', T 17 p = nI b ∧ S (1 + p) 0 v' b) ∧ ∀ j, j < np → md j ≤ 2 ∧ T 19 (8 * p + j) = nI (md j)
/-- the tables of the procs that are seen -/
def TbO (T : Nat → Nat → Int32) (S : Nat → Nat → Nat → Nat → Prop) (E : En) (MD : Nat → Nat → Nat) : Prop := ∀ x ∈ E.1, x.2.2.1 = 3 → PcO T S x.2.2.2 (E.2.2.2.2.2.2 x.2.2.2) (MD x.2.2.2)
/-- a statement without parts, as it is laid -/
def QSt (FN : Nat → Nat → Prop) (E : En) (MD : Nat → Nat → Nat) (lp n ks : Nat) (T' : Nat → Nat → Int32) : Prop := QBg FN E MD n ks T' ∨ QPt FN E.2.2.2.1 n ks T' ∨ QSm FN E.2.2.2.1 lp n ks T'
section KDO
variable {T : Nat → Nat → Int32} {FN : Nat → Nat → Prop} {S : Nat → Nat → Nat → Nat → Prop} {E : En} {MD : Nat → Nat → Nat} {un d v n ks lp : Nat}
theorem Kd_as (hA : ks + KBn T + 14 ≤ 17000) (h : QAs FN un n ks T) : KdO T FN S un d v n := by
  obtain ⟨h4, k, ch, s, x5, hT, hN, hk, h6⟩ := h
  have no : ∀ j : Int32, (j ≠ 40 ∧ j ≠ 41) → T 4 n = j → False := fun j hj z => h4.elim (fun y => hj.1 (z.symm.trans y)) (fun y => hj.2 (z.symm.trans y))
  exact ⟨fun z => (no _ (by decide) z).elim, fun z => (no _ (by decide) z).elim, fun z => (no _ (by decide) z).elim, fun z => (no _ (by decide) z).elim, fun _ => ⟨k, ch, s, x5, hT, hN, by omega, h6⟩, fun z => (no _ (by decide) z).elim, fun z => (no _ (by decide) z).elim, fun z => (no _ (by decide) z).elim, fun z => (no _ (by decide) z).elim, fun z => z.elim (fun z => (no _ (by decide) z).elim) (fun z => (no _ (by decide) z).elim), fun z => (no _ (by decide) z).elim, fun z => (no _ (by decide) z).elim, fun z => (no _ (by decide) z).elim⟩
theorem Kd_pt (hA : ks + KBn T + 14 ≤ 17000) (h : QPt FN un n ks T) : KdO T FN S un d v n := by
  obtain ⟨h4, q, hq, hL, h6⟩ := h
  have no : ∀ j : Int32, j ≠ 42 → T 4 n = j → False := fun j hj z => hj (z.symm.trans h4)
  exact ⟨fun z => (no _ (by decide) z).elim, fun z => (no _ (by decide) z).elim, fun z => (no _ (by decide) z).elim, fun z => (no _ (by decide) z).elim, fun z => z.elim (fun z => (no _ (by decide) z).elim) (fun z => (no _ (by decide) z).elim), fun _ => ⟨q, ks, by omega, hq, hL, h6⟩, fun z => (no _ (by decide) z).elim, fun z => (no _ (by decide) z).elim, fun z => (no _ (by decide) z).elim, fun z => z.elim (fun z => (no _ (by decide) z).elim) (fun z => (no _ (by decide) z).elim), fun z => (no _ (by decide) z).elim, fun z => (no _ (by decide) z).elim, fun z => (no _ (by decide) z).elim⟩
theorem Kd_fr (hA : ks + KBn T + 14 ≤ 17000) (h : QFr FN un n ks T) : KdO T FN S un d v n := by
  obtain ⟨h4, ka, kb, sa, sb, cha, chb, t1, n1, t2, n2, x5, x6, hk⟩ := h
  have no : ∀ j : Int32, j ≠ 43 → T 4 n = j → False := fun j hj z => hj (z.symm.trans h4)
  exact ⟨fun z => (no _ (by decide) z).elim, fun z => (no _ (by decide) z).elim, fun z => (no _ (by decide) z).elim, fun z => (no _ (by decide) z).elim, fun z => z.elim (fun z => (no _ (by decide) z).elim) (fun z => (no _ (by decide) z).elim), fun z => (no _ (by decide) z).elim, fun _ => ⟨ka, kb, sa, sb, cha, chb, t1, n1, t2, n2, x5, x6, by omega⟩, fun z => (no _ (by decide) z).elim, fun z => (no _ (by decide) z).elim, fun z => z.elim (fun z => (no _ (by decide) z).elim) (fun z => (no _ (by decide) z).elim), fun z => (no _ (by decide) z).elim, fun z => (no _ (by decide) z).elim, fun z => (no _ (by decide) z).elim⟩
theorem Kd_ok (h : QOk un n T) : KdO T FN S un d v n := by
  obtain ⟨h4, a, s, x5, hn⟩ := h
  have no : ∀ j : Int32, j ≠ 44 → T 4 n = j → False := fun j hj z => hj (z.symm.trans h4)
  exact ⟨fun z => (no _ (by decide) z).elim, fun z => (no _ (by decide) z).elim, fun _ => ⟨a, s, x5, hn⟩, fun z => (no _ (by decide) z).elim, fun z => z.elim (fun z => (no _ (by decide) z).elim) (fun z => (no _ (by decide) z).elim), fun z => (no _ (by decide) z).elim, fun z => (no _ (by decide) z).elim, fun z => (no _ (by decide) z).elim, fun z => (no _ (by decide) z).elim, fun z => z.elim (fun z => (no _ (by decide) z).elim) (fun z => (no _ (by decide) z).elim), fun z => (no _ (by decide) z).elim, fun z => (no _ (by decide) z).elim, fun z => (no _ (by decide) z).elim⟩
theorem Kd_ca {p np : Nat} {md : Nat → Nat} {tg : Int32} (hC : ks ≤ KBn T ∧ ks ≤ 17000) (hP : PcO T S p np md) (htg : tg = -1 ∨ ∃ k ch s, tg = nI (ch k) ∧ Tgt T FN (lcU un T) k ch ∧ NmW T (lcU un T) (cnU un T) (ch 0) s ∧ kys T ch k ≤ ks) (h : QCa FN un n p np ks md tg T) : KdO T FN S un d v n := by
  obtain ⟨h4, x7, x5, hL⟩ := h
  obtain ⟨p1, p2, p3, ⟨ns, p4, p5, p6⟩, p7, p8, p9⟩ := hP
  have no : ∀ j : Int32, j ≠ 45 → T 4 n = j → False := fun j hj z => hj (z.symm.trans h4)
  refine ⟨fun z => (no _ (by decide) z).elim, fun _ => ⟨p, np, ns, p1, x7, p2, p3, p4, p5, p6, hL hC p9, ?_⟩, fun z => (no _ (by decide) z).elim, fun z => (no _ (by decide) z).elim, fun z => z.elim (fun z => (no _ (by decide) z).elim) (fun z => (no _ (by decide) z).elim), fun z => (no _ (by decide) z).elim, fun z => (no _ (by decide) z).elim, fun _ pr np' e7 hpr e18 hnp => ?_, fun z => (no _ (by decide) z).elim, fun z => z.elim (fun z => (no _ (by decide) z).elim) (fun z => (no _ (by decide) z).elim), fun z => (no _ (by decide) z).elim, fun z => (no _ (by decide) z).elim, fun z => (no _ (by decide) z).elim⟩
  · rw [x5]
    refine htg.imp id (fun z => ?_)
    obtain ⟨k, ch, s, c1, c2, c3, c4⟩ := z
    exact ⟨k, ch, s, c1, c2, c3, by omega, by omega⟩
  · have e1 : pr = p := (n_eq (by omega) (by omega)).mp (e7.symm.trans x7)
    subst e1
    have e2 : np' = np := (n_eq (by omega) (by omega)).mp (e18.symm.trans p2)
    subst e2
    exact ⟨p7, p8⟩
theorem Kd_sm (hA : ks + KBn T + 14 ≤ 17000) (hl : ¬ lp = 0 → hlp T d n) (h : QSm FN un lp n ks T) : KdO T FN S un d v n := by
  rcases h with ⟨h4, hp⟩ | ⟨h4, h5⟩ | ⟨h4, h5⟩ | ⟨h4, h5⟩ | h4 | h4 | h4
  · have no : ∀ j : Int32, (j ≠ 49 ∧ j ≠ 50) → T 4 n = j → False := fun j hj z => h4.elim (fun y => hj.1 (z.symm.trans y)) (fun y => hj.2 (z.symm.trans y))
    exact ⟨fun z => (no _ (by decide) z).elim, fun z => (no _ (by decide) z).elim, fun z => (no _ (by decide) z).elim, fun z => (no _ (by decide) z).elim, fun z => z.elim (fun z => (no _ (by decide) z).elim) (fun z => (no _ (by decide) z).elim), fun z => (no _ (by decide) z).elim, fun z => (no _ (by decide) z).elim, fun z => (no _ (by decide) z).elim, fun z => (no _ (by decide) z).elim, fun _ => hl hp, fun z => (no _ (by decide) z).elim, fun z => (no _ (by decide) z).elim, fun z => (no _ (by decide) z).elim⟩
  · have no : ∀ j : Int32, j ≠ 51 → T 4 n = j → False := fun j hj z => hj (z.symm.trans h4)
    exact ⟨fun z => (no _ (by decide) z).elim, fun z => (no _ (by decide) z).elim, fun z => (no _ (by decide) z).elim, fun z => (no _ (by decide) z).elim, fun z => z.elim (fun z => (no _ (by decide) z).elim) (fun z => (no _ (by decide) z).elim), fun z => (no _ (by decide) z).elim, fun z => (no _ (by decide) z).elim, fun z => (no _ (by decide) z).elim, fun z => (no _ (by decide) z).elim, fun z => z.elim (fun z => (no _ (by decide) z).elim) (fun z => (no _ (by decide) z).elim), fun _ => h5, fun z => (no _ (by decide) z).elim, fun z => (no _ (by decide) z).elim⟩
  · have no : ∀ j : Int32, j ≠ 52 → T 4 n = j → False := fun j hj z => hj (z.symm.trans h4)
    exact ⟨fun z => (no _ (by decide) z).elim, fun z => (no _ (by decide) z).elim, fun z => (no _ (by decide) z).elim, fun z => (no _ (by decide) z).elim, fun z => z.elim (fun z => (no _ (by decide) z).elim) (fun z => (no _ (by decide) z).elim), fun z => (no _ (by decide) z).elim, fun z => (no _ (by decide) z).elim, fun z => (no _ (by decide) z).elim, fun z => (no _ (by decide) z).elim, fun z => z.elim (fun z => (no _ (by decide) z).elim) (fun z => (no _ (by decide) z).elim), fun z => (no _ (by decide) z).elim, fun _ => ⟨ks, by omega, h5⟩, fun z => (no _ (by decide) z).elim⟩
  · have no : ∀ j : Int32, j ≠ 53 → T 4 n = j → False := fun j hj z => hj (z.symm.trans h4)
    exact ⟨fun z => (no _ (by decide) z).elim, fun z => (no _ (by decide) z).elim, fun z => (no _ (by decide) z).elim, fun z => (no _ (by decide) z).elim, fun z => z.elim (fun z => (no _ (by decide) z).elim) (fun z => (no _ (by decide) z).elim), fun z => (no _ (by decide) z).elim, fun z => (no _ (by decide) z).elim, fun z => (no _ (by decide) z).elim, fun z => (no _ (by decide) z).elim, fun z => z.elim (fun z => (no _ (by decide) z).elim) (fun z => (no _ (by decide) z).elim), fun z => (no _ (by decide) z).elim, fun z => (no _ (by decide) z).elim, fun _ => h5⟩
  · have no : ∀ j : Int32, j ≠ 54 → T 4 n = j → False := fun j hj z => hj (z.symm.trans h4)
    exact ⟨fun z => (no _ (by decide) z).elim, fun z => (no _ (by decide) z).elim, fun z => (no _ (by decide) z).elim, fun z => (no _ (by decide) z).elim, fun z => z.elim (fun z => (no _ (by decide) z).elim) (fun z => (no _ (by decide) z).elim), fun z => (no _ (by decide) z).elim, fun z => (no _ (by decide) z).elim, fun z => (no _ (by decide) z).elim, fun z => (no _ (by decide) z).elim, fun z => z.elim (fun z => (no _ (by decide) z).elim) (fun z => (no _ (by decide) z).elim), fun z => (no _ (by decide) z).elim, fun z => (no _ (by decide) z).elim, fun z => (no _ (by decide) z).elim⟩
  · have no : ∀ j : Int32, j ≠ 55 → T 4 n = j → False := fun j hj z => hj (z.symm.trans h4)
    exact ⟨fun z => (no _ (by decide) z).elim, fun z => (no _ (by decide) z).elim, fun z => (no _ (by decide) z).elim, fun z => (no _ (by decide) z).elim, fun z => z.elim (fun z => (no _ (by decide) z).elim) (fun z => (no _ (by decide) z).elim), fun z => (no _ (by decide) z).elim, fun z => (no _ (by decide) z).elim, fun z => (no _ (by decide) z).elim, fun z => (no _ (by decide) z).elim, fun z => z.elim (fun z => (no _ (by decide) z).elim) (fun z => (no _ (by decide) z).elim), fun z => (no _ (by decide) z).elim, fun z => (no _ (by decide) z).elim, fun z => (no _ (by decide) z).elim⟩
  · have no : ∀ j : Int32, j ≠ 56 → T 4 n = j → False := fun j hj z => hj (z.symm.trans h4)
    exact ⟨fun z => (no _ (by decide) z).elim, fun z => (no _ (by decide) z).elim, fun z => (no _ (by decide) z).elim, fun z => (no _ (by decide) z).elim, fun z => z.elim (fun z => (no _ (by decide) z).elim) (fun z => (no _ (by decide) z).elim), fun z => (no _ (by decide) z).elim, fun z => (no _ (by decide) z).elim, fun z => (no _ (by decide) z).elim, fun z => (no _ (by decide) z).elim, fun z => z.elim (fun z => (no _ (by decide) z).elim) (fun z => (no _ (by decide) z).elim), fun z => (no _ (by decide) z).elim, fun z => (no _ (by decide) z).elim, fun z => (no _ (by decide) z).elim⟩
/-- a statement without parts -/
theorem Kd_st (hT : TbO T S E MD) (hC : T 4 n = 45 → ks ≤ KBn T ∧ ks ≤ 17000) (hA : ¬ T 4 n = 45 → ks + KBn T + 14 ≤ 17000) (hl : ¬ lp = 0 → hlp T d n) (h : QSt FN E MD lp n ks T) : KdO T FN S E.2.2.2.1 d v n := by
  have a : ∀ {k : Int32}, T 4 n = k → k ≠ 45 → ks + KBn T + 14 ≤ 17000 := fun h4 hk => hA (fun z => hk (h4.symm.trans z))
  rcases h with (h | h | h | ⟨bs, tg, h3, h, htg⟩) | h | h
  · exact Kd_as (h.1.elim (fun z => a z (by decide)) (fun z => a z (by decide))) h
  · exact Kd_fr (a h.1 (by decide)) h
  · exact Kd_ok h
  · obtain ⟨x, hx, x3, xe⟩ := fd_3 h3
    have hP := hT x hx x3
    rw [xe] at hP
    exact Kd_ca (hC h.1) hP htg h
  · exact Kd_pt (a h.1 (by decide)) h
  · refine Kd_sm ?_ hl h
    rcases h with ⟨h4, _⟩ | ⟨h4, _⟩ | ⟨h4, _⟩ | ⟨h4, _⟩ | h4 | h4 | h4
    · exact h4.elim (fun z => a z (by decide)) (fun z => a z (by decide))
    · exact a h4 (by decide)
    · exact a h4 (by decide)
    · exact a h4 (by decide)
    · exact a h4 (by decide)
    · exact a h4 (by decide)
    · exact a h4 (by decide)
/-- there is a loop around, by what it lies in -/
def hlq (T : Nat → Nat → Int32) : Nat → Int32 → Prop
  | 0, _ => False
  | d + 1, x => T 4 x.toNatClampNeg = 47 ∨ T 4 x.toNatClampNeg = 48 ∨ hlp T d x.toNatClampNeg
theorem hlp_q (h : hlq T d (upN T n)) : hlp T d n := by
  cases d with
  | zero => exact h
  | succ d => exact h
theorem hlq_in {m : Nat} (hm : m < 2147483648) (h : T 4 m = 47 ∨ T 4 m = 48 ∨ hlp T d m) : hlq T (d + 1) (nI m) := by
  show T 4 (nI m).toNatClampNeg = 47 ∨ T 4 (nI m).toNatClampNeg = 48 ∨ hlp T d (nI m).toNatClampNeg
  rw [n_cl (p := m) hm]; exact h
theorem UpO_v {pe : Int32} {v' : Nat} (h : UpO T S un d v pe) (hv : v ≤ v') : UpO T S un d v' pe := by
  refine h.imp id (fun z => ?_)
  obtain ⟨m, d', w, z1, z2, z3, z4, z5⟩ := z
  exact ⟨m, d', w, z1, z2, z3, by omega, z5⟩
end KDO
end JnS321
section JnS322
/-! Iterators of a for, as the grammar lays them: their names are slots that count. -/
/-- flags of slots below v -/
def FlR (un : Nat) (P : Nat → Prop) (y : Int32) (v : Nat) (b b' : BT) : Prop := b = b' ∧ ∀ x, P x → x < v ∧ b.2.2.2.2 (60 * un + x) = y
theorem FlR_c {un : Nat} {P : Nat → Prop} {y : Int32} : RC un (FlR un P y) := by
  refine ⟨fun v b b' h => ?_, fun v b b' k x y z h => ?_, fun v b b' j l x h => ?_, fun v b b' T f m h => ?_, fun v b b' x h => ?_⟩
  · rw [h.1]; exact ⟨rfl, rfl⟩
  · exact ⟨by rw [h.1], h.2⟩
  · exact ⟨by rw [h.1], h.2⟩
  · exact ⟨by rw [h.1], h.2⟩
  · refine ⟨by rw [h.1], fun s hs => ?_⟩
    obtain ⟨h1, h2⟩ := h.2 s hs
    refine ⟨by omega, ?_⟩
    show upd b.2.2.2.2 (60 * un + v) x (60 * un + s) = y
    rw [upd_other (by omega)]; exact h2
section NMS
variable {T : Nat → Int32} {n : Nat}
/-- flags stay -/
theorem g_fl {f nt : Nat} {E : En} {o q v i e c g : Nat} {b : BT} {r : RT} {P : Nat → Prop} {y : Int32} (hG : G T n f nt E o q v i e c g b = some (Sum.inr r)) (h : ∀ x, P x → x < v ∧ b.2.2.2.2 (60 * E.2.2.2.1 + x) = y) : ∀ x, P x → x < r.2.1 ∧ r.2.2.2.2.1.2.2.2.2 (60 * E.2.2.2.1 + x) = y := by
  have := G_R (T := T) (n := n) (FlR_c (un := E.2.2.2.1) (P := P) (y := y)) f nt E o q v i e c g b b rfl ⟨rfl, h⟩
  rcases this with ⟨h1, _⟩ | ⟨_, h1, _⟩ | ⟨q1, v1, i1, e1, b1, b2, nm, h1, _, h3⟩
  · rw [h1] at hG; cases hG
  · rw [h1] at hG; cases hG
  · rw [h1] at hG
    cases hG
    exact h3.2
/-- names told: slots with the flag g -/
def NmF (un : Nat) (y : Int32) (v : Nat) (b : BT) (ns : List Nm) : Prop := ∀ x ∈ ns, x.2.2 < v ∧ b.2.2.2.2 (60 * un + x.2.2) = y
theorem NmF_g {f nt : Nat} {E : En} {o q v i e c g : Nat} {b : BT} {r : RT} {y : Int32} {ns : List Nm} {un : Nat} (hG : G T n f nt E o q v i e c g b = some (Sum.inr r)) (hun : E.2.2.2.1 = un) (h : NmF un y v b ns) : NmF un y r.2.1 r.2.2.2.2.1 ns := by
  subst hun
  intro x hx
  have := g_fl (P := fun s => ∃ x ∈ ns, x.2.2 = s) (y := y) hG (fun s ⟨x, hx, e⟩ => by rw [← e]; exact h x hx) x.2.2 ⟨x, hx, rfl⟩
  exact this
theorem NmF_app {un v : Nat} {y : Int32} {b : BT} {a c : List Nm} (h : NmF un y v b a) (h' : NmF un y v b c) : NmF un y v b (a ++ c) := fun x hx => by
  rcases List.mem_append.mp hx with z | z
  · exact h x z
  · exact h' x z
/-- a name -/
theorem NmF_1 {un v g f m : Nat} {b : BT} {k x y z : Int32} {s : List Int32} {p : Nat} : NmF un (nI g) (v + 1) (bNode (bKeep (bSlot b (60 * un + v) (nI g)) T f m) k x y z) [(s, p, v)] := fun w hw => by
  rw [List.mem_singleton.mp hw]
  exact ⟨Nat.lt_succ_self _, upd_same⟩
theorem g18_n : ∀ (f : Nat) (E : En) (o q v i e c g : Nat) (b : BT) (r : RT), G T n f 18 E o q v i e c g b = some (Sum.inr r) → NmF E.2.2.2.1 (nI g) r.2.1 r.2.2.2.2.1 r.2.2.2.2.2 := by
  intro f
  induction f with
  | zero => intro E o q v i e c g b r hG; simp only [G] at hG; cases hG
  | succ f ih =>
    intro E o q v i e c g b r hG
    rw [G_18] at hG
    by_cases y1 : tkK T n q = 12
    · rw [if_pos y1] at hG
      obtain ⟨_, hG⟩ := gT_s hG
      obtain ⟨_, hv6, hG⟩ := gN_s hG
      obtain ⟨s, g1, hG⟩ := gb_s hG
      have a3 := ih _ _ _ _ _ _ _ _ _ _ g1
      have n1 := NmF_g (un := E.2.2.2.1) g1 rfl (show NmF E.2.2.2.1 (nI g) (v + 1) (bSet (bNode (bKeep (bSlot b (60 * E.2.2.2.1 + v) (nI g)) T (tkN T n q) (tkE T n (tkN T n q) - tkN T n q)) 31 (if E.2.2.2.1 = 0 then 0 else 1) (nI v) 0) 9 e (nI b.1)) [(tkS T n (tkN T n q), b.2.1, v)] from NmF_1 (T := T) (k := 0) (x := 0) (y := 0) (z := 0))
      cases hG
      exact NmF_app a3 n1
    · rw [if_neg y1] at hG
      cases hG
      exact fun x hx => absurd hx (List.not_mem_nil)
theorem g17_n : ∀ (f : Nat) (E : En) (o q v i e c g : Nat) (b : BT) (r : RT), G T n f 17 E o q v i e c g b = some (Sum.inr r) → NmF E.2.2.2.1 (nI g) r.2.1 r.2.2.2.2.1 r.2.2.2.2.2 := by
  intro f
  induction f with
  | zero => intro E o q v i e c g b r hG; simp only [G] at hG; cases hG
  | succ f ih =>
    intro E o q v i e c g b r hG
    have w : ∀ {v : Nat} {b : BT} {ns : List Nm} {k x y z : Int32}, NmF E.2.2.2.1 (nI g) v b ns → NmF E.2.2.2.1 (nI g) v (if i = 0 then bNode b k x y z else bSet (bNode b k x y z) 9 e (nI b.1)) ns := fun {v b ns k x y z} h => by
      by_cases c : i = 0
      · rw [if_pos c]; exact h
      · rw [if_neg c]; exact h
    rw [G_17] at hG
    by_cases y1 : tkK T n q = 10
    · rw [if_pos y1] at hG
      obtain ⟨_, hG⟩ := gO_s hG
      obtain ⟨_, hG⟩ := gT_s hG
      obtain ⟨_, hv6, hG⟩ := gN_s hG
      obtain ⟨s, g1, hG⟩ := gb_s hG
      have a3 := g18_n _ _ _ _ _ _ _ _ _ _ _ g1
      have n1 := NmF_g (un := E.2.2.2.1) g1 rfl (show NmF E.2.2.2.1 (nI g) (v + 1) (bNode (bKeep (bSlot b (60 * E.2.2.2.1 + v) (nI g)) T (tkN T n q) (tkE T n (tkN T n q) - tkN T n q)) 31 (if E.2.2.2.1 = 0 then 0 else 1) (nI v) 0) [(tkS T n (tkN T n q), b.2.1, v)] from NmF_1)
      have n2 := NmF_app a3 n1
      obtain ⟨_, _, hG⟩ := gW_s hG
      obtain ⟨_, _, hG⟩ := gW_s hG
      obtain ⟨t, g2, hG⟩ := gb_s hG
      have n3 := NmF_g (un := E.2.2.2.1) g2 rfl n2
      by_cases y2 : tkK T n t.1 = 12
      · rw [if_pos y2] at hG
        obtain ⟨_, hG⟩ := gT_s hG
        obtain ⟨u, g3, hG⟩ := gb_s hG
        have n4 := NmF_g (un := E.2.2.2.1) g3 rfl (w n3)
        have n5 := ih _ _ _ _ _ _ _ _ _ _ g3
        cases hG
        exact NmF_app n5 n4
      · rw [if_neg y2] at hG
        cases hG
        exact w n3
    · rw [if_neg y1] at hG
      obtain ⟨_, hv6, hG⟩ := gN_s hG
      have n2 : NmF E.2.2.2.1 (nI g) (v + 1) (bNode (bKeep (bSlot b (60 * E.2.2.2.1 + v) (nI g)) T q (tkE T n q - q)) 31 (if E.2.2.2.1 = 0 then 0 else 1) (nI v) 0) [(tkS T n q, b.2.1, v)] := NmF_1
      obtain ⟨_, _, hG⟩ := gW_s hG
      obtain ⟨t, g2, hG⟩ := gb_s hG
      have n3 := NmF_g (un := E.2.2.2.1) g2 rfl n2
      by_cases y2 : tkK T n t.1 = 12
      · rw [if_pos y2] at hG
        obtain ⟨_, hG⟩ := gT_s hG
        obtain ⟨u, g3, hG⟩ := gb_s hG
        have n4 := NmF_g (un := E.2.2.2.1) g3 rfl (w n3)
        have n5 := ih _ _ _ _ _ _ _ _ _ _ g3
        cases hG
        exact NmF_app n5 n4
      · rw [if_neg y2] at hG
        cases hG
        exact w n3
end NMS
end JnS322
section JnS323
/-! Iterators of a for: the list. -/
section ITL
variable {T : Nat → Nat → Int32} {FN : Nat → Nat → Prop} {fl : Nat → Prop} {un O K : Nat}
theorem NmW_of {e j : Nat} (h : PNm un 1 T j e) : ∃ s, NmW T (lcU un T) (cnU un T) e s := by
  obtain ⟨he, s, h6, hs, h5, h20⟩ := h
  have ne : ¬ T 20 (60 * un + s) = 0 := by rw [h20]; decide
  refine ⟨s, he, h6, hs, ?_, ?_⟩
  · by_cases u : un = 0
    · rw [if_pos u] at h5; exact Or.inl h5
    · exact Or.inr (Or.inl ⟨rfl, u⟩)
  · by_cases u : un = 0
    · rw [if_pos u] at h5
      rw [if_pos h5]
      refine Or.inl ⟨by omega, by omega, ?_⟩
      rw [show 1 + s - 1 = 60 * un + s by omega]; exact ne
    · rw [if_neg u] at h5
      rw [if_neg (by rw [h5]; decide)]
      refine Or.inr ⟨u, by omega, by omega, ?_⟩
      rw [show 61 + s - 61 = s by omega]; exact ne
theorem LS_N : ∀ (c m i e : Nat), LSe (PNm un 1 T) T c i e → NmL T (lcU un T) (cnU un T) m (T 9 e) → NmL T (lcU un T) (cnU un T) (m + c + 1) (nI i) := by
  intro c
  induction c with
  | zero =>
    intro m i e h w
    obtain ⟨rfl, h1⟩ := h
    obtain ⟨s, hs⟩ := NmW_of h1
    exact ⟨i, s, rfl, hs, w⟩
  | succ c ih =>
    intro m i e h w
    obtain ⟨e', h1, h9, h2⟩ := h
    obtain ⟨s, hs⟩ := NmW_of h2
    have := ih (m + 1) i e' h1 (by rw [h9]; exact ⟨e, s, rfl, hs, w⟩)
    rw [show m + (c + 1) + 1 = m + 1 + c + 1 by omega]; exact this
theorem PJ_I {j e k : Nat} (hO : O ≤ 20) (hK : K ≤ 60) (h : PJ FN fl un 1 O K T j e) (w : ItL T FN (lcU un T) (cnU un T) k (T 9 e)) : ItL T FN (lcU un T) (cnU un T) (k + 1) (nI e) := by
  obtain ⟨he, hj, ⟨a, h6, c, el, hc, hS, h9⟩, h7⟩ := h
  refine ⟨e, rfl, he, ⟨c + 1, by omega, by omega, ?_⟩, Wx_of hO (by omega) (by decide) h7, w⟩
  have := LS_N c 0 a el hS (by rw [h9]; rfl)
  rw [h6, show c + 1 = 0 + c + 1 by omega]; exact this
theorem LS_I (hO : O ≤ 20) (hK : K ≤ 60) : ∀ (c m i e : Nat), LSe (PJ FN fl un 1 O K T) T c i e → ItL T FN (lcU un T) (cnU un T) m (T 9 e) → ItL T FN (lcU un T) (cnU un T) (m + c + 1) (nI i) := by
  intro c
  induction c with
  | zero => intro m i e h w; obtain ⟨rfl, h1⟩ := h; exact PJ_I hO hK h1 w
  | succ c ih =>
    intro m i e h w
    obtain ⟨e', h1, h9, h2⟩ := h
    have := ih (m + 1) i e' h1 (by rw [h9]; exact PJ_I hO hK h2 w)
    rw [show m + (c + 1) + 1 = m + 1 + c + 1 by omega]; exact this
theorem chl_I {lc cn : Nat → Prop} : ∀ (k f : Nat) (x : Int32), k ≤ f → ItL T FN lc cn k x → chl T f x = k := by
  intro k
  induction k with
  | zero =>
    intro f x _ h
    have h : x = -1 := h
    cases f with
    | zero => rfl
    | succ f => exact if_pos h
  | succ k ih =>
    intro f x hf h
    obtain ⟨e, xe, he, _, _, h9⟩ := h
    cases f with
    | zero => omega
    | succ f =>
      show (if x = -1 then 0 else 1 + chl T f (T 9 x.toNatClampNeg)) = k + 1
      rw [if_neg (by rw [xe]; exact ne_m1 he), xe, n_cl (p := e) (by omega), ih f _ (by omega) h9]
      omega
end ITL
/-- T' has the statements laid from k0 on -/
def AgU (T' : Nat → Nat → Int32) (s : SB) (k0 : Nat) : Prop := (∀ i, k0 ≤ i → i < s.1 → T' 10 i = s.2.1 i) ∧ s.1 ≤ SNo T' % 402
/-- what stays of statements -/
def FrS (s s' : SB) : Prop := s.1 ≤ s'.1 ∧ ∀ i, i < s.1 → s'.2.1 i = s.2.1 i
theorem FrS_rf {s : SB} : FrS s s := ⟨Nat.le_refl _, fun _ _ => rfl⟩
theorem FrS_tr {s s' s'' : SB} (h : FrS s s') (h' : FrS s' s'') : FrS s s'' := ⟨Nat.le_trans h.1 h'.1, fun i hi => (h'.2 i (Nat.lt_of_lt_of_le hi h.1)).trans (h.2 i hi)⟩
theorem AgU_dn {T' : Nat → Nat → Int32} {s s' : SB} {k0 k1 : Nat} (h : AgU T' s' k0) (hF : FrS s s') (hk : k0 ≤ k1) : AgU T' s k1 := ⟨fun i h1 h2 => (h.1 i (by omega) (Nat.lt_of_lt_of_le h2 hF.1)).trans (hF.2 i h2), Nat.le_trans hF.1 h.2⟩
theorem AgU_lo {T' : Nat → Nat → Int32} {s : SB} {k0 k1 : Nat} (h : AgU T' s k0) (hk : k0 ≤ k1) : AgU T' s k1 := ⟨fun i h1 h2 => h.1 i (by omega) h2, h.2⟩
end JnS323
section JnS324
/-! The set of statements that the grammar lays: a statement, a block. -/
/-- what T' and the set of all statements must have: A keys at most of what is no call, C of calls -/
def HyT (GF : Nat → Prop) (T' : Nat → Nat → Int32) (S : Nat → Nat → Nat → Nat → Prop) (E : En) (MD : Nat → Nat → Nat) (A C : Nat) : Prop := (∀ s, GF s → ¬ T' 20 s = 0) ∧ TbO T' S E MD ∧ C ≤ KBn T' ∧ A + KBn T' + 14 ≤ 17000
/-- before a statement -/
def PrZ (n : Nat) (FN : Nat → Nat → Prop) (GF : Nat → Prop) (E : En) (o q v : Nat) (b : BT) (s : SB) (d : Nat) : Prop := q ≤ n ∧ v ≤ 60 ∧ o ≤ 20 ∧ b.1 + n < 70000 + q ∧ b.2.1 + n ≤ 70000 + q ∧ 1 ≤ b.1 ∧ s.1 ≤ 400 ∧ EnOK FN E ∧ NmC E.2.2.2.1 v b GF E ∧ E.2.2.2.1 ≤ 41 ∧ d ≤ o
/-- a statement without its number: X within it -/
def RIn (FN : Nat → Nat → Prop) (GF : Nat → Prop) (MD : Nat → Nat → Nat) (E : En) (lp d q v : Nat) (b : BT) (s : SB) (r : ST) : Prop := ∃ (X : Nat → Nat → Nat → Prop) (A C : Nat), Frm E.2.2.2.1 v b 0 r.2.2.2.2.1 ∧ FrS s r.2.2.2.2.2 ∧ (b.1 ≤ r.2.2.2.1 ∧ r.2.2.2.1 < r.2.2.2.2.1.1 ∧ r.2.2.2.2.1.2.2.1 9 r.2.2.2.1 = -1) ∧ 2 * (A + C) + q < r.1 ∧ ∀ (T' : Nat → Nat → Int32) (S : Nat → Nat → Nat → Nat → Prop), AgS T' E.2.2.2.1 r.2.1 r.2.2.2.2.1 b.1 r.2.2.2.1 → AgU T' r.2.2.2.2.2 s.1 → HyT GF T' S E MD A C → (∀ d' v' n', X d' v' n' → S E.2.2.2.1 d' v' n') → S E.2.2.2.1 d v r.2.2.2.1 → (¬ lp = 0 → hlp T' d r.2.2.2.1) → (∀ d' v' n', X d' v' n' → SOk T' FN S E.2.2.2.1 d' v' n') ∧ KdO T' FN S E.2.2.2.1 d v r.2.2.2.1
/-- a statement -/
def RS1 (FN : Nat → Nat → Prop) (GF : Nat → Prop) (MD : Nat → Nat → Nat) (E : En) (lp d q v : Nat) (b : BT) (s : SB) (r : ST) : Prop := ∃ (X : Nat → Nat → Nat → Prop) (A C : Nat), Frm E.2.2.2.1 v b 0 r.2.2.2.2.1 ∧ FrS s r.2.2.2.2.2 ∧ (b.1 ≤ r.2.2.2.1 ∧ r.2.2.2.1 < r.2.2.2.2.1.1 ∧ r.2.2.2.2.1.2.2.1 9 r.2.2.2.1 = -1) ∧ (r.2.2.1 = s.1 ∧ s.1 < r.2.2.2.2.2.1) ∧ 2 * (A + C) + q < r.1 ∧ X d v r.2.2.2.1 ∧ ∀ (T' : Nat → Nat → Int32) (S : Nat → Nat → Nat → Nat → Prop) (pe : Int32), Agr T' E.2.2.2.1 r.2.1 r.2.2.2.2.1 b.1 r.2.2.2.1 → AgU T' r.2.2.2.2.2 (s.1 + 1) → T' 10 s.1 = pe → HyT GF T' S E MD A C → (∀ d' v' n', X d' v' n' → S E.2.2.2.1 d' v' n') → UpO T' S E.2.2.2.1 d v pe → (¬ lp = 0 → hlq T' d pe) → (T' 9 r.2.2.2.1 = -1 ∨ ∃ n' v', T' 9 r.2.2.2.1 = nI n' ∧ S E.2.2.2.1 d v' n' ∧ v ≤ v' ∧ upN T' n' = pe) → (∀ d' v' n', X d' v' n' → SOk T' FN S E.2.2.2.1 d' v' n') ∧ upN T' r.2.2.2.1 = pe
/-- a block, or the rest of one behind l: y the first of it, 0: none -/
def RB0 (FN : Nat → Nat → Prop) (GF : Nat → Prop) (MD : Nat → Nat → Nat) (E : En) (lp d q v : Nat) (pe : Int32) (i l : Nat) (b : BT) (s : SB) (r : ST) : Prop := ∃ (X : Nat → Nat → Nat → Prop) (y A C : Nat), Frm E.2.2.2.1 v b l r.2.2.2.2.1 ∧ FrS s r.2.2.2.2.2 ∧ r.2.2.2.1 = (if i = 0 then y else i) ∧ (¬ i = 0 → r.2.2.2.2.1.2.2.1 9 l = hd y) ∧ 2 * (A + C) + q ≤ r.1 ∧ (y = 0 ∨ (b.1 ≤ y ∧ y < r.2.2.2.2.1.1 ∧ X d v y)) ∧ ∀ (T' : Nat → Nat → Int32) (S : Nat → Nat → Nat → Nat → Prop), Agr T' E.2.2.2.1 r.2.1 r.2.2.2.2.1 b.1 0 → AgU T' r.2.2.2.2.2 s.1 → HyT GF T' S E MD A C → (∀ d' v' n', X d' v' n' → S E.2.2.2.1 d' v' n') → UpO T' S E.2.2.2.1 d v pe → (¬ lp = 0 → hlq T' d pe) → (∀ d' v' n', X d' v' n' → SOk T' FN S E.2.2.2.1 d' v' n') ∧ (¬ y = 0 → upN T' y = pe)
section SET
variable {T : Nat → Int32} {n : Nat} {FN : Nat → Nat → Prop} {GF : Nat → Prop} {E : En} {MD : Nat → Nat → Nat} {lp d o q v un vv vw lo lo' top A C A' C' : Nat} {b b' : BT} {s : SB} {T' : Nat → Nat → Int32} {S : Nat → Nat → Nat → Nat → Prop}
theorem HyT_mo (h : HyT GF T' S E MD A C) (ha : A' ≤ A) (hc : C' ≤ C) : HyT GF T' S E MD A' C' := ⟨h.1, h.2.1, by have := h.2.2.1; omega, by have := h.2.2.2; omega⟩
theorem Agr_up (h : Agr T' un vv b lo top) (hl : lo ≤ lo') : Agr T' un vv b lo' top := ⟨fun a i h4 h9 hi hb hx => h.1 a i h4 h9 (by omega) hb hx, h.2⟩
/-- a statement without parts -/
theorem RIn_s {r : RT} {ks : Nat} (hF : Frm E.2.2.2.1 v b 0 r.2.2.2.2.1) (hL : SLd GF E.2.2.2.1 r.2.1 b.1 r.2.2.2.2.1 r.2.2.2.1 (QSt FN E MD lp r.2.2.2.1 ks)) (hk : 2 * ks + q < r.1) : RIn FN GF MD E lp d q v b s (r.1, r.2.1, 0, r.2.2.2.1, r.2.2.2.2.1, s) := by
  obtain ⟨l1, l2, l3, l4, l5⟩ := hL
  by_cases c : r.2.2.2.2.1.2.2.1 4 r.2.2.2.1 = 45
  · refine ⟨fun _ _ _ => False, 0, ks, hF, FrS_rf, ⟨l2, l3, l4⟩, by show 2 * (0 + ks) + q < r.1; omega, fun T' S hA hU hY _ _ hl => ⟨fun _ _ _ z => z.elim, ?_⟩⟩
    have e4 : T' 4 r.2.2.2.1 = 45 := (hA.1 4 _ (by decide) (by decide) l2 l3 (by omega)).trans c
    have h3 := hY.2.2.1
    have h4 := hY.2.2.2
    exact Kd_st hY.2.1 (fun _ => ⟨h3, by omega⟩) (fun z => absurd e4 z) hl (l5 T' hA hY.1)
  · refine ⟨fun _ _ _ => False, ks, 0, hF, FrS_rf, ⟨l2, l3, l4⟩, by show 2 * (ks + 0) + q < r.1; omega, fun T' S hA hU hY _ _ hl => ⟨fun _ _ _ z => z.elim, ?_⟩⟩
    have e4 : ¬ T' 4 r.2.2.2.1 = 45 := fun z => c ((hA.1 4 _ (by decide) (by decide) l2 l3 (by omega)).symm.trans z)
    exact Kd_st hY.2.1 (fun z => absurd z e4) (fun _ => hY.2.2.2) hl (l5 T' hA hY.1)
/-- it gets its number -/
theorem S1_fin {r : ST} (hv : v ≤ 60) (hd : d ≤ 20) (hun : E.2.2.2.1 ≤ 41) (hb : 1 ≤ b.1) (hs : s.1 < 400) (h : RIn FN GF MD E lp d q v b (sMo s) r) : RS1 FN GF MD E lp d q v b s (r.1, r.2.1, s.1, r.2.2.2.1, bSet r.2.2.2.2.1 8 r.2.2.2.1 (nI s.1), sPl r.2.2.2.2.2 s.1 (nI q)) := by
  obtain ⟨X, A, C, hF, hS, ⟨e1, e2, e3⟩, hk, hX⟩ := h
  have hS1 : s.1 + 1 ≤ r.2.2.2.2.2.1 := hS.1
  refine ⟨fun d' v' n' => (d' = d ∧ v' = v ∧ n' = r.2.2.2.1) ∨ X d' v' n', A, C, Frm_set8 e1 hF, ⟨by show s.1 ≤ r.2.2.2.2.2.1; omega, fun i hi => hS.2 i (Nat.lt_succ_of_lt hi)⟩, ⟨e1, e2, (bSet_o (by omega)).trans e3⟩, ⟨rfl, hS1⟩, hk, Or.inl ⟨rfl, rfl, rfl⟩, fun T' S pe hA hU h10 hY hXS hUp hl hNx => ?_⟩
  have hAS : AgS T' E.2.2.2.1 r.2.1 r.2.2.2.2.1 b.1 r.2.2.2.1 := ⟨fun a i h4 h9 hi hb hx => (hA.1 a i h4 h9 hi hb (by dsimp only; omega)).trans (bSet_o (by omega)), hA.2⟩
  have t8 : T' 8 r.2.2.2.1 = nI s.1 := (hA.1 8 _ (by decide) (by decide) e1 e2 (by omega)).trans bSet_s
  have up : upN T' r.2.2.2.1 = pe := by unfold upN; rw [t8, n_cl (p := s.1) (by omega)]; exact h10
  have hN : s.1 < SNo T' % 402 := by
    have h2 : r.2.2.2.2.2.1 ≤ SNo T' % 402 := hU.2
    omega
  obtain ⟨k1, k2⟩ := hX T' S hAS hU hY (fun d' v' n' z => hXS d' v' n' (Or.inr z)) (hXS d v r.2.2.2.1 (Or.inl ⟨rfl, rfl, rfl⟩)) (fun z => hlp_q (by rw [up]; exact hl z))
  refine ⟨fun d' v' n' z => ?_, up⟩
  rcases z with ⟨rfl, rfl, rfl⟩ | z
  · refine ⟨⟨⟨⟨by omega, Nat.lt_of_lt_of_le e2 hAS.2.2.2.1⟩, hv, hd, hun⟩, ⟨s.1, t8, hN⟩, ?_, by rw [up]; exact hUp⟩, k2⟩
    refine hNx.imp id (fun z => ?_)
    obtain ⟨n', v', a1, a2, a3, a4⟩ := z
    exact ⟨n', v', a1, a2, a3, a4.trans up.symm⟩
  · exact k1 d' v' n' z
theorem bLnk_11 {i l x : Nat} : (bLnk i l x b).1 = b.1 ∧ (bLnk i l x b).2.1 = b.2.1 := by
  unfold bLnk
  by_cases c : i = 0
  · rw [if_pos c]; exact ⟨rfl, rfl⟩
  · rw [if_neg c]; exact ⟨rfl, rfl⟩
/-- a block goes on -/
theorem RB0_s {i l : Nat} {pe : Int32} {t r : ST} (hm : MoZ n b s q v t) (hb : 1 ≤ b.1) (hl : l < b.1) (hi : ¬ i = 0 → 1 ≤ l) (h1 : RS1 FN GF MD E lp d q v b s t) (h2 : RB0 FN GF MD E lp d t.1 t.2.1 pe (fst2 i t.2.2.2.1) t.2.2.2.1 (bLnk i l t.2.2.2.1 t.2.2.2.2.1) (sUp t.2.2.2.2.2 t.2.2.1 pe) r) (hm2 : t.2.1 ≤ r.2.1) : RB0 FN GF MD E lp d q v pe i l b s r := by
  obtain ⟨m1, m2, m3, m4, m5, m6, m7, m8, m9, m10⟩ := hm
  obtain ⟨X1, A1, C1, f1, s1, ⟨e1, e2, e3⟩, ⟨k1, k2⟩, g1, x1, H1⟩ := h1
  obtain ⟨X2, y2, A2, C2, f2, s2, w1, w2, g2, x2, H2⟩ := h2
  have hne : ¬ fst2 i t.2.2.2.1 = 0 := by
    unfold fst2
    by_cases c : i = 0
    · rw [if_pos c]; omega
    · rw [if_neg c]; exact c
  obtain ⟨bl1, bl2⟩ := bLnk_11 (i := i) (l := l) (x := t.2.2.2.1) (b := t.2.2.2.2.1)
  have f12 : Frm E.2.2.2.1 v b l (bLnk i l t.2.2.2.1 t.2.2.2.2.1) := Frm_tr (Frm_wk f1) (Frm_lnk (vv := v)) (Nat.le_refl _) (Or.inl rfl)
  have s12 : FrS s (sUp t.2.2.2.2.2 t.2.2.1 pe) := ⟨s1.1, fun i hi => by
    show upd t.2.2.2.2.2.2.1 t.2.2.1 pe i = _
    rw [upd_other (by omega)]; exact s1.2 i hi⟩
  rw [if_neg hne] at w1
  refine ⟨fun d' v' n' => X1 d' v' n' ∨ X2 d' v' n', t.2.2.2.1, max A1 A2, max C1 C2, Frm_tr f12 f2 m3 (Or.inr (Or.inl e1)), FrS_tr s12 s2, w1, fun z => ?_, by omega, Or.inr ⟨e1, ?_, Or.inl x1⟩, fun T' S hA hU hY hXS hUp hlq => ?_⟩
  · rw [f2.2.2.1 9 l (by rw [bl1]; omega) (fun y => by have := hi z; omega)]
    unfold bLnk
    rw [if_neg z, bSet_s, hd_1 (by omega)]
  · have := f2.1; rw [bl1] at this; omega
  · have hA2 := Agr_g (lo' := b.1) (top' := t.2.2.2.1) hA f2 hm2 hb (Nat.le_refl _) (Or.inr rfl) (Or.inr (Or.inr rfl))
    have hA1 : Agr T' E.2.2.2.1 t.2.1 t.2.2.2.2.1 b.1 t.2.2.2.1 := Agr_g hA2 (Frm_lnk (vv := t.2.1)) (Nat.le_refl _) hb (Nat.le_refl _) (Or.inl hl) (Or.inl rfl)
    have u2 : ∀ j, j < t.2.2.2.2.2.1 → r.2.2.2.2.2.2.1 j = upd t.2.2.2.2.2.2.1 s.1 pe j := fun j hj => by
      have := s2.2 j hj
      rw [k1] at this; exact this
    have s21 : t.2.2.2.2.2.1 ≤ r.2.2.2.2.2.1 := s2.1
    have hU1 : AgU T' t.2.2.2.2.2 (s.1 + 1) := ⟨fun j h1 h2 => by rw [hU.1 j (by omega) (by omega), u2 j h2, upd_other (by omega)], by have := hU.2; omega⟩
    have h10 : T' 10 s.1 = pe := by rw [hU.1 s.1 (Nat.le_refl _) (by omega), u2 s.1 k2, upd_same]
    have e9 : T' 9 t.2.2.2.1 = hd y2 := by
      have hlt := f2.1
      rw [bl1] at hlt
      rw [hA.1 9 _ (by decide) (by decide) e1 (by omega) (by omega)]; exact w2 hne
    obtain ⟨q1, q2⟩ := H2 T' S (Agr_up hA (by rw [bl1]; omega)) (AgU_lo hU (by show s.1 ≤ t.2.2.2.2.2.1; omega)) (HyT_mo hY (by omega) (by omega)) (fun d' v' n' z => hXS d' v' n' (Or.inr z)) (UpO_v hUp m3) hlq
    obtain ⟨p1, p2⟩ := H1 T' S pe hA1 hU1 h10 (HyT_mo hY (by omega) (by omega)) (fun d' v' n' z => hXS d' v' n' (Or.inl z)) hUp hlq (by
      rcases x2 with z | ⟨z1, z2, z3⟩
      · rw [e9, z]; exact Or.inl rfl
      · exact Or.inr ⟨y2, t.2.1, by rw [e9, hd_1 (by rw [bl1] at z1; omega)], hXS d t.2.1 y2 (Or.inr z3), m3, q2 (by rw [bl1] at z1; omega)⟩)
    exact ⟨fun d' v' n' z => z.elim (p1 d' v' n') (q1 d' v' n'), fun _ => p2⟩
end SET
end JnS324
section JnS325
/-! The set of statements that the grammar lays: branches of an if. -/
/-- what was laid stays, but for what stands behind e and what i begins with -/
def Fr3 (un vv : Nat) (b : BT) (e i : Nat) (b' : BT) : Prop := b.1 ≤ b'.1 ∧ b.2.1 ≤ b'.2.1 ∧ (∀ a j, j < b.1 → ¬ (a = 9 ∧ (j = e ∨ j = 0)) → ¬ (a = 5 ∧ j = i) → b'.2.2.1 a j = b.2.2.1 a j) ∧ (∀ i, i < b.2.1 → b'.2.2.2.1 i = b.2.2.2.1 i) ∧ ∀ s, s < vv → b'.2.2.2.2 (60 * un + s) = b.2.2.2.2 (60 * un + s)
/-- branches of the if i: y the first of them -/
def RB3 (FN : Nat → Nat → Prop) (GF : Nat → Prop) (MD : Nat → Nat → Nat) (E : En) (lp d q v v0 i l : Nat) (b : BT) (s : SB) (r : ST) : Prop := ∃ (X : Nat → Nat → Nat → Prop) (y A C c : Nat), Fr3 E.2.2.2.1 v b l i r.2.2.2.2.1 ∧ FrS s r.2.2.2.2.2 ∧ (b.1 ≤ r.2.2.2.1 ∧ r.2.2.2.1 < r.2.2.2.2.1.1 ∧ r.2.2.2.2.1.2.2.1 9 r.2.2.2.1 = -1) ∧ (l = 0 → r.2.2.2.2.1.2.2.1 5 i = nI y) ∧ (¬ l = 0 → r.2.2.2.2.1.2.2.1 9 l = nI y ∧ r.2.2.2.2.1.2.2.1 5 i = b.2.2.1 5 i) ∧ 2 * (A + C) + q ≤ r.1 ∧ ∀ (T' : Nat → Nat → Int32) (S : Nat → Nat → Nat → Nat → Prop), Agr T' E.2.2.2.1 r.2.1 r.2.2.2.2.1 b.1 r.2.2.2.1 → AgU T' r.2.2.2.2.2 s.1 → HyT GF T' S E MD A C → (∀ d' v' n', X d' v' n' → S E.2.2.2.1 d' v' n') → S E.2.2.2.1 d v0 i → T' 4 i = 46 → (¬ lp = 0 → hlp T' d i) → (∀ d' v' n', X d' v' n' → SOk T' FN S E.2.2.2.1 d' v' n') ∧ ∀ k, BrL T' FN S E.2.2.2.1 d v0 i k (T' 9 r.2.2.2.1) → BrL T' FN S E.2.2.2.1 d v0 i (k + c + 1) (nI y)
/-- a branch is laid -/
def b3N (l i : Nat) (t : BT) (x y : Int32) : BT := if l = 0 then bSet (bNode t 33 x y 0) 5 i (nI t.1) else bSet (bNode t 33 x y 0) 9 l (nI t.1)
section BRS
variable {T : Nat → Int32} {n : Nat} {FN : Nat → Nat → Prop} {GF : Nat → Prop} {E : En} {MD : Nat → Nat → Nat} {lp d o q v v0 i l un vv vw lo lo' top A C : Nat} {b b' : BT} {s : SB} {T' : Nat → Nat → Int32} {S : Nat → Nat → Nat → Nat → Prop}
theorem b3N_o {t : BT} {x y : Int32} {a j : Nat} (hj : ¬ (a = 5 ∧ j = i ∧ l = 0)) (hl : ¬ (a = 9 ∧ j = l ∧ ¬ l = 0)) : (b3N l i t x y).2.2.1 a j = (bNode t 33 x y 0).2.2.1 a j := by
  unfold b3N
  by_cases c : l = 0
  · rw [if_pos c, bSet_o (by omega)]
  · rw [if_neg c, bSet_o (by omega)]
theorem b3N_1 {t : BT} {x y : Int32} : (b3N l i t x y).1 = t.1 + 1 ∧ (b3N l i t x y).2.1 = t.2.1 ∧ (b3N l i t x y).2.2.2 = t.2.2.2 := by
  unfold b3N
  by_cases c : l = 0
  · rw [if_pos c]; exact ⟨rfl, rfl, rfl⟩
  · rw [if_neg c]; exact ⟨rfl, rfl, rfl⟩
/-- one branch -/
theorem Br1 {cb : BT} {cv ce O K q2 : Nat} {t : ST} (hF : Frm E.2.2.2.1 v b 0 cb) (hv : v ≤ cv) (hcv : cv ≤ t.2.1) (hO : O ≤ 20) (hK : K ≤ 60) (hc : ce = 0 ∨ LPt FN (eFl E) E.2.2.2.1 cv O 14 K b.1 cb ce) (hB : RB0 FN GF MD E lp (d + 1) q2 cv (nI i) 0 0 cb s t) (hb : 1 ≤ b.1) (hi : i < b.1) (hi2 : b.1 ≤ 70000) (hl : l < b.1) (hv0 : v0 ≤ v) : ∃ (X : Nat → Nat → Nat → Prop) (A C : Nat), Fr3 E.2.2.2.1 v b l i (b3N l i t.2.2.2.2.1 (if ce = 0 then -3 else nI ce) (hd t.2.2.2.1)) ∧ FrS s t.2.2.2.2.2 ∧ b.1 ≤ t.2.2.2.2.1.1 ∧ 2 * (A + C) + q2 ≤ t.1 ∧ ∀ (T' : Nat → Nat → Int32) (S : Nat → Nat → Nat → Nat → Prop), Agr T' E.2.2.2.1 t.2.1 (b3N l i t.2.2.2.2.1 (if ce = 0 then -3 else nI ce) (hd t.2.2.2.1)) b.1 t.2.2.2.2.1.1 → AgU T' t.2.2.2.2.2 s.1 → HyT GF T' S E MD A C → (∀ d' v' n', X d' v' n' → S E.2.2.2.1 d' v' n') → S E.2.2.2.1 d v0 i → T' 4 i = 46 → (¬ lp = 0 → hlp T' d i) → (∀ d' v' n', X d' v' n' → SOk T' FN S E.2.2.2.1 d' v' n') ∧ ∀ k, BrL T' FN S E.2.2.2.1 d v0 i k (T' 9 t.2.2.2.2.1.1) → BrL T' FN S E.2.2.2.1 d v0 i (k + 1) (nI t.2.2.2.2.1.1) := by
  obtain ⟨X, y, A, C, f1, s1, w1, w2, g1, x1, H1⟩ := hB
  rw [if_pos rfl] at w1
  have l1 := hF.1
  have l2 := f1.1
  obtain ⟨m1, m2, m3⟩ := b3N_1 (l := l) (i := i) (t := t.2.2.2.2.1) (x := if ce = 0 then -3 else nI ce) (y := hd t.2.2.2.1)
  have hF2 : Frm E.2.2.2.1 v b 0 t.2.2.2.2.1 := Frm_tr hF f1 hv (Or.inl rfl)
  refine ⟨X, A, C, ⟨by omega, by rw [m2]; exact hF2.2.1, fun a j hj h9 h5 => ?_, fun j hj => by rw [m3]; exact hF2.2.2.2.1 j hj, fun j hj => by rw [m3]; exact hF2.2.2.2.2 j hj⟩, s1, by omega, g1, fun T' S hA hU hY hXS hSi h46 hlp => ?_⟩
  · rw [b3N_o (by omega) (by omega), (Frm_node (un := 0) (vv := 0) (e := 0)).2.2.1 a j (by omega) (by omega)]
    exact hF2.2.2.1 a j hj (by omega)
  · have hA0 : ∀ top, Agr T' E.2.2.2.1 t.2.1 t.2.2.2.2.1 b.1 top := fun top => by
      refine ⟨fun a j h4 h9 hj hb' hx => ?_, fun j hj => ?_, fun j hj => ?_, ?_, ?_⟩
      · rw [hA.1 a j h4 h9 hj (by omega) (by omega), b3N_o (by omega) (by omega)]
        exact (Frm_node (un := 0) (vv := 0) (e := 0)).2.2.1 a j (by omega) (by omega)
      · rw [hA.2.1 j (by rw [m2]; exact hj), m3]
      · rw [hA.2.2.1 j hj, m3]
      · have := hA.2.2.2.1; omega
      · have := hA.2.2.2.2; rw [m2] at this; exact this
    have nd : ∀ a, 4 ≤ a → a ≤ 7 → T' a t.2.2.2.2.1.1 = (bNode t.2.2.2.2.1 33 (if ce = 0 then -3 else nI ce) (hd t.2.2.2.1) 0).2.2.1 a t.2.2.2.2.1.1 := fun a h4 h7 => by
      rw [hA.1 a _ h4 (by omega) (by omega) (by omega) (by omega), b3N_o (by omega) (by omega)]
    obtain ⟨n4, n5, n6, n7, _⟩ := nd_t (b := t.2.2.2.2.1) (k := 33) (x := if ce = 0 then -3 else nI ce) (y := hd t.2.2.2.1) (z := 0)
    obtain ⟨q1, q3⟩ := H1 T' S (Agr_up (hA0 0) l1) hU hY hXS (Or.inr ⟨i, d, v0, rfl, rfl, hSi, by rw [if_neg (by rw [h46]; decide)]; omega, Or.inl h46⟩) (fun z => hlq_in (by omega) (Or.inr (Or.inr (hlp z))))
    refine ⟨q1, fun k hk => ⟨t.2.2.2.2.1.1, rfl, ⟨by omega, by have := hA.2.2.2.1; omega⟩, ?_, ?_, hk⟩⟩
    · rw [nd 5 (by decide) (by decide), n5]
      rcases hc with z | z
      · rw [if_pos z]; exact Or.inr (Or.inl rfl)
      · have z1 := z.1
        have z2 := z.2.1
        rw [if_neg (by omega)]
        exact Or.inr (Or.inr (Wx_of hO hK (by decide) (z.2.2.2.2 T' (Agr_g (hA0 ce) f1 hcv hb (Nat.le_refl _) (Or.inl (by omega)) (Or.inl rfl)))))
    · rw [nd 6 (by decide) (by decide), n6, w1]
      rcases x1 with z | ⟨z1, z2, z3⟩
      · rw [z]; exact Or.inl rfl
      · exact Or.inr ⟨y, cv, hd_1 (by omega), hXS _ _ _ z3, by omega, q3 (by omega)⟩
/-- the last branch -/
theorem RB3_e {cb : BT} {cv ce O K q2 : Nat} {t : ST} (hF : Frm E.2.2.2.1 v b 0 cb) (hv : v ≤ cv) (hcv : cv ≤ t.2.1) (hO : O ≤ 20) (hK : K ≤ 60) (hc : ce = 0 ∨ LPt FN (eFl E) E.2.2.2.1 cv O 14 K b.1 cb ce) (hB : RB0 FN GF MD E lp (d + 1) q2 cv (nI i) 0 0 cb s t) (hb : 1 ≤ b.1) (hi : i < b.1) (hi2 : b.1 ≤ 70000) (hl : l < b.1) (hv0 : v0 ≤ v) (hq : q ≤ q2) : RB3 FN GF MD E lp d q v v0 i l b s (t.1, t.2.1, 0, t.2.2.2.2.1.1, b3N l i t.2.2.2.2.1 (if ce = 0 then -3 else nI ce) (hd t.2.2.2.1), t.2.2.2.2.2) := by
  obtain ⟨X, A, C, f1, s1, l1, g1, H1⟩ := Br1 (GF := GF) (l := l) hF hv hcv hO hK hc hB hb hi hi2 hl hv0
  obtain ⟨m1, m2, m3⟩ := b3N_1 (l := l) (i := i) (t := t.2.2.2.2.1) (x := if ce = 0 then -3 else nI ce) (y := hd t.2.2.2.1)
  refine ⟨X, t.2.2.2.2.1.1, A, C, 0, f1, s1, ⟨l1, by show t.2.2.2.2.1.1 < _; rw [m1]; omega, ?_⟩, fun z => ?_, fun z => ⟨?_, ?_⟩, by show _ ≤ t.1; omega, H1⟩
  · show (b3N l i t.2.2.2.2.1 _ _).2.2.1 9 t.2.2.2.2.1.1 = -1
    rw [b3N_o (by omega) (by omega)]; exact nd_t.2.2.2.2.2
  · show (b3N l i t.2.2.2.2.1 _ _).2.2.1 5 i = _
    unfold b3N; rw [if_pos z]; exact bSet_s
  · show (b3N l i t.2.2.2.2.1 _ _).2.2.1 9 l = _
    unfold b3N; rw [if_neg z]; exact bSet_s
  · show (b3N l i t.2.2.2.2.1 _ _).2.2.1 5 i = _
    obtain ⟨_, _, _, _, h3, _⟩ := hB
    have l2 := h3.1
    have l3 := hF.1
    rw [b3N_o (by omega) (by omega), (Frm_node (un := 0) (vv := 0) (e := 0)).2.2.1 5 i (by omega) (by omega), h3.2.2.1 5 i (by omega) (by omega), hF.2.2.1 5 i (by omega) (by omega)]
/-- a branch and those behind it -/
theorem RB3_s {cb : BT} {cv ce O K q2 q3 : Nat} {t r : ST} (hF : Frm E.2.2.2.1 v b 0 cb) (hv : v ≤ cv) (hcv : cv ≤ t.2.1) (hO : O ≤ 20) (hK : K ≤ 60) (hc : ce = 0 ∨ LPt FN (eFl E) E.2.2.2.1 cv O 14 K b.1 cb ce) (hB : RB0 FN GF MD E lp (d + 1) q2 cv (nI i) 0 0 cb s t) (hb : 1 ≤ b.1) (hi : i < b.1) (hi2 : b.1 ≤ 70000) (hl : l < b.1) (hv0 : v0 ≤ v) (hq : q ≤ q2) (hq3 : t.1 ≤ q3) (hvr : t.2.1 ≤ r.2.1) (hR : RB3 FN GF MD E lp d q3 t.2.1 v0 i t.2.2.2.2.1.1 (b3N l i t.2.2.2.2.1 (if ce = 0 then -3 else nI ce) (hd t.2.2.2.1)) t.2.2.2.2.2 r) : RB3 FN GF MD E lp d q v v0 i l b s r := by
  obtain ⟨X, A, C, f1, s1, l1, g1, H1⟩ := Br1 (GF := GF) (l := l) hF hv hcv hO hK hc hB hb hi hi2 hl hv0
  obtain ⟨m1, m2, m3⟩ := b3N_1 (l := l) (i := i) (t := t.2.2.2.2.1) (x := if ce = 0 then -3 else nI ce) (y := hd t.2.2.2.1)
  obtain ⟨X2, y2, A2, C2, c2, f2, s2, ⟨e1, e2, e3⟩, w0, w1, g2, H2⟩ := hR
  generalize hbb : b3N l i t.2.2.2.2.1 (if ce = 0 then -3 else nI ce) (hd t.2.2.2.1) = bb at *
  obtain ⟨y9, y5⟩ := w1 (by omega)
  have ll := f2.1
  refine ⟨fun d' v' n' => X d' v' n' ∨ X2 d' v' n', t.2.2.2.2.1.1, max A A2, max C C2, c2 + 1, ⟨by omega, by have := f2.2.1; have := f1.2.1; omega, fun a j hj h9 h5 => ?_, fun j hj => ?_, fun j hj => ?_⟩, FrS_tr s1 s2, ⟨by omega, e2, e3⟩, fun z => ?_, fun z => ⟨?_, ?_⟩, by omega, fun T' S hA hU hY hXS hSi h46 hlp => ?_⟩
  · rw [f2.2.2.1 a j (by omega) (by omega) h5]; exact f1.2.2.1 a j hj h9 h5
  · rw [f2.2.2.2.1 j (by have := f1.2.1; omega)]; exact f1.2.2.2.1 j hj
  · rw [f2.2.2.2.2 j (by omega)]; exact f1.2.2.2.2 j hj
  · rw [y5, ← hbb]; unfold b3N; rw [if_pos z]; exact bSet_s
  · rw [f2.2.2.1 9 l (by omega) (by omega) (by omega), ← hbb]; unfold b3N; rw [if_neg z]; exact bSet_s
  · rw [y5, ← hbb, b3N_o (by omega) (by omega)]
    obtain ⟨_, _, _, _, h3, _⟩ := hB
    have l2 := h3.1
    have l3 := hF.1
    rw [(Frm_node (un := 0) (vv := 0) (e := 0)).2.2.1 5 i (by omega) (by omega), h3.2.2.1 5 i (by omega) (by omega), hF.2.2.1 5 i (by omega) (by omega)]
  · have hA1 : Agr T' E.2.2.2.1 t.2.1 bb b.1 t.2.2.2.2.1.1 := by
      refine ⟨fun a j h4 h9 hj hb' hx => ?_, fun j hj => ?_, fun j hj => ?_, ?_, ?_⟩
      · rw [hA.1 a j h4 h9 hj (by omega) (by omega), f2.2.2.1 a j hb' (by omega) (by omega)]
      · rw [hA.2.1 j (Nat.lt_of_lt_of_le hj f2.2.1), f2.2.2.2.1 j hj]
      · rw [hA.2.2.1 j (by omega), f2.2.2.2.2 j hj]
      · have := hA.2.2.2.1; omega
      · exact Nat.le_trans f2.2.1 hA.2.2.2.2
    have e9 : T' 9 t.2.2.2.2.1.1 = nI y2 := by rw [hA.1 9 _ (by decide) (by decide) l1 (by omega) (by omega)]; exact y9
    obtain ⟨p1, p2⟩ := H1 T' S hA1 (AgU_dn hU s2 (Nat.le_refl _)) (HyT_mo hY (by omega) (by omega)) (fun d' v' n' z => hXS d' v' n' (Or.inl z)) hSi h46 hlp
    obtain ⟨q1, q2'⟩ := H2 T' S (Agr_up hA (by omega)) (AgU_lo hU s1.1) (HyT_mo hY (by omega) (by omega)) (fun d' v' n' z => hXS d' v' n' (Or.inr z)) hSi h46 hlp
    refine ⟨fun d' v' n' z => z.elim (p1 d' v' n') (q1 d' v' n'), fun k hk => ?_⟩
    have := p2 (k + c2 + 1) (by rw [e9]; exact q2' k hk)
    exact this
end BRS
end JnS325
section JnS326
/-! The set of statements that the grammar lays: ifs, whiles, fors. -/
section IWF
variable {T : Nat → Int32} {n : Nat} {FN : Nat → Nat → Prop} {GF : Nat → Prop} {E : En} {MD : Nat → Nat → Nat} {lp d o q v un vv vw lo lo' top e : Nat} {b b' : BT} {s : SB} {T' : Nat → Nat → Int32} {S : Nat → Nat → Nat → Nat → Prop} {x : Int32}
theorem AgS_up (h : AgS T' un vv b lo e) (hl : lo ≤ lo') (he : e < lo') : Agr T' un vv b lo' top := ⟨fun a i h4 h9 hi hb hx => h.1 a i h4 h9 (by omega) hb (by omega), h.2⟩
theorem Agr_st {j l : Nat} (h : Agr T' un vv (bSet b j l x) lo top) (hl : l < lo) : Agr T' un vv b lo top := ⟨fun a i h4 h9 hi hb hx => (h.1 a i h4 h9 hi hb hx).trans (bSet_o (by omega)), h.2⟩
theorem Kd_46 (h4 : T' 4 e = 46) (h : ∃ q, BrL T' FN S un d v e (q + 1) (T' 5 e)) : KdO T' FN S un d v e := by
  have no : ∀ j : Int32, j ≠ 46 → T' 4 e = j → False := fun j hj z => hj (z.symm.trans h4)
  exact ⟨fun z => (no _ (by decide) z).elim, fun z => (no _ (by decide) z).elim, fun z => (no _ (by decide) z).elim, fun _ => h, fun z => z.elim (fun z => (no _ (by decide) z).elim) (fun z => (no _ (by decide) z).elim), fun z => (no _ (by decide) z).elim, fun z => (no _ (by decide) z).elim, fun z => (no _ (by decide) z).elim, fun z => (no _ (by decide) z).elim, fun z => z.elim (fun z => (no _ (by decide) z).elim) (fun z => (no _ (by decide) z).elim), fun z => (no _ (by decide) z).elim, fun z => (no _ (by decide) z).elim, fun z => (no _ (by decide) z).elim⟩
theorem Kd_47 (h4 : T' 4 e = 47) (h : Wx0 T' FN (lcU un T') (T' 5 e) ∧ BdE T' S un d v e (T' 6 e)) : KdO T' FN S un d v e := by
  have no : ∀ j : Int32, j ≠ 47 → T' 4 e = j → False := fun j hj z => hj (z.symm.trans h4)
  exact ⟨fun z => (no _ (by decide) z).elim, fun z => (no _ (by decide) z).elim, fun z => (no _ (by decide) z).elim, fun z => (no _ (by decide) z).elim, fun z => z.elim (fun z => (no _ (by decide) z).elim) (fun z => (no _ (by decide) z).elim), fun z => (no _ (by decide) z).elim, fun z => (no _ (by decide) z).elim, fun z => (no _ (by decide) z).elim, fun _ => h, fun z => z.elim (fun z => (no _ (by decide) z).elim) (fun z => (no _ (by decide) z).elim), fun z => (no _ (by decide) z).elim, fun z => (no _ (by decide) z).elim, fun z => (no _ (by decide) z).elim⟩
theorem Kd_48 (h4 : T' 4 e = 48) (h : d ≤ 19 ∧ FoN T' FN S un d v e) : KdO T' FN S un d v e := by
  have no : ∀ j : Int32, j ≠ 48 → T' 4 e = j → False := fun j hj z => hj (z.symm.trans h4)
  exact ⟨fun _ => h, fun z => (no _ (by decide) z).elim, fun z => (no _ (by decide) z).elim, fun z => (no _ (by decide) z).elim, fun z => z.elim (fun z => (no _ (by decide) z).elim) (fun z => (no _ (by decide) z).elim), fun z => (no _ (by decide) z).elim, fun z => (no _ (by decide) z).elim, fun z => (no _ (by decide) z).elim, fun z => (no _ (by decide) z).elim, fun z => z.elim (fun z => (no _ (by decide) z).elim) (fun z => (no _ (by decide) z).elim), fun z => (no _ (by decide) z).elim, fun z => (no _ (by decide) z).elim, fun z => (no _ (by decide) z).elim⟩
/-- an if without an else -/
theorem RIn_if {r : ST} {q1 qF : Nat} (hb : 1 ≤ b.1) (hq : q ≤ q1) (hqF : r.1 < qF) (hR : RB3 FN GF MD E lp d q1 v v b.1 0 (bNode b 46 (-1) 0 0) s r) : RIn FN GF MD E lp d q v b s (qF, r.2.1, 0, b.1, r.2.2.2.2.1, r.2.2.2.2.2) := by
  obtain ⟨X, y, A, C, c, f1, s1, ⟨e1, e2, e3⟩, w0, _, g1, H1⟩ := hR
  have w5 := w0 rfl
  obtain ⟨n4, n5, n6, n7, n8, n9⟩ := nd_t (b := b) (k := 46) (x := -1) (y := 0) (z := 0)
  have l1 : b.1 + 1 ≤ r.2.2.2.2.1.1 := f1.1
  have e1 : b.1 + 1 ≤ r.2.2.2.1 := e1
  have at0 : ∀ a, ¬ a = 5 → r.2.2.2.2.1.2.2.1 a b.1 = (bNode b 46 (-1) 0 0).2.2.1 a b.1 := fun a ha => f1.2.2.1 a b.1 (Nat.lt_succ_self _) (by omega) (by omega)
  refine ⟨X, A, C, ⟨by show b.1 ≤ r.2.2.2.2.1.1; omega, f1.2.1, fun a j hj hx => ?_, fun j hj => f1.2.2.2.1 j hj, fun j hj => f1.2.2.2.2 j hj⟩, s1, ⟨Nat.le_refl _, by show b.1 < r.2.2.2.2.1.1; omega, (at0 9 (by decide)).trans n9⟩, by show _ < qF; omega, fun T' S hA hU hY hXS hSi hl => ?_⟩
  · show r.2.2.2.2.1.2.2.1 a j = _
    rw [f1.2.2.1 a j (Nat.lt_succ_of_lt hj) (by omega) (by omega)]
    exact (Frm_node (un := 0) (vv := 0) (e := 0)).2.2.1 a j hj (by omega)
  · have t4 : T' 4 b.1 = 46 := (hA.1 4 b.1 (by decide) (by decide) (Nat.le_refl _) l1 (by omega)).trans ((at0 4 (by decide)).trans n4)
    have t5 : T' 5 b.1 = nI y := (hA.1 5 b.1 (by decide) (by decide) (Nat.le_refl _) l1 (by omega)).trans w5
    have hA1 : ∀ top, Agr T' E.2.2.2.1 r.2.1 r.2.2.2.2.1 (b.1 + 1) top := fun top => AgS_up hA (Nat.le_succ _) (Nat.lt_succ_self _)
    obtain ⟨k1, k2⟩ := H1 T' S (hA1 _) hU hY hXS hSi t4 hl
    have k3 := k2 0 (by show T' 9 r.2.2.2.1 = -1; rw [(hA1 0).1 9 _ (by decide) (by decide) e1 e2 (by omega)]; exact e3)
    rw [Nat.zero_add] at k3
    exact ⟨k1, Kd_46 t4 ⟨c, by rw [t5]; exact k3⟩⟩
/-- an if with an else -/
theorem RIn_ie {r t : ST} {q1 q2 qF : Nat} (hb : 1 ≤ b.1) (hq : q ≤ q1) (hq2 : r.1 ≤ q2) (hqF : t.1 < qF) (hv : v ≤ r.2.1) (hvt : r.2.1 ≤ t.2.1) (hb2 : b.1 ≤ 70000) (hR : RB3 FN GF MD E lp d q1 v v b.1 0 (bNode b 46 (-1) 0 0) s r) (hB : RB0 FN GF MD E lp (d + 1) q2 r.2.1 (nI b.1) 0 0 r.2.2.2.2.1 r.2.2.2.2.2 t) : RIn FN GF MD E lp d q v b s (qF, t.2.1, 0, b.1, bSet (bNode t.2.2.2.2.1 33 (-2) (hd t.2.2.2.1) 0) 9 r.2.2.2.1 (nI t.2.2.2.2.1.1), t.2.2.2.2.2) := by
  obtain ⟨X, y, A, C, c, f1, s1, ⟨e1, e2, e3⟩, w0, _, g1, H1⟩ := hR
  obtain ⟨X2, y2, A2, C2, f2, s2, u1, _, g2, x2, H2⟩ := hB
  rw [if_pos rfl] at u1
  have w5 := w0 rfl
  obtain ⟨n4, n5, n6, n7, n8, n9⟩ := nd_t (b := b) (k := 46) (x := -1) (y := 0) (z := 0)
  obtain ⟨o4, o5, o6, o7, o8, o9⟩ := nd_t (b := t.2.2.2.2.1) (k := 33) (x := -2) (y := hd t.2.2.2.1) (z := 0)
  have l1 : b.1 + 1 ≤ r.2.2.2.2.1.1 := f1.1
  have l2 := f2.1
  have e1 : b.1 + 1 ≤ r.2.2.2.1 := e1
  have at0 : ∀ a, ¬ a = 5 → r.2.2.2.2.1.2.2.1 a b.1 = (bNode b 46 (-1) 0 0).2.2.1 a b.1 := fun a ha => f1.2.2.1 a b.1 (Nat.lt_succ_self _) (by omega) (by omega)
  have f3 : ∀ {vv : Nat}, Frm E.2.2.2.1 vv t.2.2.2.2.1 r.2.2.2.1 (bSet (bNode t.2.2.2.2.1 33 (-2) (hd t.2.2.2.1) 0) 9 r.2.2.2.1 (nI t.2.2.2.2.1.1)) := fun {vv} => Frm_tr (Frm_node (vv := vv)) (Frm_set9 (vv := vv)) (Nat.le_refl _) (Or.inl rfl)
  have f5 : Frm E.2.2.2.1 r.2.1 r.2.2.2.2.1 r.2.2.2.1 (bSet (bNode t.2.2.2.2.1 33 (-2) (hd t.2.2.2.1) 0) 9 r.2.2.2.1 (nI t.2.2.2.2.1.1)) := Frm_tr (Frm_wk f2) f3 hvt (Or.inl rfl)
  have at5 : ∀ a, (bSet (bNode t.2.2.2.2.1 33 (-2) (hd t.2.2.2.1) 0) 9 r.2.2.2.1 (nI t.2.2.2.2.1.1)).2.2.1 a b.1 = r.2.2.2.2.1.2.2.1 a b.1 := fun a => f5.2.2.1 a b.1 (by omega) (by omega)
  refine ⟨fun d' v' n' => X d' v' n' ∨ X2 d' v' n', max A A2, max C C2, ⟨Nat.le_trans (show b.1 ≤ r.2.2.2.2.1.1 by omega) f5.1, Nat.le_trans f1.2.1 f5.2.1, fun a j hj hx => ?_, fun j hj => ?_, fun j hj => ?_⟩, FrS_tr s1 s2, ⟨Nat.le_refl _, Nat.lt_of_lt_of_le (show b.1 < r.2.2.2.2.1.1 by omega) f5.1, (at5 9).trans ((at0 9 (by decide)).trans n9)⟩, by show _ < qF; omega, fun T' S hA hU hY hXS hSi hl => ?_⟩
  · rw [f5.2.2.1 a j (by omega) (by omega), f1.2.2.1 a j (Nat.lt_succ_of_lt hj) (by omega) (by omega)]
    exact (Frm_node (un := 0) (vv := 0) (e := 0)).2.2.1 a j hj (by omega)
  · rw [f5.2.2.2.1 j (Nat.lt_of_lt_of_le hj f1.2.1)]; exact f1.2.2.2.1 j hj
  · rw [f5.2.2.2.2 j (by omega)]; exact f1.2.2.2.2 j hj
  · have lt : b.1 < (bSet (bNode t.2.2.2.2.1 33 (-2) (hd t.2.2.2.1) 0) 9 r.2.2.2.1 (nI t.2.2.2.2.1.1)).1 := by have := f5.1; omega
    have t4 : T' 4 b.1 = 46 := (hA.1 4 b.1 (by decide) (by decide) (Nat.le_refl _) lt (by omega)).trans ((at5 4).trans ((at0 4 (by decide)).trans n4))
    have t5 : T' 5 b.1 = nI y := (hA.1 5 b.1 (by decide) (by decide) (Nat.le_refl _) lt (by omega)).trans ((at5 5).trans w5)
    have hA1 : ∀ top, Agr T' E.2.2.2.1 t.2.1 (bSet (bNode t.2.2.2.2.1 33 (-2) (hd t.2.2.2.1) 0) 9 r.2.2.2.1 (nI t.2.2.2.2.1.1)) (b.1 + 1) top := fun top => AgS_up hA (Nat.le_succ _) (Nat.lt_succ_self _)
    have hA2 : Agr T' E.2.2.2.1 r.2.1 r.2.2.2.2.1 (b.1 + 1) r.2.2.2.1 := Agr_g (hA1 _) f5 hvt (by omega) (Nat.le_refl _) (Or.inr rfl) (Or.inl rfl)
    have hA3 : Agr T' E.2.2.2.1 t.2.1 t.2.2.2.2.1 r.2.2.2.2.1.1 0 := Agr_g (hA1 _) (f3 (vv := t.2.1)) (Nat.le_refl _) (by omega) l1 (Or.inl e2) (Or.inl rfl)
    obtain ⟨k1, k2⟩ := H1 T' S hA2 (AgU_dn hU s2 (Nat.le_refl _)) (HyT_mo hY (by omega) (by omega)) (fun d' v' n' z => hXS d' v' n' (Or.inl z)) hSi t4 hl
    obtain ⟨j1, j2⟩ := H2 T' S hA3 (AgU_lo hU s1.1) (HyT_mo hY (by omega) (by omega)) (fun d' v' n' z => hXS d' v' n' (Or.inr z)) (Or.inr ⟨b.1, d, v, rfl, rfl, hSi, by rw [if_neg (by rw [t4]; decide)]; omega, Or.inl t4⟩) (fun z => hlq_in (by omega) (Or.inr (Or.inr (hl z))))
    have nd : ∀ a, 4 ≤ a → a ≤ 9 → T' a t.2.2.2.2.1.1 = (bNode t.2.2.2.2.1 33 (-2) (hd t.2.2.2.1) 0).2.2.1 a t.2.2.2.2.1.1 := fun a h4 h9 => by
      rw [(hA1 0).1 a _ h4 h9 (by omega) (Nat.lt_succ_self _) (by omega)]
      exact bSet_o (by omega)
    have t9 : T' 9 r.2.2.2.1 = nI t.2.2.2.2.1.1 := by
      rw [(hA1 0).1 9 _ (by decide) (by decide) e1 (by show _ < t.2.2.2.2.1.1 + 1; omega) (by omega)]; exact bSet_s
    have lN : t.2.2.2.2.1.1 < LNo T' % 70001 := (hA1 0).2.2.2.1
    have k3 := k2 1 (by
      show BrL T' FN S E.2.2.2.1 d v b.1 1 (T' 9 r.2.2.2.1)
      rw [t9]
      refine ⟨t.2.2.2.2.1.1, rfl, ⟨by omega, lN⟩, Or.inl ((nd 5 (by decide) (by decide)).trans o5), ?_, (nd 9 (by decide) (by decide)).trans o9⟩
      rw [nd 6 (by decide) (by decide), o6, u1]
      rcases x2 with z | ⟨z1, z2, z3⟩
      · rw [z]; exact Or.inl rfl
      · exact Or.inr ⟨y2, r.2.1, hd_1 (by omega), hXS _ _ _ (Or.inr z3), hv, j2 (by omega)⟩)
    rw [Nat.add_comm 1 c] at k3
    exact ⟨fun d' v' n' z => z.elim (k1 d' v' n') (j1 d' v' n'), Kd_46 t4 ⟨c + 1, by rw [t5]; exact k3⟩⟩
/-- a while -/
theorem RIn_w {r : RT} {t : ST} {O K q2 qF : Nat} (hb : 1 ≤ b.1) (hb2 : b.1 ≤ 70000) (hq : q ≤ q2) (hqF : t.1 < qF) (hv : v ≤ r.2.1) (hvt : r.2.1 ≤ t.2.1) (hO : O ≤ 20) (hK : K ≤ 60) (hF : Frm E.2.2.2.1 v (bNode b 47 0 0 0) 0 r.2.2.2.2.1) (hP : LPt FN (eFl E) E.2.2.2.1 r.2.1 O 14 K (b.1 + 1) r.2.2.2.2.1 r.2.2.2.1) (hB : RB0 FN GF MD E (lp + 1) (d + 1) q2 r.2.1 (nI b.1) 0 0 (bSet r.2.2.2.2.1 5 b.1 (nI r.2.2.2.1)) s t) : RIn FN GF MD E lp d q v b s (qF, t.2.1, 0, b.1, bSet t.2.2.2.2.1 6 b.1 (hd t.2.2.2.1), t.2.2.2.2.2) := by
  obtain ⟨X2, y2, A2, C2, f2, s2, u1, _, g2, x2, H2⟩ := hB
  rw [if_pos rfl] at u1
  obtain ⟨n4, n5, n6, n7, n8, n9⟩ := nd_t (b := b) (k := 47) (x := 0) (y := 0) (z := 0)
  have l1 : b.1 + 1 ≤ r.2.2.2.2.1.1 := hF.1
  have l2 : r.2.2.2.2.1.1 ≤ t.2.2.2.2.1.1 := f2.1
  have at0 : ∀ a, r.2.2.2.2.1.2.2.1 a b.1 = (bNode b 47 0 0 0).2.2.1 a b.1 := fun a => hF.2.2.1 a b.1 (Nat.lt_succ_self _) (by omega)
  have at1 : ∀ a, ¬ a = 6 → (bSet t.2.2.2.2.1 6 b.1 (hd t.2.2.2.1)).2.2.1 a b.1 = (bSet r.2.2.2.2.1 5 b.1 (nI r.2.2.2.1)).2.2.1 a b.1 := fun a ha => by
    rw [bSet_o (by omega)]; exact f2.2.2.1 a b.1 (show b.1 < r.2.2.2.2.1.1 by omega) (by omega)
  have f0 : Frm E.2.2.2.1 v b 0 (bSet t.2.2.2.2.1 6 b.1 (hd t.2.2.2.1)) := Frm_set8 (Nat.le_refl _) (Frm_tr (Frm_set8 (Nat.le_refl _) (Frm_tr (Frm_node (vv := v)) hF (Nat.le_refl _) (Or.inl rfl))) f2 hv (Or.inl rfl))
  refine ⟨X2, A2, C2, f0, s2, ⟨Nat.le_refl _, by show b.1 < t.2.2.2.2.1.1; omega, ?_⟩, by show _ < qF; omega, fun T' S hA hU hY hXS hSi hl => ?_⟩
  · show (bSet t.2.2.2.2.1 6 b.1 (hd t.2.2.2.1)).2.2.1 9 b.1 = -1
    rw [at1 9 (by decide), bSet_o (by omega), at0, n9]
  · have lt : b.1 < (bSet t.2.2.2.2.1 6 b.1 (hd t.2.2.2.1)).1 := by show b.1 < t.2.2.2.2.1.1; omega
    have g : ∀ a, 4 ≤ a → a ≤ 7 → T' a b.1 = (bSet t.2.2.2.2.1 6 b.1 (hd t.2.2.2.1)).2.2.1 a b.1 := fun a h4 h7 => hA.1 a b.1 h4 (by omega) (Nat.le_refl _) lt (by omega)
    have t4 : T' 4 b.1 = 47 := by rw [g 4 (by decide) (by decide), at1 4 (by decide), bSet_o (by omega), at0, n4]
    have t5 : T' 5 b.1 = nI r.2.2.2.1 := by rw [g 5 (by decide) (by decide), at1 5 (by decide), bSet_s]
    have t6 : T' 6 b.1 = hd y2 := by rw [g 6 (by decide) (by decide), bSet_s, u1]
    have hA1 : ∀ top, Agr T' E.2.2.2.1 t.2.1 t.2.2.2.2.1 (b.1 + 1) top := fun top => Agr_st (AgS_up hA (Nat.le_succ _) (Nat.lt_succ_self _)) (Nat.lt_succ_self _)
    have hA2 : Agr T' E.2.2.2.1 r.2.1 r.2.2.2.2.1 (b.1 + 1) r.2.2.2.1 := Agr_st (Agr_g (hA1 r.2.2.2.1) f2 hvt (by omega) (Nat.le_refl _) (Or.inl (by omega)) (Or.inl rfl)) (Nat.lt_succ_self _)
    obtain ⟨j1, j2⟩ := H2 T' S (Agr_up (hA1 0) l1) hU hY hXS (Or.inr ⟨b.1, d, v, rfl, rfl, hSi, by rw [if_neg (by rw [t4]; decide)]; omega, Or.inr (Or.inl t4)⟩) (fun _ => hlq_in (by omega) (Or.inl t4))
    refine ⟨j1, Kd_47 t4 ⟨?_, ?_⟩⟩
    · show Wx0 T' FN _ (T' 5 b.1)
      rw [t5]; exact Wx_of hO hK (by decide) (hP.2.2.2.2 T' hA2)
    · show BdE T' S _ d v b.1 (T' 6 b.1)
      rw [t6]
      rcases x2 with z | ⟨z1, z2, z3⟩
      · rw [z]; exact Or.inl rfl
      · have z1 : r.2.2.2.2.1.1 ≤ y2 := z1
        exact Or.inr ⟨y2, r.2.1, hd_1 (by omega), hXS _ _ _ z3, hv, j2 (by omega)⟩
/-- a for, from its block on -/
theorem RIn_f {E' : En} {cb : BT} {t : ST} {cv k q2 qF : Nat} (he : E'.2.2.2.1 = E.2.2.2.1) (hY : ∀ T' S A C, HyT GF T' S E MD A C → HyT GF T' S E' MD A C) (hb : 1 ≤ b.1) (hb2 : b.1 ≤ 70000) (hd19 : d ≤ 19) (hq : q ≤ q2) (hqF : t.1 < qF) (hcv : cv ≤ 60) (hvt : cv ≤ t.2.1) (hk : 1 ≤ k) (hvk : v + k ≤ cv) (hF : Frm E.2.2.2.1 v b 0 cb) (hlt : b.1 < cb.1) (c4 : cb.2.2.1 4 b.1 = 48) (c9 : cb.2.2.1 9 b.1 = -1) (hI : ∀ T', Agr T' E.2.2.2.1 cv cb (b.1 + 1) 0 → ItL T' FN (lcU E.2.2.2.1 T') (cnU E.2.2.2.1 T') k (cb.2.2.1 5 b.1)) (hC : ∀ T', Agr T' E.2.2.2.1 cv cb (b.1 + 1) 0 → (cb.2.2.1 6 b.1 = -1 ∨ Wx0 T' FN (lcU E.2.2.2.1 T') (cb.2.2.1 6 b.1))) (hB : RB0 FN GF MD E' (lp + 1) (d + 1) q2 cv (nI b.1) 0 0 cb s t) : RIn FN GF MD E lp d q v b s (qF, t.2.1, 0, b.1, bSet t.2.2.2.2.1 7 b.1 (hd t.2.2.2.1), t.2.2.2.2.2) := by
  obtain ⟨X2, y2, A2, C2, f2, s2, u1, _, g2, x2, H2⟩ := hB
  rw [he] at f2 H2
  rw [if_pos rfl] at u1
  have l2 := f2.1
  have at1 : ∀ a, ¬ a = 7 → (bSet t.2.2.2.2.1 7 b.1 (hd t.2.2.2.1)).2.2.1 a b.1 = cb.2.2.1 a b.1 := fun a ha => by
    rw [bSet_o (by omega)]; exact f2.2.2.1 a b.1 hlt (by omega)
  refine ⟨X2, A2, C2, Frm_set8 (Nat.le_refl _) (Frm_tr hF f2 (by omega) (Or.inl rfl)), s2, ⟨Nat.le_refl _, by show b.1 < t.2.2.2.2.1.1; omega, (at1 9 (by decide)).trans c9⟩, by show _ < qF; omega, fun T' S hA hU hYT hXS hSi hl => ?_⟩
  have lt : b.1 < (bSet t.2.2.2.2.1 7 b.1 (hd t.2.2.2.1)).1 := by show b.1 < t.2.2.2.2.1.1; omega
  have g : ∀ a, 4 ≤ a → a ≤ 7 → T' a b.1 = (bSet t.2.2.2.2.1 7 b.1 (hd t.2.2.2.1)).2.2.1 a b.1 := fun a h4 h7 => hA.1 a b.1 h4 (by omega) (Nat.le_refl _) lt (by omega)
  have t4 : T' 4 b.1 = 48 := by rw [g 4 (by decide) (by decide), at1 4 (by decide), c4]
  have t5 : T' 5 b.1 = cb.2.2.1 5 b.1 := by rw [g 5 (by decide) (by decide), at1 5 (by decide)]
  have t6 : T' 6 b.1 = cb.2.2.1 6 b.1 := by rw [g 6 (by decide) (by decide), at1 6 (by decide)]
  have t7 : T' 7 b.1 = hd y2 := by rw [g 7 (by decide) (by decide), bSet_s, u1]
  have hA1 : Agr T' E.2.2.2.1 t.2.1 t.2.2.2.2.1 (b.1 + 1) 0 := Agr_st (AgS_up hA (Nat.le_succ _) (Nat.lt_succ_self _)) (Nat.lt_succ_self _)
  have hA2 : Agr T' E.2.2.2.1 cv cb (b.1 + 1) 0 := Agr_g hA1 f2 hvt (by omega) (Nat.le_refl _) (Or.inl (by omega)) (Or.inl rfl)
  have i5 := hI T' hA2
  rw [← t5] at i5
  have ei : itn T' b.1 = k := chl_I k 61 _ (by omega) i5
  obtain ⟨j1, j2⟩ := H2 T' S (Agr_up hA1 hlt) hU (hY _ _ _ _ hYT) hXS (Or.inr ⟨b.1, d, v, rfl, rfl, hSi, by rw [if_pos t4, ei]; exact hvk, Or.inr (Or.inr t4)⟩) (fun _ => hlq_in (by omega) (Or.inr (Or.inl t4)))
  refine ⟨j1, Kd_48 t4 ⟨hd19, ?_⟩⟩
  show FoN T' FN S _ d v b.1
  unfold FoN
  rw [ei, t6, t7]
  refine ⟨hk, by omega, i5, hC T' hA2, ?_⟩
  rcases x2 with z | ⟨z1, z2, z3⟩
  · rw [z]; exact Or.inl rfl
  · exact Or.inr ⟨y2, cv, hd_1 (by omega), hXS _ _ _ z3, hvk, j2 (by omega)⟩
end IWF
end JnS326
section JnS327
/-! The set of statements that the grammar lays: all blocks. -/
section GSX
variable {T : Nat → Int32} {n : Nat} {FN : Nat → Nat → Prop} {GF : Nat → Prop} {MD : Nat → Nat → Nat} {f : Nat}
def XB0 (T : Nat → Int32) (n : Nat) (FN : Nat → Nat → Prop) (GF : Nat → Prop) (MD : Nat → Nat → Nat) (f : Nat) : Prop := ∀ (E : En) (lp o q v : Nat) (pe : Int32) (i l : Nat) (b : BT) (s : SB) (r : ST) (d : Nat), PrZ n FN GF E o q v b s d → l < b.1 → (¬ i = 0 → (1 ≤ l ∧ b.2.2.1 9 l = -1) ∧ 1 ≤ i ∧ i < b.1) → GS T n MD f 0 E lp o q v pe i l b s = some (Sum.inr r) → RB0 FN GF MD E lp d q v pe i l b s r
def XS1 (T : Nat → Int32) (n : Nat) (FN : Nat → Nat → Prop) (GF : Nat → Prop) (MD : Nat → Nat → Nat) (f : Nat) : Prop := ∀ (E : En) (lp o q v : Nat) (b : BT) (s : SB) (r : ST) (d : Nat), PrZ n FN GF E o q v b s d → GS T n MD f 1 E lp o q v 0 0 0 b s = some (Sum.inr r) → RS1 FN GF MD E lp d q v b s r
def XIn (T : Nat → Int32) (n : Nat) (FN : Nat → Nat → Prop) (GF : Nat → Prop) (MD : Nat → Nat → Nat) (nt tk f : Nat) : Prop := ∀ (E : En) (lp o q v : Nat) (b : BT) (s : SB) (r : ST) (d : Nat), PrZ n FN GF E o q v b s d → o ≤ 19 → tkK T n q = tk → GS T n MD f nt E lp o q v 0 0 0 b s = some (Sum.inr r) → RIn FN GF MD E lp d q v b s r
def XB3 (T : Nat → Int32) (n : Nat) (FN : Nat → Nat → Prop) (GF : Nat → Prop) (MD : Nat → Nat → Nat) (f : Nat) : Prop := ∀ (E : En) (lp o q v i l : Nat) (b : BT) (s : SB) (r : ST) (d v0 : Nat), PrZ n FN GF E o q v b s (d + 1) → i < b.1 → l < b.1 → v0 ≤ v → GS T n MD f 3 E lp o q v 0 i l b s = some (Sum.inr r) → RB3 FN GF MD E lp d q v v0 i l b s r
/-- a block -/
theorem xb0_s (H1 : XS1 T n FN GF MD f) (H0 : XB0 T n FN GF MD f) : XB0 T n FN GF MD (f + 1) := by
  intro E lp o q v pe i l b s r d hP hl hi hG
  obtain ⟨p1, p2, p3, p4, p5, p6, p7, p8, p9, p10, p11⟩ := id hP
  simp only [GS] at hG
  by_cases c : isBE (tkK T n q)
  · rw [if_pos c] at hG
    cases hG
    refine ⟨fun _ _ _ => False, 0, 0, 0, Frm_rf, FrS_rf, ?_, fun z => (hi z).1.2, by show 2 * (0 + 0) + q ≤ q; omega, Or.inl rfl, fun T' S _ _ _ _ _ _ => ⟨fun _ _ _ z => z.elim, fun z => absurd rfl z⟩⟩
    show i = _
    by_cases z : i = 0
    · rw [if_pos z]; exact z
    · rw [if_neg z]
  · rw [if_neg c] at hG
    obtain ⟨t, g1, hG⟩ := hb_s hG
    obtain ⟨m, m'⟩ := gs_mo f 1 E lp o q v 0 0 0 b s t 1 (by decide) p1 p2 p7 g1 (Nat.le_refl 1) p6 (fun z => absurd z (by decide)) (fun z => absurd z (by decide))
    have R1 := H1 E lp o q v b s t d hP g1
    obtain ⟨m1, m2, m3, m4, m5, m6, m7, m8, m9, m10⟩ := id m
    obtain ⟨_, _, _, r1, _, ⟨e1, e2, e3⟩, _⟩ := id R1
    have nz : ¬ fst2 i t.2.2.2.1 = 0 := by
      unfold fst2
      by_cases z : i = 0
      · rw [if_pos z]; omega
      · rw [if_neg z]; exact z
    have fb : 1 ≤ fst2 i t.2.2.2.1 ∧ fst2 i t.2.2.2.1 < t.2.2.2.2.1.1 := by
      unfold fst2
      by_cases z : i = 0
      · rw [if_pos z]; omega
      · rw [if_neg z]; have := hi z; omega
    have n9 : (bLnk i l t.2.2.2.1 t.2.2.2.2.1).2.2.1 9 t.2.2.2.1 = -1 := by
      unfold bLnk
      by_cases z : i = 0
      · rw [if_pos z]; exact e3
      · rw [if_neg z, bSet_o (by omega)]; exact e3
    have P2 : PrZ n FN GF E o t.1 t.2.1 (bLnk i l t.2.2.2.1 t.2.2.2.2.1) (sUp t.2.2.2.2.2 t.2.2.1 pe) d := ⟨m2, m4, p3, by rw [bLnk_1]; omega, by rw [bLnk_p]; omega, by rw [bLnk_1]; omega, m10, p8, NmC_fr (NmC_fr p9 r1 m3) (Frm_lnk (vv := t.2.1) (e := l)) (Nat.le_refl _), p10, p11⟩
    have hG : GS T n MD f 0 E lp o t.1 t.2.1 pe (fst2 i t.2.2.2.1) t.2.2.2.1 (bLnk i l t.2.2.2.1 t.2.2.2.2.1) (sUp t.2.2.2.2.2 t.2.2.1 pe) = some (Sum.inr r) := hG
    obtain ⟨mm, _⟩ := gs_mo f 0 E lp o t.1 t.2.1 pe (fst2 i t.2.2.2.1) t.2.2.2.1 (bLnk i l t.2.2.2.1 t.2.2.2.2.1) (sUp t.2.2.2.2.2 t.2.2.1 pe) r 1 (by decide) m2 m4 m10 hG (Nat.le_refl 1) (by rw [bLnk_1]; omega) (fun _ _ => by rw [bLnk_1]; exact fb) (fun z => absurd z (by decide))
    have R2 := H0 E lp o t.1 t.2.1 pe _ _ _ _ r d P2 (by rw [bLnk_1]; exact e2) (fun _ => ⟨⟨by omega, n9⟩, by rw [bLnk_1]; exact fb⟩) hG
    exact RB0_s m p6 hl (fun z => (hi z).1.1) R1 R2 mm.2.2.1
/-- a statement -/
theorem xs1_s (hn : n ≤ 32768) (hT : ∀ i, i < n → ∃ d, d ≤ 300 ∧ T i = nI d) (H2 : XIn T n FN GF MD 2 39 f) (H4 : XIn T n FN GF MD 4 43 f) (H5 : XIn T n FN GF MD 5 45 f) : XS1 T n FN GF MD (f + 1) := by
  intro E lp o q v b s r d hP hG
  obtain ⟨p1, p2, p3, p4, p5, p6, p7, p8, p9, p10, p11⟩ := id hP
  simp only [GS] at hG
  by_cases c : ¬ isSt (tkK T n q) ∨ (isOp (tkK T n q) ∧ o = 20) ∨ s.1 = 400
  · rw [if_pos c] at hG; cases hG
  rw [if_neg c] at hG
  have c1 : isSt (tkK T n q) := Classical.byContradiction (fun z => c (Or.inl z))
  have c2 : isOp (tkK T n q) → o ≤ 19 := fun z => by
    have : ¬ o = 20 := fun y => c (Or.inr (Or.inl ⟨z, y⟩))
    omega
  have c3 : ¬ s.1 = 400 := fun z => c (Or.inr (Or.inr z))
  have PM : PrZ n FN GF E o q v b (sMo s) d := ⟨p1, p2, p3, p4, p5, p6, by show s.1 + 1 ≤ 400; omega, p8, p9, p10, p11⟩
  obtain ⟨t, g1, hG⟩ := hb_s hG
  have R : RIn FN GF MD E lp d q v b (sMo s) t := by
    by_cases k26 : tkK T n q = 26
    · rw [if_pos k26] at g1
      obtain ⟨u, g2, g1⟩ := lb_s g1
      obtain ⟨ks, a1, a2, a3⟩ := gBg_t (GF := GF) hT p1 k26 p2 p3 p4 p5 p6 p8 p9 g2
      cases g1
      exact RIn_s (ks := ks) a1 (SLd_mo a2 ⟨p6, Nat.le_refl _⟩ (fun T' _ _ h => Or.inl h)) a3
    rw [if_neg k26] at g1
    by_cases k10 : tkK T n q = 10
    · rw [if_pos k10] at g1
      obtain ⟨u, g2, g1⟩ := lb_s g1
      obtain ⟨ks, a1, a2, a3⟩ := gPa_t (GF := GF) hn hT p1 p2 p3 p4 p5 p6 p8 p9 g2
      cases g1
      exact RIn_s (ks := ks) a1 (SLd_mo a2 ⟨p6, Nat.le_refl _⟩ (fun T' _ _ h => Or.inr (Or.inl h))) a3
    rw [if_neg k10] at g1
    by_cases k39 : tkK T n q = 39
    · rw [if_pos k39] at g1
      exact H2 E lp o q v b (sMo s) t d PM (c2 (Or.inl k39)) k39 g1
    rw [if_neg k39] at g1
    by_cases k43 : tkK T n q = 43
    · rw [if_pos k43] at g1
      exact H4 E lp o q v b (sMo s) t d PM (c2 (Or.inr (Or.inl k43))) k43 g1
    rw [if_neg k43] at g1
    by_cases k45 : tkK T n q = 45
    · rw [if_pos k45] at g1
      exact H5 E lp o q v b (sMo s) t d PM (c2 (Or.inr (Or.inr (Or.inl k45)))) k45 g1
    rw [if_neg k45] at g1
    obtain ⟨u, g2, g1⟩ := lb_s g1
    have kw : 49 ≤ tkK T n q ∧ tkK T n q ≤ 56 := by
      rcases c1 with z | z | z | z | z | z
      · exact absurd z k26
      · exact absurd z k10
      · exact absurd z k39
      · exact absurd z k43
      · exact absurd z k45
      · exact z
    obtain ⟨ks, a1, a2, a3⟩ := gSm_t (GF := GF) kw hT p1 p2 p3 p4 p5 p6 p8 p9 g2
    cases g1
    exact RIn_s (ks := ks) a1 (SLd_mo a2 ⟨p6, Nat.le_refl _⟩ (fun T' _ _ h => Or.inr (Or.inr h))) a3
  cases hG
  exact S1_fin p2 (by omega) p10 p6 (by omega) R
/-- branches -/
theorem xb3_s (hT : ∀ i, i < n → ∃ d, d ≤ 300 ∧ T i = nI d) (H0 : XB0 T n FN GF MD f) (H3 : XB3 T n FN GF MD f) : XB3 T n FN GF MD (f + 1) := by
  intro E lp o q v i l b s r d v0 hP hi hl hv0 hG
  obtain ⟨p1, p2, p3, p4, p5, p6, p7, p8, p9, p10, p11⟩ := id hP
  simp only [GS] at hG
  obtain ⟨c, g1, hG⟩ := hb_s hG
  have hC : (q ≤ c.1 ∧ c.1 ≤ n ∧ v ≤ c.2.1 ∧ c.2.1 ≤ 60 ∧ c.2.2.2.2.1.1 + q ≤ b.1 + c.1 ∧ c.2.2.2.2.1.2.1 + q ≤ b.2.1 + c.1) ∧ Frm E.2.2.2.1 v b 0 c.2.2.2.2.1 ∧ (c.2.2.2.1 = 0 ∨ LPt FN (eFl E) E.2.2.2.1 c.2.1 (20 - o) 14 (60 - v) b.1 c.2.2.2.2.1 c.2.2.2.1) ∧ c.2.2.2.2.2 = s := by
    by_cases z : l = 0 ∧ tkK T n q = 63
    · rw [if_pos z] at g1
      obtain ⟨t1, g1⟩ := hT_s g1
      have u := tkN_b T n q p1
      cases g1
      exact ⟨⟨u.1, u.2.1, Nat.le_refl _, p2, by show b.1 + q ≤ b.1 + tkN T n q; omega, by show b.2.1 + q ≤ b.2.1 + tkN T n q; omega⟩, Frm_rf, Or.inl rfl, rfl⟩
    · rw [if_neg z] at g1
      obtain ⟨t, g2, g1⟩ := lb_s g1
      obtain ⟨⟨a1, a2, a3, a4, a5, a6, a7, a8⟩, hF, hL, hlt, _⟩ := ex_of (GF := GF) hT p1 p2 p3 p4 p5 p6 p8 p9 g2
      have a4 : t.2.1 ≤ 60 := by omega
      cases g1
      exact ⟨⟨a1, a2, a3, a4, a6, a8⟩, hF, Or.inr hL, rfl⟩
  obtain ⟨⟨a1, a2, a3, a4, a6, a8⟩, hF, hL, es⟩ := hC
  obtain ⟨w1, w2, hG⟩ := hW_s hG
  have u1 := tkN_b T n c.1 a2
  obtain ⟨t, g2, hG⟩ := hb_s hG
  have P2 : PrZ n FN GF E o (tkN T n c.1) c.2.1 c.2.2.2.2.1 s (d + 1) := ⟨u1.2.1, a4, p3, by omega, by omega, Nat.le_trans p6 hF.1, p7, p8, NmC_fr p9 hF a3, p10, p11⟩
  have hB := H0 E lp o (tkN T n c.1) c.2.1 (nI i) 0 0 c.2.2.2.2.1 s t (d + 1) P2 (Nat.lt_of_lt_of_le p6 hF.1) (fun z => absurd rfl z) g2
  obtain ⟨⟨m1, m2, m3, m4, m5, m6, m7, m8, m9, m10⟩, _⟩ := gs_mo f 0 E lp o (tkN T n c.1) c.2.1 (nI i) 0 0 c.2.2.2.2.1 s t 1 (by decide) u1.2.1 a4 p7 g2 (Nat.le_refl 1) (Nat.le_trans p6 hF.1) (fun _ z => absurd rfl z) (fun z => absurd z (by decide))
  have l1 := hF.1
  by_cases k41 : tkK T n t.1 = 41
  · rw [if_pos k41] at hG
    obtain ⟨t3, hG⟩ := hT_s hG
    have u3 := tkN_b T n t.1 m2
    have hG : GS T n MD f 3 E lp o (tkN T n t.1) t.2.1 0 i t.2.2.2.2.1.1 (b3N l i t.2.2.2.2.1 (if c.2.2.2.1 = 0 then -3 else nI c.2.2.2.1) (hd t.2.2.2.1)) t.2.2.2.2.2 = some (Sum.inr r) := hG
    obtain ⟨b1, b2, b3⟩ := b3N_1 (l := l) (i := i) (t := t.2.2.2.2.1) (x := if c.2.2.2.1 = 0 then -3 else nI c.2.2.2.1) (y := hd t.2.2.2.1)
    have u3' := u3.2.2.2 (by rw [k41]; decide)
    have u1' := u1.2.2.2 (by rw [w1]; decide)
    obtain ⟨_, _, _, f1, _⟩ := Br1 (GF := GF) (l := l) hF a3 m3 (by omega) (by omega) hL hB p6 hi (by omega) hl hv0
    have P3 : PrZ n FN GF E o (tkN T n t.1) t.2.1 (b3N l i t.2.2.2.2.1 (if c.2.2.2.1 = 0 then -3 else nI c.2.2.2.1) (hd t.2.2.2.1)) t.2.2.2.2.2 (d + 1) := by
      refine ⟨u3.2.1, m4, p3, by rw [b1]; omega, by rw [b2]; omega, by rw [b1]; omega, m10, p8, ⟨fun x hx => ?_, p9.2⟩, p10, p11⟩
      obtain ⟨x1, x2, x3⟩ := p9.1 x hx
      exact ⟨by omega, x2, (f1.2.2.2.2 _ x1).trans x3⟩
    obtain ⟨mm, _⟩ := gs_mo f 3 E lp o (tkN T n t.1) t.2.1 0 i t.2.2.2.2.1.1 _ _ r 1 (by decide) u3.2.1 m4 m10 hG (Nat.le_refl 1) (by rw [b1]; omega) (fun z => absurd z (by decide)) (fun _ z => absurd rfl z)
    exact RB3_s (GF := GF) hF a3 m3 (by omega) (by omega) hL hB p6 hi (by omega) hl hv0 (by omega) u3.1 mm.2.2.1 (H3 E lp o _ _ i _ _ _ r d v0 P3 (by rw [b1]; omega) (by rw [b1]; omega) (by omega) hG)
  · rw [if_neg k41] at hG
    cases hG
    exact RB3_e (GF := GF) hF a3 m3 (by omega) (by omega) hL hB p6 hi (by omega) hl hv0 (by omega)
/-- ifs -/
theorem xi2_s (H0 : XB0 T n FN GF MD f) (H3 : XB3 T n FN GF MD f) : XIn T n FN GF MD 2 39 (f + 1) := by
  intro E lp o q v b s r d hP ho hk hG
  obtain ⟨p1, p2, p3, p4, p5, p6, p7, p8, p9, p10, p11⟩ := id hP
  simp only [GS] at hG
  obtain ⟨_, hG⟩ := hT_s hG
  have u1 := tkN_b T n q p1
  have u1' := u1.2.2.2 (by rw [hk]; decide)
  obtain ⟨t, g1, hG⟩ := hb_s hG
  have P1 : PrZ n FN GF E (o + 1) (tkN T n q) v (bNode b 46 (-1) 0 0) s (d + 1) := ⟨u1.2.1, p2, by omega, by rw [bNode_1]; omega, by rw [bNode_p]; omega, by rw [bNode_1]; omega, p7, p8, NmC_fr p9 (Frm_node (e := 0)) (Nat.le_refl _), p10, by omega⟩
  have R := H3 E lp (o + 1) (tkN T n q) v b.1 0 (bNode b 46 (-1) 0 0) s t d v P1 (by rw [bNode_1]; omega) (by rw [bNode_1]; omega) (Nat.le_refl _) g1
  obtain ⟨⟨m1, m2, m3, m4, m5, m6, m7, m8, m9, m10⟩, _⟩ := gs_mo f 3 E lp (o + 1) (tkN T n q) v 0 b.1 0 (bNode b 46 (-1) 0 0) s t 1 (by decide) u1.2.1 p2 p7 g1 (Nat.le_refl 1) (by rw [bNode_1]; omega) (fun z => absurd z (by decide)) (fun _ z => absurd rfl z)
  rw [bNode_1] at m5 m6
  rw [bNode_p] at m7 m8
  obtain ⟨w, g2, hG⟩ := hb_s hG
  by_cases k42 : tkK T n t.1 = 42
  · rw [if_pos k42] at g2
    obtain ⟨_, g2⟩ := hT_s g2
    have u2 := tkN_b T n t.1 m2
    have u2' := u2.2.2.2 (by rw [k42]; decide)
    obtain ⟨z, g3, g2⟩ := hb_s g2
    obtain ⟨_, _, _, _, _, f1, _⟩ := id R
    have P2 : PrZ n FN GF E (o + 1) (tkN T n t.1) t.2.1 t.2.2.2.2.1 t.2.2.2.2.2 (d + 1) := by
      refine ⟨u2.2.1, m4, by omega, by omega, by omega, by omega, m10, p8, ⟨fun x hx => ?_, p9.2⟩, p10, by omega⟩
      obtain ⟨x1, x2, x3⟩ := p9.1 x hx
      exact ⟨by omega, x2, (f1.2.2.2.2 _ x1).trans x3⟩
    have B := H0 E lp (o + 1) (tkN T n t.1) t.2.1 (nI b.1) 0 0 t.2.2.2.2.1 t.2.2.2.2.2 z (d + 1) P2 (by omega) (fun z => absurd rfl z) g3
    obtain ⟨⟨n1, n2, n3, n4, n5, n6, n7, n8, n9, n10⟩, _⟩ := gs_mo f 0 E lp (o + 1) (tkN T n t.1) t.2.1 (nI b.1) 0 0 t.2.2.2.2.1 t.2.2.2.2.2 z 1 (by decide) u2.2.1 m4 m10 g3 (Nat.le_refl 1) (by omega) (fun _ z => absurd rfl z) (fun z => absurd z (by decide))
    cases g2
    obtain ⟨q3, y1, y2, hG⟩ := hE_mo (show z.1 ≤ n from n2) hG
    have y1 : z.1 + 2 ≤ q3 := y1
    cases hG
    exact RIn_ie p6 (by omega) u2.1 (by omega) m3 n3 (by omega) R B
  · rw [if_neg k42] at g2
    cases g2
    obtain ⟨q3, y1, y2, hG⟩ := hE_mo m2 hG
    cases hG
    exact RIn_if p6 (by omega) (by omega) R
/-- whiles -/
theorem xw4_s (hT : ∀ i, i < n → ∃ d, d ≤ 300 ∧ T i = nI d) (H0 : XB0 T n FN GF MD f) : XIn T n FN GF MD 4 43 (f + 1) := by
  intro E lp o q v b s r d hP ho hk hG
  obtain ⟨p1, p2, p3, p4, p5, p6, p7, p8, p9, p10, p11⟩ := id hP
  simp only [GS] at hG
  obtain ⟨_, hG⟩ := hT_s hG
  have u1 := tkN_b T n q p1
  have u1' := u1.2.2.2 (by rw [hk]; decide)
  obtain ⟨t, g1, hG⟩ := lb_s hG
  have N1 : NmC E.2.2.2.1 v (bNode b 47 0 0 0) GF E := NmC_fr p9 (Frm_node (e := 0)) (Nat.le_refl _)
  obtain ⟨⟨a1, a2, a3, a4, a5, a6, a7, a8⟩, hF, hL, hlt, _⟩ := ex_of (GF := GF) hT u1.2.1 p2 (show o + 1 ≤ 20 by omega) (by rw [bNode_1]; omega) (by rw [bNode_p]; omega) (by rw [bNode_1]; omega) p8 N1 g1
  have a4 : t.2.1 ≤ 60 := by omega
  rw [bNode_1] at a5 a6 hL
  rw [bNode_p] at a7 a8
  obtain ⟨w1, w2, hG⟩ := hW_s hG
  have u2 := tkN_b T n t.1 a2
  obtain ⟨z, g3, hG⟩ := hb_s hG
  have fS : Frm E.2.2.2.1 v b 0 (bSet t.2.2.2.2.1 5 b.1 (nI t.2.2.2.1)) := Frm_set8 (Nat.le_refl _) (Frm_tr (Frm_node (vv := v)) hF (Nat.le_refl _) (Or.inl rfl))
  have P2 : PrZ n FN GF E (o + 1) (tkN T n t.1) t.2.1 (bSet t.2.2.2.2.1 5 b.1 (nI t.2.2.2.1)) s (d + 1) := ⟨u2.2.1, a4, by omega, by rw [bSet_1]; omega, by rw [bSet_p]; omega, by rw [bSet_1]; omega, p7, p8, NmC_fr p9 fS a3, p10, by omega⟩
  have B := H0 E (lp + 1) (o + 1) (tkN T n t.1) t.2.1 (nI b.1) 0 0 _ s z (d + 1) P2 (by rw [bSet_1]; omega) (fun z => absurd rfl z) g3
  obtain ⟨⟨n1, n2, n3, n4, n5, n6, n7, n8, n9, n10⟩, _⟩ := gs_mo f 0 E (lp + 1) (o + 1) (tkN T n t.1) t.2.1 (nI b.1) 0 0 _ s z 1 (by decide) u2.2.1 a4 p7 g3 (Nat.le_refl 1) (by rw [bSet_1]; omega) (fun _ z => absurd rfl z) (fun z => absurd z (by decide))
  obtain ⟨q3, y1, y2, hG⟩ := hE_mo n2 hG
  cases hG
  exact RIn_w p6 (by omega) (by omega) (by omega) a3 n3 (by omega) (by omega) hF hL B
/-- fors -/
theorem xf5_s (hT : ∀ i, i < n → ∃ d, d ≤ 300 ∧ T i = nI d) (H0 : XB0 T n FN GF MD f) : XIn T n FN GF MD 5 45 (f + 1) := by
  intro E lp o q v b s r d hP ho hk hG
  obtain ⟨p1, p2, p3, p4, p5, p6, p7, p8, p9, p10, p11⟩ := id hP
  simp only [GS] at hG
  obtain ⟨_, hG⟩ := hT_s hG
  have u1 := tkN_b T n q p1
  have u1' := u1.2.2.2 (by rw [hk]; decide)
  obtain ⟨t, g1, hG⟩ := lb_s hG
  have x4 := (g_mono T n f 17 E (o + 1) _ v 0 0 _ 1 (bNode b 48 0 (-1) 0) t u1.2.1 p2 g1 1 (by rw [bNode_1]; omega) (Nat.le_refl 1) (Or.inl rfl)).1
  obtain ⟨a1, a2, a3, a4, a5, a6, a7, a8⟩ := (x4 : Mo n _ _ _ t)
  have a4 : t.2.1 ≤ 60 := by omega
  rw [bNode_1] at a5 a6
  rw [bNode_p] at a7 a8
  have y4 := g_tree (FN := FN) hT f 17 E (o + 1) _ v 0 0 _ 1 (bNode b 48 0 (-1) 0) t 0 _ _ u1.2.1 p2 (show o + 1 ≤ 20 by omega) (by rw [bNode_1]; omega) (by rw [bNode_p]; omega) (by rw [bNode_1]; omega) p8 g1 (Or.inl ⟨rfl, rfl, rfl⟩)
  obtain ⟨hF, hns, ht1, m, hm, hIt⟩ := (y4 : Frm E.2.2.2.1 v (bNode b 48 0 (-1) 0) 0 t.2.2.2.2.1 ∧ (∀ x ∈ t.2.2.2.2.2, x.2.2 < 60) ∧ 1 ≤ t.2.2.2.1 ∧ ∃ m, m + 1 + (60 - t.2.1) ≤ 60 - v ∧ ∀ T', Agr T' E.2.2.2.1 t.2.1 t.2.2.2.2.1 (b.1 + 1) 0 → ∃ el, LSe (PJ FN (eFl E) E.2.2.2.1 1 (20 - (o + 1)) (60 - v) T') T' m t.2.2.2.1 el ∧ T' 9 el = -1)
  have hNm := g17_n f E (o + 1) _ v 0 0 _ 1 (bNode b 48 0 (-1) 0) t g1
  have EO : EnOK FN (seeN E t.2.2.2.2.2) := EnOK_see p8 hns
  obtain ⟨b4, b5, b6, b7, b8, b9⟩ := nd_t (b := b) (k := 48) (x := 0) (y := -1) (z := 0)
  have at0 : ∀ a, t.2.2.2.2.1.2.2.1 a b.1 = (bNode b 48 0 (-1) 0).2.2.1 a b.1 := fun a => hF.2.2.1 a b.1 (Nat.lt_succ_self _) (by omega)
  have fS : Frm E.2.2.2.1 v b 0 (bSet t.2.2.2.2.1 5 b.1 (nI t.2.2.2.1)) := Frm_set8 (Nat.le_refl _) (Frm_tr (Frm_node (vv := v)) hF (Nat.le_refl _) (Or.inl rfl))
  have NS : NmC E.2.2.2.1 t.2.1 (bSet t.2.2.2.2.1 5 b.1 (nI t.2.2.2.1)) GF (seeN E t.2.2.2.2.2) := by
    refine ⟨fun x hx => ?_, p9.2⟩
    rcases List.mem_append.mp (show x ∈ t.2.2.2.2.2 ++ E.2.1 from hx) with z | z
    · exact ⟨(hNm x z).1, hns x z, (hNm x z).2⟩
    · exact (NmC_fr p9 fS a3).1 x z
  obtain ⟨c, g2, hG⟩ := hb_s hG
  -- what is told of the iterators and of the condition
  have hC : ∃ (cb : BT) (cv : Nat), c.2.2.2.2.1 = cb ∧ c.2.1 = cv ∧ (tkN T n q ≤ c.1 ∧ c.1 ≤ n ∧ t.2.1 ≤ cv ∧ cv ≤ 60 ∧ cb.1 + tkN T n q ≤ b.1 + 1 + c.1 ∧ cb.2.1 + tkN T n q ≤ b.2.1 + c.1) ∧ Frm E.2.2.2.1 v b 0 cb ∧ b.1 < cb.1 ∧ cb.2.2.1 4 b.1 = 48 ∧ cb.2.2.1 9 b.1 = -1 ∧ cb.2.2.1 5 b.1 = nI t.2.2.2.1 ∧ (∀ T', Agr T' E.2.2.2.1 cv cb (b.1 + 1) 0 → Agr T' E.2.2.2.1 t.2.1 t.2.2.2.2.1 (b.1 + 1) 0) ∧ (∀ T', Agr T' E.2.2.2.1 cv cb (b.1 + 1) 0 → (cb.2.2.1 6 b.1 = -1 ∨ Wx0 T' FN (lcU E.2.2.2.1 T') (cb.2.2.1 6 b.1))) ∧ NmC E.2.2.2.1 cv cb GF (seeN E t.2.2.2.2.2) := by
    by_cases k15 : tkK T n t.1 = 15
    · rw [if_pos k15] at g2
      obtain ⟨_, g2⟩ := hT_s g2
      have u2 := tkN_b T n t.1 a2
      obtain ⟨w, g3, g2⟩ := lb_s g2
      obtain ⟨⟨e1, e2, e3, e4, e5, e6, e7, e8⟩, hF2, hL2, hlt2, _⟩ := ex_of (E := seeN E t.2.2.2.2.2) (GF := GF) hT u2.2.1 a4 (show o + 1 ≤ 20 by omega) (by rw [bSet_1]; omega) (by rw [bSet_p]; omega) (by rw [bSet_1]; omega) EO NS g3
      have e4 : w.2.1 ≤ 60 := by omega
      rw [bSet_1] at e5 e6
      rw [bSet_p] at e7 e8
      have at2 : ∀ a, w.2.2.2.2.1.2.2.1 a b.1 = (bSet t.2.2.2.2.1 5 b.1 (nI t.2.2.2.1)).2.2.1 a b.1 := fun a => hF2.2.2.1 a b.1 (show b.1 < t.2.2.2.2.1.1 by omega) (by omega)
      cases g2
      refine ⟨_, _, rfl, rfl, ⟨by show _ ≤ w.1; omega, e2, e3, e4, by show w.2.2.2.2.1.1 + _ ≤ b.1 + 1 + w.1; omega, by show w.2.2.2.2.1.2.1 + _ ≤ b.2.1 + w.1; omega⟩, Frm_set8 (Nat.le_refl _) (Frm_tr fS hF2 a3 (Or.inl rfl)), by show b.1 < w.2.2.2.2.1.1; omega, ?_, ?_, ?_, fun T' hA => ?_, fun T' hA => ?_, (NmC_fr NS hF2 e3 : NmC E.2.2.2.1 w.2.1 w.2.2.2.2.1 GF (seeN E t.2.2.2.2.2))⟩
      · rw [bSet_o (by omega), at2, bSet_o (by omega), at0, b4]
      · rw [bSet_o (by omega), at2, bSet_o (by omega), at0, b9]
      · rw [bSet_o (by omega), at2, bSet_s]
      · exact Agr_st (Agr_g (Agr_st hA (Nat.lt_succ_self _)) hF2 e3 (by omega) (Nat.le_refl _) (Or.inl (by omega)) (Or.inl rfl)) (Nat.lt_succ_self _)
      · refine Or.inr ?_
        rw [bSet_s]
        have l9 := hL2.2.1
        rw [bSet_1] at l9
        exact Wx_of (by omega) (by omega) (by decide) (hL2.2.2.2.2 T' (Agr_g (top' := w.2.2.2.1) (Agr_up (Agr_st hA (Nat.lt_succ_self _)) (show b.1 + 1 ≤ (bSet t.2.2.2.2.1 5 b.1 (nI t.2.2.2.1)).1 from a5)) (Frm_rf (e := 0)) (Nat.le_refl _) (by rw [bSet_1]; omega) (Nat.le_refl _) (Or.inl (by rw [bSet_1]; omega)) (Or.inr (Or.inr rfl))))
    · rw [if_neg k15] at g2
      cases g2
      refine ⟨_, _, rfl, rfl, ⟨a1, a2, Nat.le_refl _, a4, by show t.2.2.2.2.1.1 + _ ≤ b.1 + 1 + t.1; omega, by show t.2.2.2.2.1.2.1 + _ ≤ b.2.1 + t.1; omega⟩, fS, by show b.1 < t.2.2.2.2.1.1; omega, ?_, ?_, ?_, fun T' hA => Agr_st hA (Nat.lt_succ_self _), fun T' hA => Or.inl ?_, NS⟩
      · rw [bSet_o (by omega), at0, b4]
      · rw [bSet_o (by omega), at0, b9]
      · rw [bSet_s]
      · rw [bSet_o (by omega), at0, b6]
  obtain ⟨cb, cv, ecb, ecv, ⟨c1, c2, c3, c4, c5, c6⟩, cF, clt, c4', c9, c50, cA, cC, cN⟩ := hC
  rw [ecb, ecv] at hG
  obtain ⟨w1, w2, hG⟩ := hW_s hG
  have u3 := tkN_b T n c.1 c2
  obtain ⟨z, g3, hG⟩ := hb_s hG
  have P2 : PrZ n FN GF (seeN E t.2.2.2.2.2) (o + 1) (tkN T n c.1) cv cb s (d + 1) := ⟨u3.2.1, c4, by omega, by omega, by omega, by omega, p7, EO, cN, p10, by omega⟩
  have B := H0 (seeN E t.2.2.2.2.2) (lp + 1) (o + 1) (tkN T n c.1) cv (nI b.1) 0 0 _ s z (d + 1) P2 (by omega) (fun z => absurd rfl z) g3
  obtain ⟨⟨n1, n2, n3, n4, n5, n6, n7, n8, n9, n10⟩, _⟩ := gs_mo f 0 (seeN E t.2.2.2.2.2) (lp + 1) (o + 1) (tkN T n c.1) cv (nI b.1) 0 0 _ s z 1 (by decide) u3.2.1 c4 p7 g3 (Nat.le_refl 1) (by omega) (fun _ z => absurd rfl z) (fun z => absurd z (by decide))
  obtain ⟨q3, y1, y2, hG⟩ := hE_mo n2 hG
  cases hG
  refine RIn_f (k := m + 1) rfl (fun _ _ _ _ h => h) p6 (by omega) (by omega) (by omega) (by omega) c4 n3 (by omega) (by omega) cF clt c4' c9 (fun T' hA => ?_) cC B
  obtain ⟨el, h1, h2⟩ := hIt T' (cA T' hA)
  have := LS_I (by omega) (by omega) m 0 t.2.2.2.1 el h1 (by rw [h2]; rfl)
  rw [c50]
  rw [Nat.zero_add] at this
  exact this
/-- all of them -/
theorem x_all (hn : n ≤ 32768) (hT : ∀ i, i < n → ∃ d, d ≤ 300 ∧ T i = nI d) : ∀ f, XB0 T n FN GF MD f ∧ XS1 T n FN GF MD f ∧ XIn T n FN GF MD 2 39 f ∧ XB3 T n FN GF MD f ∧ XIn T n FN GF MD 4 43 f ∧ XIn T n FN GF MD 5 45 f := by
  intro f
  induction f with
  | zero =>
    refine ⟨fun E lp o q v pe i l b s r d _ _ _ hG => ?_, fun E lp o q v b s r d _ hG => ?_, fun E lp o q v b s r d _ _ _ hG => ?_, fun E lp o q v i l b s r d v0 _ _ _ _ hG => ?_, fun E lp o q v b s r d _ _ _ hG => ?_, fun E lp o q v b s r d _ _ _ hG => ?_⟩ <;> (simp only [GS] at hG; cases hG)
  | succ f ih =>
    obtain ⟨h0, h1, h2, h3, h4, h5⟩ := ih
    exact ⟨xb0_s h1 h0, xs1_s hn hT h2 h4 h5, xi2_s h0 h3, xb3_s hT h0 h3, xw4_s hT h0, xf5_s hT h0⟩
end GSX
end JnS327
section JnS328
variable {yf : Nat × Nat}
/-! Declarations: variables and params are slots that count. -/
/-- variables of the program: slots below v that count -/
def GlF (E : En) (v : Nat) (b : BT) : Prop := ∀ x ∈ E.1, x.2.2.1 = 1 → x.2.2.2 < v ∧ b.2.2.2.2 x.2.2.2 = 1
section DCL
variable {T : Nat → Int32} {n : Nat} {GF : Nat → Prop}
theorem pT_s {β : Type} {q : Nat} {k : Nat → Option (Fl β)} {r : β} (h : pT T n q k = some (Sum.inr r)) : ¬ tkK T n (tkN T n q) = 0 ∧ k (tkN T n q) = some (Sum.inr r) := by
  rcases pT_any h with ⟨_, y⟩ | y
  · cases y
  · exact y
theorem pW_s {β : Type} {t q : Nat} {k : Nat → Option (Fl β)} {r : β} (h : pW T n t q k = some (Sum.inr r)) : tkK T n q = t ∧ ¬ tkK T n (tkN T n q) = 0 ∧ k (tkN T n q) = some (Sum.inr r) := by
  rcases pW_any h with ⟨_, y⟩ | ⟨y, h⟩
  · cases y
  · exact ⟨y.1, y.2, h⟩
theorem pb_s {α β : Type} {x : Option (Fl α)} {k : α → Option (Fl β)} {r : β} (h : pb x k = some (Sum.inr r)) : ∃ s, x = some (Sum.inr s) ∧ k s = some (Sum.inr r) := by
  rcases pb_any h with ⟨yf, _, y⟩ | y
  · cases y
  · exact y
theorem Frm_tl {E : En} {q v : Nat} {b : BT} : Frm E.2.2.2.1 v b 0 (bTl T n E q v b) := Frm_tr (Frm_slot (vv := v)) (Frm_keep (vv := v)) (Nat.le_refl _) (Or.inl rfl)
/-- variables of the program -/
theorem gvr_g : ∀ (f : Nat) (E : En) (q v : Nat) (b : BT) (r : DV), E.2.2.2.1 = 0 → GVr T n f E q v b = some (Sum.inr r) → GlF E v b → GlF r.2.1 r.2.2.1 r.2.2.2 ∧ (∀ x ∈ E.1, x ∈ r.2.1.1) ∧ Frm 0 v b 0 r.2.2.2 ∧ v ≤ r.2.2.1 := by
  intro f
  induction f with
  | zero => intro E q v b r _ hG; cases hG
  | succ f ih =>
    intro E q v b r h0 hG hF
    rw [GVr, if_pos h0] at hG
    rcases gTe_any hG with ⟨_, y⟩ | ⟨⟨⟨k, _, v6⟩, t⟩, hG⟩
    · cases y
    have F1 : Frm 0 v b 0 (bTl T n E q v b) := by have := Frm_tl (T := T) (n := n) (E := E) (q := q) (v := v) (b := b); rw [h0] at this; exact this
    have G1 : GlF (eTe T n E q v b) (v + 1) (bTl T n E q v b) := fun x hx hk => by
      rcases List.mem_append.mp (show x ∈ E.1 ++ [(tkS T n q, b.2.1, 1, v)] from hx) with z | z
      · obtain ⟨a1, a2⟩ := hF x z hk
        refine ⟨by omega, ?_⟩
        have := F1.2.2.2.2 x.2.2.2 a1
        rw [Nat.mul_zero, Nat.zero_add] at this
        exact this.trans a2
      · rw [List.mem_singleton.mp z]
        refine ⟨Nat.lt_succ_self _, ?_⟩
        show upd b.2.2.2.2 (60 * E.2.2.2.1 + v) 1 v = 1
        rw [h0, Nat.mul_zero, Nat.zero_add, upd_same]
    by_cases c : tkK T n (tkN T n q) = 12
    · rw [if_pos c] at hG
      obtain ⟨_, hG⟩ := pT_s hG
      obtain ⟨a1, a2, a3, a4⟩ := ih _ _ _ _ _ (show (eTe T n E q v b).2.2.2.1 = 0 from h0) hG G1
      have a4 : v + 1 ≤ r.2.2.1 := a4
      exact ⟨a1, fun x hx => a2 x (List.mem_append_left _ hx), Frm_tr F1 a3 (Nat.le_succ _) (Or.inl rfl), by omega⟩
    · rw [if_neg c] at hG
      obtain ⟨_, _, hG⟩ := pW_s hG
      cases hG
      exact ⟨G1, fun x hx => List.mem_append_left _ hx, F1, Nat.le_succ _⟩
theorem NmC_tl {E : En} {q v : Nat} {b : BT} (hv : v < 60) (h : NmC E.2.2.2.1 v b GF E) : NmC E.2.2.2.1 (v + 1) (bTl T n E q v b) GF (eTl T n E q v b) := by
  refine ⟨fun x hx => ?_, h.2⟩
  rcases List.mem_append.mp (show x ∈ [(tkS T n q, b.2.1, v)] ++ E.2.1 from hx) with z | z
  · rw [List.mem_singleton.mp z]
    exact ⟨Nat.lt_succ_self _, hv, upd_same⟩
  · exact (NmC_fr h (Frm_tl (T := T) (n := n) (q := q)) (Nat.le_succ _)).1 x z
/-- variables of a proc -/
theorem gvr_l : ∀ (f : Nat) (E : En) (q v : Nat) (b : BT) (r : DV), ¬ E.2.2.2.1 = 0 → v ≤ 60 → GVr T n f E q v b = some (Sum.inr r) → NmC E.2.2.2.1 v b GF E → NmC E.2.2.2.1 r.2.2.1 r.2.2.2 GF r.2.1 ∧ Frm E.2.2.2.1 v b 0 r.2.2.2 ∧ v ≤ r.2.2.1 ∧ r.2.2.1 ≤ 60 := by
  intro f
  induction f with
  | zero => intro E q v b r _ _ hG; cases hG
  | succ f ih =>
    intro E q v b r h0 hv hG hN
    rw [GVr, if_neg h0] at hG
    rcases gTl_any hG with ⟨_, y⟩ | ⟨⟨⟨k, _, v6⟩, t⟩, hG⟩
    · cases y
    have N1 := NmC_tl (T := T) (n := n) (q := q) (show v < 60 by omega) hN
    by_cases c : tkK T n (tkN T n q) = 12
    · rw [if_pos c] at hG
      obtain ⟨_, hG⟩ := pT_s hG
      obtain ⟨a1, a2, a3, a4⟩ := ih _ _ _ _ _ (show ¬ (eTl T n E q v b).2.2.2.1 = 0 from h0) (show v + 1 ≤ 60 by omega) hG N1
      have a3 : v + 1 ≤ r.2.2.1 := a3
      exact ⟨a1, Frm_tr (Frm_tl (T := T) (n := n) (q := q)) a2 (Nat.le_succ _) (Or.inl rfl), by omega, a4⟩
    · rw [if_neg c] at hG
      obtain ⟨_, _, hG⟩ := pW_s hG
      cases hG
      exact ⟨N1, Frm_tl, Nat.le_succ _, by show v + 1 ≤ 60; omega⟩
theorem gvs_l : ∀ (f : Nat) (E : En) (q v : Nat) (b : BT) (r : DV), q ≤ n → ¬ E.2.2.2.1 = 0 → v ≤ 60 → GVs T n f E q v b = some (Sum.inr r) → NmC E.2.2.2.1 v b GF E → NmC E.2.2.2.1 r.2.2.1 r.2.2.2 GF r.2.1 ∧ Frm E.2.2.2.1 v b 0 r.2.2.2 ∧ v ≤ r.2.2.1 ∧ r.2.2.1 ≤ 60 := by
  intro f
  induction f with
  | zero => intro E q v b r _ _ _ hG; cases hG
  | succ f ih =>
    intro E q v b r hq h0 hv hG hN
    rw [GVs] at hG
    by_cases c : tkK T n q = 32
    · rw [if_pos c] at hG
      obtain ⟨s, g1, hG⟩ := pb_s hG
      obtain ⟨_, g1⟩ := pT_s g1
      have hN1 := tkN_b T n q hq
      obtain ⟨a1, a2, a3, a4⟩ := gvr_l _ _ _ _ _ _ h0 hv g1 hN
      obtain ⟨_, m2, _, _, _, _, _, m8, _⟩ := gvr_mo _ _ _ _ _ _ hN1.2.1 hv g1
      have u : s.2.1.2.2.2.1 = E.2.2.2.1 := by rw [m8]
      rw [← u] at a1
      obtain ⟨b1, b2, b3, b4⟩ := ih _ _ _ _ _ m2 (by rw [u]; exact h0) a4 hG a1
      rw [u] at b1 b2
      exact ⟨b1, Frm_tr a2 b2 a3 (Or.inl rfl), by omega, b4⟩
    · rw [if_neg c] at hG
      cases hG
      exact ⟨hN, Frm_rf, Nat.le_refl _, hv⟩
/-- params -/
theorem gpm_l {pr : Bool} {p : Nat} : ∀ (f : Nat) (E : En) (c : Nat) (md : Nat → Nat) (q v : Nat) (b : BT) (r : PV6), GPm T n pr p f E c md q v b = some (Sum.inr r) → q ≤ n → v ≤ 60 → c = v → c ≤ 8 → NmC E.2.2.2.1 v b GF E → (∀ s, s < v → b.2.2.2.2 (60 * E.2.2.2.1 + s) = 1) → (∀ s, s < v → md s ≤ 2) → NmC E.2.2.2.1 r.2.2.2.2.1 r.2.2.2.2.2 GF r.2.1 ∧ Frm E.2.2.2.1 v b 0 r.2.2.2.2.2 ∧ (r.2.2.1 = r.2.2.2.2.1 ∧ r.2.2.1 ≤ 8) ∧ (∀ s, s < r.2.2.2.2.1 → r.2.2.2.2.2.2.2.2.2 (60 * E.2.2.2.1 + s) = 1) ∧ (∀ s, s < r.2.2.2.2.1 → r.2.2.2.1 s ≤ 2) ∧ r.2.1.2.2.2.2.1 = E.2.2.2.2.1 ∧ r.2.1.2.2.2.2.2.1 = E.2.2.2.2.2.1 ∧ v ≤ r.2.2.2.2.1 := by
  intro f
  induction f with
  | zero => intro E c md q v b r hG; cases hG
  | succ f ih =>
    intro E c md q v b r hG hq hv hc hc8 hN hs hm
    have hN1 := tkN_b T n q hq
    rw [GPm] at hG
    have fin : (some (Sum.inr (q, E, c, md, v, b)) : Option (Fl PV6)) = some (Sum.inr r) → NmC E.2.2.2.1 r.2.2.2.2.1 r.2.2.2.2.2 GF r.2.1 ∧ Frm E.2.2.2.1 v b 0 r.2.2.2.2.2 ∧ (r.2.2.1 = r.2.2.2.2.1 ∧ r.2.2.1 ≤ 8) ∧ (∀ s, s < r.2.2.2.2.1 → r.2.2.2.2.2.2.2.2.2 (60 * E.2.2.2.1 + s) = 1) ∧ (∀ s, s < r.2.2.2.2.1 → r.2.2.2.1 s ≤ 2) ∧ r.2.1.2.2.2.2.1 = E.2.2.2.2.1 ∧ r.2.1.2.2.2.2.2.1 = E.2.2.2.2.2.1 ∧ v ≤ r.2.2.2.2.1 := fun hx => by
      cases hx
      exact ⟨hN, Frm_rf, ⟨hc, hc8⟩, hs, hm, rfl, rfl, Nat.le_refl _⟩
    have it : ∀ q1 : Nat, q1 ≤ n → gPI T n pr E c q1 v b (fun m r => GPm T n pr p f (sP r.2.1 p (c + 1)) (c + 1) (updN md c m) r.1 r.2.2.1 r.2.2.2) = some (Sum.inr r) → NmC E.2.2.2.1 r.2.2.2.2.1 r.2.2.2.2.2 GF r.2.1 ∧ Frm E.2.2.2.1 v b 0 r.2.2.2.2.2 ∧ (r.2.2.1 = r.2.2.2.2.1 ∧ r.2.2.1 ≤ 8) ∧ (∀ s, s < r.2.2.2.2.1 → r.2.2.2.2.2.2.2.2.2 (60 * E.2.2.2.1 + s) = 1) ∧ (∀ s, s < r.2.2.2.2.1 → r.2.2.2.1 s ≤ 2) ∧ r.2.1.2.2.2.2.1 = E.2.2.2.2.1 ∧ r.2.1.2.2.2.2.2.1 = E.2.2.2.2.2.1 ∧ v ≤ r.2.2.2.2.1 := by
      intro q1 h2 hx
      have h8 : ¬ c = 8 := fun z => by
        unfold gPI gPJ at hx
        by_cases w : pr = true ∧ (tkK T n q1 = 35 ∨ tkK T n q1 = 36 ∨ tkK T n q1 = 37)
        · rw [if_pos w] at hx
          obtain ⟨_, hx⟩ := pT_s hx
          rw [if_pos z] at hx; cases hx
        · rw [if_neg w, if_pos z] at hx; cases hx
      obtain ⟨m, q2, k1, k2, k3, k4, hy⟩ := gPI_any h2 hx
      have hN2 := tkN_b T n q2 k3
      have v6 : ¬ v = 60 := k4.2.2
      have F1 : Frm E.2.2.2.1 v b 0 (bTl T n E q2 v b) := Frm_tl
      obtain ⟨a1, a2, a3, a4, a5, a6, a7, a8⟩ := ih (sP (eTl T n E q2 v b) p (c + 1)) (c + 1) (updN md c m) (tkN T n q2) (v + 1) (bTl T n E q2 v b) r hy hN2.2.1 (by omega) (by omega) (by omega) (NmC_tl (T := T) (n := n) (q := q2) (by omega) hN) (fun s h => by
        by_cases e : s = v
        · rw [e]; exact upd_same
        · exact (F1.2.2.2.2 s (by omega)).trans (hs s (by omega))) (fun s h => by
        by_cases e : s = c
        · rw [e, updN_s]; exact k1
        · rw [updN_o e]; exact hm s (by omega))
      exact ⟨a1, Frm_tr F1 a2 (Nat.le_succ _) (Or.inl rfl), a3, a4, a5, a6, a7, by omega⟩
    by_cases c0 : c = 0
    · rw [if_pos c0] at hG
      by_cases z : tkK T n q = 7
      · rw [if_pos z] at hG; exact fin hG
      · rw [if_neg z] at hG; exact it q hq hG
    · rw [if_neg c0] at hG
      by_cases z : tkK T n q = 12
      · rw [if_pos z] at hG
        obtain ⟨_, hG⟩ := pT_s hG
        exact it _ hN1.2.1 hG
      · rw [if_neg z] at hG
        by_cases y : tkK T n q = 7
        · rw [if_pos y] at hG; exact fin hG
        · rw [if_neg y] at hG; cases hG
end DCL
end JnS328

/-! The set of statements: what the kind of each asks, out of what the grammar lays. -/
/-- what the kind of a statement asks -/
def KdO (T : Nat → Nat → Int32) (FN : Nat → Nat → Prop) (S : Nat → Nat → Nat → Nat → Prop) (un d v n : Nat) : Prop :=
  (T 4 n = 48 → d ≤ 19 ∧ FoN T FN S un d v n) ∧
  (T 4 n = 45 → CaN T FN un n) ∧
  (T 4 n = 44 → ∃ a s, T 5 n = nI a ∧ NmW T (lcU un T) (cnU un T) a s) ∧
  (T 4 n = 46 → ∃ q, BrL T FN S un d v n (q + 1) (T 5 n)) ∧
  ((T 4 n = 40 ∨ T 4 n = 41) → ∃ k ch s, T 5 n = nI (ch k) ∧ Tgt T FN (lcU un T) k ch ∧ NmW T (lcU un T) (cnU un T) (ch 0) s ∧ kys T ch k + 10 + KBn T ≤ 17000 ∧ Wx0 T FN (lcU un T) (T 6 n)) ∧
  (T 4 n = 42 → ∃ q KK, KK + 12 + KBn T ≤ 17000 ∧ q ≤ 20000 ∧ TgL T FN (lcU un T) (cnU un T) q KK (T 5 n) ∧ Wx0 T FN (lcU un T) (T 6 n)) ∧
  (T 4 n = 43 → ∃ ka kb sa sb cha chb, Tgt T FN (lcU un T) ka cha ∧ NmW T (lcU un T) (cnU un T) (cha 0) sa ∧ Tgt T FN (lcU un T) kb chb ∧ NmW T (lcU un T) (cnU un T) (chb 0) sb ∧ T 5 n = nI (cha ka) ∧ T 6 n = nI (chb kb) ∧ kys T cha ka + kys T chb kb + 14 + KBn T ≤ 17000) ∧
  (T 4 n = 45 → ∀ pr np, T 7 n = nI pr → pr < 41 → T 18 pr = nI np → np ≤ 8 → (∀ i, i < np → ¬ T 20 (60 * (1 + pr) + i) = 0) ∧ (T 17 pr = -1 ∨ ∃ b v', T 17 pr = nI b ∧ S (1 + pr) 0 v' b)) ∧
  (T 4 n = 47 → Wx0 T FN (lcU un T) (T 5 n) ∧ BdE T S un d v n (T 6 n)) ∧
  ((T 4 n = 49 ∨ T 4 n = 50) → hlp T d n) ∧
  (T 4 n = 51 → ¬ un = 0 ∧ (T 5 n = -1 ∨ Wx0 T FN (lcU un T) (T 5 n))) ∧
  (T 4 n = 52 → ∃ q, q + 9 + KBn T ≤ 17000 ∧ ExL T FN (lcU un T) q (T 5 n)) ∧
  (T 4 n = 53 → Wx0 T FN (lcU un T) (T 5 n))
/-- what stands behind it -/
def NxO (T : Nat → Nat → Int32) (S : Nat → Nat → Nat → Nat → Prop) (un d v n : Nat) : Prop := T 9 n = -1 ∨ ∃ n' v', T 9 n = nI n' ∧ S un d v' n' ∧ v ≤ v' ∧ upN T n' = upN T n
/-- what it lies in -/
def UpO (T : Nat → Nat → Int32) (S : Nat → Nat → Nat → Nat → Prop) (un d v : Nat) (pe : Int32) : Prop := (pe = -1 ∧ d = 0) ∨ ∃ m d' v', pe = nI m ∧ d = d' + 1 ∧ S un d' v' m ∧ v' + (if T 4 m = 48 then itn T m else 0) ≤ v ∧ (T 4 m = 46 ∨ T 4 m = 47 ∨ T 4 m = 48)
/-- a statement in its place -/
def SOk (T : Nat → Nat → Int32) (FN : Nat → Nat → Prop) (S : Nat → Nat → Nat → Nat → Prop) (un d v n : Nat) : Prop := (((1 ≤ n ∧ n < LNo T % 70001) ∧ v ≤ 60 ∧ d ≤ 20 ∧ un ≤ 41) ∧ (∃ p, T 8 n = nI p ∧ p < SNo T % 402) ∧ NxO T S un d v n ∧ UpO T S un d v (upN T n)) ∧ KdO T FN S un d v n
theorem SW_of {T : Nat → Nat → Int32} {FN : Nat → Nat → Prop} {S : Nat → Nat → Nat → Nat → Prop} (h : ∀ un d v n, S un d v n → SOk T FN S un d v n) : SWf T FN S ∧ SWk T FN S := by
  refine ⟨fun un d v n hS => ?_, fun un d v n hS => ?_, fun un d v n hS => ?_⟩
  · obtain ⟨⟨p1, p2, p3, p4⟩, k48, k45, _⟩ := h un d v n hS
    exact ⟨p1, p2, p3, p4, k48, k45⟩
  · obtain ⟨_, _, _, k44, k46, _⟩ := h un d v n hS
    exact ⟨k44, k46⟩
  · obtain ⟨_, _, _, _, _, k⟩ := h un d v n hS
    exact k
/-- the table of a proc -/
def PcO (T : Nat → Nat → Int32) (S : Nat → Nat → Nat → Nat → Prop) (p np : Nat) (md : Nat → Nat) : Prop := p < CNo T % 42 ∧ T 18 p = nI np ∧ np ≤ 8 ∧ (∃ ns, T 21 (1 + p) = nI ns ∧ ns ≤ 60 ∧ ∀ s, ns ≤ s → s < 60 → T 20 (60 * (1 + p) + s) = 0) ∧ (∀ i, i < np → ¬ T 20 (60 * (1 + p) + i) = 0) ∧ (T 17 p = -1 ∨ ∃ b v', T 17 p = nI b ∧ S (1 + p) 0 v' b) ∧ ∀ j, j < np → md j ≤ 2 ∧ T 19 (8 * p + j) = nI (md j)
/-- the tables of the procs that are seen -/
def TbO (T : Nat → Nat → Int32) (S : Nat → Nat → Nat → Nat → Prop) (E : En) (MD : Nat → Nat → Nat) : Prop := ∀ x ∈ E.1, x.2.2.1 = 3 → PcO T S x.2.2.2 (E.2.2.2.2.2.2 x.2.2.2) (MD x.2.2.2)
/-- a statement without parts, as it is laid -/
def QSt (FN : Nat → Nat → Prop) (E : En) (MD : Nat → Nat → Nat) (lp n ks : Nat) (T' : Nat → Nat → Int32) : Prop := QBg FN E MD n ks T' ∨ QPt FN E.2.2.2.1 n ks T' ∨ QSm FN E.2.2.2.1 lp n ks T'
section KDO
variable {T : Nat → Nat → Int32} {FN : Nat → Nat → Prop} {S : Nat → Nat → Nat → Nat → Prop} {E : En} {MD : Nat → Nat → Nat} {un d v n ks lp : Nat}
theorem Kd_as (hA : ks + KBn T + 14 ≤ 17000) (h : QAs FN un n ks T) : KdO T FN S un d v n := by
  obtain ⟨h4, k, ch, s, x5, hT, hN, hk, h6⟩ := h
  have no : ∀ j : Int32, (j ≠ 40 ∧ j ≠ 41) → T 4 n = j → False := fun j hj z => h4.elim (fun y => hj.1 (z.symm.trans y)) (fun y => hj.2 (z.symm.trans y))
  exact ⟨fun z => (no _ (by decide) z).elim, fun z => (no _ (by decide) z).elim, fun z => (no _ (by decide) z).elim, fun z => (no _ (by decide) z).elim, fun _ => ⟨k, ch, s, x5, hT, hN, by omega, h6⟩, fun z => (no _ (by decide) z).elim, fun z => (no _ (by decide) z).elim, fun z => (no _ (by decide) z).elim, fun z => (no _ (by decide) z).elim, fun z => z.elim (fun z => (no _ (by decide) z).elim) (fun z => (no _ (by decide) z).elim), fun z => (no _ (by decide) z).elim, fun z => (no _ (by decide) z).elim, fun z => (no _ (by decide) z).elim⟩
theorem Kd_pt (hA : ks + KBn T + 14 ≤ 17000) (h : QPt FN un n ks T) : KdO T FN S un d v n := by
  obtain ⟨h4, q, hq, hL, h6⟩ := h
  have no : ∀ j : Int32, j ≠ 42 → T 4 n = j → False := fun j hj z => hj (z.symm.trans h4)
  exact ⟨fun z => (no _ (by decide) z).elim, fun z => (no _ (by decide) z).elim, fun z => (no _ (by decide) z).elim, fun z => (no _ (by decide) z).elim, fun z => z.elim (fun z => (no _ (by decide) z).elim) (fun z => (no _ (by decide) z).elim), fun _ => ⟨q, ks, by omega, hq, hL, h6⟩, fun z => (no _ (by decide) z).elim, fun z => (no _ (by decide) z).elim, fun z => (no _ (by decide) z).elim, fun z => z.elim (fun z => (no _ (by decide) z).elim) (fun z => (no _ (by decide) z).elim), fun z => (no _ (by decide) z).elim, fun z => (no _ (by decide) z).elim, fun z => (no _ (by decide) z).elim⟩
theorem Kd_fr (hA : ks + KBn T + 14 ≤ 17000) (h : QFr FN un n ks T) : KdO T FN S un d v n := by
  obtain ⟨h4, ka, kb, sa, sb, cha, chb, t1, n1, t2, n2, x5, x6, hk⟩ := h
  have no : ∀ j : Int32, j ≠ 43 → T 4 n = j → False := fun j hj z => hj (z.symm.trans h4)
  exact ⟨fun z => (no _ (by decide) z).elim, fun z => (no _ (by decide) z).elim, fun z => (no _ (by decide) z).elim, fun z => (no _ (by decide) z).elim, fun z => z.elim (fun z => (no _ (by decide) z).elim) (fun z => (no _ (by decide) z).elim), fun z => (no _ (by decide) z).elim, fun _ => ⟨ka, kb, sa, sb, cha, chb, t1, n1, t2, n2, x5, x6, by omega⟩, fun z => (no _ (by decide) z).elim, fun z => (no _ (by decide) z).elim, fun z => z.elim (fun z => (no _ (by decide) z).elim) (fun z => (no _ (by decide) z).elim), fun z => (no _ (by decide) z).elim, fun z => (no _ (by decide) z).elim, fun z => (no _ (by decide) z).elim⟩
theorem Kd_ok (h : QOk un n T) : KdO T FN S un d v n := by
  obtain ⟨h4, a, s, x5, hn⟩ := h
  have no : ∀ j : Int32, j ≠ 44 → T 4 n = j → False := fun j hj z => hj (z.symm.trans h4)
  exact ⟨fun z => (no _ (by decide) z).elim, fun z => (no _ (by decide) z).elim, fun _ => ⟨a, s, x5, hn⟩, fun z => (no _ (by decide) z).elim, fun z => z.elim (fun z => (no _ (by decide) z).elim) (fun z => (no _ (by decide) z).elim), fun z => (no _ (by decide) z).elim, fun z => (no _ (by decide) z).elim, fun z => (no _ (by decide) z).elim, fun z => (no _ (by decide) z).elim, fun z => z.elim (fun z => (no _ (by decide) z).elim) (fun z => (no _ (by decide) z).elim), fun z => (no _ (by decide) z).elim, fun z => (no _ (by decide) z).elim, fun z => (no _ (by decide) z).elim⟩
theorem Kd_ca {p np : Nat} {md : Nat → Nat} {tg : Int32} (hC : ks ≤ KBn T ∧ ks ≤ 17000) (hP : PcO T S p np md) (htg : tg = -1 ∨ ∃ k ch s, tg = nI (ch k) ∧ Tgt T FN (lcU un T) k ch ∧ NmW T (lcU un T) (cnU un T) (ch 0) s ∧ kys T ch k ≤ ks) (h : QCa FN un n p np ks md tg T) : KdO T FN S un d v n := by
  obtain ⟨h4, x7, x5, hL⟩ := h
  obtain ⟨p1, p2, p3, ⟨ns, p4, p5, p6⟩, p7, p8, p9⟩ := hP
  have no : ∀ j : Int32, j ≠ 45 → T 4 n = j → False := fun j hj z => hj (z.symm.trans h4)
  refine ⟨fun z => (no _ (by decide) z).elim, fun _ => ⟨p, np, ns, p1, x7, p2, p3, p4, p5, p6, hL hC p9, ?_⟩, fun z => (no _ (by decide) z).elim, fun z => (no _ (by decide) z).elim, fun z => z.elim (fun z => (no _ (by decide) z).elim) (fun z => (no _ (by decide) z).elim), fun z => (no _ (by decide) z).elim, fun z => (no _ (by decide) z).elim, fun _ pr np' e7 hpr e18 hnp => ?_, fun z => (no _ (by decide) z).elim, fun z => z.elim (fun z => (no _ (by decide) z).elim) (fun z => (no _ (by decide) z).elim), fun z => (no _ (by decide) z).elim, fun z => (no _ (by decide) z).elim, fun z => (no _ (by decide) z).elim⟩
  · rw [x5]
    refine htg.imp id (fun z => ?_)
    obtain ⟨k, ch, s, c1, c2, c3, c4⟩ := z
    exact ⟨k, ch, s, c1, c2, c3, by omega, by omega⟩
  · have e1 : pr = p := (n_eq (by omega) (by omega)).mp (e7.symm.trans x7)
    subst e1
    have e2 : np' = np := (n_eq (by omega) (by omega)).mp (e18.symm.trans p2)
    subst e2
    exact ⟨p7, p8⟩
theorem Kd_sm (hA : ks + KBn T + 14 ≤ 17000) (hl : ¬ lp = 0 → hlp T d n) (h : QSm FN un lp n ks T) : KdO T FN S un d v n := by
  rcases h with ⟨h4, hp⟩ | ⟨h4, h5⟩ | ⟨h4, h5⟩ | ⟨h4, h5⟩ | h4 | h4 | h4
  · have no : ∀ j : Int32, (j ≠ 49 ∧ j ≠ 50) → T 4 n = j → False := fun j hj z => h4.elim (fun y => hj.1 (z.symm.trans y)) (fun y => hj.2 (z.symm.trans y))
    exact ⟨fun z => (no _ (by decide) z).elim, fun z => (no _ (by decide) z).elim, fun z => (no _ (by decide) z).elim, fun z => (no _ (by decide) z).elim, fun z => z.elim (fun z => (no _ (by decide) z).elim) (fun z => (no _ (by decide) z).elim), fun z => (no _ (by decide) z).elim, fun z => (no _ (by decide) z).elim, fun z => (no _ (by decide) z).elim, fun z => (no _ (by decide) z).elim, fun _ => hl hp, fun z => (no _ (by decide) z).elim, fun z => (no _ (by decide) z).elim, fun z => (no _ (by decide) z).elim⟩
  · have no : ∀ j : Int32, j ≠ 51 → T 4 n = j → False := fun j hj z => hj (z.symm.trans h4)
    exact ⟨fun z => (no _ (by decide) z).elim, fun z => (no _ (by decide) z).elim, fun z => (no _ (by decide) z).elim, fun z => (no _ (by decide) z).elim, fun z => z.elim (fun z => (no _ (by decide) z).elim) (fun z => (no _ (by decide) z).elim), fun z => (no _ (by decide) z).elim, fun z => (no _ (by decide) z).elim, fun z => (no _ (by decide) z).elim, fun z => (no _ (by decide) z).elim, fun z => z.elim (fun z => (no _ (by decide) z).elim) (fun z => (no _ (by decide) z).elim), fun _ => h5, fun z => (no _ (by decide) z).elim, fun z => (no _ (by decide) z).elim⟩
  · have no : ∀ j : Int32, j ≠ 52 → T 4 n = j → False := fun j hj z => hj (z.symm.trans h4)
    exact ⟨fun z => (no _ (by decide) z).elim, fun z => (no _ (by decide) z).elim, fun z => (no _ (by decide) z).elim, fun z => (no _ (by decide) z).elim, fun z => z.elim (fun z => (no _ (by decide) z).elim) (fun z => (no _ (by decide) z).elim), fun z => (no _ (by decide) z).elim, fun z => (no _ (by decide) z).elim, fun z => (no _ (by decide) z).elim, fun z => (no _ (by decide) z).elim, fun z => z.elim (fun z => (no _ (by decide) z).elim) (fun z => (no _ (by decide) z).elim), fun z => (no _ (by decide) z).elim, fun _ => ⟨ks, by omega, h5⟩, fun z => (no _ (by decide) z).elim⟩
  · have no : ∀ j : Int32, j ≠ 53 → T 4 n = j → False := fun j hj z => hj (z.symm.trans h4)
    exact ⟨fun z => (no _ (by decide) z).elim, fun z => (no _ (by decide) z).elim, fun z => (no _ (by decide) z).elim, fun z => (no _ (by decide) z).elim, fun z => z.elim (fun z => (no _ (by decide) z).elim) (fun z => (no _ (by decide) z).elim), fun z => (no _ (by decide) z).elim, fun z => (no _ (by decide) z).elim, fun z => (no _ (by decide) z).elim, fun z => (no _ (by decide) z).elim, fun z => z.elim (fun z => (no _ (by decide) z).elim) (fun z => (no _ (by decide) z).elim), fun z => (no _ (by decide) z).elim, fun z => (no _ (by decide) z).elim, fun _ => h5⟩
  · have no : ∀ j : Int32, j ≠ 54 → T 4 n = j → False := fun j hj z => hj (z.symm.trans h4)
    exact ⟨fun z => (no _ (by decide) z).elim, fun z => (no _ (by decide) z).elim, fun z => (no _ (by decide) z).elim, fun z => (no _ (by decide) z).elim, fun z => z.elim (fun z => (no _ (by decide) z).elim) (fun z => (no _ (by decide) z).elim), fun z => (no _ (by decide) z).elim, fun z => (no _ (by decide) z).elim, fun z => (no _ (by decide) z).elim, fun z => (no _ (by decide) z).elim, fun z => z.elim (fun z => (no _ (by decide) z).elim) (fun z => (no _ (by decide) z).elim), fun z => (no _ (by decide) z).elim, fun z => (no _ (by decide) z).elim, fun z => (no _ (by decide) z).elim⟩
  · have no : ∀ j : Int32, j ≠ 55 → T 4 n = j → False := fun j hj z => hj (z.symm.trans h4)
    exact ⟨fun z => (no _ (by decide) z).elim, fun z => (no _ (by decide) z).elim, fun z => (no _ (by decide) z).elim, fun z => (no _ (by decide) z).elim, fun z => z.elim (fun z => (no _ (by decide) z).elim) (fun z => (no _ (by decide) z).elim), fun z => (no _ (by decide) z).elim, fun z => (no _ (by decide) z).elim, fun z => (no _ (by decide) z).elim, fun z => (no _ (by decide) z).elim, fun z => z.elim (fun z => (no _ (by decide) z).elim) (fun z => (no _ (by decide) z).elim), fun z => (no _ (by decide) z).elim, fun z => (no _ (by decide) z).elim, fun z => (no _ (by decide) z).elim⟩
  · have no : ∀ j : Int32, j ≠ 56 → T 4 n = j → False := fun j hj z => hj (z.symm.trans h4)
    exact ⟨fun z => (no _ (by decide) z).elim, fun z => (no _ (by decide) z).elim, fun z => (no _ (by decide) z).elim, fun z => (no _ (by decide) z).elim, fun z => z.elim (fun z => (no _ (by decide) z).elim) (fun z => (no _ (by decide) z).elim), fun z => (no _ (by decide) z).elim, fun z => (no _ (by decide) z).elim, fun z => (no _ (by decide) z).elim, fun z => (no _ (by decide) z).elim, fun z => z.elim (fun z => (no _ (by decide) z).elim) (fun z => (no _ (by decide) z).elim), fun z => (no _ (by decide) z).elim, fun z => (no _ (by decide) z).elim, fun z => (no _ (by decide) z).elim⟩
/-- a statement without parts -/
theorem Kd_st (hT : TbO T S E MD) (hC : T 4 n = 45 → ks ≤ KBn T ∧ ks ≤ 17000) (hA : ¬ T 4 n = 45 → ks + KBn T + 14 ≤ 17000) (hl : ¬ lp = 0 → hlp T d n) (h : QSt FN E MD lp n ks T) : KdO T FN S E.2.2.2.1 d v n := by
  have a : ∀ {k : Int32}, T 4 n = k → k ≠ 45 → ks + KBn T + 14 ≤ 17000 := fun h4 hk => hA (fun z => hk (h4.symm.trans z))
  rcases h with (h | h | h | ⟨bs, tg, h3, h, htg⟩) | h | h
  · exact Kd_as (h.1.elim (fun z => a z (by decide)) (fun z => a z (by decide))) h
  · exact Kd_fr (a h.1 (by decide)) h
  · exact Kd_ok h
  · obtain ⟨x, hx, x3, xe⟩ := fd_3 h3
    have hP := hT x hx x3
    rw [xe] at hP
    exact Kd_ca (hC h.1) hP htg h
  · exact Kd_pt (a h.1 (by decide)) h
  · refine Kd_sm ?_ hl h
    rcases h with ⟨h4, _⟩ | ⟨h4, _⟩ | ⟨h4, _⟩ | ⟨h4, _⟩ | h4 | h4 | h4
    · exact h4.elim (fun z => a z (by decide)) (fun z => a z (by decide))
    · exact a h4 (by decide)
    · exact a h4 (by decide)
    · exact a h4 (by decide)
    · exact a h4 (by decide)
    · exact a h4 (by decide)
    · exact a h4 (by decide)
/-- there is a loop around, by what it lies in -/
def hlq (T : Nat → Nat → Int32) : Nat → Int32 → Prop
  | 0, _ => False
  | d + 1, x => T 4 x.toNatClampNeg = 47 ∨ T 4 x.toNatClampNeg = 48 ∨ hlp T d x.toNatClampNeg
theorem hlp_q (h : hlq T d (upN T n)) : hlp T d n := by
  cases d with
  | zero => exact h
  | succ d => exact h
theorem hlq_in {m : Nat} (hm : m < 2147483648) (h : T 4 m = 47 ∨ T 4 m = 48 ∨ hlp T d m) : hlq T (d + 1) (nI m) := by
  show T 4 (nI m).toNatClampNeg = 47 ∨ T 4 (nI m).toNatClampNeg = 48 ∨ hlp T d (nI m).toNatClampNeg
  rw [n_cl (p := m) hm]; exact h
theorem UpO_v {pe : Int32} {v' : Nat} (h : UpO T S un d v pe) (hv : v ≤ v') : UpO T S un d v' pe := by
  refine h.imp id (fun z => ?_)
  obtain ⟨m, d', w, z1, z2, z3, z4, z5⟩ := z
  exact ⟨m, d', w, z1, z2, z3, by omega, z5⟩
end KDO

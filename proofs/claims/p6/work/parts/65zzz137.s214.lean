/-! Evaluation on both sides (reference): iterators are opened. -/
section AND
variable {g1 g2 : Nat → Option (Int32 × MS)} {P Q : Int32 × MS → Int32 × MS → Prop}
theorem T2_and (a : T2 g1 g2 P) (b : T2 g1 g2 Q) : T2 g1 g2 (fun r1 r2 => P r1 r2 ∧ Q r1 r2) := by
  obtain ⟨r1, r2, N, a1, a2, a3⟩ := a
  obtain ⟨s1, s2, M, b1, b2, b3⟩ := b
  have e1 : r1 = s1 := Option.some.inj ((a1 (N + M) (by omega)).symm.trans (b1 (N + M) (by omega)))
  have e2 : r2 = s2 := Option.some.inj ((a2 (N + M) (by omega)).symm.trans (b2 (N + M) (by omega)))
  subst e1
  subst e2
  exact ⟨r1, r2, N, a1, a2, a3, b3⟩
end AND
/-- what stays while iterators are opened and closed above e0 -/
def FI (N : Nat → Nat → Prop) (e0 : Nat) (σ ρ : MS) : Prop := (∀ j, AlS j → j ≠ 57 → j ≠ 59 → j ≠ 95 → j ≠ 72 → ρ.1 j = σ.1 j) ∧ (∀ a i, AlR a → ¬ Zn a i → ¬ ((a = 35 ∨ a = 50) ∧ e0 ≤ i) → ρ.2.2 a i = σ.2.2 a i) ∧ ρ.2.2 2 = σ.2.2 2 ∧ KPn N σ ρ
section FIS
variable {T : Nat → Nat → Int32} {FN : Nat → Nat → Prop} {O r K d t u w XC : Nat} {lc : Nat → Prop} {σ σ1 σ2 τ τ1 τ2 ρ : MS} {e0 e1 : Nat} {N N' : Nat → Nat → Prop}
theorem FI_b (a : FI N e0 σ τ) : FB0 σ τ := ⟨a.1 63 (by unfold AlS; omega) (by decide) (by decide) (by decide) (by decide), kC_c (fun i => a.2.1 20 i (by unfold AlR; omega) (by unfold Zn; omega) (by omega)) (fun i _ => a.2.1 21 i (by unfold AlR; omega) (by unfold Zn; omega) (by omega)) (a.1 30 (by unfold AlS; omega) (by decide) (by decide) (by decide) (by decide)), fun i h => a.2.1 30 i (by unfold AlR; omega) h (by omega), fun i h => a.2.1 31 i (by unfold AlR; omega) h (by omega)⟩
theorem FI_rf : FI N e0 σ σ := ⟨fun _ _ _ _ _ _ => rfl, fun _ _ _ _ _ => rfl, rfl, KPn_same rfl (fun _ _ => rfl)⟩
theorem FI_tr (a : FI N e0 σ τ) (b : FI N e0 τ ρ) : FI N e0 σ ρ := ⟨fun j h1 h2 h3 h4 h5 => (b.1 j h1 h2 h3 h4 h5).trans (a.1 j h1 h2 h3 h4 h5), fun x i h1 h2 h3 => (b.2.1 x i h1 h2 h3).trans (a.2.1 x i h1 h2 h3), b.2.2.1.trans a.2.2.1, KPn_tr (FI_b a) a.2.2.2 b.2.2.2⟩
theorem FI_mo (h : e0 ≤ e1) (a : FI N e1 σ ρ) : FI N e0 σ ρ := ⟨a.1, fun x i h1 h2 h3 => a.2.1 x i h1 h2 (fun z => h3 ⟨z.1, by omega⟩), a.2.2⟩
theorem FI_w (h : FI NoN e0 σ ρ) : FI N e0 σ ρ := ⟨h.1, h.2.1, h.2.2.1, KPn_mo (fun _ _ z => z.elim) h.2.2.2⟩
theorem FI_fen (h : FEn N σ ρ) (h72 : σ.1 72 = nI e1) (h4 : e1 ≤ 4000) (he : e0 ≤ e1) : FI N e0 σ ρ := ⟨fun j h1 h2 h3 h4 _ => h.1 j h1 h2 h3 h4, fun x i h1 h2 h3 => h.2.1 x i h1 h2 (fun z => h3 ⟨z.1, by rw [h72, n_cl (p := e1) (by omega)] at z; omega⟩), h.2.2⟩
theorem FI_fe (h : FE σ ρ) (h72 : σ.1 72 = nI e1) (h4 : e1 ≤ 4000) (he : e0 ≤ e1) : FI N e0 σ ρ := FI_fen (FE_n h) h72 h4 he
theorem FE_fi (h : FI N e0 σ ρ) (hN : ∀ a i, N a i → ρ.2.2 a i = 0 ∧ NU σ a i) (h72 : σ.1 72 = nI e0) (h4 : e0 ≤ 4000) (hs : ρ.1 72 = σ.1 72) : FE σ ρ := by
  refine ⟨fun j h1 h2 h3 h5 => ?_, fun x i h1 h2 h3 => h.2.1 x i h1 h2 (by rw [h72, n_cl (p := e0) (by omega)] at h3; exact h3), h.2.2.1, fun a i hr _ => ?_⟩
  · by_cases e : j = 72
    · rw [e]; exact hs
    · exact h.1 j h1 h2 h3 h5 e
  · by_cases c : N a i
    · exact Or.inr (hN a i c)
    · exact h.2.2.2 a i hr c
theorem FI_72 {x : Int32} : FI N e0 σ (mSc σ 72 x) := ⟨fun j _ _ _ _ h => upd_other h, fun _ _ _ _ _ => rfl, rfl, KPn_same rfl (fun _ _ => rfl)⟩
theorem FI_50 {i : Nat} {x : Int32} (hi : e0 ≤ i) : FI N e0 σ (mAr σ 50 i x) := by
  refine ⟨fun _ _ _ _ _ _ => rfl, fun a j h1 h2 h3 => ?_, mAr_o (by decide), KPn_same (mAr_o (by decide)) (fun a h => mAr_o (by omega))⟩
  by_cases e : a = 50
  · subst e; rw [mAr_s, upd_other (fun c => h3 ⟨Or.inr rfl, by omega⟩)]
  · rw [mAr_o e]
theorem FI_35 {i : Nat} {x : Int32} (hi : e0 ≤ i) : FI N e0 σ (mAr σ 35 i x) := by
  refine ⟨fun _ _ _ _ _ _ => rfl, fun a j h1 h2 h3 => ?_, mAr_o (by decide), KPn_same (mAr_o (by decide)) (fun a h => mAr_o (by omega))⟩
  by_cases e : a = 35
  · subst e; rw [mAr_s, upd_other (fun c => h3 ⟨Or.inl rfl, by omega⟩)]
  · rw [mAr_o e]
theorem FI_34 {i : Nat} {x : Int32} : FI N e0 σ (mAr σ 34 i x) := by
  refine ⟨fun _ _ _ _ _ _ => rfl, fun a j h1 h2 h3 => ?_, mAr_o (by decide), KPn_same (mAr_o (by decide)) (fun a h => mAr_o (by omega))⟩
  by_cases e : a = 34
  · exact absurd (Or.inr (Or.inl e)) h2
  · rw [mAr_o e]
theorem STb_fi (hS : STb T FN σ) (hF : FI N e0 σ ρ) : STb T FN ρ := STb_b hS (fun j hj => hF.1 j (by unfold AlS; omega) (by omega) (by omega) (by omega) (by omega)) (fun a i h => hF.2.1 a i (by unfold AlR; omega) (by unfold Zn; omega) (fun z => by omega))
theorem Cx_72 {fu dp e e' : Nat} (hC : Cx lc fu dp e σ) : Cx lc fu dp e' (mSc σ 72 (nI e')) := by
  obtain ⟨c1, c2, c3, c4, c5, c6, c7⟩ := hC
  exact ⟨c1, c2, c3, c4, rfl, c6, c7⟩
theorem Cx_fi {fu dp e e' : Nat} (hC : Cx lc fu dp e σ) (hF : FI N e0 σ ρ) (h72 : ρ.1 72 = nI e') : Cx lc fu dp e' ρ := by
  have sc : ∀ j, AlS j → j ≠ 57 → j ≠ 59 → j ≠ 95 → j ≠ 72 → ρ.1 j = σ.1 j := hF.1
  refine Cx_b (Cx_72 (e' := e') hC) (fun j hj => ?_) (FI_b hF).2.1 (fun i h _ => (FI_b hF).2.2.1 i h)
  by_cases c : j = 72
  · rw [c]; exact h72
  · rw [sc j (by unfold AlS; omega) (by omega) (by omega) (by omega) c]; exact (upd_other c).symm
/-- one level further in, j iterators more being open -/
theorem PC_fi {j w' t' d' K' XC' : Nat} (h : PC T FN O r K lc d t w XC σ) (h72 : σ.1 72 = nI e0) (h4 : e0 ≤ 4000) (hF : FI N e0 σ ρ) (r72 : ρ.1 72 = nI (e0 + j)) (h1 : 1 ≤ O) (hK : K' + j ≤ K) (hw : w ≤ w') (hw2 : w' ≤ 60000) (ht : t' + w ≤ t + 1200 + w') (hd : d ≤ d' + 5) (hd2 : d' ≤ d) (hX : XC' + 5 * d' ≤ 408500) : PC T FN (O - 1) 14 K' lc d' t' w' XC' ρ := by
  obtain ⟨a1, a2, a3, a4, a5, a6, a7, fu, dp, e, c1, c2, c3, c4⟩ := h
  have cd := c1.2.2.2.1
  have cf := c1.2.1
  have ee : e = e0 := (n_eq (by omega) (by omega)).mp (c1.2.2.2.2.1.symm.trans h72)
  subst ee
  exact ⟨STb_fi a1 hF, by omega, by omega, by omega, by omega, by omega, hw2, fu, dp, e + j, Cx_fi c1 hF r72, by omega, by omega, by omega⟩
theorem PC_e {e : Nat} (h : PC T FN O r K lc d t w XC σ) : ∃ e, σ.1 72 = nI e ∧ e + K ≤ 1260 := by
  obtain ⟨a1, a2, a3, a4, a5, a6, a7, fu, dp, e, c1, c2, c3, c4⟩ := h
  have cf := c1.2.1
  exact ⟨e, c1.2.2.2.2.1, by omega⟩
/-- the iterators of a former, one after another -/
def Its (T : Nat → Nat → Int32) (FN : Nat → Nat → Prop) (O m K : Nat) (lc : Nat → Prop) (it : Nat → Nat) : Prop := ∀ i, i < m → (1 ≤ it i ∧ it i < LNo T % 70001) ∧ i + 1 ≤ K ∧ (∃ q f, (1 ≤ q ∧ q ≤ 70000) ∧ WN T FN f 6 O q (K - i) lc (T 6 (it i))) ∧ (∃ f, WN T FN f 0 O 14 (K - i) lc (T 7 (it i))) ∧ (i + 1 < m → T 9 (it i) = nI (it (i + 1))) ∧ (i + 1 = m → T 9 (it i) = -1)
theorem WN_it : ∀ (f m K : Nat) (x : Int32), WN T FN f 4 O m K lc x → (m = 0 ∧ x = -1) ∨ (1 ≤ m ∧ ∃ it, x = nI (it 0) ∧ Its T FN O m K lc it) := by
  intro f
  induction f with
  | zero => intro m K x h; exact h.elim
  | succ f ih =>
    intro m K x hW
    unfold WN at hW
    rcases hW with ⟨z, _⟩ | ⟨z, _⟩ | ⟨z, _⟩ | ⟨z, _⟩ | ⟨_, hor⟩ | ⟨z, _⟩ | ⟨z, _⟩
    case inl => exact absurd z (by decide)
    case inr.inl => exact absurd z (by decide)
    case inr.inr.inl => exact absurd z (by decide)
    case inr.inr.inr.inl => exact absurd z (by decide)
    case inr.inr.inr.inr.inr.inl => exact absurd z (by decide)
    case inr.inr.inr.inr.inr.inr => exact absurd z (by decide)
    rcases hor with z | ⟨m', n, q, rm, xn, hn, hK, hq, W6, W7, W9⟩
    · exact Or.inl z
    refine Or.inr ⟨by omega, ?_⟩
    rcases ih m' (K - 1) (T 9 n) W9 with ⟨z1, z2⟩ | ⟨z1, it, z2, z3⟩
    · refine ⟨fun _ => n, xn, fun i hi => ?_⟩
      have hi0 : i = 0 := by omega
      subst hi0
      exact ⟨hn, by omega, ⟨q, f, hq, W6⟩, ⟨f, W7⟩, fun y => by omega, fun _ => z2⟩
    · refine ⟨fun i => if i = 0 then n else it (i - 1), xn, fun i hi => ?_⟩
      by_cases hi0 : i = 0
      · subst hi0
        exact ⟨hn, by omega, ⟨q, f, hq, W6⟩, ⟨f, W7⟩, fun _ => z2, fun y => by omega⟩
      · obtain ⟨y1, y2, y3, y4, y5, y6⟩ := z3 (i - 1) (by omega)
        show (1 ≤ (if i = 0 then n else it (i - 1)) ∧ (if i = 0 then n else it (i - 1)) < LNo T % 70001) ∧ i + 1 ≤ K ∧ (∃ q f, (1 ≤ q ∧ q ≤ 70000) ∧ WN T FN f 6 O q (K - i) lc (T 6 (if i = 0 then n else it (i - 1)))) ∧ (∃ f, WN T FN f 0 O 14 (K - i) lc (T 7 (if i = 0 then n else it (i - 1)))) ∧ (i + 1 < m → T 9 (if i = 0 then n else it (i - 1)) = nI (if i + 1 = 0 then n else it (i + 1 - 1))) ∧ (i + 1 = m → T 9 (if i = 0 then n else it (i - 1)) = -1)
        rw [if_neg hi0, if_neg (by omega), show i + 1 - 1 = i - 1 + 1 by omega]
        rw [show K - 1 - (i - 1) = K - i by omega] at y3 y4
        exact ⟨y1, by omega, y3, y4, fun y => y5 (by omega), fun y => y6 (by omega)⟩
/-- a row? -/
theorem s_isRow {g : Nat → Prop} {l : List Nat} {B h m : Nat} (hS : HS g l B h σ) (hm : m < 3 ∨ g m) {L : Nat → Int32} (hL : L 1 = nI m) : Tm (fun k => x_isRow k 0 L σ) (fun r => r.2 = σ ∧ ((r.1 = 0 ∧ kdN (σ.2.2 28) m < 4) ∨ (r.1 = 1 ∧ 4 ≤ kdN (σ.2.2 28) m))) := by
  have k6 := kdN_6 hS hm
  refine Tm_suc (fun k => by rw [x_isRow]) ?_
  refine Tm_ob (s_kind hS hm (by exact hL)) (fun r hr => ?_)
  rw [hr]
  refine Tm_ite (fun z => ?_) (fun z => ?_)
  · have z := (n_lt (q := 4) (by omega) (by decide)).mp z
    refine Tm_suc (fun k => by rw [x_isRow]) ?_
    refine Tm_suc (fun k => by rw [x_isRow]) ?_
    exact Tm_chk (Or.inl rfl) (Tm_some ⟨rfl, Or.inl ⟨rfl, z⟩⟩)
  · have z : 4 ≤ kdN (σ.2.2 28) m := by
      by_cases y : kdN (σ.2.2 28) m < 4
      · exact absurd ((n_lt (q := 4) (by omega) (by decide)).mpr y) z
      · omega
    refine Tm_suc (fun k => by rw [x_isRow]) ?_
    exact Tm_chk (Or.inr rfl) (Tm_some ⟨rfl, Or.inr ⟨rfl, z⟩⟩)
/-- an iterator more -/
def mIt (σ : MS) (e : Nat) (x : Int32) : MS := mSc (mAr (mAr σ 34 e x) 35 e 0) 72 (nI (e + 1))
theorem mIt_s {j e : Nat} {x : Int32} (h : j ≠ 72) : (mIt σ e x).1 j = σ.1 j := upd_other h
theorem mIt_r {a e : Nat} {x : Int32} (h : a ≠ 34) (h' : a ≠ 35) : (mIt σ e x).2.2 a = σ.2.2 a := by
  show (mAr (mAr σ 34 e x) 35 e 0).2.2 a = _
  rw [mAr_o h', mAr_o h]
theorem mIt_34 {e : Nat} {x : Int32} : (mIt σ e x).2.2 34 = upd (σ.2.2 34) e x := by
  show (mAr (mAr σ 34 e x) 35 e 0).2.2 34 = _
  rw [mAr_o (by decide), mAr_s]
theorem mIt_35 {e : Nat} {x : Int32} : (mIt σ e x).2.2 35 = upd (σ.2.2 35) e 0 := by
  show (mAr (mAr σ 34 e x) 35 e 0).2.2 35 = _
  rw [mAr_s, mAr_o (by decide)]
theorem FI_it {e : Nat} {x : Int32} (he : e0 ≤ e) : FI N e0 σ (mIt σ e x) := FI_tr FI_34 (FI_tr (FI_35 he) FI_72)
theorem RtP_it {e a i : Nat} {x : Int32} (h72 : σ.1 72 = nI e) (he : e < 4000) (hR : RtP t (mIt σ e x) a i) : (a = 34 ∧ i = e) ∨ ((a ≠ 34 ∨ i < e) ∧ a ≠ 35 ∧ RtP t σ a i) := by
  have e1 : ((mIt σ e x).1 72).toNatClampNeg = e + 1 := n_cl (p := e + 1) (by omega)
  have e2 : (σ.1 72).toNatClampNeg = e := by rw [h72]; exact n_cl (by omega)
  unfold RtP at hR ⊢
  rw [e1, mIt_s (by decide), mIt_r (by decide) (by decide), mIt_r (by decide) (by decide)] at hR
  rw [e2]
  rcases hR with z | z | z | z | z | z | z | z | z
  · exact Or.inr ⟨Or.inl (by omega), by omega, Or.inl z⟩
  · exact Or.inr ⟨Or.inl (by omega), by omega, Or.inr (Or.inl z)⟩
  · exact Or.inr ⟨Or.inl (by have := z.1; omega), by have := z.1; omega, Or.inr (Or.inr (Or.inl z))⟩
  · exact Or.inr ⟨Or.inl (by omega), by omega, Or.inr (Or.inr (Or.inr (Or.inl z)))⟩
  · by_cases c : i = e
    · exact Or.inl ⟨z.1, c⟩
    · exact Or.inr ⟨Or.inr (by omega), by omega, Or.inr (Or.inr (Or.inr (Or.inr (Or.inl ⟨z.1, by omega⟩))))⟩
  · exact Or.inr ⟨Or.inl (by omega), by omega, Or.inr (Or.inr (Or.inr (Or.inr (Or.inr (Or.inl z)))))⟩
  · exact Or.inr ⟨Or.inl (by omega), by omega, Or.inr (Or.inr (Or.inr (Or.inr (Or.inr (Or.inr (Or.inl z))))))⟩
  · exact Or.inr ⟨Or.inl (by omega), by omega, Or.inr (Or.inr (Or.inr (Or.inr (Or.inr (Or.inr (Or.inr (Or.inl z)))))))⟩
  · exact Or.inr ⟨Or.inl (by omega), by omega, Or.inr (Or.inr (Or.inr (Or.inr (Or.inr (Or.inr (Or.inr (Or.inr z)))))))⟩
theorem mIt_v {e a i : Nat} {x : Int32} (h : (a ≠ 34 ∨ i < e) ∧ a ≠ 35) : (mIt σ e x).2.2 a i = σ.2.2 a i := by
  by_cases c : a = 34
  · subst c
    rw [mIt_34, upd_other (by omega)]
  · rw [mIt_r c h.2]
theorem RtQ_it {e : Nat} {x : Int32} (he : e < 4000) (hQ : RtQ σ) : RtQ (mIt σ e x) := by
  obtain ⟨P, e', q1, q2, q3, q4, q5, q6⟩ := hQ
  refine ⟨P, e + 1, (mIt_s (by decide)).trans q1, q2, rfl, by omega, ?_, ?_⟩
  · rw [mIt_r (by decide) (by decide)]; exact q5
  · rw [mIt_r (by decide) (by decide)]; exact q6
/-- one side: what lies at the top becomes an iterator's row -/
theorem MI_it {g : Nat → Prop} {l : List Nat} {B h X e : Nat} {x : Int32} (hM : MI (t + 1) X g l B h σ) (h72 : σ.1 72 = nI e) (he : e < 4000) (hx : σ.2.2 29 t = x) : MI t X g l B h (mIt σ e x) := by
  refine MI_re hM (mIt_s (by decide)) (mIt_s (by decide)) (mIt_r (by decide) (by decide)) (RtQ_it he hM.2.1) (fun a i z => ?_)
  rcases RtP_it h72 he z with ⟨z1, z2⟩ | ⟨z1, z2, z3⟩
  · subst z1
    subst z2
    rw [mIt_34, upd_same, ← hx]; exact MI_rt hM (Or.inl ⟨rfl, by omega⟩)
  · rw [mIt_v ⟨z1, z2⟩]; exact MI_rt hM (RtP_mo (by omega) z3)
theorem IT_it {g : Nat → Prop} {l : List Nat} {B h e v : Nat} (hS : HS g l B h σ) (hI : IT g σ) (h72 : σ.1 72 = nI e) (he : e < 4000) (gv : g v) (hk : 4 ≤ kdN (σ.2.2 28) v) : IT g (mIt σ e (nI v)) := by
  obtain ⟨e', q1, q2, q3⟩ := hI
  have ee : e' = e := (n_eq (by omega) (by omega)).mp (q1.symm.trans h72)
  subst ee
  refine ⟨e' + 1, rfl, by omega, fun i hi => ?_⟩
  rw [mIt_34, mIt_35, mIt_r (by decide) (by decide)]
  by_cases c : i = e'
  · subst c
    rw [upd_same, upd_same]
    obtain ⟨k, n, s, t', G, _⟩ := HS_at hS gv
    exact ⟨v, 0, n, rfl, gv, hk, G.2.1, G.2.2.2.2.2.2.2.1, rfl, by omega⟩
  · rw [upd_other c, upd_other c]
    exact q3 i (by omega)
theorem EI_it {g1 g2 : Nat → Prop} {l1 l2 : List Nat} {B1 h1 X1 B2 h2 X2 e v1 v2 : Nat} (hX : EIx (t + 1) w XC σ1 σ2 g1 l1 B1 h1 X1 g2 l2 B2 h2 X2) (h72 : σ1.1 72 = nI e) (he : e < 4000) (y1 : σ1.2.2 29 t = nI v1) (y2 : σ2.2.2 29 t = nI v2) (gv1 : g1 v1) (gv2 : g2 v2) (k1 : 4 ≤ kdN (σ1.2.2 28) v1) (k2 : 4 ≤ kdN (σ2.2.2 28) v2) : EI t w XC (mIt (mSc σ1 59 (nI t)) e (nI v1)) (mIt (mSc σ2 59 (nI t)) e (nI v2)) := by
  obtain ⟨m1, m2, hR, i1, i2, t1, e1, e2, w1, hw, x1, x2, ⟨ty1, ty2⟩, a, a1, a2⟩ := hX
  have g72 : σ2.1 72 = nI e := (hR.2.2.1 72 (by unfold AlS; omega)).symm.trans h72
  have n1 : MI t X1 g1 l1 B1 h1 (mIt (mSc σ1 59 (nI t)) e (nI v1)) := MI_it (MI_59 m1) h72 he y1
  have n2 : MI t X2 g2 l2 B2 h2 (mIt (mSc σ2 59 (nI t)) e (nI v2)) := MI_it (MI_59 m2) g72 he y2
  refine ⟨g1, l1, B1, h1, X1, g2, l2, B2, h2, X2, n1, n2, ⟨fun x i z hv => ?_, fun x i hx hz hn => ?_, fun j hj => ?_, hR.2.2.2⟩, IT_it (HS_c m1.1 rfl rfl rfl) (IT_c rfl rfl rfl rfl i1) h72 he gv1 k1, IT_it (HS_c m2.1 rfl rfl rfl) (IT_c rfl rfl rfl rfl i2) g72 he gv2 k2, rfl, ?_, ?_, ?_, hw, x1, x2, ⟨?_, ?_⟩, a, ?_, a2⟩
  · rw [mIt_r (a := 28) (by decide) (by decide), mIt_r (a := 28) (by decide) (by decide)]
    rcases RtP_it (σ := mSc σ1 59 (nI t)) h72 he z with ⟨z1, z2⟩ | ⟨z1, z2, z3⟩
    · subst z1
      subst z2
      rw [mIt_34, mIt_34, upd_same, upd_same, ← y1, ← y2]; exact hR.1 29 t (Or.inl ⟨rfl, by omega⟩) (by unfold VwR; omega)
    · rw [mIt_v ⟨z1, z2⟩, mIt_v ⟨z1, z2⟩]
      exact hR.1 x i (RtP_mo (show t ≤ t + 1 by omega) ((RtP_c (σ := σ1) (τ := mSc σ1 59 (nI t)) rfl rfl rfl rfl x i).mp z3)) hv
  · have s72 : (mIt (mSc σ1 59 (nI t)) e (nI v1)).1 72 = nI (e + 1) := rfl
    by_cases c : x = 34
    · exact absurd (Or.inr (Or.inl c)) hz
    by_cases c' : x = 35
    · subst c'
      rw [mIt_35, mIt_35]
      by_cases c2 : i = e
      · rw [c2, upd_same, upd_same]
      · rw [upd_other c2, upd_other c2]
        refine hR.2.1 35 i hx hz (fun z => hn ?_)
        unfold InA at z ⊢
        rw [h72, n_cl (p := e) (by omega)] at z
        rw [s72, n_cl (p := e + 1) (by omega)]
        omega
    · rw [mIt_r c c', mIt_r c c']
      refine hR.2.1 x i hx hz (fun z => hn ?_)
      have i30 : (mIt (mSc σ1 59 (nI t)) e (nI v1)).2.2 30 = σ1.2.2 30 := mIt_r (by decide) (by decide)
      have i31 : (mIt (mSc σ1 59 (nI t)) e (nI v1)).2.2 31 = σ1.2.2 31 := mIt_r (by decide) (by decide)
      have s63 : (mIt (mSc σ1 59 (nI t)) e (nI v1)).1 63 = σ1.1 63 := (mIt_s (by decide)).trans rfl
      have s22 : (mIt (mSc σ1 59 (nI t)) e (nI v1)).1 22 = σ1.1 22 := (mIt_s (by decide)).trans rfl
      have s24 : (mIt (mSc σ1 59 (nI t)) e (nI v1)).1 24 = σ1.1 24 := (mIt_s (by decide)).trans rfl
      have s30 : (mIt (mSc σ1 59 (nI t)) e (nI v1)).1 30 = σ1.1 30 := (mIt_s (by decide)).trans rfl
      have s44 : (mIt (mSc σ1 59 (nI t)) e (nI v1)).1 44 = σ1.1 44 := (mIt_s (by decide)).trans rfl
      have i21 : (mIt (mSc σ1 59 (nI t)) e (nI v1)).2.2 21 = σ1.2.2 21 := mIt_r (by decide) (by decide)
      unfold InA at z ⊢
      rw [i30, i31, i21, s63, s22, s24, s30, s44]
      rcases z with z | z | z | z | z
      · exact Or.inl z
      · exact Or.inr (Or.inl z)
      · exact Or.inr (Or.inr (Or.inl z))
      · exact absurd z.1 c'
      · exact Or.inr (Or.inr (Or.inr (Or.inr z)))
  · by_cases c : j = 72
    · rw [c]; rfl
    · rw [mIt_s c, mIt_s c]
      show upd σ1.1 59 (nI t) j = upd σ2.1 59 (nI t) j
      by_cases c2 : j = 59
      · rw [c2, upd_same, upd_same]
      · rw [upd_other c2, upd_other c2]; exact hR.2.2.1 j hj
  · rw [mIt_s (by decide)]; exact e1
  · rw [mIt_s (by decide)]; exact e2
  · rw [mIt_s (by decide)]; exact w1
  · rw [mIt_r (by decide) (by decide)]; exact ty1
  · rw [mIt_r (by decide) (by decide), mIt_r (by decide) (by decide)]; exact ty2
  · rw [mIt_s (by decide)]; exact a1
end FIS

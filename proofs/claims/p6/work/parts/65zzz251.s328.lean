/-! Declarations: variables and params are slots that count. -/
/-- variables of the program: slots below v that count -/
def GlF (E : En) (v : Nat) (b : BT) : Prop := ∀ x ∈ E.1, x.2.2.1 = 1 → x.2.2.2 < v ∧ b.2.2.2.2 x.2.2.2 = 1
section DCL
variable {T : Nat → Int32} {n : Nat} {GF : Nat → Prop}
theorem pT_s {β : Type} {q : Nat} {k : Nat → Option (Option β)} {r : β} (h : pT T n q k = some (some r)) : ¬ tkK T n (tkN T n q) = 0 ∧ k (tkN T n q) = some (some r) := by
  rcases pT_any h with ⟨_, y⟩ | y
  · cases y
  · exact y
theorem pW_s {β : Type} {t q : Nat} {k : Nat → Option (Option β)} {r : β} (h : pW T n t q k = some (some r)) : tkK T n q = t ∧ ¬ tkK T n (tkN T n q) = 0 ∧ k (tkN T n q) = some (some r) := by
  rcases pW_any h with ⟨_, y⟩ | ⟨y, h⟩
  · cases y
  · exact ⟨y.1, y.2, h⟩
theorem pb_s {α β : Type} {x : Option (Option α)} {k : α → Option (Option β)} {r : β} (h : pb x k = some (some r)) : ∃ s, x = some (some s) ∧ k s = some (some r) := by
  rcases pb_any h with ⟨_, y⟩ | y
  · cases y
  · exact y
theorem Frm_tl {E : En} {q v : Nat} {b : BT} : Frm E.2.2.2.1 v b 0 (bTl T n E q v b) := Frm_tr (Frm_slot (vv := v)) (Frm_keep (vv := v)) (Nat.le_refl _) (Or.inl rfl)
/-- variables of the program -/
theorem gvr_g : ∀ (f : Nat) (E : En) (q v : Nat) (b : BT) (r : DV), E.2.2.2.1 = 0 → GVr T n f E q v b = some (some r) → GlF E v b → GlF r.2.1 r.2.2.1 r.2.2.2 ∧ (∀ x ∈ E.1, x ∈ r.2.1.1) ∧ Frm 0 v b 0 r.2.2.2 ∧ v ≤ r.2.2.1 := by
  intro f
  induction f with
  | zero => intro E q v b r _ hG; cases hG
  | succ f ih =>
    intro E q v b r h0 hG hF
    rw [GVr, if_pos h0] at hG
    rcases gTe_any hG with ⟨_, y⟩ | ⟨⟨⟨k, _, v6⟩, t⟩, hG⟩
    · cases y
    have F1 : Frm 0 v b 0 (bTl T n E q v b) := by have := Frm_tl (T := T) (n := n) (E := E) (q := q) (v := v) (b := b); rw [h0] at this; exact this
    have G1 : GlF (eTe T n E q v b) (v + 1) (bTl T n E q v b) := fun x hx hk => by
      rcases List.mem_append.mp (show x ∈ E.1 ++ [(tkS T n q, b.2.1, 1, v)] from hx) with z | z
      · obtain ⟨a1, a2⟩ := hF x z hk
        refine ⟨by omega, ?_⟩
        have := F1.2.2.2.2 x.2.2.2 a1
        rw [Nat.mul_zero, Nat.zero_add] at this
        exact this.trans a2
      · rw [List.mem_singleton.mp z]
        refine ⟨Nat.lt_succ_self _, ?_⟩
        show upd b.2.2.2.2 (60 * E.2.2.2.1 + v) 1 v = 1
        rw [h0, Nat.mul_zero, Nat.zero_add, upd_same]
    by_cases c : tkK T n (tkN T n q) = 12
    · rw [if_pos c] at hG
      obtain ⟨_, hG⟩ := pT_s hG
      obtain ⟨a1, a2, a3, a4⟩ := ih _ _ _ _ _ (show (eTe T n E q v b).2.2.2.1 = 0 from h0) hG G1
      have a4 : v + 1 ≤ r.2.2.1 := a4
      exact ⟨a1, fun x hx => a2 x (List.mem_append_left _ hx), Frm_tr F1 a3 (Nat.le_succ _) (Or.inl rfl), by omega⟩
    · rw [if_neg c] at hG
      obtain ⟨_, _, hG⟩ := pW_s hG
      cases hG
      exact ⟨G1, fun x hx => List.mem_append_left _ hx, F1, Nat.le_succ _⟩
theorem NmC_tl {E : En} {q v : Nat} {b : BT} (hv : v < 60) (h : NmC E.2.2.2.1 v b GF E) : NmC E.2.2.2.1 (v + 1) (bTl T n E q v b) GF (eTl T n E q v b) := by
  refine ⟨fun x hx => ?_, h.2⟩
  rcases List.mem_append.mp (show x ∈ [(tkS T n q, b.2.1, v)] ++ E.2.1 from hx) with z | z
  · rw [List.mem_singleton.mp z]
    exact ⟨Nat.lt_succ_self _, hv, upd_same⟩
  · exact (NmC_fr h (Frm_tl (T := T) (n := n) (q := q)) (Nat.le_succ _)).1 x z
/-- variables of a proc -/
theorem gvr_l : ∀ (f : Nat) (E : En) (q v : Nat) (b : BT) (r : DV), ¬ E.2.2.2.1 = 0 → v ≤ 60 → GVr T n f E q v b = some (some r) → NmC E.2.2.2.1 v b GF E → NmC E.2.2.2.1 r.2.2.1 r.2.2.2 GF r.2.1 ∧ Frm E.2.2.2.1 v b 0 r.2.2.2 ∧ v ≤ r.2.2.1 ∧ r.2.2.1 ≤ 60 := by
  intro f
  induction f with
  | zero => intro E q v b r _ _ hG; cases hG
  | succ f ih =>
    intro E q v b r h0 hv hG hN
    rw [GVr, if_neg h0] at hG
    rcases gTl_any hG with ⟨_, y⟩ | ⟨⟨⟨k, _, v6⟩, t⟩, hG⟩
    · cases y
    have N1 := NmC_tl (T := T) (n := n) (q := q) (show v < 60 by omega) hN
    by_cases c : tkK T n (tkN T n q) = 12
    · rw [if_pos c] at hG
      obtain ⟨_, hG⟩ := pT_s hG
      obtain ⟨a1, a2, a3, a4⟩ := ih _ _ _ _ _ (show ¬ (eTl T n E q v b).2.2.2.1 = 0 from h0) (show v + 1 ≤ 60 by omega) hG N1
      have a3 : v + 1 ≤ r.2.2.1 := a3
      exact ⟨a1, Frm_tr (Frm_tl (T := T) (n := n) (q := q)) a2 (Nat.le_succ _) (Or.inl rfl), by omega, a4⟩
    · rw [if_neg c] at hG
      obtain ⟨_, _, hG⟩ := pW_s hG
      cases hG
      exact ⟨N1, Frm_tl, Nat.le_succ _, by show v + 1 ≤ 60; omega⟩
theorem gvs_l : ∀ (f : Nat) (E : En) (q v : Nat) (b : BT) (r : DV), q ≤ n → ¬ E.2.2.2.1 = 0 → v ≤ 60 → GVs T n f E q v b = some (some r) → NmC E.2.2.2.1 v b GF E → NmC E.2.2.2.1 r.2.2.1 r.2.2.2 GF r.2.1 ∧ Frm E.2.2.2.1 v b 0 r.2.2.2 ∧ v ≤ r.2.2.1 ∧ r.2.2.1 ≤ 60 := by
  intro f
  induction f with
  | zero => intro E q v b r _ _ _ hG; cases hG
  | succ f ih =>
    intro E q v b r hq h0 hv hG hN
    rw [GVs] at hG
    by_cases c : tkK T n q = 32
    · rw [if_pos c] at hG
      obtain ⟨s, g1, hG⟩ := pb_s hG
      obtain ⟨_, g1⟩ := pT_s g1
      have hN1 := tkN_b T n q hq
      obtain ⟨a1, a2, a3, a4⟩ := gvr_l _ _ _ _ _ _ h0 hv g1 hN
      obtain ⟨_, m2, _, _, _, _, _, m8, _⟩ := gvr_mo _ _ _ _ _ _ hN1.2.1 hv g1
      have u : s.2.1.2.2.2.1 = E.2.2.2.1 := by rw [m8]
      rw [← u] at a1
      obtain ⟨b1, b2, b3, b4⟩ := ih _ _ _ _ _ m2 (by rw [u]; exact h0) a4 hG a1
      rw [u] at b1 b2
      exact ⟨b1, Frm_tr a2 b2 a3 (Or.inl rfl), by omega, b4⟩
    · rw [if_neg c] at hG
      cases hG
      exact ⟨hN, Frm_rf, Nat.le_refl _, hv⟩
/-- params -/
theorem gpm_l {pr : Bool} {p : Nat} : ∀ (f : Nat) (E : En) (c : Nat) (md : Nat → Nat) (q v : Nat) (b : BT) (r : PV6), GPm T n pr p f E c md q v b = some (some r) → q ≤ n → v ≤ 60 → c = v → c ≤ 8 → NmC E.2.2.2.1 v b GF E → (∀ s, s < v → b.2.2.2.2 (60 * E.2.2.2.1 + s) = 1) → (∀ s, s < v → md s ≤ 2) → NmC E.2.2.2.1 r.2.2.2.2.1 r.2.2.2.2.2 GF r.2.1 ∧ Frm E.2.2.2.1 v b 0 r.2.2.2.2.2 ∧ (r.2.2.1 = r.2.2.2.2.1 ∧ r.2.2.1 ≤ 8) ∧ (∀ s, s < r.2.2.2.2.1 → r.2.2.2.2.2.2.2.2.2 (60 * E.2.2.2.1 + s) = 1) ∧ (∀ s, s < r.2.2.2.2.1 → r.2.2.2.1 s ≤ 2) ∧ r.2.1.2.2.2.2.1 = E.2.2.2.2.1 ∧ r.2.1.2.2.2.2.2.1 = E.2.2.2.2.2.1 ∧ v ≤ r.2.2.2.2.1 := by
  intro f
  induction f with
  | zero => intro E c md q v b r hG; cases hG
  | succ f ih =>
    intro E c md q v b r hG hq hv hc hc8 hN hs hm
    have hN1 := tkN_b T n q hq
    rw [GPm] at hG
    have fin : some (some (q, E, c, md, v, b)) = some (some r) → NmC E.2.2.2.1 r.2.2.2.2.1 r.2.2.2.2.2 GF r.2.1 ∧ Frm E.2.2.2.1 v b 0 r.2.2.2.2.2 ∧ (r.2.2.1 = r.2.2.2.2.1 ∧ r.2.2.1 ≤ 8) ∧ (∀ s, s < r.2.2.2.2.1 → r.2.2.2.2.2.2.2.2.2 (60 * E.2.2.2.1 + s) = 1) ∧ (∀ s, s < r.2.2.2.2.1 → r.2.2.2.1 s ≤ 2) ∧ r.2.1.2.2.2.2.1 = E.2.2.2.2.1 ∧ r.2.1.2.2.2.2.2.1 = E.2.2.2.2.2.1 ∧ v ≤ r.2.2.2.2.1 := fun hx => by
      cases hx
      exact ⟨hN, Frm_rf, ⟨hc, hc8⟩, hs, hm, rfl, rfl, Nat.le_refl _⟩
    have it : ∀ q1 : Nat, q1 ≤ n → gPI T n pr E c q1 v b (fun m r => GPm T n pr p f (sP r.2.1 p (c + 1)) (c + 1) (updN md c m) r.1 r.2.2.1 r.2.2.2) = some (some r) → NmC E.2.2.2.1 r.2.2.2.2.1 r.2.2.2.2.2 GF r.2.1 ∧ Frm E.2.2.2.1 v b 0 r.2.2.2.2.2 ∧ (r.2.2.1 = r.2.2.2.2.1 ∧ r.2.2.1 ≤ 8) ∧ (∀ s, s < r.2.2.2.2.1 → r.2.2.2.2.2.2.2.2.2 (60 * E.2.2.2.1 + s) = 1) ∧ (∀ s, s < r.2.2.2.2.1 → r.2.2.2.1 s ≤ 2) ∧ r.2.1.2.2.2.2.1 = E.2.2.2.2.1 ∧ r.2.1.2.2.2.2.2.1 = E.2.2.2.2.2.1 ∧ v ≤ r.2.2.2.2.1 := by
      intro q1 h2 hx
      have h8 : ¬ c = 8 := fun z => by
        unfold gPI gPJ at hx
        by_cases w : pr = true ∧ (tkK T n q1 = 35 ∨ tkK T n q1 = 36 ∨ tkK T n q1 = 37)
        · rw [if_pos w] at hx
          obtain ⟨_, hx⟩ := pT_s hx
          rw [if_pos z] at hx; cases hx
        · rw [if_neg w, if_pos z] at hx; cases hx
      obtain ⟨m, q2, k1, k2, k3, k4, hy⟩ := gPI_any h2 hx
      have hN2 := tkN_b T n q2 k3
      have v6 : ¬ v = 60 := k4.2.2
      have F1 : Frm E.2.2.2.1 v b 0 (bTl T n E q2 v b) := Frm_tl
      obtain ⟨a1, a2, a3, a4, a5, a6, a7, a8⟩ := ih (sP (eTl T n E q2 v b) p (c + 1)) (c + 1) (updN md c m) (tkN T n q2) (v + 1) (bTl T n E q2 v b) r hy hN2.2.1 (by omega) (by omega) (by omega) (NmC_tl (T := T) (n := n) (q := q2) (by omega) hN) (fun s h => by
        by_cases e : s = v
        · rw [e]; exact upd_same
        · exact (F1.2.2.2.2 s (by omega)).trans (hs s (by omega))) (fun s h => by
        by_cases e : s = c
        · rw [e, updN_s]; exact k1
        · rw [updN_o e]; exact hm s (by omega))
      exact ⟨a1, Frm_tr F1 a2 (Nat.le_succ _) (Or.inl rfl), a3, a4, a5, a6, a7, by omega⟩
    by_cases c0 : c = 0
    · rw [if_pos c0] at hG
      by_cases z : tkK T n q = 7
      · rw [if_pos z] at hG; exact fin hG
      · rw [if_neg z] at hG; exact it q hq hG
    · rw [if_neg c0] at hG
      by_cases z : tkK T n q = 12
      · rw [if_pos z] at hG
        obtain ⟨_, hG⟩ := pT_s hG
        exact it _ hN1.2.1 hG
      · rw [if_neg z] at hG
        by_cases y : tkK T n q = 7
        · rw [if_pos y] at hG; exact fin hG
        · rw [if_neg y] at hG; cases hG
end DCL

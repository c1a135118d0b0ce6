/-! Params: what they bring; that there is an answer. -/
section GPM
variable {T : Nat → Int32} {n : Nat} {pr : Bool} {p : Nat}
def MoA (T : Nat → Int32) (n p : Nat) (E : En) (q v : Nat) (b : BT) (r : PV6) : Prop := (r.2.1.1 = E.1 ∧ r.2.1.2.2.1 = E.2.2.1 ∧ r.2.1.2.2.2.1 = E.2.2.2.1 ∧ (∀ i, i ≠ p → r.2.1.2.2.2.2.2.2 i = E.2.2.2.2.2.2 i) ∧ r.2.1.2.2.2.2.2.2 p = r.2.2.1) ∧ q ≤ r.1 ∧ r.1 ≤ n ∧ v ≤ r.2.2.2.2.1 ∧ r.2.2.2.2.1 ≤ 60 ∧ r.2.2.2.2.2.1 = b.1 ∧ r.2.2.2.2.2.2.1 + q ≤ b.2.1 + r.1 ∧ b.2.1 ≤ r.2.2.2.2.2.2.1 ∧ tkK T n r.1 = 7
theorem gPI_any {β : Type} {E : En} {c q v : Nat} {b : BT} {k : Nat → DV → Option (Option β)} {y : β} (hq : q ≤ n) (h : gPI T n pr E c q v b k = some (some y)) : ∃ (m q1 : Nat), m ≤ 2 ∧ q ≤ q1 ∧ q1 ≤ n ∧ tlC T n E q1 v ∧ k m (tkN T n q1, eTl T n E q1 v b, v + 1, bTl T n E q1 v b) = some (some y) := by
  have hN := tkN_b T n q hq
  unfold gPI at h
  have J : ∀ m q1 : Nat, m ≤ 2 → q ≤ q1 → q1 ≤ n → gPJ T n E c m q1 v b k = some (some y) → ∃ (m q1 : Nat), m ≤ 2 ∧ q ≤ q1 ∧ q1 ≤ n ∧ tlC T n E q1 v ∧ k m (tkN T n q1, eTl T n E q1 v b, v + 1, bTl T n E q1 v b) = some (some y) := by
    intro m q1 h1 h2 h3 hJ
    unfold gPJ at hJ
    by_cases c8 : c = 8
    · rw [if_pos c8] at hJ; cases hJ
    · rw [if_neg c8] at hJ
      rcases gTl_any hJ with ⟨_, z⟩ | ⟨z, hx⟩
      · cases z
      · exact ⟨m, q1, h1, h2, h3, z.1, hx⟩
  by_cases w : pr = true ∧ (tkK T n q = 35 ∨ tkK T n q = 36 ∨ tkK T n q = 37)
  · rw [if_pos w] at h
    rcases pT_any h with ⟨_, z⟩ | ⟨_, hx⟩
    · cases z
    · exact J _ _ (by omega) hN.1 hN.2.1 hx
  · rw [if_neg w] at h
    exact J 0 q (by decide) (Nat.le_refl _) hq h
theorem gpm_mo : ∀ (f : Nat) (E : En) (c : Nat) (md : Nat → Nat) (q v : Nat) (b : BT) (r : PV6), GPm T n pr p f E c md q v b = some (some r) → q ≤ n → v ≤ 60 → E.2.2.2.2.2.2 p = c → MoA T n p E q v b r
  | 0, E, c, md, q, v, b, r, hG, hq, hv, he => by cases hG
  | f + 1, E, c, md, q, v, b, r, hG, hq, hv, he => by
    have ih := gpm_mo f
    have hN := tkN_b T n q hq
    rw [GPm] at hG
    have fin : tkK T n q = 7 → some (some (q, E, c, md, v, b)) = some (some r) → MoA T n p E q v b r := fun z hx => by
      obtain rfl := Option.some.inj (Option.some.inj hx)
      exact ⟨⟨rfl, rfl, rfl, fun _ _ => rfl, he⟩, Nat.le_refl _, hq, Nat.le_refl _, hv, rfl, Nat.le_refl _, Nat.le_refl _, z⟩
    have it : ∀ q1 : Nat, q ≤ q1 → q1 ≤ n → gPI T n pr E c q1 v b (fun m r => GPm T n pr p f (sP r.2.1 p (c + 1)) (c + 1) (updN md c m) r.1 r.2.2.1 r.2.2.2) = some (some r) → MoA T n p E q v b r := by
      intro q1 h1 h2 hx
      obtain ⟨m, q2, k1, k2, k3, k4, hy⟩ := gPI_any h2 hx
      have hN2 := tkN_b T n q2 k3
      have hE2 := tkE_b T n q2 k3
      obtain ⟨⟨a1, a2, a3, a4, a5⟩, a6, a7, a8, a9, a10, a11, a12, a13⟩ := ih _ _ _ _ _ _ _ hy hN2.2.1 (by have := k4.2.2; show v + 1 ≤ 60; omega) updN_s
      have a6 : tkN T n q2 ≤ r.1 := a6
      have a8 : v + 1 ≤ r.2.2.2.2.1 := a8
      have a11 : r.2.2.2.2.2.2.1 + tkN T n q2 ≤ b.2.1 + (tkE T n q2 - q2) + r.1 := a11
      have a12 : b.2.1 + (tkE T n q2 - q2) ≤ r.2.2.2.2.2.2.1 := a12
      exact ⟨⟨a1, a2, a3, fun i hi => (a4 i hi).trans (updN_o hi), a5⟩, by omega, a7, by omega, a9, a10, by omega, by omega, a13⟩
    by_cases c0 : c = 0
    · rw [if_pos c0] at hG
      by_cases z : tkK T n q = 7
      · rw [if_pos z] at hG; exact fin z hG
      · rw [if_neg z] at hG; exact it q (Nat.le_refl _) hq hG
    · rw [if_neg c0] at hG
      by_cases z : tkK T n q = 12
      · rw [if_pos z] at hG
        rcases pT_any hG with ⟨_, y⟩ | ⟨_, hx⟩
        · cases y
        · exact it _ hN.1 hN.2.1 hx
      · rw [if_neg z] at hG
        by_cases y : tkK T n q = 7
        · rw [if_pos y] at hG; exact fin y hG
        · rw [if_neg y] at hG; cases hG
theorem gPI_t {β : Type} {E : En} {c q v : Nat} {b : BT} {k : Nat → DV → Option (Option β)} (hq : q ≤ n) (hk : ∀ m q1, q ≤ q1 → q1 ≤ n → tkK T n q1 = 26 → ∃ y, k m (tkN T n q1, eTl T n E q1 v b, v + 1, bTl T n E q1 v b) = some y) : ∃ y, gPI T n pr E c q v b k = some y := by
  have hN := tkN_b T n q hq
  unfold gPI
  have J : ∀ m q1 : Nat, q ≤ q1 → q1 ≤ n → ∃ y, gPJ T n E c m q1 v b k = some y := by
    intro m q1 h2 h3
    unfold gPJ
    by_cases c8 : c = 8
    · rw [if_pos c8]; exact ⟨_, rfl⟩
    · rw [if_neg c8]
      unfold gTl
      by_cases z : tlC T n E q1 v
      · rw [if_pos z]; exact pT_t (hk m q1 h2 h3 z.1)
      · rw [if_neg z]; exact ⟨_, rfl⟩
  by_cases w : pr = true ∧ (tkK T n q = 35 ∨ tkK T n q = 36 ∨ tkK T n q = 37)
  · rw [if_pos w]; exact pT_t (J _ _ hN.1 hN.2.1)
  · rw [if_neg w]; exact J 0 q (Nat.le_refl _) hq
theorem gpm_tot : ∀ (f : Nat) (E : En) (c : Nat) (md : Nat → Nat) (q v : Nat) (b : BT), q ≤ n → n - q + 1 ≤ f → ∃ y, GPm T n pr p f E c md q v b = some y
  | 0, E, c, md, q, v, b, hq, hf => absurd hf (by omega)
  | f + 1, E, c, md, q, v, b, hq, hf => by
    have ih := gpm_tot f
    have hN := tkN_b T n q hq
    rw [GPm]
    have it : ∀ q1 : Nat, q ≤ q1 → q1 ≤ n → ∃ y, gPI T n pr E c q1 v b (fun m r => GPm T n pr p f (sP r.2.1 p (c + 1)) (c + 1) (updN md c m) r.1 r.2.2.1 r.2.2.2) = some y := fun q1 h1 h2 => gPI_t h2 (fun m q2 k1 k2 k3 => by
      have hN2 := tkN_b T n q2 k2
      have := hN2.2.2.2 (by rw [k3]; decide)
      exact ih _ _ _ _ _ _ hN2.2.1 (by show n - tkN T n q2 + 1 ≤ f; omega))
    by_cases c0 : c = 0
    · rw [if_pos c0]
      by_cases z : tkK T n q = 7
      · rw [if_pos z]; exact ⟨_, rfl⟩
      · rw [if_neg z]; exact it q (Nat.le_refl _) hq
    · rw [if_neg c0]
      by_cases z : tkK T n q = 12
      · rw [if_pos z]; exact pT_t (it _ hN.1 hN.2.1)
      · rw [if_neg z]
        by_cases y : tkK T n q = 7
        · rw [if_pos y]; exact ⟨_, rfl⟩
        · rw [if_neg y]; exact ⟨_, rfl⟩
/-- params of the body -/
theorem gBod_tot {MD : Nat → Nat → Nat} {E : En} {q v : Nat} {b : BT} {s : SB} (hq : q ≤ n) (hv : v ≤ 60) (hb : 1 ≤ b.1) (hs : s.1 ≤ 400) (hw : ¬ E.2.2.2.1 = 0) : ∃ y, gBod T n pr MD E q v b s = some y := by
  have hN := tkN_b T n q hq
  unfold gBod
  by_cases h : pr = true
  · rw [if_pos h]
    refine pW_t (fun _ => pb_t (gvs_tot _ _ _ _ _ hN.2.1 hv (by unfold fu; omega)) (fun r hr => ?_))
    obtain ⟨m1, m2, m3, m4, m5, _⟩ := gvs_mo _ _ _ _ _ _ hN.2.1 hv hw hr
    refine pb_t (gs_tot _ 0 _ _ _ _ _ _ _ _ _ _ (by decide) m2 m4 hs (by rw [m5]; exact hb) (fun z => absurd z (by decide)) (by show 40 * (n - r.1) + 30 + 1 ≤ fu n; unfold fu; omega)) (fun t _ => ?_)
    exact pW_t (fun _ => pW_t (fun _ => ⟨_, rfl⟩))
  · rw [if_neg h]
    refine pW_t (fun _ => pb_t ?_ (fun t _ => pW_t (fun _ => ⟨_, rfl⟩)))
    exact g_tot T n _ 0 E 0 _ v 0 0 0 0 b (by decide) hN.2.1 hv hb trivial (by show 30 * (n - tkN T n q) + lvG 0 + 1 ≤ fu n; unfold fu; have : lvG 0 = 20 := rfl; omega)
theorem gCal_tot {E : En} {MD : Nat → Nat → Nat} {c pc v q : Nat} {b : BT} {s : SB} {F : Nat → Int32} (hq : q ≤ n) (hv : v ≤ 60) (hb : 1 ≤ b.1) (hs : s.1 ≤ 400) : ∃ y, gCal T n pr E MD c pc v b s F q = some y := by
  have hN := tkN_b T n q hq
  unfold gCal
  refine pT_t ?_
  by_cases c1 : nmC T n E c (tkN T n q)
  · rw [if_pos c1]
    have hN1 := tkN_b T n (tkN T n q) hN.2.1
    refine pT_t ?_
    by_cases c2 : tkK T n (tkN T n (tkN T n q)) = 6
    · rw [if_pos c2]
      unfold gCb
      have hN2 := tkN_b T n _ hN1.2.1
      refine pT_t (pb_t (gpm_tot _ _ _ _ _ _ _ hN2.2.1 (by unfold fu; omega)) (fun a ha => ?_))
      obtain ⟨⟨a1, a2, a3, a4, a5⟩, a6, a7, a8, a9, a10, a11, a12, a13⟩ := gpm_mo _ _ _ _ _ _ _ _ ha hN2.2.1 (by decide) updN_s
      have hN3 := tkN_b T n _ a7
      exact pT_t (pb_t (gBod_tot hN3.2.1 a9 (by rw [a10]; exact hb) hs (by rw [a3]; show ¬ c + 1 = 0; omega)) (fun z _ => ⟨_, rfl⟩))
    · rw [if_neg c2]; exact ⟨_, rfl⟩
  · rw [if_neg c1]; exact ⟨_, rfl⟩
end GPM

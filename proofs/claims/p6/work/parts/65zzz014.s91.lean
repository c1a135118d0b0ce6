/-! A program of the reference. -/
/-- declarations -/
def GDs (T : Nat → Int32) (n : Nat) : Nat → PRG → Option (Option PRG)
  | 0, _ => none
  | f + 1, g => if tkK T n g.1 = 32 then pb (pT T n g.1 (fun q1 => GVr T n (fu n) g.2.1 q1 g.2.2.2.2.2.1 g.2.2.2.2.2.2.1)) (fun r => GDs T n f (r.1, r.2.1, g.2.2.1, g.2.2.2.1, g.2.2.2.2.1, r.2.2.1, r.2.2.2, g.2.2.2.2.2.2.2))
    else if tkK T n g.1 = 34 ∨ tkK T n g.1 = 33 then pb (gCal T n (decide (tkK T n g.1 = 33)) g.2.1 g.2.2.1 g.2.2.2.1 g.2.2.2.2.1 g.2.2.2.2.2.1 g.2.2.2.2.2.2.1 g.2.2.2.2.2.2.2.1 g.2.2.2.2.2.2.2.2 g.1) (fun h => GDs T n f h)
    else some (some g)
/-- a program: its declarations, its statements -/
def gPrg (T : Nat → Int32) (n : Nat) (g0 : PRG) : Option (Option (PRG × ST)) :=
  if tkK T n (sk T n 0) = 0 then some none else pb (GDs T n (n + 1) g0) (fun g => pb (GS T n g.2.2.1 (fu n) 0 g.2.1 0 0 g.1 g.2.2.2.2.2.1 (-1) 0 0 g.2.2.2.2.2.2.1 g.2.2.2.2.2.2.2.1) (fun t => if tkK T n t.1 = 25 then some (some (g, t)) else some none))
section PRGS
variable {T : Nat → Int32} {n : Nat}
/-- what is laid so far is no more than what is read -/
def PL (n : Nat) (g : PRG) : Prop := g.1 ≤ n ∧ 1 ≤ g.2.2.2.2.2.2.1.1 ∧ g.2.2.2.2.2.2.1.1 ≤ 1 + g.1 ∧ g.2.2.2.2.2.2.1.2.1 ≤ g.1 ∧ g.2.2.2.2.2.1 ≤ 60 ∧ g.2.2.2.2.2.2.2.1.1 ≤ 400 ∧ g.2.1.2.2.2.1 = 0
theorem gBod_mo {pr : Bool} {MD : Nat → Nat → Nat} {E : En} {q v : Nat} {b : BT} {s : SB} {z : BD} (hq : q ≤ n) (hv : v ≤ 60) (hb : 1 ≤ b.1) (hs : s.1 ≤ 400) (hw : ¬ E.2.2.2.1 = 0) (h : gBod T n pr MD E q v b s = some (some z)) : q < z.1 ∧ z.1 ≤ n ∧ b.1 ≤ z.2.2.1.1 ∧ z.2.2.1.1 + q ≤ b.1 + z.1 ∧ z.2.2.1.2.1 + q ≤ b.2.1 + z.1 ∧ z.2.2.2.1 ≤ 400 := by
  have hN := tkN_b T n q hq
  unfold gBod at h
  by_cases e : pr = true
  · rw [if_pos e] at h
    rcases pW_any h with ⟨_, y⟩ | ⟨y1, h⟩
    · cases y
    rcases pb_any h with ⟨_, y⟩ | ⟨r, hr, h⟩
    · cases y
    rcases pb_any h with ⟨_, y⟩ | ⟨t, ht, h⟩
    · cases y
    rcases pW_any h with ⟨_, y⟩ | ⟨_, h⟩
    · cases y
    rcases pW_any h with ⟨_, y⟩ | ⟨_, h⟩
    · cases y
    obtain rfl := Option.some.inj (Option.some.inj h)
    have hN1 := hN.2.2.2 (by rw [y1.1]; decide)
    obtain ⟨m1, m2, m3, m4, m5, m6, m7, _⟩ := gvs_mo _ _ _ _ _ _ hN.2.1 hv hw hr
    obtain ⟨⟨k1, k2, k3, k4, k5, k6, k7, k8, k9, k10⟩, _⟩ := gs_mo _ 0 _ _ _ _ _ _ _ _ _ _ _ r.2.2.2.1 (by decide) m2 m4 hs ht (by rw [m5]; exact hb) (Nat.le_refl _) (fun _ z => absurd rfl z) (fun z => absurd z (by decide))
    have hN2 := tkN_b T n t.1 k2
    have hN3 := tkN_b T n _ hN2.2.1
    refine ⟨?_, hN3.2.1, ?_, ?_, ?_, k10⟩
    · show q < tkN T n (tkN T n t.1); omega
    · show b.1 ≤ t.2.2.2.2.1.1; omega
    · show t.2.2.2.2.1.1 + q ≤ b.1 + tkN T n (tkN T n t.1); omega
    · show t.2.2.2.2.1.2.1 + q ≤ b.2.1 + tkN T n (tkN T n t.1); omega
  · rw [if_neg e] at h
    rcases pW_any h with ⟨_, y⟩ | ⟨y1, h⟩
    · cases y
    rcases pb_any h with ⟨_, y⟩ | ⟨t, ht, h⟩
    · cases y
    rcases pW_any h with ⟨_, y⟩ | ⟨_, h⟩
    · cases y
    obtain rfl := Option.some.inj (Option.some.inj h)
    have hN1 := hN.2.2.2 (by rw [y1.1]; decide)
    obtain ⟨⟨k1, k2, k3, k4, k5, k6, k7, k8⟩, _⟩ := mo_of (M := b.1) hN.2.1 hv ht (Nat.le_refl _) hb trivial (fun h => h) (fun h => h)
    have hN2 := tkN_b T n t.1 k2
    refine ⟨?_, hN2.2.1, ?_, ?_, ?_, hs⟩
    · show q < tkN T n t.1; omega
    · show b.1 ≤ t.2.2.2.2.1.1; omega
    · show t.2.2.2.2.1.1 + q ≤ b.1 + tkN T n t.1; omega
    · show t.2.2.2.2.1.2.1 + q ≤ b.2.1 + tkN T n t.1; omega
theorem gCal_mo {pr : Bool} {E : En} {MD : Nat → Nat → Nat} {c pc v q : Nat} {b : BT} {s : SB} {F : Nat → Int32} {g : PRG} (hq : q ≤ n) (hv : v ≤ 60) (hb : 1 ≤ b.1) (hs : s.1 ≤ 400) (hl : b.1 ≤ 1 + q ∧ b.2.1 ≤ q) (h : gCal T n pr E MD c pc v b s F q = some (some g)) : q < g.1 ∧ PL n g := by
  have hN := tkN_b T n q hq
  unfold gCal at h
  rcases pT_any h with ⟨_, y⟩ | ⟨_, h⟩
  · cases y
  by_cases c1 : nmC T n E c (tkN T n q)
  · rw [if_pos c1] at h
    have hN1 := tkN_b T n (tkN T n q) hN.2.1
    have hE1 := tkE_b T n (tkN T n q) hN.2.1
    rcases pT_any h with ⟨_, y⟩ | ⟨_, h⟩
    · cases y
    by_cases c2 : tkK T n (tkN T n (tkN T n q)) = 6
    · rw [if_pos c2] at h
      unfold gCb at h
      have hN2 := tkN_b T n _ hN1.2.1
      rcases pT_any h with ⟨_, y⟩ | ⟨_, h⟩
      · cases y
      rcases pb_any h with ⟨_, y⟩ | ⟨a, ha, h⟩
      · cases y
      obtain ⟨⟨a1, a2, a3, a4, a5⟩, a6, a7, a8, a9, a10, a11, a12, a13⟩ := gpm_mo _ _ _ _ _ _ _ _ ha hN2.2.1 (by decide) updN_s
      have a11 : a.2.2.2.2.2.2.1 + tkN T n (tkN T n (tkN T n q)) ≤ b.2.1 + (tkE T n (tkN T n q) - tkN T n q) + a.1 := a11
      have a10 : a.2.2.2.2.2.1 = b.1 := a10
      have hN3 := tkN_b T n _ a7
      rcases pT_any h with ⟨_, y⟩ | ⟨_, h⟩
      · cases y
      rcases pb_any h with ⟨_, y⟩ | ⟨z, hz, h⟩
      · cases y
      obtain rfl := Option.some.inj (Option.some.inj h)
      obtain ⟨k1, k2, k3, k4, k5, k6⟩ := gBod_mo hN3.2.1 a9 (by rw [a10]; exact hb) hs (by rw [a3]; show ¬ c + 1 = 0; omega) hz
      refine ⟨?_, ?_, ?_, ?_, ?_, hv, k6, rfl⟩
      · show q < z.1; omega
      · exact k2
      · show 1 ≤ z.2.2.1.1; omega
      · show z.2.2.1.1 ≤ 1 + z.1; omega
      · show z.2.2.1.2.1 ≤ z.1; omega
    · rw [if_neg c2] at h; cases h
  · rw [if_neg c1] at h; cases h
theorem gds_mo : ∀ (f : Nat) (g h : PRG), GDs T n f g = some (some h) → PL n g → PL n h
  | 0, g, h, hG, _ => by cases hG
  | f + 1, g, h, hG, hP => by
    have ih := gds_mo f
    obtain ⟨p1, p2, p3, p4, p5, p6, p7⟩ := hP
    have hN := tkN_b T n g.1 p1
    rw [GDs] at hG
    by_cases c1 : tkK T n g.1 = 32
    · rw [if_pos c1] at hG
      rcases pb_any hG with ⟨_, y⟩ | ⟨r, hr, hG⟩
      · cases y
      rcases pT_any hr with ⟨_, y⟩ | ⟨_, hr⟩
      · cases y
      obtain ⟨m1, m2, m3, m4, m5, m6, m7, m8, _⟩ := gvr_mo _ _ _ _ _ _ hN.2.1 p5 hr
      refine ih _ _ hG ⟨m2, ?_, ?_, ?_, m4, p6, ?_⟩
      · show 1 ≤ r.2.2.2.1; omega
      · show r.2.2.2.1 ≤ 1 + r.1; omega
      · show r.2.2.2.2.1 ≤ r.1; omega
      · show r.2.1.2.2.2.1 = 0; rw [m8]; exact p7
    · rw [if_neg c1] at hG
      by_cases c2 : tkK T n g.1 = 34 ∨ tkK T n g.1 = 33
      · rw [if_pos c2] at hG
        rcases pb_any hG with ⟨_, y⟩ | ⟨r, hr, hG⟩
        · cases y
        exact ih _ _ hG (gCal_mo p1 p5 p2 p6 ⟨p3, p4⟩ hr).2
      · rw [if_neg c2] at hG
        obtain rfl := Option.some.inj (Option.some.inj hG)
        exact ⟨p1, p2, p3, p4, p5, p6, p7⟩
theorem gds_tot : ∀ (f : Nat) (g : PRG), PL n g → n - g.1 + 1 ≤ f → ∃ y, GDs T n f g = some y
  | 0, g, _, hf => absurd hf (by omega)
  | f + 1, g, hP, hf => by
    have ih := gds_tot f
    obtain ⟨p1, p2, p3, p4, p5, p6, p7⟩ := hP
    have hN := tkN_b T n g.1 p1
    rw [GDs]
    by_cases c1 : tkK T n g.1 = 32
    · rw [if_pos c1]
      refine pb_t (pT_t (gvr_tot _ _ _ _ _ hN.2.1 (by unfold fu; omega))) (fun r hr => ?_)
      rcases pT_any hr with ⟨_, y⟩ | ⟨_, hr⟩
      · cases y
      obtain ⟨m1, m2, m3, m4, m5, m6, m7, m8, _⟩ := gvr_mo _ _ _ _ _ _ hN.2.1 p5 hr
      refine ih _ ⟨m2, ?_, ?_, ?_, m4, p6, ?_⟩ ?_
      · show 1 ≤ r.2.2.2.1; omega
      · show r.2.2.2.1 ≤ 1 + r.1; omega
      · show r.2.2.2.2.1 ≤ r.1; omega
      · show r.2.1.2.2.2.1 = 0; rw [m8]; exact p7
      · show n - r.1 + 1 ≤ f; omega
    · rw [if_neg c1]
      by_cases c2 : tkK T n g.1 = 34 ∨ tkK T n g.1 = 33
      · rw [if_pos c2]
        refine pb_t (gCal_tot p1 p5 p2 p6) (fun r hr => ?_)
        obtain ⟨k1, k2⟩ := gCal_mo p1 p5 p2 p6 ⟨p3, p4⟩ hr
        exact ih _ k2 (by omega)
      · rw [if_neg c2]; exact ⟨_, rfl⟩
end PRGS

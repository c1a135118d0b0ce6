/-! A program as it is read: its tables. -/
/-- names: slots of variables, numbers of funcs and procs -/
def PEn (E : En) (c : Nat) : Prop := (∀ x ∈ E.1, (x.2.2.1 = 1 → x.2.2.2 < 60) ∧ (¬ x.2.2.1 = 1 → x.2.2.2 < c ∧ E.2.2.2.2.2.2 x.2.2.2 ≤ 8)) ∧ ∀ i, i < c → ∃ x ∈ E.1, ¬ x.2.2.1 = 1 ∧ x.2.2.2 = i
section PEN
variable {T : Nat → Int32} {n : Nat}
theorem gvr_e {c : Nat} : ∀ (f : Nat) (E : En) (q v : Nat) (b : BT) (r : DV), E.2.2.2.1 = 0 → v ≤ 60 → GVr T n f E q v b = some (some r) → PEn E c → PEn r.2.1 c := by
  intro f
  induction f with
  | zero => intro E q v b r _ _ hG; cases hG
  | succ f ih =>
    intro E q v b r h0 hv hG hP
    rw [GVr, if_pos h0] at hG
    rcases gTe_any hG with ⟨_, y⟩ | ⟨⟨⟨k, _, v6⟩, t⟩, hG⟩
    · cases y
    have P1 : PEn (eTe T n E q v b) c := by
      refine ⟨fun x hx => ?_, fun i hi => ?_⟩
      · rcases List.mem_append.mp (show x ∈ E.1 ++ [(tkS T n q, b.2.1, 1, v)] from hx) with z | z
        · exact hP.1 x z
        · rw [List.mem_singleton.mp z]
          exact ⟨fun _ => by show v < 60; omega, fun z => absurd rfl z⟩
      · obtain ⟨x, x1, x2⟩ := hP.2 i hi
        exact ⟨x, List.mem_append_left _ x1, x2⟩
    by_cases c1 : tkK T n (tkN T n q) = 12
    · rw [if_pos c1] at hG
      obtain ⟨_, hG⟩ := pT_s hG
      exact ih _ _ _ _ _ (show (eTe T n E q v b).2.2.2.1 = 0 from h0) (show v + 1 ≤ 60 by omega) hG P1
    · rw [if_neg c1] at hG
      obtain ⟨_, _, hG⟩ := pW_s hG
      cases hG
      exact P1
theorem gCal_e {pr : Bool} {E : En} {MD : Nat → Nat → Nat} {c pc v q : Nat} {b : BT} {s : SB} {F : Nat → Int32} {g : PRG} (hq : q ≤ n) (hG : gCal T n pr E MD c pc v b s F q = some (some g)) (hP : PEn E c) : PEn g.2.1 g.2.2.2.1 := by
  unfold gCal at hG
  obtain ⟨_, hG⟩ := pT_s hG
  have u0 := tkN_b T n q hq
  by_cases c1 : nmC T n E c (tkN T n q)
  case neg => rw [if_neg c1] at hG; cases hG
  rw [if_pos c1] at hG
  obtain ⟨_, hG⟩ := pT_s hG
  have u1 := tkN_b T n _ u0.2.1
  by_cases c2 : tkK T n (tkN T n (tkN T n q)) = 6
  case neg => rw [if_neg c2] at hG; cases hG
  rw [if_pos c2] at hG
  unfold gCb at hG
  obtain ⟨_, hG⟩ := pT_s hG
  have u2 := tkN_b T n _ u1.2.1
  obtain ⟨a, ga, hG⟩ := pb_s hG
  obtain ⟨_, hG⟩ := pT_s hG
  obtain ⟨z, gz, hG⟩ := pb_s hG
  obtain ⟨⟨m1, m2, m3, m4, m5⟩, _⟩ := gpm_mo _ _ _ _ _ _ _ _ ga u2.2.1 (by decide) updN_s
  have kk : ¬ (if pr = true then 3 else 2) = 1 := by
    by_cases e : pr = true
    · rw [if_pos e]; decide
    · rw [if_neg e]; decide
  have N0 : NmC (c + 1) 0 (bKeep b T (tkN T n q) (tkE T n (tkN T n q) - tkN T n q)) (fun _ => True) (eC1 T n pr E c (tkN T n q) b) := by
    refine ⟨fun x hx => absurd hx (List.not_mem_nil), fun x hx x1 => ⟨trivial, ?_⟩⟩
    rcases List.mem_append.mp (show x ∈ E.1 ++ [(tkS T n (tkN T n q), b.2.1, (if pr = true then 3 else 2), c)] from hx) with y | y
    · exact (hP.1 x y).1 x1
    · rw [List.mem_singleton.mp y] at x1; exact absurd x1 kk
  obtain ⟨l1, l2, ⟨l3, l4⟩, _⟩ := gpm_l _ _ _ _ _ _ _ _ ga u2.2.1 (by decide) rfl (by decide) N0 (fun s hs => absurd hs (Nat.not_lt_zero _)) (fun s hs => absurd hs (Nat.not_lt_zero _))
  cases hG
  have m1 : a.2.1.1 = E.1 ++ [(tkS T n (tkN T n q), b.2.1, (if pr = true then 3 else 2), c)] := m1
  refine ⟨fun x hx => ?_, fun i hi => ?_⟩
  · have hx : x ∈ a.2.1.1 := hx
    rw [m1] at hx
    rcases List.mem_append.mp hx with y | y
    · refine ⟨(hP.1 x y).1, fun xk => ?_⟩
      obtain ⟨h1, h2⟩ := (hP.1 x y).2 xk
      refine ⟨Nat.lt_succ_of_lt h1, ?_⟩
      show a.2.1.2.2.2.2.2.2 x.2.2.2 ≤ 8
      rw [m4 _ (by omega)]
      show updN E.2.2.2.2.2.2 c 0 x.2.2.2 ≤ 8
      rw [updN_o (by omega)]; exact h2
    · rw [List.mem_singleton.mp y]
      refine ⟨fun z => absurd z kk, fun _ => ⟨Nat.lt_succ_self _, ?_⟩⟩
      show a.2.1.2.2.2.2.2.2 c ≤ 8
      rw [m5]; exact l4
  · have hi : i < c + 1 := hi
    by_cases e : i = c
    · refine ⟨_, show (tkS T n (tkN T n q), b.2.1, (if pr = true then 3 else 2), c) ∈ a.2.1.1 from ?_, kk, e.symm⟩
      rw [m1]; exact List.mem_append_right _ (List.mem_singleton.mpr rfl)
    · obtain ⟨x, x1, x2⟩ := hP.2 i (by omega)
      refine ⟨x, show x ∈ a.2.1.1 from ?_, x2⟩
      rw [m1]; exact List.mem_append_left _ x1
theorem gds_e : ∀ (f : Nat) (g g' : PRG), GDs T n f g = some (some g') → PL n g → PEn g.2.1 g.2.2.2.1 → PEn g'.2.1 g'.2.2.2.1 := by
  intro f
  induction f with
  | zero => intro g g' hG; cases hG
  | succ f ih =>
    intro g g' hG hP hE
    obtain ⟨p1, p2, p3, p4, p5, p6, p7⟩ := id hP
    have hN := tkN_b T n g.1 p1
    rw [GDs] at hG
    by_cases c1 : tkK T n g.1 = 32
    · rw [if_pos c1] at hG
      obtain ⟨r, hr, hG⟩ := pb_s hG
      obtain ⟨_, hr⟩ := pT_s hr
      obtain ⟨m1, m2, m3, m4, m5, m6, m7, m8, m9, m10, m11, m12⟩ := gvr_mo _ _ _ _ _ _ hN.2.1 p5 hr
      exact ih _ _ hG ⟨m2, by show 1 ≤ r.2.2.2.1; omega, by show r.2.2.2.1 ≤ 1 + r.1; omega, by show r.2.2.2.2.1 ≤ r.1; omega, m4, p6, by show r.2.1.2.2.2.1 = 0; rw [m8]; exact p7⟩ (gvr_e _ _ _ _ _ _ p7 p5 hr hE)
    · rw [if_neg c1] at hG
      by_cases c2 : tkK T n g.1 = 34 ∨ tkK T n g.1 = 33
      · rw [if_pos c2] at hG
        obtain ⟨r, hr, hG⟩ := pb_s hG
        exact ih _ _ hG (gCal_mo p1 p5 p2 p6 ⟨p3, p4⟩ hr).2 (gCal_e p1 hr hE)
      · rw [if_neg c2] at hG
        cases hG
        exact hE
end PEN
/-- which slots count -/
def fgP (g : PRG) (t : ST) (i : Nat) : Int32 := if i < 60 then (if i < t.2.1 then t.2.2.2.2.1.2.2.2.2 i else 0) else if i < 60 * (1 + g.2.2.2.1) ∧ i % 60 < (g.2.2.2.2.2.2.2.2 (100 + (i / 60 - 1))).toNatClampNeg then g.2.2.2.2.2.2.2.2 (1000 + i) else 0
/-- counts of a program -/
def cnP (g : PRG) (t : ST) (i : Nat) : Int32 := if i = 1 then nI t.2.2.2.2.1.1 else if i = 2 then nI t.2.2.2.2.1.2.1 else if i = 3 then nI t.2.2.2.2.2.1 else nI g.2.2.2.1
/-- the tables of a program -/
def TPg (g : PRG) (t : ST) (KB a i : Nat) : Int32 := if a ≤ 9 then t.2.2.2.2.1.2.2.1 a i else if a = 10 then t.2.2.2.2.2.2.1 i else if a = 11 then t.2.2.2.2.2.2.2 i else if a = 12 then t.2.2.2.2.1.2.2.2.1 i else if a = 17 then g.2.2.2.2.2.2.2.2 i else if a = 18 then nI (g.2.1.2.2.2.2.2.2 i) else if a = 19 then nI (g.2.2.1 (i / 8) (i % 8)) else if a = 20 then fgP g t i else if a = 21 then (if i = 0 then nI t.2.1 else g.2.2.2.2.2.2.2.2 (100 + (i - 1))) else if a = 98 then cnP g t i else nI KB
/-- funcs of a program -/
def FNg (g : PRG) (fn m : Nat) : Prop := ∃ x ∈ g.2.1.1, x.2.2.1 = 2 ∧ x.2.2.2 = fn ∧ m = g.2.1.2.2.2.2.2.2 fn
/-- its variables -/
def GFg (g : PRG) (s : Nat) : Prop := ∃ x ∈ g.2.1.1, x.2.2.1 = 1 ∧ x.2.2.2 = s
section TPR
variable {g : PRG} {t : ST} {KB i a : Nat}
theorem TPg_n (h : a ≤ 9) : TPg g t KB a i = t.2.2.2.2.1.2.2.1 a i := if_pos h
theorem TPg_10 : TPg g t KB 10 i = t.2.2.2.2.2.2.1 i := rfl
theorem TPg_11 : TPg g t KB 11 i = t.2.2.2.2.2.2.2 i := rfl
theorem TPg_12 : TPg g t KB 12 i = t.2.2.2.2.1.2.2.2.1 i := rfl
theorem TPg_17 : TPg g t KB 17 i = g.2.2.2.2.2.2.2.2 i := rfl
theorem TPg_18 : TPg g t KB 18 i = nI (g.2.1.2.2.2.2.2.2 i) := rfl
theorem TPg_19 : TPg g t KB 19 i = nI (g.2.2.1 (i / 8) (i % 8)) := rfl
theorem TPg_20 : TPg g t KB 20 i = fgP g t i := rfl
theorem TPg_21 : TPg g t KB 21 (1 + i) = g.2.2.2.2.2.2.2.2 (100 + i) := by
  show (if 1 + i = 0 then nI t.2.1 else g.2.2.2.2.2.2.2.2 (100 + (1 + i - 1))) = _
  rw [if_neg (by omega), Nat.add_sub_cancel_left]
theorem TPg_l (h : t.2.2.2.2.1.1 ≤ 70000) : LNo (TPg g t KB) % 70001 = t.2.2.2.2.1.1 := by
  show (nI t.2.2.2.2.1.1).toNatClampNeg % 70001 = _
  rw [n_cl (p := t.2.2.2.2.1.1) (by omega), Nat.mod_eq_of_lt (by omega)]
theorem TPg_p (h : t.2.2.2.2.1.2.1 ≤ 70000) : LPo (TPg g t KB) % 70001 = t.2.2.2.2.1.2.1 := by
  show (nI t.2.2.2.2.1.2.1).toNatClampNeg % 70001 = _
  rw [n_cl (p := t.2.2.2.2.1.2.1) (by omega), Nat.mod_eq_of_lt (by omega)]
theorem TPg_s (h : t.2.2.2.2.2.1 ≤ 401) : SNo (TPg g t KB) % 402 = t.2.2.2.2.2.1 := by
  show (nI t.2.2.2.2.2.1).toNatClampNeg % 402 = _
  rw [n_cl (p := t.2.2.2.2.2.1) (by omega), Nat.mod_eq_of_lt (by omega)]
theorem TPg_c (h : g.2.2.2.1 ≤ 41) : CNo (TPg g t KB) % 42 = g.2.2.2.1 := by
  show (nI g.2.2.2.1).toNatClampNeg % 42 = _
  rw [n_cl (p := g.2.2.2.1) (by omega), Nat.mod_eq_of_lt (by omega)]
theorem TPg_k (h : KB ≤ 70000) : KBn (TPg g t KB) = KB := by
  show (nI KB).toNatClampNeg = _
  rw [n_cl (p := KB) (by omega)]
/-- slots of the i-th func or proc -/
theorem fgP_u {w h : Nat} (hi : i < g.2.2.2.1) (hh : g.2.2.2.2.2.2.2.2 (100 + i) = nI h) (h6 : h ≤ 60) (hw : w < 60) : fgP g t (60 * (1 + i) + w) = if w < h then g.2.2.2.2.2.2.2.2 (1000 + (60 * (1 + i) + w)) else 0 := by
  unfold fgP
  have e1 : (60 * (1 + i) + w) / 60 - 1 = i := by omega
  have e2 : (60 * (1 + i) + w) % 60 = w := by omega
  rw [if_neg (by omega), e1, e2, hh, n_cl (p := h) (by omega)]
  by_cases c : w < h
  · rw [if_pos ⟨by omega, c⟩, if_pos c]
  · rw [if_neg (fun z => c z.2), if_neg c]
theorem fgP_0 (h6 : t.2.1 ≤ 60) (hi : i < t.2.1) : fgP g t i = t.2.2.2.2.1.2.2.2.2 i := by
  unfold fgP; rw [if_pos (by omega), if_pos hi]
end TPR

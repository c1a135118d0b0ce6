/-! A func or proc is declared; all declarations. -/
section DCA
variable {T : Nat → Int32} {n : Nat} {FN : Nat → Nat → Prop} {GF : Nat → Prop} {Ef E : En} {MDf MD : Nat → Nat → Nat} {q v c pc : Nat} {b : BT} {s : SB} {F : Nat → Int32} {T' : Nat → Nat → Int32}
/-- the tables behind a func or proc -/
theorem AgD_un {z : BD} (hc : c < 40) (hb : 1 ≤ b.1) (h60 : z.2.1.2 ≤ 60) (h : AgD T' (bRes b.2.2.2.2 z.2.2.1) z.2.2.2 (upF F c z.2.1 z.2.2.1.2.2.2.2) (c + 1)) (top : Nat) : Agr T' (c + 1) z.2.1.2 z.2.2.1 b.1 top := by
  obtain ⟨h1, h2, h3, h4, h5, h6⟩ := h
  refine ⟨fun a i h4 h9 hi hb' _ => h1 a i h4 h9 (by omega) hb', h2, fun w hw => ?_, h3.1, h3.2⟩
  have := h6 c z.2.1.2 w (Nat.lt_succ_self _) upF_h h60 hw
  rw [upF_s hc (by omega), Nat.add_comm 1 c] at this
  exact this
theorem TbO_f {S : Nat → Nat → Nat → Nat → Prop} (hC : CmP E MD c Ef MDf) (hk : ∀ x ∈ E.1, ¬ x.2.2.1 = 1 → x.2.2.2 < c) (h : TbO T' S Ef MDf) : TbO T' S E MD := by
  intro x hx x3
  have hl := hk x hx (by rw [x3]; decide)
  have := h x (hC.1 x hx) x3
  rw [(hC.2 _ hl).1, (hC.2 _ hl).2]; exact this
theorem DIx_c {pr : Bool} {g : PRG} (hn : n ≤ 32768) (hT : ∀ i, i < n → ∃ d, d ≤ 300 ∧ T i = nI d) (hF : EnF FN GF Ef) (hq : q ≤ n) (hb : 1 ≤ b.1) (hb2 : b.1 ≤ 1 + q ∧ b.2.1 ≤ q) (hv : v ≤ 60) (hs : s.1 ≤ 400) (hG : gCal T n pr E MD c pc v b s F q = some (some g)) (h : DIx FN GF Ef MDf q E MD c v b s F) (hC : CmP g.2.1 g.2.2.1 g.2.2.2.1 Ef MDf) : DIx FN GF Ef MDf g.1 g.2.1 g.2.2.1 g.2.2.2.1 g.2.2.2.2.2.1 g.2.2.2.2.2.2.1 g.2.2.2.2.2.2.2.1 g.2.2.2.2.2.2.2.2 := by
  unfold gCal at hG
  obtain ⟨_, hG⟩ := pT_s hG
  have u0 := tkN_b T n q hq
  by_cases c1 : nmC T n E c (tkN T n q)
  case neg => rw [if_neg c1] at hG; cases hG
  rw [if_pos c1] at hG
  obtain ⟨_, hG⟩ := pT_s hG
  have u1 := tkN_b T n _ u0.2.1
  have u1' := u1.2.2.2 (by rw [c1.1]; decide)
  have e1 := tkE_b T n (tkN T n q) u0.2.1
  by_cases c2 : tkK T n (tkN T n (tkN T n q)) = 6
  case neg => rw [if_neg c2] at hG; cases hG
  rw [if_pos c2] at hG
  unfold gCb at hG
  obtain ⟨_, hG⟩ := pT_s hG
  have u2 := tkN_b T n _ u1.2.1
  obtain ⟨a, ga, hG⟩ := pb_s hG
  obtain ⟨_, hG⟩ := pT_s hG
  obtain ⟨z, gz, hG⟩ := pb_s hG
  obtain ⟨⟨m1, m2, m3, m4, m5⟩, m6, m7, m8, m9, m10, m11, m12, m13⟩ := gpm_mo _ _ _ _ _ _ _ _ ga u2.2.1 (by decide) updN_s
  have u3 := tkN_b T n _ m7
  obtain ⟨h1, h2, h3, X, A, C, h4, h5, h6⟩ := h
  have c40 : c < 40 := by have := c1.2.2; omega
  cases hG
  have m1 : a.2.1.1 = E.1 ++ [(tkS T n (tkN T n q), b.2.1, (if pr = true then 3 else 2), c)] := m1
  have m10 : a.2.2.2.2.2.1 = b.1 := m10
  have m11 : a.2.2.2.2.2.2.1 + tkN T n (tkN T n (tkN T n q)) ≤ b.2.1 + (tkE T n (tkN T n q) - tkN T n q) + a.1 := m11
  have m12 : b.2.1 + (tkE T n (tkN T n q) - tkN T n q) ≤ a.2.2.2.2.2.2.1 := m12
  have hC1 : ∀ x ∈ a.2.1.1, x ∈ Ef.1 := hC.1
  have hC2 : ∀ i, i < c + 1 → a.2.1.2.2.2.2.2.2 i = Ef.2.2.2.2.2.2 i ∧ (if i = c then a.2.2.2.1 else MD i) = MDf i := hC.2
  have mem : ∀ x ∈ a.2.1.1, x ∈ E.1 ∨ (x.2.2.1 = (if pr = true then 3 else 2) ∧ x.2.2.2 = c) := fun x hx => by
    rw [m1] at hx
    rcases List.mem_append.mp hx with y | y
    · exact Or.inl y
    · rw [List.mem_singleton.mp y]; exact Or.inr ⟨rfl, rfl⟩
  have hk' : ∀ x ∈ a.2.1.1, ¬ x.2.2.1 = 1 → x.2.2.2 < c + 1 := fun x hx hk => by
    rcases mem x hx with y | y
    · have := h1 x y hk; omega
    · omega
  have N0 : NmC (c + 1) 0 (bKeep b T (tkN T n q) (tkE T n (tkN T n q) - tkN T n q)) GF (eC1 T n pr E c (tkN T n q) b) := by
    refine ⟨fun x hx => absurd hx (List.not_mem_nil), fun x hx x1 => ?_⟩
    exact (hF x (hC1 x (by rw [m1]; exact hx))).1 x1
  obtain ⟨l1, l2, ⟨l3, l4⟩, l5, l6, l7, l8, l9⟩ := gpm_l (GF := GF) _ _ _ _ _ _ _ _ ga u2.2.1 (by decide) rfl (by decide) N0 (fun s hs => absurd hs (Nat.not_lt_zero _)) (fun s hs => absurd hs (Nat.not_lt_zero _))
  have l1 : NmC (c + 1) a.2.2.2.2.1 a.2.2.2.2.2 GF a.2.1 := l1
  have l2 : Frm (c + 1) 0 (bKeep b T (tkN T n q) (tkE T n (tkN T n q) - tkN T n q)) 0 a.2.2.2.2.2 := l2
  have m3 : a.2.1.2.2.2.1 = c + 1 := m3
  have EO : EnOK FN a.2.1 := by
    refine ⟨fun x hx => (l1.1 x hx).2.1, fun x hx x1 => ((hF x (hC1 x hx)).1 x1).2, fun x hx x2 => ?_⟩
    have hl := hk' x hx (by rw [x2]; decide)
    rw [(hC2 _ hl).1]
    exact (hF x (hC1 x hx)).2 x2
  have PZ0 : PrZ n FN GF a.2.1 0 (tkN T n a.1) a.2.2.2.2.1 a.2.2.2.2.2 s 0 := ⟨u3.2.1, m9, Nat.zero_le _, by omega, by omega, by omega, hs, EO, by rw [m3]; exact l1, by rw [m3]; omega, Nat.le_refl _⟩
  have nz : ¬ a.2.1.2.2.2.1 = 0 := by rw [m3]; omega
  have f0 : Frm (c + 1) 0 b 0 a.2.2.2.2.2 := Frm_tr (Frm_keep (vv := 0)) l2 (Nat.le_refl _) (Or.inl rfl)
  -- what is told of the tables by both kinds
  have key : ∀ (X1 : Nat → Nat → Nat → Prop) (A1 C1 : Nat), Frm (c + 1) a.2.2.2.2.1 a.2.2.2.2.2 0 z.2.2.1 → FrS s z.2.2.2 → (a.2.2.2.2.1 ≤ z.2.1.2 ∧ z.2.1.2 ≤ 60) → 2 * (A1 + C1) + tkN T n a.1 ≤ z.1 → ((pr = false → ∃ e, z.2.1.1 = nI e ∧ (1 ≤ e ∧ e < z.2.2.1.1) ∧ ∀ T', AgD T' (bRes b.2.2.2.2 z.2.2.1) z.2.2.2 (upF F c z.2.1 z.2.2.1.2.2.2.2) (c + 1) → WX T' FN 20 14 60 lcF (nI e)) ∧ (pr = true → z.2.1.1 = -1 ∨ ∃ e v', z.2.1.1 = nI e ∧ X1 0 v' e)) → (∀ (T' : Nat → Nat → Int32) (S : Nat → Nat → Nat → Nat → Prop), AgD T' (bRes b.2.2.2.2 z.2.2.1) z.2.2.2 (upF F c z.2.1 z.2.2.1.2.2.2.2) (c + 1) → HyT GF T' S Ef MDf A1 C1 → (∀ d' v' n', X1 d' v' n' → S (c + 1) d' v' n') → ∀ d' v' n', X1 d' v' n' → SOk T' FN S (c + 1) d' v' n') → DIx FN GF Ef MDf z.1 (a.2.1.1, [], [], 0, true, true, a.2.1.2.2.2.2.2.2) (fun p => if p = c then a.2.2.2.1 else MD p) (c + 1) v (bRes b.2.2.2.2 z.2.2.1) z.2.2.2 (upF F c z.2.1 z.2.2.1.2.2.2.2) := by
    intro X1 A1 C1 f1 s1 ⟨v1, v2⟩ k1 hK HS
    have ff : Frm (c + 1) 0 b 0 z.2.2.1 := Frm_tr f0 f1 (Nat.zero_le _) (Or.inl rfl)
    have g : GrD b (bRes b.2.2.2.2 z.2.2.1) s z.2.2.2 F (upF F c z.2.1 z.2.2.1.2.2.2.2) c (c + 1) := ⟨⟨ff.1, ff.2.1⟩, fun x i hi hib => ff.2.2.1 x i hib (by omega), ff.2.2.2.1, s1, Nat.le_succ _, fun i hi => ⟨upF_o (by omega), upF_o (by omega), fun w hw => upF_o (by omega)⟩⟩
    refine ⟨hk', fun x hx x1 => ?_, by omega, fun un d' v' n' => X un d' v' n' ∨ (un = c + 1 ∧ X1 d' v' n'), max A A1, max C C1, by omega, fun T' S hA hY hXS un d' v' n' y => ?_, fun i hi => ?_⟩
    · rcases mem x hx with y | y
      · obtain ⟨y1, y2⟩ := h2 x y x1
        refine ⟨y1, ?_⟩
        show (if x.2.2.2 < 60 then b.2.2.2.2 x.2.2.2 else z.2.2.1.2.2.2.2 x.2.2.2) = 1
        rw [if_pos (by omega)]; exact y2
      · rw [y.1] at x1
        by_cases e : pr = true
        · rw [if_pos e] at x1; exact absurd x1 (by decide)
        · rw [if_neg e] at x1; exact absurd x1 (by decide)
    · rcases y with y | ⟨rfl, y⟩
      · exact h5 T' S (AgD_dn hA g) (HyT_mo hY (by omega) (by omega)) (fun un d v n z => hXS un d v n (Or.inl z)) un d' v' n' y
      · exact HS T' S hA (HyT_mo hY (by omega) (by omega)) (fun d v n z => hXS (c + 1) d v n (Or.inr ⟨rfl, z⟩)) d' v' n' y
    · by_cases e : i = c
      · subst e
        have pe : a.2.1.2.2.2.2.2.2 i = a.2.2.2.2.1 := m5.trans l3
        refine ⟨z.2.1.2, v2, upF_h, ?_, ?_, fun w hw => ?_, fun x hx x2 xi => ?_, fun x hx x3 xi => ?_⟩
        · show a.2.1.2.2.2.2.2.2 i ≤ 8
          rw [m5]; exact l4
        · show a.2.1.2.2.2.2.2.2 i ≤ _
          rw [pe]; exact v1
        · have hw : w < a.2.1.2.2.2.2.2.2 i := hw
          rw [pe] at hw
          refine ⟨?_, ?_⟩
          · rw [upF_s c40 (by omega), Nat.add_comm 1 i, f1.2.2.2.2 w hw]
            exact l5 w hw
          · show (if i = i then a.2.2.2.1 else MD i) w ≤ 2
            rw [if_pos rfl]; exact l6 w hw
        · rw [upF_c]
          rcases mem x hx with y | y
          · have := h1 x y (by rw [x2]; decide); omega
          · have epr : pr = false := by
              cases pr with
              | false => rfl
              | true => rw [y.1, if_pos rfl] at x2; exact absurd x2 (by decide)
            exact hK.1 epr
        · rw [upF_c]
          rcases mem x hx with y | y
          · have := h1 x y (by rw [x3]; decide); omega
          · have epr : pr = true := by
              cases pr with
              | true => rfl
              | false => rw [y.1, if_neg (by decide)] at x3; exact absurd x3 (by decide)
            refine (hK.2 epr).imp id (fun y => ?_)
            obtain ⟨e, v', y1, y2⟩ := y
            exact ⟨e, v', y1, Or.inr ⟨Nat.add_comm 1 i, y2⟩⟩
      · have hi : i < c := by
          have : i < c + 1 := hi
          omega
        exact UnI_gr (E' := (a.2.1.1, [], [], 0, true, true, a.2.1.2.2.2.2.2.2)) (h6 i hi) hi g (fun _ _ _ _ z => Or.inl z) ((m4 i e).trans (updN_o e)) (if_neg e) (fun x hx hk xi => by
          rcases mem x hx with y | y
          · exact y
          · omega)
  have hYE : ∀ T' S A C, HyT GF T' S Ef MDf A C → HyT GF T' S a.2.1 (fun p => if p = c then a.2.2.2.1 else MD p) A C := fun T' S A C hY => ⟨hY.1, TbO_f (c := c + 1) ⟨hC1, hC2⟩ hk' hY.2.1, hY.2.2⟩
  cases pr with
  | true =>
    obtain ⟨X1, A1, C1, f1, s1, v1, k1, x1, H1⟩ := gBod_p hn hT PZ0 nz gz
    rw [m3] at f1 H1
    refine key X1 A1 C1 f1 s1 v1 k1 ⟨fun y => absurd y (by decide), fun _ => x1⟩ (fun T' S hA hY hXS => H1 T' S (Agr_up (AgD_un c40 hb v1.2 hA 0) (by omega)) ?_ (hYE _ _ _ _ hY) hXS)
    exact ⟨fun i h1 h2 => hA.2.2.2.1 i h2, hA.2.2.2.2.1⟩
  | false =>
    obtain ⟨e, x1, x2, f1, s1, v1, k1, H1⟩ := gBod_f hn hT PZ0 nz ⟨l7, l8⟩ gz
    rw [m3] at f1 H1
    exact key (fun _ _ _ => False) 0 0 f1 (by rw [s1]; exact FrS_rf) v1 (by omega) ⟨fun _ => ⟨e, x1, by omega, fun T' hA => H1 T' (Agr_up (AgD_un c40 hb v1.2 hA e) (by omega))⟩, fun y => absurd y (by decide)⟩ (fun T' S _ _ _ d' v' n' z => z.elim)
/-- names, params and modes stay -/
def ExD (g g' : PRG) : Prop := (∀ x ∈ g.2.1.1, x ∈ g'.2.1.1) ∧ g.2.2.2.1 ≤ g'.2.2.2.1 ∧ ∀ i, i < g.2.2.2.1 → g.2.1.2.2.2.2.2.2 i = g'.2.1.2.2.2.2.2.2 i ∧ g.2.2.1 i = g'.2.2.1 i
theorem ExD_tr {g g' g'' : PRG} (h : ExD g g') (h' : ExD g' g'') : ExD g g'' := ⟨fun x hx => h'.1 x (h.1 x hx), Nat.le_trans h.2.1 h'.2.1, fun i hi => ⟨(h.2.2 i hi).1.trans (h'.2.2 i (Nat.lt_of_lt_of_le hi h.2.1)).1, (h.2.2 i hi).2.trans (h'.2.2 i (Nat.lt_of_lt_of_le hi h.2.1)).2⟩⟩
theorem ExD_c {pr : Bool} {g : PRG} (hq : q ≤ n) (hG : gCal T n pr E MD c pc v b s F q = some (some g)) : ExD (q, E, MD, c, pc, v, b, s, F) g := by
  unfold gCal at hG
  obtain ⟨_, hG⟩ := pT_s hG
  have u0 := tkN_b T n q hq
  by_cases c1 : nmC T n E c (tkN T n q)
  case neg => rw [if_neg c1] at hG; cases hG
  rw [if_pos c1] at hG
  obtain ⟨_, hG⟩ := pT_s hG
  have u1 := tkN_b T n _ u0.2.1
  by_cases c2 : tkK T n (tkN T n (tkN T n q)) = 6
  case neg => rw [if_neg c2] at hG; cases hG
  rw [if_pos c2] at hG
  unfold gCb at hG
  obtain ⟨_, hG⟩ := pT_s hG
  have u2 := tkN_b T n _ u1.2.1
  obtain ⟨a, ga, hG⟩ := pb_s hG
  obtain ⟨_, hG⟩ := pT_s hG
  obtain ⟨z, gz, hG⟩ := pb_s hG
  obtain ⟨⟨m1, m2, m3, m4, m5⟩, _⟩ := gpm_mo _ _ _ _ _ _ _ _ ga u2.2.1 (by decide) updN_s
  cases hG
  refine ⟨fun x hx => ?_, Nat.le_succ _, fun i hi => ?_⟩
  · show x ∈ a.2.1.1
    rw [m1]; exact List.mem_append_left _ hx
  · have hi : i < c := hi
    refine ⟨((m4 i (by omega)).trans (updN_o (by omega))).symm, ?_⟩
    show MD i = if i = c then a.2.2.2.1 else MD i
    rw [if_neg (by omega)]
theorem CmP_ex {g g' : PRG} (h : CmP g'.2.1 g'.2.2.1 g'.2.2.2.1 Ef MDf) (e : ExD g g') : CmP g.2.1 g.2.2.1 g.2.2.2.1 Ef MDf := ⟨fun x hx => h.1 x (e.1 x hx), fun i hi => ⟨(e.2.2 i hi).1.trans (h.2 i (Nat.lt_of_lt_of_le hi e.2.1)).1, (e.2.2 i hi).2.trans (h.2 i (Nat.lt_of_lt_of_le hi e.2.1)).2⟩⟩
/-- all declarations -/
theorem gds_x : ∀ (f : Nat) (g g' : PRG), GDs T n f g = some (some g') → PL n g → ExD g g' := by
  intro f
  induction f with
  | zero => intro g g' hG; cases hG
  | succ f ih =>
    intro g g' hG hP
    obtain ⟨p1, p2, p3, p4, p5, p6, p7⟩ := id hP
    have hN := tkN_b T n g.1 p1
    rw [GDs] at hG
    by_cases c1 : tkK T n g.1 = 32
    · rw [if_pos c1] at hG
      obtain ⟨r, hr, hG⟩ := pb_s hG
      obtain ⟨_, hr⟩ := pT_s hr
      obtain ⟨m1, m2, m3, m4, m5, m6, m7, m8, m9, m10, m11, m12⟩ := gvr_mo _ _ _ _ _ _ hN.2.1 p5 hr
      have e1 := ih _ _ hG ⟨m2, by show 1 ≤ r.2.2.2.1; omega, by show r.2.2.2.1 ≤ 1 + r.1; omega, by show r.2.2.2.2.1 ≤ r.1; omega, m4, p6, by show r.2.1.2.2.2.1 = 0; rw [m8]; exact p7⟩
      refine ExD_tr (g' := (r.1, r.2.1, g.2.2.1, g.2.2.2.1, g.2.2.2.2.1, r.2.2.1, r.2.2.2, g.2.2.2.2.2.2.2)) ⟨?_, Nat.le_refl _, fun i _ => ⟨?_, rfl⟩⟩ e1
      · have hm : ∀ (f : Nat) (E : En) (q v : Nat) (b : BT) (r : DV), E.2.2.2.1 = 0 → GVr T n f E q v b = some (some r) → ∀ x ∈ E.1, x ∈ r.2.1.1 := by
          intro f
          induction f with
          | zero => intro E q v b r _ hG; cases hG
          | succ f ih2 =>
            intro E q v b r h0 hG x hx
            rw [GVr, if_pos h0] at hG
            rcases gTe_any hG with ⟨_, y⟩ | ⟨⟨⟨k, _, v6⟩, t⟩, hG⟩
            · cases y
            by_cases c : tkK T n (tkN T n q) = 12
            · rw [if_pos c] at hG
              obtain ⟨_, hG⟩ := pT_s hG
              exact ih2 _ _ _ _ _ (show (eTe T n E q v b).2.2.2.1 = 0 from h0) hG x (List.mem_append_left _ hx)
            · rw [if_neg c] at hG
              obtain ⟨_, _, hG⟩ := pW_s hG
              cases hG
              exact List.mem_append_left _ hx
        exact hm _ _ _ _ _ _ p7 hr
      · show g.2.1.2.2.2.2.2.2 i = r.2.1.2.2.2.2.2.2 i
        rw [m8]
    · rw [if_neg c1] at hG
      by_cases c2 : tkK T n g.1 = 34 ∨ tkK T n g.1 = 33
      · rw [if_pos c2] at hG
        obtain ⟨r, hr, hG⟩ := pb_s hG
        exact ExD_tr (ExD_c p1 hr) (ih _ _ hG (gCal_mo p1 p5 p2 p6 ⟨p3, p4⟩ hr).2)
      · rw [if_neg c2] at hG
        cases hG
        exact ⟨fun _ h => h, Nat.le_refl _, fun _ _ => ⟨rfl, rfl⟩⟩
theorem gds_d (hn : n ≤ 32768) (hT : ∀ i, i < n → ∃ d, d ≤ 300 ∧ T i = nI d) (hF : EnF FN GF Ef) : ∀ (f : Nat) (g g' : PRG), GDs T n f g = some (some g') → PL n g → CmP g'.2.1 g'.2.2.1 g'.2.2.2.1 Ef MDf → DIx FN GF Ef MDf g.1 g.2.1 g.2.2.1 g.2.2.2.1 g.2.2.2.2.2.1 g.2.2.2.2.2.2.1 g.2.2.2.2.2.2.2.1 g.2.2.2.2.2.2.2.2 → DIx FN GF Ef MDf g'.1 g'.2.1 g'.2.2.1 g'.2.2.2.1 g'.2.2.2.2.2.1 g'.2.2.2.2.2.2.1 g'.2.2.2.2.2.2.2.1 g'.2.2.2.2.2.2.2.2 := by
  intro f
  induction f with
  | zero => intro g g' hG; cases hG
  | succ f ih =>
    intro g g' hG hP hC hD
    obtain ⟨p1, p2, p3, p4, p5, p6, p7⟩ := id hP
    have hN := tkN_b T n g.1 p1
    rw [GDs] at hG
    by_cases c1 : tkK T n g.1 = 32
    · rw [if_pos c1] at hG
      obtain ⟨r, hr, hG⟩ := pb_s hG
      obtain ⟨_, hr⟩ := pT_s hr
      obtain ⟨m1, m2, m3, m4, m5, m6, m7, m8, m9, m10, m11, m12⟩ := gvr_mo _ _ _ _ _ _ hN.2.1 p5 hr
      exact ih _ _ hG ⟨m2, by show 1 ≤ r.2.2.2.1; omega, by show r.2.2.2.1 ≤ 1 + r.1; omega, by show r.2.2.2.2.1 ≤ r.1; omega, m4, p6, by show r.2.1.2.2.2.1 = 0; rw [m8]; exact p7⟩ hC (DIx_v p7 hN.2.1 p5 hr hD hN.1)
    · rw [if_neg c1] at hG
      by_cases c2 : tkK T n g.1 = 34 ∨ tkK T n g.1 = 33
      · rw [if_pos c2] at hG
        obtain ⟨r, hr, hG⟩ := pb_s hG
        have P2 := (gCal_mo p1 p5 p2 p6 ⟨p3, p4⟩ hr).2
        exact ih _ _ hG P2 hC (DIx_c hn hT hF p1 p2 ⟨p3, p4⟩ p5 p6 hr hD (CmP_ex hC (gds_x _ _ _ hG P2)))
      · rw [if_neg c2] at hG
        cases hG
        exact hD
end DCA

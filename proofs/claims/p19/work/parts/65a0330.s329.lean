section JnS329
/-! Bodies of funcs and procs, as the grammar lays them. -/
section BDY
variable {T : Nat → Int32} {n : Nat} {FN : Nat → Nat → Prop} {GF : Nat → Prop} {E : En} {MD : Nat → Nat → Nat} {q v : Nat} {b : BT} {s : SB} {z : BD}
theorem TbO_c {T' : Nat → Nat → Int32} {S : Nat → Nat → Nat → Nat → Prop} {E' : En} (h : TbO T' S E MD) (h1 : E'.1 = E.1) (h2 : E'.2.2 = E.2.2) : TbO T' S E' MD := by
  intro x hx hk
  rw [h1] at hx
  have := h x hx hk
  rw [h2]; exact this
theorem EnOK_c {E' : En} (h : EnOK FN E) (h1 : E'.1 = E.1) (h2 : E'.2.2 = E.2.2) (hs : ∀ x ∈ E'.2.1, x.2.2 < 60) : EnOK FN E' := by
  refine ⟨hs, fun x hx hk => ?_, fun x hx hk => ?_⟩
  · rw [h1] at hx; exact h.2.1 x hx hk
  · rw [h1] at hx; rw [h2]; exact h.2.2 x hx hk
/-- a proc -/
theorem gBod_p (hn : n ≤ 32768) (hT : ∀ i, i < n → ∃ d, d ≤ 300 ∧ T i = nI d) (hP : PrZ n FN GF E 0 q v b s 0) (hu : ¬ E.2.2.2.1 = 0) (hG : gBod T n true MD E q v b s = some (Sum.inr z)) : ∃ (X : Nat → Nat → Nat → Prop) (A C : Nat), Frm E.2.2.2.1 v b 0 z.2.2.1 ∧ FrS s z.2.2.2 ∧ (v ≤ z.2.1.2 ∧ z.2.1.2 ≤ 60) ∧ 2 * (A + C) + q ≤ z.1 ∧ (z.2.1.1 = -1 ∨ ∃ e v', z.2.1.1 = nI e ∧ X 0 v' e) ∧ ∀ (T' : Nat → Nat → Int32) (S : Nat → Nat → Nat → Nat → Prop), Agr T' E.2.2.2.1 z.2.1.2 z.2.2.1 b.1 0 → AgU T' z.2.2.2 s.1 → HyT GF T' S E MD A C → (∀ d' v' n', X d' v' n' → S E.2.2.2.1 d' v' n') → ∀ d' v' n', X d' v' n' → SOk T' FN S E.2.2.2.1 d' v' n' := by
  obtain ⟨p1, p2, p3, p4, p5, p6, p7, p8, p9, p10, p11⟩ := id hP
  unfold gBod at hG
  rw [if_pos rfl] at hG
  obtain ⟨k13, _, hG⟩ := pW_s hG
  have u1 := tkN_b T n q p1
  have u1' := u1.2.2.2 (by rw [k13]; decide)
  obtain ⟨r, g1, hG⟩ := pb_s hG
  obtain ⟨a1, a2, a3, a4⟩ := gvs_l (GF := GF) _ _ _ _ _ _ u1.2.1 hu p2 g1 p9
  obtain ⟨m1, m2, m3, m4, m5, m6, m7, m8, m9, m10⟩ := gvs_mo _ _ _ _ _ _ u1.2.1 p2 hu g1
  obtain ⟨t, g2, hG⟩ := pb_s hG
  have eu : r.2.1.2.2.2.1 = E.2.2.2.1 := by rw [m8]
  have P2 : PrZ n FN GF r.2.1 0 r.1 r.2.2.1 r.2.2.2 s 0 := ⟨m2, a4, p3, by rw [m5]; omega, by omega, by rw [m5]; exact p6, p7, EnOK_c p8 m9 m8 (fun x hx => (a1.1 x hx).2.1), by rw [eu]; exact a1, by rw [eu]; exact p10, Nat.le_refl _⟩
  have B := (x_all (FN := FN) (GF := GF) (MD := MD) hn hT (fu n)).1 r.2.1 0 0 r.1 r.2.2.1 (-1) 0 0 r.2.2.2 s t 0 P2 (by rw [m5]; exact p6) (fun z => absurd rfl z) g2
  obtain ⟨⟨n1, n2, n3, n4, n5, n6, n7, n8, n9, n10⟩, _⟩ := gs_mo (fu n) 0 r.2.1 0 0 r.1 r.2.2.1 (-1) 0 0 r.2.2.2 s t 1 (by decide) m2 a4 p7 g2 (Nat.le_refl 1) (by rw [m5]; exact p6) (fun _ z => absurd rfl z) (fun z => absurd z (by decide))
  obtain ⟨X, y, A, C, f1, s1, w1, _, g3, x1, H1⟩ := B
  rw [if_pos rfl] at w1
  rw [eu] at f1 H1
  obtain ⟨k38, _, hG⟩ := pW_s hG
  obtain ⟨_, _, hG⟩ := pW_s hG
  have u2 := tkN_b T n t.1 n2
  have u3 := tkN_b T n _ u2.2.1
  cases hG
  refine ⟨X, A, C, Frm_tr a2 f1 a3 (Or.inl rfl), s1, ⟨by show v ≤ t.2.1; omega, n4⟩, by show _ ≤ tkN T n (tkN T n t.1); omega, ?_, fun T' S hA hU hY hXS => (H1 T' S (by rw [m5]; exact hA) hU ⟨hY.1, TbO_c hY.2.1 m9 m8, hY.2.2⟩ hXS (Or.inl ⟨rfl, rfl⟩) (fun z => absurd rfl z)).1⟩
  show hd t.2.2.2.1 = -1 ∨ ∃ e v', hd t.2.2.2.1 = nI e ∧ X 0 v' e
  rw [w1]
  rcases x1 with z | ⟨z1, z2, z3⟩
  · rw [z]; exact Or.inl rfl
  · exact Or.inr ⟨y, r.2.2.1, hd_1 (by rw [m5] at z1; omega), z3⟩
/-- a func -/
theorem gBod_f (hn : n ≤ 32768) (hT : ∀ i, i < n → ∃ d, d ≤ 300 ∧ T i = nI d) (hP : PrZ n FN GF E 0 q v b s 0) (hu : ¬ E.2.2.2.1 = 0) (hw : E.2.2.2.2.1 = false ∧ E.2.2.2.2.2.1 = false) (hG : gBod T n false MD E q v b s = some (Sum.inr z)) : ∃ e, z.2.1.1 = nI e ∧ (b.1 ≤ e ∧ e < z.2.2.1.1) ∧ Frm E.2.2.2.1 v b 0 z.2.2.1 ∧ z.2.2.2 = s ∧ (v ≤ z.2.1.2 ∧ z.2.1.2 ≤ 60) ∧ q ≤ z.1 ∧ ∀ T', Agr T' E.2.2.2.1 z.2.1.2 z.2.2.1 b.1 e → WX T' FN 20 14 60 lcF (nI e) := by
  obtain ⟨p1, p2, p3, p4, p5, p6, p7, p8, p9, p10, p11⟩ := id hP
  unfold gBod at hG
  rw [if_neg (by decide)] at hG
  obtain ⟨k17, _, hG⟩ := pW_s hG
  have u1 := tkN_b T n q p1
  obtain ⟨t, g1, hG⟩ := pb_s hG
  obtain ⟨⟨a1, a2, a3, a4, a5, a6, a7, a8⟩, hF, hL, hlt, _⟩ := ex_of (GF := GF) hT u1.2.1 p2 p3 (by omega) (by omega) p6 p8 p9 g1
  obtain ⟨_, _, hG⟩ := pW_s hG
  have u2 := tkN_b T n t.1 a2
  cases hG
  refine ⟨t.2.2.2.1, rfl, ⟨hL.2.1, hL.2.2.1⟩, hF, rfl, ⟨a3, by show t.2.1 ≤ 60; omega⟩, by show q ≤ tkN T n t.1; omega, fun T' hA => ?_⟩
  have W := hL.2.2.2.2 T' hA
  refine WX_mo (WX_lc (fun j hj => ?_) W) (by omega) (Or.inl ⟨rfl, Nat.le_refl _⟩)
  rcases hj with z | z | z | z
  · exact Or.inl z.1
  · exact absurd z.1 hu
  · exact Or.inr ⟨z.2.1, z.2.2.1⟩
  · rcases z.2 with y | y
    · rw [hw.1] at y; exact absurd y.2 (by decide)
    · rw [hw.2] at y; exact absurd y.2 (by decide)
end BDY
/-- T' has what the declarations laid: nodes, pool, statements, slots of the c units -/
def AgD (T' : Nat → Nat → Int32) (b : BT) (s : SB) (F : Nat → Int32) (c : Nat) : Prop := (∀ a i, 4 ≤ a → a ≤ 9 → 1 ≤ i → i < b.1 → T' a i = b.2.2.1 a i) ∧ (∀ i, i < b.2.1 → T' 12 i = b.2.2.2.1 i) ∧ (b.1 ≤ LNo T' % 70001 ∧ b.2.1 ≤ LPo T' % 70001) ∧ (∀ i, i < s.1 → T' 10 i = s.2.1 i) ∧ s.1 ≤ SNo T' % 402 ∧ ∀ i h w, i < c → F (100 + i) = nI h → h ≤ 60 → w < h → T' 20 (60 * (1 + i) + w) = F (1000 + (60 * (1 + i) + w))
/-- the unit of the i-th func or proc -/
def UnI (FN : Nat → Nat → Prop) (X : Nat → Nat → Nat → Nat → Prop) (E : En) (MD : Nat → Nat → Nat) (b : BT) (s : SB) (F : Nat → Int32) (c i : Nat) : Prop := ∃ h, h ≤ 60 ∧ F (100 + i) = nI h ∧ E.2.2.2.2.2.2 i ≤ 8 ∧ E.2.2.2.2.2.2 i ≤ h ∧ (∀ w, w < E.2.2.2.2.2.2 i → F (1000 + (60 * (1 + i) + w)) = 1 ∧ MD i w ≤ 2) ∧ (∀ x ∈ E.1, x.2.2.1 = 2 → x.2.2.2 = i → ∃ e, F i = nI e ∧ (1 ≤ e ∧ e < b.1) ∧ ∀ T', AgD T' b s F c → WX T' FN 20 14 60 lcF (nI e)) ∧ ∀ x ∈ E.1, x.2.2.1 = 3 → x.2.2.2 = i → (F i = -1 ∨ ∃ e v', F i = nI e ∧ X (1 + i) 0 v' e)
/-- behind declarations -/
def DIx (FN : Nat → Nat → Prop) (GF : Nat → Prop) (Ef : En) (MDf : Nat → Nat → Nat) (q : Nat) (E : En) (MD : Nat → Nat → Nat) (c v : Nat) (b : BT) (s : SB) (F : Nat → Int32) : Prop := (∀ x ∈ E.1, ¬ x.2.2.1 = 1 → x.2.2.2 < c) ∧ GlF E v b ∧ c ≤ 40 ∧ ∃ (X : Nat → Nat → Nat → Nat → Prop) (A C : Nat), 2 * (A + C) ≤ q ∧ (∀ (T' : Nat → Nat → Int32) (S : Nat → Nat → Nat → Nat → Prop), AgD T' b s F c → HyT GF T' S Ef MDf A C → (∀ un d v n, X un d v n → S un d v n) → ∀ un d v n, X un d v n → SOk T' FN S un d v n) ∧ ∀ i, i < c → UnI FN X E MD b s F c i
/-- names, params and modes are those of the end -/
def CmP (E : En) (MD : Nat → Nat → Nat) (c : Nat) (Ef : En) (MDf : Nat → Nat → Nat) : Prop := (∀ x ∈ E.1, x ∈ Ef.1) ∧ ∀ i, i < c → E.2.2.2.2.2.2 i = Ef.2.2.2.2.2.2 i ∧ MD i = MDf i
/-- what the names of the end say -/
def EnF (FN : Nat → Nat → Prop) (GF : Nat → Prop) (Ef : En) : Prop := ∀ x ∈ Ef.1, (x.2.2.1 = 1 → GF x.2.2.2 ∧ x.2.2.2 < 60) ∧ (x.2.2.1 = 2 → FN x.2.2.2 (Ef.2.2.2.2.2.2 x.2.2.2) ∧ Ef.2.2.2.2.2.2 x.2.2.2 ≤ 60)
section DIS
variable {T : Nat → Int32} {n : Nat} {FN : Nat → Nat → Prop} {GF : Nat → Prop} {Ef E E' : En} {MDf MD MD' : Nat → Nat → Nat} {q q' v v' c c' : Nat} {b b' : BT} {s s' : SB} {F F' : Nat → Int32} {T' : Nat → Nat → Int32}
/-- the tables only grow -/
def GrD (b b' : BT) (s s' : SB) (F F' : Nat → Int32) (c c' : Nat) : Prop := (b.1 ≤ b'.1 ∧ b.2.1 ≤ b'.2.1) ∧ (∀ a i, 1 ≤ i → i < b.1 → b'.2.2.1 a i = b.2.2.1 a i) ∧ (∀ i, i < b.2.1 → b'.2.2.2.1 i = b.2.2.2.1 i) ∧ FrS s s' ∧ c ≤ c' ∧ (∀ i, i < c → F' i = F i ∧ F' (100 + i) = F (100 + i) ∧ ∀ w, w < 60 → F' (1000 + (60 * (1 + i) + w)) = F (1000 + (60 * (1 + i) + w)))
theorem AgD_dn (h : AgD T' b' s' F' c') (g : GrD b b' s s' F F' c c') : AgD T' b s F c := by
  obtain ⟨h1, h2, h3, h4, h5, h6⟩ := h
  obtain ⟨g1, g2, g3, g4, g5, g6⟩ := g
  refine ⟨fun a i a4 a9 i1 hi => (h1 a i a4 a9 i1 (by omega)).trans (g2 a i i1 hi), fun i hi => (h2 i (by omega)).trans (g3 i hi), by omega, fun i hi => (h4 i (Nat.lt_of_lt_of_le hi g4.1)).trans (g4.2 i hi), Nat.le_trans g4.1 h5, fun i h w hi e1 e2 hw => ?_⟩
  obtain ⟨_, k2, k3⟩ := g6 i hi
  rw [h6 i h w (by omega) (k2.trans e1) e2 hw]; exact k3 w (by omega)
theorem UnI_gr {X X' : Nat → Nat → Nat → Nat → Prop} {i : Nat} (h : UnI FN X E MD b s F c i) (hi : i < c) (g : GrD b b' s s' F F' c c') (hX : ∀ un d v n, X un d v n → X' un d v n) (hp : E'.2.2.2.2.2.2 i = E.2.2.2.2.2.2 i) (hm : MD' i = MD i) (hE : ∀ x ∈ E'.1, ¬ x.2.2.1 = 1 → x.2.2.2 = i → x ∈ E.1) : UnI FN X' E' MD' b' s' F' c' i := by
  obtain ⟨h, h1, h2, h3, h4, h5, h6, h7⟩ := h
  obtain ⟨k1, k2, k3⟩ := g.2.2.2.2.2 i hi
  refine ⟨h, h1, k2.trans h2, by rw [hp]; exact h3, by rw [hp]; exact h4, fun w hw => ?_, fun x hx x2 xi => ?_, fun x hx x3 xi => ?_⟩
  · rw [hp] at hw
    obtain ⟨y1, y2⟩ := h5 w hw
    exact ⟨(k3 w (by omega)).trans y1, by rw [hm]; exact y2⟩
  · obtain ⟨e, y1, y2, y3⟩ := h6 x (hE x hx (by rw [x2]; decide) xi) x2 xi
    exact ⟨e, k1.trans y1, ⟨y2.1, Nat.lt_of_lt_of_le y2.2 g.1.1⟩, fun T' hA => y3 T' (AgD_dn hA g)⟩
  · rcases h7 x (hE x hx (by rw [x3]; decide) xi) x3 xi with y | ⟨e, v', y1, y2⟩
    · exact Or.inl (k1.trans y)
    · exact Or.inr ⟨e, v', k1.trans y1, hX _ _ _ _ y2⟩
/-- variables of the program are told -/
theorem DIx_v {f : Nat} {r : DV} (h0 : E.2.2.2.1 = 0) (hq : q ≤ n) (hv : v ≤ 60) (hG : GVr T n f E q v b = some (Sum.inr r)) (h : DIx FN GF Ef MDf q' E MD c v b s F) (hq' : q' ≤ q) : DIx FN GF Ef MDf r.1 r.2.1 MD c r.2.2.1 r.2.2.2 s F := by
  obtain ⟨h1, h2, h3, X, A, C, h4, h5, h6⟩ := h
  obtain ⟨a1, a2, a3, a4⟩ := gvr_g _ _ _ _ _ _ h0 hG h2
  obtain ⟨m1, m2, m3, m4, m5, m6, m7, m8, m9, m10, m11, m12⟩ := gvr_mo _ _ _ _ _ _ hq hv hG
  have g : GrD b r.2.2.2 s s F F c c := ⟨⟨by omega, m7⟩, fun a i _ _ => by rw [m12], a3.2.2.2.1, FrS_rf, Nat.le_refl _, fun i _ => ⟨rfl, rfl, fun _ _ => rfl⟩⟩
  refine ⟨fun x hx hk => h1 x (m11 x hx hk) hk, a1, h3, X, A, C, by omega, fun T' S hA => h5 T' S (AgD_dn hA g), fun i hi => UnI_gr (h6 i hi) hi g (fun _ _ _ _ z => z) (by rw [m8]) rfl (fun x hx hk _ => m11 x hx hk)⟩
end DIS
end JnS329
section JnS330
/-! A func or proc is declared; all declarations. -/
section DCA
variable {T : Nat → Int32} {n : Nat} {FN : Nat → Nat → Prop} {GF : Nat → Prop} {Ef E : En} {MDf MD : Nat → Nat → Nat} {q v c pc : Nat} {b : BT} {s : SB} {F : Nat → Int32} {T' : Nat → Nat → Int32}
/-- the tables behind a func or proc -/
theorem AgD_un {z : BD} (hc : c < 40) (hb : 1 ≤ b.1) (h60 : z.2.1.2 ≤ 60) (h : AgD T' (bRes b.2.2.2.2 z.2.2.1) z.2.2.2 (upF F c z.2.1 z.2.2.1.2.2.2.2) (c + 1)) (top : Nat) : Agr T' (c + 1) z.2.1.2 z.2.2.1 b.1 top := by
  obtain ⟨h1, h2, h3, h4, h5, h6⟩ := h
  refine ⟨fun a i h4 h9 hi hb' _ => h1 a i h4 h9 (by omega) hb', h2, fun w hw => ?_, h3.1, h3.2⟩
  have := h6 c z.2.1.2 w (Nat.lt_succ_self _) upF_h h60 hw
  rw [upF_s hc (by omega), Nat.add_comm 1 c] at this
  exact this
theorem TbO_f {S : Nat → Nat → Nat → Nat → Prop} (hC : CmP E MD c Ef MDf) (hk : ∀ x ∈ E.1, ¬ x.2.2.1 = 1 → x.2.2.2 < c) (h : TbO T' S Ef MDf) : TbO T' S E MD := by
  intro x hx x3
  have hl := hk x hx (by rw [x3]; decide)
  have := h x (hC.1 x hx) x3
  rw [(hC.2 _ hl).1, (hC.2 _ hl).2]; exact this
theorem DIx_c {pr : Bool} {g : PRG} (hn : n ≤ 32768) (hT : ∀ i, i < n → ∃ d, d ≤ 300 ∧ T i = nI d) (hF : EnF FN GF Ef) (hq : q ≤ n) (hb : 1 ≤ b.1) (hb2 : b.1 ≤ 1 + q ∧ b.2.1 ≤ q) (hv : v ≤ 60) (hs : s.1 ≤ 400) (hG : gCal T n pr E MD c pc v b s F q = some (Sum.inr g)) (h : DIx FN GF Ef MDf q E MD c v b s F) (hC : CmP g.2.1 g.2.2.1 g.2.2.2.1 Ef MDf) : DIx FN GF Ef MDf g.1 g.2.1 g.2.2.1 g.2.2.2.1 g.2.2.2.2.2.1 g.2.2.2.2.2.2.1 g.2.2.2.2.2.2.2.1 g.2.2.2.2.2.2.2.2 := by
  unfold gCal at hG
  obtain ⟨_, hG⟩ := pT_s hG
  have u0 := tkN_b T n q hq
  by_cases c1 : nmC T n E c (tkN T n q)
  case neg => rw [if_neg c1] at hG; cases hG
  rw [if_pos c1] at hG
  obtain ⟨_, hG⟩ := pT_s hG
  have u1 := tkN_b T n _ u0.2.1
  have u1' := u1.2.2.2 (by rw [c1.1]; decide)
  have e1 := tkE_b T n (tkN T n q) u0.2.1
  by_cases c2 : tkK T n (tkN T n (tkN T n q)) = 6
  case neg => rw [if_neg c2] at hG; cases hG
  rw [if_pos c2] at hG
  unfold gCb at hG
  obtain ⟨_, hG⟩ := pT_s hG
  have u2 := tkN_b T n _ u1.2.1
  obtain ⟨a, ga, hG⟩ := pb_s hG
  obtain ⟨_, hG⟩ := pT_s hG
  obtain ⟨z, gz, hG⟩ := pb_s hG
  obtain ⟨⟨m1, m2, m3, m4, m5⟩, m6, m7, m8, m9, m10, m11, m12, m13⟩ := gpm_mo _ _ _ _ _ _ _ _ ga u2.2.1 (by decide) updN_s
  have u3 := tkN_b T n _ m7
  obtain ⟨h1, h2, h3, X, A, C, h4, h5, h6⟩ := h
  have c40 : c < 40 := by have := c1.2.2; omega
  cases hG
  have m1 : a.2.1.1 = E.1 ++ [(tkS T n (tkN T n q), b.2.1, (if pr = true then 3 else 2), c)] := m1
  have m10 : a.2.2.2.2.2.1 = b.1 := m10
  have m11 : a.2.2.2.2.2.2.1 + tkN T n (tkN T n (tkN T n q)) ≤ b.2.1 + (tkE T n (tkN T n q) - tkN T n q) + a.1 := m11
  have m12 : b.2.1 + (tkE T n (tkN T n q) - tkN T n q) ≤ a.2.2.2.2.2.2.1 := m12
  have hC1 : ∀ x ∈ a.2.1.1, x ∈ Ef.1 := hC.1
  have hC2 : ∀ i, i < c + 1 → a.2.1.2.2.2.2.2.2 i = Ef.2.2.2.2.2.2 i ∧ (if i = c then a.2.2.2.1 else MD i) = MDf i := hC.2
  have mem : ∀ x ∈ a.2.1.1, x ∈ E.1 ∨ (x.2.2.1 = (if pr = true then 3 else 2) ∧ x.2.2.2 = c) := fun x hx => by
    rw [m1] at hx
    rcases List.mem_append.mp hx with y | y
    · exact Or.inl y
    · rw [List.mem_singleton.mp y]; exact Or.inr ⟨rfl, rfl⟩
  have hk' : ∀ x ∈ a.2.1.1, ¬ x.2.2.1 = 1 → x.2.2.2 < c + 1 := fun x hx hk => by
    rcases mem x hx with y | y
    · have := h1 x y hk; omega
    · omega
  have N0 : NmC (c + 1) 0 (bKeep b T (tkN T n q) (tkE T n (tkN T n q) - tkN T n q)) GF (eC1 T n pr E c (tkN T n q) b) := by
    refine ⟨fun x hx => absurd hx (List.not_mem_nil), fun x hx x1 => ?_⟩
    exact (hF x (hC1 x (by rw [m1]; exact hx))).1 x1
  obtain ⟨l1, l2, ⟨l3, l4⟩, l5, l6, l7, l8, l9⟩ := gpm_l (GF := GF) _ _ _ _ _ _ _ _ ga u2.2.1 (by decide) rfl (by decide) N0 (fun s hs => absurd hs (Nat.not_lt_zero _)) (fun s hs => absurd hs (Nat.not_lt_zero _))
  have l1 : NmC (c + 1) a.2.2.2.2.1 a.2.2.2.2.2 GF a.2.1 := l1
  have l2 : Frm (c + 1) 0 (bKeep b T (tkN T n q) (tkE T n (tkN T n q) - tkN T n q)) 0 a.2.2.2.2.2 := l2
  have m3 : a.2.1.2.2.2.1 = c + 1 := m3
  have EO : EnOK FN a.2.1 := by
    refine ⟨fun x hx => (l1.1 x hx).2.1, fun x hx x1 => ((hF x (hC1 x hx)).1 x1).2, fun x hx x2 => ?_⟩
    have hl := hk' x hx (by rw [x2]; decide)
    rw [(hC2 _ hl).1]
    exact (hF x (hC1 x hx)).2 x2
  have PZ0 : PrZ n FN GF a.2.1 0 (tkN T n a.1) a.2.2.2.2.1 a.2.2.2.2.2 s 0 := ⟨u3.2.1, m9, Nat.zero_le _, by omega, by omega, by omega, hs, EO, by rw [m3]; exact l1, by rw [m3]; omega, Nat.le_refl _⟩
  have nz : ¬ a.2.1.2.2.2.1 = 0 := by rw [m3]; omega
  have f0 : Frm (c + 1) 0 b 0 a.2.2.2.2.2 := Frm_tr (Frm_keep (vv := 0)) l2 (Nat.le_refl _) (Or.inl rfl)
  -- what is told of the tables by both kinds
  have key : ∀ (X1 : Nat → Nat → Nat → Prop) (A1 C1 : Nat), Frm (c + 1) a.2.2.2.2.1 a.2.2.2.2.2 0 z.2.2.1 → FrS s z.2.2.2 → (a.2.2.2.2.1 ≤ z.2.1.2 ∧ z.2.1.2 ≤ 60) → 2 * (A1 + C1) + tkN T n a.1 ≤ z.1 → ((pr = false → ∃ e, z.2.1.1 = nI e ∧ (1 ≤ e ∧ e < z.2.2.1.1) ∧ ∀ T', AgD T' (bRes b.2.2.2.2 z.2.2.1) z.2.2.2 (upF F c z.2.1 z.2.2.1.2.2.2.2) (c + 1) → WX T' FN 20 14 60 lcF (nI e)) ∧ (pr = true → z.2.1.1 = -1 ∨ ∃ e v', z.2.1.1 = nI e ∧ X1 0 v' e)) → (∀ (T' : Nat → Nat → Int32) (S : Nat → Nat → Nat → Nat → Prop), AgD T' (bRes b.2.2.2.2 z.2.2.1) z.2.2.2 (upF F c z.2.1 z.2.2.1.2.2.2.2) (c + 1) → HyT GF T' S Ef MDf A1 C1 → (∀ d' v' n', X1 d' v' n' → S (c + 1) d' v' n') → ∀ d' v' n', X1 d' v' n' → SOk T' FN S (c + 1) d' v' n') → DIx FN GF Ef MDf z.1 (a.2.1.1, [], [], 0, true, true, a.2.1.2.2.2.2.2.2) (fun p => if p = c then a.2.2.2.1 else MD p) (c + 1) v (bRes b.2.2.2.2 z.2.2.1) z.2.2.2 (upF F c z.2.1 z.2.2.1.2.2.2.2) := by
    intro X1 A1 C1 f1 s1 ⟨v1, v2⟩ k1 hK HS
    have ff : Frm (c + 1) 0 b 0 z.2.2.1 := Frm_tr f0 f1 (Nat.zero_le _) (Or.inl rfl)
    have g : GrD b (bRes b.2.2.2.2 z.2.2.1) s z.2.2.2 F (upF F c z.2.1 z.2.2.1.2.2.2.2) c (c + 1) := ⟨⟨ff.1, ff.2.1⟩, fun x i hi hib => ff.2.2.1 x i hib (by omega), ff.2.2.2.1, s1, Nat.le_succ _, fun i hi => ⟨upF_o (by omega), upF_o (by omega), fun w hw => upF_o (by omega)⟩⟩
    refine ⟨hk', fun x hx x1 => ?_, by omega, fun un d' v' n' => X un d' v' n' ∨ (un = c + 1 ∧ X1 d' v' n'), max A A1, max C C1, by omega, fun T' S hA hY hXS un d' v' n' y => ?_, fun i hi => ?_⟩
    · rcases mem x hx with y | y
      · obtain ⟨y1, y2⟩ := h2 x y x1
        refine ⟨y1, ?_⟩
        show (if x.2.2.2 < 60 then b.2.2.2.2 x.2.2.2 else z.2.2.1.2.2.2.2 x.2.2.2) = 1
        rw [if_pos (by omega)]; exact y2
      · rw [y.1] at x1
        by_cases e : pr = true
        · rw [if_pos e] at x1; exact absurd x1 (by decide)
        · rw [if_neg e] at x1; exact absurd x1 (by decide)
    · rcases y with y | ⟨rfl, y⟩
      · exact h5 T' S (AgD_dn hA g) (HyT_mo hY (by omega) (by omega)) (fun un d v n z => hXS un d v n (Or.inl z)) un d' v' n' y
      · exact HS T' S hA (HyT_mo hY (by omega) (by omega)) (fun d v n z => hXS (c + 1) d v n (Or.inr ⟨rfl, z⟩)) d' v' n' y
    · by_cases e : i = c
      · subst e
        have pe : a.2.1.2.2.2.2.2.2 i = a.2.2.2.2.1 := m5.trans l3
        refine ⟨z.2.1.2, v2, upF_h, ?_, ?_, fun w hw => ?_, fun x hx x2 xi => ?_, fun x hx x3 xi => ?_⟩
        · show a.2.1.2.2.2.2.2.2 i ≤ 8
          rw [m5]; exact l4
        · show a.2.1.2.2.2.2.2.2 i ≤ _
          rw [pe]; exact v1
        · have hw : w < a.2.1.2.2.2.2.2.2 i := hw
          rw [pe] at hw
          refine ⟨?_, ?_⟩
          · rw [upF_s c40 (by omega), Nat.add_comm 1 i, f1.2.2.2.2 w hw]
            exact l5 w hw
          · show (if i = i then a.2.2.2.1 else MD i) w ≤ 2
            rw [if_pos rfl]; exact l6 w hw
        · rw [upF_c]
          rcases mem x hx with y | y
          · have := h1 x y (by rw [x2]; decide); omega
          · have epr : pr = false := by
              cases pr with
              | false => rfl
              | true => rw [y.1, if_pos rfl] at x2; exact absurd x2 (by decide)
            exact hK.1 epr
        · rw [upF_c]
          rcases mem x hx with y | y
          · have := h1 x y (by rw [x3]; decide); omega
          · have epr : pr = true := by
              cases pr with
              | true => rfl
              | false => rw [y.1, if_neg (by decide)] at x3; exact absurd x3 (by decide)
            refine (hK.2 epr).imp id (fun y => ?_)
            obtain ⟨e, v', y1, y2⟩ := y
            exact ⟨e, v', y1, Or.inr ⟨Nat.add_comm 1 i, y2⟩⟩
      · have hi : i < c := by
          have : i < c + 1 := hi
          omega
        exact UnI_gr (E' := (a.2.1.1, [], [], 0, true, true, a.2.1.2.2.2.2.2.2)) (h6 i hi) hi g (fun _ _ _ _ z => Or.inl z) ((m4 i e).trans (updN_o e)) (if_neg e) (fun x hx hk xi => by
          rcases mem x hx with y | y
          · exact y
          · omega)
  have hYE : ∀ T' S A C, HyT GF T' S Ef MDf A C → HyT GF T' S a.2.1 (fun p => if p = c then a.2.2.2.1 else MD p) A C := fun T' S A C hY => ⟨hY.1, TbO_f (c := c + 1) ⟨hC1, hC2⟩ hk' hY.2.1, hY.2.2⟩
  cases pr with
  | true =>
    obtain ⟨X1, A1, C1, f1, s1, v1, k1, x1, H1⟩ := gBod_p hn hT PZ0 nz gz
    rw [m3] at f1 H1
    refine key X1 A1 C1 f1 s1 v1 k1 ⟨fun y => absurd y (by decide), fun _ => x1⟩ (fun T' S hA hY hXS => H1 T' S (Agr_up (AgD_un c40 hb v1.2 hA 0) (by omega)) ?_ (hYE _ _ _ _ hY) hXS)
    exact ⟨fun i h1 h2 => hA.2.2.2.1 i h2, hA.2.2.2.2.1⟩
  | false =>
    obtain ⟨e, x1, x2, f1, s1, v1, k1, H1⟩ := gBod_f hn hT PZ0 nz ⟨l7, l8⟩ gz
    rw [m3] at f1 H1
    exact key (fun _ _ _ => False) 0 0 f1 (by rw [s1]; exact FrS_rf) v1 (by omega) ⟨fun _ => ⟨e, x1, by omega, fun T' hA => H1 T' (Agr_up (AgD_un c40 hb v1.2 hA e) (by omega))⟩, fun y => absurd y (by decide)⟩ (fun T' S _ _ _ d' v' n' z => z.elim)
/-- names, params and modes stay -/
def ExD (g g' : PRG) : Prop := (∀ x ∈ g.2.1.1, x ∈ g'.2.1.1) ∧ g.2.2.2.1 ≤ g'.2.2.2.1 ∧ ∀ i, i < g.2.2.2.1 → g.2.1.2.2.2.2.2.2 i = g'.2.1.2.2.2.2.2.2 i ∧ g.2.2.1 i = g'.2.2.1 i
theorem ExD_tr {g g' g'' : PRG} (h : ExD g g') (h' : ExD g' g'') : ExD g g'' := ⟨fun x hx => h'.1 x (h.1 x hx), Nat.le_trans h.2.1 h'.2.1, fun i hi => ⟨(h.2.2 i hi).1.trans (h'.2.2 i (Nat.lt_of_lt_of_le hi h.2.1)).1, (h.2.2 i hi).2.trans (h'.2.2 i (Nat.lt_of_lt_of_le hi h.2.1)).2⟩⟩
theorem ExD_c {pr : Bool} {g : PRG} (hq : q ≤ n) (hG : gCal T n pr E MD c pc v b s F q = some (Sum.inr g)) : ExD (q, E, MD, c, pc, v, b, s, F) g := by
  unfold gCal at hG
  obtain ⟨_, hG⟩ := pT_s hG
  have u0 := tkN_b T n q hq
  by_cases c1 : nmC T n E c (tkN T n q)
  case neg => rw [if_neg c1] at hG; cases hG
  rw [if_pos c1] at hG
  obtain ⟨_, hG⟩ := pT_s hG
  have u1 := tkN_b T n _ u0.2.1
  by_cases c2 : tkK T n (tkN T n (tkN T n q)) = 6
  case neg => rw [if_neg c2] at hG; cases hG
  rw [if_pos c2] at hG
  unfold gCb at hG
  obtain ⟨_, hG⟩ := pT_s hG
  have u2 := tkN_b T n _ u1.2.1
  obtain ⟨a, ga, hG⟩ := pb_s hG
  obtain ⟨_, hG⟩ := pT_s hG
  obtain ⟨z, gz, hG⟩ := pb_s hG
  obtain ⟨⟨m1, m2, m3, m4, m5⟩, _⟩ := gpm_mo _ _ _ _ _ _ _ _ ga u2.2.1 (by decide) updN_s
  cases hG
  refine ⟨fun x hx => ?_, Nat.le_succ _, fun i hi => ?_⟩
  · show x ∈ a.2.1.1
    rw [m1]; exact List.mem_append_left _ hx
  · have hi : i < c := hi
    refine ⟨((m4 i (by omega)).trans (updN_o (by omega))).symm, ?_⟩
    show MD i = if i = c then a.2.2.2.1 else MD i
    rw [if_neg (by omega)]
theorem CmP_ex {g g' : PRG} (h : CmP g'.2.1 g'.2.2.1 g'.2.2.2.1 Ef MDf) (e : ExD g g') : CmP g.2.1 g.2.2.1 g.2.2.2.1 Ef MDf := ⟨fun x hx => h.1 x (e.1 x hx), fun i hi => ⟨(e.2.2 i hi).1.trans (h.2 i (Nat.lt_of_lt_of_le hi e.2.1)).1, (e.2.2 i hi).2.trans (h.2 i (Nat.lt_of_lt_of_le hi e.2.1)).2⟩⟩
/-- all declarations -/
theorem gds_x : ∀ (f : Nat) (g g' : PRG), GDs T n f g = some (Sum.inr g') → PL n g → ExD g g' := by
  intro f
  induction f with
  | zero => intro g g' hG; cases hG
  | succ f ih =>
    intro g g' hG hP
    obtain ⟨p1, p2, p3, p4, p5, p6, p7⟩ := id hP
    have hN := tkN_b T n g.1 p1
    rw [GDs] at hG
    by_cases c1 : tkK T n g.1 = 32
    · rw [if_pos c1] at hG
      obtain ⟨r, hr, hG⟩ := pb_s hG
      obtain ⟨_, hr⟩ := pT_s hr
      obtain ⟨m1, m2, m3, m4, m5, m6, m7, m8, m9, m10, m11, m12⟩ := gvr_mo _ _ _ _ _ _ hN.2.1 p5 hr
      have e1 := ih _ _ hG ⟨m2, by show 1 ≤ r.2.2.2.1; omega, by show r.2.2.2.1 ≤ 1 + r.1; omega, by show r.2.2.2.2.1 ≤ r.1; omega, m4, p6, by show r.2.1.2.2.2.1 = 0; rw [m8]; exact p7⟩
      refine ExD_tr (g' := (r.1, r.2.1, g.2.2.1, g.2.2.2.1, g.2.2.2.2.1, r.2.2.1, r.2.2.2, g.2.2.2.2.2.2.2)) ⟨?_, Nat.le_refl _, fun i _ => ⟨?_, rfl⟩⟩ e1
      · have hm : ∀ (f : Nat) (E : En) (q v : Nat) (b : BT) (r : DV), E.2.2.2.1 = 0 → GVr T n f E q v b = some (Sum.inr r) → ∀ x ∈ E.1, x ∈ r.2.1.1 := by
          intro f
          induction f with
          | zero => intro E q v b r _ hG; cases hG
          | succ f ih2 =>
            intro E q v b r h0 hG x hx
            rw [GVr, if_pos h0] at hG
            rcases gTe_any hG with ⟨_, y⟩ | ⟨⟨⟨k, _, v6⟩, t⟩, hG⟩
            · cases y
            by_cases c : tkK T n (tkN T n q) = 12
            · rw [if_pos c] at hG
              obtain ⟨_, hG⟩ := pT_s hG
              exact ih2 _ _ _ _ _ (show (eTe T n E q v b).2.2.2.1 = 0 from h0) hG x (List.mem_append_left _ hx)
            · rw [if_neg c] at hG
              obtain ⟨_, _, hG⟩ := pW_s hG
              cases hG
              exact List.mem_append_left _ hx
        exact hm _ _ _ _ _ _ p7 hr
      · show g.2.1.2.2.2.2.2.2 i = r.2.1.2.2.2.2.2.2 i
        rw [m8]
    · rw [if_neg c1] at hG
      by_cases c2 : tkK T n g.1 = 34 ∨ tkK T n g.1 = 33
      · rw [if_pos c2] at hG
        obtain ⟨r, hr, hG⟩ := pb_s hG
        exact ExD_tr (ExD_c p1 hr) (ih _ _ hG (gCal_mo p1 p5 p2 p6 ⟨p3, p4⟩ hr).2)
      · rw [if_neg c2] at hG
        cases hG
        exact ⟨fun _ h => h, Nat.le_refl _, fun _ _ => ⟨rfl, rfl⟩⟩
theorem gds_d (hn : n ≤ 32768) (hT : ∀ i, i < n → ∃ d, d ≤ 300 ∧ T i = nI d) (hF : EnF FN GF Ef) : ∀ (f : Nat) (g g' : PRG), GDs T n f g = some (Sum.inr g') → PL n g → CmP g'.2.1 g'.2.2.1 g'.2.2.2.1 Ef MDf → DIx FN GF Ef MDf g.1 g.2.1 g.2.2.1 g.2.2.2.1 g.2.2.2.2.2.1 g.2.2.2.2.2.2.1 g.2.2.2.2.2.2.2.1 g.2.2.2.2.2.2.2.2 → DIx FN GF Ef MDf g'.1 g'.2.1 g'.2.2.1 g'.2.2.2.1 g'.2.2.2.2.2.1 g'.2.2.2.2.2.2.1 g'.2.2.2.2.2.2.2.1 g'.2.2.2.2.2.2.2.2 := by
  intro f
  induction f with
  | zero => intro g g' hG; cases hG
  | succ f ih =>
    intro g g' hG hP hC hD
    obtain ⟨p1, p2, p3, p4, p5, p6, p7⟩ := id hP
    have hN := tkN_b T n g.1 p1
    rw [GDs] at hG
    by_cases c1 : tkK T n g.1 = 32
    · rw [if_pos c1] at hG
      obtain ⟨r, hr, hG⟩ := pb_s hG
      obtain ⟨_, hr⟩ := pT_s hr
      obtain ⟨m1, m2, m3, m4, m5, m6, m7, m8, m9, m10, m11, m12⟩ := gvr_mo _ _ _ _ _ _ hN.2.1 p5 hr
      exact ih _ _ hG ⟨m2, by show 1 ≤ r.2.2.2.1; omega, by show r.2.2.2.1 ≤ 1 + r.1; omega, by show r.2.2.2.2.1 ≤ r.1; omega, m4, p6, by show r.2.1.2.2.2.1 = 0; rw [m8]; exact p7⟩ hC (DIx_v p7 hN.2.1 p5 hr hD hN.1)
    · rw [if_neg c1] at hG
      by_cases c2 : tkK T n g.1 = 34 ∨ tkK T n g.1 = 33
      · rw [if_pos c2] at hG
        obtain ⟨r, hr, hG⟩ := pb_s hG
        have P2 := (gCal_mo p1 p5 p2 p6 ⟨p3, p4⟩ hr).2
        exact ih _ _ hG P2 hC (DIx_c hn hT hF p1 p2 ⟨p3, p4⟩ p5 p6 hr hD (CmP_ex hC (gds_x _ _ _ hG P2)))
      · rw [if_neg c2] at hG
        cases hG
        exact hD
end DCA
end JnS330
section JnS331
/-! A program as it is read: its tables. -/
/-- names: slots of variables, numbers of funcs and procs -/
def PEn (E : En) (c : Nat) : Prop := (∀ x ∈ E.1, (x.2.2.1 = 1 → x.2.2.2 < 60) ∧ (¬ x.2.2.1 = 1 → x.2.2.2 < c ∧ E.2.2.2.2.2.2 x.2.2.2 ≤ 8)) ∧ ∀ i, i < c → ∃ x ∈ E.1, ¬ x.2.2.1 = 1 ∧ x.2.2.2 = i
section PEN
variable {T : Nat → Int32} {n : Nat}
theorem gvr_e {c : Nat} : ∀ (f : Nat) (E : En) (q v : Nat) (b : BT) (r : DV), E.2.2.2.1 = 0 → v ≤ 60 → GVr T n f E q v b = some (Sum.inr r) → PEn E c → PEn r.2.1 c := by
  intro f
  induction f with
  | zero => intro E q v b r _ _ hG; cases hG
  | succ f ih =>
    intro E q v b r h0 hv hG hP
    rw [GVr, if_pos h0] at hG
    rcases gTe_any hG with ⟨_, y⟩ | ⟨⟨⟨k, _, v6⟩, t⟩, hG⟩
    · cases y
    have P1 : PEn (eTe T n E q v b) c := by
      refine ⟨fun x hx => ?_, fun i hi => ?_⟩
      · rcases List.mem_append.mp (show x ∈ E.1 ++ [(tkS T n q, b.2.1, 1, v)] from hx) with z | z
        · exact hP.1 x z
        · rw [List.mem_singleton.mp z]
          exact ⟨fun _ => by show v < 60; omega, fun z => absurd rfl z⟩
      · obtain ⟨x, x1, x2⟩ := hP.2 i hi
        exact ⟨x, List.mem_append_left _ x1, x2⟩
    by_cases c1 : tkK T n (tkN T n q) = 12
    · rw [if_pos c1] at hG
      obtain ⟨_, hG⟩ := pT_s hG
      exact ih _ _ _ _ _ (show (eTe T n E q v b).2.2.2.1 = 0 from h0) (show v + 1 ≤ 60 by omega) hG P1
    · rw [if_neg c1] at hG
      obtain ⟨_, _, hG⟩ := pW_s hG
      cases hG
      exact P1
theorem gCal_e {pr : Bool} {E : En} {MD : Nat → Nat → Nat} {c pc v q : Nat} {b : BT} {s : SB} {F : Nat → Int32} {g : PRG} (hq : q ≤ n) (hG : gCal T n pr E MD c pc v b s F q = some (Sum.inr g)) (hP : PEn E c) : PEn g.2.1 g.2.2.2.1 := by
  unfold gCal at hG
  obtain ⟨_, hG⟩ := pT_s hG
  have u0 := tkN_b T n q hq
  by_cases c1 : nmC T n E c (tkN T n q)
  case neg => rw [if_neg c1] at hG; cases hG
  rw [if_pos c1] at hG
  obtain ⟨_, hG⟩ := pT_s hG
  have u1 := tkN_b T n _ u0.2.1
  by_cases c2 : tkK T n (tkN T n (tkN T n q)) = 6
  case neg => rw [if_neg c2] at hG; cases hG
  rw [if_pos c2] at hG
  unfold gCb at hG
  obtain ⟨_, hG⟩ := pT_s hG
  have u2 := tkN_b T n _ u1.2.1
  obtain ⟨a, ga, hG⟩ := pb_s hG
  obtain ⟨_, hG⟩ := pT_s hG
  obtain ⟨z, gz, hG⟩ := pb_s hG
  obtain ⟨⟨m1, m2, m3, m4, m5⟩, _⟩ := gpm_mo _ _ _ _ _ _ _ _ ga u2.2.1 (by decide) updN_s
  have kk : ¬ (if pr = true then 3 else 2) = 1 := by
    by_cases e : pr = true
    · rw [if_pos e]; decide
    · rw [if_neg e]; decide
  have N0 : NmC (c + 1) 0 (bKeep b T (tkN T n q) (tkE T n (tkN T n q) - tkN T n q)) (fun _ => True) (eC1 T n pr E c (tkN T n q) b) := by
    refine ⟨fun x hx => absurd hx (List.not_mem_nil), fun x hx x1 => ⟨trivial, ?_⟩⟩
    rcases List.mem_append.mp (show x ∈ E.1 ++ [(tkS T n (tkN T n q), b.2.1, (if pr = true then 3 else 2), c)] from hx) with y | y
    · exact (hP.1 x y).1 x1
    · rw [List.mem_singleton.mp y] at x1; exact absurd x1 kk
  obtain ⟨l1, l2, ⟨l3, l4⟩, _⟩ := gpm_l _ _ _ _ _ _ _ _ ga u2.2.1 (by decide) rfl (by decide) N0 (fun s hs => absurd hs (Nat.not_lt_zero _)) (fun s hs => absurd hs (Nat.not_lt_zero _))
  cases hG
  have m1 : a.2.1.1 = E.1 ++ [(tkS T n (tkN T n q), b.2.1, (if pr = true then 3 else 2), c)] := m1
  refine ⟨fun x hx => ?_, fun i hi => ?_⟩
  · have hx : x ∈ a.2.1.1 := hx
    rw [m1] at hx
    rcases List.mem_append.mp hx with y | y
    · refine ⟨(hP.1 x y).1, fun xk => ?_⟩
      obtain ⟨h1, h2⟩ := (hP.1 x y).2 xk
      refine ⟨Nat.lt_succ_of_lt h1, ?_⟩
      show a.2.1.2.2.2.2.2.2 x.2.2.2 ≤ 8
      rw [m4 _ (by omega)]
      show updN E.2.2.2.2.2.2 c 0 x.2.2.2 ≤ 8
      rw [updN_o (by omega)]; exact h2
    · rw [List.mem_singleton.mp y]
      refine ⟨fun z => absurd z kk, fun _ => ⟨Nat.lt_succ_self _, ?_⟩⟩
      show a.2.1.2.2.2.2.2.2 c ≤ 8
      rw [m5]; exact l4
  · have hi : i < c + 1 := hi
    by_cases e : i = c
    · refine ⟨_, show (tkS T n (tkN T n q), b.2.1, (if pr = true then 3 else 2), c) ∈ a.2.1.1 from ?_, kk, e.symm⟩
      rw [m1]; exact List.mem_append_right _ (List.mem_singleton.mpr rfl)
    · obtain ⟨x, x1, x2⟩ := hP.2 i (by omega)
      refine ⟨x, show x ∈ a.2.1.1 from ?_, x2⟩
      rw [m1]; exact List.mem_append_left _ x1
theorem gds_e : ∀ (f : Nat) (g g' : PRG), GDs T n f g = some (Sum.inr g') → PL n g → PEn g.2.1 g.2.2.2.1 → PEn g'.2.1 g'.2.2.2.1 := by
  intro f
  induction f with
  | zero => intro g g' hG; cases hG
  | succ f ih =>
    intro g g' hG hP hE
    obtain ⟨p1, p2, p3, p4, p5, p6, p7⟩ := id hP
    have hN := tkN_b T n g.1 p1
    rw [GDs] at hG
    by_cases c1 : tkK T n g.1 = 32
    · rw [if_pos c1] at hG
      obtain ⟨r, hr, hG⟩ := pb_s hG
      obtain ⟨_, hr⟩ := pT_s hr
      obtain ⟨m1, m2, m3, m4, m5, m6, m7, m8, m9, m10, m11, m12⟩ := gvr_mo _ _ _ _ _ _ hN.2.1 p5 hr
      exact ih _ _ hG ⟨m2, by show 1 ≤ r.2.2.2.1; omega, by show r.2.2.2.1 ≤ 1 + r.1; omega, by show r.2.2.2.2.1 ≤ r.1; omega, m4, p6, by show r.2.1.2.2.2.1 = 0; rw [m8]; exact p7⟩ (gvr_e _ _ _ _ _ _ p7 p5 hr hE)
    · rw [if_neg c1] at hG
      by_cases c2 : tkK T n g.1 = 34 ∨ tkK T n g.1 = 33
      · rw [if_pos c2] at hG
        obtain ⟨r, hr, hG⟩ := pb_s hG
        exact ih _ _ hG (gCal_mo p1 p5 p2 p6 ⟨p3, p4⟩ hr).2 (gCal_e p1 hr hE)
      · rw [if_neg c2] at hG
        cases hG
        exact hE
end PEN
/-- which slots count -/
def fgP (g : PRG) (t : ST) (i : Nat) : Int32 := if i < 60 then (if i < t.2.1 then t.2.2.2.2.1.2.2.2.2 i else 0) else if i < 60 * (1 + g.2.2.2.1) ∧ i % 60 < (g.2.2.2.2.2.2.2.2 (100 + (i / 60 - 1))).toNatClampNeg then g.2.2.2.2.2.2.2.2 (1000 + i) else 0
/-- counts of a program -/
def cnP (g : PRG) (t : ST) (i : Nat) : Int32 := if i = 1 then nI t.2.2.2.2.1.1 else if i = 2 then nI t.2.2.2.2.1.2.1 else if i = 3 then nI t.2.2.2.2.2.1 else nI g.2.2.2.1
/-- the tables of a program -/
def TPg (g : PRG) (t : ST) (KB a i : Nat) : Int32 := if a ≤ 9 then t.2.2.2.2.1.2.2.1 a i else if a = 10 then t.2.2.2.2.2.2.1 i else if a = 11 then t.2.2.2.2.2.2.2 i else if a = 12 then t.2.2.2.2.1.2.2.2.1 i else if a = 17 then g.2.2.2.2.2.2.2.2 i else if a = 18 then nI (g.2.1.2.2.2.2.2.2 i) else if a = 19 then nI (g.2.2.1 (i / 8) (i % 8)) else if a = 20 then fgP g t i else if a = 21 then (if i = 0 then nI t.2.1 else g.2.2.2.2.2.2.2.2 (100 + (i - 1))) else if a = 98 then cnP g t i else nI KB
/-- funcs of a program -/
def FNg (g : PRG) (fn m : Nat) : Prop := ∃ x ∈ g.2.1.1, x.2.2.1 = 2 ∧ x.2.2.2 = fn ∧ m = g.2.1.2.2.2.2.2.2 fn
/-- its variables -/
def GFg (g : PRG) (s : Nat) : Prop := ∃ x ∈ g.2.1.1, x.2.2.1 = 1 ∧ x.2.2.2 = s
section TPR
variable {g : PRG} {t : ST} {KB i a : Nat}
theorem TPg_n (h : a ≤ 9) : TPg g t KB a i = t.2.2.2.2.1.2.2.1 a i := if_pos h
theorem TPg_10 : TPg g t KB 10 i = t.2.2.2.2.2.2.1 i := rfl
theorem TPg_11 : TPg g t KB 11 i = t.2.2.2.2.2.2.2 i := rfl
theorem TPg_12 : TPg g t KB 12 i = t.2.2.2.2.1.2.2.2.1 i := rfl
theorem TPg_17 : TPg g t KB 17 i = g.2.2.2.2.2.2.2.2 i := rfl
theorem TPg_18 : TPg g t KB 18 i = nI (g.2.1.2.2.2.2.2.2 i) := rfl
theorem TPg_19 : TPg g t KB 19 i = nI (g.2.2.1 (i / 8) (i % 8)) := rfl
theorem TPg_20 : TPg g t KB 20 i = fgP g t i := rfl
theorem TPg_21 : TPg g t KB 21 (1 + i) = g.2.2.2.2.2.2.2.2 (100 + i) := by
  show (if 1 + i = 0 then nI t.2.1 else g.2.2.2.2.2.2.2.2 (100 + (1 + i - 1))) = _
  rw [if_neg (by omega), Nat.add_sub_cancel_left]
theorem TPg_l (h : t.2.2.2.2.1.1 ≤ 70000) : LNo (TPg g t KB) % 70001 = t.2.2.2.2.1.1 := by
  show (nI t.2.2.2.2.1.1).toNatClampNeg % 70001 = _
  rw [n_cl (p := t.2.2.2.2.1.1) (by omega), Nat.mod_eq_of_lt (by omega)]
theorem TPg_p (h : t.2.2.2.2.1.2.1 ≤ 70000) : LPo (TPg g t KB) % 70001 = t.2.2.2.2.1.2.1 := by
  show (nI t.2.2.2.2.1.2.1).toNatClampNeg % 70001 = _
  rw [n_cl (p := t.2.2.2.2.1.2.1) (by omega), Nat.mod_eq_of_lt (by omega)]
theorem TPg_s (h : t.2.2.2.2.2.1 ≤ 401) : SNo (TPg g t KB) % 402 = t.2.2.2.2.2.1 := by
  show (nI t.2.2.2.2.2.1).toNatClampNeg % 402 = _
  rw [n_cl (p := t.2.2.2.2.2.1) (by omega), Nat.mod_eq_of_lt (by omega)]
theorem TPg_c (h : g.2.2.2.1 ≤ 41) : CNo (TPg g t KB) % 42 = g.2.2.2.1 := by
  show (nI g.2.2.2.1).toNatClampNeg % 42 = _
  rw [n_cl (p := g.2.2.2.1) (by omega), Nat.mod_eq_of_lt (by omega)]
theorem TPg_k (h : KB ≤ 70000) : KBn (TPg g t KB) = KB := by
  show (nI KB).toNatClampNeg = _
  rw [n_cl (p := KB) (by omega)]
/-- slots of the i-th func or proc -/
theorem fgP_u {w h : Nat} (hi : i < g.2.2.2.1) (hh : g.2.2.2.2.2.2.2.2 (100 + i) = nI h) (h6 : h ≤ 60) (hw : w < 60) : fgP g t (60 * (1 + i) + w) = if w < h then g.2.2.2.2.2.2.2.2 (1000 + (60 * (1 + i) + w)) else 0 := by
  unfold fgP
  have e1 : (60 * (1 + i) + w) / 60 - 1 = i := by omega
  have e2 : (60 * (1 + i) + w) % 60 = w := by omega
  rw [if_neg (by omega), e1, e2, hh, n_cl (p := h) (by omega)]
  by_cases c : w < h
  · rw [if_pos ⟨by omega, c⟩, if_pos c]
  · rw [if_neg (fun z => c z.2), if_neg c]
theorem fgP_0 (h6 : t.2.1 ≤ 60) (hi : i < t.2.1) : fgP g t i = t.2.2.2.2.1.2.2.2.2 i := by
  unfold fgP; rw [if_pos (by omega), if_pos hi]
end TPR
end JnS331
section JnS332
/-! A program as it is read: its statements are as a run wants them. -/
section PRK
variable {T : Nat → Int32} {n : Nat} {g : PRG} {t : ST}
/-- what is told of a program as it is read -/
def PgO (g : PRG) (t : ST) (KB : Nat) (S : Nat → Nat → Nat → Nat → Prop) : Prop := PrI (TPg g t KB) (FNg g) S g.2.1.1 g.2.1.2.2.2.2.2.2 t.2.2.2.2.1 t.2.1 ∧ (hd t.2.2.2.1 = -1 ∨ ∃ v m, hd t.2.2.2.1 = nI m ∧ S 0 0 v m) ∧ (∀ fn m, FNg g fn m → fn < g.2.2.2.1 ∧ m ≤ 8 ∧ ∃ F e, g.2.2.2.2.2.2.2.2 fn = nI e ∧ (1 ≤ e ∧ e < t.2.2.2.2.1.1) ∧ WN (TPg g t KB) (FNg g) F 0 20 14 60 lcF (nI e)) ∧ (g.2.2.2.1 ≤ 40 ∧ t.2.2.2.2.2.1 ≤ 400) ∧ PEn g.2.1 g.2.2.2.1 ∧ ∀ i, i < g.2.2.2.1 → ∃ h, h ≤ 60 ∧ g.2.2.2.2.2.2.2.2 (100 + i) = nI h
theorem prg_ok {u p : Nat → Int32} (hn : n ≤ 32768) (hT : ∀ i, i < n → ∃ d, d ≤ 300 ∧ T i = nI d) (hG : gPrg T n (g0 T n u p) = some (Sum.inr (g, t))) : ∃ KB S, PgO g t KB S := by
  unfold gPrg at hG
  by_cases c0 : tkK T n (sk T n 0) = 0
  · rw [if_pos c0] at hG; cases hG
  rw [if_neg c0] at hG
  obtain ⟨g1, hg, hG⟩ := pb_s hG
  obtain ⟨t1, ht, hG⟩ := pb_s hG
  by_cases c25 : tkK T n t1.1 = 25
  case neg => rw [if_neg c25] at hG; cases hG
  rw [if_pos c25] at hG
  cases hG
  have P0 := g0_PL T n u p
  have P := gds_mo _ _ _ hg P0
  obtain ⟨p1, p2, p3, p4, p5, p6, p7⟩ := id P
  have hE : PEn g.2.1 g.2.2.2.1 := gds_e _ _ _ hg P0 ⟨fun x hx => absurd hx (List.not_mem_nil), fun i hi => absurd hi (Nat.not_lt_zero _)⟩
  have hF : EnF (FNg g) (GFg g) g.2.1 := fun x hx => ⟨fun x1 => ⟨⟨x, hx, x1, rfl⟩, (hE.1 x hx).1 x1⟩, fun x2 => ⟨⟨x, hx, x2, rfl, rfl⟩, by have := ((hE.1 x hx).2 (by rw [x2]; decide)).2; omega⟩⟩
  have hC : CmP g.2.1 g.2.2.1 g.2.2.2.1 g.2.1 g.2.2.1 := ⟨fun _ h => h, fun _ _ => ⟨rfl, rfl⟩⟩
  have D := gds_d (Ef := g.2.1) (MDf := g.2.2.1) hn hT hF _ _ _ hg P0 hC ⟨fun x hx => absurd hx (List.not_mem_nil), fun x hx => absurd hx (List.not_mem_nil), Nat.zero_le _, fun _ _ _ _ => False, 0, 0, Nat.zero_le _, fun T' S _ _ _ un d v n z => z.elim, fun i hi => absurd hi (Nat.not_lt_zero _)⟩
  obtain ⟨d1, d2, d3, X, A, C, d4, d5, d6⟩ := D
  have hEn : g.2.1.2.1 = [] ∧ g.2.1.2.2.1 = [] := by
    have key : ∀ (f : Nat) (g g' : PRG), GDs T n f g = some (Sum.inr g') → PL n g → g.2.1.2.1 = [] ∧ g.2.1.2.2.1 = [] → g'.2.1.2.1 = [] ∧ g'.2.1.2.2.1 = [] := by
      intro f
      induction f with
      | zero => intro g g' hG; cases hG
      | succ f ih =>
        intro g g' hG hP h
        obtain ⟨p1, p2, p3, p4, p5, p6, p7⟩ := id hP
        have hN := tkN_b T n g.1 p1
        rw [GDs] at hG
        by_cases c1 : tkK T n g.1 = 32
        · rw [if_pos c1] at hG
          obtain ⟨r, hr, hG⟩ := pb_s hG
          obtain ⟨_, hr⟩ := pT_s hr
          obtain ⟨m1, m2, m3, m4, m5, m6, m7, m8, m9, m10, m11, m12⟩ := gvr_mo _ _ _ _ _ _ hN.2.1 p5 hr
          refine ih _ _ hG ⟨m2, by show 1 ≤ r.2.2.2.1; omega, by show r.2.2.2.1 ≤ 1 + r.1; omega, by show r.2.2.2.2.1 ≤ r.1; omega, m4, p6, by show r.2.1.2.2.2.1 = 0; rw [m8]; exact p7⟩ ?_
          show r.2.1.2.1 = [] ∧ r.2.1.2.2.1 = []
          rw [(m9 p7).2]; exact h
        · rw [if_neg c1] at hG
          by_cases c2 : tkK T n g.1 = 34 ∨ tkK T n g.1 = 33
          · rw [if_pos c2] at hG
            obtain ⟨r, hr, hG⟩ := pb_s hG
            refine ih _ _ hG (gCal_mo p1 p5 p2 p6 ⟨p3, p4⟩ hr).2 ?_
            unfold gCal at hr
            obtain ⟨_, hr⟩ := pT_s hr
            by_cases c1 : nmC T n g.2.1 g.2.2.2.1 (tkN T n g.1)
            case neg => rw [if_neg c1] at hr; cases hr
            rw [if_pos c1] at hr
            obtain ⟨_, hr⟩ := pT_s hr
            by_cases c2 : tkK T n (tkN T n (tkN T n g.1)) = 6
            case neg => rw [if_neg c2] at hr; cases hr
            rw [if_pos c2] at hr
            unfold gCb at hr
            obtain ⟨_, hr⟩ := pT_s hr
            obtain ⟨a, ga, hr⟩ := pb_s hr
            obtain ⟨_, hr⟩ := pT_s hr
            obtain ⟨z, gz, hr⟩ := pb_s hr
            cases hr
            exact ⟨rfl, rfl⟩
          · rw [if_neg c2] at hG
            cases hG
            exact h
    exact key _ _ _ hg P0 ⟨rfl, rfl⟩
  have EO : EnOK (FNg g) g.2.1 := ⟨fun x hx => by rw [hEn.1] at hx; exact absurd hx (List.not_mem_nil), fun x hx x1 => (hE.1 x hx).1 x1, fun x hx x2 => (hF x hx).2 x2⟩
  have NC : NmC g.2.1.2.2.2.1 g.2.2.2.2.2.1 g.2.2.2.2.2.2.1 (GFg g) g.2.1 := ⟨fun x hx => by rw [hEn.1] at hx; exact absurd hx (List.not_mem_nil), fun x hx x1 => (hF x hx).1 x1⟩
  have PZ0 : PrZ n (FNg g) (GFg g) g.2.1 0 g.1 g.2.2.2.2.2.1 g.2.2.2.2.2.2.1 g.2.2.2.2.2.2.2.1 0 := ⟨p1, p5, Nat.zero_le _, by omega, by omega, p2, p6, EO, NC, by rw [p7]; decide, Nat.le_refl _⟩
  have B := (x_all (FN := FNg g) (GF := GFg g) (MD := g.2.2.1) hn hT (fu n)).1 g.2.1 0 0 g.1 g.2.2.2.2.2.1 (-1) 0 0 g.2.2.2.2.2.2.1 g.2.2.2.2.2.2.2.1 t 0 PZ0 p2 (fun z => absurd rfl z) ht
  obtain ⟨⟨n1, n2, n3, n4, n5, n6, n7, n8, n9, n10⟩, _⟩ := gs_mo (fu n) 0 g.2.1 0 0 g.1 g.2.2.2.2.2.1 (-1) 0 0 g.2.2.2.2.2.2.1 g.2.2.2.2.2.2.2.1 t 1 (by decide) p1 p5 p6 ht (Nat.le_refl 1) p2 (fun _ z => absurd rfl z) (fun z => absurd z (by decide))
  obtain ⟨Xm, y, Am, Cm, f1, s1, w1, _, k1, x1, H1⟩ := B
  rw [if_pos rfl] at w1
  rw [p7] at f1 H1
  have lb : t.2.2.2.2.1.1 ≤ 32770 := by omega
  have lp : t.2.2.2.2.1.2.1 ≤ 32768 := by omega
  have kb : max C Cm ≤ 16384 := by omega
  have TL := TPg_l (g := g) (t := t) (KB := max C Cm) (by omega)
  have TP := TPg_p (g := g) (t := t) (KB := max C Cm) (by omega)
  have TS := TPg_s (g := g) (t := t) (KB := max C Cm) (by omega)
  have TC := TPg_c (g := g) (t := t) (KB := max C Cm) (by omega)
  have TK := TPg_k (g := g) (t := t) (KB := max C Cm) (by omega)
  have hA : AgD (TPg g t (max C Cm)) g.2.2.2.2.2.2.1 g.2.2.2.2.2.2.2.1 g.2.2.2.2.2.2.2.2 g.2.2.2.1 := by
    refine ⟨fun a i h4 h9 hi hb => (TPg_n h9).trans (f1.2.2.1 a i hb (by omega)), fun i hi => (TPg_12).trans (f1.2.2.2.1 i hi), ⟨by rw [TL]; exact f1.1, by rw [TP]; exact f1.2.1⟩, fun i hi => (TPg_10).trans (s1.2 i hi), by rw [TS]; exact s1.1, fun i h w hi e1 e2 hw => ?_⟩
    rw [TPg_20, fgP_u hi e1 e2 (by omega), if_pos hw]
  have hA0 : Agr (TPg g t (max C Cm)) 0 t.2.1 t.2.2.2.2.1 g.2.2.2.2.2.2.1.1 0 := by
    refine ⟨fun a i h4 h9 hi hb _ => TPg_n h9, fun i hi => TPg_12, fun w hw => ?_, by rw [TL]; omega, by rw [TP]; omega⟩
    rw [Nat.mul_zero, Nat.zero_add, TPg_20, fgP_0 n4 hw]
  have hU0 : AgU (TPg g t (max C Cm)) t.2.2.2.2.2 g.2.2.2.2.2.2.2.1.1 := ⟨fun i _ _ => TPg_10, by rw [TS]; omega⟩
  -- the tables of the procs
  have hTb : TbO (TPg g t (max C Cm)) (fun un d v m => X un d v m ∨ (un = 0 ∧ Xm d v m)) g.2.1 g.2.2.1 := by
    intro x hx x3
    have hl := ((hE.1 x hx).2 (by rw [x3]; decide)).1
    obtain ⟨h, q1, q2, q3, q4, q5, q6, q7⟩ := d6 x.2.2.2 hl
    refine ⟨by rw [TC]; exact hl, TPg_18, q3, ⟨h, TPg_21.trans q2, q1, fun w h1 h2 => ?_⟩, fun w hw => ?_, ?_, fun j hj => ⟨(q5 j hj).2, ?_⟩⟩
    · rw [TPg_20, fgP_u hl q2 q1 h2, if_neg (by omega)]
    · rw [TPg_20, fgP_u hl q2 q1 (by omega), if_pos (by omega), (q5 w hw).1]; decide
    · rw [TPg_17]
      refine (q7 x hx x3 rfl).imp id (fun z => ?_)
      obtain ⟨e, v', z1, z2⟩ := z
      exact ⟨e, v', z1, Or.inl z2⟩
    · rw [TPg_19, show (8 * x.2.2.2 + j) / 8 = x.2.2.2 by omega, show (8 * x.2.2.2 + j) % 8 = j by omega]
  have hGF : ∀ s, GFg g s → ¬ TPg g t (max C Cm) 20 s = 0 := fun s hs => by
    obtain ⟨x, hx, x1, rfl⟩ := hs
    obtain ⟨y1, y2⟩ := d2 x hx x1
    have e := f1.2.2.2.2 _ y1
    rw [Nat.mul_zero, Nat.zero_add] at e
    rw [TPg_20, fgP_0 n4 (by omega), e, y2]; decide
  have hY : HyT (GFg g) (TPg g t (max C Cm)) (fun un d v m => X un d v m ∨ (un = 0 ∧ Xm d v m)) g.2.1 g.2.2.1 (max A Am) (max C Cm) := ⟨hGF, hTb, by rw [TK]; exact Nat.le_refl _, by rw [TK]; omega⟩
  have okD := d5 _ _ hA (HyT_mo hY (by omega) (by omega)) (fun un d v m z => Or.inl z)
  have okM := H1 _ (fun un d v m => X un d v m ∨ (un = 0 ∧ Xm d v m)) hA0 hU0 (HyT_mo hY (by omega) (by omega)) (fun d v m z => Or.inr ⟨rfl, z⟩) (Or.inl ⟨rfl, rfl⟩) (fun z => absurd rfl z)
  obtain ⟨sw, sk'⟩ := SW_of (T := TPg g t (max C Cm)) (FN := FNg g) (S := fun un d v m => X un d v m ∨ (un = 0 ∧ Xm d v m)) (fun un d v m z => by
    rcases z with z | ⟨rfl, z⟩
    · exact okD un d v m z
    · exact okM.1 d v m z)
  refine ⟨max C Cm, fun un d v m => X un d v m ∨ (un = 0 ∧ Xm d v m), ⟨⟨sw, sk', by rw [TK]; omega⟩, ⟨rfl, n4⟩, ⟨TL, TP, by omega, by omega, by omega⟩, fun dr => ⟨fun x hx => absurd hx (List.not_mem_nil), fun x hx x1 => (hE.1 x hx).1 x1, fun x hx x2 => (hF x hx).2 x2⟩⟩, ?_, fun fn m hm => ?_, ⟨d3, n10⟩, hE, fun i hi => ?_⟩
  · rw [w1]
    rcases x1 with z | ⟨z1, z2, z3⟩
    · rw [z]; exact Or.inl rfl
    · exact Or.inr ⟨_, y, hd_1 (by omega), Or.inr ⟨rfl, z3⟩⟩
  · obtain ⟨x, hx, x2, rfl, rfl⟩ := hm
    obtain ⟨hl, h8⟩ := (hE.1 x hx).2 (by rw [x2]; decide)
    obtain ⟨h, q1, q2, q3, q4, q5, q6, q7⟩ := d6 x.2.2.2 hl
    obtain ⟨e, z1, z2, z3⟩ := q6 x hx x2 rfl
    obtain ⟨F, hW⟩ := z3 _ hA
    exact ⟨hl, h8, F, e, z1, ⟨z2.1, Nat.lt_of_lt_of_le z2.2 f1.1⟩, hW⟩
  · obtain ⟨h, q1, q2, _⟩ := d6 i hi
    exact ⟨h, q1, q2⟩
end PRK
end JnS332
section JnS333
/-! A program that was read stands in the tables (reference). -/
/-- the same program, read over other rows of statements -/
def SmP (g : PRG) (t : ST) (g' : PRG) (t' : ST) : Prop := (g'.2.1 = g.2.1 ∧ g'.2.2.1 = g.2.2.1 ∧ g'.2.2.2.1 = g.2.2.2.1 ∧ g'.2.2.2.2.1 = g.2.2.2.2.1 ∧ g'.2.2.2.2.2.2.2.2 = g.2.2.2.2.2.2.2.2) ∧ (t'.2.1 = t.2.1 ∧ t'.2.2.2.1 = t.2.2.2.1 ∧ t'.2.2.2.2.1 = t.2.2.2.2.1) ∧ t'.2.2.2.2.2.1 = t.2.2.2.2.2.1 ∧ ∀ i, i < t.2.2.2.2.2.1 → t'.2.2.2.2.2.2.1 i = t.2.2.2.2.2.2.1 i ∧ t'.2.2.2.2.2.2.2 i = t.2.2.2.2.2.2.2 i
theorem SmP_rf {g : PRG} {t : ST} : SmP g t g t := ⟨⟨rfl, rfl, rfl, rfl, rfl⟩, ⟨rfl, rfl, rfl⟩, rfl, fun _ _ => ⟨rfl, rfl⟩⟩
/-- read again -/
theorem SmP_of {T T' : Nat → Int32} {n : Nat} {u u' p p' : Nat → Int32} {g g' : PRG} {t t' : ST} (hT : ∀ i, i < n → T' i = T i) (h : gPrg T n (g0 T n u p) = some (Sum.inr (g, t))) (h' : gPrg T' n (g0 T' n u' p') = some (Sum.inr (g', t'))) : SmP g t g' t' := by
  have e : gPrg T' n (g0 T' n u' p') = gPrg T n (g0 T n u' p') := by
    have es : sk T' n 0 = sk T n 0 := congrFun (sk_c (T := T') (T' := T) (fun i hi => hT i hi)) 0
    have eg : g0 T' n u' p' = g0 T n u' p' := by unfold g0; rw [es]
    rw [eg, gPrg_c (T := T') (T' := T) (fun i hi => hT i hi)]
  rw [e] at h'
  have z : Zp (fun _ => False) (fun _ => False) 0 ((0, u, p) : SB) (0, u', p') := ⟨rfl, Nat.le_refl _, fun i hi => by
    rcases hi with y | y
    · exact y.elim
    · exact absurd y.2 (Nat.not_lt_zero _), fun i hi => by
    rcases hi with y | y
    · exact y.elim
    · exact absurd y.2 (Nat.not_lt_zero _)⟩
  have R := gPrg_z (T := T) (n := n) (q := sk T n 0) (E := ([], [], [], 0, true, true, fun _ => 0)) (MD := fun _ _ => 0) (c := 0) (pc := 0) (v := 0) (b := (1, 0, fun _ _ => 0, fun _ => 0, fun _ => 0)) (F := fun _ => 0) z
  have h : gPrg T n (sk T n 0, ([], [], [], 0, true, true, fun _ => 0), fun _ _ => 0, 0, 0, 0, (1, 0, fun _ _ => 0, fun _ => 0, fun _ => 0), (0, u, p), fun _ => 0) = some (Sum.inr (g, t)) := h
  have h' : gPrg T n (sk T n 0, ([], [], [], 0, true, true, fun _ => 0), fun _ _ => 0, 0, 0, 0, (1, 0, fun _ _ => 0, fun _ => 0, fun _ => 0), (0, u', p'), fun _ => 0) = some (Sum.inr (g', t')) := h'
  rw [h, h'] at R
  rcases R with ⟨z, _⟩ | ⟨_, z, _⟩ | ⟨a, a', z1, z2, ⟨k1, k2⟩⟩
  · cases z
  · cases z
  · cases z1
    cases z2
    obtain ⟨q1, E1, M1, c1, pc1, v1, b1, s1, s1', F1, e1, e2, _⟩ := k1
    obtain ⟨q2, v2, k2', e3, b2, s2, s2', e4, e5, z3⟩ := k2
    have e1 : g = _ := e1
    have e2 : g' = _ := e2
    have e4 : t = _ := e4
    have e5 : t' = _ := e5
    subst e1 e2 e4 e5
    exact ⟨⟨rfl, rfl, rfl, rfl, rfl⟩, ⟨rfl, rfl, rfl⟩, z3.1.symm, fun i hi => ⟨(z3.2.2.1 i (Or.inr ⟨Nat.zero_le _, hi⟩)).symm, (z3.2.2.2 i (Or.inr ⟨Nat.zero_le _, hi⟩)).symm⟩⟩
section PRB
variable {T : Nat → Int32} {n : Nat} {g g' : PRG} {t t' : ST} {KB : Nat} {S : Nat → Nat → Nat → Nat → Prop} {σ : MS}
theorem PR_bz (hR : PR T n g' t' σ) (hs : SmP g t g' t') (ok : PgO g t KB S) : Bz (TPg g t KB) (FNg g) σ ∧ PG g.2.1.1 g.2.1.2.2.2.2.2.2 t.2.2.2.2.1 σ ∧ σ.1 110 = hd t.2.2.2.1 ∧ σ.1 44 = nI t.2.2.2.2.2.1 ∧ (σ.1 31 = nI g.2.2.2.2.1 ∧ g.2.2.2.2.1 ≤ g.2.2.2.1) := by
  obtain ⟨⟨e1, e2, e3, e31, e4⟩, ⟨e5, e6, e7⟩, e8, e9⟩ := hs
  obtain ⟨⟨hPS, hPM, _, h44, h400, h10⟩, h110, ⟨h30, h40, h31, hpc⟩, ⟨_, _, hu⟩, hk, h17, hA⟩ := hR
  rw [e1, e5, e7] at hPS
  rw [e1] at hu
  rw [e3] at h30 h40
  rw [e3, e1, e2, e4] at h17
  rw [e6] at h110
  rw [e8] at h44
  rw [e31] at h31
  rw [e31, e3] at hpc
  obtain ⟨⟨pt1, pt2, pt3, _⟩, _, hB, hV, hN, hF⟩ := hPS
  obtain ⟨hI, h0, hFN, ⟨c40, s400⟩, hE, hH⟩ := ok
  obtain ⟨_, ⟨_, v6⟩, ⟨l1, l2, l3, l4, l5⟩, _⟩ := hI
  have TC := TPg_c (g := g) (t := t) (KB := KB) (by omega)
  have TS := TPg_s (g := g) (t := t) (KB := KB) (by omega)
  rw [hu] at hV
  obtain ⟨_, _, v21, _, v20⟩ := hV
  have r18 : ∀ i, i < g.2.2.2.1 → σ.2.2 18 i = nI (g.2.1.2.2.2.2.2.2 i) := fun i hi => by
    obtain ⟨x, x1, x2, x3⟩ := hE.2 i hi
    have := (hF.2.2 x x1 x2).2.1
    rw [x3] at this; exact this
  have n30 : (σ.1 30).toNatClampNeg = g.2.2.2.1 := by rw [h30, n_cl (p := g.2.2.2.1) (by omega)]
  refine ⟨⟨⟨fun a i h4 h11 hi => ?_, fun fn m hm => ?_, fun i hi => ?_, ?_, ?_, ?_, ?_⟩, fun a i h17a h21a hi => ?_, fun i => ?_⟩, ⟨pt3, hB, hN.2.2, hF.2.2⟩, h110, h44, h31, hpc⟩
  · by_cases c9 : a ≤ 9
    · have := hi.1 c9
      rw [TPg_n c9, hB.2.2.2.1 a h4 c9 i this.1 (by omega)]
    · have hl := hi.2 (by omega)
      rw [TS] at hl
      have : a = 10 ∨ a = 11 := by omega
      rcases this with rfl | rfl
      · rw [TPg_10, (h10 i).1]; exact (e9 i hl).1
      · rw [TPg_11, (h10 i).2]; exact (e9 i hl).2
  · obtain ⟨y1, y2, F, e, y3, y4, y5⟩ := hFN fn m hm
    obtain ⟨x, hx, x2, rfl, rfl⟩ := hm
    exact ⟨by rw [TC]; exact y1, by omega, r18 _ y1, F, e, (h17 _ y1).1.trans y3, by rw [l1]; exact y4, y5⟩
  · rw [TPg_12]; exact hB.2.2.2.2 i (by omega)
  · rw [l1]; exact hB.1
  · rw [l2]; exact hB.2.2.1
  · rw [TC]; exact h30
  · rw [TS]; exact h44
  · rw [TC] at hi
    have : a = 17 ∨ a = 18 ∨ a = 19 ∨ a = 21 := by omega
    rcases this with rfl | rfl | rfl | rfl
    · exact (h17 i (hi.2.1 (by decide))).1
    · exact r18 i (hi.2.1 (by decide))
    · obtain ⟨i1, i2⟩ := hi.2.2.1 rfl
      have il : i / 8 < g.2.2.2.1 := by omega
      obtain ⟨q1, q2⟩ := (h17 (i / 8) il).2.2
      rw [TPg_18, n_cl (p := g.2.1.2.2.2.2.2.2 (i / 8)) (by omega)] at i2
      have := (q2 (i % 8) i2).1
      rw [show 8 * (i / 8) + i % 8 = i by omega] at this
      exact this
    · have i1 := hi.2.2.2 rfl
      by_cases e0 : i = 0
      · subst e0; exact v21
      · obtain ⟨j, rfl⟩ : ∃ j, i = 1 + j := ⟨i - 1, by omega⟩
        obtain ⟨h, q1, q2, q3, q4⟩ := (h17 j (by omega)).2.1
        rw [TPg_21, q3, q2]
  · show kC σ i = fgP g t i
    by_cases c0 : i < 60
    · unfold fgP
      rw [if_pos c0]
      by_cases c1 : i < t.2.1
      · rw [if_pos c1]
        have := kC_in (σ := σ) (u := 0) (s := i) c0 (by rw [v21, n_cl (p := t.2.1) (by omega)]; exact c1) (Nat.zero_le _)
        rw [Nat.mul_zero, Nat.zero_add] at this
        rw [this]
        have := v20 i c1
        rw [Nat.mul_zero, Nat.zero_add] at this; exact this
      · rw [if_neg c1]
        have := kC_out (σ := σ) (u := 0) (s := i) (by decide) c0 (by rw [v21, n_cl (p := t.2.1) (by omega)]; omega)
        rw [Nat.mul_zero, Nat.zero_add] at this
        exact this
    · by_cases c2 : i < 60 * (1 + g.2.2.2.1)
      · obtain ⟨j, w, hj, hw, rfl⟩ : ∃ j w, j < g.2.2.2.1 ∧ w < 60 ∧ i = 60 * (1 + j) + w := ⟨i / 60 - 1, i % 60, by omega, by omega, by omega⟩
        obtain ⟨h, q1, q2, q3, q4⟩ := (h17 j hj).2.1
        rw [fgP_u hj q2 q1 hw]
        by_cases c3 : w < h
        · rw [if_pos c3, kC_in (σ := σ) (u := 1 + j) hw (by rw [q3, n_cl (p := h) (by omega)]; exact c3) (by rw [n30]; omega) (by omega)]
          exact q4 w c3
        · rw [if_neg c3]
          exact kC_out (σ := σ) (u := 1 + j) (by omega) hw (by rw [q3, n_cl (p := h) (by omega)]; omega)
      · unfold fgP
        rw [if_neg c0, if_neg (fun z => c2 z.1)]
        unfold kC
        by_cases c4 : 2520 ≤ i
        · rw [if_pos (Or.inl c4)]
        · rw [if_pos (Or.inr ?_)]
          unfold hdU
          rw [n30, if_neg (by omega)]; omega
end PRB
end JnS333

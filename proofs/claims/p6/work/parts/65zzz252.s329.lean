/-! Bodies of funcs and procs, as the grammar lays them. -/
section BDY
variable {T : Nat → Int32} {n : Nat} {FN : Nat → Nat → Prop} {GF : Nat → Prop} {E : En} {MD : Nat → Nat → Nat} {q v : Nat} {b : BT} {s : SB} {z : BD}
theorem TbO_c {T' : Nat → Nat → Int32} {S : Nat → Nat → Nat → Nat → Prop} {E' : En} (h : TbO T' S E MD) (h1 : E'.1 = E.1) (h2 : E'.2.2 = E.2.2) : TbO T' S E' MD := by
  intro x hx hk
  rw [h1] at hx
  have := h x hx hk
  rw [h2]; exact this
theorem EnOK_c {E' : En} (h : EnOK FN E) (h1 : E'.1 = E.1) (h2 : E'.2.2 = E.2.2) (hs : ∀ x ∈ E'.2.1, x.2.2 < 60) : EnOK FN E' := by
  refine ⟨hs, fun x hx hk => ?_, fun x hx hk => ?_⟩
  · rw [h1] at hx; exact h.2.1 x hx hk
  · rw [h1] at hx; rw [h2]; exact h.2.2 x hx hk
/-- a proc -/
theorem gBod_p (hn : n ≤ 32768) (hT : ∀ i, i < n → ∃ d, d ≤ 300 ∧ T i = nI d) (hP : PrZ n FN GF E 0 q v b s 0) (hu : ¬ E.2.2.2.1 = 0) (hG : gBod T n true MD E q v b s = some (some z)) : ∃ (X : Nat → Nat → Nat → Prop) (A C : Nat), Frm E.2.2.2.1 v b 0 z.2.2.1 ∧ FrS s z.2.2.2 ∧ (v ≤ z.2.1.2 ∧ z.2.1.2 ≤ 60) ∧ 2 * (A + C) + q ≤ z.1 ∧ (z.2.1.1 = -1 ∨ ∃ e v', z.2.1.1 = nI e ∧ X 0 v' e) ∧ ∀ (T' : Nat → Nat → Int32) (S : Nat → Nat → Nat → Nat → Prop), Agr T' E.2.2.2.1 z.2.1.2 z.2.2.1 b.1 0 → AgU T' z.2.2.2 s.1 → HyT GF T' S E MD A C → (∀ d' v' n', X d' v' n' → S E.2.2.2.1 d' v' n') → ∀ d' v' n', X d' v' n' → SOk T' FN S E.2.2.2.1 d' v' n' := by
  obtain ⟨p1, p2, p3, p4, p5, p6, p7, p8, p9, p10, p11⟩ := id hP
  unfold gBod at hG
  rw [if_pos rfl] at hG
  obtain ⟨k13, _, hG⟩ := pW_s hG
  have u1 := tkN_b T n q p1
  have u1' := u1.2.2.2 (by rw [k13]; decide)
  obtain ⟨r, g1, hG⟩ := pb_s hG
  obtain ⟨a1, a2, a3, a4⟩ := gvs_l (GF := GF) _ _ _ _ _ _ u1.2.1 hu p2 g1 p9
  obtain ⟨m1, m2, m3, m4, m5, m6, m7, m8, m9, m10⟩ := gvs_mo _ _ _ _ _ _ u1.2.1 p2 hu g1
  obtain ⟨t, g2, hG⟩ := pb_s hG
  have eu : r.2.1.2.2.2.1 = E.2.2.2.1 := by rw [m8]
  have P2 : PrZ n FN GF r.2.1 0 r.1 r.2.2.1 r.2.2.2 s 0 := ⟨m2, a4, p3, by rw [m5]; omega, by omega, by rw [m5]; exact p6, p7, EnOK_c p8 m9 m8 (fun x hx => (a1.1 x hx).2.1), by rw [eu]; exact a1, by rw [eu]; exact p10, Nat.le_refl _⟩
  have B := (x_all (FN := FN) (GF := GF) (MD := MD) hn hT (fu n)).1 r.2.1 0 0 r.1 r.2.2.1 (-1) 0 0 r.2.2.2 s t 0 P2 (by rw [m5]; exact p6) (fun z => absurd rfl z) g2
  obtain ⟨⟨n1, n2, n3, n4, n5, n6, n7, n8, n9, n10⟩, _⟩ := gs_mo (fu n) 0 r.2.1 0 0 r.1 r.2.2.1 (-1) 0 0 r.2.2.2 s t 1 (by decide) m2 a4 p7 g2 (Nat.le_refl 1) (by rw [m5]; exact p6) (fun _ z => absurd rfl z) (fun z => absurd z (by decide))
  obtain ⟨X, y, A, C, f1, s1, w1, _, g3, x1, H1⟩ := B
  rw [if_pos rfl] at w1
  rw [eu] at f1 H1
  obtain ⟨k38, _, hG⟩ := pW_s hG
  obtain ⟨_, _, hG⟩ := pW_s hG
  have u2 := tkN_b T n t.1 n2
  have u3 := tkN_b T n _ u2.2.1
  cases hG
  refine ⟨X, A, C, Frm_tr a2 f1 a3 (Or.inl rfl), s1, ⟨by show v ≤ t.2.1; omega, n4⟩, by show _ ≤ tkN T n (tkN T n t.1); omega, ?_, fun T' S hA hU hY hXS => (H1 T' S (by rw [m5]; exact hA) hU ⟨hY.1, TbO_c hY.2.1 m9 m8, hY.2.2⟩ hXS (Or.inl ⟨rfl, rfl⟩) (fun z => absurd rfl z)).1⟩
  show hd t.2.2.2.1 = -1 ∨ ∃ e v', hd t.2.2.2.1 = nI e ∧ X 0 v' e
  rw [w1]
  rcases x1 with z | ⟨z1, z2, z3⟩
  · rw [z]; exact Or.inl rfl
  · exact Or.inr ⟨y, r.2.2.1, hd_1 (by rw [m5] at z1; omega), z3⟩
/-- a func -/
theorem gBod_f (hn : n ≤ 32768) (hT : ∀ i, i < n → ∃ d, d ≤ 300 ∧ T i = nI d) (hP : PrZ n FN GF E 0 q v b s 0) (hu : ¬ E.2.2.2.1 = 0) (hw : E.2.2.2.2.1 = false ∧ E.2.2.2.2.2.1 = false) (hG : gBod T n false MD E q v b s = some (some z)) : ∃ e, z.2.1.1 = nI e ∧ (b.1 ≤ e ∧ e < z.2.2.1.1) ∧ Frm E.2.2.2.1 v b 0 z.2.2.1 ∧ z.2.2.2 = s ∧ (v ≤ z.2.1.2 ∧ z.2.1.2 ≤ 60) ∧ q ≤ z.1 ∧ ∀ T', Agr T' E.2.2.2.1 z.2.1.2 z.2.2.1 b.1 e → WX T' FN 20 14 60 lcF (nI e) := by
  obtain ⟨p1, p2, p3, p4, p5, p6, p7, p8, p9, p10, p11⟩ := id hP
  unfold gBod at hG
  rw [if_neg (by decide)] at hG
  obtain ⟨k17, _, hG⟩ := pW_s hG
  have u1 := tkN_b T n q p1
  obtain ⟨t, g1, hG⟩ := pb_s hG
  obtain ⟨⟨a1, a2, a3, a4, a5, a6, a7, a8⟩, hF, hL, hlt, _⟩ := ex_of (GF := GF) hT u1.2.1 p2 p3 (by omega) (by omega) p6 p8 p9 g1
  obtain ⟨_, _, hG⟩ := pW_s hG
  have u2 := tkN_b T n t.1 a2
  cases hG
  refine ⟨t.2.2.2.1, rfl, ⟨hL.2.1, hL.2.2.1⟩, hF, rfl, ⟨a3, by show t.2.1 ≤ 60; omega⟩, by show q ≤ tkN T n t.1; omega, fun T' hA => ?_⟩
  have W := hL.2.2.2.2 T' hA
  refine WX_mo (WX_lc (fun j hj => ?_) W) (by omega) (Or.inl ⟨rfl, Nat.le_refl _⟩)
  rcases hj with z | z | z | z
  · exact Or.inl z.1
  · exact absurd z.1 hu
  · exact Or.inr ⟨z.2.1, z.2.2.1⟩
  · rcases z.2 with y | y
    · rw [hw.1] at y; exact absurd y.2 (by decide)
    · rw [hw.2] at y; exact absurd y.2 (by decide)
end BDY
/-- T' has what the declarations laid: nodes, pool, statements, slots of the c units -/
def AgD (T' : Nat → Nat → Int32) (b : BT) (s : SB) (F : Nat → Int32) (c : Nat) : Prop := (∀ a i, 4 ≤ a → a ≤ 9 → 1 ≤ i → i < b.1 → T' a i = b.2.2.1 a i) ∧ (∀ i, i < b.2.1 → T' 12 i = b.2.2.2.1 i) ∧ (b.1 ≤ LNo T' % 70001 ∧ b.2.1 ≤ LPo T' % 70001) ∧ (∀ i, i < s.1 → T' 10 i = s.2.1 i) ∧ s.1 ≤ SNo T' % 402 ∧ ∀ i h w, i < c → F (100 + i) = nI h → h ≤ 60 → w < h → T' 20 (60 * (1 + i) + w) = F (1000 + (60 * (1 + i) + w))
/-- the unit of the i-th func or proc -/
def UnI (FN : Nat → Nat → Prop) (X : Nat → Nat → Nat → Nat → Prop) (E : En) (MD : Nat → Nat → Nat) (b : BT) (s : SB) (F : Nat → Int32) (c i : Nat) : Prop := ∃ h, h ≤ 60 ∧ F (100 + i) = nI h ∧ E.2.2.2.2.2.2 i ≤ 8 ∧ E.2.2.2.2.2.2 i ≤ h ∧ (∀ w, w < E.2.2.2.2.2.2 i → F (1000 + (60 * (1 + i) + w)) = 1 ∧ MD i w ≤ 2) ∧ (∀ x ∈ E.1, x.2.2.1 = 2 → x.2.2.2 = i → ∃ e, F i = nI e ∧ (1 ≤ e ∧ e < b.1) ∧ ∀ T', AgD T' b s F c → WX T' FN 20 14 60 lcF (nI e)) ∧ ∀ x ∈ E.1, x.2.2.1 = 3 → x.2.2.2 = i → (F i = -1 ∨ ∃ e v', F i = nI e ∧ X (1 + i) 0 v' e)
/-- behind declarations -/
def DIx (FN : Nat → Nat → Prop) (GF : Nat → Prop) (Ef : En) (MDf : Nat → Nat → Nat) (q : Nat) (E : En) (MD : Nat → Nat → Nat) (c v : Nat) (b : BT) (s : SB) (F : Nat → Int32) : Prop := (∀ x ∈ E.1, ¬ x.2.2.1 = 1 → x.2.2.2 < c) ∧ GlF E v b ∧ c ≤ 40 ∧ ∃ (X : Nat → Nat → Nat → Nat → Prop) (A C : Nat), 2 * (A + C) ≤ q ∧ (∀ (T' : Nat → Nat → Int32) (S : Nat → Nat → Nat → Nat → Prop), AgD T' b s F c → HyT GF T' S Ef MDf A C → (∀ un d v n, X un d v n → S un d v n) → ∀ un d v n, X un d v n → SOk T' FN S un d v n) ∧ ∀ i, i < c → UnI FN X E MD b s F c i
/-- names, params and modes are those of the end -/
def CmP (E : En) (MD : Nat → Nat → Nat) (c : Nat) (Ef : En) (MDf : Nat → Nat → Nat) : Prop := (∀ x ∈ E.1, x ∈ Ef.1) ∧ ∀ i, i < c → E.2.2.2.2.2.2 i = Ef.2.2.2.2.2.2 i ∧ MD i = MDf i
/-- what the names of the end say -/
def EnF (FN : Nat → Nat → Prop) (GF : Nat → Prop) (Ef : En) : Prop := ∀ x ∈ Ef.1, (x.2.2.1 = 1 → GF x.2.2.2 ∧ x.2.2.2 < 60) ∧ (x.2.2.1 = 2 → FN x.2.2.2 (Ef.2.2.2.2.2.2 x.2.2.2) ∧ Ef.2.2.2.2.2.2 x.2.2.2 ≤ 60)
section DIS
variable {T : Nat → Int32} {n : Nat} {FN : Nat → Nat → Prop} {GF : Nat → Prop} {Ef E E' : En} {MDf MD MD' : Nat → Nat → Nat} {q q' v v' c c' : Nat} {b b' : BT} {s s' : SB} {F F' : Nat → Int32} {T' : Nat → Nat → Int32}
/-- the tables only grow -/
def GrD (b b' : BT) (s s' : SB) (F F' : Nat → Int32) (c c' : Nat) : Prop := (b.1 ≤ b'.1 ∧ b.2.1 ≤ b'.2.1) ∧ (∀ a i, 1 ≤ i → i < b.1 → b'.2.2.1 a i = b.2.2.1 a i) ∧ (∀ i, i < b.2.1 → b'.2.2.2.1 i = b.2.2.2.1 i) ∧ FrS s s' ∧ c ≤ c' ∧ (∀ i, i < c → F' i = F i ∧ F' (100 + i) = F (100 + i) ∧ ∀ w, w < 60 → F' (1000 + (60 * (1 + i) + w)) = F (1000 + (60 * (1 + i) + w)))
theorem AgD_dn (h : AgD T' b' s' F' c') (g : GrD b b' s s' F F' c c') : AgD T' b s F c := by
  obtain ⟨h1, h2, h3, h4, h5, h6⟩ := h
  obtain ⟨g1, g2, g3, g4, g5, g6⟩ := g
  refine ⟨fun a i a4 a9 i1 hi => (h1 a i a4 a9 i1 (by omega)).trans (g2 a i i1 hi), fun i hi => (h2 i (by omega)).trans (g3 i hi), by omega, fun i hi => (h4 i (Nat.lt_of_lt_of_le hi g4.1)).trans (g4.2 i hi), Nat.le_trans g4.1 h5, fun i h w hi e1 e2 hw => ?_⟩
  obtain ⟨_, k2, k3⟩ := g6 i hi
  rw [h6 i h w (by omega) (k2.trans e1) e2 hw]; exact k3 w (by omega)
theorem UnI_gr {X X' : Nat → Nat → Nat → Nat → Prop} {i : Nat} (h : UnI FN X E MD b s F c i) (hi : i < c) (g : GrD b b' s s' F F' c c') (hX : ∀ un d v n, X un d v n → X' un d v n) (hp : E'.2.2.2.2.2.2 i = E.2.2.2.2.2.2 i) (hm : MD' i = MD i) (hE : ∀ x ∈ E'.1, ¬ x.2.2.1 = 1 → x.2.2.2 = i → x ∈ E.1) : UnI FN X' E' MD' b' s' F' c' i := by
  obtain ⟨h, h1, h2, h3, h4, h5, h6, h7⟩ := h
  obtain ⟨k1, k2, k3⟩ := g.2.2.2.2.2 i hi
  refine ⟨h, h1, k2.trans h2, by rw [hp]; exact h3, by rw [hp]; exact h4, fun w hw => ?_, fun x hx x2 xi => ?_, fun x hx x3 xi => ?_⟩
  · rw [hp] at hw
    obtain ⟨y1, y2⟩ := h5 w hw
    exact ⟨(k3 w (by omega)).trans y1, by rw [hm]; exact y2⟩
  · obtain ⟨e, y1, y2, y3⟩ := h6 x (hE x hx (by rw [x2]; decide) xi) x2 xi
    exact ⟨e, k1.trans y1, ⟨y2.1, Nat.lt_of_lt_of_le y2.2 g.1.1⟩, fun T' hA => y3 T' (AgD_dn hA g)⟩
  · rcases h7 x (hE x hx (by rw [x3]; decide) xi) x3 xi with y | ⟨e, v', y1, y2⟩
    · exact Or.inl (k1.trans y)
    · exact Or.inr ⟨e, v', k1.trans y1, hX _ _ _ _ y2⟩
/-- variables of the program are told -/
theorem DIx_v {f : Nat} {r : DV} (h0 : E.2.2.2.1 = 0) (hq : q ≤ n) (hv : v ≤ 60) (hG : GVr T n f E q v b = some (some r)) (h : DIx FN GF Ef MDf q' E MD c v b s F) (hq' : q' ≤ q) : DIx FN GF Ef MDf r.1 r.2.1 MD c r.2.2.1 r.2.2.2 s F := by
  obtain ⟨h1, h2, h3, X, A, C, h4, h5, h6⟩ := h
  obtain ⟨a1, a2, a3, a4⟩ := gvr_g _ _ _ _ _ _ h0 hG h2
  obtain ⟨m1, m2, m3, m4, m5, m6, m7, m8, m9, m10, m11, m12⟩ := gvr_mo _ _ _ _ _ _ hq hv hG
  have g : GrD b r.2.2.2 s s F F c c := ⟨⟨by omega, m7⟩, fun a i _ _ => by rw [m12], a3.2.2.2.1, FrS_rf, Nat.le_refl _, fun i _ => ⟨rfl, rfl, fun _ _ => rfl⟩⟩
  refine ⟨fun x hx hk => h1 x (m11 x hx hk) hk, a1, h3, X, A, C, by omega, fun T' S hA => h5 T' S (AgD_dn hA g), fun i hi => UnI_gr (h6 i hi) hi g (fun _ _ _ _ z => z) (by rw [m8]) rfl (fun x hx hk _ => m11 x hx hk)⟩
end DIS

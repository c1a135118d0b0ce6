/-! Names of a program are names (pure). -/
section DZE
variable {T : Nat → Int32} {n q : Nat}
/-- a name, as it is read somewhere -/
def IdN (l : List Int32) : Prop := ∃ (T : Nat → Int32) (n q : Nat), q ≤ n ∧ tkK T n q = 26 ∧ l = tkS T n q
def NmA (gl : List Gn) : Prop := ∀ x, x ∈ gl → IdN x.1
theorem gvr_id : ∀ (f : Nat) (E : En) (q v : Nat) (b : BT) (r : DV), q ≤ n → GVr T n f E q v b = some (some r) → NmA E.1 → NmA r.2.1.1
  | 0, E, q, v, b, r, hq, hG, _ => by cases hG
  | f + 1, E, q, v, b, r, hq, hG, hA => by
    have ih := gvr_id f
    have hN := tkN_b T n q hq
    rw [GVr] at hG
    have step : ∀ (E1 : En), NmA E1.1 → (if tkK T n (tkN T n q) = 12 then pT T n (tkN T n q) (fun q2 => GVr T n f E1 q2 (v + 1) (bTl T n E q v b)) else pW T n 13 (tkN T n q) (fun q2 => some (some (q2, E1, v + 1, bTl T n E q v b)))) = some (some r) → NmA r.2.1.1 := fun E1 h1 hx => by
      have hN2 := tkN_b T n (tkN T n q) hN.2.1
      by_cases c : tkK T n (tkN T n q) = 12
      · rw [if_pos c] at hx
        rcases pT_any hx with ⟨_, y⟩ | ⟨_, y⟩
        · cases y
        · exact ih _ _ _ _ _ hN2.2.1 y h1
      · rw [if_neg c] at hx
        rcases pW_any hx with ⟨_, y⟩ | ⟨y0, y⟩
        · cases y
        · obtain rfl := Option.some.inj (Option.some.inj y)
          exact h1
    by_cases e : E.2.2.2.1 = 0
    · rw [if_pos e] at hG
      rcases gTe_any hG with ⟨_, y⟩ | ⟨y0, y⟩
      · cases y
      · refine step (eTe T n E q v b) (fun x hx => ?_) y
        rcases List.mem_append.mp (show x ∈ E.1 ++ [(tkS T n q, b.2.1, 1, v)] from hx) with z | z
        · exact hA x z
        · rw [List.mem_singleton.mp z]
          exact ⟨T, n, q, hq, y0.1.1, rfl⟩
    · rw [if_neg e] at hG
      rcases gTl_any hG with ⟨_, y⟩ | ⟨y0, y⟩
      · cases y
      · exact step (eTl T n E q v b) hA y
theorem gCal_id {pr : Bool} {E : En} {MD : Nat → Nat → Nat} {c pc v q : Nat} {b : BT} {s : SB} {F : Nat → Int32} {g : PRG} (hq : q ≤ n) (h : gCal T n pr E MD c pc v b s F q = some (some g)) (hA : NmA E.1) : NmA g.2.1.1 := by
  have hN := tkN_b T n q hq
  unfold gCal at h
  rcases pT_any h with ⟨_, y⟩ | ⟨_, h⟩
  · cases y
  by_cases c1 : nmC T n E c (tkN T n q)
  · rw [if_pos c1] at h
    have hN1 := tkN_b T n (tkN T n q) hN.2.1
    rcases pT_any h with ⟨_, y⟩ | ⟨_, h⟩
    · cases y
    by_cases c2 : tkK T n (tkN T n (tkN T n q)) = 6
    · rw [if_pos c2] at h
      unfold gCb at h
      have hN2 := tkN_b T n _ hN1.2.1
      rcases pT_any h with ⟨_, y⟩ | ⟨_, h⟩
      · cases y
      rcases pb_any h with ⟨_, y⟩ | ⟨a, ha, h⟩
      · cases y
      obtain ⟨⟨a1, _⟩, _⟩ := gpm_mo _ _ _ _ _ _ _ _ ha hN2.2.1 (by decide) updN_s
      rcases pT_any h with ⟨_, y⟩ | ⟨_, h⟩
      · cases y
      rcases pb_any h with ⟨_, y⟩ | ⟨z, hz, h⟩
      · cases y
      obtain rfl := Option.some.inj (Option.some.inj h)
      show NmA a.2.1.1
      rw [a1]
      intro x hx
      rcases List.mem_append.mp (show x ∈ E.1 ++ [(tkS T n (tkN T n q), b.2.1, (if pr = true then 3 else 2), c)] from hx) with z | z
      · exact hA x z
      · rw [List.mem_singleton.mp z]
        exact ⟨T, n, _, hN.2.1, c1.1, rfl⟩
    · rw [if_neg c2] at h; cases h
  · rw [if_neg c1] at h; cases h
theorem gds_id : ∀ (f : Nat) (g h : PRG), GDs T n f g = some (some h) → PL n g → NmA g.2.1.1 → NmA h.2.1.1
  | 0, g, h, hG, _, _ => by cases hG
  | f + 1, g, h, hG, hP, hA => by
    have ih := gds_id f
    obtain ⟨p1, p2, p3, p4, p5, p6, p7⟩ := hP
    have hN := tkN_b T n g.1 p1
    rw [GDs] at hG
    by_cases c1 : tkK T n g.1 = 32
    · rw [if_pos c1] at hG
      rcases pb_any hG with ⟨_, y⟩ | ⟨r, hr, hG⟩
      · cases y
      rcases pT_any hr with ⟨_, y⟩ | ⟨_, hr⟩
      · cases y
      obtain ⟨m1, m2, m3, m4, m5, m6, m7, m8, _⟩ := gvr_mo _ _ _ _ _ _ hN.2.1 p5 hr
      exact ih _ _ hG ⟨m2, by show 1 ≤ r.2.2.2.1; omega, by show r.2.2.2.1 ≤ 1 + r.1; omega, by show r.2.2.2.2.1 ≤ r.1; omega, m4, p6, by show r.2.1.2.2.2.1 = 0; rw [m8]; exact p7⟩ (gvr_id _ _ _ _ _ _ hN.2.1 hr hA)
    · rw [if_neg c1] at hG
      by_cases c2 : tkK T n g.1 = 34 ∨ tkK T n g.1 = 33
      · rw [if_pos c2] at hG
        rcases pb_any hG with ⟨_, y⟩ | ⟨r, hr, hG⟩
        · cases y
        exact ih _ _ hG (gCal_mo p1 p5 p2 p6 ⟨p3, p4⟩ hr).2 (gCal_id p1 hr hA)
      · rw [if_neg c2] at hG
        obtain rfl := Option.some.inj (Option.some.inj hG)
        exact hA
theorem gprg_id {u p : Nat → Int32} {g : PRG} {t : ST} (h : gPrg T n (g0 T n u p) = some (some (g, t))) : NmA g.2.1.1 := by
  unfold gPrg at h
  by_cases c0 : tkK T n (sk T n 0) = 0
  · rw [if_pos c0] at h; cases h
  rw [if_neg c0] at h
  rcases pb_any h with ⟨_, y⟩ | ⟨g1, hg, h⟩
  · cases y
  rcases pb_any h with ⟨_, y⟩ | ⟨t1, ht, h⟩
  · cases y
  by_cases c25 : tkK T n t1.1 = 25
  case neg => rw [if_neg c25] at h; cases h
  rw [if_pos c25] at h
  cases h
  exact gds_id _ _ _ hg (g0_PL T n u p) (fun x hx => absurd hx (List.not_mem_nil))
theorem nm_all : ∀ (d p : Nat), d + p = n → (∀ i, p ≤ i → i < n → isN (T i)) → nameE T n (d + 1) p = n
  | 0, p, h, _ => by
    obtain rfl : p = n := by omega
    rw [nameE_step, if_neg (by rw [rB_out (Nat.le_refl _)]; decide)]
  | d + 1, p, h, a => by
    rw [nameE_step, if_pos (by rw [rB_in (by omega)]; exact a p (Nat.le_refl _) (by omega))]
    exact nm_all d (p + 1) (by omega) (fun i h1 h2 => a i (by omega) h2)
theorem tk_nw (hq : q ≤ n) (h : tkK T n q = 26) : wordI (tkS T n q) = -1 := by
  obtain ⟨hl, c, eE, h16⟩ := tk_nm hq h
  have eS : tkS T n q = seg T q (nameE T n (n + 1) q) := by unfold tkS; rw [eE]
  rw [eS]
  refine Classical.byContradiction (fun w => ?_)
  have e1 : (tokM 0 T n q).1 = 5 := by
    unfold tokM
    rw [if_neg (by omega), if_pos c]
    show (if nameE T n (n + 1) q - q ≤ 16 then (if wordI (seg T q (nameE T n (n + 1) q)) = -1 then (1 : Int32) else 5) else 6) = 5
    rw [if_pos h16, if_neg w]
  unfold tkK tkc at h
  rw [e1, if_neg kv_5.1, if_neg kv_5.2.1, if_neg kv_5.2.2.1, if_neg kv_5.2.2.2.1, if_neg kv_5.2.2.2.2, if_pos rfl] at h
  omega
/-- a text that is a name -/
theorem tk_id {bs : List Int32} (h : IdN bs) (hl : n = bs.length) (hb : ∀ i, i < n → T i = bs.getD i 0) : tkK T n 0 = 26 ∧ tkE T n 0 = n ∧ tkS T n 0 = bs ∧ sk T n 0 = 0 := by
  obtain ⟨T', n', q', hq, hk, rfl⟩ := h
  obtain ⟨l', c, eE, h16⟩ := tk_nm hq hk
  have nw := tk_nw hq hk
  have hle := nameE_le T' n' (n' + 1) q' hq
  have hall := nameE_all T' n' (n' + 1) q'
  have hgt : q' < nameE T' n' (n' + 1) q' := by have := (tkE_b T' n' q' hq).2.2 (by omega); omega
  have eS : tkS T' n' q' = seg T' q' (nameE T' n' (n' + 1) q') := by unfold tkS; rw [eE]
  have el : (tkS T' n' q').length = nameE T' n' (n' + 1) q' - q' := by rw [eS, seg_len]
  have eb : ∀ i, i < n → T i = T' (q' + i) := fun i hi => by rw [hb i hi, eS, seg_at (by omega)]
  have e0 : isL (T 0) := by
    rw [eb 0 (by omega), Nat.add_zero]
    rw [rB_in l'] at c
    exact c
  have eN : nameE T n (n + 1) 0 = n := nm_all n 0 (by omega) (fun i _ hi => by rw [eb i hi]; exact hall _ (by omega) (by omega))
  have sg : seg T 0 n = tkS T' n' q' := (seg_eq (by omega) (fun i hi => by rw [Nat.zero_add, hb i (by omega)])).symm
  have tok : tokM 0 T n 0 = (1, -1, n) := by
    unfold tokM
    rw [if_neg (by omega), if_pos (by rw [rB_in (by omega)]; exact e0), eN, sg, nw, if_pos (by omega), if_pos rfl]
  have t0 : 65 ≤ (T 0).toInt := by rw [isL_int] at e0; omega
  refine ⟨?_, ?_, ?_, ?_⟩
  · unfold tkK; rw [tok]; rfl
  · unfold tkE; rw [tok]
  · unfold tkS tkE; rw [tok]; exact sg
  · show skE T n (n + 1) 0 = 0
    rw [skE_step, if_neg, if_neg]
    · intro z
      have := (noteB_lt z).2.1
      rw [this] at t0
      exact absurd t0 (by decide)
    · intro z
      rcases z.2 with w | w | w | w <;> (rw [w] at t0; exact absurd t0 (by decide))
theorem RfJ_id {XE : XEt} {j : Nat} {τ : MS} {g : List Gn × (Nat → Nat)} (h : RfJ XE j τ) (e : XE = some g) : NmA g.1 := by
  rcases h.2 with z | ⟨_, TX, u, p, nX, g', t, KB, S, _, ⟨z2, z3⟩, _⟩
  · rw [z.2.2] at e; cases e
  · rw [z3] at e
    cases e
    exact gprg_id z2
end DZE

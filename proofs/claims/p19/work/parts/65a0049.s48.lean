section JnS48
variable {yf : Nat × Nat}
/-! Primaries: all of them; with them the reference's exps are the grammar's. -/
section PRIM
variable {T : Nat → Int32} {n f : Nat}
/-- words that begin an operand -/
theorem m_wordly {o M P d q v : Nat} {E : En} {b : BT} {x : Fl RT} {σ : MS} {L : Nat → Int32} (H : ∀ f', f' ≤ f → S0 T n f') (H17 : S17 T n f) (hG : G T n (f + 1) 13 E o q v 0 0 0 0 b = some x) (hK : 32 ≤ tkK T n q) (hS : PS T n E o q v b σ) (h1 : 1 ≤ M) (hM : M ≤ b.1) (hP : P ≤ b.2.1) (hn : b.1 + (n + 1 - q) + 3 * (d + 3) ≤ 70000) (hp : b.2.1 + (n - q) ≤ 70000) (hdd : 12 * (21 - o) + 2 ≤ d + 1) : Tm (fun k => x_GE k (d + 1) 16 0 L σ) (Po T n E o M P (b.1 + (n + 1 - q) + 3 * (d + 2)) σ x) := by
  rw [G_13, if_neg (by omega), if_neg (by omega), if_neg (by omega), if_neg (by omega), if_neg (by omega)] at hG
  have hq := PS_q hS
  have hw := (cur_what (PS_cur hS)).2.1 hK
  have h85 := (cur_what (PS_cur hS)).2.2
  have H0 := H f (Nat.le_refl _)
  have hmk := hS.2.2.2.2.2.1
  have hdr := hS.2.2.2.2.2.2.1
  have eqs : ∀ c : Nat, c < 53 → (nI (tkK T n q - 32) = nI c ↔ tkK T n q = 32 + c) := fun c hc => by
    rw [n_eq (by omega) (by omega)]; omega
  have named : ∀ (kd : Int32) (c : Nat) (B : Nat → Int32), B 1 = kd → gT T n q (fun q1 => some (Sum.inr (q1, v, 0, b.1, bNode b kd 0 0 0, []))) = some x → Tm (fun k => ob (x_named k 0 B σ) (fun r1 => some (r1.1, r1.2))) (Po T n E o M P (b.1 + (n + 1 - q) + 3 * (d + 2)) σ x) := fun kd c B hB hG => by
    refine Tm_ob (p_named (M := M) (P := P) hG hS hM (by omega) (k0 := b.1 + (n + 1 - q) + 3 * (d + 2)) (by omega) hB) (fun r hr => ?_)
    exact Tm_some hr
  -- funcs of the language
  have fn : ∀ (N : Nat → Int32), N 1 = nI (tkK T n q - 32) → ¬ (tkK T n q = 60 ∨ tkK T n q = 61 ∨ tkK T n q = 62) → ¬ (tkK T n q = 69 ∨ tkK T n q = 70) → ¬ tkK T n q = 39 → ¬ (tkK T n q = 83 ∧ E.2.2.2.2.1 = true) → Tm (fun k => x_GE k (d + 1) 16 9 N σ) (Po T n E o M P (b.1 + (n + 1 - q) + 3 * (d + 2)) σ x) := fun N hN k1 k2 k3 k4 => by
    rw [if_neg k1, if_neg k2, if_neg k3, if_neg k4] at hG
    have yes : isFn (tkK T n q) E.2.2.2.2.2.1 → ∀ (N : Nat → Int32), N 1 = nI (tkK T n q - 32) → Tm (fun k => x_GE k (d + 1) 16 11 N σ) (Po T n E o M P (b.1 + (n + 1 - q) + 3 * (d + 2)) σ x) := fun hf N hN => by
      rw [if_pos hf] at hG
      refine Tm_suc (fun k => by rw [xE_16]) ?_
      show Tm (fun k => x_GE k (d + 1) 16 13 (upd N 100 1) σ) _
      refine Tm_suc (fun k => by rw [xE_16]) ?_
      show Tm (fun k => x_GE k (d + 1) 16 14 (upd (upd N 100 1) 2 (upd N 100 1 100)) σ) _
      exact m_fn (w := tkK T n q - 32) H0 hG (by omega) hS h1 hM hP hn hp (by omega) (by rw [upd_other (by decide), upd_other (by decide)]; exact hN)
    have no : ¬ isFn (tkK T n q) E.2.2.2.2.2.1 → ∀ (N : Nat → Int32), Tm (fun k => x_GE k (d + 1) 16 12 N σ) (Po T n E o M P (b.1 + (n + 1 - q) + 3 * (d + 2)) σ x) := fun hf N => by
      rw [if_neg hf] at hG
      have hx := (Option.some.inj hG).symm
      subst hx
      refine Tm_suc (fun k => by rw [xE_16]) ?_
      show Tm (fun k => x_GE k (d + 1) 16 13 (upd N 100 0) σ) _
      refine Tm_suc (fun k => by rw [xE_16]) ?_
      show Tm (fun k => ob (x_cannot k 0 (fun _ => 0) σ) (fun r2 => some (0, r2.2))) _
      refine Tm_ob (p_cannot (M := M) (P := P) (w := E.2.2.2.1) hS _) (fun r5 hr5 => ?_)
      exact Tm_some ⟨⟨_, hr5.1, by omega, hM⟩, ⟨0, rfl, by decide, Or.inl rfl⟩, hr5.2⟩
    have ten : ¬ (71 ≤ tkK T n q ∧ tkK T n q ≤ 79) → Tm (fun k => x_GE k (d + 1) 16 10 N σ) (Po T n E o M P (b.1 + (n + 1 - q) + 3 * (d + 2)) σ x) := fun h7 => by
      refine Tm_suc (fun k => by rw [xE_16]) ?_
      refine Tm_ite (c := N 1 = 50) (fun y => ?_) (fun y => ?_)
      · rw [hN] at y
        have y := (eqs 50 (by decide)).mp y
        exact yes (Or.inr (Or.inl (by omega))) N hN
      · rw [hN] at y
        have y : ¬ tkK T n q = 82 := fun z => y ((eqs 50 (by decide)).mpr (by omega))
        refine Tm_ite (c := N 1 = 52) (fun y2 => ?_) (fun y2 => ?_)
        · rw [hN] at y2
          have y2 := (eqs 52 (by decide)).mp y2
          refine Tm_ite (c := σ.1 42 = 0) (fun y3 => ?_) (fun y3 => ?_)
          · refine no (fun z => ?_) N
            rcases z with z | z | z
            · exact h7 z
            · exact y z
            · rw [hdr.mp y3] at z; exact absurd z.2 (by decide)
          · refine yes (Or.inr (Or.inr ⟨by omega, ?_⟩)) N hN
            cases hc : E.2.2.2.2.2.1 with
            | true => rfl
            | false => exact absurd (hdr.mpr hc) y3
        · rw [hN] at y2
          have y2 : ¬ tkK T n q = 84 := fun z => y2 ((eqs 52 (by decide)).mpr (by omega))
          refine no (fun z => ?_) N
          rcases z with z | z | z
          · exact h7 z
          · exact y z
          · exact y2 z.1
    refine Tm_suc (fun k => by rw [xE_16]) ?_
    refine Tm_ite (c := N 1 < 39) (fun y => ten (fun z => ?_)) (fun y => ?_)
    · rw [hN] at y
      have y : nI (tkK T n q - 32) < nI 39 := y
      rw [n_lt (by omega) (by omega)] at y; omega
    · rw [hN] at y
      have y : ¬ nI (tkK T n q - 32) < nI 39 := y
      rw [n_lt (by omega) (by omega)] at y
      refine Tm_ite (c := N 1 ≤ 47) (fun y2 => ?_) (fun y2 => ten (fun z => ?_))
      · rw [hN] at y2
        have y2 : nI (tkK T n q - 32) ≤ nI 47 := y2
        rw [n_le (by omega) (by omega)] at y2
        exact yes (Or.inl (by omega)) N hN
      · rw [hN] at y2
        have y2 : ¬ nI (tkK T n q - 32) ≤ nI 47 := y2
        rw [n_le (by omega) (by omega)] at y2
        omega
  have quant : ∀ (N : Nat → Int32) (ex : Nat), N 100 = nI ex → (tkK T n q = 69 ∨ tkK T n q = 70) → (if tkK T n q = 69 then (1 : Int32) else 0) = nI ex → Tm (fun k => x_GE k (d + 1) 16 6 N σ) (Po T n E o M P (b.1 + (n + 1 - q) + 3 * (d + 2)) σ x) := fun N ex hN k2 hex => by
    rw [if_neg (by omega), if_pos k2, hex] at hG
    refine Tm_suc (fun k => by rw [xE_16]) ?_
    show Tm (fun k => ob (x_GE k d 12 0 (upd (fun _ => 0) 1 (N 100)) σ) (fun r1 => some (r1.1, r1.2))) _
    obtain ⟨d', rfl⟩ : ∃ d', d = d' + 1 := ⟨d - 1, by omega⟩
    refine Tm_ob (m_quant (M := M) (P := P) (d := d') (ex := ex) H0 H17 hG (by omega) hS h1 hM hP (by omega) hp (by omega) (by rw [upd_same]; exact hN)) (fun r hr => ?_)
    exact Tm_some (Po_tr FrM_rf (by omega) hr)
  refine Tm_suc (fun k => by rw [xE_16]) ?_
  dsimp only [s_wordly]
  have hN1 : upd L 1 (σ.1 7) 1 = nI (tkK T n q - 32) := by rw [upd_same]; exact hw
  generalize upd L 1 (σ.1 7) = N at hN1
  rw [hw]
  refine Tm_ite (c := nI (tkK T n q - 32) = 7) (fun y => ?_) (fun y7 => ?_)
  · have y := (eqs 7 (by decide)).mp y
    rw [if_neg (by omega), if_neg (by omega), if_pos y] at hG
    refine Tm_suc (fun k => by rw [xE_16]) ?_
    show Tm (fun k => ob (x_GE k d 1 0 (fun _ => 0) σ) (fun r1 => some (r1.1, r1.2))) _
    obtain ⟨d', rfl⟩ : ∃ d', d = d' + 1 := ⟨d - 1, by omega⟩
    refine Tm_ob (m_choice (M := M) (P := P) (d := d') H hG (by omega) hS h1 hM hP (by omega) hp (by omega)) (fun r hr => ?_)
    exact Tm_some (Po_tr FrM_rf (by omega) hr)
  have y7 : ¬ tkK T n q = 39 := fun z => y7 ((eqs 7 (by decide)).mpr z)
  refine Tm_ite (c := nI (tkK T n q - 32) = 28) (fun y => ?_) (fun y28 => ?_)
  · have y := (eqs 28 (by decide)).mp y
    rw [if_pos (by omega)] at hG
    simp only [if_pos (show tkK T n q = 60 by omega)] at hG
    refine Tm_suc (fun k => by rw [xE_16]) ?_
    exact named 3 0 _ upd_same hG
  have y28 : ¬ tkK T n q = 60 := fun z => y28 ((eqs 28 (by decide)).mpr z)
  refine Tm_ite (c := nI (tkK T n q - 32) = 29) (fun y => ?_) (fun y29 => ?_)
  · have y := (eqs 29 (by decide)).mp y
    rw [if_pos (by omega)] at hG
    simp only [if_neg y28, if_pos (show tkK T n q = 61 by omega)] at hG
    refine Tm_suc (fun k => by rw [xE_16]) ?_
    exact named 4 0 _ upd_same hG
  have y29 : ¬ tkK T n q = 61 := fun z => y29 ((eqs 29 (by decide)).mpr z)
  refine Tm_ite (c := nI (tkK T n q - 32) = 30) (fun y => ?_) (fun y30 => ?_)
  · have y := (eqs 30 (by decide)).mp y
    rw [if_pos (by omega)] at hG
    simp only [if_neg y28, if_neg y29] at hG
    refine Tm_suc (fun k => by rw [xE_16]) ?_
    exact named 5 0 _ upd_same hG
  have y30 : ¬ tkK T n q = 62 := fun z => y30 ((eqs 30 (by decide)).mpr z)
  have four : (tkK T n q = 69 ∨ tkK T n q = 70) → Tm (fun k => x_GE k (d + 1) 16 4 N σ) (Po T n E o M P (b.1 + (n + 1 - q) + 3 * (d + 2)) σ x) := fun k2 => by
    refine Tm_suc (fun k => by rw [xE_16]) ?_
    refine Tm_ite (c := N 1 = 37) (fun y => ?_) (fun y => ?_)
    · rw [hN1] at y
      have y := (eqs 37 (by decide)).mp y
      exact quant _ 1 upd_same k2 (by rw [if_pos (by omega)]; rfl)
    · rw [hN1] at y
      have y : ¬ tkK T n q = 69 := fun z => y ((eqs 37 (by decide)).mpr z)
      refine Tm_suc (fun k => by rw [xE_16]) ?_
      exact quant _ 0 upd_same k2 (by rw [if_neg y]; rfl)
  refine Tm_ite (c := nI (tkK T n q - 32) = 37) (fun y => four (Or.inl (by have := (eqs 37 (by decide)).mp y; omega))) (fun y37 => ?_)
  have y37 : ¬ tkK T n q = 69 := fun z => y37 ((eqs 37 (by decide)).mpr z)
  refine Tm_ite (c := nI (tkK T n q - 32) = 38) (fun y => four (Or.inr (by have := (eqs 38 (by decide)).mp y; omega))) (fun y38 => ?_)
  have y38 : ¬ tkK T n q = 70 := fun z => y38 ((eqs 38 (by decide)).mpr z)
  refine Tm_suc (fun k => by rw [xE_16]) ?_
  refine Tm_ite (c := N 1 = 51) (fun y => ?_) (fun y => ?_)
  · rw [hN1] at y
    have y := (eqs 51 (by decide)).mp y
    refine Tm_ite (c := σ.1 43 = 0) (fun y2 => ?_) (fun y2 => ?_)
    · exact fn N hN1 (by omega) (by omega) (by omega) (fun z => by rw [hmk.mp y2] at z; exact absurd z.2 (by decide))
    · have ht : E.2.2.2.2.1 = true := by
        cases hc : E.2.2.2.2.1 with
        | true => rfl
        | false => exact absurd (hmk.mpr hc) y2
      rw [if_neg (by omega), if_neg (by omega), if_neg (by omega), if_pos ⟨by omega, ht⟩] at hG
      exact named 6 0 _ upd_same hG
  · rw [hN1] at y
    have y : ¬ tkK T n q = 83 := fun z => y ((eqs 51 (by decide)).mpr z)
    exact fn N hN1 (by omega) (by omega) (by omega) (fun z => y z.1)
theorem e_13 (H : ∀ f', f' ≤ f → S0 T n f') (H17 : S17 T n f) : S13 T n (f + 1) := by
  intro E o q v i e b x hG σ L d M P hS h1 hM hP hn hp hdd _
  obtain ⟨d, rfl⟩ : ∃ d', d = d' + 1 := ⟨d - 1, by omega⟩
  rw [G_13] at hG
  have hG0 : G T n (f + 1) 13 E o q v 0 0 0 0 b = some x := by rw [G_13]; exact hG
  have H0 := H f (Nat.le_refl _)
  have hq := PS_q hS
  have hv := PS_v hS
  have ho := PS_o hS
  have hu := tkN_b T n q hq.1
  have hE := tkE_b T n q hq.1
  have ck := cur_kind (PS_cur hS)
  have hc8 : σ.1 8 = nI q := (PS_cur hS).2.1
  have hc9 : σ.1 9 = nI (tkE T n q) := (PS_cur hS).2.2.2.1
  -- numbers, strings
  have six : ∀ (N : Nat → Int32) (u : Nat) (kd : Int32), u ≤ 1 → N 1 = nI u → N 100 = kd → q + 2 * u ≤ tkE T n q → gT T n q (fun q1 => some (Sum.inr (q1, v, 0, b.1, bNode (bKeep b T (q + u) (tkE T n q - 2 * u - q)) kd (nI b.2.1) (nI (tkE T n q - 2 * u - q)) 0, []))) = some x → Tm (fun k => x_GE k (d + 1) 11 6 N σ) (Po T n E o M P (b.1 + (n + 1 - q) + 3 * (d + 1 + 1)) σ x) := fun N u kd hu1 hN1 hN100 hlen hG => by
    refine Tm_suc (fun k => by rw [xE_11]) ?_
    dsimp only [s_primary]
    rw [hc8, hc9, hN1, n_add (by omega), n_sub (by omega) (by omega)]
    refine Tm_ob (p_keep (M := M) (P := P) (w := E.2.2.2.1) hS hP (f := q + u) (e := tkE T n q - u) (by omega) (by omega) (by omega) (by rw [upd_other (by decide), upd_same]) (by rw [upd_same])) (fun r1 hr1 => ?_)
    obtain ⟨hr1, hS1, hF1⟩ := hr1
    have e1 : r1.1 = nI b.2.1 := by rw [hr1]
    have k8 : r1.2.1 8 = nI q := (PS_cur hS1).2.1
    have k9 : r1.2.1 9 = nI (tkE T n q) := (PS_cur hS1).2.2.2.1
    have hl : tkE T n q - u - (q + u) = tkE T n q - 2 * u - q := by omega
    rw [hl] at hS1
    have h2u : (2 : Int32) * nI u = nI (2 * u) := by
      have : u = 0 ∨ u = 1 := by omega
      rcases this with rfl | rfl <;> rfl
    rw [k8, k9, e1, n_sub (by omega) hE.1, h2u, n_sub (by omega) (by omega), show tkE T n q - q - 2 * u = tkE T n q - 2 * u - q by omega, hN100]
    refine Tm_ob (p_node (M := M) (P := P) (w := E.2.2.2.1) hS1 (by rw [bKeep_1]; omega) (by rw [bKeep_1]; exact hM) _) (fun r2 hr2 => ?_)
    obtain ⟨hr21, hS2, hF2⟩ := hr2
    refine Tm_ob (p_take (M := M) (P := P) (w := E.2.2.2.1) hS2 _) (fun r9 hr9 => ?_)
    rcases gT_any hG with ⟨t9, rfl⟩ | ⟨t9, hG⟩
    · rcases hr9.2 with ⟨_, hB⟩ | ⟨z, _⟩
      · exact Tm_some ⟨⟨_, hB, by rw [bNode_1, bKeep_1]; omega, by rw [bNode_1, bKeep_1]; omega⟩, ⟨b.1, hr21, by omega, Or.inr hM⟩, FrM_tr hF1 (FrM_tr hF2 hr9.1)⟩
      · exact absurd t9 z
    · rcases hr9.2 with ⟨z, _⟩ | ⟨_, hS9⟩
      · exact absurd z t9
      cases hG
      exact Tm_some ⟨hS9, hr21, FrM_tr hF1 (FrM_tr hF2 hr9.1)⟩
  refine Tm_suc (fun k => by rw [xE_11]) ?_
  refine Tm_ite (c := σ.1 10 = 0) (fun _ => ?_) (fun c => absurd (PS_ok hS) c)
  refine Tm_suc (fun k => by rw [xE_11]) ?_
  refine Tm_ite (c := σ.1 6 = 2) (fun y => ?_) (fun y2 => ?_)
  · have hK := ck.2.2.1.mp y
    rw [if_pos hK] at hG
    refine Tm_suc (fun k => by rw [xE_11]) ?_
    refine Tm_ite (c := σ.1 6 = 3) (fun z => absurd (ck.2.2.2.1.mp z) (by omega)) (fun _ => ?_)
    refine Tm_suc (fun k => by rw [xE_11]) ?_
    show Tm (fun k => x_GE k (d + 1) 11 4 (upd L 100 0) σ) _
    refine Tm_suc (fun k => by rw [xE_11]) ?_
    show Tm (fun k => x_GE k (d + 1) 11 5 (upd (upd L 100 0) 1 (upd L 100 0 100)) σ) _
    refine Tm_suc (fun k => by rw [xE_11]) ?_
    refine six _ 0 1 (by decide) (by rw [upd_other (by decide), upd_same, upd_same]; rfl) upd_same (by omega) ?_
    rw [show tkE T n q - 2 * 0 - q = tkE T n q - q by omega]
    exact hG
  have n27 : ¬ tkK T n q = 27 := fun z => y2 (ck.2.2.1.mpr z)
  rw [if_neg n27] at hG
  refine Tm_ite (c := σ.1 6 = 3) (fun y => ?_) (fun y3 => ?_)
  · have hK := ck.2.2.2.1.mp y
    rw [if_pos hK] at hG
    refine Tm_suc (fun k => by rw [xE_11]) ?_
    refine Tm_ite (c := σ.1 6 = 3) (fun _ => ?_) (fun z => absurd y z)
    refine Tm_suc (fun k => by rw [xE_11]) ?_
    show Tm (fun k => x_GE k (d + 1) 11 6 (upd (upd (upd L 100 1) 1 (upd L 100 1 100)) 100 2) σ) _
    refine six _ 1 2 (by decide) (by rw [upd_other (by decide), upd_same, upd_same]; rfl) upd_same (str_len hq.1 hK) ?_
    rw [show 2 * 1 = 2 from rfl]
    exact hG
  have n28 : ¬ tkK T n q = 28 := fun z => y3 (ck.2.2.2.1.mpr z)
  rw [if_neg n28] at hG
  refine Tm_suc (fun k => by rw [xE_11]) ?_
  refine Tm_ite (c := σ.1 6 = 1) (fun y => ?_) (fun y1 => ?_)
  · have hK := ck.2.1.mp y
    rw [if_pos hK] at hG
    show Tm (fun k => ob (x_GE k d 6 0 (fun _ => 0) σ) (fun r2 => some (r2.1, r2.2))) _
    obtain ⟨d', rfl⟩ : ∃ d', d = d' + 1 := ⟨d - 1, by omega⟩
    refine Tm_ob (m_name (M := M) (P := P) (d := d') (f := f) (fun f' hf' => H f' (by omega)) hG hK hS h1 hM hP (by omega) hp (by omega)) (fun r hr => ?_)
    exact Tm_some (Po_tr FrM_rf (by omega) hr)
  have n26 : ¬ tkK T n q = 26 := fun z => y1 (ck.2.1.mpr z)
  rw [if_neg n26] at hG
  refine Tm_suc (fun k => by rw [xE_11]) ?_
  refine Tm_ob (p_sign hS (s := 6) (by decide) (by decide) rfl) (fun r6 hr6 => ?_)
  obtain ⟨u, τ⟩ := r6
  obtain ⟨h3, hr6⟩ := hr6
  have h3 : τ = σ := h3
  subst h3
  refine Tm_ite (fun z => ?_) (fun z => ?_)
  · have n6 : ¬ tkK T n q = 6 := fun y => hr6.mpr y z
    rw [if_neg n6] at hG
    have brk : (tkK T n q = 8 ∨ tkK T n q = 10) → ∀ N : Nat → Int32, Tm (fun k => x_GE k (d + 1) 11 12 N τ) (Po T n E o M P (b.1 + (n + 1 - q) + 3 * (d + 1 + 1)) τ x) := fun hK N => by
      rw [if_pos hK] at hG
      refine Tm_suc (fun k => by rw [xE_11]) ?_
      show Tm (fun k => ob (x_GE k d 0 0 (fun _ => 0) τ) (fun r1 => some (r1.1, r1.2))) _
      obtain ⟨d', rfl⟩ : ∃ d', d = d' + 1 := ⟨d - 1, by omega⟩
      refine Tm_ob (m_brackets (M := M) (P := P) (d := d') H H17 hG hK hS h1 hM hP (by omega) hp (by omega)) (fun r hr => ?_)
      exact Tm_some (Po_tr FrM_rf (by omega) hr)
    refine Tm_suc (fun k => by rw [xE_11]) ?_
    refine Tm_ob (p_sign hS (s := 8) (by decide) (by decide) rfl) (fun r8 hr8 => ?_)
    obtain ⟨u, τ'⟩ := r8
    obtain ⟨h3, hr8⟩ := hr8
    have h3 : τ' = τ := h3
    subst h3
    refine Tm_ite (fun z8 => ?_) (fun z8 => brk (Or.inl (hr8.mp z8)) _)
    refine Tm_ob (p_sign hS (s := 10) (by decide) (by decide) rfl) (fun ra hra => ?_)
    obtain ⟨u, τ⟩ := ra
    obtain ⟨h3, hra⟩ := hra
    have h3 : τ = τ' := h3
    subst h3
    refine Tm_ite (fun z10 => ?_) (fun z10 => brk (Or.inr (hra.mp z10)) _)
    have n8 : ¬ (tkK T n q = 8 ∨ tkK T n q = 10) := fun y => y.elim (fun y => hr8.mpr y z8) (fun y => hra.mpr y z10)
    refine Tm_suc (fun k => by rw [xE_11]) ?_
    refine Tm_ite (c := τ.1 6 = 5) (fun y => ?_) (fun y5 => ?_)
    · have hK := ck.2.2.2.2.2.mp y
      show Tm (fun k => ob (x_GE k d 16 0 (fun _ => 0) τ) (fun r2 => some (r2.1, r2.2))) _
      obtain ⟨d', rfl⟩ : ∃ d', d = d' + 1 := ⟨d - 1, by omega⟩
      refine Tm_ob (m_wordly (M := M) (P := P) (d := d') H H17 hG0 hK hS h1 hM hP (by omega) hp (by omega)) (fun r hr => ?_)
      exact Tm_some (Po_tr FrM_rf (by omega) hr)
    · have n32 : ¬ 32 ≤ tkK T n q := fun z => y5 (ck.2.2.2.2.2.mpr z)
      rw [if_neg n8, if_neg (by omega), if_neg (by omega), if_neg (by omega), if_neg (by omega), if_neg (fun z => by rcases z with z | z | z <;> omega)] at hG
      have hx := (Option.some.inj hG).symm
      subst hx
      refine Tm_suc (fun k => by rw [xE_11]) ?_
      refine Tm_ob (p_cannot (M := M) (P := P) (w := E.2.2.2.1) hS _) (fun r5 hr5 => ?_)
      exact Tm_some ⟨⟨_, hr5.1, by omega, hM⟩, ⟨0, rfl, by decide, Or.inl rfl⟩, hr5.2⟩
  -- ( exp )
  have hK6 := hr6.mp z
  rw [if_pos hK6] at hG
  have hu4 := hu.2.2.2 (by rw [hK6]; decide)
  have b10 : ∀ {yf : Nat × Nat} (ρ : MS) (m l : Nat) (N : Nat → Int32), N 1 = nI l → l < 70000 → (l = 0 ∨ M ≤ l) → Bb yf m ρ → M ≤ m → m + 1 ≤ b.1 + (n + 1 - q) + 3 * (d + 1 + 1) → FrM M P E.2.2.2.1 τ ρ → Tm (fun k => x_GE k (d + 1) 11 10 N ρ) (Po T n E o M P (b.1 + (n + 1 - q) + 3 * (d + 1 + 1)) τ (Sum.inl yf)) := fun {yf} ρ m l N hN hl hMl hB hMm hm hF => by
    refine Tm_suc (fun k => by rw [xE_11]) ?_
    refine Tm_ob (b_over (M := M) (P := P) (w := E.2.2.2.1) hB (by omega) hMm _ (l := l) (by rw [upd_other (by decide), upd_same]; exact hN) hMl hl) (fun r8 hr8 => ?_)
    exact Tm_some ⟨⟨_, hr8.2.1, hm, by omega⟩, ⟨_, hr8.1, by omega, Or.inr hMm⟩, FrM_tr hF hr8.2.2⟩
  have b9 : ∀ {yf : Nat × Nat} (ρ : MS) (N : Nat → Int32), Bb yf b.1 ρ → FrM M P E.2.2.2.1 τ ρ → Tm (fun k => x_GE k (d + 1) 11 9 N ρ) (Po T n E o M P (b.1 + (n + 1 - q) + 3 * (d + 1 + 1)) τ (Sum.inl yf)) := fun {yf} ρ N hB hF => by
    refine Tm_suc (fun k => by rw [xE_11]) ?_
    show Tm (fun k => ob (x_GE k d 3 0 (fun _ => 0) ρ) _) _
    obtain ⟨d', hd'⟩ : ∃ d', d = d' + 7 := ⟨d - 7, by omega⟩
    refine Tm_ob (P := fun r => r = (0, ρ)) (by rw [hd']; exact b_exp hB.1) (fun r7 hr7 => ?_)
    subst hr7
    refine Tm_ob (b_want hB.1 _) (fun r1 hr1 => ?_)
    obtain ⟨u, τ1⟩ := r1
    have hr1 : τ1 = ρ := hr1
    subst hr1
    exact b10 (mOpn τ1 (τ1.1 13 - 1)) _ 0 _ (by rw [upd_same]; rfl) (by decide) (Or.inl rfl) (Bb_opn hB _) hM (by omega) (FrM_tr hF (FrM_opn _))
  refine Tm_ob (p_open (M := M) (P := P) (w := E.2.2.2.1) hS _) (fun r1 hr1 => ?_)
  rcases gO_any hG with ⟨o0, rfl⟩ | ⟨o0, hG⟩
  · rcases hr1.2 with ⟨_, hB⟩ | ⟨y, _⟩
    · exact Tm_ite (c := r1.2.1 10 = 0) (fun c => absurd c hB.1) (fun _ => b9 r1.2 _ hB hr1.1)
    · omega
  rcases hr1.2 with ⟨y, _⟩ | ⟨ho2, hS1, _⟩
  · exact absurd y o0
  refine Tm_ite (c := r1.2.1 10 = 0) (fun _ => ?_) (fun c => absurd (PS_ok hS1) c)
  refine Tm_ob (p_take (M := M) (P := P) (w := E.2.2.2.1) hS1 _) (fun r3 hr3 => ?_)
  have hF3 := FrM_tr hr1.1 hr3.1
  rcases gT_any hG with ⟨t3, rfl⟩ | ⟨t3, hG⟩
  · rcases hr3.2 with ⟨_, hB⟩ | ⟨y, _⟩
    · exact b9 r3.2 _ hB hF3
    · exact absurd t3 y
  rcases hr3.2 with ⟨y, _⟩ | ⟨_, hS3⟩
  · exact absurd y t3
  refine Tm_suc (fun k => by rw [xE_11]) ?_
  show Tm (fun k => ob (x_GE k d 3 0 (fun _ => 0) r3.2) _) _
  rcases gb_any hG with ⟨yf, h7, rfl⟩ | ⟨s, h7, hG⟩
  · refine Tm_ob (H0 _ _ _ _ _ _ _ _ h7 r3.2 _ d M P hS3 h1 hM hP (by omega) (by omega) (by omega) trivial) (fun r7 hr7 => ?_)
    obtain ⟨⟨m1, hm, hmk, hMm⟩, ⟨l, l1, l2, l3⟩, hF7⟩ := hr7
    refine Tm_ob (b_want hm.1 _) (fun r8 hr8 => ?_)
    obtain ⟨u, τ8⟩ := r8
    have hr8 : τ8 = r7.2 := hr8
    subst hr8
    exact b10 (mOpn r7.2 (r7.2.1 13 - 1)) m1 l _ (by rw [upd_same]; exact l1) l2 l3 (Bb_opn hm _) hMm (by omega) (FrM_tr hF3 (FrM_tr hF7 (FrM_opn _)))
  obtain ⟨⟨a1, a2, a3, a4, a5, a6, a7, a8⟩, a9⟩ := mo_of (M := M) hu.2.1 hv h7 hM h1 trivial (fun h => h) (fun h => h)
  refine Tm_ob (H0 _ _ _ _ _ _ _ _ h7 r3.2 _ d M P hS3 h1 hM hP (by omega) (by omega) (by omega) trivial) (fun r7 hr7 => ?_)
  obtain ⟨hS7, hr71, hF7⟩ := hr7
  refine Tm_ob (p_want (M := M) (P := P) (w := E.2.2.2.1) hS7 (s := 7) (by decide) (by decide) rfl) (fun r8 hr8 => ?_)
  have hF8 := FrM_tr hF3 (FrM_tr hF7 (FrM_tr hr8.1 (FrM_opn (r8.2.1 13 - 1))))
  rcases gW_any hG with ⟨t8, rfl⟩ | ⟨t8, hG⟩
  · rcases hr8.2 with ⟨_, hB⟩ | ⟨z, _⟩
    · exact b10 (mOpn r8.2 (r8.2.1 13 - 1)) _ s.2.2.2.1 _ (by rw [upd_same]; exact hr71) (by omega) (Or.inr a9.1) (Bb_opn hB _) (by omega) (by omega) hF8
    · exact absurd z t8
  rcases hr8.2 with ⟨z, _⟩ | ⟨_, hS8⟩
  · exact absurd t8 z
  refine Tm_suc (fun k => by rw [xE_11]) ?_
  refine Tm_ob (p_over (M := M) (P := P) (w := E.2.2.2.1) (PS_clo hS8) (by omega) (by omega) _ (l := s.2.2.2.1) (by rw [upd_other (by decide), upd_same, upd_same]; exact hr71) a9.1 (by omega)) (fun r9 hr9 => ?_)
  obtain ⟨hr91, hS9, hF9⟩ := hr9
  cases hG
  exact Tm_some ⟨hS9, hr91, FrM_tr hF8 hF9⟩
end PRIM
section ALL
variable {T : Nat → Int32} {n : Nat}
def AllS (T : Nat → Int32) (n f : Nat) : Prop := S0 T n f ∧ S1 T n f ∧ S2 T n f ∧ S3 T n f ∧ S4 T n f ∧ S5 T n f ∧ S6 T n f ∧ S7 T n f ∧ S8 T n f ∧ S9 T n f ∧ S10 T n f ∧ S11 T n f ∧ S12 T n f ∧ S13 T n f ∧ S17 T n f
theorem SG_0 {nt lv m blk : Nat} {re : Nat → BT → (Nat → Int32) → Nat → Prop} : SG T n 0 nt lv m blk re := by
  intro E o q v i e b x hG
  simp only [G] at hG
  cases hG
/-- what the grammar says of an exp, the reference does -/
theorem all_S (f : Nat) : ∀ f' : Nat, f' ≤ f → AllS T n f' := by
  induction f with
  | zero =>
    intro f' h
    obtain rfl : f' = 0 := by omega
    refine ⟨SG_0, SG_0, SG_0, SG_0, SG_0, SG_0, SG_0, SG_0, SG_0, SG_0, SG_0, SG_0, SG_0, SG_0, ?_⟩
    intro E o q v i e c g b x hG
    simp only [G] at hG
    cases hG
  | succ f ih =>
    intro f' h
    by_cases c : f' ≤ f
    · exact ih f' c
    obtain rfl : f' = f + 1 := by omega
    obtain ⟨k0, k1, k2, k3, k4, k5, k6, k7, k8, k9, k10, k11, k12, k13, k17⟩ := ih f (Nat.le_refl _)
    exact ⟨e_0 k2 k1, e_1 k2 k1, e_2 k4 k3, e_3 k4 k3, e_4 k4 k5, e_5 k6, e_6 k8 k7, e_7 k8 k7, e_8 k10 k9, e_9 k10 k9, e_10 k11 k10, e_11 k11 k13 k12, e_12 k0 k12, e_13 (fun f' hf' => (ih f' hf').1) k17, e_17 k6 k17⟩
end ALL
end JnS48
section JnS49
variable {yf : Nat × Nat}
/-! The grammar always has an answer: fuel by the bytes that are left. -/
theorem gb_t {x : RG} {k : RT → RG} (h : ∃ y, x = some y) (hk : ∀ r, x = some (Sum.inr r) → ∃ y, k r = some y) : ∃ y, gb x k = some y := by
  obtain ⟨y, h⟩ := h
  cases y with
  | inl yf => exact ⟨Sum.inl yf, by rw [h]; rfl⟩
  | inr r => obtain ⟨z, hz⟩ := hk r h; exact ⟨z, by rw [h]; exact hz⟩
theorem gT_t {T : Nat → Int32} {n q : Nat} {k : Nat → RG} (hk : ∃ y, k (tkN T n q) = some y) : ∃ y, gT T n q k = some y := by
  unfold gT
  by_cases c : tkK T n (tkN T n q) = 0
  · exact ⟨_, if_pos c⟩
  · rw [if_neg c]; exact hk
theorem gW_t {T : Nat → Int32} {n t q : Nat} {k : Nat → RG} (hk : tkK T n q = t → ∃ y, k (tkN T n q) = some y) : ∃ y, gW T n t q k = some y := by
  unfold gW
  by_cases c : tkK T n q = t
  · rw [if_pos c]; exact gT_t (hk c)
  · exact ⟨_, if_neg c⟩
theorem gO_t {o q : Nat} {k : RG} (hk : ∃ y, k = some y) : ∃ y, gO o q k = some y := by
  unfold gO
  by_cases c : o = 20
  · exact ⟨_, if_pos c⟩
  · rw [if_neg c]; exact hk
theorem gN_t {T : Nat → Int32} {n : Nat} {E : En} {c g q v : Nat} {b : BT} {k : Nat → Nat → Nat → BT → Nm → RG} (hk : tkK T n q = 26 → ¬ v = 60 → ∃ y, k (tkN T n q) (v + 1) b.1 (bNode (bKeep (bSlot b (60 * E.2.2.2.1 + v) (nI g)) T q (tkE T n q - q)) 31 (if E.2.2.2.1 = 0 then 0 else 1) (nI v) 0) (tkS T n q, b.2.1, v) = some y) : ∃ y, gN T n E c g q v b k = some y := by
  unfold gN
  by_cases c1 : tkK T n q = 26
  · rw [if_pos c1]
    by_cases c2 : ((E.2.2.1.take (E.2.2.1.length - c)).find? (fun x => decide (x.1 = tkS T n q))).isSome = true
    · exact ⟨_, if_pos c2⟩
    · rw [if_neg c2]
      by_cases c3 : v = 60
      · exact ⟨_, if_pos c3⟩
      · rw [if_neg c3]; exact gT_t (hk c1 c3)
  · exact ⟨_, if_neg c1⟩
def lvG : Nat → Nat
  | 0 => 20
  | 2 => 18
  | 4 => 16
  | 5 => 14
  | 6 => 12
  | 8 => 10
  | 10 => 8
  | 11 => 6
  | 13 => 4
  | 14 => 22
  | _ => 1
abbrev GT (T : Nat → Int32) (n f : Nat) : Prop := ∀ (nt : Nat) (E : En) (o q v i e c g : Nat) (b : BT), nt ≤ 18 → q ≤ n → v ≤ 60 → 1 ≤ b.1 → Nd0 nt 1 b i e c → 30 * (n - q) + lvG nt + 1 ≤ f → ∃ y, G T n f nt E o q v i e c g b = some y
theorem gt_0 {T : Nat → Int32} {n f : Nat} (ih : GT T n f) {E : En} {o q v i e c g : Nat} {b : BT} (hq : q ≤ n) (hv : v ≤ 60) (hb : 1 ≤ b.1) (hN : Nd0 0 1 b i e c) (hf : 30 * (n - q) + lvG 0 + 1 ≤ f + 1) : ∃ y, G T n (f + 1) 0 E o q v i e c g b = some y := by
  rw [G_0]
  refine gb_t (ih _ _ _ _ _ _ _ _ _ _ (by decide) (by omega) (by omega) (by first | omega | (simp only [bNode_1, bNode_p, bSet_1, bSet_p, bOver_1, bOver_p, bWrap_1, bWrap_p, bKeep_1, bKeep_p, bSlot_1, bSlot_p]; omega)) (trivial) (by simp only [lvG] at hf ⊢; omega)) (fun s1 g1 => ?_)
  have x1 := g_mono T n f _ _ _ _ _ _ _ _ _ _ s1 (by omega) (by omega) g1 _ (Nat.le_refl _) (by first | omega | (simp only [bNode_1, bNode_p, bSet_1, bSet_p, bOver_1, bOver_p, bWrap_1, bWrap_p, bKeep_1, bKeep_p, bSlot_1, bSlot_p]; omega)) trivial
  obtain ⟨a1, b1, c1, d1, e1, f1, h1, i1⟩ := (x1.1 : Mo n _ _ _ s1)
  have j1 : _ ≤ s1.2.2.2.1 ∧ s1.2.2.2.1 < s1.2.2.2.2.1.1 := x1.2
  try simp only [bNode_1, bNode_p, bSet_1, bSet_p, bOver_1, bOver_p, bWrap_1, bWrap_p, bKeep_1, bKeep_p, bSlot_1, bSlot_p] at a1 b1 c1 d1 e1 f1 h1 i1 j1
  try dsimp only
  exact ih _ _ _ _ _ _ _ _ _ _ (by decide) (by omega) (by omega) (by first | omega | (simp only [bNode_1, bNode_p, bSet_1, bSet_p, bOver_1, bOver_p, bWrap_1, bWrap_p, bKeep_1, bKeep_p, bSlot_1, bSlot_p]; omega)) ((⟨by omega, by first | omega | (simp only [bNode_1, bNode_p, bSet_1, bSet_p, bOver_1, bOver_p, bWrap_1, bWrap_p, bKeep_1, bKeep_p, bSlot_1, bSlot_p]; omega)⟩ : 1 ≤ _ ∧ _ < _)) (by simp only [lvG] at hf ⊢; omega)
theorem gt_1 {T : Nat → Int32} {n f : Nat} (ih : GT T n f) {E : En} {o q v i e c g : Nat} {b : BT} (hq : q ≤ n) (hv : v ≤ 60) (hb : 1 ≤ b.1) (hN : Nd0 1 1 b i e c) (hf : 30 * (n - q) + lvG 1 + 1 ≤ f + 1) : ∃ y, G T n (f + 1) 1 E o q v i e c g b = some y := by
  rw [G_1]
  have hN : 1 ≤ e ∧ e < b.1 := hN
  by_cases y1 : tkK T n q = 65
  · rw [if_pos y1]
    have u2 := tkN_b T n q (by omega)
    have v2 := u2.2.2.2 (by first | omega | (rcases y1 with z | z | z | z <;> omega) | (rcases y2 with z | z | z | z <;> omega))
    refine gT_t ?_
    try dsimp only
    refine gb_t (ih _ _ _ _ _ _ _ _ _ _ (by decide) (by omega) (by omega) (by first | omega | (simp only [bNode_1, bNode_p, bSet_1, bSet_p, bOver_1, bOver_p, bWrap_1, bWrap_p, bKeep_1, bKeep_p, bSlot_1, bSlot_p]; omega)) (trivial) (by simp only [lvG] at hf ⊢; omega)) (fun s3 g3 => ?_)
    have x3 := g_mono T n f _ _ _ _ _ _ _ _ _ _ s3 (by omega) (by omega) g3 _ (Nat.le_refl _) (by first | omega | (simp only [bNode_1, bNode_p, bSet_1, bSet_p, bOver_1, bOver_p, bWrap_1, bWrap_p, bKeep_1, bKeep_p, bSlot_1, bSlot_p]; omega)) trivial
    obtain ⟨a3, b3, c3, d3, e3, f3, h3, i3⟩ := (x3.1 : Mo n _ _ _ s3)
    have j3 : _ ≤ s3.2.2.2.1 ∧ s3.2.2.2.1 < s3.2.2.2.2.1.1 := x3.2
    try simp only [bNode_1, bNode_p, bSet_1, bSet_p, bOver_1, bOver_p, bWrap_1, bWrap_p, bKeep_1, bKeep_p, bSlot_1, bSlot_p] at a3 b3 c3 d3 e3 f3 h3 i3 j3
    try dsimp only
    exact ih _ _ _ _ _ _ _ _ _ _ (by decide) (by omega) (by omega) (by first | omega | (simp only [bNode_1, bNode_p, bSet_1, bSet_p, bOver_1, bOver_p, bWrap_1, bWrap_p, bKeep_1, bKeep_p, bSlot_1, bSlot_p]; omega)) ((⟨by omega, by first | omega | (simp only [bNode_1, bNode_p, bSet_1, bSet_p, bOver_1, bOver_p, bWrap_1, bWrap_p, bKeep_1, bKeep_p, bSlot_1, bSlot_p]; omega)⟩ : 1 ≤ _ ∧ _ < _)) (by simp only [lvG] at hf ⊢; omega)
  · rw [if_neg y1]
    exact ⟨_, rfl⟩
theorem gt_2 {T : Nat → Int32} {n f : Nat} (ih : GT T n f) {E : En} {o q v i e c g : Nat} {b : BT} (hq : q ≤ n) (hv : v ≤ 60) (hb : 1 ≤ b.1) (hN : Nd0 2 1 b i e c) (hf : 30 * (n - q) + lvG 2 + 1 ≤ f + 1) : ∃ y, G T n (f + 1) 2 E o q v i e c g b = some y := by
  rw [G_2]
  refine gb_t (ih _ _ _ _ _ _ _ _ _ _ (by decide) (by omega) (by omega) (by first | omega | (simp only [bNode_1, bNode_p, bSet_1, bSet_p, bOver_1, bOver_p, bWrap_1, bWrap_p, bKeep_1, bKeep_p, bSlot_1, bSlot_p]; omega)) (trivial) (by simp only [lvG] at hf ⊢; omega)) (fun s1 g1 => ?_)
  have x1 := g_mono T n f _ _ _ _ _ _ _ _ _ _ s1 (by omega) (by omega) g1 _ (Nat.le_refl _) (by first | omega | (simp only [bNode_1, bNode_p, bSet_1, bSet_p, bOver_1, bOver_p, bWrap_1, bWrap_p, bKeep_1, bKeep_p, bSlot_1, bSlot_p]; omega)) trivial
  obtain ⟨a1, b1, c1, d1, e1, f1, h1, i1⟩ := (x1.1 : Mo n _ _ _ s1)
  have j1 : _ ≤ s1.2.2.2.1 ∧ s1.2.2.2.1 < s1.2.2.2.2.1.1 := x1.2
  try simp only [bNode_1, bNode_p, bSet_1, bSet_p, bOver_1, bOver_p, bWrap_1, bWrap_p, bKeep_1, bKeep_p, bSlot_1, bSlot_p] at a1 b1 c1 d1 e1 f1 h1 i1 j1
  try dsimp only
  exact ih _ _ _ _ _ _ _ _ _ _ (by decide) (by omega) (by omega) (by first | omega | (simp only [bNode_1, bNode_p, bSet_1, bSet_p, bOver_1, bOver_p, bWrap_1, bWrap_p, bKeep_1, bKeep_p, bSlot_1, bSlot_p]; omega)) ((⟨by omega, by first | omega | (simp only [bNode_1, bNode_p, bSet_1, bSet_p, bOver_1, bOver_p, bWrap_1, bWrap_p, bKeep_1, bKeep_p, bSlot_1, bSlot_p]; omega)⟩ : 1 ≤ _ ∧ _ < _)) (by simp only [lvG] at hf ⊢; omega)
theorem gt_3 {T : Nat → Int32} {n f : Nat} (ih : GT T n f) {E : En} {o q v i e c g : Nat} {b : BT} (hq : q ≤ n) (hv : v ≤ 60) (hb : 1 ≤ b.1) (hN : Nd0 3 1 b i e c) (hf : 30 * (n - q) + lvG 3 + 1 ≤ f + 1) : ∃ y, G T n (f + 1) 3 E o q v i e c g b = some y := by
  rw [G_3]
  have hN : 1 ≤ e ∧ e < b.1 := hN
  by_cases y1 : tkK T n q = 64
  · rw [if_pos y1]
    have u2 := tkN_b T n q (by omega)
    have v2 := u2.2.2.2 (by first | omega | (rcases y1 with z | z | z | z <;> omega) | (rcases y2 with z | z | z | z <;> omega))
    refine gT_t ?_
    try dsimp only
    refine gb_t (ih _ _ _ _ _ _ _ _ _ _ (by decide) (by omega) (by omega) (by first | omega | (simp only [bNode_1, bNode_p, bSet_1, bSet_p, bOver_1, bOver_p, bWrap_1, bWrap_p, bKeep_1, bKeep_p, bSlot_1, bSlot_p]; omega)) (trivial) (by simp only [lvG] at hf ⊢; omega)) (fun s3 g3 => ?_)
    have x3 := g_mono T n f _ _ _ _ _ _ _ _ _ _ s3 (by omega) (by omega) g3 _ (Nat.le_refl _) (by first | omega | (simp only [bNode_1, bNode_p, bSet_1, bSet_p, bOver_1, bOver_p, bWrap_1, bWrap_p, bKeep_1, bKeep_p, bSlot_1, bSlot_p]; omega)) trivial
    obtain ⟨a3, b3, c3, d3, e3, f3, h3, i3⟩ := (x3.1 : Mo n _ _ _ s3)
    have j3 : _ ≤ s3.2.2.2.1 ∧ s3.2.2.2.1 < s3.2.2.2.2.1.1 := x3.2
    try simp only [bNode_1, bNode_p, bSet_1, bSet_p, bOver_1, bOver_p, bWrap_1, bWrap_p, bKeep_1, bKeep_p, bSlot_1, bSlot_p] at a3 b3 c3 d3 e3 f3 h3 i3 j3
    try dsimp only
    exact ih _ _ _ _ _ _ _ _ _ _ (by decide) (by omega) (by omega) (by first | omega | (simp only [bNode_1, bNode_p, bSet_1, bSet_p, bOver_1, bOver_p, bWrap_1, bWrap_p, bKeep_1, bKeep_p, bSlot_1, bSlot_p]; omega)) ((⟨by omega, by first | omega | (simp only [bNode_1, bNode_p, bSet_1, bSet_p, bOver_1, bOver_p, bWrap_1, bWrap_p, bKeep_1, bKeep_p, bSlot_1, bSlot_p]; omega)⟩ : 1 ≤ _ ∧ _ < _)) (by simp only [lvG] at hf ⊢; omega)
  · rw [if_neg y1]
    exact ⟨_, rfl⟩
theorem gt_4 {T : Nat → Int32} {n f : Nat} (ih : GT T n f) {E : En} {o q v i e c g : Nat} {b : BT} (hq : q ≤ n) (hv : v ≤ 60) (hb : 1 ≤ b.1) (hN : Nd0 4 1 b i e c) (hf : 30 * (n - q) + lvG 4 + 1 ≤ f + 1) : ∃ y, G T n (f + 1) 4 E o q v i e c g b = some y := by
  rw [G_4]
  by_cases y1 : tkK T n q = 66
  · rw [if_pos y1]
    refine gO_t ?_
    have u2 := tkN_b T n q (by omega)
    have v2 := u2.2.2.2 (by first | omega | (rcases y1 with z | z | z | z <;> omega) | (rcases y2 with z | z | z | z <;> omega))
    refine gT_t ?_
    try dsimp only
    refine gb_t (ih _ _ _ _ _ _ _ _ _ _ (by decide) (by omega) (by omega) (by first | omega | (simp only [bNode_1, bNode_p, bSet_1, bSet_p, bOver_1, bOver_p, bWrap_1, bWrap_p, bKeep_1, bKeep_p, bSlot_1, bSlot_p]; omega)) (trivial) (by simp only [lvG] at hf ⊢; omega)) (fun s3 g3 => ?_)
    have x3 := g_mono T n f _ _ _ _ _ _ _ _ _ _ s3 (by omega) (by omega) g3 _ (Nat.le_refl _) (by first | omega | (simp only [bNode_1, bNode_p, bSet_1, bSet_p, bOver_1, bOver_p, bWrap_1, bWrap_p, bKeep_1, bKeep_p, bSlot_1, bSlot_p]; omega)) trivial
    obtain ⟨a3, b3, c3, d3, e3, f3, h3, i3⟩ := (x3.1 : Mo n _ _ _ s3)
    have j3 : _ ≤ s3.2.2.2.1 ∧ s3.2.2.2.1 < s3.2.2.2.2.1.1 := x3.2
    try simp only [bNode_1, bNode_p, bSet_1, bSet_p, bOver_1, bOver_p, bWrap_1, bWrap_p, bKeep_1, bKeep_p, bSlot_1, bSlot_p] at a3 b3 c3 d3 e3 f3 h3 i3 j3
    try dsimp only
    exact ⟨_, rfl⟩
  · rw [if_neg y1]
    exact ih _ _ _ _ _ _ _ _ _ _ (by decide) (by omega) (by omega) (by first | omega | (simp only [bNode_1, bNode_p, bSet_1, bSet_p, bOver_1, bOver_p, bWrap_1, bWrap_p, bKeep_1, bKeep_p, bSlot_1, bSlot_p]; omega)) (trivial) (by simp only [lvG] at hf ⊢; omega)
theorem gt_5 {T : Nat → Int32} {n f : Nat} (ih : GT T n f) {E : En} {o q v i e c g : Nat} {b : BT} (hq : q ≤ n) (hv : v ≤ 60) (hb : 1 ≤ b.1) (hN : Nd0 5 1 b i e c) (hf : 30 * (n - q) + lvG 5 + 1 ≤ f + 1) : ∃ y, G T n (f + 1) 5 E o q v i e c g b = some y := by
  rw [G_5]
  refine gb_t (ih _ _ _ _ _ _ _ _ _ _ (by decide) (by omega) (by omega) (by first | omega | (simp only [bNode_1, bNode_p, bSet_1, bSet_p, bOver_1, bOver_p, bWrap_1, bWrap_p, bKeep_1, bKeep_p, bSlot_1, bSlot_p]; omega)) (trivial) (by simp only [lvG] at hf ⊢; omega)) (fun s1 g1 => ?_)
  have x1 := g_mono T n f _ _ _ _ _ _ _ _ _ _ s1 (by omega) (by omega) g1 _ (Nat.le_refl _) (by first | omega | (simp only [bNode_1, bNode_p, bSet_1, bSet_p, bOver_1, bOver_p, bWrap_1, bWrap_p, bKeep_1, bKeep_p, bSlot_1, bSlot_p]; omega)) trivial
  obtain ⟨a1, b1, c1, d1, e1, f1, h1, i1⟩ := (x1.1 : Mo n _ _ _ s1)
  have j1 : _ ≤ s1.2.2.2.1 ∧ s1.2.2.2.1 < s1.2.2.2.2.1.1 := x1.2
  try simp only [bNode_1, bNode_p, bSet_1, bSet_p, bOver_1, bOver_p, bWrap_1, bWrap_p, bKeep_1, bKeep_p, bSlot_1, bSlot_p] at a1 b1 c1 d1 e1 f1 h1 i1 j1
  try dsimp only
  by_cases y2 : isRl (tkK T n s1.1)
  · rw [if_pos y2]
    have u3 := tkN_b T n s1.1 (by omega)
    have v3 := u3.2.2.2 (by first | omega | (rcases y1 with z | z | z | z <;> omega) | (rcases y2 with z | z | z | z <;> omega))
    refine gT_t ?_
    try dsimp only
    refine gb_t (ih _ _ _ _ _ _ _ _ _ _ (by decide) (by omega) (by omega) (by first | omega | (simp only [bNode_1, bNode_p, bSet_1, bSet_p, bOver_1, bOver_p, bWrap_1, bWrap_p, bKeep_1, bKeep_p, bSlot_1, bSlot_p]; omega)) (trivial) (by simp only [lvG] at hf ⊢; omega)) (fun s4 g4 => ?_)
    have x4 := g_mono T n f _ _ _ _ _ _ _ _ _ _ s4 (by omega) (by omega) g4 _ (Nat.le_refl _) (by first | omega | (simp only [bNode_1, bNode_p, bSet_1, bSet_p, bOver_1, bOver_p, bWrap_1, bWrap_p, bKeep_1, bKeep_p, bSlot_1, bSlot_p]; omega)) trivial
    obtain ⟨a4, b4, c4, d4, e4, f4, h4, i4⟩ := (x4.1 : Mo n _ _ _ s4)
    have j4 : _ ≤ s4.2.2.2.1 ∧ s4.2.2.2.1 < s4.2.2.2.2.1.1 := x4.2
    try simp only [bNode_1, bNode_p, bSet_1, bSet_p, bOver_1, bOver_p, bWrap_1, bWrap_p, bKeep_1, bKeep_p, bSlot_1, bSlot_p] at a4 b4 c4 d4 e4 f4 h4 i4 j4
    try dsimp only
    exact ⟨_, rfl⟩
  · rw [if_neg y2]
    exact ⟨_, rfl⟩
theorem gt_6 {T : Nat → Int32} {n f : Nat} (ih : GT T n f) {E : En} {o q v i e c g : Nat} {b : BT} (hq : q ≤ n) (hv : v ≤ 60) (hb : 1 ≤ b.1) (hN : Nd0 6 1 b i e c) (hf : 30 * (n - q) + lvG 6 + 1 ≤ f + 1) : ∃ y, G T n (f + 1) 6 E o q v i e c g b = some y := by
  rw [G_6]
  refine gb_t (ih _ _ _ _ _ _ _ _ _ _ (by decide) (by omega) (by omega) (by first | omega | (simp only [bNode_1, bNode_p, bSet_1, bSet_p, bOver_1, bOver_p, bWrap_1, bWrap_p, bKeep_1, bKeep_p, bSlot_1, bSlot_p]; omega)) (trivial) (by simp only [lvG] at hf ⊢; omega)) (fun s1 g1 => ?_)
  have x1 := g_mono T n f _ _ _ _ _ _ _ _ _ _ s1 (by omega) (by omega) g1 _ (Nat.le_refl _) (by first | omega | (simp only [bNode_1, bNode_p, bSet_1, bSet_p, bOver_1, bOver_p, bWrap_1, bWrap_p, bKeep_1, bKeep_p, bSlot_1, bSlot_p]; omega)) trivial
  obtain ⟨a1, b1, c1, d1, e1, f1, h1, i1⟩ := (x1.1 : Mo n _ _ _ s1)
  have j1 : _ ≤ s1.2.2.2.1 ∧ s1.2.2.2.1 < s1.2.2.2.2.1.1 := x1.2
  try simp only [bNode_1, bNode_p, bSet_1, bSet_p, bOver_1, bOver_p, bWrap_1, bWrap_p, bKeep_1, bKeep_p, bSlot_1, bSlot_p] at a1 b1 c1 d1 e1 f1 h1 i1 j1
  try dsimp only
  exact ih _ _ _ _ _ _ _ _ _ _ (by decide) (by omega) (by omega) (by first | omega | (simp only [bNode_1, bNode_p, bSet_1, bSet_p, bOver_1, bOver_p, bWrap_1, bWrap_p, bKeep_1, bKeep_p, bSlot_1, bSlot_p]; omega)) ((⟨by omega, by first | omega | (simp only [bNode_1, bNode_p, bSet_1, bSet_p, bOver_1, bOver_p, bWrap_1, bWrap_p, bKeep_1, bKeep_p, bSlot_1, bSlot_p]; omega)⟩ : 1 ≤ _ ∧ _ < _)) (by simp only [lvG] at hf ⊢; omega)
theorem gt_7 {T : Nat → Int32} {n f : Nat} (ih : GT T n f) {E : En} {o q v i e c g : Nat} {b : BT} (hq : q ≤ n) (hv : v ≤ 60) (hb : 1 ≤ b.1) (hN : Nd0 7 1 b i e c) (hf : 30 * (n - q) + lvG 7 + 1 ≤ f + 1) : ∃ y, G T n (f + 1) 7 E o q v i e c g b = some y := by
  rw [G_7]
  have hN : 1 ≤ e ∧ e < b.1 := hN
  by_cases y1 : tkK T n q = 2 ∨ tkK T n q = 3
  · rw [if_pos y1]
    have u2 := tkN_b T n q (by omega)
    have v2 := u2.2.2.2 (by first | omega | (rcases y1 with z | z | z | z <;> omega) | (rcases y2 with z | z | z | z <;> omega))
    refine gT_t ?_
    try dsimp only
    refine gb_t (ih _ _ _ _ _ _ _ _ _ _ (by decide) (by omega) (by omega) (by first | omega | (simp only [bNode_1, bNode_p, bSet_1, bSet_p, bOver_1, bOver_p, bWrap_1, bWrap_p, bKeep_1, bKeep_p, bSlot_1, bSlot_p]; omega)) (trivial) (by simp only [lvG] at hf ⊢; omega)) (fun s3 g3 => ?_)
    have x3 := g_mono T n f _ _ _ _ _ _ _ _ _ _ s3 (by omega) (by omega) g3 _ (Nat.le_refl _) (by first | omega | (simp only [bNode_1, bNode_p, bSet_1, bSet_p, bOver_1, bOver_p, bWrap_1, bWrap_p, bKeep_1, bKeep_p, bSlot_1, bSlot_p]; omega)) trivial
    obtain ⟨a3, b3, c3, d3, e3, f3, h3, i3⟩ := (x3.1 : Mo n _ _ _ s3)
    have j3 : _ ≤ s3.2.2.2.1 ∧ s3.2.2.2.1 < s3.2.2.2.2.1.1 := x3.2
    try simp only [bNode_1, bNode_p, bSet_1, bSet_p, bOver_1, bOver_p, bWrap_1, bWrap_p, bKeep_1, bKeep_p, bSlot_1, bSlot_p] at a3 b3 c3 d3 e3 f3 h3 i3 j3
    try dsimp only
    exact ih _ _ _ _ _ _ _ _ _ _ (by decide) (by omega) (by omega) (by first | omega | (simp only [bNode_1, bNode_p, bSet_1, bSet_p, bOver_1, bOver_p, bWrap_1, bWrap_p, bKeep_1, bKeep_p, bSlot_1, bSlot_p]; omega)) ((⟨by omega, by first | omega | (simp only [bNode_1, bNode_p, bSet_1, bSet_p, bOver_1, bOver_p, bWrap_1, bWrap_p, bKeep_1, bKeep_p, bSlot_1, bSlot_p]; omega)⟩ : 1 ≤ _ ∧ _ < _)) (by simp only [lvG] at hf ⊢; omega)
  · rw [if_neg y1]
    exact ⟨_, rfl⟩
theorem gt_8 {T : Nat → Int32} {n f : Nat} (ih : GT T n f) {E : En} {o q v i e c g : Nat} {b : BT} (hq : q ≤ n) (hv : v ≤ 60) (hb : 1 ≤ b.1) (hN : Nd0 8 1 b i e c) (hf : 30 * (n - q) + lvG 8 + 1 ≤ f + 1) : ∃ y, G T n (f + 1) 8 E o q v i e c g b = some y := by
  rw [G_8]
  refine gb_t (ih _ _ _ _ _ _ _ _ _ _ (by decide) (by omega) (by omega) (by first | omega | (simp only [bNode_1, bNode_p, bSet_1, bSet_p, bOver_1, bOver_p, bWrap_1, bWrap_p, bKeep_1, bKeep_p, bSlot_1, bSlot_p]; omega)) (trivial) (by simp only [lvG] at hf ⊢; omega)) (fun s1 g1 => ?_)
  have x1 := g_mono T n f _ _ _ _ _ _ _ _ _ _ s1 (by omega) (by omega) g1 _ (Nat.le_refl _) (by first | omega | (simp only [bNode_1, bNode_p, bSet_1, bSet_p, bOver_1, bOver_p, bWrap_1, bWrap_p, bKeep_1, bKeep_p, bSlot_1, bSlot_p]; omega)) trivial
  obtain ⟨a1, b1, c1, d1, e1, f1, h1, i1⟩ := (x1.1 : Mo n _ _ _ s1)
  have j1 : _ ≤ s1.2.2.2.1 ∧ s1.2.2.2.1 < s1.2.2.2.2.1.1 := x1.2
  try simp only [bNode_1, bNode_p, bSet_1, bSet_p, bOver_1, bOver_p, bWrap_1, bWrap_p, bKeep_1, bKeep_p, bSlot_1, bSlot_p] at a1 b1 c1 d1 e1 f1 h1 i1 j1
  try dsimp only
  exact ih _ _ _ _ _ _ _ _ _ _ (by decide) (by omega) (by omega) (by first | omega | (simp only [bNode_1, bNode_p, bSet_1, bSet_p, bOver_1, bOver_p, bWrap_1, bWrap_p, bKeep_1, bKeep_p, bSlot_1, bSlot_p]; omega)) ((⟨by omega, by first | omega | (simp only [bNode_1, bNode_p, bSet_1, bSet_p, bOver_1, bOver_p, bWrap_1, bWrap_p, bKeep_1, bKeep_p, bSlot_1, bSlot_p]; omega)⟩ : 1 ≤ _ ∧ _ < _)) (by simp only [lvG] at hf ⊢; omega)
theorem gt_9 {T : Nat → Int32} {n f : Nat} (ih : GT T n f) {E : En} {o q v i e c g : Nat} {b : BT} (hq : q ≤ n) (hv : v ≤ 60) (hb : 1 ≤ b.1) (hN : Nd0 9 1 b i e c) (hf : 30 * (n - q) + lvG 9 + 1 ≤ f + 1) : ∃ y, G T n (f + 1) 9 E o q v i e c g b = some y := by
  rw [G_9]
  have hN : 1 ≤ e ∧ e < b.1 := hN
  by_cases y1 : tkK T n q = 4 ∨ tkK T n q = 67 ∨ tkK T n q = 68
  · rw [if_pos y1]
    have u2 := tkN_b T n q (by omega)
    have v2 := u2.2.2.2 (by first | omega | (rcases y1 with z | z | z | z <;> omega) | (rcases y2 with z | z | z | z <;> omega))
    refine gT_t ?_
    try dsimp only
    refine gb_t (ih _ _ _ _ _ _ _ _ _ _ (by decide) (by omega) (by omega) (by first | omega | (simp only [bNode_1, bNode_p, bSet_1, bSet_p, bOver_1, bOver_p, bWrap_1, bWrap_p, bKeep_1, bKeep_p, bSlot_1, bSlot_p]; omega)) (trivial) (by simp only [lvG] at hf ⊢; omega)) (fun s3 g3 => ?_)
    have x3 := g_mono T n f _ _ _ _ _ _ _ _ _ _ s3 (by omega) (by omega) g3 _ (Nat.le_refl _) (by first | omega | (simp only [bNode_1, bNode_p, bSet_1, bSet_p, bOver_1, bOver_p, bWrap_1, bWrap_p, bKeep_1, bKeep_p, bSlot_1, bSlot_p]; omega)) trivial
    obtain ⟨a3, b3, c3, d3, e3, f3, h3, i3⟩ := (x3.1 : Mo n _ _ _ s3)
    have j3 : _ ≤ s3.2.2.2.1 ∧ s3.2.2.2.1 < s3.2.2.2.2.1.1 := x3.2
    try simp only [bNode_1, bNode_p, bSet_1, bSet_p, bOver_1, bOver_p, bWrap_1, bWrap_p, bKeep_1, bKeep_p, bSlot_1, bSlot_p] at a3 b3 c3 d3 e3 f3 h3 i3 j3
    try dsimp only
    exact ih _ _ _ _ _ _ _ _ _ _ (by decide) (by omega) (by omega) (by first | omega | (simp only [bNode_1, bNode_p, bSet_1, bSet_p, bOver_1, bOver_p, bWrap_1, bWrap_p, bKeep_1, bKeep_p, bSlot_1, bSlot_p]; omega)) ((⟨by omega, by first | omega | (simp only [bNode_1, bNode_p, bSet_1, bSet_p, bOver_1, bOver_p, bWrap_1, bWrap_p, bKeep_1, bKeep_p, bSlot_1, bSlot_p]; omega)⟩ : 1 ≤ _ ∧ _ < _)) (by simp only [lvG] at hf ⊢; omega)
  · rw [if_neg y1]
    exact ⟨_, rfl⟩
theorem gt_10 {T : Nat → Int32} {n f : Nat} (ih : GT T n f) {E : En} {o q v i e c g : Nat} {b : BT} (hq : q ≤ n) (hv : v ≤ 60) (hb : 1 ≤ b.1) (hN : Nd0 10 1 b i e c) (hf : 30 * (n - q) + lvG 10 + 1 ≤ f + 1) : ∃ y, G T n (f + 1) 10 E o q v i e c g b = some y := by
  rw [G_10]
  refine gb_t (ih _ _ _ _ _ _ _ _ _ _ (by decide) (by omega) (by omega) (by first | omega | (simp only [bNode_1, bNode_p, bSet_1, bSet_p, bOver_1, bOver_p, bWrap_1, bWrap_p, bKeep_1, bKeep_p, bSlot_1, bSlot_p]; omega)) (trivial) (by simp only [lvG] at hf ⊢; omega)) (fun s1 g1 => ?_)
  have x1 := g_mono T n f _ _ _ _ _ _ _ _ _ _ s1 (by omega) (by omega) g1 _ (Nat.le_refl _) (by first | omega | (simp only [bNode_1, bNode_p, bSet_1, bSet_p, bOver_1, bOver_p, bWrap_1, bWrap_p, bKeep_1, bKeep_p, bSlot_1, bSlot_p]; omega)) trivial
  obtain ⟨a1, b1, c1, d1, e1, f1, h1, i1⟩ := (x1.1 : Mo n _ _ _ s1)
  have j1 : _ ≤ s1.2.2.2.1 ∧ s1.2.2.2.1 < s1.2.2.2.2.1.1 := x1.2
  try simp only [bNode_1, bNode_p, bSet_1, bSet_p, bOver_1, bOver_p, bWrap_1, bWrap_p, bKeep_1, bKeep_p, bSlot_1, bSlot_p] at a1 b1 c1 d1 e1 f1 h1 i1 j1
  try dsimp only
  by_cases y2 : tkK T n s1.1 = 5
  · rw [if_pos y2]
    refine gO_t ?_
    have u3 := tkN_b T n s1.1 (by omega)
    have v3 := u3.2.2.2 (by first | omega | (rcases y1 with z | z | z | z <;> omega) | (rcases y2 with z | z | z | z <;> omega))
    refine gT_t ?_
    try dsimp only
    refine gb_t (ih _ _ _ _ _ _ _ _ _ _ (by decide) (by omega) (by omega) (by first | omega | (simp only [bNode_1, bNode_p, bSet_1, bSet_p, bOver_1, bOver_p, bWrap_1, bWrap_p, bKeep_1, bKeep_p, bSlot_1, bSlot_p]; omega)) (trivial) (by simp only [lvG] at hf ⊢; omega)) (fun s4 g4 => ?_)
    have x4 := g_mono T n f _ _ _ _ _ _ _ _ _ _ s4 (by omega) (by omega) g4 _ (Nat.le_refl _) (by first | omega | (simp only [bNode_1, bNode_p, bSet_1, bSet_p, bOver_1, bOver_p, bWrap_1, bWrap_p, bKeep_1, bKeep_p, bSlot_1, bSlot_p]; omega)) trivial
    obtain ⟨a4, b4, c4, d4, e4, f4, h4, i4⟩ := (x4.1 : Mo n _ _ _ s4)
    have j4 : _ ≤ s4.2.2.2.1 ∧ s4.2.2.2.1 < s4.2.2.2.2.1.1 := x4.2
    try simp only [bNode_1, bNode_p, bSet_1, bSet_p, bOver_1, bOver_p, bWrap_1, bWrap_p, bKeep_1, bKeep_p, bSlot_1, bSlot_p] at a4 b4 c4 d4 e4 f4 h4 i4 j4
    try dsimp only
    exact ⟨_, rfl⟩
  · rw [if_neg y2]
    exact ⟨_, rfl⟩
theorem gt_11 {T : Nat → Int32} {n f : Nat} (ih : GT T n f) {E : En} {o q v i e c g : Nat} {b : BT} (hq : q ≤ n) (hv : v ≤ 60) (hb : 1 ≤ b.1) (hN : Nd0 11 1 b i e c) (hf : 30 * (n - q) + lvG 11 + 1 ≤ f + 1) : ∃ y, G T n (f + 1) 11 E o q v i e c g b = some y := by
  rw [G_11]
  by_cases y1 : tkK T n q = 3 ∨ tkK T n q = 23
  · rw [if_pos y1]
    refine gO_t ?_
    have u2 := tkN_b T n q (by omega)
    have v2 := u2.2.2.2 (by first | omega | (rcases y1 with z | z | z | z <;> omega) | (rcases y2 with z | z | z | z <;> omega))
    refine gT_t ?_
    try dsimp only
    refine gb_t (ih _ _ _ _ _ _ _ _ _ _ (by decide) (by omega) (by omega) (by first | omega | (simp only [bNode_1, bNode_p, bSet_1, bSet_p, bOver_1, bOver_p, bWrap_1, bWrap_p, bKeep_1, bKeep_p, bSlot_1, bSlot_p]; omega)) (trivial) (by simp only [lvG] at hf ⊢; omega)) (fun s3 g3 => ?_)
    have x3 := g_mono T n f _ _ _ _ _ _ _ _ _ _ s3 (by omega) (by omega) g3 _ (Nat.le_refl _) (by first | omega | (simp only [bNode_1, bNode_p, bSet_1, bSet_p, bOver_1, bOver_p, bWrap_1, bWrap_p, bKeep_1, bKeep_p, bSlot_1, bSlot_p]; omega)) trivial
    obtain ⟨a3, b3, c3, d3, e3, f3, h3, i3⟩ := (x3.1 : Mo n _ _ _ s3)
    have j3 : _ ≤ s3.2.2.2.1 ∧ s3.2.2.2.1 < s3.2.2.2.2.1.1 := x3.2
    try simp only [bNode_1, bNode_p, bSet_1, bSet_p, bOver_1, bOver_p, bWrap_1, bWrap_p, bKeep_1, bKeep_p, bSlot_1, bSlot_p] at a3 b3 c3 d3 e3 f3 h3 i3 j3
    try dsimp only
    exact ⟨_, rfl⟩
  · rw [if_neg y1]
    by_cases y4 : tkK T n q = 2 ∨ tkK T n q = 4 ∨ tkK T n q = 81 ∨ tkK T n q = 80
    · rw [if_pos y4]
      refine gO_t ?_
      have u5 := tkN_b T n q (by omega)
      have v5 := u5.2.2.2 (by first | omega | (rcases y1 with z | z | z | z <;> omega) | (rcases y2 with z | z | z | z <;> omega))
      refine gT_t ?_
      try dsimp only
      refine gW_t (fun w6 => ?_)
      try have u6 := tkN_b T n (tkN T n q) (by omega)
      try have v6 := u6.2.2.2 (by first | omega | (split at w6 <;> omega))
      try dsimp only
      refine gb_t (ih _ _ _ _ _ _ _ _ _ _ (by decide) (by omega) (by omega) (by first | omega | (simp only [bNode_1, bNode_p, bSet_1, bSet_p, bOver_1, bOver_p, bWrap_1, bWrap_p, bKeep_1, bKeep_p, bSlot_1, bSlot_p]; omega)) (trivial) (by simp only [lvG] at hf ⊢; omega)) (fun s7 g7 => ?_)
      have x7 := g_mono T n f _ _ _ _ _ _ _ _ _ _ s7 (by omega) (by omega) g7 _ (Nat.le_refl _) (by first | omega | (simp only [bNode_1, bNode_p, bSet_1, bSet_p, bOver_1, bOver_p, bWrap_1, bWrap_p, bKeep_1, bKeep_p, bSlot_1, bSlot_p]; omega)) trivial
      obtain ⟨a7, b7, c7, d7, e7, f7, h7, i7⟩ := (x7.1 : Mo n _ _ _ s7)
      have j7 : _ ≤ s7.2.2.2.1 ∧ s7.2.2.2.1 < s7.2.2.2.2.1.1 := x7.2
      try simp only [bNode_1, bNode_p, bSet_1, bSet_p, bOver_1, bOver_p, bWrap_1, bWrap_p, bKeep_1, bKeep_p, bSlot_1, bSlot_p] at a7 b7 c7 d7 e7 f7 h7 i7 j7
      try dsimp only
      exact ⟨_, rfl⟩
    · rw [if_neg y4]
      refine gb_t (ih _ _ _ _ _ _ _ _ _ _ (by decide) (by omega) (by omega) (by first | omega | (simp only [bNode_1, bNode_p, bSet_1, bSet_p, bOver_1, bOver_p, bWrap_1, bWrap_p, bKeep_1, bKeep_p, bSlot_1, bSlot_p]; omega)) (trivial) (by simp only [lvG] at hf ⊢; omega)) (fun s8 g8 => ?_)
      have x8 := g_mono T n f _ _ _ _ _ _ _ _ _ _ s8 (by omega) (by omega) g8 _ (Nat.le_refl _) (by first | omega | (simp only [bNode_1, bNode_p, bSet_1, bSet_p, bOver_1, bOver_p, bWrap_1, bWrap_p, bKeep_1, bKeep_p, bSlot_1, bSlot_p]; omega)) trivial
      obtain ⟨a8, b8, c8, d8, e8, f8, h8, i8⟩ := (x8.1 : Mo n _ _ _ s8)
      have j8 : _ ≤ s8.2.2.2.1 ∧ s8.2.2.2.1 < s8.2.2.2.2.1.1 := x8.2
      try simp only [bNode_1, bNode_p, bSet_1, bSet_p, bOver_1, bOver_p, bWrap_1, bWrap_p, bKeep_1, bKeep_p, bSlot_1, bSlot_p] at a8 b8 c8 d8 e8 f8 h8 i8 j8
      try dsimp only
      exact ih _ _ _ _ _ _ _ _ _ _ (by decide) (by omega) (by omega) (by first | omega | (simp only [bNode_1, bNode_p, bSet_1, bSet_p, bOver_1, bOver_p, bWrap_1, bWrap_p, bKeep_1, bKeep_p, bSlot_1, bSlot_p]; omega)) ((⟨by omega, by first | omega | (simp only [bNode_1, bNode_p, bSet_1, bSet_p, bOver_1, bOver_p, bWrap_1, bWrap_p, bKeep_1, bKeep_p, bSlot_1, bSlot_p]; omega)⟩ : 1 ≤ _ ∧ _ < _)) (by simp only [lvG] at hf ⊢; omega)
theorem gt_12 {T : Nat → Int32} {n f : Nat} (ih : GT T n f) {E : En} {o q v i e c g : Nat} {b : BT} (hq : q ≤ n) (hv : v ≤ 60) (hb : 1 ≤ b.1) (hN : Nd0 12 1 b i e c) (hf : 30 * (n - q) + lvG 12 + 1 ≤ f + 1) : ∃ y, G T n (f + 1) 12 E o q v i e c g b = some y := by
  rw [G_12]
  have hN : 1 ≤ e ∧ e < b.1 := hN
  by_cases y1 : tkK T n q = 6 ∨ tkK T n q = 8
  · rw [if_pos y1]
    refine gO_t ?_
    have u2 := tkN_b T n q (by omega)
    have v2 := u2.2.2.2 (by first | omega | (rcases y1 with z | z | z | z <;> omega) | (rcases y2 with z | z | z | z <;> omega))
    refine gT_t ?_
    try dsimp only
    refine gb_t (ih _ _ _ _ _ _ _ _ _ _ (by decide) (by omega) (by omega) (by first | omega | (simp only [bNode_1, bNode_p, bSet_1, bSet_p, bOver_1, bOver_p, bWrap_1, bWrap_p, bKeep_1, bKeep_p, bSlot_1, bSlot_p]; omega)) (trivial) (by simp only [lvG] at hf ⊢; omega)) (fun s3 g3 => ?_)
    have x3 := g_mono T n f _ _ _ _ _ _ _ _ _ _ s3 (by omega) (by omega) g3 _ (Nat.le_refl _) (by first | omega | (simp only [bNode_1, bNode_p, bSet_1, bSet_p, bOver_1, bOver_p, bWrap_1, bWrap_p, bKeep_1, bKeep_p, bSlot_1, bSlot_p]; omega)) trivial
    obtain ⟨a3, b3, c3, d3, e3, f3, h3, i3⟩ := (x3.1 : Mo n _ _ _ s3)
    have j3 : _ ≤ s3.2.2.2.1 ∧ s3.2.2.2.1 < s3.2.2.2.2.1.1 := x3.2
    try simp only [bNode_1, bNode_p, bSet_1, bSet_p, bOver_1, bOver_p, bWrap_1, bWrap_p, bKeep_1, bKeep_p, bSlot_1, bSlot_p] at a3 b3 c3 d3 e3 f3 h3 i3 j3
    try dsimp only
    by_cases y4 : tkK T n q = 6 ∧ tkK T n s3.1 = 16
    · rw [if_pos y4]
      have u5 := tkN_b T n s3.1 (by omega)
      have v5 := u5.2.2.2 (by first | omega | (rcases y1 with z | z | z | z <;> omega) | (rcases y2 with z | z | z | z <;> omega))
      refine gT_t ?_
      try dsimp only
      refine gb_t (ih _ _ _ _ _ _ _ _ _ _ (by decide) (by omega) (by omega) (by first | omega | (simp only [bNode_1, bNode_p, bSet_1, bSet_p, bOver_1, bOver_p, bWrap_1, bWrap_p, bKeep_1, bKeep_p, bSlot_1, bSlot_p]; omega)) (trivial) (by simp only [lvG] at hf ⊢; omega)) (fun s6 g6 => ?_)
      have x6 := g_mono T n f _ _ _ _ _ _ _ _ _ _ s6 (by omega) (by omega) g6 _ (Nat.le_refl _) (by first | omega | (simp only [bNode_1, bNode_p, bSet_1, bSet_p, bOver_1, bOver_p, bWrap_1, bWrap_p, bKeep_1, bKeep_p, bSlot_1, bSlot_p]; omega)) trivial
      obtain ⟨a6, b6, c6, d6, e6, f6, h6, i6⟩ := (x6.1 : Mo n _ _ _ s6)
      have j6 : _ ≤ s6.2.2.2.1 ∧ s6.2.2.2.1 < s6.2.2.2.2.1.1 := x6.2
      try simp only [bNode_1, bNode_p, bSet_1, bSet_p, bOver_1, bOver_p, bWrap_1, bWrap_p, bKeep_1, bKeep_p, bSlot_1, bSlot_p] at a6 b6 c6 d6 e6 f6 h6 i6 j6
      try dsimp only
      refine gW_t (fun w7 => ?_)
      try have u7 := tkN_b T n s6.1 (by omega)
      try have v7 := u7.2.2.2 (by first | omega | (split at w7 <;> omega))
      try dsimp only
      exact ih _ _ _ _ _ _ _ _ _ _ (by decide) (by omega) (by omega) (by first | omega | (simp only [bNode_1, bNode_p, bSet_1, bSet_p, bOver_1, bOver_p, bWrap_1, bWrap_p, bKeep_1, bKeep_p, bSlot_1, bSlot_p]; omega)) ((⟨by omega, by first | omega | (simp only [bNode_1, bNode_p, bSet_1, bSet_p, bOver_1, bOver_p, bWrap_1, bWrap_p, bKeep_1, bKeep_p, bSlot_1, bSlot_p]; omega)⟩ : 1 ≤ _ ∧ _ < _)) (by simp only [lvG] at hf ⊢; omega)
    · rw [if_neg y4]
      refine gW_t (fun w8 => ?_)
      try have u8 := tkN_b T n s3.1 (by omega)
      try have v8 := u8.2.2.2 (by first | omega | (split at w8 <;> omega))
      try dsimp only
      exact ih _ _ _ _ _ _ _ _ _ _ (by decide) (by omega) (by omega) (by first | omega | (simp only [bNode_1, bNode_p, bSet_1, bSet_p, bOver_1, bOver_p, bWrap_1, bWrap_p, bKeep_1, bKeep_p, bSlot_1, bSlot_p]; omega)) ((⟨by omega, by first | omega | (simp only [bNode_1, bNode_p, bSet_1, bSet_p, bOver_1, bOver_p, bWrap_1, bWrap_p, bKeep_1, bKeep_p, bSlot_1, bSlot_p]; omega)⟩ : 1 ≤ _ ∧ _ < _)) (by simp only [lvG] at hf ⊢; omega)
  · rw [if_neg y1]
    exact ⟨_, rfl⟩
theorem gt_13 {T : Nat → Int32} {n f : Nat} (ih : GT T n f) {E : En} {o q v i e c g : Nat} {b : BT} (hq : q ≤ n) (hv : v ≤ 60) (hb : 1 ≤ b.1) (hN : Nd0 13 1 b i e c) (hf : 30 * (n - q) + lvG 13 + 1 ≤ f + 1) : ∃ y, G T n (f + 1) 13 E o q v i e c g b = some y := by
  rw [G_13]
  by_cases y1 : tkK T n q = 27
  · rw [if_pos y1]
    have u2 := tkN_b T n q (by omega)
    have v2 := u2.2.2.2 (by first | omega | (rcases y1 with z | z | z | z <;> omega) | (rcases y2 with z | z | z | z <;> omega))
    refine gT_t ?_
    try dsimp only
    exact ⟨_, rfl⟩
  · rw [if_neg y1]
    by_cases y3 : tkK T n q = 28
    · rw [if_pos y3]
      have u4 := tkN_b T n q (by omega)
      have v4 := u4.2.2.2 (by first | omega | (rcases y1 with z | z | z | z <;> omega) | (rcases y2 with z | z | z | z <;> omega))
      refine gT_t ?_
      try dsimp only
      exact ⟨_, rfl⟩
    · rw [if_neg y3]
      by_cases y5 : tkK T n q = 26
      · rw [if_pos y5]
        have u6 := tkN_b T n q (by omega)
        have v6 := u6.2.2.2 (by first | omega | (rcases y1 with z | z | z | z <;> omega) | (rcases y2 with z | z | z | z <;> omega))
        refine gT_t ?_
        try dsimp only
        by_cases y7 : (fd E (tkS T n q)).1 = 1
        · rw [if_pos y7]
          exact ⟨_, rfl⟩
        · rw [if_neg y7]
          by_cases y8 : (fd E (tkS T n q)).1 = 2 ∧ tkK T n (tkN T n q) = 6
          · rw [if_pos y8]
            refine gO_t ?_
            have u9 := tkN_b T n (tkN T n q) (by omega)
            have v9 := u9.2.2.2 (by first | omega | (rcases y1 with z | z | z | z <;> omega) | (rcases y2 with z | z | z | z <;> omega))
            refine gT_t ?_
            try dsimp only
            refine gb_t (ih _ _ _ _ _ _ _ _ _ _ (by decide) (by omega) (by omega) (by first | omega | (simp only [bNode_1, bNode_p, bSet_1, bSet_p, bOver_1, bOver_p, bWrap_1, bWrap_p, bKeep_1, bKeep_p, bSlot_1, bSlot_p]; omega)) (Or.inl rfl) (by simp only [lvG] at hf ⊢; omega)) (fun s10 g10 => ?_)
            have x10 := g_mono T n f _ _ _ _ _ _ _ _ _ _ s10 (by omega) (by omega) g10 1 (by first | omega | (simp only [bNode_1, bNode_p, bSet_1, bSet_p, bOver_1, bOver_p, bWrap_1, bWrap_p, bKeep_1, bKeep_p, bSlot_1, bSlot_p]; omega)) (by decide) (Or.inl rfl)
            obtain ⟨a10, b10, c10, d10, e10, f10, h10, i10⟩ := (x10.1 : Mo n _ _ _ s10)
            try simp only [bNode_1, bNode_p, bSet_1, bSet_p, bOver_1, bOver_p, bWrap_1, bWrap_p, bKeep_1, bKeep_p, bSlot_1, bSlot_p] at a10 b10 c10 d10 e10 f10 h10 i10
            try dsimp only
            by_cases y11 : tkK T n s10.1 = 7 ∧ s10.2.2.1 = E.2.2.2.2.2.2 (fd E (tkS T n q)).2.1
            · rw [if_pos y11]
              have u12 := tkN_b T n s10.1 (by omega)
              have v12 := u12.2.2.2 (by first | omega | (rcases y1 with z | z | z | z <;> omega) | (rcases y2 with z | z | z | z <;> omega))
              refine gT_t ?_
              try dsimp only
              exact ⟨_, rfl⟩
            · rw [if_neg y11]
              exact ⟨_, rfl⟩
          · rw [if_neg y8]
            exact ⟨_, rfl⟩
      · rw [if_neg y5]
        by_cases y13 : tkK T n q = 6
        · rw [if_pos y13]
          refine gO_t ?_
          have u14 := tkN_b T n q (by omega)
          have v14 := u14.2.2.2 (by first | omega | (rcases y1 with z | z | z | z <;> omega) | (rcases y2 with z | z | z | z <;> omega))
          refine gT_t ?_
          try dsimp only
          refine gb_t (ih _ _ _ _ _ _ _ _ _ _ (by decide) (by omega) (by omega) (by first | omega | (simp only [bNode_1, bNode_p, bSet_1, bSet_p, bOver_1, bOver_p, bWrap_1, bWrap_p, bKeep_1, bKeep_p, bSlot_1, bSlot_p]; omega)) (trivial) (by simp only [lvG] at hf ⊢; omega)) (fun s15 g15 => ?_)
          have x15 := g_mono T n f _ _ _ _ _ _ _ _ _ _ s15 (by omega) (by omega) g15 _ (Nat.le_refl _) (by first | omega | (simp only [bNode_1, bNode_p, bSet_1, bSet_p, bOver_1, bOver_p, bWrap_1, bWrap_p, bKeep_1, bKeep_p, bSlot_1, bSlot_p]; omega)) trivial
          obtain ⟨a15, b15, c15, d15, e15, f15, h15, i15⟩ := (x15.1 : Mo n _ _ _ s15)
          have j15 : _ ≤ s15.2.2.2.1 ∧ s15.2.2.2.1 < s15.2.2.2.2.1.1 := x15.2
          try simp only [bNode_1, bNode_p, bSet_1, bSet_p, bOver_1, bOver_p, bWrap_1, bWrap_p, bKeep_1, bKeep_p, bSlot_1, bSlot_p] at a15 b15 c15 d15 e15 f15 h15 i15 j15
          try dsimp only
          refine gW_t (fun w16 => ?_)
          try have u16 := tkN_b T n s15.1 (by omega)
          try have v16 := u16.2.2.2 (by first | omega | (split at w16 <;> omega))
          try dsimp only
          exact ⟨_, rfl⟩
        · rw [if_neg y13]
          by_cases y17 : tkK T n q = 8 ∨ tkK T n q = 10
          · rw [if_pos y17]
            refine gO_t ?_
            have u18 := tkN_b T n q (by omega)
            have v18 := u18.2.2.2 (by first | omega | (rcases y1 with z | z | z | z <;> omega) | (rcases y2 with z | z | z | z <;> omega))
            refine gT_t ?_
            try dsimp only
            by_cases y19 : tkK T n (tkN T n q) = tkK T n q + 1
            · rw [if_pos y19]
              have u20 := tkN_b T n (tkN T n q) (by omega)
              have v20 := u20.2.2.2 (by first | omega | (rcases y1 with z | z | z | z <;> omega) | (rcases y2 with z | z | z | z <;> omega))
              refine gT_t ?_
              try dsimp only
              exact ⟨_, rfl⟩
            · rw [if_neg y19]
              by_cases y21 : tkK T n (tkN T n q) = 45
              · rw [if_pos y21]
                have u22 := tkN_b T n (tkN T n q) (by omega)
                have v22 := u22.2.2.2 (by first | omega | (rcases y1 with z | z | z | z <;> omega) | (rcases y2 with z | z | z | z <;> omega))
                refine gT_t ?_
                try dsimp only
                refine gb_t (ih _ _ _ _ _ _ _ _ _ _ (by decide) (by omega) (by omega) (by first | omega | (simp only [bNode_1, bNode_p, bSet_1, bSet_p, bOver_1, bOver_p, bWrap_1, bWrap_p, bKeep_1, bKeep_p, bSlot_1, bSlot_p]; omega)) (Or.inl rfl) (by simp only [lvG] at hf ⊢; omega)) (fun s23 g23 => ?_)
                have x23 := g_mono T n f _ _ _ _ _ _ _ _ _ _ s23 (by omega) (by omega) g23 1 (by first | omega | (simp only [bNode_1, bNode_p, bSet_1, bSet_p, bOver_1, bOver_p, bWrap_1, bWrap_p, bKeep_1, bKeep_p, bSlot_1, bSlot_p]; omega)) (by decide) (Or.inl rfl)
                obtain ⟨a23, b23, c23, d23, e23, f23, h23, i23⟩ := (x23.1 : Mo n _ _ _ s23)
                have j23 : _ ≤ s23.2.2.2.1 ∧ s23.2.2.2.1 < s23.2.2.2.2.1.1 := x23.2
                try simp only [bNode_1, bNode_p, bSet_1, bSet_p, bOver_1, bOver_p, bWrap_1, bWrap_p, bKeep_1, bKeep_p, bSlot_1, bSlot_p] at a23 b23 c23 d23 e23 f23 h23 i23 j23
                try dsimp only
                by_cases y24 : tkK T n s23.1 = 15
                · rw [if_pos y24]
                  have u25 := tkN_b T n s23.1 (by omega)
                  have v25 := u25.2.2.2 (by first | omega | (rcases y1 with z | z | z | z <;> omega) | (rcases y2 with z | z | z | z <;> omega))
                  refine gT_t ?_
                  try dsimp only
                  refine gb_t (ih _ _ _ _ _ _ _ _ _ _ (by decide) (by omega) (by omega) (by first | omega | (simp only [bNode_1, bNode_p, bSet_1, bSet_p, bOver_1, bOver_p, bWrap_1, bWrap_p, bKeep_1, bKeep_p, bSlot_1, bSlot_p]; omega)) (trivial) (by simp only [lvG] at hf ⊢; omega)) (fun s26 g26 => ?_)
                  have x26 := g_mono T n f _ _ _ _ _ _ _ _ _ _ s26 (by omega) (by omega) g26 _ (Nat.le_refl _) (by first | omega | (simp only [bNode_1, bNode_p, bSet_1, bSet_p, bOver_1, bOver_p, bWrap_1, bWrap_p, bKeep_1, bKeep_p, bSlot_1, bSlot_p]; omega)) trivial
                  obtain ⟨a26, b26, c26, d26, e26, f26, h26, i26⟩ := (x26.1 : Mo n _ _ _ s26)
                  have j26 : _ ≤ s26.2.2.2.1 ∧ s26.2.2.2.1 < s26.2.2.2.2.1.1 := x26.2
                  try simp only [bNode_1, bNode_p, bSet_1, bSet_p, bOver_1, bOver_p, bWrap_1, bWrap_p, bKeep_1, bKeep_p, bSlot_1, bSlot_p] at a26 b26 c26 d26 e26 f26 h26 i26 j26
                  try dsimp only
                  refine gW_t (fun w27 => ?_)
                  try have u27 := tkN_b T n s26.1 (by omega)
                  try have v27 := u27.2.2.2 (by first | omega | (split at w27 <;> omega))
                  try dsimp only
                  refine gb_t (ih _ _ _ _ _ _ _ _ _ _ (by decide) (by omega) (by omega) (by first | omega | (simp only [bNode_1, bNode_p, bSet_1, bSet_p, bOver_1, bOver_p, bWrap_1, bWrap_p, bKeep_1, bKeep_p, bSlot_1, bSlot_p]; omega)) (trivial) (by simp only [lvG] at hf ⊢; omega)) (fun s28 g28 => ?_)
                  have x28 := g_mono T n f _ _ _ _ _ _ _ _ _ _ s28 (by omega) (by omega) g28 _ (Nat.le_refl _) (by first | omega | (simp only [bNode_1, bNode_p, bSet_1, bSet_p, bOver_1, bOver_p, bWrap_1, bWrap_p, bKeep_1, bKeep_p, bSlot_1, bSlot_p]; omega)) trivial
                  obtain ⟨a28, b28, c28, d28, e28, f28, h28, i28⟩ := (x28.1 : Mo n _ _ _ s28)
                  have j28 : _ ≤ s28.2.2.2.1 ∧ s28.2.2.2.1 < s28.2.2.2.2.1.1 := x28.2
                  try simp only [bNode_1, bNode_p, bSet_1, bSet_p, bOver_1, bOver_p, bWrap_1, bWrap_p, bKeep_1, bKeep_p, bSlot_1, bSlot_p] at a28 b28 c28 d28 e28 f28 h28 i28 j28
                  try dsimp only
                  refine gW_t (fun w29 => ?_)
                  try have u29 := tkN_b T n s28.1 (by omega)
                  try have v29 := u29.2.2.2 (by first | omega | (split at w29 <;> omega))
                  try dsimp only
                  exact ⟨_, rfl⟩
                · rw [if_neg y24]
                  refine gW_t (fun w30 => ?_)
                  try have u30 := tkN_b T n s23.1 (by omega)
                  try have v30 := u30.2.2.2 (by first | omega | (split at w30 <;> omega))
                  try dsimp only
                  refine gb_t (ih _ _ _ _ _ _ _ _ _ _ (by decide) (by omega) (by omega) (by first | omega | (simp only [bNode_1, bNode_p, bSet_1, bSet_p, bOver_1, bOver_p, bWrap_1, bWrap_p, bKeep_1, bKeep_p, bSlot_1, bSlot_p]; omega)) (trivial) (by simp only [lvG] at hf ⊢; omega)) (fun s31 g31 => ?_)
                  have x31 := g_mono T n f _ _ _ _ _ _ _ _ _ _ s31 (by omega) (by omega) g31 _ (Nat.le_refl _) (by first | omega | (simp only [bNode_1, bNode_p, bSet_1, bSet_p, bOver_1, bOver_p, bWrap_1, bWrap_p, bKeep_1, bKeep_p, bSlot_1, bSlot_p]; omega)) trivial
                  obtain ⟨a31, b31, c31, d31, e31, f31, h31, i31⟩ := (x31.1 : Mo n _ _ _ s31)
                  have j31 : _ ≤ s31.2.2.2.1 ∧ s31.2.2.2.1 < s31.2.2.2.2.1.1 := x31.2
                  try simp only [bNode_1, bNode_p, bSet_1, bSet_p, bOver_1, bOver_p, bWrap_1, bWrap_p, bKeep_1, bKeep_p, bSlot_1, bSlot_p] at a31 b31 c31 d31 e31 f31 h31 i31 j31
                  try dsimp only
                  refine gW_t (fun w32 => ?_)
                  try have u32 := tkN_b T n s31.1 (by omega)
                  try have v32 := u32.2.2.2 (by first | omega | (split at w32 <;> omega))
                  try dsimp only
                  exact ⟨_, rfl⟩
              · rw [if_neg y21]
                refine gb_t (ih _ _ _ _ _ _ _ _ _ _ (by decide) (by omega) (by omega) (by first | omega | (simp only [bNode_1, bNode_p, bSet_1, bSet_p, bOver_1, bOver_p, bWrap_1, bWrap_p, bKeep_1, bKeep_p, bSlot_1, bSlot_p]; omega)) (trivial) (by simp only [lvG] at hf ⊢; omega)) (fun s33 g33 => ?_)
                have x33 := g_mono T n f _ _ _ _ _ _ _ _ _ _ s33 (by omega) (by omega) g33 _ (Nat.le_refl _) (by first | omega | (simp only [bNode_1, bNode_p, bSet_1, bSet_p, bOver_1, bOver_p, bWrap_1, bWrap_p, bKeep_1, bKeep_p, bSlot_1, bSlot_p]; omega)) trivial
                obtain ⟨a33, b33, c33, d33, e33, f33, h33, i33⟩ := (x33.1 : Mo n _ _ _ s33)
                have j33 : _ ≤ s33.2.2.2.1 ∧ s33.2.2.2.1 < s33.2.2.2.2.1.1 := x33.2
                try simp only [bNode_1, bNode_p, bSet_1, bSet_p, bOver_1, bOver_p, bWrap_1, bWrap_p, bKeep_1, bKeep_p, bSlot_1, bSlot_p] at a33 b33 c33 d33 e33 f33 h33 i33 j33
                try dsimp only
                by_cases y34 : tkK T n s33.1 = 16
                · rw [if_pos y34]
                  have u35 := tkN_b T n s33.1 (by omega)
                  have v35 := u35.2.2.2 (by first | omega | (rcases y1 with z | z | z | z <;> omega) | (rcases y2 with z | z | z | z <;> omega))
                  refine gT_t ?_
                  try dsimp only
                  refine gb_t (ih _ _ _ _ _ _ _ _ _ _ (by decide) (by omega) (by omega) (by first | omega | (simp only [bNode_1, bNode_p, bSet_1, bSet_p, bOver_1, bOver_p, bWrap_1, bWrap_p, bKeep_1, bKeep_p, bSlot_1, bSlot_p]; omega)) (trivial) (by simp only [lvG] at hf ⊢; omega)) (fun s36 g36 => ?_)
                  have x36 := g_mono T n f _ _ _ _ _ _ _ _ _ _ s36 (by omega) (by omega) g36 _ (Nat.le_refl _) (by first | omega | (simp only [bNode_1, bNode_p, bSet_1, bSet_p, bOver_1, bOver_p, bWrap_1, bWrap_p, bKeep_1, bKeep_p, bSlot_1, bSlot_p]; omega)) trivial
                  obtain ⟨a36, b36, c36, d36, e36, f36, h36, i36⟩ := (x36.1 : Mo n _ _ _ s36)
                  have j36 : _ ≤ s36.2.2.2.1 ∧ s36.2.2.2.1 < s36.2.2.2.2.1.1 := x36.2
                  try simp only [bNode_1, bNode_p, bSet_1, bSet_p, bOver_1, bOver_p, bWrap_1, bWrap_p, bKeep_1, bKeep_p, bSlot_1, bSlot_p] at a36 b36 c36 d36 e36 f36 h36 i36 j36
                  try dsimp only
                  refine gW_t (fun w37 => ?_)
                  try have u37 := tkN_b T n s36.1 (by omega)
                  try have v37 := u37.2.2.2 (by first | omega | (split at w37 <;> omega))
                  try dsimp only
                  exact ⟨_, rfl⟩
                · rw [if_neg y34]
                  refine gb_t (ih _ _ _ _ _ _ _ _ _ _ (by decide) (by omega) (by omega) (by first | omega | (simp only [bNode_1, bNode_p, bSet_1, bSet_p, bOver_1, bOver_p, bWrap_1, bWrap_p, bKeep_1, bKeep_p, bSlot_1, bSlot_p]; omega)) ((⟨by omega, by omega, by omega, by omega⟩ : 1 ≤ _ ∧ _ < _ ∧ 1 ≤ _ ∧ _ < _)) (by simp only [lvG] at hf ⊢; omega)) (fun s38 g38 => ?_)
                  try dsimp only
                  refine gW_t (fun w39 => ?_)
                  try have u39 := tkN_b T n s38.1 (by omega)
                  try have v39 := u39.2.2.2 (by first | omega | (split at w39 <;> omega))
                  try dsimp only
                  exact ⟨_, rfl⟩
          · rw [if_neg y17]
            by_cases y40 : tkK T n q = 60 ∨ tkK T n q = 61 ∨ tkK T n q = 62
            · rw [if_pos y40]
              have u41 := tkN_b T n q (by omega)
              have v41 := u41.2.2.2 (by first | omega | (rcases y1 with z | z | z | z <;> omega) | (rcases y2 with z | z | z | z <;> omega))
              refine gT_t ?_
              try dsimp only
              exact ⟨_, rfl⟩
            · rw [if_neg y40]
              by_cases y42 : tkK T n q = 69 ∨ tkK T n q = 70
              · rw [if_pos y42]
                refine gO_t ?_
                have u43 := tkN_b T n q (by omega)
                have v43 := u43.2.2.2 (by first | omega | (rcases y1 with z | z | z | z <;> omega) | (rcases y2 with z | z | z | z <;> omega))
                refine gT_t ?_
                try dsimp only
                refine gb_t (ih _ _ _ _ _ _ _ _ _ _ (by decide) (by omega) (by omega) (by first | omega | (simp only [bNode_1, bNode_p, bSet_1, bSet_p, bOver_1, bOver_p, bWrap_1, bWrap_p, bKeep_1, bKeep_p, bSlot_1, bSlot_p]; omega)) (Or.inl rfl) (by simp only [lvG] at hf ⊢; omega)) (fun s44 g44 => ?_)
                have x44 := g_mono T n f _ _ _ _ _ _ _ _ _ _ s44 (by omega) (by omega) g44 1 (by first | omega | (simp only [bNode_1, bNode_p, bSet_1, bSet_p, bOver_1, bOver_p, bWrap_1, bWrap_p, bKeep_1, bKeep_p, bSlot_1, bSlot_p]; omega)) (by decide) (Or.inl rfl)
                obtain ⟨a44, b44, c44, d44, e44, f44, h44, i44⟩ := (x44.1 : Mo n _ _ _ s44)
                have j44 : _ ≤ s44.2.2.2.1 ∧ s44.2.2.2.1 < s44.2.2.2.2.1.1 := x44.2
                try simp only [bNode_1, bNode_p, bSet_1, bSet_p, bOver_1, bOver_p, bWrap_1, bWrap_p, bKeep_1, bKeep_p, bSlot_1, bSlot_p] at a44 b44 c44 d44 e44 f44 h44 i44 j44
                try dsimp only
                refine gW_t (fun w45 => ?_)
                try have u45 := tkN_b T n s44.1 (by omega)
                try have v45 := u45.2.2.2 (by first | omega | (split at w45 <;> omega))
                try dsimp only
                refine gb_t (ih _ _ _ _ _ _ _ _ _ _ (by decide) (by omega) (by omega) (by first | omega | (simp only [bNode_1, bNode_p, bSet_1, bSet_p, bOver_1, bOver_p, bWrap_1, bWrap_p, bKeep_1, bKeep_p, bSlot_1, bSlot_p]; omega)) (trivial) (by simp only [lvG] at hf ⊢; omega)) (fun s46 g46 => ?_)
                have x46 := g_mono T n f _ _ _ _ _ _ _ _ _ _ s46 (by omega) (by omega) g46 _ (Nat.le_refl _) (by first | omega | (simp only [bNode_1, bNode_p, bSet_1, bSet_p, bOver_1, bOver_p, bWrap_1, bWrap_p, bKeep_1, bKeep_p, bSlot_1, bSlot_p]; omega)) trivial
                obtain ⟨a46, b46, c46, d46, e46, f46, h46, i46⟩ := (x46.1 : Mo n _ _ _ s46)
                have j46 : _ ≤ s46.2.2.2.1 ∧ s46.2.2.2.1 < s46.2.2.2.2.1.1 := x46.2
                try simp only [bNode_1, bNode_p, bSet_1, bSet_p, bOver_1, bOver_p, bWrap_1, bWrap_p, bKeep_1, bKeep_p, bSlot_1, bSlot_p] at a46 b46 c46 d46 e46 f46 h46 i46 j46
                try dsimp only
                exact ⟨_, rfl⟩
              · rw [if_neg y42]
                by_cases y47 : tkK T n q = 39
                · rw [if_pos y47]
                  refine gO_t ?_
                  have u48 := tkN_b T n q (by omega)
                  have v48 := u48.2.2.2 (by first | omega | (rcases y1 with z | z | z | z <;> omega) | (rcases y2 with z | z | z | z <;> omega))
                  refine gT_t ?_
                  try dsimp only
                  refine gb_t (ih _ _ _ _ _ _ _ _ _ _ (by decide) (by omega) (by omega) (by first | omega | (simp only [bNode_1, bNode_p, bSet_1, bSet_p, bOver_1, bOver_p, bWrap_1, bWrap_p, bKeep_1, bKeep_p, bSlot_1, bSlot_p]; omega)) (trivial) (by simp only [lvG] at hf ⊢; omega)) (fun s49 g49 => ?_)
                  have x49 := g_mono T n f _ _ _ _ _ _ _ _ _ _ s49 (by omega) (by omega) g49 _ (Nat.le_refl _) (by first | omega | (simp only [bNode_1, bNode_p, bSet_1, bSet_p, bOver_1, bOver_p, bWrap_1, bWrap_p, bKeep_1, bKeep_p, bSlot_1, bSlot_p]; omega)) trivial
                  obtain ⟨a49, b49, c49, d49, e49, f49, h49, i49⟩ := (x49.1 : Mo n _ _ _ s49)
                  have j49 : _ ≤ s49.2.2.2.1 ∧ s49.2.2.2.1 < s49.2.2.2.2.1.1 := x49.2
                  try simp only [bNode_1, bNode_p, bSet_1, bSet_p, bOver_1, bOver_p, bWrap_1, bWrap_p, bKeep_1, bKeep_p, bSlot_1, bSlot_p] at a49 b49 c49 d49 e49 f49 h49 i49 j49
                  try dsimp only
                  refine gW_t (fun w50 => ?_)
                  try have u50 := tkN_b T n s49.1 (by omega)
                  try have v50 := u50.2.2.2 (by first | omega | (split at w50 <;> omega))
                  try dsimp only
                  refine gb_t (ih _ _ _ _ _ _ _ _ _ _ (by decide) (by omega) (by omega) (by first | omega | (simp only [bNode_1, bNode_p, bSet_1, bSet_p, bOver_1, bOver_p, bWrap_1, bWrap_p, bKeep_1, bKeep_p, bSlot_1, bSlot_p]; omega)) (trivial) (by simp only [lvG] at hf ⊢; omega)) (fun s51 g51 => ?_)
                  have x51 := g_mono T n f _ _ _ _ _ _ _ _ _ _ s51 (by omega) (by omega) g51 _ (Nat.le_refl _) (by first | omega | (simp only [bNode_1, bNode_p, bSet_1, bSet_p, bOver_1, bOver_p, bWrap_1, bWrap_p, bKeep_1, bKeep_p, bSlot_1, bSlot_p]; omega)) trivial
                  obtain ⟨a51, b51, c51, d51, e51, f51, h51, i51⟩ := (x51.1 : Mo n _ _ _ s51)
                  have j51 : _ ≤ s51.2.2.2.1 ∧ s51.2.2.2.1 < s51.2.2.2.2.1.1 := x51.2
                  try simp only [bNode_1, bNode_p, bSet_1, bSet_p, bOver_1, bOver_p, bWrap_1, bWrap_p, bKeep_1, bKeep_p, bSlot_1, bSlot_p] at a51 b51 c51 d51 e51 f51 h51 i51 j51
                  try dsimp only
                  refine gb_t (ih _ _ _ _ _ _ _ _ _ _ (by decide) (by omega) (by omega) (by first | omega | (simp only [bNode_1, bNode_p, bSet_1, bSet_p, bOver_1, bOver_p, bWrap_1, bWrap_p, bKeep_1, bKeep_p, bSlot_1, bSlot_p]; omega)) ((⟨by omega, by first | omega | (simp only [bNode_1, bNode_p, bSet_1, bSet_p, bOver_1, bOver_p, bWrap_1, bWrap_p, bKeep_1, bKeep_p, bSlot_1, bSlot_p]; omega)⟩ : 1 ≤ _ ∧ _ < _)) (by simp only [lvG] at hf ⊢; omega)) (fun s52 g52 => ?_)
                  have x52 := g_mono T n f _ _ _ _ _ _ _ _ _ _ s52 (by omega) (by omega) g52 1 (by first | omega | (simp only [bNode_1, bNode_p, bSet_1, bSet_p, bOver_1, bOver_p, bWrap_1, bWrap_p, bKeep_1, bKeep_p, bSlot_1, bSlot_p]; omega)) (by decide) ((⟨by omega, by first | omega | (simp only [bNode_1, bNode_p, bSet_1, bSet_p, bOver_1, bOver_p, bWrap_1, bWrap_p, bKeep_1, bKeep_p, bSlot_1, bSlot_p]; omega)⟩ : 1 ≤ _ ∧ _ < _))
                  obtain ⟨a52, b52, c52, d52, e52, f52, h52, i52⟩ := (x52.1 : Mo n _ _ _ s52)
                  have j52 : _ ≤ s52.2.2.2.1 ∧ s52.2.2.2.1 < s52.2.2.2.2.1.1 := x52.2
                  try simp only [bNode_1, bNode_p, bSet_1, bSet_p, bOver_1, bOver_p, bWrap_1, bWrap_p, bKeep_1, bKeep_p, bSlot_1, bSlot_p] at a52 b52 c52 d52 e52 f52 h52 i52 j52
                  try dsimp only
                  refine gW_t (fun w53 => ?_)
                  try have u53 := tkN_b T n s52.1 (by omega)
                  try have v53 := u53.2.2.2 (by first | omega | (split at w53 <;> omega))
                  try dsimp only
                  refine gb_t (ih _ _ _ _ _ _ _ _ _ _ (by decide) (by omega) (by omega) (by first | omega | (simp only [bNode_1, bNode_p, bSet_1, bSet_p, bOver_1, bOver_p, bWrap_1, bWrap_p, bKeep_1, bKeep_p, bSlot_1, bSlot_p]; omega)) (trivial) (by simp only [lvG] at hf ⊢; omega)) (fun s54 g54 => ?_)
                  have x54 := g_mono T n f _ _ _ _ _ _ _ _ _ _ s54 (by omega) (by omega) g54 _ (Nat.le_refl _) (by first | omega | (simp only [bNode_1, bNode_p, bSet_1, bSet_p, bOver_1, bOver_p, bWrap_1, bWrap_p, bKeep_1, bKeep_p, bSlot_1, bSlot_p]; omega)) trivial
                  obtain ⟨a54, b54, c54, d54, e54, f54, h54, i54⟩ := (x54.1 : Mo n _ _ _ s54)
                  have j54 : _ ≤ s54.2.2.2.1 ∧ s54.2.2.2.1 < s54.2.2.2.2.1.1 := x54.2
                  try simp only [bNode_1, bNode_p, bSet_1, bSet_p, bOver_1, bOver_p, bWrap_1, bWrap_p, bKeep_1, bKeep_p, bSlot_1, bSlot_p] at a54 b54 c54 d54 e54 f54 h54 i54 j54
                  try dsimp only
                  refine gW_t (fun w55 => ?_)
                  try have u55 := tkN_b T n s54.1 (by omega)
                  try have v55 := u55.2.2.2 (by first | omega | (split at w55 <;> omega))
                  try dsimp only
                  exact ⟨_, rfl⟩
                · rw [if_neg y47]
                  by_cases y56 : tkK T n q = 83 ∧ E.2.2.2.2.1 = true
                  · rw [if_pos y56]
                    have u57 := tkN_b T n q (by omega)
                    have v57 := u57.2.2.2 (by first | omega | (rcases y1 with z | z | z | z <;> omega) | (rcases y2 with z | z | z | z <;> omega))
                    refine gT_t ?_
                    try dsimp only
                    exact ⟨_, rfl⟩
                  · rw [if_neg y56]
                    by_cases y58 : isFn (tkK T n q) E.2.2.2.2.2.1
                    · rw [if_pos y58]
                      have u59 := tkN_b T n q (by omega)
                      have v59 := u59.2.2.2 (by first | omega | (rcases y1 with z | z | z | z <;> omega) | (rcases y2 with z | z | z | z <;> omega))
                      refine gT_t ?_
                      try dsimp only
                      by_cases y60 : tkK T n (tkN T n q) = 6
                      · rw [if_pos y60]
                        refine gO_t ?_
                        have u61 := tkN_b T n (tkN T n q) (by omega)
                        have v61 := u61.2.2.2 (by first | omega | (rcases y1 with z | z | z | z <;> omega) | (rcases y2 with z | z | z | z <;> omega))
                        refine gT_t ?_
                        try dsimp only
                        refine gb_t (ih _ _ _ _ _ _ _ _ _ _ (by decide) (by omega) (by omega) (by first | omega | (simp only [bNode_1, bNode_p, bSet_1, bSet_p, bOver_1, bOver_p, bWrap_1, bWrap_p, bKeep_1, bKeep_p, bSlot_1, bSlot_p]; omega)) (trivial) (by simp only [lvG] at hf ⊢; omega)) (fun s62 g62 => ?_)
                        have x62 := g_mono T n f _ _ _ _ _ _ _ _ _ _ s62 (by omega) (by omega) g62 _ (Nat.le_refl _) (by first | omega | (simp only [bNode_1, bNode_p, bSet_1, bSet_p, bOver_1, bOver_p, bWrap_1, bWrap_p, bKeep_1, bKeep_p, bSlot_1, bSlot_p]; omega)) trivial
                        obtain ⟨a62, b62, c62, d62, e62, f62, h62, i62⟩ := (x62.1 : Mo n _ _ _ s62)
                        have j62 : _ ≤ s62.2.2.2.1 ∧ s62.2.2.2.1 < s62.2.2.2.2.1.1 := x62.2
                        try simp only [bNode_1, bNode_p, bSet_1, bSet_p, bOver_1, bOver_p, bWrap_1, bWrap_p, bKeep_1, bKeep_p, bSlot_1, bSlot_p] at a62 b62 c62 d62 e62 f62 h62 i62 j62
                        try dsimp only
                        refine gW_t (fun w63 => ?_)
                        try have u63 := tkN_b T n s62.1 (by omega)
                        try have v63 := u63.2.2.2 (by first | omega | (split at w63 <;> omega))
                        try dsimp only
                        exact ⟨_, rfl⟩
                      · rw [if_neg y60]
                        exact ⟨_, rfl⟩
                    · rw [if_neg y58]
                      exact ⟨_, rfl⟩
theorem gt_14 {T : Nat → Int32} {n f : Nat} (ih : GT T n f) {E : En} {o q v i e c g : Nat} {b : BT} (hq : q ≤ n) (hv : v ≤ 60) (hb : 1 ≤ b.1) (hN : Nd0 14 1 b i e c) (hf : 30 * (n - q) + lvG 14 + 1 ≤ f + 1) : ∃ y, G T n (f + 1) 14 E o q v i e c g b = some y := by
  rw [G_14]
  have hN : c = 0 ∨ (1 ≤ i ∧ i < b.1 ∧ 1 ≤ e ∧ e < b.1) := hN
  by_cases y1 : c = 0
  · rw [if_pos y1]
    by_cases y2 : tkK T n q = 7
    · rw [if_pos y2]
      exact ⟨_, rfl⟩
    · rw [if_neg y2]
      refine gb_t (ih _ _ _ _ _ _ _ _ _ _ (by decide) (by omega) (by omega) (by first | omega | (simp only [bNode_1, bNode_p, bSet_1, bSet_p, bOver_1, bOver_p, bWrap_1, bWrap_p, bKeep_1, bKeep_p, bSlot_1, bSlot_p]; omega)) (trivial) (by simp only [lvG] at hf ⊢; omega)) (fun s3 g3 => ?_)
      have x3 := g_mono T n f _ _ _ _ _ _ _ _ _ _ s3 (by omega) (by omega) g3 _ (Nat.le_refl _) (by first | omega | (simp only [bNode_1, bNode_p, bSet_1, bSet_p, bOver_1, bOver_p, bWrap_1, bWrap_p, bKeep_1, bKeep_p, bSlot_1, bSlot_p]; omega)) trivial
      obtain ⟨a3, b3, c3, d3, e3, f3, h3, i3⟩ := (x3.1 : Mo n _ _ _ s3)
      have j3 : _ ≤ s3.2.2.2.1 ∧ s3.2.2.2.1 < s3.2.2.2.2.1.1 := x3.2
      try simp only [bNode_1, bNode_p, bSet_1, bSet_p, bOver_1, bOver_p, bWrap_1, bWrap_p, bKeep_1, bKeep_p, bSlot_1, bSlot_p] at a3 b3 c3 d3 e3 f3 h3 i3 j3
      try dsimp only
      exact ih _ _ _ _ _ _ _ _ _ _ (by decide) (by omega) (by omega) (by first | omega | (simp only [bNode_1, bNode_p, bSet_1, bSet_p, bOver_1, bOver_p, bWrap_1, bWrap_p, bKeep_1, bKeep_p, bSlot_1, bSlot_p]; omega)) (Or.inr ⟨by omega, by omega, by omega, by omega⟩) (by simp only [lvG] at hf ⊢; omega)
  · rw [if_neg y1]
    by_cases y4 : tkK T n q = 12
    · rw [if_pos y4]
      have u5 := tkN_b T n q (by omega)
      have v5 := u5.2.2.2 (by first | omega | (rcases y1 with z | z | z | z <;> omega) | (rcases y2 with z | z | z | z <;> omega))
      refine gT_t ?_
      try dsimp only
      refine gb_t (ih _ _ _ _ _ _ _ _ _ _ (by decide) (by omega) (by omega) (by first | omega | (simp only [bNode_1, bNode_p, bSet_1, bSet_p, bOver_1, bOver_p, bWrap_1, bWrap_p, bKeep_1, bKeep_p, bSlot_1, bSlot_p]; omega)) (trivial) (by simp only [lvG] at hf ⊢; omega)) (fun s6 g6 => ?_)
      have x6 := g_mono T n f _ _ _ _ _ _ _ _ _ _ s6 (by omega) (by omega) g6 _ (Nat.le_refl _) (by first | omega | (simp only [bNode_1, bNode_p, bSet_1, bSet_p, bOver_1, bOver_p, bWrap_1, bWrap_p, bKeep_1, bKeep_p, bSlot_1, bSlot_p]; omega)) trivial
      obtain ⟨a6, b6, c6, d6, e6, f6, h6, i6⟩ := (x6.1 : Mo n _ _ _ s6)
      have j6 : _ ≤ s6.2.2.2.1 ∧ s6.2.2.2.1 < s6.2.2.2.2.1.1 := x6.2
      try simp only [bNode_1, bNode_p, bSet_1, bSet_p, bOver_1, bOver_p, bWrap_1, bWrap_p, bKeep_1, bKeep_p, bSlot_1, bSlot_p] at a6 b6 c6 d6 e6 f6 h6 i6 j6
      try dsimp only
      exact ih _ _ _ _ _ _ _ _ _ _ (by decide) (by omega) (by omega) (by first | omega | (simp only [bNode_1, bNode_p, bSet_1, bSet_p, bOver_1, bOver_p, bWrap_1, bWrap_p, bKeep_1, bKeep_p, bSlot_1, bSlot_p]; omega)) (Or.inr ⟨by omega, by first | omega | (simp only [bNode_1, bNode_p, bSet_1, bSet_p, bOver_1, bOver_p, bWrap_1, bWrap_p, bKeep_1, bKeep_p, bSlot_1, bSlot_p]; omega), by omega, by first | omega | (simp only [bNode_1, bNode_p, bSet_1, bSet_p, bOver_1, bOver_p, bWrap_1, bWrap_p, bKeep_1, bKeep_p, bSlot_1, bSlot_p]; omega)⟩) (by simp only [lvG] at hf ⊢; omega)
    · rw [if_neg y4]
      exact ⟨_, rfl⟩
theorem gt_15 {T : Nat → Int32} {n f : Nat} (ih : GT T n f) {E : En} {o q v i e c g : Nat} {b : BT} (hq : q ≤ n) (hv : v ≤ 60) (hb : 1 ≤ b.1) (hN : Nd0 15 1 b i e c) (hf : 30 * (n - q) + lvG 15 + 1 ≤ f + 1) : ∃ y, G T n (f + 1) 15 E o q v i e c g b = some y := by
  rw [G_15]
  have hN : 1 ≤ i ∧ i < b.1 ∧ 1 ≤ e ∧ e < b.1 := hN
  by_cases y1 : tkK T n q = 12
  · rw [if_pos y1]
    have u2 := tkN_b T n q (by omega)
    have v2 := u2.2.2.2 (by first | omega | (rcases y1 with z | z | z | z <;> omega) | (rcases y2 with z | z | z | z <;> omega))
    refine gT_t ?_
    try dsimp only
    refine gb_t (ih _ _ _ _ _ _ _ _ _ _ (by decide) (by omega) (by omega) (by first | omega | (simp only [bNode_1, bNode_p, bSet_1, bSet_p, bOver_1, bOver_p, bWrap_1, bWrap_p, bKeep_1, bKeep_p, bSlot_1, bSlot_p]; omega)) (trivial) (by simp only [lvG] at hf ⊢; omega)) (fun s3 g3 => ?_)
    have x3 := g_mono T n f _ _ _ _ _ _ _ _ _ _ s3 (by omega) (by omega) g3 _ (Nat.le_refl _) (by first | omega | (simp only [bNode_1, bNode_p, bSet_1, bSet_p, bOver_1, bOver_p, bWrap_1, bWrap_p, bKeep_1, bKeep_p, bSlot_1, bSlot_p]; omega)) trivial
    obtain ⟨a3, b3, c3, d3, e3, f3, h3, i3⟩ := (x3.1 : Mo n _ _ _ s3)
    have j3 : _ ≤ s3.2.2.2.1 ∧ s3.2.2.2.1 < s3.2.2.2.2.1.1 := x3.2
    try simp only [bNode_1, bNode_p, bSet_1, bSet_p, bOver_1, bOver_p, bWrap_1, bWrap_p, bKeep_1, bKeep_p, bSlot_1, bSlot_p] at a3 b3 c3 d3 e3 f3 h3 i3 j3
    try dsimp only
    by_cases y4 : c = 1 ∧ tkK T n s3.1 = 16
    · rw [if_pos y4]
      have u5 := tkN_b T n s3.1 (by omega)
      have v5 := u5.2.2.2 (by first | omega | (rcases y1 with z | z | z | z <;> omega) | (rcases y2 with z | z | z | z <;> omega))
      refine gT_t ?_
      try dsimp only
      refine gb_t (ih _ _ _ _ _ _ _ _ _ _ (by decide) (by omega) (by omega) (by first | omega | (simp only [bNode_1, bNode_p, bSet_1, bSet_p, bOver_1, bOver_p, bWrap_1, bWrap_p, bKeep_1, bKeep_p, bSlot_1, bSlot_p]; omega)) (trivial) (by simp only [lvG] at hf ⊢; omega)) (fun s6 g6 => ?_)
      have x6 := g_mono T n f _ _ _ _ _ _ _ _ _ _ s6 (by omega) (by omega) g6 _ (Nat.le_refl _) (by first | omega | (simp only [bNode_1, bNode_p, bSet_1, bSet_p, bOver_1, bOver_p, bWrap_1, bWrap_p, bKeep_1, bKeep_p, bSlot_1, bSlot_p]; omega)) trivial
      obtain ⟨a6, b6, c6, d6, e6, f6, h6, i6⟩ := (x6.1 : Mo n _ _ _ s6)
      have j6 : _ ≤ s6.2.2.2.1 ∧ s6.2.2.2.1 < s6.2.2.2.2.1.1 := x6.2
      try simp only [bNode_1, bNode_p, bSet_1, bSet_p, bOver_1, bOver_p, bWrap_1, bWrap_p, bKeep_1, bKeep_p, bSlot_1, bSlot_p] at a6 b6 c6 d6 e6 f6 h6 i6 j6
      try dsimp only
      exact ⟨_, rfl⟩
    · rw [if_neg y4]
      exact ih _ _ _ _ _ _ _ _ _ _ (by decide) (by omega) (by omega) (by first | omega | (simp only [bNode_1, bNode_p, bSet_1, bSet_p, bOver_1, bOver_p, bWrap_1, bWrap_p, bKeep_1, bKeep_p, bSlot_1, bSlot_p]; omega)) ((⟨by omega, by first | omega | (simp only [bNode_1, bNode_p, bSet_1, bSet_p, bOver_1, bOver_p, bWrap_1, bWrap_p, bKeep_1, bKeep_p, bSlot_1, bSlot_p]; omega), by omega, by first | omega | (simp only [bNode_1, bNode_p, bSet_1, bSet_p, bOver_1, bOver_p, bWrap_1, bWrap_p, bKeep_1, bKeep_p, bSlot_1, bSlot_p]; omega)⟩ : 1 ≤ _ ∧ _ < _ ∧ 1 ≤ _ ∧ _ < _)) (by simp only [lvG] at hf ⊢; omega)
  · rw [if_neg y1]
    exact ⟨_, rfl⟩
theorem gt_16 {T : Nat → Int32} {n f : Nat} (ih : GT T n f) {E : En} {o q v i e c g : Nat} {b : BT} (hq : q ≤ n) (hv : v ≤ 60) (hb : 1 ≤ b.1) (hN : Nd0 16 1 b i e c) (hf : 30 * (n - q) + lvG 16 + 1 ≤ f + 1) : ∃ y, G T n (f + 1) 16 E o q v i e c g b = some y := by
  rw [G_16]
  have hN : 1 ≤ e ∧ e < b.1 := hN
  by_cases y1 : tkK T n q = 41
  · rw [if_pos y1]
    have u2 := tkN_b T n q (by omega)
    have v2 := u2.2.2.2 (by first | omega | (rcases y1 with z | z | z | z <;> omega) | (rcases y2 with z | z | z | z <;> omega))
    refine gT_t ?_
    try dsimp only
    refine gb_t (ih _ _ _ _ _ _ _ _ _ _ (by decide) (by omega) (by omega) (by first | omega | (simp only [bNode_1, bNode_p, bSet_1, bSet_p, bOver_1, bOver_p, bWrap_1, bWrap_p, bKeep_1, bKeep_p, bSlot_1, bSlot_p]; omega)) (trivial) (by simp only [lvG] at hf ⊢; omega)) (fun s3 g3 => ?_)
    have x3 := g_mono T n f _ _ _ _ _ _ _ _ _ _ s3 (by omega) (by omega) g3 _ (Nat.le_refl _) (by first | omega | (simp only [bNode_1, bNode_p, bSet_1, bSet_p, bOver_1, bOver_p, bWrap_1, bWrap_p, bKeep_1, bKeep_p, bSlot_1, bSlot_p]; omega)) trivial
    obtain ⟨a3, b3, c3, d3, e3, f3, h3, i3⟩ := (x3.1 : Mo n _ _ _ s3)
    have j3 : _ ≤ s3.2.2.2.1 ∧ s3.2.2.2.1 < s3.2.2.2.2.1.1 := x3.2
    try simp only [bNode_1, bNode_p, bSet_1, bSet_p, bOver_1, bOver_p, bWrap_1, bWrap_p, bKeep_1, bKeep_p, bSlot_1, bSlot_p] at a3 b3 c3 d3 e3 f3 h3 i3 j3
    try dsimp only
    refine gW_t (fun w4 => ?_)
    try have u4 := tkN_b T n s3.1 (by omega)
    try have v4 := u4.2.2.2 (by first | omega | (split at w4 <;> omega))
    try dsimp only
    refine gb_t (ih _ _ _ _ _ _ _ _ _ _ (by decide) (by omega) (by omega) (by first | omega | (simp only [bNode_1, bNode_p, bSet_1, bSet_p, bOver_1, bOver_p, bWrap_1, bWrap_p, bKeep_1, bKeep_p, bSlot_1, bSlot_p]; omega)) (trivial) (by simp only [lvG] at hf ⊢; omega)) (fun s5 g5 => ?_)
    have x5 := g_mono T n f _ _ _ _ _ _ _ _ _ _ s5 (by omega) (by omega) g5 _ (Nat.le_refl _) (by first | omega | (simp only [bNode_1, bNode_p, bSet_1, bSet_p, bOver_1, bOver_p, bWrap_1, bWrap_p, bKeep_1, bKeep_p, bSlot_1, bSlot_p]; omega)) trivial
    obtain ⟨a5, b5, c5, d5, e5, f5, h5, i5⟩ := (x5.1 : Mo n _ _ _ s5)
    have j5 : _ ≤ s5.2.2.2.1 ∧ s5.2.2.2.1 < s5.2.2.2.2.1.1 := x5.2
    try simp only [bNode_1, bNode_p, bSet_1, bSet_p, bOver_1, bOver_p, bWrap_1, bWrap_p, bKeep_1, bKeep_p, bSlot_1, bSlot_p] at a5 b5 c5 d5 e5 f5 h5 i5 j5
    try dsimp only
    exact ih _ _ _ _ _ _ _ _ _ _ (by decide) (by omega) (by omega) (by first | omega | (simp only [bNode_1, bNode_p, bSet_1, bSet_p, bOver_1, bOver_p, bWrap_1, bWrap_p, bKeep_1, bKeep_p, bSlot_1, bSlot_p]; omega)) ((⟨by omega, by first | omega | (simp only [bNode_1, bNode_p, bSet_1, bSet_p, bOver_1, bOver_p, bWrap_1, bWrap_p, bKeep_1, bKeep_p, bSlot_1, bSlot_p]; omega)⟩ : 1 ≤ _ ∧ _ < _)) (by simp only [lvG] at hf ⊢; omega)
  · rw [if_neg y1]
    exact ⟨_, rfl⟩
theorem gt_17 {T : Nat → Int32} {n f : Nat} (ih : GT T n f) {E : En} {o q v i e c g : Nat} {b : BT} (hq : q ≤ n) (hv : v ≤ 60) (hb : 1 ≤ b.1) (hN : Nd0 17 1 b i e c) (hf : 30 * (n - q) + lvG 17 + 1 ≤ f + 1) : ∃ y, G T n (f + 1) 17 E o q v i e c g b = some y := by
  rw [G_17]
  have hN : i = 0 ∨ (1 ≤ i ∧ i < b.1 ∧ 1 ≤ e ∧ e < b.1) := hN
  by_cases y1 : tkK T n q = 10
  · rw [if_pos y1]
    refine gO_t ?_
    have u2 := tkN_b T n q (by omega)
    have v2 := u2.2.2.2 (by first | omega | (rcases y1 with z | z | z | z <;> omega) | (rcases y2 with z | z | z | z <;> omega))
    refine gT_t ?_
    try dsimp only
    refine gN_t (fun w3 v3 => ?_)
    have u3 := tkN_b T n (tkN T n q) (by omega)
    have r3 := u3.2.2.2 (by omega)
    try dsimp only
    refine gb_t (ih _ _ _ _ _ _ _ _ _ _ (by decide) (by omega) (by omega) (by first | omega | (simp only [bNode_1, bNode_p, bSet_1, bSet_p, bOver_1, bOver_p, bWrap_1, bWrap_p, bKeep_1, bKeep_p, bSlot_1, bSlot_p]; omega)) (trivial) (by simp only [lvG] at hf ⊢; omega)) (fun s4 g4 => ?_)
    have x4 := g_mono T n f _ _ _ _ _ _ _ _ _ _ s4 (by omega) (by omega) g4 1 (by first | omega | (simp only [bNode_1, bNode_p, bSet_1, bSet_p, bOver_1, bOver_p, bWrap_1, bWrap_p, bKeep_1, bKeep_p, bSlot_1, bSlot_p]; omega)) (by decide) (trivial)
    obtain ⟨a4, b4, c4, d4, e4, f4, h4, i4⟩ := (x4.1 : Mo n _ _ _ s4)
    try simp only [bNode_1, bNode_p, bSet_1, bSet_p, bOver_1, bOver_p, bWrap_1, bWrap_p, bKeep_1, bKeep_p, bSlot_1, bSlot_p] at a4 b4 c4 d4 e4 f4 h4 i4
    try dsimp only
    refine gW_t (fun w5 => ?_)
    try have u5 := tkN_b T n s4.1 (by omega)
    try have v5 := u5.2.2.2 (by first | omega | (split at w5 <;> omega))
    try dsimp only
    refine gW_t (fun w6 => ?_)
    try have u6 := tkN_b T n (tkN T n s4.1) (by omega)
    try have v6 := u6.2.2.2 (by first | omega | (split at w6 <;> omega))
    try dsimp only
    refine gb_t (ih _ _ _ _ _ _ _ _ _ _ (by decide) (by omega) (by omega) (by first | omega | (simp only [bNode_1, bNode_p, bSet_1, bSet_p, bOver_1, bOver_p, bWrap_1, bWrap_p, bKeep_1, bKeep_p, bSlot_1, bSlot_p]; omega)) (trivial) (by simp only [lvG] at hf ⊢; omega)) (fun s7 g7 => ?_)
    have x7 := g_mono T n f _ _ _ _ _ _ _ _ _ _ s7 (by omega) (by omega) g7 _ (Nat.le_refl _) (by first | omega | (simp only [bNode_1, bNode_p, bSet_1, bSet_p, bOver_1, bOver_p, bWrap_1, bWrap_p, bKeep_1, bKeep_p, bSlot_1, bSlot_p]; omega)) trivial
    obtain ⟨a7, b7, c7, d7, e7, f7, h7, i7⟩ := (x7.1 : Mo n _ _ _ s7)
    have j7 : _ ≤ s7.2.2.2.1 ∧ s7.2.2.2.1 < s7.2.2.2.2.1.1 := x7.2
    try simp only [bNode_1, bNode_p, bSet_1, bSet_p, bOver_1, bOver_p, bWrap_1, bWrap_p, bKeep_1, bKeep_p, bSlot_1, bSlot_p] at a7 b7 c7 d7 e7 f7 h7 i7 j7
    try dsimp only
    by_cases hi : i = 0
    · simp only [if_pos hi]
      by_cases y8 : tkK T n s7.1 = 12
      · rw [if_pos y8]
        have u9 := tkN_b T n s7.1 (by omega)
        have v9 := u9.2.2.2 (by first | omega | (rcases y1 with z | z | z | z <;> omega) | (rcases y2 with z | z | z | z <;> omega))
        refine gT_t ?_
        try dsimp only
        refine gb_t (ih _ _ _ _ _ _ _ _ _ _ (by decide) (by omega) (by omega) (by first | omega | (simp only [bNode_1, bNode_p, bSet_1, bSet_p, bOver_1, bOver_p, bWrap_1, bWrap_p, bKeep_1, bKeep_p, bSlot_1, bSlot_p]; omega)) (Or.inr ⟨by first | omega | (simp only [bNode_1, bNode_p, bSet_1, bSet_p, bOver_1, bOver_p, bWrap_1, bWrap_p, bKeep_1, bKeep_p, bSlot_1, bSlot_p]; omega), by first | omega | (simp only [bNode_1, bNode_p, bSet_1, bSet_p, bOver_1, bOver_p, bWrap_1, bWrap_p, bKeep_1, bKeep_p, bSlot_1, bSlot_p]; omega), by first | omega | (simp only [bNode_1, bNode_p, bSet_1, bSet_p, bOver_1, bOver_p, bWrap_1, bWrap_p, bKeep_1, bKeep_p, bSlot_1, bSlot_p]; omega), by first | omega | (simp only [bNode_1, bNode_p, bSet_1, bSet_p, bOver_1, bOver_p, bWrap_1, bWrap_p, bKeep_1, bKeep_p, bSlot_1, bSlot_p]; omega)⟩) (by simp only [lvG] at hf ⊢; omega)) (fun s10 g10 => ?_)
        have x10 := g_mono T n f _ _ _ _ _ _ _ _ _ _ s10 (by omega) (by omega) g10 1 (by first | omega | (simp only [bNode_1, bNode_p, bSet_1, bSet_p, bOver_1, bOver_p, bWrap_1, bWrap_p, bKeep_1, bKeep_p, bSlot_1, bSlot_p]; omega)) (by decide) (Or.inr ⟨by first | omega | (simp only [bNode_1, bNode_p, bSet_1, bSet_p, bOver_1, bOver_p, bWrap_1, bWrap_p, bKeep_1, bKeep_p, bSlot_1, bSlot_p]; omega), by first | omega | (simp only [bNode_1, bNode_p, bSet_1, bSet_p, bOver_1, bOver_p, bWrap_1, bWrap_p, bKeep_1, bKeep_p, bSlot_1, bSlot_p]; omega), by first | omega | (simp only [bNode_1, bNode_p, bSet_1, bSet_p, bOver_1, bOver_p, bWrap_1, bWrap_p, bKeep_1, bKeep_p, bSlot_1, bSlot_p]; omega), by first | omega | (simp only [bNode_1, bNode_p, bSet_1, bSet_p, bOver_1, bOver_p, bWrap_1, bWrap_p, bKeep_1, bKeep_p, bSlot_1, bSlot_p]; omega)⟩)
        obtain ⟨a10, b10, c10, d10, e10, f10, h10, i10⟩ := (x10.1 : Mo n _ _ _ s10)
        have j10 : _ ≤ s10.2.2.2.1 ∧ s10.2.2.2.1 < s10.2.2.2.2.1.1 := x10.2
        try simp only [bNode_1, bNode_p, bSet_1, bSet_p, bOver_1, bOver_p, bWrap_1, bWrap_p, bKeep_1, bKeep_p, bSlot_1, bSlot_p] at a10 b10 c10 d10 e10 f10 h10 i10 j10
        try dsimp only
        exact ⟨_, rfl⟩
      · rw [if_neg y8]
        exact ⟨_, rfl⟩
    · simp only [if_neg hi]
      by_cases y11 : tkK T n s7.1 = 12
      · rw [if_pos y11]
        have u12 := tkN_b T n s7.1 (by omega)
        have v12 := u12.2.2.2 (by first | omega | (rcases y1 with z | z | z | z <;> omega) | (rcases y2 with z | z | z | z <;> omega))
        refine gT_t ?_
        try dsimp only
        refine gb_t (ih _ _ _ _ _ _ _ _ _ _ (by decide) (by omega) (by omega) (by first | omega | (simp only [bNode_1, bNode_p, bSet_1, bSet_p, bOver_1, bOver_p, bWrap_1, bWrap_p, bKeep_1, bKeep_p, bSlot_1, bSlot_p]; omega)) (Or.inr ⟨by omega, by first | omega | (simp only [bNode_1, bNode_p, bSet_1, bSet_p, bOver_1, bOver_p, bWrap_1, bWrap_p, bKeep_1, bKeep_p, bSlot_1, bSlot_p]; omega), by first | omega | (simp only [bNode_1, bNode_p, bSet_1, bSet_p, bOver_1, bOver_p, bWrap_1, bWrap_p, bKeep_1, bKeep_p, bSlot_1, bSlot_p]; omega), by first | omega | (simp only [bNode_1, bNode_p, bSet_1, bSet_p, bOver_1, bOver_p, bWrap_1, bWrap_p, bKeep_1, bKeep_p, bSlot_1, bSlot_p]; omega)⟩) (by simp only [lvG] at hf ⊢; omega)) (fun s13 g13 => ?_)
        have x13 := g_mono T n f _ _ _ _ _ _ _ _ _ _ s13 (by omega) (by omega) g13 1 (by first | omega | (simp only [bNode_1, bNode_p, bSet_1, bSet_p, bOver_1, bOver_p, bWrap_1, bWrap_p, bKeep_1, bKeep_p, bSlot_1, bSlot_p]; omega)) (by decide) (Or.inr ⟨by omega, by first | omega | (simp only [bNode_1, bNode_p, bSet_1, bSet_p, bOver_1, bOver_p, bWrap_1, bWrap_p, bKeep_1, bKeep_p, bSlot_1, bSlot_p]; omega), by first | omega | (simp only [bNode_1, bNode_p, bSet_1, bSet_p, bOver_1, bOver_p, bWrap_1, bWrap_p, bKeep_1, bKeep_p, bSlot_1, bSlot_p]; omega), by first | omega | (simp only [bNode_1, bNode_p, bSet_1, bSet_p, bOver_1, bOver_p, bWrap_1, bWrap_p, bKeep_1, bKeep_p, bSlot_1, bSlot_p]; omega)⟩)
        obtain ⟨a13, b13, c13, d13, e13, f13, h13, i13⟩ := (x13.1 : Mo n _ _ _ s13)
        have j13 : _ ≤ s13.2.2.2.1 ∧ s13.2.2.2.1 < s13.2.2.2.2.1.1 := x13.2
        try simp only [bNode_1, bNode_p, bSet_1, bSet_p, bOver_1, bOver_p, bWrap_1, bWrap_p, bKeep_1, bKeep_p, bSlot_1, bSlot_p] at a13 b13 c13 d13 e13 f13 h13 i13 j13
        try dsimp only
        exact ⟨_, rfl⟩
      · rw [if_neg y11]
        exact ⟨_, rfl⟩
  · rw [if_neg y1]
    refine gN_t (fun w14 v14 => ?_)
    have u14 := tkN_b T n q (by omega)
    have r14 := u14.2.2.2 (by omega)
    try dsimp only
    refine gW_t (fun w15 => ?_)
    try have u15 := tkN_b T n (tkN T n q) (by omega)
    try have v15 := u15.2.2.2 (by first | omega | (split at w15 <;> omega))
    try dsimp only
    refine gb_t (ih _ _ _ _ _ _ _ _ _ _ (by decide) (by omega) (by omega) (by first | omega | (simp only [bNode_1, bNode_p, bSet_1, bSet_p, bOver_1, bOver_p, bWrap_1, bWrap_p, bKeep_1, bKeep_p, bSlot_1, bSlot_p]; omega)) (trivial) (by simp only [lvG] at hf ⊢; omega)) (fun s16 g16 => ?_)
    have x16 := g_mono T n f _ _ _ _ _ _ _ _ _ _ s16 (by omega) (by omega) g16 _ (Nat.le_refl _) (by first | omega | (simp only [bNode_1, bNode_p, bSet_1, bSet_p, bOver_1, bOver_p, bWrap_1, bWrap_p, bKeep_1, bKeep_p, bSlot_1, bSlot_p]; omega)) trivial
    obtain ⟨a16, b16, c16, d16, e16, f16, h16, i16⟩ := (x16.1 : Mo n _ _ _ s16)
    have j16 : _ ≤ s16.2.2.2.1 ∧ s16.2.2.2.1 < s16.2.2.2.2.1.1 := x16.2
    try simp only [bNode_1, bNode_p, bSet_1, bSet_p, bOver_1, bOver_p, bWrap_1, bWrap_p, bKeep_1, bKeep_p, bSlot_1, bSlot_p] at a16 b16 c16 d16 e16 f16 h16 i16 j16
    try dsimp only
    by_cases hi : i = 0
    · simp only [if_pos hi]
      by_cases y17 : tkK T n s16.1 = 12
      · rw [if_pos y17]
        have u18 := tkN_b T n s16.1 (by omega)
        have v18 := u18.2.2.2 (by first | omega | (rcases y1 with z | z | z | z <;> omega) | (rcases y2 with z | z | z | z <;> omega))
        refine gT_t ?_
        try dsimp only
        refine gb_t (ih _ _ _ _ _ _ _ _ _ _ (by decide) (by omega) (by omega) (by first | omega | (simp only [bNode_1, bNode_p, bSet_1, bSet_p, bOver_1, bOver_p, bWrap_1, bWrap_p, bKeep_1, bKeep_p, bSlot_1, bSlot_p]; omega)) (Or.inr ⟨by first | omega | (simp only [bNode_1, bNode_p, bSet_1, bSet_p, bOver_1, bOver_p, bWrap_1, bWrap_p, bKeep_1, bKeep_p, bSlot_1, bSlot_p]; omega), by first | omega | (simp only [bNode_1, bNode_p, bSet_1, bSet_p, bOver_1, bOver_p, bWrap_1, bWrap_p, bKeep_1, bKeep_p, bSlot_1, bSlot_p]; omega), by first | omega | (simp only [bNode_1, bNode_p, bSet_1, bSet_p, bOver_1, bOver_p, bWrap_1, bWrap_p, bKeep_1, bKeep_p, bSlot_1, bSlot_p]; omega), by first | omega | (simp only [bNode_1, bNode_p, bSet_1, bSet_p, bOver_1, bOver_p, bWrap_1, bWrap_p, bKeep_1, bKeep_p, bSlot_1, bSlot_p]; omega)⟩) (by simp only [lvG] at hf ⊢; omega)) (fun s19 g19 => ?_)
        have x19 := g_mono T n f _ _ _ _ _ _ _ _ _ _ s19 (by omega) (by omega) g19 1 (by first | omega | (simp only [bNode_1, bNode_p, bSet_1, bSet_p, bOver_1, bOver_p, bWrap_1, bWrap_p, bKeep_1, bKeep_p, bSlot_1, bSlot_p]; omega)) (by decide) (Or.inr ⟨by first | omega | (simp only [bNode_1, bNode_p, bSet_1, bSet_p, bOver_1, bOver_p, bWrap_1, bWrap_p, bKeep_1, bKeep_p, bSlot_1, bSlot_p]; omega), by first | omega | (simp only [bNode_1, bNode_p, bSet_1, bSet_p, bOver_1, bOver_p, bWrap_1, bWrap_p, bKeep_1, bKeep_p, bSlot_1, bSlot_p]; omega), by first | omega | (simp only [bNode_1, bNode_p, bSet_1, bSet_p, bOver_1, bOver_p, bWrap_1, bWrap_p, bKeep_1, bKeep_p, bSlot_1, bSlot_p]; omega), by first | omega | (simp only [bNode_1, bNode_p, bSet_1, bSet_p, bOver_1, bOver_p, bWrap_1, bWrap_p, bKeep_1, bKeep_p, bSlot_1, bSlot_p]; omega)⟩)
        obtain ⟨a19, b19, c19, d19, e19, f19, h19, i19⟩ := (x19.1 : Mo n _ _ _ s19)
        have j19 : _ ≤ s19.2.2.2.1 ∧ s19.2.2.2.1 < s19.2.2.2.2.1.1 := x19.2
        try simp only [bNode_1, bNode_p, bSet_1, bSet_p, bOver_1, bOver_p, bWrap_1, bWrap_p, bKeep_1, bKeep_p, bSlot_1, bSlot_p] at a19 b19 c19 d19 e19 f19 h19 i19 j19
        try dsimp only
        exact ⟨_, rfl⟩
      · rw [if_neg y17]
        exact ⟨_, rfl⟩
    · simp only [if_neg hi]
      by_cases y20 : tkK T n s16.1 = 12
      · rw [if_pos y20]
        have u21 := tkN_b T n s16.1 (by omega)
        have v21 := u21.2.2.2 (by first | omega | (rcases y1 with z | z | z | z <;> omega) | (rcases y2 with z | z | z | z <;> omega))
        refine gT_t ?_
        try dsimp only
        refine gb_t (ih _ _ _ _ _ _ _ _ _ _ (by decide) (by omega) (by omega) (by first | omega | (simp only [bNode_1, bNode_p, bSet_1, bSet_p, bOver_1, bOver_p, bWrap_1, bWrap_p, bKeep_1, bKeep_p, bSlot_1, bSlot_p]; omega)) (Or.inr ⟨by omega, by first | omega | (simp only [bNode_1, bNode_p, bSet_1, bSet_p, bOver_1, bOver_p, bWrap_1, bWrap_p, bKeep_1, bKeep_p, bSlot_1, bSlot_p]; omega), by first | omega | (simp only [bNode_1, bNode_p, bSet_1, bSet_p, bOver_1, bOver_p, bWrap_1, bWrap_p, bKeep_1, bKeep_p, bSlot_1, bSlot_p]; omega), by first | omega | (simp only [bNode_1, bNode_p, bSet_1, bSet_p, bOver_1, bOver_p, bWrap_1, bWrap_p, bKeep_1, bKeep_p, bSlot_1, bSlot_p]; omega)⟩) (by simp only [lvG] at hf ⊢; omega)) (fun s22 g22 => ?_)
        have x22 := g_mono T n f _ _ _ _ _ _ _ _ _ _ s22 (by omega) (by omega) g22 1 (by first | omega | (simp only [bNode_1, bNode_p, bSet_1, bSet_p, bOver_1, bOver_p, bWrap_1, bWrap_p, bKeep_1, bKeep_p, bSlot_1, bSlot_p]; omega)) (by decide) (Or.inr ⟨by omega, by first | omega | (simp only [bNode_1, bNode_p, bSet_1, bSet_p, bOver_1, bOver_p, bWrap_1, bWrap_p, bKeep_1, bKeep_p, bSlot_1, bSlot_p]; omega), by first | omega | (simp only [bNode_1, bNode_p, bSet_1, bSet_p, bOver_1, bOver_p, bWrap_1, bWrap_p, bKeep_1, bKeep_p, bSlot_1, bSlot_p]; omega), by first | omega | (simp only [bNode_1, bNode_p, bSet_1, bSet_p, bOver_1, bOver_p, bWrap_1, bWrap_p, bKeep_1, bKeep_p, bSlot_1, bSlot_p]; omega)⟩)
        obtain ⟨a22, b22, c22, d22, e22, f22, h22, i22⟩ := (x22.1 : Mo n _ _ _ s22)
        have j22 : _ ≤ s22.2.2.2.1 ∧ s22.2.2.2.1 < s22.2.2.2.2.1.1 := x22.2
        try simp only [bNode_1, bNode_p, bSet_1, bSet_p, bOver_1, bOver_p, bWrap_1, bWrap_p, bKeep_1, bKeep_p, bSlot_1, bSlot_p] at a22 b22 c22 d22 e22 f22 h22 i22 j22
        try dsimp only
        exact ⟨_, rfl⟩
      · rw [if_neg y20]
        exact ⟨_, rfl⟩
theorem gt_18 {T : Nat → Int32} {n f : Nat} (ih : GT T n f) {E : En} {o q v i e c g : Nat} {b : BT} (hq : q ≤ n) (hv : v ≤ 60) (hb : 1 ≤ b.1) (hN : Nd0 18 1 b i e c) (hf : 30 * (n - q) + lvG 18 + 1 ≤ f + 1) : ∃ y, G T n (f + 1) 18 E o q v i e c g b = some y := by
  rw [G_18]
  by_cases y1 : tkK T n q = 12
  · rw [if_pos y1]
    have u2 := tkN_b T n q (by omega)
    have v2 := u2.2.2.2 (by first | omega | (rcases y1 with z | z | z | z <;> omega) | (rcases y2 with z | z | z | z <;> omega))
    refine gT_t ?_
    try dsimp only
    refine gN_t (fun w3 v3 => ?_)
    have u3 := tkN_b T n (tkN T n q) (by omega)
    have r3 := u3.2.2.2 (by omega)
    try dsimp only
    refine gb_t (ih _ _ _ _ _ _ _ _ _ _ (by decide) (by omega) (by omega) (by first | omega | (simp only [bNode_1, bNode_p, bSet_1, bSet_p, bOver_1, bOver_p, bWrap_1, bWrap_p, bKeep_1, bKeep_p, bSlot_1, bSlot_p]; omega)) (trivial) (by simp only [lvG] at hf ⊢; omega)) (fun s4 g4 => ?_)
    have x4 := g_mono T n f _ _ _ _ _ _ _ _ _ _ s4 (by omega) (by omega) g4 1 (by first | omega | (simp only [bNode_1, bNode_p, bSet_1, bSet_p, bOver_1, bOver_p, bWrap_1, bWrap_p, bKeep_1, bKeep_p, bSlot_1, bSlot_p]; omega)) (by decide) (trivial)
    obtain ⟨a4, b4, c4, d4, e4, f4, h4, i4⟩ := (x4.1 : Mo n _ _ _ s4)
    try simp only [bNode_1, bNode_p, bSet_1, bSet_p, bOver_1, bOver_p, bWrap_1, bWrap_p, bKeep_1, bKeep_p, bSlot_1, bSlot_p] at a4 b4 c4 d4 e4 f4 h4 i4
    try dsimp only
    exact ⟨_, rfl⟩
  · rw [if_neg y1]
    exact ⟨_, rfl⟩
theorem g_tot (T : Nat → Int32) (n : Nat) : ∀ f : Nat, GT T n f
  | 0 => fun nt E o q v i e c g b _ _ _ _ _ hf => absurd hf (by omega)
  | f + 1 => fun nt E o q v i e c g b hnt hq hv hb hN hf => by
    have ih := g_tot T n f
    match nt, hnt, hN, hf with
    | 0, _, hN, hf => exact gt_0 ih hq hv hb hN hf
    | 1, _, hN, hf => exact gt_1 ih hq hv hb hN hf
    | 2, _, hN, hf => exact gt_2 ih hq hv hb hN hf
    | 3, _, hN, hf => exact gt_3 ih hq hv hb hN hf
    | 4, _, hN, hf => exact gt_4 ih hq hv hb hN hf
    | 5, _, hN, hf => exact gt_5 ih hq hv hb hN hf
    | 6, _, hN, hf => exact gt_6 ih hq hv hb hN hf
    | 7, _, hN, hf => exact gt_7 ih hq hv hb hN hf
    | 8, _, hN, hf => exact gt_8 ih hq hv hb hN hf
    | 9, _, hN, hf => exact gt_9 ih hq hv hb hN hf
    | 10, _, hN, hf => exact gt_10 ih hq hv hb hN hf
    | 11, _, hN, hf => exact gt_11 ih hq hv hb hN hf
    | 12, _, hN, hf => exact gt_12 ih hq hv hb hN hf
    | 13, _, hN, hf => exact gt_13 ih hq hv hb hN hf
    | 14, _, hN, hf => exact gt_14 ih hq hv hb hN hf
    | 15, _, hN, hf => exact gt_15 ih hq hv hb hN hf
    | 16, _, hN, hf => exact gt_16 ih hq hv hb hN hf
    | 17, _, hN, hf => exact gt_17 ih hq hv hb hN hf
    | 18, _, hN, hf => exact gt_18 ih hq hv hb hN hf
    | nt + 19, hnt, _, _ => exact absurd hnt (by omega)
end JnS49

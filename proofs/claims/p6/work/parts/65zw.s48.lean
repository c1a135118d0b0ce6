/-! Primaries: all of them; with them the reference's exps are the grammar's. -/
section PRIM
variable {T : Nat → Int32} {n f : Nat}
/-- words that begin an operand -/
theorem m_wordly {o M P d q v : Nat} {E : En} {b : BT} {x : Option RT} {σ : MS} {L : Nat → Int32} (H : ∀ f', f' ≤ f → S0 T n f') (H17 : S17 T n f) (hG : G T n (f + 1) 13 E o q v 0 0 0 0 b = some x) (hK : 32 ≤ tkK T n q) (hS : PS T n E o q v b σ) (h1 : 1 ≤ M) (hM : M ≤ b.1) (hP : P ≤ b.2.1) (hn : b.1 + (n + 1 - q) + 3 * (d + 3) ≤ 70000) (hp : b.2.1 + (n - q) ≤ 70000) (hdd : 12 * (21 - o) + 2 ≤ d + 1) : Tm (fun k => x_GE k (d + 1) 16 0 L σ) (Po T n E o M P (b.1 + (n + 1 - q) + 3 * (d + 2)) σ x) := by
  rw [G_13, if_neg (by omega), if_neg (by omega), if_neg (by omega), if_neg (by omega), if_neg (by omega)] at hG
  have hq := PS_q hS
  have hw := (cur_what (PS_cur hS)).2.1 hK
  have h85 := (cur_what (PS_cur hS)).2.2
  have H0 := H f (Nat.le_refl _)
  have hmk := hS.2.2.2.2.2.1
  have hdr := hS.2.2.2.2.2.2.1
  have eqs : ∀ c : Nat, c < 53 → (nI (tkK T n q - 32) = nI c ↔ tkK T n q = 32 + c) := fun c hc => by
    rw [n_eq (by omega) (by omega)]; omega
  have named : ∀ (kd : Int32) (c : Nat) (B : Nat → Int32), B 1 = kd → gT T n q (fun q1 => some (some (q1, v, 0, b.1, bNode b kd 0 0 0, []))) = some x → Tm (fun k => ob (x_named k 0 B σ) (fun r1 => some (r1.1, r1.2))) (Po T n E o M P (b.1 + (n + 1 - q) + 3 * (d + 2)) σ x) := fun kd c B hB hG => by
    refine Tm_ob (p_named (M := M) (P := P) hG hS hM (by omega) (k0 := b.1 + (n + 1 - q) + 3 * (d + 2)) (by omega) hB) (fun r hr => ?_)
    exact Tm_some hr
  -- funcs of the language
  have fn : ∀ (N : Nat → Int32), N 1 = nI (tkK T n q - 32) → ¬ (tkK T n q = 60 ∨ tkK T n q = 61 ∨ tkK T n q = 62) → ¬ (tkK T n q = 69 ∨ tkK T n q = 70) → ¬ tkK T n q = 39 → ¬ (tkK T n q = 83 ∧ E.2.2.2.2.1 = true) → Tm (fun k => x_GE k (d + 1) 16 9 N σ) (Po T n E o M P (b.1 + (n + 1 - q) + 3 * (d + 2)) σ x) := fun N hN k1 k2 k3 k4 => by
    rw [if_neg k1, if_neg k2, if_neg k3, if_neg k4] at hG
    have yes : isFn (tkK T n q) E.2.2.2.2.2.1 → ∀ (N : Nat → Int32), N 1 = nI (tkK T n q - 32) → Tm (fun k => x_GE k (d + 1) 16 11 N σ) (Po T n E o M P (b.1 + (n + 1 - q) + 3 * (d + 2)) σ x) := fun hf N hN => by
      rw [if_pos hf] at hG
      refine Tm_suc (fun k => by rw [xE_16]) ?_
      show Tm (fun k => x_GE k (d + 1) 16 13 (upd N 100 1) σ) _
      refine Tm_suc (fun k => by rw [xE_16]) ?_
      show Tm (fun k => x_GE k (d + 1) 16 14 (upd (upd N 100 1) 2 (upd N 100 1 100)) σ) _
      exact m_fn (w := tkK T n q - 32) H0 hG (by omega) hS h1 hM hP hn hp (by omega) (by rw [upd_other (by decide), upd_other (by decide)]; exact hN)
    have no : ¬ isFn (tkK T n q) E.2.2.2.2.2.1 → ∀ (N : Nat → Int32), Tm (fun k => x_GE k (d + 1) 16 12 N σ) (Po T n E o M P (b.1 + (n + 1 - q) + 3 * (d + 2)) σ x) := fun hf N => by
      rw [if_neg hf] at hG
      have hx : x = none := (Option.some.inj hG).symm
      subst hx
      refine Tm_suc (fun k => by rw [xE_16]) ?_
      show Tm (fun k => x_GE k (d + 1) 16 13 (upd N 100 0) σ) _
      refine Tm_suc (fun k => by rw [xE_16]) ?_
      show Tm (fun k => ob (x_cannot k 0 (fun _ => 0) σ) (fun r2 => some (0, r2.2))) _
      refine Tm_ob (p_cannot (M := M) (P := P) (w := E.2.2.2.1) hS _) (fun r5 hr5 => ?_)
      exact Tm_some ⟨⟨_, hr5.1, by omega, hM⟩, ⟨0, rfl, by decide, Or.inl rfl⟩, hr5.2⟩
    have ten : ¬ (71 ≤ tkK T n q ∧ tkK T n q ≤ 79) → Tm (fun k => x_GE k (d + 1) 16 10 N σ) (Po T n E o M P (b.1 + (n + 1 - q) + 3 * (d + 2)) σ x) := fun h7 => by
      refine Tm_suc (fun k => by rw [xE_16]) ?_
      refine Tm_ite (c := N 1 = 50) (fun y => ?_) (fun y => ?_)
      · rw [hN] at y
        have y := (eqs 50 (by decide)).mp y
        exact yes (Or.inr (Or.inl (by omega))) N hN
      · rw [hN] at y
        have y : ¬ tkK T n q = 82 := fun z => y ((eqs 50 (by decide)).mpr (by omega))
        refine Tm_ite (c := N 1 = 52) (fun y2 => ?_) (fun y2 => ?_)
        · rw [hN] at y2
          have y2 := (eqs 52 (by decide)).mp y2
          refine Tm_ite (c := σ.1 42 = 0) (fun y3 => ?_) (fun y3 => ?_)
          · refine no (fun z => ?_) N
            rcases z with z | z | z
            · exact h7 z
            · exact y z
            · rw [hdr.mp y3] at z; exact absurd z.2 (by decide)
          · refine yes (Or.inr (Or.inr ⟨by omega, ?_⟩)) N hN
            cases hc : E.2.2.2.2.2.1 with
            | true => rfl
            | false => exact absurd (hdr.mpr hc) y3
        · rw [hN] at y2
          have y2 : ¬ tkK T n q = 84 := fun z => y2 ((eqs 52 (by decide)).mpr (by omega))
          refine no (fun z => ?_) N
          rcases z with z | z | z
          · exact h7 z
          · exact y z
          · exact y2 z.1
    refine Tm_suc (fun k => by rw [xE_16]) ?_
    refine Tm_ite (c := N 1 < 39) (fun y => ten (fun z => ?_)) (fun y => ?_)
    · rw [hN] at y
      have y : nI (tkK T n q - 32) < nI 39 := y
      rw [n_lt (by omega) (by omega)] at y; omega
    · rw [hN] at y
      have y : ¬ nI (tkK T n q - 32) < nI 39 := y
      rw [n_lt (by omega) (by omega)] at y
      refine Tm_ite (c := N 1 ≤ 47) (fun y2 => ?_) (fun y2 => ten (fun z => ?_))
      · rw [hN] at y2
        have y2 : nI (tkK T n q - 32) ≤ nI 47 := y2
        rw [n_le (by omega) (by omega)] at y2
        exact yes (Or.inl (by omega)) N hN
      · rw [hN] at y2
        have y2 : ¬ nI (tkK T n q - 32) ≤ nI 47 := y2
        rw [n_le (by omega) (by omega)] at y2
        omega
  have quant : ∀ (N : Nat → Int32) (ex : Nat), N 100 = nI ex → (tkK T n q = 69 ∨ tkK T n q = 70) → (if tkK T n q = 69 then (1 : Int32) else 0) = nI ex → Tm (fun k => x_GE k (d + 1) 16 6 N σ) (Po T n E o M P (b.1 + (n + 1 - q) + 3 * (d + 2)) σ x) := fun N ex hN k2 hex => by
    rw [if_neg (by omega), if_pos k2, hex] at hG
    refine Tm_suc (fun k => by rw [xE_16]) ?_
    show Tm (fun k => ob (x_GE k d 12 0 (upd (fun _ => 0) 1 (N 100)) σ) (fun r1 => some (r1.1, r1.2))) _
    obtain ⟨d', rfl⟩ : ∃ d', d = d' + 1 := ⟨d - 1, by omega⟩
    refine Tm_ob (m_quant (M := M) (P := P) (d := d') (ex := ex) H0 H17 hG (by omega) hS h1 hM hP (by omega) hp (by omega) (by rw [upd_same]; exact hN)) (fun r hr => ?_)
    exact Tm_some (Po_tr FrM_rf (by omega) hr)
  refine Tm_suc (fun k => by rw [xE_16]) ?_
  dsimp only [s_wordly]
  have hN1 : upd L 1 (σ.1 7) 1 = nI (tkK T n q - 32) := by rw [upd_same]; exact hw
  generalize upd L 1 (σ.1 7) = N at hN1
  rw [hw]
  refine Tm_ite (c := nI (tkK T n q - 32) = 7) (fun y => ?_) (fun y7 => ?_)
  · have y := (eqs 7 (by decide)).mp y
    rw [if_neg (by omega), if_neg (by omega), if_pos y] at hG
    refine Tm_suc (fun k => by rw [xE_16]) ?_
    show Tm (fun k => ob (x_GE k d 1 0 (fun _ => 0) σ) (fun r1 => some (r1.1, r1.2))) _
    obtain ⟨d', rfl⟩ : ∃ d', d = d' + 1 := ⟨d - 1, by omega⟩
    refine Tm_ob (m_choice (M := M) (P := P) (d := d') H hG (by omega) hS h1 hM hP (by omega) hp (by omega)) (fun r hr => ?_)
    exact Tm_some (Po_tr FrM_rf (by omega) hr)
  have y7 : ¬ tkK T n q = 39 := fun z => y7 ((eqs 7 (by decide)).mpr z)
  refine Tm_ite (c := nI (tkK T n q - 32) = 28) (fun y => ?_) (fun y28 => ?_)
  · have y := (eqs 28 (by decide)).mp y
    rw [if_pos (by omega)] at hG
    simp only [if_pos (show tkK T n q = 60 by omega)] at hG
    refine Tm_suc (fun k => by rw [xE_16]) ?_
    exact named 3 0 _ upd_same hG
  have y28 : ¬ tkK T n q = 60 := fun z => y28 ((eqs 28 (by decide)).mpr z)
  refine Tm_ite (c := nI (tkK T n q - 32) = 29) (fun y => ?_) (fun y29 => ?_)
  · have y := (eqs 29 (by decide)).mp y
    rw [if_pos (by omega)] at hG
    simp only [if_neg y28, if_pos (show tkK T n q = 61 by omega)] at hG
    refine Tm_suc (fun k => by rw [xE_16]) ?_
    exact named 4 0 _ upd_same hG
  have y29 : ¬ tkK T n q = 61 := fun z => y29 ((eqs 29 (by decide)).mpr z)
  refine Tm_ite (c := nI (tkK T n q - 32) = 30) (fun y => ?_) (fun y30 => ?_)
  · have y := (eqs 30 (by decide)).mp y
    rw [if_pos (by omega)] at hG
    simp only [if_neg y28, if_neg y29] at hG
    refine Tm_suc (fun k => by rw [xE_16]) ?_
    exact named 5 0 _ upd_same hG
  have y30 : ¬ tkK T n q = 62 := fun z => y30 ((eqs 30 (by decide)).mpr z)
  have four : (tkK T n q = 69 ∨ tkK T n q = 70) → Tm (fun k => x_GE k (d + 1) 16 4 N σ) (Po T n E o M P (b.1 + (n + 1 - q) + 3 * (d + 2)) σ x) := fun k2 => by
    refine Tm_suc (fun k => by rw [xE_16]) ?_
    refine Tm_ite (c := N 1 = 37) (fun y => ?_) (fun y => ?_)
    · rw [hN1] at y
      have y := (eqs 37 (by decide)).mp y
      exact quant _ 1 upd_same k2 (by rw [if_pos (by omega)]; rfl)
    · rw [hN1] at y
      have y : ¬ tkK T n q = 69 := fun z => y ((eqs 37 (by decide)).mpr z)
      refine Tm_suc (fun k => by rw [xE_16]) ?_
      exact quant _ 0 upd_same k2 (by rw [if_neg y]; rfl)
  refine Tm_ite (c := nI (tkK T n q - 32) = 37) (fun y => four (Or.inl (by have := (eqs 37 (by decide)).mp y; omega))) (fun y37 => ?_)
  have y37 : ¬ tkK T n q = 69 := fun z => y37 ((eqs 37 (by decide)).mpr z)
  refine Tm_ite (c := nI (tkK T n q - 32) = 38) (fun y => four (Or.inr (by have := (eqs 38 (by decide)).mp y; omega))) (fun y38 => ?_)
  have y38 : ¬ tkK T n q = 70 := fun z => y38 ((eqs 38 (by decide)).mpr z)
  refine Tm_suc (fun k => by rw [xE_16]) ?_
  refine Tm_ite (c := N 1 = 51) (fun y => ?_) (fun y => ?_)
  · rw [hN1] at y
    have y := (eqs 51 (by decide)).mp y
    refine Tm_ite (c := σ.1 43 = 0) (fun y2 => ?_) (fun y2 => ?_)
    · exact fn N hN1 (by omega) (by omega) (by omega) (fun z => by rw [hmk.mp y2] at z; exact absurd z.2 (by decide))
    · have ht : E.2.2.2.2.1 = true := by
        cases hc : E.2.2.2.2.1 with
        | true => rfl
        | false => exact absurd (hmk.mpr hc) y2
      rw [if_neg (by omega), if_neg (by omega), if_neg (by omega), if_pos ⟨by omega, ht⟩] at hG
      exact named 6 0 _ upd_same hG
  · rw [hN1] at y
    have y : ¬ tkK T n q = 83 := fun z => y ((eqs 51 (by decide)).mpr z)
    exact fn N hN1 (by omega) (by omega) (by omega) (fun z => y z.1)
theorem e_13 (H : ∀ f', f' ≤ f → S0 T n f') (H17 : S17 T n f) : S13 T n (f + 1) := by
  intro E o q v i e b x hG σ L d M P hS h1 hM hP hn hp hdd _
  obtain ⟨d, rfl⟩ : ∃ d', d = d' + 1 := ⟨d - 1, by omega⟩
  rw [G_13] at hG
  have hG0 : G T n (f + 1) 13 E o q v 0 0 0 0 b = some x := by rw [G_13]; exact hG
  have H0 := H f (Nat.le_refl _)
  have hq := PS_q hS
  have hv := PS_v hS
  have ho := PS_o hS
  have hu := tkN_b T n q hq.1
  have hE := tkE_b T n q hq.1
  have ck := cur_kind (PS_cur hS)
  have hc8 : σ.1 8 = nI q := (PS_cur hS).2.1
  have hc9 : σ.1 9 = nI (tkE T n q) := (PS_cur hS).2.2.2.1
  -- numbers, strings
  have six : ∀ (N : Nat → Int32) (u : Nat) (kd : Int32), u ≤ 1 → N 1 = nI u → N 100 = kd → q + 2 * u ≤ tkE T n q → gT T n q (fun q1 => some (some (q1, v, 0, b.1, bNode (bKeep b T (q + u) (tkE T n q - 2 * u - q)) kd (nI b.2.1) (nI (tkE T n q - 2 * u - q)) 0, []))) = some x → Tm (fun k => x_GE k (d + 1) 11 6 N σ) (Po T n E o M P (b.1 + (n + 1 - q) + 3 * (d + 1 + 1)) σ x) := fun N u kd hu1 hN1 hN100 hlen hG => by
    refine Tm_suc (fun k => by rw [xE_11]) ?_
    dsimp only [s_primary]
    rw [hc8, hc9, hN1, n_add (by omega), n_sub (by omega) (by omega)]
    refine Tm_ob (p_keep (M := M) (P := P) (w := E.2.2.2.1) hS hP (f := q + u) (e := tkE T n q - u) (by omega) (by omega) (by omega) (by rw [upd_other (by decide), upd_same]) (by rw [upd_same])) (fun r1 hr1 => ?_)
    obtain ⟨hr1, hS1, hF1⟩ := hr1
    have e1 : r1.1 = nI b.2.1 := by rw [hr1]
    have k8 : r1.2.1 8 = nI q := (PS_cur hS1).2.1
    have k9 : r1.2.1 9 = nI (tkE T n q) := (PS_cur hS1).2.2.2.1
    have hl : tkE T n q - u - (q + u) = tkE T n q - 2 * u - q := by omega
    rw [hl] at hS1
    have h2u : (2 : Int32) * nI u = nI (2 * u) := by
      have : u = 0 ∨ u = 1 := by omega
      rcases this with rfl | rfl <;> rfl
    rw [k8, k9, e1, n_sub (by omega) hE.1, h2u, n_sub (by omega) (by omega), show tkE T n q - q - 2 * u = tkE T n q - 2 * u - q by omega, hN100]
    refine Tm_ob (p_node (M := M) (P := P) (w := E.2.2.2.1) hS1 (by rw [bKeep_1]; omega) (by rw [bKeep_1]; exact hM) _) (fun r2 hr2 => ?_)
    obtain ⟨hr21, hS2, hF2⟩ := hr2
    refine Tm_ob (p_take (M := M) (P := P) (w := E.2.2.2.1) hS2 _) (fun r9 hr9 => ?_)
    rcases gT_any hG with ⟨t9, rfl⟩ | ⟨t9, hG⟩
    · rcases hr9.2 with ⟨_, hB⟩ | ⟨z, _⟩
      · exact Tm_some ⟨⟨_, hB, by rw [bNode_1, bKeep_1]; omega, by rw [bNode_1, bKeep_1]; omega⟩, ⟨b.1, hr21, by omega, Or.inr hM⟩, FrM_tr hF1 (FrM_tr hF2 hr9.1)⟩
      · exact absurd t9 z
    · rcases hr9.2 with ⟨z, _⟩ | ⟨_, hS9⟩
      · exact absurd z t9
      cases hG
      exact Tm_some ⟨hS9, hr21, FrM_tr hF1 (FrM_tr hF2 hr9.1)⟩
  refine Tm_suc (fun k => by rw [xE_11]) ?_
  refine Tm_ite (c := σ.1 10 = 0) (fun _ => ?_) (fun c => absurd (PS_ok hS) c)
  refine Tm_suc (fun k => by rw [xE_11]) ?_
  refine Tm_ite (c := σ.1 6 = 2) (fun y => ?_) (fun y2 => ?_)
  · have hK := ck.2.2.1.mp y
    rw [if_pos hK] at hG
    refine Tm_suc (fun k => by rw [xE_11]) ?_
    refine Tm_ite (c := σ.1 6 = 3) (fun z => absurd (ck.2.2.2.1.mp z) (by omega)) (fun _ => ?_)
    refine Tm_suc (fun k => by rw [xE_11]) ?_
    show Tm (fun k => x_GE k (d + 1) 11 4 (upd L 100 0) σ) _
    refine Tm_suc (fun k => by rw [xE_11]) ?_
    show Tm (fun k => x_GE k (d + 1) 11 5 (upd (upd L 100 0) 1 (upd L 100 0 100)) σ) _
    refine Tm_suc (fun k => by rw [xE_11]) ?_
    refine six _ 0 1 (by decide) (by rw [upd_other (by decide), upd_same, upd_same]; rfl) upd_same (by omega) ?_
    rw [show tkE T n q - 2 * 0 - q = tkE T n q - q by omega]
    exact hG
  have n27 : ¬ tkK T n q = 27 := fun z => y2 (ck.2.2.1.mpr z)
  rw [if_neg n27] at hG
  refine Tm_ite (c := σ.1 6 = 3) (fun y => ?_) (fun y3 => ?_)
  · have hK := ck.2.2.2.1.mp y
    rw [if_pos hK] at hG
    refine Tm_suc (fun k => by rw [xE_11]) ?_
    refine Tm_ite (c := σ.1 6 = 3) (fun _ => ?_) (fun z => absurd y z)
    refine Tm_suc (fun k => by rw [xE_11]) ?_
    show Tm (fun k => x_GE k (d + 1) 11 6 (upd (upd (upd L 100 1) 1 (upd L 100 1 100)) 100 2) σ) _
    refine six _ 1 2 (by decide) (by rw [upd_other (by decide), upd_same, upd_same]; rfl) upd_same (str_len hq.1 hK) ?_
    rw [show 2 * 1 = 2 from rfl]
    exact hG
  have n28 : ¬ tkK T n q = 28 := fun z => y3 (ck.2.2.2.1.mpr z)
  rw [if_neg n28] at hG
  refine Tm_suc (fun k => by rw [xE_11]) ?_
  refine Tm_ite (c := σ.1 6 = 1) (fun y => ?_) (fun y1 => ?_)
  · have hK := ck.2.1.mp y
    rw [if_pos hK] at hG
    show Tm (fun k => ob (x_GE k d 6 0 (fun _ => 0) σ) (fun r2 => some (r2.1, r2.2))) _
    obtain ⟨d', rfl⟩ : ∃ d', d = d' + 1 := ⟨d - 1, by omega⟩
    refine Tm_ob (m_name (M := M) (P := P) (d := d') (f := f) (fun f' hf' => H f' (by omega)) hG hK hS h1 hM hP (by omega) hp (by omega)) (fun r hr => ?_)
    exact Tm_some (Po_tr FrM_rf (by omega) hr)
  have n26 : ¬ tkK T n q = 26 := fun z => y1 (ck.2.1.mpr z)
  rw [if_neg n26] at hG
  refine Tm_suc (fun k => by rw [xE_11]) ?_
  refine Tm_ob (p_sign hS (s := 6) (by decide) (by decide) rfl) (fun r6 hr6 => ?_)
  obtain ⟨u, τ⟩ := r6
  obtain ⟨h3, hr6⟩ := hr6
  have h3 : τ = σ := h3
  subst h3
  refine Tm_ite (fun z => ?_) (fun z => ?_)
  · have n6 : ¬ tkK T n q = 6 := fun y => hr6.mpr y z
    rw [if_neg n6] at hG
    have brk : (tkK T n q = 8 ∨ tkK T n q = 10) → ∀ N : Nat → Int32, Tm (fun k => x_GE k (d + 1) 11 12 N τ) (Po T n E o M P (b.1 + (n + 1 - q) + 3 * (d + 1 + 1)) τ x) := fun hK N => by
      rw [if_pos hK] at hG
      refine Tm_suc (fun k => by rw [xE_11]) ?_
      show Tm (fun k => ob (x_GE k d 0 0 (fun _ => 0) τ) (fun r1 => some (r1.1, r1.2))) _
      obtain ⟨d', rfl⟩ : ∃ d', d = d' + 1 := ⟨d - 1, by omega⟩
      refine Tm_ob (m_brackets (M := M) (P := P) (d := d') H H17 hG hK hS h1 hM hP (by omega) hp (by omega)) (fun r hr => ?_)
      exact Tm_some (Po_tr FrM_rf (by omega) hr)
    refine Tm_suc (fun k => by rw [xE_11]) ?_
    refine Tm_ob (p_sign hS (s := 8) (by decide) (by decide) rfl) (fun r8 hr8 => ?_)
    obtain ⟨u, τ'⟩ := r8
    obtain ⟨h3, hr8⟩ := hr8
    have h3 : τ' = τ := h3
    subst h3
    refine Tm_ite (fun z8 => ?_) (fun z8 => brk (Or.inl (hr8.mp z8)) _)
    refine Tm_ob (p_sign hS (s := 10) (by decide) (by decide) rfl) (fun ra hra => ?_)
    obtain ⟨u, τ⟩ := ra
    obtain ⟨h3, hra⟩ := hra
    have h3 : τ = τ' := h3
    subst h3
    refine Tm_ite (fun z10 => ?_) (fun z10 => brk (Or.inr (hra.mp z10)) _)
    have n8 : ¬ (tkK T n q = 8 ∨ tkK T n q = 10) := fun y => y.elim (fun y => hr8.mpr y z8) (fun y => hra.mpr y z10)
    refine Tm_suc (fun k => by rw [xE_11]) ?_
    refine Tm_ite (c := τ.1 6 = 5) (fun y => ?_) (fun y5 => ?_)
    · have hK := ck.2.2.2.2.2.mp y
      show Tm (fun k => ob (x_GE k d 16 0 (fun _ => 0) τ) (fun r2 => some (r2.1, r2.2))) _
      obtain ⟨d', rfl⟩ : ∃ d', d = d' + 1 := ⟨d - 1, by omega⟩
      refine Tm_ob (m_wordly (M := M) (P := P) (d := d') H H17 hG0 hK hS h1 hM hP (by omega) hp (by omega)) (fun r hr => ?_)
      exact Tm_some (Po_tr FrM_rf (by omega) hr)
    · have n32 : ¬ 32 ≤ tkK T n q := fun z => y5 (ck.2.2.2.2.2.mpr z)
      rw [if_neg n8, if_neg (by omega), if_neg (by omega), if_neg (by omega), if_neg (by omega), if_neg (fun z => by rcases z with z | z | z <;> omega)] at hG
      have hx : x = none := (Option.some.inj hG).symm
      subst hx
      refine Tm_suc (fun k => by rw [xE_11]) ?_
      refine Tm_ob (p_cannot (M := M) (P := P) (w := E.2.2.2.1) hS _) (fun r5 hr5 => ?_)
      exact Tm_some ⟨⟨_, hr5.1, by omega, hM⟩, ⟨0, rfl, by decide, Or.inl rfl⟩, hr5.2⟩
  -- ( exp )
  have hK6 := hr6.mp z
  rw [if_pos hK6] at hG
  have hu4 := hu.2.2.2 (by rw [hK6]; decide)
  have b10 : ∀ (ρ : MS) (m l : Nat) (N : Nat → Int32), N 1 = nI l → l < 70000 → (l = 0 ∨ M ≤ l) → Bb m ρ → M ≤ m → m + 1 ≤ b.1 + (n + 1 - q) + 3 * (d + 1 + 1) → FrM M P E.2.2.2.1 τ ρ → Tm (fun k => x_GE k (d + 1) 11 10 N ρ) (Po T n E o M P (b.1 + (n + 1 - q) + 3 * (d + 1 + 1)) τ none) := fun ρ m l N hN hl hMl hB hMm hm hF => by
    refine Tm_suc (fun k => by rw [xE_11]) ?_
    refine Tm_ob (b_over (M := M) (P := P) (w := E.2.2.2.1) hB (by omega) hMm _ (l := l) (by rw [upd_other (by decide), upd_same]; exact hN) hMl hl) (fun r8 hr8 => ?_)
    exact Tm_some ⟨⟨_, hr8.2.1, hm, by omega⟩, ⟨_, hr8.1, by omega, Or.inr hMm⟩, FrM_tr hF hr8.2.2⟩
  have b9 : ∀ (ρ : MS) (N : Nat → Int32), Bb b.1 ρ → FrM M P E.2.2.2.1 τ ρ → Tm (fun k => x_GE k (d + 1) 11 9 N ρ) (Po T n E o M P (b.1 + (n + 1 - q) + 3 * (d + 1 + 1)) τ none) := fun ρ N hB hF => by
    refine Tm_suc (fun k => by rw [xE_11]) ?_
    show Tm (fun k => ob (x_GE k d 3 0 (fun _ => 0) ρ) _) _
    obtain ⟨d', hd'⟩ : ∃ d', d = d' + 7 := ⟨d - 7, by omega⟩
    refine Tm_ob (P := fun r => r = (0, ρ)) (by rw [hd']; exact b_exp hB.1) (fun r7 hr7 => ?_)
    subst hr7
    refine Tm_ob (b_want hB.1 _) (fun r1 hr1 => ?_)
    obtain ⟨u, τ1⟩ := r1
    have hr1 : τ1 = ρ := hr1
    subst hr1
    exact b10 (mOpn τ1 (τ1.1 13 - 1)) _ 0 _ (by rw [upd_same]; rfl) (by decide) (Or.inl rfl) (Bb_opn hB _) hM (by omega) (FrM_tr hF (FrM_opn _))
  refine Tm_ob (p_open (M := M) (P := P) (w := E.2.2.2.1) hS _) (fun r1 hr1 => ?_)
  rcases gO_any hG with ⟨o0, rfl⟩ | ⟨o0, hG⟩
  · rcases hr1.2 with ⟨_, hB⟩ | ⟨y, _⟩
    · exact Tm_ite (c := r1.2.1 10 = 0) (fun c => absurd c hB.1) (fun _ => b9 r1.2 _ hB hr1.1)
    · omega
  rcases hr1.2 with ⟨y, _⟩ | ⟨ho2, hS1, _⟩
  · exact absurd y o0
  refine Tm_ite (c := r1.2.1 10 = 0) (fun _ => ?_) (fun c => absurd (PS_ok hS1) c)
  refine Tm_ob (p_take (M := M) (P := P) (w := E.2.2.2.1) hS1 _) (fun r3 hr3 => ?_)
  have hF3 := FrM_tr hr1.1 hr3.1
  rcases gT_any hG with ⟨t3, rfl⟩ | ⟨t3, hG⟩
  · rcases hr3.2 with ⟨_, hB⟩ | ⟨y, _⟩
    · exact b9 r3.2 _ hB hF3
    · exact absurd t3 y
  rcases hr3.2 with ⟨y, _⟩ | ⟨_, hS3⟩
  · exact absurd y t3
  refine Tm_suc (fun k => by rw [xE_11]) ?_
  show Tm (fun k => ob (x_GE k d 3 0 (fun _ => 0) r3.2) _) _
  rcases gb_any hG with ⟨h7, rfl⟩ | ⟨s, h7, hG⟩
  · refine Tm_ob (H0 _ _ _ _ _ _ _ _ h7 r3.2 _ d M P hS3 h1 hM hP (by omega) (by omega) (by omega) trivial) (fun r7 hr7 => ?_)
    obtain ⟨⟨m1, hm, hmk, hMm⟩, ⟨l, l1, l2, l3⟩, hF7⟩ := hr7
    refine Tm_ob (b_want hm.1 _) (fun r8 hr8 => ?_)
    obtain ⟨u, τ8⟩ := r8
    have hr8 : τ8 = r7.2 := hr8
    subst hr8
    exact b10 (mOpn r7.2 (r7.2.1 13 - 1)) m1 l _ (by rw [upd_same]; exact l1) l2 l3 (Bb_opn hm _) hMm (by omega) (FrM_tr hF3 (FrM_tr hF7 (FrM_opn _)))
  obtain ⟨⟨a1, a2, a3, a4, a5, a6, a7, a8⟩, a9⟩ := mo_of (M := M) hu.2.1 hv h7 hM h1 trivial (fun h => h) (fun h => h)
  refine Tm_ob (H0 _ _ _ _ _ _ _ _ h7 r3.2 _ d M P hS3 h1 hM hP (by omega) (by omega) (by omega) trivial) (fun r7 hr7 => ?_)
  obtain ⟨hS7, hr71, hF7⟩ := hr7
  refine Tm_ob (p_want (M := M) (P := P) (w := E.2.2.2.1) hS7 (s := 7) (by decide) (by decide) rfl) (fun r8 hr8 => ?_)
  have hF8 := FrM_tr hF3 (FrM_tr hF7 (FrM_tr hr8.1 (FrM_opn (r8.2.1 13 - 1))))
  rcases gW_any hG with ⟨t8, rfl⟩ | ⟨t8, hG⟩
  · rcases hr8.2 with ⟨_, hB⟩ | ⟨z, _⟩
    · exact b10 (mOpn r8.2 (r8.2.1 13 - 1)) _ s.2.2.2.1 _ (by rw [upd_same]; exact hr71) (by omega) (Or.inr a9.1) (Bb_opn hB _) (by omega) (by omega) hF8
    · exact absurd z t8
  rcases hr8.2 with ⟨z, _⟩ | ⟨_, hS8⟩
  · exact absurd t8 z
  refine Tm_suc (fun k => by rw [xE_11]) ?_
  refine Tm_ob (p_over (M := M) (P := P) (w := E.2.2.2.1) (PS_clo hS8) (by omega) (by omega) _ (l := s.2.2.2.1) (by rw [upd_other (by decide), upd_same, upd_same]; exact hr71) a9.1 (by omega)) (fun r9 hr9 => ?_)
  obtain ⟨hr91, hS9, hF9⟩ := hr9
  cases hG
  exact Tm_some ⟨hS9, hr91, FrM_tr hF8 hF9⟩
end PRIM
section ALL
variable {T : Nat → Int32} {n : Nat}
def AllS (T : Nat → Int32) (n f : Nat) : Prop := S0 T n f ∧ S1 T n f ∧ S2 T n f ∧ S3 T n f ∧ S4 T n f ∧ S5 T n f ∧ S6 T n f ∧ S7 T n f ∧ S8 T n f ∧ S9 T n f ∧ S10 T n f ∧ S11 T n f ∧ S12 T n f ∧ S13 T n f ∧ S17 T n f
theorem SG_0 {nt lv m blk : Nat} {re : Nat → BT → (Nat → Int32) → Nat → Prop} : SG T n 0 nt lv m blk re := by
  intro E o q v i e b x hG
  simp only [G] at hG
  cases hG
/-- what the grammar says of an exp, the reference does -/
theorem all_S (f : Nat) : ∀ f' : Nat, f' ≤ f → AllS T n f' := by
  induction f with
  | zero =>
    intro f' h
    obtain rfl : f' = 0 := by omega
    refine ⟨SG_0, SG_0, SG_0, SG_0, SG_0, SG_0, SG_0, SG_0, SG_0, SG_0, SG_0, SG_0, SG_0, SG_0, ?_⟩
    intro E o q v i e c g b x hG
    simp only [G] at hG
    cases hG
  | succ f ih =>
    intro f' h
    by_cases c : f' ≤ f
    · exact ih f' c
    obtain rfl : f' = f + 1 := by omega
    obtain ⟨k0, k1, k2, k3, k4, k5, k6, k7, k8, k9, k10, k11, k12, k13, k17⟩ := ih f (Nat.le_refl _)
    exact ⟨e_0 k2 k1, e_1 k2 k1, e_2 k4 k3, e_3 k4 k3, e_4 k4 k5, e_5 k6, e_6 k8 k7, e_7 k8 k7, e_8 k10 k9, e_9 k10 k9, e_10 k11 k10, e_11 k11 k13 k12, e_12 k0 k12, e_13 (fun f' hf' => (ih f' hf').1) k17, e_17 k6 k17⟩
end ALL

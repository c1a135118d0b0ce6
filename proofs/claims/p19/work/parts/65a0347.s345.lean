section JnS345
/-! The class: a tuple or a set out of a row (three rows: S345.tpl by its row and length). -/
section CRI
variable {g g' : Nat → Prop} {l : List Nat} {t t' : Nat} {σ : CS} {L : LV} {x y i : Int32} {M M' : Nat → Int32}
/-- midway in a row: i values seen -/
def RI16 (g : Nat → Prop) (σ : CS) (kd s n i : Nat) (L : LV) : Prop := uN (L.1 1) = kd ∧ uN (L.1 3) = s ∧ uN (L.1 4) = n ∧ uN (L.1 8) = s + i ∧ i ≤ n ∧ (i + 1 ≤ uN (L.1 5) ∧ uN (L.1 5) ≤ 3000) ∧ uN (L.1 6) ≤ 30 ∧ (∀ j, j < i → hgt (σ.2.2.1 3) (σ.2.2.1 16 (s + j)) ≤ uN (L.1 6)) ∧ (L.1 7 = 0 ∨ (kd = 6 ∧ ∀ j, j < i → uN (σ.2.2.1 16 (s + j)) < 2147483648 ∧ uN (σ.2.2.1 3 (uN (σ.2.2.1 16 (s + j)))) % 65536 = 37))
theorem mr16_7 (h : HQ g l t σ) {kd s n i : Nat} (hk : kd = 5 ∨ kd = 6) (n1 : 1 ≤ n) (hb : 2048 ≤ 2147483648) (hs : s + n ≤ 2048) (hv : ∀ j, j < n → Gv g (σ.2.2.1 16 (s + j))) (hI : RI16 g σ kd s n i L) (he : i = n ∨ 1000 < uN (L.1 5)) : Tm (fun k => y_X1_makeRow__a16 k 7 L σ) (Mk g t σ kd) := by
  obtain ⟨a1, a3, a4, a8, ai, ⟨a5, b5⟩, a6, ah, am⟩ := hI
  have e11 : ∀ L' : LV, Tm (fun k => y_X1_makeRow__a16 k 11 L' σ) (Mk g t σ kd) := by
    intro L'
    refine Tm_suc (fun k => by rw [y_X1_makeRow__a16]) ?_
    exact Tm_some (Mk_id h (Or.inr (by show 4026531840 ≤ uN (-268435451) ∧ ¬ uN (-268435451) % 16 = 0; decide)))
  refine Tm_suc (fun k => by rw [y_X1_makeRow__a16]) ?_
  refine Tm_ite (fun _ => e11 _) (fun c5 => ?_)
  rw [u_ltn (by decide) (by omega)] at c5
  have c5' : uN (L.1 5) ≤ 1000 := Nat.le_of_not_lt c5
  refine Tm_ite (fun c6 => ?_) (fun _ => e11 _)
  rw [u_ltn (by omega) (by decide)] at c6
  have c6' : uN (L.1 6) < 30 := c6
  have en : i = n := by omega
  subst en
  have hn := HQ_n h
  have h21 := h.2.1
  refine Tm_suc (fun k => by rw [y_X1_makeRow__a16]) ?_
  rw [h.1, show Int32.ofNat (sN σ 3) - nI t = nI (sN σ 3 - t) from n_sub (by omega) h21.2]
  have eu : uN (nI (sN σ 3 - t)) = sN σ 3 - t := u_n (by omega)
  have e1 : uN (1 + L.1 4) = 1 + i := by
    rw [u_add (x := 1) (by show 1 + uN (L.1 4) < _; omega), a4]; rfl
  refine Tm_ite (fun c => ?_) (fun _ => Tm_some (Mk_id h (Or.inr (by show 4026531840 ≤ uN (-268435450) ∧ ¬ uN (-268435450) % 16 = 0; decide))))
  rw [u_le (by omega) (by omega), e1, eu] at c
  have et : uN (nI t) = t := u_n (by omega)
  have e8 : nI t + 1 + L.1 4 = nI (t + 1 + i) := by
    rw [u_eq, u_add (by rw [u_inc (by omega)]; omega), u_inc (by omega), et, a4, u_n (by omega)]
  have b21 : ∀ (L' : LV) (f : Nat), f < 2 → uN (L'.1 100) = f * 8 → uN (L'.1 101) = kd → L'.1 102 = nI t → L'.1 3 = L.1 3 → L'.1 4 = L.1 4 → L'.1 5 = L.1 5 → L'.1 6 = L.1 6 → L'.1 8 = nI t → (f = 1 → ∀ j, j < i → uN (σ.2.2.1 16 (s + j)) < 2147483648 ∧ uN (σ.2.2.1 3 (uN (σ.2.2.1 16 (s + j)))) % 65536 = 37) → Tm (fun k => y_X1_makeRow__a16 k 21 L' (hpC σ (t + 1 + i) (σ.2.2.1 3))) (Mk g t σ kd) := by
    intro L' f f2 d100 d101 d102 d3 d4 d5 d6 d8 hf
    refine Tm_suc (fun k => by rw [y_X1_makeRow__a16]) ?_
    rw [d102, d3, d4, d5, d6, d8]
    refine Tm_chk (u_in (by show uN (nI t) < sN σ 3; omega) (by show sN σ 3 ≤ _; omega)) ?_
    rw [u_cl (x := nI t) (by omega), et, hpC_a]
    have et1 : uN (nI t + 1) = t + 1 := by rw [u_inc (by omega), et]
    refine Tm_chk ⟨by rw [u_neg]; omega, by rw [u_neg]; omega, by rw [u_neg]; omega, by rw [u_cl (by omega), u_cl (by omega), a3, a4]; exact hs, by rw [u_cl (by omega), u_cl (by omega), et1, a4]; show t + 1 + i ≤ sN σ 3; omega⟩ ?_
    rw [u_cl (x := L.1 3) (by omega), u_cl (x := L.1 4) (by omega), u_cl (x := nI t + 1) (by omega), et1, a3, a4, hpC_f]
    refine Tm_some ?_
    have eh := hd_of (K := L'.1 101) (F := L'.1 100) (n := L.1 4) (s := L.1 5) (hh := L.1 6 + 1) d101 (by omega) d100 f2 a4 (by omega) rfl (by omega) (show uN (L.1 6 + 1) = uN (L.1 6) + 1 from u_inc (by omega)) (by omega)
    exact Mk_row (R := σ.2.2.1 16) h hk f2 (by omega) (by omega) c5' (by omega) (by omega) eh (by omega) (fun j hj => ⟨hv j hj, Nat.lt_succ_of_le (ah j hj)⟩) hf
  refine Tm_suc (fun k => by rw [y_X1_makeRow__a16]) ?_
  rw [hpC_i (t := t + 1 + i) σ (show (lI L 8 (nI t)).1 8 + 1 + (lI L 8 (nI t)).1 4 = nI (t + 1 + i) from e8)]
  refine Tm_ite (fun _ => ?_) (fun c7 => ?_)
  · refine Tm_suc (fun k => by rw [y_X1_makeRow__a16]) ?_
    refine b21 _ 0 (by decide) ?_ ?_ ?_ ?_ ?_ ?_ ?_ ?_ (fun z => absurd z (by decide))
    · rfl
    · exact a1
    · rfl
    · rfl
    · rfl
    · rfl
    · rfl
    · rfl
  · refine b21 _ 1 (by decide) ?_ ?_ ?_ ?_ ?_ ?_ ?_ ?_ (fun _ => ?_)
    · rfl
    · exact a1
    · rfl
    · rfl
    · rfl
    · rfl
    · rfl
    · rfl
    · rcases am with am | am
      · exact absurd am c7
      · exact am.2
theorem mr16_6 (h : HQ g l t σ) {kd s n : Nat} (hk : kd = 5 ∨ kd = 6) (n1 : 1 ≤ n) (hb : 2048 ≤ 2147483648) (hs : s + n ≤ 2048) (hv : ∀ j, j < n → Gv g (σ.2.2.1 16 (s + j))) : ∀ (m i : Nat) (L : LV), i + m = n → RI16 g σ kd s n i L → s + n < 2147480000 → Tm (fun k => y_X1_makeRow__a16 k 6 L σ) (Mk g t σ kd) := by
  intro m
  induction m with
  | zero =>
    intro i L hm hI hsn
    have en : i = n := by omega
    have go := mr16_7 h hk n1 hb hs hv hI (Or.inl en)
    obtain ⟨a1, a3, a4, a8, ai, ⟨a5, b5⟩, a6, ah, am⟩ := hI
    refine Tm_suc (fun k => by rw [y_X1_makeRow__a16]) ?_
    refine Tm_yes ?_ go
    have e : uN (L.1 3 + L.1 4) = s + n := by rw [u_add (by omega), a3, a4]
    rw [u_le (by omega) (by omega), e, a8]
    omega
  | succ m ih =>
    intro i L hm hI hsn
    have go : 1000 < uN (L.1 5) → Tm (fun k => y_X1_makeRow__a16 k 7 L σ) (Mk g t σ kd) := fun z => mr16_7 h hk n1 hb hs hv hI (Or.inr z)
    obtain ⟨a1, a3, a4, a8, ai, ⟨a5, b5⟩, a6, ah, am⟩ := hI
    have nx : ∀ L' : LV, L'.1 1 = L.1 1 → L'.1 3 = L.1 3 → L'.1 4 = L.1 4 → L'.1 8 = L.1 8 → i + 2 ≤ uN (L'.1 5) → uN (L'.1 5) ≤ 3000 → uN (L'.1 6) ≤ 30 → (∀ j, j < i + 1 → hgt (σ.2.2.1 3) (σ.2.2.1 16 (s + j)) ≤ uN (L'.1 6)) → (L'.1 7 = 0 ∨ (kd = 6 ∧ ∀ j, j < i + 1 → uN (σ.2.2.1 16 (s + j)) < 2147483648 ∧ uN (σ.2.2.1 3 (uN (σ.2.2.1 16 (s + j)))) % 65536 = 37)) → Tm (fun k => y_X1_makeRow__a16 k 19 L' σ) (Mk g t σ kd) := by
      intro L' d1 d3 d4 d8 d5 e5 d6 dh dm
      refine Tm_suc (fun k => by rw [y_X1_makeRow__a16]) ?_
      refine ih (i + 1) _ (by omega) ⟨?_, ?_, ?_, ?_, by omega, ⟨d5, e5⟩, d6, dh, dm⟩ hsn
      · show uN (L'.1 1) = kd; rw [d1, a1]
      · show uN (L'.1 3) = s; rw [d3, a3]
      · show uN (L'.1 4) = n; rw [d4, a4]
      · show uN (L'.1 8 + 1) = s + (i + 1)
        rw [d8, u_inc (by omega), a8]; omega
    have jx : ∀ {P : Nat → Prop}, (∀ j, j < i → P j) → P i → ∀ j, j < i + 1 → P j := by
      intro P p1 p2 j hj
      rcases Nat.lt_or_ge j i with z | z
      · exact p1 j z
      · rw [show j = i from by omega]; exact p2
    refine Tm_suc (fun k => by rw [y_X1_makeRow__a16]) ?_
    have e : uN (L.1 3 + L.1 4) = s + n := by rw [u_add (by omega), a3, a4]
    refine Tm_ite (fun c => absurd c ?_) (fun _ => ?_)
    · rw [u_le (by omega) (by omega), e, a8]; omega
    refine Tm_ite (fun c => go ?_) (fun c => ?_)
    · rw [u_ltn (by decide) (by omega)] at c; exact c
    rw [u_ltn (by decide) (by omega)] at c
    have c5 : uN (L.1 5) ≤ 1000 := Nat.le_of_not_lt c
    refine Tm_chk (u_in (by omega) hb) ?_
    rw [u_cl (x := L.1 8) (by omega), a8]
    have gi := hv i (by omega)
    refine Tm_ite (fun c0 => ?_) (fun c0 => ?_)
    · rw [u_neg] at c0
      have h0 : hgt (σ.2.2.1 3) (σ.2.2.1 16 (s + i)) = 0 := by unfold hgt; rw [if_neg (by omega)]
      have b18 : ∀ (L' : LV) (z : Int32), L'.1 1 = L.1 1 → L'.1 3 = L.1 3 → L'.1 4 = L.1 4 → L'.1 8 = L.1 8 → L'.1 6 = L.1 6 → L'.1 101 = L.1 5 → L'.1 100 = z → 1 ≤ uN z → uN z ≤ 2 → Tm (fun k => y_X1_makeRow__a16 k 18 L' σ) (Mk g t σ kd) := by
        intro L' z d1 d3 d4 d8 d6 d101 d100 z1 z2
        have es : uN (L'.1 101 + L'.1 100) = uN (L.1 5) + uN z := by rw [d101, d100, u_add (by omega)]
        refine Tm_suc (fun k => by rw [y_X1_makeRow__a16]) ?_
        refine nx _ ?_ ?_ ?_ ?_ ?_ ?_ ?_ ?_ ?_
        · exact d1
        · exact d3
        · exact d4
        · exact d8
        · show i + 2 ≤ uN (L'.1 101 + L'.1 100); rw [es]; omega
        · show uN (L'.1 101 + L'.1 100) ≤ 3000; rw [es]; omega
        · show uN (L'.1 6) ≤ 30; rw [d6]; exact a6
        · show ∀ j, j < i + 1 → hgt (σ.2.2.1 3) (σ.2.2.1 16 (s + j)) ≤ uN (L'.1 6)
          rw [d6]
          exact jx ah (by omega)
        · exact Or.inl rfl
      have b13 : ∀ L' : LV, L'.1 1 = L.1 1 → L'.1 3 = L.1 3 → L'.1 4 = L.1 4 → L'.1 8 = L.1 8 → L'.1 6 = L.1 6 → L'.1 100 = L.1 5 → Tm (fun k => y_X1_makeRow__a16 k 13 L' σ) (Mk g t σ kd) := by
        intro L' d1 d3 d4 d8 d6 d100
        refine Tm_suc (fun k => by rw [y_X1_makeRow__a16]) ?_
        refine b18 _ 2 ?_ ?_ ?_ ?_ ?_ ?_ ?_ (by decide) (by decide)
        · exact d1
        · exact d3
        · exact d4
        · exact d8
        · exact d6
        · exact d100
        · rfl
      have b14 : ∀ L' : LV, L'.1 1 = L.1 1 → L'.1 3 = L.1 3 → L'.1 4 = L.1 4 → L'.1 8 = L.1 8 → L'.1 6 = L.1 6 → L'.1 100 = L.1 5 → Tm (fun k => y_X1_makeRow__a16 k 14 L' σ) (Mk g t σ kd) := by
        intro L' d1 d3 d4 d8 d6 d100
        refine Tm_suc (fun k => by rw [y_X1_makeRow__a16]) ?_
        refine b18 _ 1 ?_ ?_ ?_ ?_ ?_ ?_ ?_ (by decide) (by decide)
        · exact d1
        · exact d3
        · exact d4
        · exact d8
        · exact d6
        · exact d100
        · rfl
      refine Tm_suc (fun k => by rw [y_X1_makeRow__a16]) ?_
      refine Tm_ite (fun _ => b13 _ rfl rfl rfl rfl rfl rfl) (fun _ => Tm_ite (fun _ => Tm_ite (fun _ => b14 _ rfl rfl rfl rfl rfl rfl) (fun _ => b13 _ rfl rfl rfl rfl rfl rfl)) (fun _ => b14 _ rfl rfl rfl rfl rfl rfl))
    · rw [u_neg] at c0
      have cc : uN (σ.2.2.1 16 (s + i)) < 2147483648 := by omega
      refine Tm_chk (in_g h gi cc) ?_
      rw [u_cl cc, e_siz, e_hgt]
      have cg := (HQ_c h (Gv_c gi cc).2).2.2.2.2
      have s1 := cg.2.2.2.1
      have s2 : hdS (uN (σ.2.2.1 3 (uN (σ.2.2.1 16 (s + i))))) < 1024 := Nat.mod_lt _ (by decide)
      have hh : hgt (σ.2.2.1 3) (σ.2.2.1 16 (s + i)) = hdT (uN (σ.2.2.1 3 (uN (σ.2.2.1 16 (s + i))))) := by unfold hgt; rw [if_pos cc]
      have eT : uN (nI (hdT (uN (σ.2.2.1 3 (uN (σ.2.2.1 16 (s + i))))))) = hdT (uN (σ.2.2.1 3 (uN (σ.2.2.1 16 (s + i))))) := u_n (by omega)
      have eS : uN (L.1 5 + nI (hdS (uN (σ.2.2.1 3 (uN (σ.2.2.1 16 (s + i))))))) = uN (L.1 5) + hdS (uN (σ.2.2.1 3 (uN (σ.2.2.1 16 (s + i))))) := by
        rw [u_add (by rw [u_n (by omega)]; omega), u_n (by omega)]
      have b10 : ∀ L' : LV, L'.1 1 = L.1 1 → L'.1 3 = L.1 3 → L'.1 4 = L.1 4 → L'.1 8 = L.1 8 → L'.1 7 = L.1 7 → L'.1 5 = L.1 5 + nI (hdS (uN (σ.2.2.1 3 (uN (σ.2.2.1 16 (s + i)))))) → L'.1 10 = σ.2.2.1 3 (uN (σ.2.2.1 16 (s + i))) → uN (L'.1 100) ≤ 30 → (∀ j, j < i + 1 → hgt (σ.2.2.1 3) (σ.2.2.1 16 (s + j)) ≤ uN (L'.1 100)) → Tm (fun k => y_X1_makeRow__a16 k 10 L' σ) (Mk g t σ kd) := by
        intro L' d1 d3 d4 d8 d7 d5 d10 d100 dh
        have b16 : ∀ L2 : LV, L2.1 1 = L.1 1 → L2.1 3 = L.1 3 → L2.1 4 = L.1 4 → L2.1 8 = L.1 8 → L2.1 5 = L'.1 5 → L2.1 6 = L'.1 100 → (L2.1 100 = 0 ∨ (kd = 6 ∧ ∀ j, j < i + 1 → uN (σ.2.2.1 16 (s + j)) < 2147483648 ∧ uN (σ.2.2.1 3 (uN (σ.2.2.1 16 (s + j)))) % 65536 = 37)) → Tm (fun k => y_X1_makeRow__a16 k 16 L2 σ) (Mk g t σ kd) := by
          intro L2 z1 z3 z4 z8 z5 z6 zm
          refine Tm_suc (fun k => by rw [y_X1_makeRow__a16]) ?_
          refine nx _ ?_ ?_ ?_ ?_ ?_ ?_ ?_ ?_ ?_
          · exact z1
          · exact z3
          · exact z4
          · exact z8
          · show i + 2 ≤ uN (L2.1 5); rw [z5, d5, eS]; omega
          · show uN (L2.1 5) ≤ 3000; rw [z5, d5, eS]; omega
          · show uN (L2.1 6) ≤ 30; rw [z6]; exact d100
          · show ∀ j, j < i + 1 → hgt (σ.2.2.1 3) (σ.2.2.1 16 (s + j)) ≤ uN (L2.1 6)
            rw [z6]; exact dh
          · exact zm
        have b15 : ∀ L2 : LV, L2.1 1 = L.1 1 → L2.1 3 = L.1 3 → L2.1 4 = L.1 4 → L2.1 8 = L.1 8 → L2.1 5 = L'.1 5 → L2.1 6 = L'.1 100 → Tm (fun k => y_X1_makeRow__a16 k 15 L2 σ) (Mk g t σ kd) := by
          intro L2 z1 z3 z4 z8 z5 z6
          refine Tm_suc (fun k => by rw [y_X1_makeRow__a16]) ?_
          refine b16 _ ?_ ?_ ?_ ?_ ?_ ?_ ?_
          · exact z1
          · exact z3
          · exact z4
          · exact z8
          · exact z5
          · exact z6
          · exact Or.inl rfl
        refine Tm_suc (fun k => by rw [y_X1_makeRow__a16]) ?_
        refine Tm_ite (fun _ => ?_) (fun c7 => Tm_ite (fun cp => ?_) (fun _ => ?_))
        · refine b15 _ ?_ ?_ ?_ ?_ ?_ ?_
          · exact d1
          · exact d3
          · exact d4
          · exact d8
          · rfl
          · rfl
        · rw [d10, e_low, u_eq, u_n (by omega)] at cp
          rw [d7] at c7
          refine b16 _ ?_ ?_ ?_ ?_ ?_ ?_ ?_
          · exact d1
          · exact d3
          · exact d4
          · exact d8
          · rfl
          · rfl
          · rcases am with am | am
            · exact absurd am c7
            · exact Or.inr ⟨am.1, jx am.2 ⟨cc, cp⟩⟩
        · refine b15 _ ?_ ?_ ?_ ?_ ?_ ?_
          · exact d1
          · exact d3
          · exact d4
          · exact d8
          · rfl
          · rfl
      refine Tm_ite (fun c6 => ?_) (fun c6 => ?_)
      · rw [u_le (by omega) (by omega), eT] at c6
        refine Tm_suc (fun k => by rw [y_X1_makeRow__a16]) ?_
        refine b10 _ ?_ ?_ ?_ ?_ ?_ ?_ ?_ ?_ ?_
        · rfl
        · rfl
        · rfl
        · rfl
        · rfl
        · rfl
        · rfl
        · show uN (((σ.2.2.1 3 (uN (σ.2.2.1 16 (s + i)))).toUInt32 >>> ((26 : Int32).toUInt32 &&& Int32.toUInt32 31)).toInt32) ≤ 30
          rw [e_hgt, eT]; exact s1.1
        · show ∀ j, j < i + 1 → hgt (σ.2.2.1 3) (σ.2.2.1 16 (s + j)) ≤ uN (((σ.2.2.1 3 (uN (σ.2.2.1 16 (s + i)))).toUInt32 >>> ((26 : Int32).toUInt32 &&& Int32.toUInt32 31)).toInt32)
          rw [e_hgt, eT]
          exact jx (fun j hj => by have := ah j hj; omega) (by omega)
      · rw [u_le (by omega) (by omega), eT] at c6
        refine b10 _ ?_ ?_ ?_ ?_ ?_ ?_ ?_ ?_ ?_
        · rfl
        · rfl
        · rfl
        · rfl
        · rfl
        · rfl
        · rfl
        · exact a6
        · exact jx ah (by show _ ≤ uN (L.1 6); omega)
theorem c_makeRow16 (h : HQ g l t σ) {kd : Nat} (hk : kd = 5 ∨ kd = 6) (hb : 2048 ≤ 2147470000) (h1 : uN (L.1 1) = kd) (hs : 1 ≤ uN (L.1 4) → uN (L.1 4) < 2147483648 → uN (L.1 3) + uN (L.1 4) ≤ 2048 ∧ ∀ j, j < uN (L.1 4) → Gv g (σ.2.2.1 16 (uN (L.1 3) + j))) : Tm (fun k => y_X1_makeRow__a16 k 0 L σ) (Mk g t σ kd) := by
  have e1 := h.2.2.2.2.1
  have b3 : ∀ (L' : LV) (z : Nat), L'.1 100 = nI z → z < 3 → hdK (uN (σ.2.2.1 3 z)) = kd → g z → Tm (fun k => y_X1_makeRow__a16 k 3 L' σ) (Mk g t σ kd) := by
    intro L' z d100 z3 zk zg
    refine Tm_suc (fun k => by rw [y_X1_makeRow__a16]) ?_
    have eu : uN (nI z) = z := u_n (by omega)
    refine Tm_some (Mk_id h (Or.inl ⟨?_, ?_⟩))
    · rw [d100]
      exact Or.inr ⟨by omega, by rw [eu]; exact zg⟩
    · rw [d100]
      unfold kdC
      rw [if_pos (by omega), eu]
      exact zk
  refine Tm_suc (fun k => by rw [y_X1_makeRow__a16]) ?_
  refine Tm_ite (fun c => ?_) (fun c => ?_)
  · have c4 : 1 ≤ uN (L.1 4) ∧ uN (L.1 4) < 2147483648 := by
      rw [i_lt, u_int (L.1 4)] at c
      have c' : 0 < (if uN (L.1 4) < 2147483648 then (uN (L.1 4) : Int) else (uN (L.1 4) : Int) - 4294967296) := c
      have := u_lt (L.1 4)
      split at c' <;> omega
    obtain ⟨s1, s2⟩ := hs c4.1 c4.2
    have go : ∀ L' : LV, L'.1 1 = L.1 1 → L'.1 3 = L.1 3 → L'.1 4 = L.1 4 → L'.1 5 = 1 → L'.1 6 = 0 → (L'.1 100 = 0 ∨ kd = 6) → Tm (fun k => y_X1_makeRow__a16 k 5 L' σ) (Mk g t σ kd) := by
      intro L' d1 d3 d4 d5 d6 d7
      refine Tm_suc (fun k => by rw [y_X1_makeRow__a16]) ?_
      refine mr16_6 (s := uN (L.1 3)) (n := uN (L.1 4)) h hk c4.1 (by omega) s1 s2 (uN (L.1 4)) 0 _ (by omega) ⟨?_, ?_, ?_, ?_, by omega, ⟨?_, ?_⟩, ?_, fun j hj => absurd hj (by omega), ?_⟩ (by omega)
      · show uN (L'.1 1) = kd; rw [d1, h1]
      · show uN (L'.1 3) = _; rw [d3]
      · show uN (L'.1 4) = _; rw [d4]
      · show uN (L'.1 3) = _; rw [d3]; omega
      · show 0 + 1 ≤ uN (L'.1 5); rw [d5]; decide
      · show uN (L'.1 5) ≤ 3000; rw [d5]; decide
      · show uN (L'.1 6) ≤ 30; rw [d6]; decide
      · exact d7.imp id (fun z => ⟨z, fun j hj => absurd hj (by omega)⟩)
    refine Tm_suc (fun k => by rw [y_X1_makeRow__a16]) ?_
    refine Tm_ite (fun c6 => ?_) (fun c6 => ?_)
    · rw [u_eq, h1] at c6
      exact go _ rfl rfl rfl rfl rfl (Or.inr c6)
    · refine Tm_suc (fun k => by rw [y_X1_makeRow__a16]) ?_
      exact go _ rfl rfl rfl rfl rfl (Or.inl rfl)
  · refine Tm_ite (fun c6 => ?_) (fun c6 => ?_)
    · rw [u_eq, h1] at c6
      have c6' : kd = 6 := c6
      refine b3 _ 2 rfl (by decide) ?_ h.2.2.2.1.2.2
      rw [e1.2.2, c6']; decide
    · rw [u_eq, h1] at c6
      have c6' : ¬ kd = 6 := c6
      refine Tm_suc (fun k => by rw [y_X1_makeRow__a16]) ?_
      refine b3 _ 1 rfl (by decide) ?_ h.2.2.2.1.2.1
      rw [e1.2.1, show kd = 5 from by omega]; decide
/-- midway in a row: i values seen -/
def RI17 (g : Nat → Prop) (σ : CS) (kd s n i : Nat) (L : LV) : Prop := uN (L.1 1) = kd ∧ uN (L.1 3) = s ∧ uN (L.1 4) = n ∧ uN (L.1 8) = s + i ∧ i ≤ n ∧ (i + 1 ≤ uN (L.1 5) ∧ uN (L.1 5) ≤ 3000) ∧ uN (L.1 6) ≤ 30 ∧ (∀ j, j < i → hgt (σ.2.2.1 3) (σ.2.2.1 17 (s + j)) ≤ uN (L.1 6)) ∧ (L.1 7 = 0 ∨ (kd = 6 ∧ ∀ j, j < i → uN (σ.2.2.1 17 (s + j)) < 2147483648 ∧ uN (σ.2.2.1 3 (uN (σ.2.2.1 17 (s + j)))) % 65536 = 37))
theorem mr17_7 (h : HQ g l t σ) {kd s n i : Nat} (hk : kd = 5 ∨ kd = 6) (n1 : 1 ≤ n) (hb : 8 ≤ 2147483648) (hs : s + n ≤ 8) (hv : ∀ j, j < n → Gv g (σ.2.2.1 17 (s + j))) (hI : RI17 g σ kd s n i L) (he : i = n ∨ 1000 < uN (L.1 5)) : Tm (fun k => y_X1_makeRow__a17 k 7 L σ) (Mk g t σ kd) := by
  obtain ⟨a1, a3, a4, a8, ai, ⟨a5, b5⟩, a6, ah, am⟩ := hI
  have e11 : ∀ L' : LV, Tm (fun k => y_X1_makeRow__a17 k 11 L' σ) (Mk g t σ kd) := by
    intro L'
    refine Tm_suc (fun k => by rw [y_X1_makeRow__a17]) ?_
    exact Tm_some (Mk_id h (Or.inr (by show 4026531840 ≤ uN (-268435451) ∧ ¬ uN (-268435451) % 16 = 0; decide)))
  refine Tm_suc (fun k => by rw [y_X1_makeRow__a17]) ?_
  refine Tm_ite (fun _ => e11 _) (fun c5 => ?_)
  rw [u_ltn (by decide) (by omega)] at c5
  have c5' : uN (L.1 5) ≤ 1000 := Nat.le_of_not_lt c5
  refine Tm_ite (fun c6 => ?_) (fun _ => e11 _)
  rw [u_ltn (by omega) (by decide)] at c6
  have c6' : uN (L.1 6) < 30 := c6
  have en : i = n := by omega
  subst en
  have hn := HQ_n h
  have h21 := h.2.1
  refine Tm_suc (fun k => by rw [y_X1_makeRow__a17]) ?_
  rw [h.1, show Int32.ofNat (sN σ 3) - nI t = nI (sN σ 3 - t) from n_sub (by omega) h21.2]
  have eu : uN (nI (sN σ 3 - t)) = sN σ 3 - t := u_n (by omega)
  have e1 : uN (1 + L.1 4) = 1 + i := by
    rw [u_add (x := 1) (by show 1 + uN (L.1 4) < _; omega), a4]; rfl
  refine Tm_ite (fun c => ?_) (fun _ => Tm_some (Mk_id h (Or.inr (by show 4026531840 ≤ uN (-268435450) ∧ ¬ uN (-268435450) % 16 = 0; decide))))
  rw [u_le (by omega) (by omega), e1, eu] at c
  have et : uN (nI t) = t := u_n (by omega)
  have e8 : nI t + 1 + L.1 4 = nI (t + 1 + i) := by
    rw [u_eq, u_add (by rw [u_inc (by omega)]; omega), u_inc (by omega), et, a4, u_n (by omega)]
  have b21 : ∀ (L' : LV) (f : Nat), f < 2 → uN (L'.1 100) = f * 8 → uN (L'.1 101) = kd → L'.1 102 = nI t → L'.1 3 = L.1 3 → L'.1 4 = L.1 4 → L'.1 5 = L.1 5 → L'.1 6 = L.1 6 → L'.1 8 = nI t → (f = 1 → ∀ j, j < i → uN (σ.2.2.1 17 (s + j)) < 2147483648 ∧ uN (σ.2.2.1 3 (uN (σ.2.2.1 17 (s + j)))) % 65536 = 37) → Tm (fun k => y_X1_makeRow__a17 k 21 L' (hpC σ (t + 1 + i) (σ.2.2.1 3))) (Mk g t σ kd) := by
    intro L' f f2 d100 d101 d102 d3 d4 d5 d6 d8 hf
    refine Tm_suc (fun k => by rw [y_X1_makeRow__a17]) ?_
    rw [d102, d3, d4, d5, d6, d8]
    refine Tm_chk (u_in (by show uN (nI t) < sN σ 3; omega) (by show sN σ 3 ≤ _; omega)) ?_
    rw [u_cl (x := nI t) (by omega), et, hpC_a]
    have et1 : uN (nI t + 1) = t + 1 := by rw [u_inc (by omega), et]
    refine Tm_chk ⟨by rw [u_neg]; omega, by rw [u_neg]; omega, by rw [u_neg]; omega, by rw [u_cl (by omega), u_cl (by omega), a3, a4]; exact hs, by rw [u_cl (by omega), u_cl (by omega), et1, a4]; show t + 1 + i ≤ sN σ 3; omega⟩ ?_
    rw [u_cl (x := L.1 3) (by omega), u_cl (x := L.1 4) (by omega), u_cl (x := nI t + 1) (by omega), et1, a3, a4, hpC_f]
    refine Tm_some ?_
    have eh := hd_of (K := L'.1 101) (F := L'.1 100) (n := L.1 4) (s := L.1 5) (hh := L.1 6 + 1) d101 (by omega) d100 f2 a4 (by omega) rfl (by omega) (show uN (L.1 6 + 1) = uN (L.1 6) + 1 from u_inc (by omega)) (by omega)
    exact Mk_row (R := σ.2.2.1 17) h hk f2 (by omega) (by omega) c5' (by omega) (by omega) eh (by omega) (fun j hj => ⟨hv j hj, Nat.lt_succ_of_le (ah j hj)⟩) hf
  refine Tm_suc (fun k => by rw [y_X1_makeRow__a17]) ?_
  rw [hpC_i (t := t + 1 + i) σ (show (lI L 8 (nI t)).1 8 + 1 + (lI L 8 (nI t)).1 4 = nI (t + 1 + i) from e8)]
  refine Tm_ite (fun _ => ?_) (fun c7 => ?_)
  · refine Tm_suc (fun k => by rw [y_X1_makeRow__a17]) ?_
    refine b21 _ 0 (by decide) ?_ ?_ ?_ ?_ ?_ ?_ ?_ ?_ (fun z => absurd z (by decide))
    · rfl
    · exact a1
    · rfl
    · rfl
    · rfl
    · rfl
    · rfl
    · rfl
  · refine b21 _ 1 (by decide) ?_ ?_ ?_ ?_ ?_ ?_ ?_ ?_ (fun _ => ?_)
    · rfl
    · exact a1
    · rfl
    · rfl
    · rfl
    · rfl
    · rfl
    · rfl
    · rcases am with am | am
      · exact absurd am c7
      · exact am.2
theorem mr17_6 (h : HQ g l t σ) {kd s n : Nat} (hk : kd = 5 ∨ kd = 6) (n1 : 1 ≤ n) (hb : 8 ≤ 2147483648) (hs : s + n ≤ 8) (hv : ∀ j, j < n → Gv g (σ.2.2.1 17 (s + j))) : ∀ (m i : Nat) (L : LV), i + m = n → RI17 g σ kd s n i L → s + n < 2147480000 → Tm (fun k => y_X1_makeRow__a17 k 6 L σ) (Mk g t σ kd) := by
  intro m
  induction m with
  | zero =>
    intro i L hm hI hsn
    have en : i = n := by omega
    have go := mr17_7 h hk n1 hb hs hv hI (Or.inl en)
    obtain ⟨a1, a3, a4, a8, ai, ⟨a5, b5⟩, a6, ah, am⟩ := hI
    refine Tm_suc (fun k => by rw [y_X1_makeRow__a17]) ?_
    refine Tm_yes ?_ go
    have e : uN (L.1 3 + L.1 4) = s + n := by rw [u_add (by omega), a3, a4]
    rw [u_le (by omega) (by omega), e, a8]
    omega
  | succ m ih =>
    intro i L hm hI hsn
    have go : 1000 < uN (L.1 5) → Tm (fun k => y_X1_makeRow__a17 k 7 L σ) (Mk g t σ kd) := fun z => mr17_7 h hk n1 hb hs hv hI (Or.inr z)
    obtain ⟨a1, a3, a4, a8, ai, ⟨a5, b5⟩, a6, ah, am⟩ := hI
    have nx : ∀ L' : LV, L'.1 1 = L.1 1 → L'.1 3 = L.1 3 → L'.1 4 = L.1 4 → L'.1 8 = L.1 8 → i + 2 ≤ uN (L'.1 5) → uN (L'.1 5) ≤ 3000 → uN (L'.1 6) ≤ 30 → (∀ j, j < i + 1 → hgt (σ.2.2.1 3) (σ.2.2.1 17 (s + j)) ≤ uN (L'.1 6)) → (L'.1 7 = 0 ∨ (kd = 6 ∧ ∀ j, j < i + 1 → uN (σ.2.2.1 17 (s + j)) < 2147483648 ∧ uN (σ.2.2.1 3 (uN (σ.2.2.1 17 (s + j)))) % 65536 = 37)) → Tm (fun k => y_X1_makeRow__a17 k 19 L' σ) (Mk g t σ kd) := by
      intro L' d1 d3 d4 d8 d5 e5 d6 dh dm
      refine Tm_suc (fun k => by rw [y_X1_makeRow__a17]) ?_
      refine ih (i + 1) _ (by omega) ⟨?_, ?_, ?_, ?_, by omega, ⟨d5, e5⟩, d6, dh, dm⟩ hsn
      · show uN (L'.1 1) = kd; rw [d1, a1]
      · show uN (L'.1 3) = s; rw [d3, a3]
      · show uN (L'.1 4) = n; rw [d4, a4]
      · show uN (L'.1 8 + 1) = s + (i + 1)
        rw [d8, u_inc (by omega), a8]; omega
    have jx : ∀ {P : Nat → Prop}, (∀ j, j < i → P j) → P i → ∀ j, j < i + 1 → P j := by
      intro P p1 p2 j hj
      rcases Nat.lt_or_ge j i with z | z
      · exact p1 j z
      · rw [show j = i from by omega]; exact p2
    refine Tm_suc (fun k => by rw [y_X1_makeRow__a17]) ?_
    have e : uN (L.1 3 + L.1 4) = s + n := by rw [u_add (by omega), a3, a4]
    refine Tm_ite (fun c => absurd c ?_) (fun _ => ?_)
    · rw [u_le (by omega) (by omega), e, a8]; omega
    refine Tm_ite (fun c => go ?_) (fun c => ?_)
    · rw [u_ltn (by decide) (by omega)] at c; exact c
    rw [u_ltn (by decide) (by omega)] at c
    have c5 : uN (L.1 5) ≤ 1000 := Nat.le_of_not_lt c
    refine Tm_chk (u_in (by omega) hb) ?_
    rw [u_cl (x := L.1 8) (by omega), a8]
    have gi := hv i (by omega)
    refine Tm_ite (fun c0 => ?_) (fun c0 => ?_)
    · rw [u_neg] at c0
      have h0 : hgt (σ.2.2.1 3) (σ.2.2.1 17 (s + i)) = 0 := by unfold hgt; rw [if_neg (by omega)]
      have b18 : ∀ (L' : LV) (z : Int32), L'.1 1 = L.1 1 → L'.1 3 = L.1 3 → L'.1 4 = L.1 4 → L'.1 8 = L.1 8 → L'.1 6 = L.1 6 → L'.1 101 = L.1 5 → L'.1 100 = z → 1 ≤ uN z → uN z ≤ 2 → Tm (fun k => y_X1_makeRow__a17 k 18 L' σ) (Mk g t σ kd) := by
        intro L' z d1 d3 d4 d8 d6 d101 d100 z1 z2
        have es : uN (L'.1 101 + L'.1 100) = uN (L.1 5) + uN z := by rw [d101, d100, u_add (by omega)]
        refine Tm_suc (fun k => by rw [y_X1_makeRow__a17]) ?_
        refine nx _ ?_ ?_ ?_ ?_ ?_ ?_ ?_ ?_ ?_
        · exact d1
        · exact d3
        · exact d4
        · exact d8
        · show i + 2 ≤ uN (L'.1 101 + L'.1 100); rw [es]; omega
        · show uN (L'.1 101 + L'.1 100) ≤ 3000; rw [es]; omega
        · show uN (L'.1 6) ≤ 30; rw [d6]; exact a6
        · show ∀ j, j < i + 1 → hgt (σ.2.2.1 3) (σ.2.2.1 17 (s + j)) ≤ uN (L'.1 6)
          rw [d6]
          exact jx ah (by omega)
        · exact Or.inl rfl
      have b13 : ∀ L' : LV, L'.1 1 = L.1 1 → L'.1 3 = L.1 3 → L'.1 4 = L.1 4 → L'.1 8 = L.1 8 → L'.1 6 = L.1 6 → L'.1 100 = L.1 5 → Tm (fun k => y_X1_makeRow__a17 k 13 L' σ) (Mk g t σ kd) := by
        intro L' d1 d3 d4 d8 d6 d100
        refine Tm_suc (fun k => by rw [y_X1_makeRow__a17]) ?_
        refine b18 _ 2 ?_ ?_ ?_ ?_ ?_ ?_ ?_ (by decide) (by decide)
        · exact d1
        · exact d3
        · exact d4
        · exact d8
        · exact d6
        · exact d100
        · rfl
      have b14 : ∀ L' : LV, L'.1 1 = L.1 1 → L'.1 3 = L.1 3 → L'.1 4 = L.1 4 → L'.1 8 = L.1 8 → L'.1 6 = L.1 6 → L'.1 100 = L.1 5 → Tm (fun k => y_X1_makeRow__a17 k 14 L' σ) (Mk g t σ kd) := by
        intro L' d1 d3 d4 d8 d6 d100
        refine Tm_suc (fun k => by rw [y_X1_makeRow__a17]) ?_
        refine b18 _ 1 ?_ ?_ ?_ ?_ ?_ ?_ ?_ (by decide) (by decide)
        · exact d1
        · exact d3
        · exact d4
        · exact d8
        · exact d6
        · exact d100
        · rfl
      refine Tm_suc (fun k => by rw [y_X1_makeRow__a17]) ?_
      refine Tm_ite (fun _ => b13 _ rfl rfl rfl rfl rfl rfl) (fun _ => Tm_ite (fun _ => Tm_ite (fun _ => b14 _ rfl rfl rfl rfl rfl rfl) (fun _ => b13 _ rfl rfl rfl rfl rfl rfl)) (fun _ => b14 _ rfl rfl rfl rfl rfl rfl))
    · rw [u_neg] at c0
      have cc : uN (σ.2.2.1 17 (s + i)) < 2147483648 := by omega
      refine Tm_chk (in_g h gi cc) ?_
      rw [u_cl cc, e_siz, e_hgt]
      have cg := (HQ_c h (Gv_c gi cc).2).2.2.2.2
      have s1 := cg.2.2.2.1
      have s2 : hdS (uN (σ.2.2.1 3 (uN (σ.2.2.1 17 (s + i))))) < 1024 := Nat.mod_lt _ (by decide)
      have hh : hgt (σ.2.2.1 3) (σ.2.2.1 17 (s + i)) = hdT (uN (σ.2.2.1 3 (uN (σ.2.2.1 17 (s + i))))) := by unfold hgt; rw [if_pos cc]
      have eT : uN (nI (hdT (uN (σ.2.2.1 3 (uN (σ.2.2.1 17 (s + i))))))) = hdT (uN (σ.2.2.1 3 (uN (σ.2.2.1 17 (s + i))))) := u_n (by omega)
      have eS : uN (L.1 5 + nI (hdS (uN (σ.2.2.1 3 (uN (σ.2.2.1 17 (s + i))))))) = uN (L.1 5) + hdS (uN (σ.2.2.1 3 (uN (σ.2.2.1 17 (s + i))))) := by
        rw [u_add (by rw [u_n (by omega)]; omega), u_n (by omega)]
      have b10 : ∀ L' : LV, L'.1 1 = L.1 1 → L'.1 3 = L.1 3 → L'.1 4 = L.1 4 → L'.1 8 = L.1 8 → L'.1 7 = L.1 7 → L'.1 5 = L.1 5 + nI (hdS (uN (σ.2.2.1 3 (uN (σ.2.2.1 17 (s + i)))))) → L'.1 10 = σ.2.2.1 3 (uN (σ.2.2.1 17 (s + i))) → uN (L'.1 100) ≤ 30 → (∀ j, j < i + 1 → hgt (σ.2.2.1 3) (σ.2.2.1 17 (s + j)) ≤ uN (L'.1 100)) → Tm (fun k => y_X1_makeRow__a17 k 10 L' σ) (Mk g t σ kd) := by
        intro L' d1 d3 d4 d8 d7 d5 d10 d100 dh
        have b16 : ∀ L2 : LV, L2.1 1 = L.1 1 → L2.1 3 = L.1 3 → L2.1 4 = L.1 4 → L2.1 8 = L.1 8 → L2.1 5 = L'.1 5 → L2.1 6 = L'.1 100 → (L2.1 100 = 0 ∨ (kd = 6 ∧ ∀ j, j < i + 1 → uN (σ.2.2.1 17 (s + j)) < 2147483648 ∧ uN (σ.2.2.1 3 (uN (σ.2.2.1 17 (s + j)))) % 65536 = 37)) → Tm (fun k => y_X1_makeRow__a17 k 16 L2 σ) (Mk g t σ kd) := by
          intro L2 z1 z3 z4 z8 z5 z6 zm
          refine Tm_suc (fun k => by rw [y_X1_makeRow__a17]) ?_
          refine nx _ ?_ ?_ ?_ ?_ ?_ ?_ ?_ ?_ ?_
          · exact z1
          · exact z3
          · exact z4
          · exact z8
          · show i + 2 ≤ uN (L2.1 5); rw [z5, d5, eS]; omega
          · show uN (L2.1 5) ≤ 3000; rw [z5, d5, eS]; omega
          · show uN (L2.1 6) ≤ 30; rw [z6]; exact d100
          · show ∀ j, j < i + 1 → hgt (σ.2.2.1 3) (σ.2.2.1 17 (s + j)) ≤ uN (L2.1 6)
            rw [z6]; exact dh
          · exact zm
        have b15 : ∀ L2 : LV, L2.1 1 = L.1 1 → L2.1 3 = L.1 3 → L2.1 4 = L.1 4 → L2.1 8 = L.1 8 → L2.1 5 = L'.1 5 → L2.1 6 = L'.1 100 → Tm (fun k => y_X1_makeRow__a17 k 15 L2 σ) (Mk g t σ kd) := by
          intro L2 z1 z3 z4 z8 z5 z6
          refine Tm_suc (fun k => by rw [y_X1_makeRow__a17]) ?_
          refine b16 _ ?_ ?_ ?_ ?_ ?_ ?_ ?_
          · exact z1
          · exact z3
          · exact z4
          · exact z8
          · exact z5
          · exact z6
          · exact Or.inl rfl
        refine Tm_suc (fun k => by rw [y_X1_makeRow__a17]) ?_
        refine Tm_ite (fun _ => ?_) (fun c7 => Tm_ite (fun cp => ?_) (fun _ => ?_))
        · refine b15 _ ?_ ?_ ?_ ?_ ?_ ?_
          · exact d1
          · exact d3
          · exact d4
          · exact d8
          · rfl
          · rfl
        · rw [d10, e_low, u_eq, u_n (by omega)] at cp
          rw [d7] at c7
          refine b16 _ ?_ ?_ ?_ ?_ ?_ ?_ ?_
          · exact d1
          · exact d3
          · exact d4
          · exact d8
          · rfl
          · rfl
          · rcases am with am | am
            · exact absurd am c7
            · exact Or.inr ⟨am.1, jx am.2 ⟨cc, cp⟩⟩
        · refine b15 _ ?_ ?_ ?_ ?_ ?_ ?_
          · exact d1
          · exact d3
          · exact d4
          · exact d8
          · rfl
          · rfl
      refine Tm_ite (fun c6 => ?_) (fun c6 => ?_)
      · rw [u_le (by omega) (by omega), eT] at c6
        refine Tm_suc (fun k => by rw [y_X1_makeRow__a17]) ?_
        refine b10 _ ?_ ?_ ?_ ?_ ?_ ?_ ?_ ?_ ?_
        · rfl
        · rfl
        · rfl
        · rfl
        · rfl
        · rfl
        · rfl
        · show uN (((σ.2.2.1 3 (uN (σ.2.2.1 17 (s + i)))).toUInt32 >>> ((26 : Int32).toUInt32 &&& Int32.toUInt32 31)).toInt32) ≤ 30
          rw [e_hgt, eT]; exact s1.1
        · show ∀ j, j < i + 1 → hgt (σ.2.2.1 3) (σ.2.2.1 17 (s + j)) ≤ uN (((σ.2.2.1 3 (uN (σ.2.2.1 17 (s + i)))).toUInt32 >>> ((26 : Int32).toUInt32 &&& Int32.toUInt32 31)).toInt32)
          rw [e_hgt, eT]
          exact jx (fun j hj => by have := ah j hj; omega) (by omega)
      · rw [u_le (by omega) (by omega), eT] at c6
        refine b10 _ ?_ ?_ ?_ ?_ ?_ ?_ ?_ ?_ ?_
        · rfl
        · rfl
        · rfl
        · rfl
        · rfl
        · rfl
        · rfl
        · exact a6
        · exact jx ah (by show _ ≤ uN (L.1 6); omega)
theorem c_makeRow17 (h : HQ g l t σ) {kd : Nat} (hk : kd = 5 ∨ kd = 6) (hb : 8 ≤ 2147470000) (h1 : uN (L.1 1) = kd) (hs : 1 ≤ uN (L.1 4) → uN (L.1 4) < 2147483648 → uN (L.1 3) + uN (L.1 4) ≤ 8 ∧ ∀ j, j < uN (L.1 4) → Gv g (σ.2.2.1 17 (uN (L.1 3) + j))) : Tm (fun k => y_X1_makeRow__a17 k 0 L σ) (Mk g t σ kd) := by
  have e1 := h.2.2.2.2.1
  have b3 : ∀ (L' : LV) (z : Nat), L'.1 100 = nI z → z < 3 → hdK (uN (σ.2.2.1 3 z)) = kd → g z → Tm (fun k => y_X1_makeRow__a17 k 3 L' σ) (Mk g t σ kd) := by
    intro L' z d100 z3 zk zg
    refine Tm_suc (fun k => by rw [y_X1_makeRow__a17]) ?_
    have eu : uN (nI z) = z := u_n (by omega)
    refine Tm_some (Mk_id h (Or.inl ⟨?_, ?_⟩))
    · rw [d100]
      exact Or.inr ⟨by omega, by rw [eu]; exact zg⟩
    · rw [d100]
      unfold kdC
      rw [if_pos (by omega), eu]
      exact zk
  refine Tm_suc (fun k => by rw [y_X1_makeRow__a17]) ?_
  refine Tm_ite (fun c => ?_) (fun c => ?_)
  · have c4 : 1 ≤ uN (L.1 4) ∧ uN (L.1 4) < 2147483648 := by
      rw [i_lt, u_int (L.1 4)] at c
      have c' : 0 < (if uN (L.1 4) < 2147483648 then (uN (L.1 4) : Int) else (uN (L.1 4) : Int) - 4294967296) := c
      have := u_lt (L.1 4)
      split at c' <;> omega
    obtain ⟨s1, s2⟩ := hs c4.1 c4.2
    have go : ∀ L' : LV, L'.1 1 = L.1 1 → L'.1 3 = L.1 3 → L'.1 4 = L.1 4 → L'.1 5 = 1 → L'.1 6 = 0 → (L'.1 100 = 0 ∨ kd = 6) → Tm (fun k => y_X1_makeRow__a17 k 5 L' σ) (Mk g t σ kd) := by
      intro L' d1 d3 d4 d5 d6 d7
      refine Tm_suc (fun k => by rw [y_X1_makeRow__a17]) ?_
      refine mr17_6 (s := uN (L.1 3)) (n := uN (L.1 4)) h hk c4.1 (by omega) s1 s2 (uN (L.1 4)) 0 _ (by omega) ⟨?_, ?_, ?_, ?_, by omega, ⟨?_, ?_⟩, ?_, fun j hj => absurd hj (by omega), ?_⟩ (by omega)
      · show uN (L'.1 1) = kd; rw [d1, h1]
      · show uN (L'.1 3) = _; rw [d3]
      · show uN (L'.1 4) = _; rw [d4]
      · show uN (L'.1 3) = _; rw [d3]; omega
      · show 0 + 1 ≤ uN (L'.1 5); rw [d5]; decide
      · show uN (L'.1 5) ≤ 3000; rw [d5]; decide
      · show uN (L'.1 6) ≤ 30; rw [d6]; decide
      · exact d7.imp id (fun z => ⟨z, fun j hj => absurd hj (by omega)⟩)
    refine Tm_suc (fun k => by rw [y_X1_makeRow__a17]) ?_
    refine Tm_ite (fun c6 => ?_) (fun c6 => ?_)
    · rw [u_eq, h1] at c6
      exact go _ rfl rfl rfl rfl rfl (Or.inr c6)
    · refine Tm_suc (fun k => by rw [y_X1_makeRow__a17]) ?_
      exact go _ rfl rfl rfl rfl rfl (Or.inl rfl)
  · refine Tm_ite (fun c6 => ?_) (fun c6 => ?_)
    · rw [u_eq, h1] at c6
      have c6' : kd = 6 := c6
      refine b3 _ 2 rfl (by decide) ?_ h.2.2.2.1.2.2
      rw [e1.2.2, c6']; decide
    · rw [u_eq, h1] at c6
      have c6' : ¬ kd = 6 := c6
      refine Tm_suc (fun k => by rw [y_X1_makeRow__a17]) ?_
      refine b3 _ 1 rfl (by decide) ?_ h.2.2.2.1.2.1
      rw [e1.2.1, show kd = 5 from by omega]; decide
/-- midway in a row: i values seen -/
def RI20 (g : Nat → Prop) (σ : CS) (kd s n i : Nat) (L : LV) : Prop := uN (L.1 1) = kd ∧ uN (L.1 3) = s ∧ uN (L.1 4) = n ∧ uN (L.1 8) = s + i ∧ i ≤ n ∧ (i + 1 ≤ uN (L.1 5) ∧ uN (L.1 5) ≤ 3000) ∧ uN (L.1 6) ≤ 30 ∧ (∀ j, j < i → hgt (σ.2.2.1 3) (σ.2.2.1 20 (s + j)) ≤ uN (L.1 6)) ∧ (L.1 7 = 0 ∨ (kd = 6 ∧ ∀ j, j < i → uN (σ.2.2.1 20 (s + j)) < 2147483648 ∧ uN (σ.2.2.1 3 (uN (σ.2.2.1 20 (s + j)))) % 65536 = 37))
theorem mr20_7 (h : HQ g l t σ) {kd s n i : Nat} (hk : kd = 5 ∨ kd = 6) (n1 : 1 ≤ n) (hb : sN σ 20 ≤ 2147483648) (hs : s + n ≤ sN σ 20) (hv : ∀ j, j < n → Gv g (σ.2.2.1 20 (s + j))) (hI : RI20 g σ kd s n i L) (he : i = n ∨ 1000 < uN (L.1 5)) : Tm (fun k => y_X1_makeRow__z20 k 7 L σ) (Mk g t σ kd) := by
  obtain ⟨a1, a3, a4, a8, ai, ⟨a5, b5⟩, a6, ah, am⟩ := hI
  have e11 : ∀ L' : LV, Tm (fun k => y_X1_makeRow__z20 k 11 L' σ) (Mk g t σ kd) := by
    intro L'
    refine Tm_suc (fun k => by rw [y_X1_makeRow__z20]) ?_
    exact Tm_some (Mk_id h (Or.inr (by show 4026531840 ≤ uN (-268435451) ∧ ¬ uN (-268435451) % 16 = 0; decide)))
  refine Tm_suc (fun k => by rw [y_X1_makeRow__z20]) ?_
  refine Tm_ite (fun _ => e11 _) (fun c5 => ?_)
  rw [u_ltn (by decide) (by omega)] at c5
  have c5' : uN (L.1 5) ≤ 1000 := Nat.le_of_not_lt c5
  refine Tm_ite (fun c6 => ?_) (fun _ => e11 _)
  rw [u_ltn (by omega) (by decide)] at c6
  have c6' : uN (L.1 6) < 30 := c6
  have en : i = n := by omega
  subst en
  have hn := HQ_n h
  have h21 := h.2.1
  refine Tm_suc (fun k => by rw [y_X1_makeRow__z20]) ?_
  rw [h.1, show Int32.ofNat (sN σ 3) - nI t = nI (sN σ 3 - t) from n_sub (by omega) h21.2]
  have eu : uN (nI (sN σ 3 - t)) = sN σ 3 - t := u_n (by omega)
  have e1 : uN (1 + L.1 4) = 1 + i := by
    rw [u_add (x := 1) (by show 1 + uN (L.1 4) < _; omega), a4]; rfl
  refine Tm_ite (fun c => ?_) (fun _ => Tm_some (Mk_id h (Or.inr (by show 4026531840 ≤ uN (-268435450) ∧ ¬ uN (-268435450) % 16 = 0; decide))))
  rw [u_le (by omega) (by omega), e1, eu] at c
  have et : uN (nI t) = t := u_n (by omega)
  have e8 : nI t + 1 + L.1 4 = nI (t + 1 + i) := by
    rw [u_eq, u_add (by rw [u_inc (by omega)]; omega), u_inc (by omega), et, a4, u_n (by omega)]
  have b21 : ∀ (L' : LV) (f : Nat), f < 2 → uN (L'.1 100) = f * 8 → uN (L'.1 101) = kd → L'.1 102 = nI t → L'.1 3 = L.1 3 → L'.1 4 = L.1 4 → L'.1 5 = L.1 5 → L'.1 6 = L.1 6 → L'.1 8 = nI t → (f = 1 → ∀ j, j < i → uN (σ.2.2.1 20 (s + j)) < 2147483648 ∧ uN (σ.2.2.1 3 (uN (σ.2.2.1 20 (s + j)))) % 65536 = 37) → Tm (fun k => y_X1_makeRow__z20 k 21 L' (hpC σ (t + 1 + i) (σ.2.2.1 3))) (Mk g t σ kd) := by
    intro L' f f2 d100 d101 d102 d3 d4 d5 d6 d8 hf
    refine Tm_suc (fun k => by rw [y_X1_makeRow__z20]) ?_
    rw [d102, d3, d4, d5, d6, d8]
    refine Tm_chk (u_in (by show uN (nI t) < sN σ 3; omega) (by show sN σ 3 ≤ _; omega)) ?_
    rw [u_cl (x := nI t) (by omega), et, hpC_a]
    have et1 : uN (nI t + 1) = t + 1 := by rw [u_inc (by omega), et]
    refine Tm_chk ⟨by rw [u_neg]; omega, by rw [u_neg]; omega, by rw [u_neg]; omega, by rw [u_cl (by omega), u_cl (by omega), a3, a4]; exact hs, by rw [u_cl (by omega), u_cl (by omega), et1, a4]; show t + 1 + i ≤ sN σ 3; omega⟩ ?_
    rw [u_cl (x := L.1 3) (by omega), u_cl (x := L.1 4) (by omega), u_cl (x := nI t + 1) (by omega), et1, a3, a4, hpC_f]
    refine Tm_some ?_
    have eh := hd_of (K := L'.1 101) (F := L'.1 100) (n := L.1 4) (s := L.1 5) (hh := L.1 6 + 1) d101 (by omega) d100 f2 a4 (by omega) rfl (by omega) (show uN (L.1 6 + 1) = uN (L.1 6) + 1 from u_inc (by omega)) (by omega)
    exact Mk_row (R := σ.2.2.1 20) h hk f2 (by omega) (by omega) c5' (by omega) (by omega) eh (by omega) (fun j hj => ⟨hv j hj, Nat.lt_succ_of_le (ah j hj)⟩) hf
  refine Tm_suc (fun k => by rw [y_X1_makeRow__z20]) ?_
  rw [hpC_i (t := t + 1 + i) σ (show (lI L 8 (nI t)).1 8 + 1 + (lI L 8 (nI t)).1 4 = nI (t + 1 + i) from e8)]
  refine Tm_ite (fun _ => ?_) (fun c7 => ?_)
  · refine Tm_suc (fun k => by rw [y_X1_makeRow__z20]) ?_
    refine b21 _ 0 (by decide) ?_ ?_ ?_ ?_ ?_ ?_ ?_ ?_ (fun z => absurd z (by decide))
    · rfl
    · exact a1
    · rfl
    · rfl
    · rfl
    · rfl
    · rfl
    · rfl
  · refine b21 _ 1 (by decide) ?_ ?_ ?_ ?_ ?_ ?_ ?_ ?_ (fun _ => ?_)
    · rfl
    · exact a1
    · rfl
    · rfl
    · rfl
    · rfl
    · rfl
    · rfl
    · rcases am with am | am
      · exact absurd am c7
      · exact am.2
theorem mr20_6 (h : HQ g l t σ) {kd s n : Nat} (hk : kd = 5 ∨ kd = 6) (n1 : 1 ≤ n) (hb : sN σ 20 ≤ 2147483648) (hs : s + n ≤ sN σ 20) (hv : ∀ j, j < n → Gv g (σ.2.2.1 20 (s + j))) : ∀ (m i : Nat) (L : LV), i + m = n → RI20 g σ kd s n i L → s + n < 2147480000 → Tm (fun k => y_X1_makeRow__z20 k 6 L σ) (Mk g t σ kd) := by
  intro m
  induction m with
  | zero =>
    intro i L hm hI hsn
    have en : i = n := by omega
    have go := mr20_7 h hk n1 hb hs hv hI (Or.inl en)
    obtain ⟨a1, a3, a4, a8, ai, ⟨a5, b5⟩, a6, ah, am⟩ := hI
    refine Tm_suc (fun k => by rw [y_X1_makeRow__z20]) ?_
    refine Tm_yes ?_ go
    have e : uN (L.1 3 + L.1 4) = s + n := by rw [u_add (by omega), a3, a4]
    rw [u_le (by omega) (by omega), e, a8]
    omega
  | succ m ih =>
    intro i L hm hI hsn
    have go : 1000 < uN (L.1 5) → Tm (fun k => y_X1_makeRow__z20 k 7 L σ) (Mk g t σ kd) := fun z => mr20_7 h hk n1 hb hs hv hI (Or.inr z)
    obtain ⟨a1, a3, a4, a8, ai, ⟨a5, b5⟩, a6, ah, am⟩ := hI
    have nx : ∀ L' : LV, L'.1 1 = L.1 1 → L'.1 3 = L.1 3 → L'.1 4 = L.1 4 → L'.1 8 = L.1 8 → i + 2 ≤ uN (L'.1 5) → uN (L'.1 5) ≤ 3000 → uN (L'.1 6) ≤ 30 → (∀ j, j < i + 1 → hgt (σ.2.2.1 3) (σ.2.2.1 20 (s + j)) ≤ uN (L'.1 6)) → (L'.1 7 = 0 ∨ (kd = 6 ∧ ∀ j, j < i + 1 → uN (σ.2.2.1 20 (s + j)) < 2147483648 ∧ uN (σ.2.2.1 3 (uN (σ.2.2.1 20 (s + j)))) % 65536 = 37)) → Tm (fun k => y_X1_makeRow__z20 k 19 L' σ) (Mk g t σ kd) := by
      intro L' d1 d3 d4 d8 d5 e5 d6 dh dm
      refine Tm_suc (fun k => by rw [y_X1_makeRow__z20]) ?_
      refine ih (i + 1) _ (by omega) ⟨?_, ?_, ?_, ?_, by omega, ⟨d5, e5⟩, d6, dh, dm⟩ hsn
      · show uN (L'.1 1) = kd; rw [d1, a1]
      · show uN (L'.1 3) = s; rw [d3, a3]
      · show uN (L'.1 4) = n; rw [d4, a4]
      · show uN (L'.1 8 + 1) = s + (i + 1)
        rw [d8, u_inc (by omega), a8]; omega
    have jx : ∀ {P : Nat → Prop}, (∀ j, j < i → P j) → P i → ∀ j, j < i + 1 → P j := by
      intro P p1 p2 j hj
      rcases Nat.lt_or_ge j i with z | z
      · exact p1 j z
      · rw [show j = i from by omega]; exact p2
    refine Tm_suc (fun k => by rw [y_X1_makeRow__z20]) ?_
    have e : uN (L.1 3 + L.1 4) = s + n := by rw [u_add (by omega), a3, a4]
    refine Tm_ite (fun c => absurd c ?_) (fun _ => ?_)
    · rw [u_le (by omega) (by omega), e, a8]; omega
    refine Tm_ite (fun c => go ?_) (fun c => ?_)
    · rw [u_ltn (by decide) (by omega)] at c; exact c
    rw [u_ltn (by decide) (by omega)] at c
    have c5 : uN (L.1 5) ≤ 1000 := Nat.le_of_not_lt c
    refine Tm_chk (u_in (by omega) hb) ?_
    rw [u_cl (x := L.1 8) (by omega), a8]
    have gi := hv i (by omega)
    refine Tm_ite (fun c0 => ?_) (fun c0 => ?_)
    · rw [u_neg] at c0
      have h0 : hgt (σ.2.2.1 3) (σ.2.2.1 20 (s + i)) = 0 := by unfold hgt; rw [if_neg (by omega)]
      have b18 : ∀ (L' : LV) (z : Int32), L'.1 1 = L.1 1 → L'.1 3 = L.1 3 → L'.1 4 = L.1 4 → L'.1 8 = L.1 8 → L'.1 6 = L.1 6 → L'.1 101 = L.1 5 → L'.1 100 = z → 1 ≤ uN z → uN z ≤ 2 → Tm (fun k => y_X1_makeRow__z20 k 18 L' σ) (Mk g t σ kd) := by
        intro L' z d1 d3 d4 d8 d6 d101 d100 z1 z2
        have es : uN (L'.1 101 + L'.1 100) = uN (L.1 5) + uN z := by rw [d101, d100, u_add (by omega)]
        refine Tm_suc (fun k => by rw [y_X1_makeRow__z20]) ?_
        refine nx _ ?_ ?_ ?_ ?_ ?_ ?_ ?_ ?_ ?_
        · exact d1
        · exact d3
        · exact d4
        · exact d8
        · show i + 2 ≤ uN (L'.1 101 + L'.1 100); rw [es]; omega
        · show uN (L'.1 101 + L'.1 100) ≤ 3000; rw [es]; omega
        · show uN (L'.1 6) ≤ 30; rw [d6]; exact a6
        · show ∀ j, j < i + 1 → hgt (σ.2.2.1 3) (σ.2.2.1 20 (s + j)) ≤ uN (L'.1 6)
          rw [d6]
          exact jx ah (by omega)
        · exact Or.inl rfl
      have b13 : ∀ L' : LV, L'.1 1 = L.1 1 → L'.1 3 = L.1 3 → L'.1 4 = L.1 4 → L'.1 8 = L.1 8 → L'.1 6 = L.1 6 → L'.1 100 = L.1 5 → Tm (fun k => y_X1_makeRow__z20 k 13 L' σ) (Mk g t σ kd) := by
        intro L' d1 d3 d4 d8 d6 d100
        refine Tm_suc (fun k => by rw [y_X1_makeRow__z20]) ?_
        refine b18 _ 2 ?_ ?_ ?_ ?_ ?_ ?_ ?_ (by decide) (by decide)
        · exact d1
        · exact d3
        · exact d4
        · exact d8
        · exact d6
        · exact d100
        · rfl
      have b14 : ∀ L' : LV, L'.1 1 = L.1 1 → L'.1 3 = L.1 3 → L'.1 4 = L.1 4 → L'.1 8 = L.1 8 → L'.1 6 = L.1 6 → L'.1 100 = L.1 5 → Tm (fun k => y_X1_makeRow__z20 k 14 L' σ) (Mk g t σ kd) := by
        intro L' d1 d3 d4 d8 d6 d100
        refine Tm_suc (fun k => by rw [y_X1_makeRow__z20]) ?_
        refine b18 _ 1 ?_ ?_ ?_ ?_ ?_ ?_ ?_ (by decide) (by decide)
        · exact d1
        · exact d3
        · exact d4
        · exact d8
        · exact d6
        · exact d100
        · rfl
      refine Tm_suc (fun k => by rw [y_X1_makeRow__z20]) ?_
      refine Tm_ite (fun _ => b13 _ rfl rfl rfl rfl rfl rfl) (fun _ => Tm_ite (fun _ => Tm_ite (fun _ => b14 _ rfl rfl rfl rfl rfl rfl) (fun _ => b13 _ rfl rfl rfl rfl rfl rfl)) (fun _ => b14 _ rfl rfl rfl rfl rfl rfl))
    · rw [u_neg] at c0
      have cc : uN (σ.2.2.1 20 (s + i)) < 2147483648 := by omega
      refine Tm_chk (in_g h gi cc) ?_
      rw [u_cl cc, e_siz, e_hgt]
      have cg := (HQ_c h (Gv_c gi cc).2).2.2.2.2
      have s1 := cg.2.2.2.1
      have s2 : hdS (uN (σ.2.2.1 3 (uN (σ.2.2.1 20 (s + i))))) < 1024 := Nat.mod_lt _ (by decide)
      have hh : hgt (σ.2.2.1 3) (σ.2.2.1 20 (s + i)) = hdT (uN (σ.2.2.1 3 (uN (σ.2.2.1 20 (s + i))))) := by unfold hgt; rw [if_pos cc]
      have eT : uN (nI (hdT (uN (σ.2.2.1 3 (uN (σ.2.2.1 20 (s + i))))))) = hdT (uN (σ.2.2.1 3 (uN (σ.2.2.1 20 (s + i))))) := u_n (by omega)
      have eS : uN (L.1 5 + nI (hdS (uN (σ.2.2.1 3 (uN (σ.2.2.1 20 (s + i))))))) = uN (L.1 5) + hdS (uN (σ.2.2.1 3 (uN (σ.2.2.1 20 (s + i))))) := by
        rw [u_add (by rw [u_n (by omega)]; omega), u_n (by omega)]
      have b10 : ∀ L' : LV, L'.1 1 = L.1 1 → L'.1 3 = L.1 3 → L'.1 4 = L.1 4 → L'.1 8 = L.1 8 → L'.1 7 = L.1 7 → L'.1 5 = L.1 5 + nI (hdS (uN (σ.2.2.1 3 (uN (σ.2.2.1 20 (s + i)))))) → L'.1 10 = σ.2.2.1 3 (uN (σ.2.2.1 20 (s + i))) → uN (L'.1 100) ≤ 30 → (∀ j, j < i + 1 → hgt (σ.2.2.1 3) (σ.2.2.1 20 (s + j)) ≤ uN (L'.1 100)) → Tm (fun k => y_X1_makeRow__z20 k 10 L' σ) (Mk g t σ kd) := by
        intro L' d1 d3 d4 d8 d7 d5 d10 d100 dh
        have b16 : ∀ L2 : LV, L2.1 1 = L.1 1 → L2.1 3 = L.1 3 → L2.1 4 = L.1 4 → L2.1 8 = L.1 8 → L2.1 5 = L'.1 5 → L2.1 6 = L'.1 100 → (L2.1 100 = 0 ∨ (kd = 6 ∧ ∀ j, j < i + 1 → uN (σ.2.2.1 20 (s + j)) < 2147483648 ∧ uN (σ.2.2.1 3 (uN (σ.2.2.1 20 (s + j)))) % 65536 = 37)) → Tm (fun k => y_X1_makeRow__z20 k 16 L2 σ) (Mk g t σ kd) := by
          intro L2 z1 z3 z4 z8 z5 z6 zm
          refine Tm_suc (fun k => by rw [y_X1_makeRow__z20]) ?_
          refine nx _ ?_ ?_ ?_ ?_ ?_ ?_ ?_ ?_ ?_
          · exact z1
          · exact z3
          · exact z4
          · exact z8
          · show i + 2 ≤ uN (L2.1 5); rw [z5, d5, eS]; omega
          · show uN (L2.1 5) ≤ 3000; rw [z5, d5, eS]; omega
          · show uN (L2.1 6) ≤ 30; rw [z6]; exact d100
          · show ∀ j, j < i + 1 → hgt (σ.2.2.1 3) (σ.2.2.1 20 (s + j)) ≤ uN (L2.1 6)
            rw [z6]; exact dh
          · exact zm
        have b15 : ∀ L2 : LV, L2.1 1 = L.1 1 → L2.1 3 = L.1 3 → L2.1 4 = L.1 4 → L2.1 8 = L.1 8 → L2.1 5 = L'.1 5 → L2.1 6 = L'.1 100 → Tm (fun k => y_X1_makeRow__z20 k 15 L2 σ) (Mk g t σ kd) := by
          intro L2 z1 z3 z4 z8 z5 z6
          refine Tm_suc (fun k => by rw [y_X1_makeRow__z20]) ?_
          refine b16 _ ?_ ?_ ?_ ?_ ?_ ?_ ?_
          · exact z1
          · exact z3
          · exact z4
          · exact z8
          · exact z5
          · exact z6
          · exact Or.inl rfl
        refine Tm_suc (fun k => by rw [y_X1_makeRow__z20]) ?_
        refine Tm_ite (fun _ => ?_) (fun c7 => Tm_ite (fun cp => ?_) (fun _ => ?_))
        · refine b15 _ ?_ ?_ ?_ ?_ ?_ ?_
          · exact d1
          · exact d3
          · exact d4
          · exact d8
          · rfl
          · rfl
        · rw [d10, e_low, u_eq, u_n (by omega)] at cp
          rw [d7] at c7
          refine b16 _ ?_ ?_ ?_ ?_ ?_ ?_ ?_
          · exact d1
          · exact d3
          · exact d4
          · exact d8
          · rfl
          · rfl
          · rcases am with am | am
            · exact absurd am c7
            · exact Or.inr ⟨am.1, jx am.2 ⟨cc, cp⟩⟩
        · refine b15 _ ?_ ?_ ?_ ?_ ?_ ?_
          · exact d1
          · exact d3
          · exact d4
          · exact d8
          · rfl
          · rfl
      refine Tm_ite (fun c6 => ?_) (fun c6 => ?_)
      · rw [u_le (by omega) (by omega), eT] at c6
        refine Tm_suc (fun k => by rw [y_X1_makeRow__z20]) ?_
        refine b10 _ ?_ ?_ ?_ ?_ ?_ ?_ ?_ ?_ ?_
        · rfl
        · rfl
        · rfl
        · rfl
        · rfl
        · rfl
        · rfl
        · show uN (((σ.2.2.1 3 (uN (σ.2.2.1 20 (s + i)))).toUInt32 >>> ((26 : Int32).toUInt32 &&& Int32.toUInt32 31)).toInt32) ≤ 30
          rw [e_hgt, eT]; exact s1.1
        · show ∀ j, j < i + 1 → hgt (σ.2.2.1 3) (σ.2.2.1 20 (s + j)) ≤ uN (((σ.2.2.1 3 (uN (σ.2.2.1 20 (s + i)))).toUInt32 >>> ((26 : Int32).toUInt32 &&& Int32.toUInt32 31)).toInt32)
          rw [e_hgt, eT]
          exact jx (fun j hj => by have := ah j hj; omega) (by omega)
      · rw [u_le (by omega) (by omega), eT] at c6
        refine b10 _ ?_ ?_ ?_ ?_ ?_ ?_ ?_ ?_ ?_
        · rfl
        · rfl
        · rfl
        · rfl
        · rfl
        · rfl
        · rfl
        · exact a6
        · exact jx ah (by show _ ≤ uN (L.1 6); omega)
theorem c_makeRow20 (h : HQ g l t σ) {kd : Nat} (hk : kd = 5 ∨ kd = 6) (hb : sN σ 20 ≤ 2147470000) (h1 : uN (L.1 1) = kd) (hs : 1 ≤ uN (L.1 4) → uN (L.1 4) < 2147483648 → uN (L.1 3) + uN (L.1 4) ≤ sN σ 20 ∧ ∀ j, j < uN (L.1 4) → Gv g (σ.2.2.1 20 (uN (L.1 3) + j))) : Tm (fun k => y_X1_makeRow__z20 k 0 L σ) (Mk g t σ kd) := by
  have e1 := h.2.2.2.2.1
  have b3 : ∀ (L' : LV) (z : Nat), L'.1 100 = nI z → z < 3 → hdK (uN (σ.2.2.1 3 z)) = kd → g z → Tm (fun k => y_X1_makeRow__z20 k 3 L' σ) (Mk g t σ kd) := by
    intro L' z d100 z3 zk zg
    refine Tm_suc (fun k => by rw [y_X1_makeRow__z20]) ?_
    have eu : uN (nI z) = z := u_n (by omega)
    refine Tm_some (Mk_id h (Or.inl ⟨?_, ?_⟩))
    · rw [d100]
      exact Or.inr ⟨by omega, by rw [eu]; exact zg⟩
    · rw [d100]
      unfold kdC
      rw [if_pos (by omega), eu]
      exact zk
  refine Tm_suc (fun k => by rw [y_X1_makeRow__z20]) ?_
  refine Tm_ite (fun c => ?_) (fun c => ?_)
  · have c4 : 1 ≤ uN (L.1 4) ∧ uN (L.1 4) < 2147483648 := by
      rw [i_lt, u_int (L.1 4)] at c
      have c' : 0 < (if uN (L.1 4) < 2147483648 then (uN (L.1 4) : Int) else (uN (L.1 4) : Int) - 4294967296) := c
      have := u_lt (L.1 4)
      split at c' <;> omega
    obtain ⟨s1, s2⟩ := hs c4.1 c4.2
    have go : ∀ L' : LV, L'.1 1 = L.1 1 → L'.1 3 = L.1 3 → L'.1 4 = L.1 4 → L'.1 5 = 1 → L'.1 6 = 0 → (L'.1 100 = 0 ∨ kd = 6) → Tm (fun k => y_X1_makeRow__z20 k 5 L' σ) (Mk g t σ kd) := by
      intro L' d1 d3 d4 d5 d6 d7
      refine Tm_suc (fun k => by rw [y_X1_makeRow__z20]) ?_
      refine mr20_6 (s := uN (L.1 3)) (n := uN (L.1 4)) h hk c4.1 (by omega) s1 s2 (uN (L.1 4)) 0 _ (by omega) ⟨?_, ?_, ?_, ?_, by omega, ⟨?_, ?_⟩, ?_, fun j hj => absurd hj (by omega), ?_⟩ (by omega)
      · show uN (L'.1 1) = kd; rw [d1, h1]
      · show uN (L'.1 3) = _; rw [d3]
      · show uN (L'.1 4) = _; rw [d4]
      · show uN (L'.1 3) = _; rw [d3]; omega
      · show 0 + 1 ≤ uN (L'.1 5); rw [d5]; decide
      · show uN (L'.1 5) ≤ 3000; rw [d5]; decide
      · show uN (L'.1 6) ≤ 30; rw [d6]; decide
      · exact d7.imp id (fun z => ⟨z, fun j hj => absurd hj (by omega)⟩)
    refine Tm_suc (fun k => by rw [y_X1_makeRow__z20]) ?_
    refine Tm_ite (fun c6 => ?_) (fun c6 => ?_)
    · rw [u_eq, h1] at c6
      exact go _ rfl rfl rfl rfl rfl (Or.inr c6)
    · refine Tm_suc (fun k => by rw [y_X1_makeRow__z20]) ?_
      exact go _ rfl rfl rfl rfl rfl (Or.inl rfl)
  · refine Tm_ite (fun c6 => ?_) (fun c6 => ?_)
    · rw [u_eq, h1] at c6
      have c6' : kd = 6 := c6
      refine b3 _ 2 rfl (by decide) ?_ h.2.2.2.1.2.2
      rw [e1.2.2, c6']; decide
    · rw [u_eq, h1] at c6
      have c6' : ¬ kd = 6 := c6
      refine Tm_suc (fun k => by rw [y_X1_makeRow__z20]) ?_
      refine b3 _ 1 rfl (by decide) ?_ h.2.2.2.1.2.1
      rw [e1.2.1, show kd = 5 from by omega]; decide
end CRI
end JnS345
section JnS346
/-! The class: tuples, wholes. -/
section CRJ
variable {g g' : Nat → Prop} {l : List Nat} {t t' : Nat} {σ σ' : CS} {L : LV} {x y i : Int32} {M M' : Nat → Int32}
theorem mt16_1 (h : HQ g l t σ) (hb : 2048 ≤ 2147470000) {s n : Nat} (hs : s + n ≤ 2048) (hv : ∀ j, j < n → Gv g (σ.2.2.1 16 (s + j))) : ∀ (m : Nat) (L : LV), m ≤ n → uN (L.1 5) = m → L.1 4 = L.1 5 → uN (L.1 2) = s → Tm (fun k => y_X1_makeTuple__a16 k 1 L σ) (Mk g t σ 5) := by
  have b2 : ∀ (m : Nat) (L : LV), m ≤ n → uN (L.1 5) = m → L.1 4 = L.1 5 → uN (L.1 2) = s → Tm (fun k => y_X1_makeTuple__a16 k 2 L σ) (Mk g t σ 5) := by
    intro m L hm d5 d4 d2
    refine Tm_suc (fun k => by rw [y_X1_makeTuple__a16]) ?_
    have e4 : uN (L.1 4) = m := by rw [d4, d5]
    refine Tm_oc (c_makeRow16 h (Or.inl rfl) (by omega) ?_ ?_) (fun r hr => Tm_some hr)
    · rfl
    · intro _ _
      show uN (L.1 2) + uN (L.1 4) ≤ 2048 ∧ ∀ j, j < uN (L.1 4) → Gv g (σ.2.2.1 16 (uN (L.1 2) + j))
      rw [d2, e4]
      exact ⟨by omega, fun j hj => hv j (by omega)⟩
  intro m
  induction m with
  | zero =>
    intro L hm d5 d4 d2
    refine Tm_suc (fun k => by rw [y_X1_makeTuple__a16]) ?_
    refine Tm_yes ?_ (b2 0 L hm d5 d4 d2)
    rw [u_le (by omega) (by decide), d5]
    exact Nat.zero_le _
  | succ m ih =>
    intro L hm d5 d4 d2
    refine Tm_suc (fun k => by rw [y_X1_makeTuple__a16]) ?_
    have e1 : uN (L.1 2 + L.1 5) = s + (m + 1) := by rw [u_add (by omega), d2, d5]
    have e2 : uN (L.1 2 + L.1 5 - 1) = s + m := by
      rw [u_sub (by rw [e1]; show 1 ≤ _; omega), e1]; show s + (m + 1) - 1 = s + m; omega
    refine Tm_ite (fun _ => b2 (m + 1) L hm d5 d4 d2) (fun _ => ?_)
    refine Tm_chk (u_in (by omega) (by omega)) ?_
    refine Tm_ite (fun _ => ?_) (fun _ => b2 (m + 1) L hm d5 d4 d2)
    refine ih _ (by omega) ?_ ?_ ?_
    · show uN (L.1 5 + (-1)) = m
      rw [u_dec (by omega)]; omega
    · show L.1 5 - 1 = L.1 5 + (-1)
      rw [u_eq, u_dec (by omega), u_sub (by rw [d5]; show 1 ≤ _; omega)]; rfl
    · exact d2
theorem c_makeTuple16 (h : HQ g l t σ) (hb : 2048 ≤ 2147470000) (hs : 1 ≤ uN (L.1 3) → uN (L.1 3) < 2147483648 → uN (L.1 2) + uN (L.1 3) ≤ 2048 ∧ ∀ j, j < uN (L.1 3) → Gv g (σ.2.2.1 16 (uN (L.1 2) + j))) : Tm (fun k => y_X1_makeTuple__a16 k 0 L σ) (Mk g t σ 5) := by
  refine Tm_suc (fun k => by rw [y_X1_makeTuple__a16]) ?_
  by_cases c : 1 ≤ uN (L.1 3) ∧ uN (L.1 3) < 2147483648
  · obtain ⟨a, b⟩ := hs c.1 c.2
    refine mt16_1 h hb a b (uN (L.1 3)) _ (Nat.le_refl _) ?_ ?_ ?_
    · rfl
    · rfl
    · rfl
  · refine Tm_suc (fun k => by rw [y_X1_makeTuple__a16]) ?_
    refine Tm_yes ?_ ?_
    · show L.1 3 ≤ 0
      rw [i_le, u_int (L.1 3)]
      show (if uN (L.1 3) < 2147483648 then (uN (L.1 3) : Int) else (uN (L.1 3) : Int) - 4294967296) ≤ 0
      have := u_lt (L.1 3)
      split <;> omega
    · refine Tm_suc (fun k => by rw [y_X1_makeTuple__a16]) ?_
      refine Tm_oc (c_makeRow16 h (Or.inl rfl) (by omega) ?_ ?_) (fun r hr => Tm_some hr)
      · rfl
      · intro z1 z2
        exact absurd ⟨z1, z2⟩ c
theorem mt20_1 (h : HQ g l t σ) (hb : sN σ 20 ≤ 2147470000) {s n : Nat} (hs : s + n ≤ sN σ 20) (hv : ∀ j, j < n → Gv g (σ.2.2.1 20 (s + j))) : ∀ (m : Nat) (L : LV), m ≤ n → uN (L.1 5) = m → L.1 4 = L.1 5 → uN (L.1 2) = s → Tm (fun k => y_X1_makeTuple__z20 k 1 L σ) (Mk g t σ 5) := by
  have b2 : ∀ (m : Nat) (L : LV), m ≤ n → uN (L.1 5) = m → L.1 4 = L.1 5 → uN (L.1 2) = s → Tm (fun k => y_X1_makeTuple__z20 k 2 L σ) (Mk g t σ 5) := by
    intro m L hm d5 d4 d2
    refine Tm_suc (fun k => by rw [y_X1_makeTuple__z20]) ?_
    have e4 : uN (L.1 4) = m := by rw [d4, d5]
    refine Tm_oc (c_makeRow20 h (Or.inl rfl) (by omega) ?_ ?_) (fun r hr => Tm_some hr)
    · rfl
    · intro _ _
      show uN (L.1 2) + uN (L.1 4) ≤ sN σ 20 ∧ ∀ j, j < uN (L.1 4) → Gv g (σ.2.2.1 20 (uN (L.1 2) + j))
      rw [d2, e4]
      exact ⟨by omega, fun j hj => hv j (by omega)⟩
  intro m
  induction m with
  | zero =>
    intro L hm d5 d4 d2
    refine Tm_suc (fun k => by rw [y_X1_makeTuple__z20]) ?_
    refine Tm_yes ?_ (b2 0 L hm d5 d4 d2)
    rw [u_le (by omega) (by decide), d5]
    exact Nat.zero_le _
  | succ m ih =>
    intro L hm d5 d4 d2
    refine Tm_suc (fun k => by rw [y_X1_makeTuple__z20]) ?_
    have e1 : uN (L.1 2 + L.1 5) = s + (m + 1) := by rw [u_add (by omega), d2, d5]
    have e2 : uN (L.1 2 + L.1 5 - 1) = s + m := by
      rw [u_sub (by rw [e1]; show 1 ≤ _; omega), e1]; show s + (m + 1) - 1 = s + m; omega
    refine Tm_ite (fun _ => b2 (m + 1) L hm d5 d4 d2) (fun _ => ?_)
    refine Tm_chk (u_in (by omega) (by omega)) ?_
    refine Tm_ite (fun _ => ?_) (fun _ => b2 (m + 1) L hm d5 d4 d2)
    refine ih _ (by omega) ?_ ?_ ?_
    · show uN (L.1 5 + (-1)) = m
      rw [u_dec (by omega)]; omega
    · show L.1 5 - 1 = L.1 5 + (-1)
      rw [u_eq, u_dec (by omega), u_sub (by rw [d5]; show 1 ≤ _; omega)]; rfl
    · exact d2
theorem c_makeTuple20 (h : HQ g l t σ) (hb : sN σ 20 ≤ 2147470000) (hs : 1 ≤ uN (L.1 3) → uN (L.1 3) < 2147483648 → uN (L.1 2) + uN (L.1 3) ≤ sN σ 20 ∧ ∀ j, j < uN (L.1 3) → Gv g (σ.2.2.1 20 (uN (L.1 2) + j))) : Tm (fun k => y_X1_makeTuple__z20 k 0 L σ) (Mk g t σ 5) := by
  refine Tm_suc (fun k => by rw [y_X1_makeTuple__z20]) ?_
  by_cases c : 1 ≤ uN (L.1 3) ∧ uN (L.1 3) < 2147483648
  · obtain ⟨a, b⟩ := hs c.1 c.2
    refine mt20_1 h hb a b (uN (L.1 3)) _ (Nat.le_refl _) ?_ ?_ ?_
    · rfl
    · rfl
    · rfl
  · refine Tm_suc (fun k => by rw [y_X1_makeTuple__z20]) ?_
    refine Tm_yes ?_ ?_
    · show L.1 3 ≤ 0
      rw [i_le, u_int (L.1 3)]
      show (if uN (L.1 3) < 2147483648 then (uN (L.1 3) : Int) else (uN (L.1 3) : Int) - 4294967296) ≤ 0
      have := u_lt (L.1 3)
      split <;> omega
    · refine Tm_suc (fun k => by rw [y_X1_makeTuple__z20]) ?_
      refine Tm_oc (c_makeRow20 h (Or.inl rfl) (by omega) ?_ ?_) (fun r hr => Tm_some hr)
      · rfl
      · intro z1 z2
        exact absurd ⟨z1, z2⟩ c
/-- a header without height -/
theorem hd_of3 {K F n s : Int32} {k f N S : Nat} (hk : uN K = k) (k8 : k < 8) (hf : uN F = f * 8) (f2 : f < 2) (hn : uN n = N) (n4 : N < 4096) (hs : uN s = S) (s1 : S < 1024) : uN (((K ||| F) ||| (n <<< ((4 : Int32) &&& 31))) ||| (s <<< ((16 : Int32) &&& 31))) = k + f * 8 + 16 * N + 65536 * S := by
  have e4 : uN (n <<< ((4 : Int32) &&& 31)) = N * 2 ^ 4 := by rw [u_shl (k := 4) _ (by decide) (by rw [hn]; omega), hn]
  have e16 : uN (s <<< ((16 : Int32) &&& 31)) = S * 2 ^ 16 := by rw [u_shl (k := 16) _ (by decide) (by rw [hs]; omega), hs]
  have a1 : uN (K ||| F) = k + f * 8 := by rw [u_orA (k := 3) (a := f) (by rw [hk]; omega) hf, hk, hf]
  have a2 : uN ((K ||| F) ||| (n <<< ((4 : Int32) &&& 31))) = k + f * 8 + N * 2 ^ 4 := by rw [u_orA (k := 4) (a := N) (by rw [a1]; omega) e4, a1, e4]
  rw [u_orA (k := 16) (a := S) (by rw [a2]; omega) e16, a2, e16]
  omega
/-- limbs as a new cell -/
theorem Mk_whole (h : HQ g l t σ) {R : Nat → Int32} {H : Int32} {n f : Nat} (f2 : f < 2) (n0 : 1 ≤ n) (n1 : n ≤ 32) (hH : uN H = 2 + f * 8 + 16 * n + 65536 * (1 + n)) (hr : t + 1 + n ≤ sN σ 3) : Mk g t σ 2 (nI t, hpC σ (t + 1 + n) (va_cpy R (upd (σ.2.2.1 3) t H) 0 (t + 1) n)) := by
  have hm : va_cpy R (upd (σ.2.2.1 3) t H) 0 (t + 1) n t = H := by
    unfold va_cpy
    rw [if_neg (by omega), upd_same]
  have hlo : ∀ p, p < t → va_cpy R (upd (σ.2.2.1 3) t H) 0 (t + 1) n p = σ.2.2.1 3 p := by
    intro p hp
    unfold va_cpy
    rw [if_neg (by omega), upd_other (by omega)]
  have k1 : hdK (uN H) = 2 := by unfold hdK; omega
  have k2 : hdL (uN H) = n := by unfold hdL; omega
  have k3 : hdW (uN H) = n := by
    unfold hdK at k1
    unfold hdW
    rw [if_neg (by omega), k2]
  have k4 : hdS (uN H) = 1 + n := by
    have a : uN H / 65536 = 1 + n := by omega
    unfold hdS; rw [a]; omega
  have k5 : hdT (uN H) = 0 := by unfold hdT; omega
  have q := Mk_new (M' := va_cpy R (upd (σ.2.2.1 3) t H) 0 (t + 1) n) h hlo (by rw [hm, k3]; exact hr) (by
    unfold CGo
    rw [hm, k1, k2, k3, k4, k5]
    exact ⟨by omega, by omega, Or.inl rfl, ⟨by omega, by omega⟩, fun _ => ⟨n0, n1⟩, fun z => absurd z (by omega), fun z => absurd z (by omega)⟩)
  rw [hm, k1, k3] at q
  exact q
theorem c_makeWhole (h : HQ g l t σ) (n0 : 1 ≤ uN (L.1 2)) (n2 : uN (L.1 2) < 2147483648) : Tm (fun k => y_X1_makeWhole__a7 k 0 L σ) (Mk g t σ 2) := by
  have hn := HQ_n h
  have h21 := h.2.1
  refine Tm_suc (fun k => by rw [y_X1_makeWhole__a7]) ?_
  refine Tm_ite (fun c => ?_) (fun _ => Tm_some (Mk_id h (Or.inr (by show 4026531840 ≤ uN (-268435451) ∧ ¬ uN (-268435451) % 16 = 0; decide))))
  rw [u_le n2 (by decide)] at c
  have n1 : uN (L.1 2) ≤ 32 := c
  refine Tm_suc (fun k => by rw [y_X1_makeWhole__a7]) ?_
  rw [h.1, show Int32.ofNat (sN σ 3) - nI t = nI (sN σ 3 - t) from n_sub (by omega) h21.2]
  have eu : uN (nI (sN σ 3 - t)) = sN σ 3 - t := u_n (by omega)
  have e1 : uN (1 + L.1 2) = 1 + uN (L.1 2) := u_add (x := 1) (by show 1 + uN (L.1 2) < _; omega)
  refine Tm_ite (fun c2 => ?_) (fun _ => Tm_some (Mk_id h (Or.inr (by show 4026531840 ≤ uN (-268435450) ∧ ¬ uN (-268435450) % 16 = 0; decide))))
  rw [u_le (by omega) (by omega), e1, eu] at c2
  have et : uN (nI t) = t := u_n (by omega)
  have et1 : uN (nI t + 1) = t + 1 := by rw [u_inc (by omega), et]
  have e8 : nI t + 1 + L.1 2 = nI (t + 1 + uN (L.1 2)) := by
    rw [u_eq, u_add (by omega), et1, u_n (by omega)]
  have b4 : ∀ (L' : LV) (f : Nat), f < 2 → uN (L'.1 100) = f * 8 → uN (L'.1 101) = 2 → L'.1 102 = nI t → L'.1 2 = L.1 2 → L'.1 4 = nI t → Tm (fun k => y_X1_makeWhole__a7 k 4 L' (hpC σ (t + 1 + uN (L.1 2)) (σ.2.2.1 3))) (Mk g t σ 2) := by
    intro L' f f2 d100 d101 d102 d2 d4
    refine Tm_suc (fun k => by rw [y_X1_makeWhole__a7]) ?_
    rw [d102, d2, d4]
    refine Tm_chk (u_in (by show uN (nI t) < sN σ 3; omega) (by show sN σ 3 ≤ _; omega)) ?_
    rw [u_cl (x := nI t) (by omega), et, hpC_a]
    refine Tm_chk ⟨by decide, by rw [u_neg]; omega, by rw [u_neg]; omega, by rw [u_cl n2]; show 0 + _ ≤ 72; omega, by rw [u_cl (by omega), u_cl n2, et1]; show t + 1 + uN (L.1 2) ≤ sN σ 3; omega⟩ ?_
    rw [u_cl n2, u_cl (x := nI t + 1) (by omega), et1, hpC_f]
    refine Tm_some ?_
    have eh := hd_of3 (K := L'.1 101) (F := L'.1 100) (n := L.1 2) (s := 1 + L.1 2) d101 (by omega) d100 f2 rfl (by omega) e1 (by omega)
    exact Mk_whole h f2 n0 n1 eh (by omega)
  refine Tm_suc (fun k => by rw [y_X1_makeWhole__a7]) ?_
  rw [hpC_i (t := t + 1 + uN (L.1 2)) σ (show (lI L 4 (nI t)).1 4 + 1 + (lI L 4 (nI t)).1 2 = nI (t + 1 + uN (L.1 2)) from e8)]
  refine Tm_ite (fun _ => ?_) (fun _ => ?_)
  · refine Tm_suc (fun k => by rw [y_X1_makeWhole__a7]) ?_
    refine b4 _ 0 (by decide) ?_ ?_ ?_ ?_ ?_
    · rfl
    · rfl
    · rfl
    · rfl
    · rfl
  · refine b4 _ 1 (by decide) ?_ ?_ ?_ ?_ ?_
    · rfl
    · rfl
    · rfl
    · rfl
    · rfl
/-- what it stands on is the same -/
theorem HQ_fr (h : HQ g l t σ) (e1 : σ'.1 1 = σ.1 1) (e3 : σ'.2.2.1 3 = σ.2.2.1 3) (en : σ'.2.2.2.2.1 = σ.2.2.2.2.1) : HQ g l t σ' := by
  have s3 : ∀ j, sN σ' j = sN σ j := fun j => congrFun en j
  unfold HQ
  rw [e1, e3, s3, s3, s3]
  exact h
theorem HQ_f (h : HQ g l t σ) {k : Nat} (hk : ¬ 3 = k) (f : Nat → Int32) : HQ g l t (uF σ k f) := HQ_fr h rfl (if_neg hk) rfl
end CRJ
end JnS346
section JnS347
/-! The class: strings (two rows: S347.tpl). -/
section CRK
variable {g g' : Nat → Prop} {l : List Nat} {t t' : Nat} {σ σ' : CS} {L : LV} {x y i : Int32} {M M' : Nat → Int32}
theorem uF_a (σ : CS) (k i : Nat) (f : Nat → Int32) (x : Int32) : uA (uF σ k f) k i x = uF σ k (upd f i x) := by
  refine Prod.ext rfl (Prod.ext rfl (Prod.ext (funext fun j => ?_) rfl))
  show (if j = k then upd (if k = k then f else σ.2.2.1 k) i x else if j = k then f else σ.2.2.1 j) = if j = k then upd f i x else σ.2.2.1 j
  by_cases c : j = k
  · rw [if_pos c, if_pos c, if_pos rfl]
  · rw [if_neg c, if_neg c, if_neg c]
theorem uF_f (σ : CS) (k : Nat) (f f' : Nat → Int32) : uF (uF σ k f) k f' = uF σ k f' := by
  refine Prod.ext rfl (Prod.ext rfl (Prod.ext (funext fun j => ?_) rfl))
  show (if j = k then f' else if j = k then f else σ.2.2.1 j) = if j = k then f' else σ.2.2.1 j
  by_cases c : j = k
  · rw [if_pos c, if_pos c]
  · rw [if_neg c, if_neg c, if_neg c]
theorem uF_id (σ : CS) (k : Nat) : uF σ k (σ.2.2.1 k) = σ := by
  refine Prod.ext rfl (Prod.ext rfl (Prod.ext (funext fun j => ?_) rfl))
  show (if j = k then σ.2.2.1 k else σ.2.2.1 j) = σ.2.2.1 j
  by_cases c : j = k
  · rw [if_pos c, c]
  · rw [if_neg c]
theorem u_orB {x y : Int32} {k a : Nat} (h : uN y < 2 ^ k) (e : uN x = a * 2 ^ k) : uN (x ||| y) = uN x + uN y := by
  rw [u_or, e, ← Nat.shiftLeft_eq, ← Nat.shiftLeft_add_eq_or_of_lt h]
theorem cb15_1 (h : HQ g l t σ) (hx : Gv g x) {a b n : Nat} (n1 : n ≤ 1073741823) (b1 : b ≤ 1073741823) (hk : uN x < 2147483648 → hdK (uN (σ.2.2.1 3 (uN x))) = 4 ∧ a + n ≤ hdL (uN (σ.2.2.1 3 (uN x)))) : ∀ (m : Nat) (L : LV) (f : Nat → Int32), uN (L.1 6) + m = n → L.1 1 = x → (uN x < 2147483648 → uN (L.1 2) = a) → uN (L.1 3) = n → uN (L.1 5) = b → Tm (fun k => y_X1_copyBytes__a15 k 1 L (uF σ 15 f)) (fun r => r.1 = L.1 5 + L.1 3 ∧ ∃ f', r.2 = uF σ 15 f') := by
  intro m
  induction m with
  | zero =>
    intro L f d6 d1 d2 d3 d5
    refine Tm_suc (fun k => by rw [y_X1_copyBytes__a15]) ?_
    refine Tm_yes (by rw [u_le (by omega) (by omega)]; omega) ?_
    refine Tm_suc (fun k => by rw [y_X1_copyBytes__a15]) ?_
    exact Tm_some ⟨rfl, f, rfl⟩
  | succ m ih =>
    intro L f d6 d1 d2 d3 d5
    have b4 : ∀ L' : LV, L'.1 1 = L.1 1 → L'.1 2 = L.1 2 → L'.1 3 = L.1 3 → L'.1 5 = L.1 5 → L'.1 6 = L.1 6 → uN (L'.1 101) < 8192 → Tm (fun k => y_X1_copyBytes__a15 k 4 L' (uF σ 15 f)) (fun r => r.1 = L.1 5 + L.1 3 ∧ ∃ f', r.2 = uF σ 15 f') := by
      intro L' a1 a2 a3 a5 a6 q
      refine Tm_suc (fun k => by rw [y_X1_copyBytes__a15]) ?_
      refine Tm_chk (u_in q (by decide)) ?_
      rw [uF_a]
      refine Tm_mono (ih _ _ ?_ ?_ ?_ ?_ ?_) (fun r hr => ?_)
      · show uN (L'.1 6 + 1) + m = n
        rw [a6, u_inc (by omega)]; omega
      · exact a1.trans d1
      · intro z; show uN (L'.1 2) = a; rw [a2]; exact d2 z
      · show uN (L'.1 3) = n; rw [a3]; exact d3
      · show uN (L'.1 5) = b; rw [a5]; exact d5
      · have e : r.1 = L'.1 5 + L'.1 3 := hr.1
        rw [e, a5, a3]
        exact ⟨rfl, hr.2⟩
    refine Tm_suc (fun k => by rw [y_X1_copyBytes__a15]) ?_
    have e56 : uN (L.1 5 + L.1 6) = b + uN (L.1 6) := by rw [u_add (by omega), d5]
    refine Tm_ite (fun c => absurd c (by rw [u_le (by omega) (by omega)]; omega)) (fun _ => ?_)
    refine Tm_ite (fun _ => ?_) (fun c2 => ?_)
    · refine Tm_suc (fun k => by rw [y_X1_copyBytes__a15]) ?_
      exact Tm_some ⟨rfl, f, rfl⟩
    rw [u_le (by decide) (by omega)] at c2
    have c2' : uN (L.1 5 + L.1 6) < 8192 := Nat.lt_of_not_le c2
    refine Tm_ite (fun c => ?_) (fun c => ?_)
    · rw [u_nn, d1] at c
      obtain ⟨k1, k2⟩ := hk c
      have e26 : uN (L.1 2 + L.1 6) = a + uN (L.1 6) := by
        have lx : hdL (uN (σ.2.2.1 3 (uN x))) < 4096 := Nat.mod_lt _ (by decide)
        have := d2 c
        rw [u_add (by omega), d2 c]
      refine Tm_suc (fun k => by rw [y_X1_copyBytes__a15]) ?_
      refine Tm_chk (by
        show ¬ (L.1 1 + 1 + ((L.1 2 + L.1 6) >>> ((2 : Int32) &&& 31)) < 0 ∨ sN σ 3 ≤ (L.1 1 + 1 + ((L.1 2 + L.1 6) >>> ((2 : Int32) &&& 31))).toNatClampNeg)
        rw [d1]
        exact in_gs (i := L.1 2 + L.1 6) h hx c k1 (by rw [e26]; omega)) ?_
      refine b4 _ rfl rfl rfl rfl rfl ?_
      exact c2'
    · refine b4 _ rfl rfl rfl rfl rfl ?_
      exact c2'
theorem c_copyBytes15 (h : HQ g l t σ) (hx : Gv g (L.1 1)) (n1 : uN (L.1 3) ≤ 1073741823) (b1 : uN (L.1 5) ≤ 1073741823) (hk : uN (L.1 1) < 2147483648 → hdK (uN (σ.2.2.1 3 (uN (L.1 1)))) = 4 ∧ uN (L.1 2) + uN (L.1 3) ≤ hdL (uN (σ.2.2.1 3 (uN (L.1 1))))) : Tm (fun k => y_X1_copyBytes__a15 k 0 L σ) (fun r => r.1 = L.1 5 + L.1 3 ∧ ∃ f', r.2 = uF σ 15 f') := by
  refine Tm_suc (fun k => by rw [y_X1_copyBytes__a15]) ?_
  have q := cb15_1 (x := L.1 1) (a := uN (L.1 2)) (b := uN (L.1 5)) (n := uN (L.1 3)) h hx n1 b1 hk (uN (L.1 3)) (lI L 6 0) (σ.2.2.1 15) (by show 0 + _ = _; omega) rfl (fun _ => rfl) rfl rfl
  rw [uF_id] at q
  exact q
theorem ms15_7 (h : HQ g l t σ) {H : Int32} {s n w : Nat} (hw : w = (n + 3) / 4) (n1 : n ≤ 3996) (hs : s + n ≤ 8192) (hr : t + 1 + w ≤ sN σ 3) (hH : uN H = 4 + 16 * n + 65536 * (1 + w)) : ∀ (m : Nat) (L : LV) (M : Nat → Int32), uN (L.1 7) + m = n → uN (L.1 3) = n → uN (L.1 2) = s → L.1 5 = nI t → (∀ p, p < t → M p = σ.2.2.1 3 p) → M t = H → Tm (fun k => y_X1_makeString__a15 k 7 L (hpC σ (t + 1 + w) M)) (Mk g t σ 4) := by
  have hn := HQ_n h
  have et : uN (nI t) = t := u_n (by omega)
  have et1 : uN (nI t + 1) = t + 1 := by rw [u_inc (by omega), et]
  intro m
  induction m with
  | zero =>
    intro L M d7 d3 d2 d5 hM hMt
    refine Tm_suc (fun k => by rw [y_X1_makeString__a15]) ?_
    refine Tm_yes (by rw [u_le (by omega) (by omega)]; omega) ?_
    refine Tm_suc (fun k => by rw [y_X1_makeString__a15]) ?_
    rw [d5]
    refine Tm_some ?_
    have k1 : hdK (uN H) = 4 := by unfold hdK; omega
    have k2 : hdL (uN H) = n := by unfold hdL; omega
    have k3 : hdW (uN H) = w := by
      unfold hdK at k1
      unfold hdW
      rw [if_pos (by omega), k2, hw]
    have k4 : hdS (uN H) = 1 + w := by
      have a : uN H / 65536 = 1 + w := by omega
      unfold hdS; rw [a]; omega
    have k5 : hdT (uN H) = 0 := by unfold hdT; omega
    have q := Mk_new (M' := M) h hM (by rw [hMt, k3]; exact hr) (by
      unfold CGo
      rw [hMt, k1, k2, k3, k4, k5]
      exact ⟨by omega, by omega, Or.inr (Or.inl rfl), ⟨by omega, by omega⟩, fun z => absurd z (by omega), fun z => absurd z (by omega), fun z => absurd z (by omega)⟩)
    rw [hMt, k1, k3] at q
    exact q
  | succ m ih =>
    intro L M d7 d3 d2 d5 hM hMt
    have b10 : ∀ (L' : LV) (M' : Nat → Int32), L'.1 7 = L.1 7 → L'.1 3 = L.1 3 → L'.1 2 = L.1 2 → L'.1 5 = L.1 5 → (∀ p, p < t → M' p = σ.2.2.1 3 p) → M' t = H → Tm (fun k => y_X1_makeString__a15 k 10 L' (hpC σ (t + 1 + w) M')) (Mk g t σ 4) := by
      intro L' M' a7 a3 a2 a5 z zt
      refine Tm_suc (fun k => by rw [y_X1_makeString__a15]) ?_
      refine ih _ _ ?_ ?_ ?_ ?_ z zt
      · show uN (L'.1 7 + 1) + m = n
        rw [a7, u_inc (by omega)]; omega
      · show uN (L'.1 3) = n; rw [a3]; exact d3
      · show uN (L'.1 2) = s; rw [a2]; exact d2
      · exact a5.trans d5
    have b9 : ∀ L' : LV, L'.1 7 = L.1 7 → L'.1 3 = L.1 3 → L'.1 2 = L.1 2 → L'.1 5 = L.1 5 → Tm (fun k => y_X1_makeString__a15 k 9 L' (hpC σ (t + 1 + w) M)) (Mk g t σ 4) := by
      intro L' a7 a3 a2 a5
      have e : uN (nI t + 1 + (L.1 7 >>> ((2 : Int32) &&& 31))) = t + 1 + uN (L.1 7) / 4 := by
        rw [u_add (by rw [u_sar2 (by omega)]; omega), et1, u_sar2 (by omega)]
      refine Tm_suc (fun k => by rw [y_X1_makeString__a15]) ?_
      rw [a5, a7, d5]
      refine Tm_chk (u_in (by show uN _ < sN σ 3; omega) (by show sN σ 3 ≤ _; omega)) ?_
      rw [hpC_a, u_cl (by omega), e]
      refine b10 _ _ ?_ ?_ ?_ ?_ ?_ ?_
      · exact a7
      · exact a3
      · exact a2
      · exact a5
      · intro p hp
        rw [upd_other (by omega)]; exact hM p hp
      · rw [upd_other (by omega)]; exact hMt
    refine Tm_suc (fun k => by rw [y_X1_makeString__a15]) ?_
    refine Tm_ite (fun c => absurd c (by rw [u_le (by omega) (by omega)]; omega)) (fun _ => ?_)
    have e27 : uN (L.1 2 + L.1 7) = s + uN (L.1 7) := by rw [u_add (by omega), d2]
    refine Tm_chk (u_in (by omega) (by decide)) ?_
    refine Tm_ite (fun _ => ?_) (fun _ => Tm_ite (fun _ => ?_) (fun _ => ?_))
    · exact b9 _ rfl rfl rfl rfl
    · exact b9 _ rfl rfl rfl rfl
    · exact b10 _ M rfl rfl rfl rfl hM hMt
theorem c_makeString15 (h : HQ g l t σ) (hs : 1 ≤ uN (L.1 3) → uN (L.1 3) < 2147483648 → uN (L.1 2) + uN (L.1 3) ≤ 8192) : Tm (fun k => y_X1_makeString__a15 k 0 L σ) (Mk g t σ 4) := by
  have hn := HQ_n h
  have h21 := h.2.1
  refine Tm_suc (fun k => by rw [y_X1_makeString__a15]) ?_
  refine Tm_ite (fun c => ?_) (fun c => Tm_ite (fun c0 => ?_) (fun c0 => ?_))
  · have c4 : 2 ≤ uN (L.1 3) ∧ uN (L.1 3) < 2147483648 := by
      rw [i_lt, u_int (L.1 3)] at c
      have c' : 1 < (if uN (L.1 3) < 2147483648 then (uN (L.1 3) : Int) else (uN (L.1 3) : Int) - 4294967296) := c
      have := u_lt (L.1 3)
      split at c' <;> omega
    have hs' := hs (by omega) c4.2
    have e3 : uN (L.1 3 + 3) = uN (L.1 3) + 3 := u_add (y := 3) (by show uN (L.1 3) + 3 < _; omega)
    have ew : uN ((L.1 3 + 3) >>> ((2 : Int32) &&& 31)) = (uN (L.1 3) + 3) / 4 := by rw [u_sar2 (by omega), e3]
    refine Tm_suc (fun k => by rw [y_X1_makeString__a15]) ?_
    refine Tm_ite (fun cw => ?_) (fun _ => Tm_some (Mk_id h (Or.inr (by show 4026531840 ≤ uN (-268435451) ∧ ¬ uN (-268435451) % 16 = 0; decide))))
    rw [u_ltn (by omega) (by decide), ew] at cw
    have cw' : (uN (L.1 3) + 3) / 4 < 1000 := cw
    refine Tm_suc (fun k => by rw [y_X1_makeString__a15]) ?_
    rw [h.1, show Int32.ofNat (sN σ 3) - nI t = nI (sN σ 3 - t) from n_sub (by omega) h21.2]
    have eu : uN (nI (sN σ 3 - t)) = sN σ 3 - t := u_n (by omega)
    have e1 : uN (1 + ((L.1 3 + 3) >>> ((2 : Int32) &&& 31))) = 1 + (uN (L.1 3) + 3) / 4 := by
      rw [u_add (x := 1) (by rw [ew]; show 1 + _ < _; omega), ew]; rfl
    refine Tm_ite (fun c2 => ?_) (fun _ => Tm_some (Mk_id h (Or.inr (by show 4026531840 ≤ uN (-268435450) ∧ ¬ uN (-268435450) % 16 = 0; decide))))
    have c2a : 1 + ((L.1 3 + 3) >>> ((2 : Int32) &&& 31)) ≤ nI (sN σ 3 - t) := c2
    rw [u_le (by omega) (by omega), e1, eu] at c2a
    have et : uN (nI t) = t := u_n (by omega)
    have et1 : uN (nI t + 1) = t + 1 := by rw [u_inc (by omega), et]
    have e8 : nI t + 1 + ((L.1 3 + 3) >>> ((2 : Int32) &&& 31)) = nI (t + 1 + (uN (L.1 3) + 3) / 4) := by
      rw [u_eq, u_add (by omega), et1, ew, u_n (by omega)]
    refine Tm_suc (fun k => by rw [y_X1_makeString__a15]) ?_
    rw [hpC_i (t := t + 1 + (uN (L.1 3) + 3) / 4) σ (show (lI (lI L 4 ((L.1 3 + 3) >>> ((2 : Int32) &&& 31))) 5 (nI t)).1 5 + 1 + (lI (lI L 4 ((L.1 3 + 3) >>> ((2 : Int32) &&& 31))) 5 (nI t)).1 4 = nI (t + 1 + (uN (L.1 3) + 3) / 4) from e8)]
    refine Tm_oc (Tm_suc (fun k => by rw [y_X1_header]) (Tm_some (Q := fun r => r = _) rfl)) (fun r hr => ?_)
    rw [hr]
    refine Tm_chk (u_in (by show uN (nI t) < sN σ 3; omega) (by show sN σ 3 ≤ _; omega)) ?_
    rw [show ((lI (lI L 4 ((L.1 3 + 3) >>> ((2 : Int32) &&& 31))) 5 (nI t)).1 5).toNatClampNeg = t from (u_cl (x := nI t) (by omega)).trans et, hpC_a]
    refine Tm_suc (fun k => by rw [y_X1_makeString__a15]) ?_
    have hd := hd_of (K := 4) (F := 0 <<< ((3 : Int32) &&& 31)) (n := L.1 3) (s := 1 + ((L.1 3 + 3) >>> ((2 : Int32) &&& 31))) (hh := 0) (k := 4) (f := 0) rfl (by decide) (by decide) (by decide) rfl (by omega) e1 (by omega) (T := 0) rfl (by decide)
    refine ms15_7 (n := uN (L.1 3)) (s := uN (L.1 2)) h rfl (by omega) hs' (by omega) (hd.trans (by omega)) (uN (L.1 3)) _ _ ?_ ?_ ?_ ?_ ?_ ?_
    · show 0 + _ = _; omega
    · rfl
    · rfl
    · rfl
    · intro p hp
      rw [upd_other (by omega)]
    · exact upd_same
  · have c4 : uN (L.1 3) = 1 := by
      rw [i_lt, u_int (L.1 3)] at c c0
      have c' : ¬ 1 < (if uN (L.1 3) < 2147483648 then (uN (L.1 3) : Int) else (uN (L.1 3) : Int) - 4294967296) := c
      have c'' : 0 < (if uN (L.1 3) < 2147483648 then (uN (L.1 3) : Int) else (uN (L.1 3) : Int) - 4294967296) := c0
      have := u_lt (L.1 3)
      split at c' <;> omega
    have hs' := hs (by omega) (by omega)
    refine Tm_suc (fun k => by rw [y_X1_makeString__a15]) ?_
    refine Tm_chk (u_in (by omega) (by decide)) ?_
    refine Tm_suc (fun k => by rw [y_X1_makeString__a15]) ?_
    refine Tm_some (Mk_id h (Or.inl ?_))
    have e : uN (-1073741824 ||| (σ.2.2.1 15 (L.1 2).toNatClampNeg &&& 255)) = 3221225472 + uN (σ.2.2.1 15 (L.1 2).toNatClampNeg) % 256 := by
      rw [u_orB (k := 8) (a := 12582912) (by rw [u_and8, u_n (by omega)]; omega) (by decide), u_and8, u_n (by omega)]; rfl
    show Gv g (-1073741824 ||| (σ.2.2.1 15 (L.1 2).toNatClampNeg &&& 255)) ∧ kdC (σ.2.2.1 3) (-1073741824 ||| (σ.2.2.1 15 (L.1 2).toNatClampNeg &&& 255)) = 4
    refine ⟨Or.inl ⟨by omega, by omega⟩, ?_⟩
    unfold kdC
    rw [if_neg (by omega)]
    omega
  · refine Tm_suc (fun k => by rw [y_X1_makeString__a15]) ?_
    refine Tm_some (Mk_id h (Or.inl ⟨Or.inr ⟨by show uN 0 < 160000; decide, h.2.2.2.1.1⟩, ?_⟩))
    show (if uN 0 < 2147483648 then hdK (uN (σ.2.2.1 3 (uN 0))) else uN 0 / 268435456 % 8) = 4
    rw [if_pos (by decide), show uN 0 = 0 from rfl, h.2.2.2.2.1.1]
    decide
theorem cb13_1 (h : HQ g l t σ) (hx : Gv g x) {a b n : Nat} (n1 : n ≤ 1073741823) (b1 : b ≤ 1073741823) (hk : uN x < 2147483648 → hdK (uN (σ.2.2.1 3 (uN x))) = 4 ∧ a + n ≤ hdL (uN (σ.2.2.1 3 (uN x)))) : ∀ (m : Nat) (L : LV) (f : Nat → Int32), uN (L.1 6) + m = n → L.1 1 = x → (uN x < 2147483648 → uN (L.1 2) = a) → uN (L.1 3) = n → uN (L.1 5) = b → Tm (fun k => y_X1_copyBytes__a13 k 1 L (uF σ 13 f)) (fun r => r.1 = L.1 5 + L.1 3 ∧ ∃ f', r.2 = uF σ 13 f') := by
  intro m
  induction m with
  | zero =>
    intro L f d6 d1 d2 d3 d5
    refine Tm_suc (fun k => by rw [y_X1_copyBytes__a13]) ?_
    refine Tm_yes (by rw [u_le (by omega) (by omega)]; omega) ?_
    refine Tm_suc (fun k => by rw [y_X1_copyBytes__a13]) ?_
    exact Tm_some ⟨rfl, f, rfl⟩
  | succ m ih =>
    intro L f d6 d1 d2 d3 d5
    have b4 : ∀ L' : LV, L'.1 1 = L.1 1 → L'.1 2 = L.1 2 → L'.1 3 = L.1 3 → L'.1 5 = L.1 5 → L'.1 6 = L.1 6 → uN (L'.1 101) < 10400 → Tm (fun k => y_X1_copyBytes__a13 k 4 L' (uF σ 13 f)) (fun r => r.1 = L.1 5 + L.1 3 ∧ ∃ f', r.2 = uF σ 13 f') := by
      intro L' a1 a2 a3 a5 a6 q
      refine Tm_suc (fun k => by rw [y_X1_copyBytes__a13]) ?_
      refine Tm_chk (u_in q (by decide)) ?_
      rw [uF_a]
      refine Tm_mono (ih _ _ ?_ ?_ ?_ ?_ ?_) (fun r hr => ?_)
      · show uN (L'.1 6 + 1) + m = n
        rw [a6, u_inc (by omega)]; omega
      · exact a1.trans d1
      · intro z; show uN (L'.1 2) = a; rw [a2]; exact d2 z
      · show uN (L'.1 3) = n; rw [a3]; exact d3
      · show uN (L'.1 5) = b; rw [a5]; exact d5
      · have e : r.1 = L'.1 5 + L'.1 3 := hr.1
        rw [e, a5, a3]
        exact ⟨rfl, hr.2⟩
    refine Tm_suc (fun k => by rw [y_X1_copyBytes__a13]) ?_
    have e56 : uN (L.1 5 + L.1 6) = b + uN (L.1 6) := by rw [u_add (by omega), d5]
    refine Tm_ite (fun c => absurd c (by rw [u_le (by omega) (by omega)]; omega)) (fun _ => ?_)
    refine Tm_ite (fun _ => ?_) (fun c2 => ?_)
    · refine Tm_suc (fun k => by rw [y_X1_copyBytes__a13]) ?_
      exact Tm_some ⟨rfl, f, rfl⟩
    rw [u_le (by decide) (by omega)] at c2
    have c2' : uN (L.1 5 + L.1 6) < 10400 := Nat.lt_of_not_le c2
    refine Tm_ite (fun c => ?_) (fun c => ?_)
    · rw [u_nn, d1] at c
      obtain ⟨k1, k2⟩ := hk c
      have e26 : uN (L.1 2 + L.1 6) = a + uN (L.1 6) := by
        have lx : hdL (uN (σ.2.2.1 3 (uN x))) < 4096 := Nat.mod_lt _ (by decide)
        have := d2 c
        rw [u_add (by omega), d2 c]
      refine Tm_suc (fun k => by rw [y_X1_copyBytes__a13]) ?_
      refine Tm_chk (by
        show ¬ (L.1 1 + 1 + ((L.1 2 + L.1 6) >>> ((2 : Int32) &&& 31)) < 0 ∨ sN σ 3 ≤ (L.1 1 + 1 + ((L.1 2 + L.1 6) >>> ((2 : Int32) &&& 31))).toNatClampNeg)
        rw [d1]
        exact in_gs (i := L.1 2 + L.1 6) h hx c k1 (by rw [e26]; omega)) ?_
      refine b4 _ rfl rfl rfl rfl rfl ?_
      exact c2'
    · refine b4 _ rfl rfl rfl rfl rfl ?_
      exact c2'
theorem c_copyBytes13 (h : HQ g l t σ) (hx : Gv g (L.1 1)) (n1 : uN (L.1 3) ≤ 1073741823) (b1 : uN (L.1 5) ≤ 1073741823) (hk : uN (L.1 1) < 2147483648 → hdK (uN (σ.2.2.1 3 (uN (L.1 1)))) = 4 ∧ uN (L.1 2) + uN (L.1 3) ≤ hdL (uN (σ.2.2.1 3 (uN (L.1 1))))) : Tm (fun k => y_X1_copyBytes__a13 k 0 L σ) (fun r => r.1 = L.1 5 + L.1 3 ∧ ∃ f', r.2 = uF σ 13 f') := by
  refine Tm_suc (fun k => by rw [y_X1_copyBytes__a13]) ?_
  have q := cb13_1 (x := L.1 1) (a := uN (L.1 2)) (b := uN (L.1 5)) (n := uN (L.1 3)) h hx n1 b1 hk (uN (L.1 3)) (lI L 6 0) (σ.2.2.1 13) (by show 0 + _ = _; omega) rfl (fun _ => rfl) rfl rfl
  rw [uF_id] at q
  exact q
theorem ms13_7 (h : HQ g l t σ) {H : Int32} {s n w : Nat} (hw : w = (n + 3) / 4) (n1 : n ≤ 3996) (hs : s + n ≤ 10400) (hr : t + 1 + w ≤ sN σ 3) (hH : uN H = 4 + 16 * n + 65536 * (1 + w)) : ∀ (m : Nat) (L : LV) (M : Nat → Int32), uN (L.1 7) + m = n → uN (L.1 3) = n → uN (L.1 2) = s → L.1 5 = nI t → (∀ p, p < t → M p = σ.2.2.1 3 p) → M t = H → Tm (fun k => y_X1_makeString__a13 k 7 L (hpC σ (t + 1 + w) M)) (Mk g t σ 4) := by
  have hn := HQ_n h
  have et : uN (nI t) = t := u_n (by omega)
  have et1 : uN (nI t + 1) = t + 1 := by rw [u_inc (by omega), et]
  intro m
  induction m with
  | zero =>
    intro L M d7 d3 d2 d5 hM hMt
    refine Tm_suc (fun k => by rw [y_X1_makeString__a13]) ?_
    refine Tm_yes (by rw [u_le (by omega) (by omega)]; omega) ?_
    refine Tm_suc (fun k => by rw [y_X1_makeString__a13]) ?_
    rw [d5]
    refine Tm_some ?_
    have k1 : hdK (uN H) = 4 := by unfold hdK; omega
    have k2 : hdL (uN H) = n := by unfold hdL; omega
    have k3 : hdW (uN H) = w := by
      unfold hdK at k1
      unfold hdW
      rw [if_pos (by omega), k2, hw]
    have k4 : hdS (uN H) = 1 + w := by
      have a : uN H / 65536 = 1 + w := by omega
      unfold hdS; rw [a]; omega
    have k5 : hdT (uN H) = 0 := by unfold hdT; omega
    have q := Mk_new (M' := M) h hM (by rw [hMt, k3]; exact hr) (by
      unfold CGo
      rw [hMt, k1, k2, k3, k4, k5]
      exact ⟨by omega, by omega, Or.inr (Or.inl rfl), ⟨by omega, by omega⟩, fun z => absurd z (by omega), fun z => absurd z (by omega), fun z => absurd z (by omega)⟩)
    rw [hMt, k1, k3] at q
    exact q
  | succ m ih =>
    intro L M d7 d3 d2 d5 hM hMt
    have b10 : ∀ (L' : LV) (M' : Nat → Int32), L'.1 7 = L.1 7 → L'.1 3 = L.1 3 → L'.1 2 = L.1 2 → L'.1 5 = L.1 5 → (∀ p, p < t → M' p = σ.2.2.1 3 p) → M' t = H → Tm (fun k => y_X1_makeString__a13 k 10 L' (hpC σ (t + 1 + w) M')) (Mk g t σ 4) := by
      intro L' M' a7 a3 a2 a5 z zt
      refine Tm_suc (fun k => by rw [y_X1_makeString__a13]) ?_
      refine ih _ _ ?_ ?_ ?_ ?_ z zt
      · show uN (L'.1 7 + 1) + m = n
        rw [a7, u_inc (by omega)]; omega
      · show uN (L'.1 3) = n; rw [a3]; exact d3
      · show uN (L'.1 2) = s; rw [a2]; exact d2
      · exact a5.trans d5
    have b9 : ∀ L' : LV, L'.1 7 = L.1 7 → L'.1 3 = L.1 3 → L'.1 2 = L.1 2 → L'.1 5 = L.1 5 → Tm (fun k => y_X1_makeString__a13 k 9 L' (hpC σ (t + 1 + w) M)) (Mk g t σ 4) := by
      intro L' a7 a3 a2 a5
      have e : uN (nI t + 1 + (L.1 7 >>> ((2 : Int32) &&& 31))) = t + 1 + uN (L.1 7) / 4 := by
        rw [u_add (by rw [u_sar2 (by omega)]; omega), et1, u_sar2 (by omega)]
      refine Tm_suc (fun k => by rw [y_X1_makeString__a13]) ?_
      rw [a5, a7, d5]
      refine Tm_chk (u_in (by show uN _ < sN σ 3; omega) (by show sN σ 3 ≤ _; omega)) ?_
      rw [hpC_a, u_cl (by omega), e]
      refine b10 _ _ ?_ ?_ ?_ ?_ ?_ ?_
      · exact a7
      · exact a3
      · exact a2
      · exact a5
      · intro p hp
        rw [upd_other (by omega)]; exact hM p hp
      · rw [upd_other (by omega)]; exact hMt
    refine Tm_suc (fun k => by rw [y_X1_makeString__a13]) ?_
    refine Tm_ite (fun c => absurd c (by rw [u_le (by omega) (by omega)]; omega)) (fun _ => ?_)
    have e27 : uN (L.1 2 + L.1 7) = s + uN (L.1 7) := by rw [u_add (by omega), d2]
    refine Tm_chk (u_in (by omega) (by decide)) ?_
    refine Tm_ite (fun _ => ?_) (fun _ => Tm_ite (fun _ => ?_) (fun _ => ?_))
    · exact b9 _ rfl rfl rfl rfl
    · exact b9 _ rfl rfl rfl rfl
    · exact b10 _ M rfl rfl rfl rfl hM hMt
theorem c_makeString13 (h : HQ g l t σ) (hs : 1 ≤ uN (L.1 3) → uN (L.1 3) < 2147483648 → uN (L.1 2) + uN (L.1 3) ≤ 10400) : Tm (fun k => y_X1_makeString__a13 k 0 L σ) (Mk g t σ 4) := by
  have hn := HQ_n h
  have h21 := h.2.1
  refine Tm_suc (fun k => by rw [y_X1_makeString__a13]) ?_
  refine Tm_ite (fun c => ?_) (fun c => Tm_ite (fun c0 => ?_) (fun c0 => ?_))
  · have c4 : 2 ≤ uN (L.1 3) ∧ uN (L.1 3) < 2147483648 := by
      rw [i_lt, u_int (L.1 3)] at c
      have c' : 1 < (if uN (L.1 3) < 2147483648 then (uN (L.1 3) : Int) else (uN (L.1 3) : Int) - 4294967296) := c
      have := u_lt (L.1 3)
      split at c' <;> omega
    have hs' := hs (by omega) c4.2
    have e3 : uN (L.1 3 + 3) = uN (L.1 3) + 3 := u_add (y := 3) (by show uN (L.1 3) + 3 < _; omega)
    have ew : uN ((L.1 3 + 3) >>> ((2 : Int32) &&& 31)) = (uN (L.1 3) + 3) / 4 := by rw [u_sar2 (by omega), e3]
    refine Tm_suc (fun k => by rw [y_X1_makeString__a13]) ?_
    refine Tm_ite (fun cw => ?_) (fun _ => Tm_some (Mk_id h (Or.inr (by show 4026531840 ≤ uN (-268435451) ∧ ¬ uN (-268435451) % 16 = 0; decide))))
    rw [u_ltn (by omega) (by decide), ew] at cw
    have cw' : (uN (L.1 3) + 3) / 4 < 1000 := cw
    refine Tm_suc (fun k => by rw [y_X1_makeString__a13]) ?_
    rw [h.1, show Int32.ofNat (sN σ 3) - nI t = nI (sN σ 3 - t) from n_sub (by omega) h21.2]
    have eu : uN (nI (sN σ 3 - t)) = sN σ 3 - t := u_n (by omega)
    have e1 : uN (1 + ((L.1 3 + 3) >>> ((2 : Int32) &&& 31))) = 1 + (uN (L.1 3) + 3) / 4 := by
      rw [u_add (x := 1) (by rw [ew]; show 1 + _ < _; omega), ew]; rfl
    refine Tm_ite (fun c2 => ?_) (fun _ => Tm_some (Mk_id h (Or.inr (by show 4026531840 ≤ uN (-268435450) ∧ ¬ uN (-268435450) % 16 = 0; decide))))
    have c2a : 1 + ((L.1 3 + 3) >>> ((2 : Int32) &&& 31)) ≤ nI (sN σ 3 - t) := c2
    rw [u_le (by omega) (by omega), e1, eu] at c2a
    have et : uN (nI t) = t := u_n (by omega)
    have et1 : uN (nI t + 1) = t + 1 := by rw [u_inc (by omega), et]
    have e8 : nI t + 1 + ((L.1 3 + 3) >>> ((2 : Int32) &&& 31)) = nI (t + 1 + (uN (L.1 3) + 3) / 4) := by
      rw [u_eq, u_add (by omega), et1, ew, u_n (by omega)]
    refine Tm_suc (fun k => by rw [y_X1_makeString__a13]) ?_
    rw [hpC_i (t := t + 1 + (uN (L.1 3) + 3) / 4) σ (show (lI (lI L 4 ((L.1 3 + 3) >>> ((2 : Int32) &&& 31))) 5 (nI t)).1 5 + 1 + (lI (lI L 4 ((L.1 3 + 3) >>> ((2 : Int32) &&& 31))) 5 (nI t)).1 4 = nI (t + 1 + (uN (L.1 3) + 3) / 4) from e8)]
    refine Tm_oc (Tm_suc (fun k => by rw [y_X1_header]) (Tm_some (Q := fun r => r = _) rfl)) (fun r hr => ?_)
    rw [hr]
    refine Tm_chk (u_in (by show uN (nI t) < sN σ 3; omega) (by show sN σ 3 ≤ _; omega)) ?_
    rw [show ((lI (lI L 4 ((L.1 3 + 3) >>> ((2 : Int32) &&& 31))) 5 (nI t)).1 5).toNatClampNeg = t from (u_cl (x := nI t) (by omega)).trans et, hpC_a]
    refine Tm_suc (fun k => by rw [y_X1_makeString__a13]) ?_
    have hd := hd_of (K := 4) (F := 0 <<< ((3 : Int32) &&& 31)) (n := L.1 3) (s := 1 + ((L.1 3 + 3) >>> ((2 : Int32) &&& 31))) (hh := 0) (k := 4) (f := 0) rfl (by decide) (by decide) (by decide) rfl (by omega) e1 (by omega) (T := 0) rfl (by decide)
    refine ms13_7 (n := uN (L.1 3)) (s := uN (L.1 2)) h rfl (by omega) hs' (by omega) (hd.trans (by omega)) (uN (L.1 3)) _ _ ?_ ?_ ?_ ?_ ?_ ?_
    · show 0 + _ = _; omega
    · rfl
    · rfl
    · rfl
    · intro p hp
      rw [upd_other (by omega)]
    · exact upd_same
  · have c4 : uN (L.1 3) = 1 := by
      rw [i_lt, u_int (L.1 3)] at c c0
      have c' : ¬ 1 < (if uN (L.1 3) < 2147483648 then (uN (L.1 3) : Int) else (uN (L.1 3) : Int) - 4294967296) := c
      have c'' : 0 < (if uN (L.1 3) < 2147483648 then (uN (L.1 3) : Int) else (uN (L.1 3) : Int) - 4294967296) := c0
      have := u_lt (L.1 3)
      split at c' <;> omega
    have hs' := hs (by omega) (by omega)
    refine Tm_suc (fun k => by rw [y_X1_makeString__a13]) ?_
    refine Tm_chk (u_in (by omega) (by decide)) ?_
    refine Tm_suc (fun k => by rw [y_X1_makeString__a13]) ?_
    refine Tm_some (Mk_id h (Or.inl ?_))
    have e : uN (-1073741824 ||| (σ.2.2.1 13 (L.1 2).toNatClampNeg &&& 255)) = 3221225472 + uN (σ.2.2.1 13 (L.1 2).toNatClampNeg) % 256 := by
      rw [u_orB (k := 8) (a := 12582912) (by rw [u_and8, u_n (by omega)]; omega) (by decide), u_and8, u_n (by omega)]; rfl
    show Gv g (-1073741824 ||| (σ.2.2.1 13 (L.1 2).toNatClampNeg &&& 255)) ∧ kdC (σ.2.2.1 3) (-1073741824 ||| (σ.2.2.1 13 (L.1 2).toNatClampNeg &&& 255)) = 4
    refine ⟨Or.inl ⟨by omega, by omega⟩, ?_⟩
    unfold kdC
    rw [if_neg (by omega)]
    omega
  · refine Tm_suc (fun k => by rw [y_X1_makeString__a13]) ?_
    refine Tm_some (Mk_id h (Or.inl ⟨Or.inr ⟨by show uN 0 < 160000; decide, h.2.2.2.1.1⟩, ?_⟩))
    show (if uN 0 < 2147483648 then hdK (uN (σ.2.2.1 3 (uN 0))) else uN 0 / 268435456 % 8) = 4
    rw [if_pos (by decide), show uN 0 = 0 from rfl, h.2.2.2.2.1.1]
    decide
end CRK
end JnS347

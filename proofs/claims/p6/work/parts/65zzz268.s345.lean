/-! The class: a tuple or a set out of a row (three rows: S345.tpl by its row and length). -/
section CRI
variable {g g' : Nat → Prop} {l : List Nat} {t t' : Nat} {σ : CS} {L : LV} {x y i : Int32} {M M' : Nat → Int32}
/-- midway in a row: i values seen -/
def RI16 (g : Nat → Prop) (σ : CS) (kd s n i : Nat) (L : LV) : Prop := uN (L.1 1) = kd ∧ uN (L.1 3) = s ∧ uN (L.1 4) = n ∧ uN (L.1 8) = s + i ∧ i ≤ n ∧ (i + 1 ≤ uN (L.1 5) ∧ uN (L.1 5) ≤ 3000) ∧ uN (L.1 6) ≤ 30 ∧ (∀ j, j < i → hgt (σ.2.2.1 3) (σ.2.2.1 16 (s + j)) ≤ uN (L.1 6)) ∧ (L.1 7 = 0 ∨ (kd = 6 ∧ ∀ j, j < i → uN (σ.2.2.1 16 (s + j)) < 2147483648 ∧ uN (σ.2.2.1 3 (uN (σ.2.2.1 16 (s + j)))) % 65536 = 37))
theorem mr16_7 (h : HQ g l t σ) {kd s n i : Nat} (hk : kd = 5 ∨ kd = 6) (n1 : 1 ≤ n) (hb : 2048 ≤ 2147483648) (hs : s + n ≤ 2048) (hv : ∀ j, j < n → Gv g (σ.2.2.1 16 (s + j))) (hI : RI16 g σ kd s n i L) (he : i = n ∨ 1000 < uN (L.1 5)) : Tm (fun k => y_X1_makeRow__a16 k 7 L σ) (Mk g t σ kd) := by
  obtain ⟨a1, a3, a4, a8, ai, ⟨a5, b5⟩, a6, ah, am⟩ := hI
  have e11 : ∀ L' : LV, Tm (fun k => y_X1_makeRow__a16 k 11 L' σ) (Mk g t σ kd) := by
    intro L'
    refine Tm_suc (fun k => by rw [y_X1_makeRow__a16]) ?_
    exact Tm_some (Mk_id h (Or.inr (by show 4026531840 ≤ uN (-268435451) ∧ ¬ uN (-268435451) % 16 = 0; decide)))
  refine Tm_suc (fun k => by rw [y_X1_makeRow__a16]) ?_
  refine Tm_ite (fun _ => e11 _) (fun c5 => ?_)
  rw [u_ltn (by decide) (by omega)] at c5
  have c5' : uN (L.1 5) ≤ 1000 := Nat.le_of_not_lt c5
  refine Tm_ite (fun c6 => ?_) (fun _ => e11 _)
  rw [u_ltn (by omega) (by decide)] at c6
  have c6' : uN (L.1 6) < 30 := c6
  have en : i = n := by omega
  subst en
  have hn := HQ_n h
  have h21 := h.2.1
  refine Tm_suc (fun k => by rw [y_X1_makeRow__a16]) ?_
  rw [h.1, show Int32.ofNat (sN σ 3) - nI t = nI (sN σ 3 - t) from n_sub (by omega) h21.2]
  have eu : uN (nI (sN σ 3 - t)) = sN σ 3 - t := u_n (by omega)
  have e1 : uN (1 + L.1 4) = 1 + i := by
    rw [u_add (x := 1) (by show 1 + uN (L.1 4) < _; omega), a4]; rfl
  refine Tm_ite (fun c => ?_) (fun _ => Tm_some (Mk_id h (Or.inr (by show 4026531840 ≤ uN (-268435450) ∧ ¬ uN (-268435450) % 16 = 0; decide))))
  rw [u_le (by omega) (by omega), e1, eu] at c
  have et : uN (nI t) = t := u_n (by omega)
  have e8 : nI t + 1 + L.1 4 = nI (t + 1 + i) := by
    rw [u_eq, u_add (by rw [u_inc (by omega)]; omega), u_inc (by omega), et, a4, u_n (by omega)]
  have b21 : ∀ (L' : LV) (f : Nat), f < 2 → uN (L'.1 100) = f * 8 → uN (L'.1 101) = kd → L'.1 102 = nI t → L'.1 3 = L.1 3 → L'.1 4 = L.1 4 → L'.1 5 = L.1 5 → L'.1 6 = L.1 6 → L'.1 8 = nI t → (f = 1 → ∀ j, j < i → uN (σ.2.2.1 16 (s + j)) < 2147483648 ∧ uN (σ.2.2.1 3 (uN (σ.2.2.1 16 (s + j)))) % 65536 = 37) → Tm (fun k => y_X1_makeRow__a16 k 21 L' (hpC σ (t + 1 + i) (σ.2.2.1 3))) (Mk g t σ kd) := by
    intro L' f f2 d100 d101 d102 d3 d4 d5 d6 d8 hf
    refine Tm_suc (fun k => by rw [y_X1_makeRow__a16]) ?_
    rw [d102, d3, d4, d5, d6, d8]
    refine Tm_chk (u_in (by show uN (nI t) < sN σ 3; omega) (by show sN σ 3 ≤ _; omega)) ?_
    rw [u_cl (x := nI t) (by omega), et, hpC_a]
    have et1 : uN (nI t + 1) = t + 1 := by rw [u_inc (by omega), et]
    refine Tm_chk ⟨by rw [u_neg]; omega, by rw [u_neg]; omega, by rw [u_neg]; omega, by rw [u_cl (by omega), u_cl (by omega), a3, a4]; exact hs, by rw [u_cl (by omega), u_cl (by omega), et1, a4]; show t + 1 + i ≤ sN σ 3; omega⟩ ?_
    rw [u_cl (x := L.1 3) (by omega), u_cl (x := L.1 4) (by omega), u_cl (x := nI t + 1) (by omega), et1, a3, a4, hpC_f]
    refine Tm_some ?_
    have eh := hd_of (K := L'.1 101) (F := L'.1 100) (n := L.1 4) (s := L.1 5) (hh := L.1 6 + 1) d101 (by omega) d100 f2 a4 (by omega) rfl (by omega) (show uN (L.1 6 + 1) = uN (L.1 6) + 1 from u_inc (by omega)) (by omega)
    exact Mk_row (R := σ.2.2.1 16) h hk f2 (by omega) (by omega) c5' (by omega) (by omega) eh (by omega) (fun j hj => ⟨hv j hj, Nat.lt_succ_of_le (ah j hj)⟩) hf
  refine Tm_suc (fun k => by rw [y_X1_makeRow__a16]) ?_
  rw [hpC_i (t := t + 1 + i) σ (show (lI L 8 (nI t)).1 8 + 1 + (lI L 8 (nI t)).1 4 = nI (t + 1 + i) from e8)]
  refine Tm_ite (fun _ => ?_) (fun c7 => ?_)
  · refine Tm_suc (fun k => by rw [y_X1_makeRow__a16]) ?_
    refine b21 _ 0 (by decide) ?_ ?_ ?_ ?_ ?_ ?_ ?_ ?_ (fun z => absurd z (by decide))
    · rfl
    · exact a1
    · rfl
    · rfl
    · rfl
    · rfl
    · rfl
    · rfl
  · refine b21 _ 1 (by decide) ?_ ?_ ?_ ?_ ?_ ?_ ?_ ?_ (fun _ => ?_)
    · rfl
    · exact a1
    · rfl
    · rfl
    · rfl
    · rfl
    · rfl
    · rfl
    · rcases am with am | am
      · exact absurd am c7
      · exact am.2
theorem mr16_6 (h : HQ g l t σ) {kd s n : Nat} (hk : kd = 5 ∨ kd = 6) (n1 : 1 ≤ n) (hb : 2048 ≤ 2147483648) (hs : s + n ≤ 2048) (hv : ∀ j, j < n → Gv g (σ.2.2.1 16 (s + j))) : ∀ (m i : Nat) (L : LV), i + m = n → RI16 g σ kd s n i L → s + n < 2147480000 → Tm (fun k => y_X1_makeRow__a16 k 6 L σ) (Mk g t σ kd) := by
  intro m
  induction m with
  | zero =>
    intro i L hm hI hsn
    have en : i = n := by omega
    have go := mr16_7 h hk n1 hb hs hv hI (Or.inl en)
    obtain ⟨a1, a3, a4, a8, ai, ⟨a5, b5⟩, a6, ah, am⟩ := hI
    refine Tm_suc (fun k => by rw [y_X1_makeRow__a16]) ?_
    refine Tm_yes ?_ go
    have e : uN (L.1 3 + L.1 4) = s + n := by rw [u_add (by omega), a3, a4]
    rw [u_le (by omega) (by omega), e, a8]
    omega
  | succ m ih =>
    intro i L hm hI hsn
    have go : 1000 < uN (L.1 5) → Tm (fun k => y_X1_makeRow__a16 k 7 L σ) (Mk g t σ kd) := fun z => mr16_7 h hk n1 hb hs hv hI (Or.inr z)
    obtain ⟨a1, a3, a4, a8, ai, ⟨a5, b5⟩, a6, ah, am⟩ := hI
    have nx : ∀ L' : LV, L'.1 1 = L.1 1 → L'.1 3 = L.1 3 → L'.1 4 = L.1 4 → L'.1 8 = L.1 8 → i + 2 ≤ uN (L'.1 5) → uN (L'.1 5) ≤ 3000 → uN (L'.1 6) ≤ 30 → (∀ j, j < i + 1 → hgt (σ.2.2.1 3) (σ.2.2.1 16 (s + j)) ≤ uN (L'.1 6)) → (L'.1 7 = 0 ∨ (kd = 6 ∧ ∀ j, j < i + 1 → uN (σ.2.2.1 16 (s + j)) < 2147483648 ∧ uN (σ.2.2.1 3 (uN (σ.2.2.1 16 (s + j)))) % 65536 = 37)) → Tm (fun k => y_X1_makeRow__a16 k 19 L' σ) (Mk g t σ kd) := by
      intro L' d1 d3 d4 d8 d5 e5 d6 dh dm
      refine Tm_suc (fun k => by rw [y_X1_makeRow__a16]) ?_
      refine ih (i + 1) _ (by omega) ⟨?_, ?_, ?_, ?_, by omega, ⟨d5, e5⟩, d6, dh, dm⟩ hsn
      · show uN (L'.1 1) = kd; rw [d1, a1]
      · show uN (L'.1 3) = s; rw [d3, a3]
      · show uN (L'.1 4) = n; rw [d4, a4]
      · show uN (L'.1 8 + 1) = s + (i + 1)
        rw [d8, u_inc (by omega), a8]; omega
    have jx : ∀ {P : Nat → Prop}, (∀ j, j < i → P j) → P i → ∀ j, j < i + 1 → P j := by
      intro P p1 p2 j hj
      rcases Nat.lt_or_ge j i with z | z
      · exact p1 j z
      · rw [show j = i from by omega]; exact p2
    refine Tm_suc (fun k => by rw [y_X1_makeRow__a16]) ?_
    have e : uN (L.1 3 + L.1 4) = s + n := by rw [u_add (by omega), a3, a4]
    refine Tm_ite (fun c => absurd c ?_) (fun _ => ?_)
    · rw [u_le (by omega) (by omega), e, a8]; omega
    refine Tm_ite (fun c => go ?_) (fun c => ?_)
    · rw [u_ltn (by decide) (by omega)] at c; exact c
    rw [u_ltn (by decide) (by omega)] at c
    have c5 : uN (L.1 5) ≤ 1000 := Nat.le_of_not_lt c
    refine Tm_chk (u_in (by omega) hb) ?_
    rw [u_cl (x := L.1 8) (by omega), a8]
    have gi := hv i (by omega)
    refine Tm_ite (fun c0 => ?_) (fun c0 => ?_)
    · rw [u_neg] at c0
      have h0 : hgt (σ.2.2.1 3) (σ.2.2.1 16 (s + i)) = 0 := by unfold hgt; rw [if_neg (by omega)]
      have b18 : ∀ (L' : LV) (z : Int32), L'.1 1 = L.1 1 → L'.1 3 = L.1 3 → L'.1 4 = L.1 4 → L'.1 8 = L.1 8 → L'.1 6 = L.1 6 → L'.1 101 = L.1 5 → L'.1 100 = z → 1 ≤ uN z → uN z ≤ 2 → Tm (fun k => y_X1_makeRow__a16 k 18 L' σ) (Mk g t σ kd) := by
        intro L' z d1 d3 d4 d8 d6 d101 d100 z1 z2
        have es : uN (L'.1 101 + L'.1 100) = uN (L.1 5) + uN z := by rw [d101, d100, u_add (by omega)]
        refine Tm_suc (fun k => by rw [y_X1_makeRow__a16]) ?_
        refine nx _ ?_ ?_ ?_ ?_ ?_ ?_ ?_ ?_ ?_
        · exact d1
        · exact d3
        · exact d4
        · exact d8
        · show i + 2 ≤ uN (L'.1 101 + L'.1 100); rw [es]; omega
        · show uN (L'.1 101 + L'.1 100) ≤ 3000; rw [es]; omega
        · show uN (L'.1 6) ≤ 30; rw [d6]; exact a6
        · show ∀ j, j < i + 1 → hgt (σ.2.2.1 3) (σ.2.2.1 16 (s + j)) ≤ uN (L'.1 6)
          rw [d6]
          exact jx ah (by omega)
        · exact Or.inl rfl
      have b13 : ∀ L' : LV, L'.1 1 = L.1 1 → L'.1 3 = L.1 3 → L'.1 4 = L.1 4 → L'.1 8 = L.1 8 → L'.1 6 = L.1 6 → L'.1 100 = L.1 5 → Tm (fun k => y_X1_makeRow__a16 k 13 L' σ) (Mk g t σ kd) := by
        intro L' d1 d3 d4 d8 d6 d100
        refine Tm_suc (fun k => by rw [y_X1_makeRow__a16]) ?_
        refine b18 _ 2 ?_ ?_ ?_ ?_ ?_ ?_ ?_ (by decide) (by decide)
        · exact d1
        · exact d3
        · exact d4
        · exact d8
        · exact d6
        · exact d100
        · rfl
      have b14 : ∀ L' : LV, L'.1 1 = L.1 1 → L'.1 3 = L.1 3 → L'.1 4 = L.1 4 → L'.1 8 = L.1 8 → L'.1 6 = L.1 6 → L'.1 100 = L.1 5 → Tm (fun k => y_X1_makeRow__a16 k 14 L' σ) (Mk g t σ kd) := by
        intro L' d1 d3 d4 d8 d6 d100
        refine Tm_suc (fun k => by rw [y_X1_makeRow__a16]) ?_
        refine b18 _ 1 ?_ ?_ ?_ ?_ ?_ ?_ ?_ (by decide) (by decide)
        · exact d1
        · exact d3
        · exact d4
        · exact d8
        · exact d6
        · exact d100
        · rfl
      refine Tm_suc (fun k => by rw [y_X1_makeRow__a16]) ?_
      refine Tm_ite (fun _ => b13 _ rfl rfl rfl rfl rfl rfl) (fun _ => Tm_ite (fun _ => Tm_ite (fun _ => b14 _ rfl rfl rfl rfl rfl rfl) (fun _ => b13 _ rfl rfl rfl rfl rfl rfl)) (fun _ => b14 _ rfl rfl rfl rfl rfl rfl))
    · rw [u_neg] at c0
      have cc : uN (σ.2.2.1 16 (s + i)) < 2147483648 := by omega
      refine Tm_chk (in_g h gi cc) ?_
      rw [u_cl cc, e_siz, e_hgt]
      have cg := (HQ_c h (Gv_c gi cc).2).2.2.2.2
      have s1 := cg.2.2.2.1
      have s2 : hdS (uN (σ.2.2.1 3 (uN (σ.2.2.1 16 (s + i))))) < 1024 := Nat.mod_lt _ (by decide)
      have hh : hgt (σ.2.2.1 3) (σ.2.2.1 16 (s + i)) = hdT (uN (σ.2.2.1 3 (uN (σ.2.2.1 16 (s + i))))) := by unfold hgt; rw [if_pos cc]
      have eT : uN (nI (hdT (uN (σ.2.2.1 3 (uN (σ.2.2.1 16 (s + i))))))) = hdT (uN (σ.2.2.1 3 (uN (σ.2.2.1 16 (s + i))))) := u_n (by omega)
      have eS : uN (L.1 5 + nI (hdS (uN (σ.2.2.1 3 (uN (σ.2.2.1 16 (s + i))))))) = uN (L.1 5) + hdS (uN (σ.2.2.1 3 (uN (σ.2.2.1 16 (s + i))))) := by
        rw [u_add (by rw [u_n (by omega)]; omega), u_n (by omega)]
      have b10 : ∀ L' : LV, L'.1 1 = L.1 1 → L'.1 3 = L.1 3 → L'.1 4 = L.1 4 → L'.1 8 = L.1 8 → L'.1 7 = L.1 7 → L'.1 5 = L.1 5 + nI (hdS (uN (σ.2.2.1 3 (uN (σ.2.2.1 16 (s + i)))))) → L'.1 10 = σ.2.2.1 3 (uN (σ.2.2.1 16 (s + i))) → uN (L'.1 100) ≤ 30 → (∀ j, j < i + 1 → hgt (σ.2.2.1 3) (σ.2.2.1 16 (s + j)) ≤ uN (L'.1 100)) → Tm (fun k => y_X1_makeRow__a16 k 10 L' σ) (Mk g t σ kd) := by
        intro L' d1 d3 d4 d8 d7 d5 d10 d100 dh
        have b16 : ∀ L2 : LV, L2.1 1 = L.1 1 → L2.1 3 = L.1 3 → L2.1 4 = L.1 4 → L2.1 8 = L.1 8 → L2.1 5 = L'.1 5 → L2.1 6 = L'.1 100 → (L2.1 100 = 0 ∨ (kd = 6 ∧ ∀ j, j < i + 1 → uN (σ.2.2.1 16 (s + j)) < 2147483648 ∧ uN (σ.2.2.1 3 (uN (σ.2.2.1 16 (s + j)))) % 65536 = 37)) → Tm (fun k => y_X1_makeRow__a16 k 16 L2 σ) (Mk g t σ kd) := by
          intro L2 z1 z3 z4 z8 z5 z6 zm
          refine Tm_suc (fun k => by rw [y_X1_makeRow__a16]) ?_
          refine nx _ ?_ ?_ ?_ ?_ ?_ ?_ ?_ ?_ ?_
          · exact z1
          · exact z3
          · exact z4
          · exact z8
          · show i + 2 ≤ uN (L2.1 5); rw [z5, d5, eS]; omega
          · show uN (L2.1 5) ≤ 3000; rw [z5, d5, eS]; omega
          · show uN (L2.1 6) ≤ 30; rw [z6]; exact d100
          · show ∀ j, j < i + 1 → hgt (σ.2.2.1 3) (σ.2.2.1 16 (s + j)) ≤ uN (L2.1 6)
            rw [z6]; exact dh
          · exact zm
        have b15 : ∀ L2 : LV, L2.1 1 = L.1 1 → L2.1 3 = L.1 3 → L2.1 4 = L.1 4 → L2.1 8 = L.1 8 → L2.1 5 = L'.1 5 → L2.1 6 = L'.1 100 → Tm (fun k => y_X1_makeRow__a16 k 15 L2 σ) (Mk g t σ kd) := by
          intro L2 z1 z3 z4 z8 z5 z6
          refine Tm_suc (fun k => by rw [y_X1_makeRow__a16]) ?_
          refine b16 _ ?_ ?_ ?_ ?_ ?_ ?_ ?_
          · exact z1
          · exact z3
          · exact z4
          · exact z8
          · exact z5
          · exact z6
          · exact Or.inl rfl
        refine Tm_suc (fun k => by rw [y_X1_makeRow__a16]) ?_
        refine Tm_ite (fun _ => ?_) (fun c7 => Tm_ite (fun cp => ?_) (fun _ => ?_))
        · refine b15 _ ?_ ?_ ?_ ?_ ?_ ?_
          · exact d1
          · exact d3
          · exact d4
          · exact d8
          · rfl
          · rfl
        · rw [d10, e_low, u_eq, u_n (by omega)] at cp
          rw [d7] at c7
          refine b16 _ ?_ ?_ ?_ ?_ ?_ ?_ ?_
          · exact d1
          · exact d3
          · exact d4
          · exact d8
          · rfl
          · rfl
          · rcases am with am | am
            · exact absurd am c7
            · exact Or.inr ⟨am.1, jx am.2 ⟨cc, cp⟩⟩
        · refine b15 _ ?_ ?_ ?_ ?_ ?_ ?_
          · exact d1
          · exact d3
          · exact d4
          · exact d8
          · rfl
          · rfl
      refine Tm_ite (fun c6 => ?_) (fun c6 => ?_)
      · rw [u_le (by omega) (by omega), eT] at c6
        refine Tm_suc (fun k => by rw [y_X1_makeRow__a16]) ?_
        refine b10 _ ?_ ?_ ?_ ?_ ?_ ?_ ?_ ?_ ?_
        · rfl
        · rfl
        · rfl
        · rfl
        · rfl
        · rfl
        · rfl
        · show uN (((σ.2.2.1 3 (uN (σ.2.2.1 16 (s + i)))).toUInt32 >>> ((26 : Int32).toUInt32 &&& Int32.toUInt32 31)).toInt32) ≤ 30
          rw [e_hgt, eT]; exact s1.1
        · show ∀ j, j < i + 1 → hgt (σ.2.2.1 3) (σ.2.2.1 16 (s + j)) ≤ uN (((σ.2.2.1 3 (uN (σ.2.2.1 16 (s + i)))).toUInt32 >>> ((26 : Int32).toUInt32 &&& Int32.toUInt32 31)).toInt32)
          rw [e_hgt, eT]
          exact jx (fun j hj => by have := ah j hj; omega) (by omega)
      · rw [u_le (by omega) (by omega), eT] at c6
        refine b10 _ ?_ ?_ ?_ ?_ ?_ ?_ ?_ ?_ ?_
        · rfl
        · rfl
        · rfl
        · rfl
        · rfl
        · rfl
        · rfl
        · exact a6
        · exact jx ah (by show _ ≤ uN (L.1 6); omega)
theorem c_makeRow16 (h : HQ g l t σ) {kd : Nat} (hk : kd = 5 ∨ kd = 6) (hb : 2048 ≤ 2147470000) (h1 : uN (L.1 1) = kd) (hs : 1 ≤ uN (L.1 4) → uN (L.1 4) < 2147483648 → uN (L.1 3) + uN (L.1 4) ≤ 2048 ∧ ∀ j, j < uN (L.1 4) → Gv g (σ.2.2.1 16 (uN (L.1 3) + j))) : Tm (fun k => y_X1_makeRow__a16 k 0 L σ) (Mk g t σ kd) := by
  have e1 := h.2.2.2.2.1
  have b3 : ∀ (L' : LV) (z : Nat), L'.1 100 = nI z → z < 3 → hdK (uN (σ.2.2.1 3 z)) = kd → g z → Tm (fun k => y_X1_makeRow__a16 k 3 L' σ) (Mk g t σ kd) := by
    intro L' z d100 z3 zk zg
    refine Tm_suc (fun k => by rw [y_X1_makeRow__a16]) ?_
    have eu : uN (nI z) = z := u_n (by omega)
    refine Tm_some (Mk_id h (Or.inl ⟨?_, ?_⟩))
    · rw [d100]
      exact Or.inr ⟨by omega, by rw [eu]; exact zg⟩
    · rw [d100]
      unfold kdC
      rw [if_pos (by omega), eu]
      exact zk
  refine Tm_suc (fun k => by rw [y_X1_makeRow__a16]) ?_
  refine Tm_ite (fun c => ?_) (fun c => ?_)
  · have c4 : 1 ≤ uN (L.1 4) ∧ uN (L.1 4) < 2147483648 := by
      rw [i_lt, u_int (L.1 4)] at c
      have c' : 0 < (if uN (L.1 4) < 2147483648 then (uN (L.1 4) : Int) else (uN (L.1 4) : Int) - 4294967296) := c
      have := u_lt (L.1 4)
      split at c' <;> omega
    obtain ⟨s1, s2⟩ := hs c4.1 c4.2
    have go : ∀ L' : LV, L'.1 1 = L.1 1 → L'.1 3 = L.1 3 → L'.1 4 = L.1 4 → L'.1 5 = 1 → L'.1 6 = 0 → (L'.1 100 = 0 ∨ kd = 6) → Tm (fun k => y_X1_makeRow__a16 k 5 L' σ) (Mk g t σ kd) := by
      intro L' d1 d3 d4 d5 d6 d7
      refine Tm_suc (fun k => by rw [y_X1_makeRow__a16]) ?_
      refine mr16_6 (s := uN (L.1 3)) (n := uN (L.1 4)) h hk c4.1 (by omega) s1 s2 (uN (L.1 4)) 0 _ (by omega) ⟨?_, ?_, ?_, ?_, by omega, ⟨?_, ?_⟩, ?_, fun j hj => absurd hj (by omega), ?_⟩ (by omega)
      · show uN (L'.1 1) = kd; rw [d1, h1]
      · show uN (L'.1 3) = _; rw [d3]
      · show uN (L'.1 4) = _; rw [d4]
      · show uN (L'.1 3) = _; rw [d3]; omega
      · show 0 + 1 ≤ uN (L'.1 5); rw [d5]; decide
      · show uN (L'.1 5) ≤ 3000; rw [d5]; decide
      · show uN (L'.1 6) ≤ 30; rw [d6]; decide
      · exact d7.imp id (fun z => ⟨z, fun j hj => absurd hj (by omega)⟩)
    refine Tm_suc (fun k => by rw [y_X1_makeRow__a16]) ?_
    refine Tm_ite (fun c6 => ?_) (fun c6 => ?_)
    · rw [u_eq, h1] at c6
      exact go _ rfl rfl rfl rfl rfl (Or.inr c6)
    · refine Tm_suc (fun k => by rw [y_X1_makeRow__a16]) ?_
      exact go _ rfl rfl rfl rfl rfl (Or.inl rfl)
  · refine Tm_ite (fun c6 => ?_) (fun c6 => ?_)
    · rw [u_eq, h1] at c6
      have c6' : kd = 6 := c6
      refine b3 _ 2 rfl (by decide) ?_ h.2.2.2.1.2.2
      rw [e1.2.2, c6']; decide
    · rw [u_eq, h1] at c6
      have c6' : ¬ kd = 6 := c6
      refine Tm_suc (fun k => by rw [y_X1_makeRow__a16]) ?_
      refine b3 _ 1 rfl (by decide) ?_ h.2.2.2.1.2.1
      rw [e1.2.1, show kd = 5 from by omega]; decide
/-- midway in a row: i values seen -/
def RI17 (g : Nat → Prop) (σ : CS) (kd s n i : Nat) (L : LV) : Prop := uN (L.1 1) = kd ∧ uN (L.1 3) = s ∧ uN (L.1 4) = n ∧ uN (L.1 8) = s + i ∧ i ≤ n ∧ (i + 1 ≤ uN (L.1 5) ∧ uN (L.1 5) ≤ 3000) ∧ uN (L.1 6) ≤ 30 ∧ (∀ j, j < i → hgt (σ.2.2.1 3) (σ.2.2.1 17 (s + j)) ≤ uN (L.1 6)) ∧ (L.1 7 = 0 ∨ (kd = 6 ∧ ∀ j, j < i → uN (σ.2.2.1 17 (s + j)) < 2147483648 ∧ uN (σ.2.2.1 3 (uN (σ.2.2.1 17 (s + j)))) % 65536 = 37))
theorem mr17_7 (h : HQ g l t σ) {kd s n i : Nat} (hk : kd = 5 ∨ kd = 6) (n1 : 1 ≤ n) (hb : 8 ≤ 2147483648) (hs : s + n ≤ 8) (hv : ∀ j, j < n → Gv g (σ.2.2.1 17 (s + j))) (hI : RI17 g σ kd s n i L) (he : i = n ∨ 1000 < uN (L.1 5)) : Tm (fun k => y_X1_makeRow__a17 k 7 L σ) (Mk g t σ kd) := by
  obtain ⟨a1, a3, a4, a8, ai, ⟨a5, b5⟩, a6, ah, am⟩ := hI
  have e11 : ∀ L' : LV, Tm (fun k => y_X1_makeRow__a17 k 11 L' σ) (Mk g t σ kd) := by
    intro L'
    refine Tm_suc (fun k => by rw [y_X1_makeRow__a17]) ?_
    exact Tm_some (Mk_id h (Or.inr (by show 4026531840 ≤ uN (-268435451) ∧ ¬ uN (-268435451) % 16 = 0; decide)))
  refine Tm_suc (fun k => by rw [y_X1_makeRow__a17]) ?_
  refine Tm_ite (fun _ => e11 _) (fun c5 => ?_)
  rw [u_ltn (by decide) (by omega)] at c5
  have c5' : uN (L.1 5) ≤ 1000 := Nat.le_of_not_lt c5
  refine Tm_ite (fun c6 => ?_) (fun _ => e11 _)
  rw [u_ltn (by omega) (by decide)] at c6
  have c6' : uN (L.1 6) < 30 := c6
  have en : i = n := by omega
  subst en
  have hn := HQ_n h
  have h21 := h.2.1
  refine Tm_suc (fun k => by rw [y_X1_makeRow__a17]) ?_
  rw [h.1, show Int32.ofNat (sN σ 3) - nI t = nI (sN σ 3 - t) from n_sub (by omega) h21.2]
  have eu : uN (nI (sN σ 3 - t)) = sN σ 3 - t := u_n (by omega)
  have e1 : uN (1 + L.1 4) = 1 + i := by
    rw [u_add (x := 1) (by show 1 + uN (L.1 4) < _; omega), a4]; rfl
  refine Tm_ite (fun c => ?_) (fun _ => Tm_some (Mk_id h (Or.inr (by show 4026531840 ≤ uN (-268435450) ∧ ¬ uN (-268435450) % 16 = 0; decide))))
  rw [u_le (by omega) (by omega), e1, eu] at c
  have et : uN (nI t) = t := u_n (by omega)
  have e8 : nI t + 1 + L.1 4 = nI (t + 1 + i) := by
    rw [u_eq, u_add (by rw [u_inc (by omega)]; omega), u_inc (by omega), et, a4, u_n (by omega)]
  have b21 : ∀ (L' : LV) (f : Nat), f < 2 → uN (L'.1 100) = f * 8 → uN (L'.1 101) = kd → L'.1 102 = nI t → L'.1 3 = L.1 3 → L'.1 4 = L.1 4 → L'.1 5 = L.1 5 → L'.1 6 = L.1 6 → L'.1 8 = nI t → (f = 1 → ∀ j, j < i → uN (σ.2.2.1 17 (s + j)) < 2147483648 ∧ uN (σ.2.2.1 3 (uN (σ.2.2.1 17 (s + j)))) % 65536 = 37) → Tm (fun k => y_X1_makeRow__a17 k 21 L' (hpC σ (t + 1 + i) (σ.2.2.1 3))) (Mk g t σ kd) := by
    intro L' f f2 d100 d101 d102 d3 d4 d5 d6 d8 hf
    refine Tm_suc (fun k => by rw [y_X1_makeRow__a17]) ?_
    rw [d102, d3, d4, d5, d6, d8]
    refine Tm_chk (u_in (by show uN (nI t) < sN σ 3; omega) (by show sN σ 3 ≤ _; omega)) ?_
    rw [u_cl (x := nI t) (by omega), et, hpC_a]
    have et1 : uN (nI t + 1) = t + 1 := by rw [u_inc (by omega), et]
    refine Tm_chk ⟨by rw [u_neg]; omega, by rw [u_neg]; omega, by rw [u_neg]; omega, by rw [u_cl (by omega), u_cl (by omega), a3, a4]; exact hs, by rw [u_cl (by omega), u_cl (by omega), et1, a4]; show t + 1 + i ≤ sN σ 3; omega⟩ ?_
    rw [u_cl (x := L.1 3) (by omega), u_cl (x := L.1 4) (by omega), u_cl (x := nI t + 1) (by omega), et1, a3, a4, hpC_f]
    refine Tm_some ?_
    have eh := hd_of (K := L'.1 101) (F := L'.1 100) (n := L.1 4) (s := L.1 5) (hh := L.1 6 + 1) d101 (by omega) d100 f2 a4 (by omega) rfl (by omega) (show uN (L.1 6 + 1) = uN (L.1 6) + 1 from u_inc (by omega)) (by omega)
    exact Mk_row (R := σ.2.2.1 17) h hk f2 (by omega) (by omega) c5' (by omega) (by omega) eh (by omega) (fun j hj => ⟨hv j hj, Nat.lt_succ_of_le (ah j hj)⟩) hf
  refine Tm_suc (fun k => by rw [y_X1_makeRow__a17]) ?_
  rw [hpC_i (t := t + 1 + i) σ (show (lI L 8 (nI t)).1 8 + 1 + (lI L 8 (nI t)).1 4 = nI (t + 1 + i) from e8)]
  refine Tm_ite (fun _ => ?_) (fun c7 => ?_)
  · refine Tm_suc (fun k => by rw [y_X1_makeRow__a17]) ?_
    refine b21 _ 0 (by decide) ?_ ?_ ?_ ?_ ?_ ?_ ?_ ?_ (fun z => absurd z (by decide))
    · rfl
    · exact a1
    · rfl
    · rfl
    · rfl
    · rfl
    · rfl
    · rfl
  · refine b21 _ 1 (by decide) ?_ ?_ ?_ ?_ ?_ ?_ ?_ ?_ (fun _ => ?_)
    · rfl
    · exact a1
    · rfl
    · rfl
    · rfl
    · rfl
    · rfl
    · rfl
    · rcases am with am | am
      · exact absurd am c7
      · exact am.2
theorem mr17_6 (h : HQ g l t σ) {kd s n : Nat} (hk : kd = 5 ∨ kd = 6) (n1 : 1 ≤ n) (hb : 8 ≤ 2147483648) (hs : s + n ≤ 8) (hv : ∀ j, j < n → Gv g (σ.2.2.1 17 (s + j))) : ∀ (m i : Nat) (L : LV), i + m = n → RI17 g σ kd s n i L → s + n < 2147480000 → Tm (fun k => y_X1_makeRow__a17 k 6 L σ) (Mk g t σ kd) := by
  intro m
  induction m with
  | zero =>
    intro i L hm hI hsn
    have en : i = n := by omega
    have go := mr17_7 h hk n1 hb hs hv hI (Or.inl en)
    obtain ⟨a1, a3, a4, a8, ai, ⟨a5, b5⟩, a6, ah, am⟩ := hI
    refine Tm_suc (fun k => by rw [y_X1_makeRow__a17]) ?_
    refine Tm_yes ?_ go
    have e : uN (L.1 3 + L.1 4) = s + n := by rw [u_add (by omega), a3, a4]
    rw [u_le (by omega) (by omega), e, a8]
    omega
  | succ m ih =>
    intro i L hm hI hsn
    have go : 1000 < uN (L.1 5) → Tm (fun k => y_X1_makeRow__a17 k 7 L σ) (Mk g t σ kd) := fun z => mr17_7 h hk n1 hb hs hv hI (Or.inr z)
    obtain ⟨a1, a3, a4, a8, ai, ⟨a5, b5⟩, a6, ah, am⟩ := hI
    have nx : ∀ L' : LV, L'.1 1 = L.1 1 → L'.1 3 = L.1 3 → L'.1 4 = L.1 4 → L'.1 8 = L.1 8 → i + 2 ≤ uN (L'.1 5) → uN (L'.1 5) ≤ 3000 → uN (L'.1 6) ≤ 30 → (∀ j, j < i + 1 → hgt (σ.2.2.1 3) (σ.2.2.1 17 (s + j)) ≤ uN (L'.1 6)) → (L'.1 7 = 0 ∨ (kd = 6 ∧ ∀ j, j < i + 1 → uN (σ.2.2.1 17 (s + j)) < 2147483648 ∧ uN (σ.2.2.1 3 (uN (σ.2.2.1 17 (s + j)))) % 65536 = 37)) → Tm (fun k => y_X1_makeRow__a17 k 19 L' σ) (Mk g t σ kd) := by
      intro L' d1 d3 d4 d8 d5 e5 d6 dh dm
      refine Tm_suc (fun k => by rw [y_X1_makeRow__a17]) ?_
      refine ih (i + 1) _ (by omega) ⟨?_, ?_, ?_, ?_, by omega, ⟨d5, e5⟩, d6, dh, dm⟩ hsn
      · show uN (L'.1 1) = kd; rw [d1, a1]
      · show uN (L'.1 3) = s; rw [d3, a3]
      · show uN (L'.1 4) = n; rw [d4, a4]
      · show uN (L'.1 8 + 1) = s + (i + 1)
        rw [d8, u_inc (by omega), a8]; omega
    have jx : ∀ {P : Nat → Prop}, (∀ j, j < i → P j) → P i → ∀ j, j < i + 1 → P j := by
      intro P p1 p2 j hj
      rcases Nat.lt_or_ge j i with z | z
      · exact p1 j z
      · rw [show j = i from by omega]; exact p2
    refine Tm_suc (fun k => by rw [y_X1_makeRow__a17]) ?_
    have e : uN (L.1 3 + L.1 4) = s + n := by rw [u_add (by omega), a3, a4]
    refine Tm_ite (fun c => absurd c ?_) (fun _ => ?_)
    · rw [u_le (by omega) (by omega), e, a8]; omega
    refine Tm_ite (fun c => go ?_) (fun c => ?_)
    · rw [u_ltn (by decide) (by omega)] at c; exact c
    rw [u_ltn (by decide) (by omega)] at c
    have c5 : uN (L.1 5) ≤ 1000 := Nat.le_of_not_lt c
    refine Tm_chk (u_in (by omega) hb) ?_
    rw [u_cl (x := L.1 8) (by omega), a8]
    have gi := hv i (by omega)
    refine Tm_ite (fun c0 => ?_) (fun c0 => ?_)
    · rw [u_neg] at c0
      have h0 : hgt (σ.2.2.1 3) (σ.2.2.1 17 (s + i)) = 0 := by unfold hgt; rw [if_neg (by omega)]
      have b18 : ∀ (L' : LV) (z : Int32), L'.1 1 = L.1 1 → L'.1 3 = L.1 3 → L'.1 4 = L.1 4 → L'.1 8 = L.1 8 → L'.1 6 = L.1 6 → L'.1 101 = L.1 5 → L'.1 100 = z → 1 ≤ uN z → uN z ≤ 2 → Tm (fun k => y_X1_makeRow__a17 k 18 L' σ) (Mk g t σ kd) := by
        intro L' z d1 d3 d4 d8 d6 d101 d100 z1 z2
        have es : uN (L'.1 101 + L'.1 100) = uN (L.1 5) + uN z := by rw [d101, d100, u_add (by omega)]
        refine Tm_suc (fun k => by rw [y_X1_makeRow__a17]) ?_
        refine nx _ ?_ ?_ ?_ ?_ ?_ ?_ ?_ ?_ ?_
        · exact d1
        · exact d3
        · exact d4
        · exact d8
        · show i + 2 ≤ uN (L'.1 101 + L'.1 100); rw [es]; omega
        · show uN (L'.1 101 + L'.1 100) ≤ 3000; rw [es]; omega
        · show uN (L'.1 6) ≤ 30; rw [d6]; exact a6
        · show ∀ j, j < i + 1 → hgt (σ.2.2.1 3) (σ.2.2.1 17 (s + j)) ≤ uN (L'.1 6)
          rw [d6]
          exact jx ah (by omega)
        · exact Or.inl rfl
      have b13 : ∀ L' : LV, L'.1 1 = L.1 1 → L'.1 3 = L.1 3 → L'.1 4 = L.1 4 → L'.1 8 = L.1 8 → L'.1 6 = L.1 6 → L'.1 100 = L.1 5 → Tm (fun k => y_X1_makeRow__a17 k 13 L' σ) (Mk g t σ kd) := by
        intro L' d1 d3 d4 d8 d6 d100
        refine Tm_suc (fun k => by rw [y_X1_makeRow__a17]) ?_
        refine b18 _ 2 ?_ ?_ ?_ ?_ ?_ ?_ ?_ (by decide) (by decide)
        · exact d1
        · exact d3
        · exact d4
        · exact d8
        · exact d6
        · exact d100
        · rfl
      have b14 : ∀ L' : LV, L'.1 1 = L.1 1 → L'.1 3 = L.1 3 → L'.1 4 = L.1 4 → L'.1 8 = L.1 8 → L'.1 6 = L.1 6 → L'.1 100 = L.1 5 → Tm (fun k => y_X1_makeRow__a17 k 14 L' σ) (Mk g t σ kd) := by
        intro L' d1 d3 d4 d8 d6 d100
        refine Tm_suc (fun k => by rw [y_X1_makeRow__a17]) ?_
        refine b18 _ 1 ?_ ?_ ?_ ?_ ?_ ?_ ?_ (by decide) (by decide)
        · exact d1
        · exact d3
        · exact d4
        · exact d8
        · exact d6
        · exact d100
        · rfl
      refine Tm_suc (fun k => by rw [y_X1_makeRow__a17]) ?_
      refine Tm_ite (fun _ => b13 _ rfl rfl rfl rfl rfl rfl) (fun _ => Tm_ite (fun _ => Tm_ite (fun _ => b14 _ rfl rfl rfl rfl rfl rfl) (fun _ => b13 _ rfl rfl rfl rfl rfl rfl)) (fun _ => b14 _ rfl rfl rfl rfl rfl rfl))
    · rw [u_neg] at c0
      have cc : uN (σ.2.2.1 17 (s + i)) < 2147483648 := by omega
      refine Tm_chk (in_g h gi cc) ?_
      rw [u_cl cc, e_siz, e_hgt]
      have cg := (HQ_c h (Gv_c gi cc).2).2.2.2.2
      have s1 := cg.2.2.2.1
      have s2 : hdS (uN (σ.2.2.1 3 (uN (σ.2.2.1 17 (s + i))))) < 1024 := Nat.mod_lt _ (by decide)
      have hh : hgt (σ.2.2.1 3) (σ.2.2.1 17 (s + i)) = hdT (uN (σ.2.2.1 3 (uN (σ.2.2.1 17 (s + i))))) := by unfold hgt; rw [if_pos cc]
      have eT : uN (nI (hdT (uN (σ.2.2.1 3 (uN (σ.2.2.1 17 (s + i))))))) = hdT (uN (σ.2.2.1 3 (uN (σ.2.2.1 17 (s + i))))) := u_n (by omega)
      have eS : uN (L.1 5 + nI (hdS (uN (σ.2.2.1 3 (uN (σ.2.2.1 17 (s + i))))))) = uN (L.1 5) + hdS (uN (σ.2.2.1 3 (uN (σ.2.2.1 17 (s + i))))) := by
        rw [u_add (by rw [u_n (by omega)]; omega), u_n (by omega)]
      have b10 : ∀ L' : LV, L'.1 1 = L.1 1 → L'.1 3 = L.1 3 → L'.1 4 = L.1 4 → L'.1 8 = L.1 8 → L'.1 7 = L.1 7 → L'.1 5 = L.1 5 + nI (hdS (uN (σ.2.2.1 3 (uN (σ.2.2.1 17 (s + i)))))) → L'.1 10 = σ.2.2.1 3 (uN (σ.2.2.1 17 (s + i))) → uN (L'.1 100) ≤ 30 → (∀ j, j < i + 1 → hgt (σ.2.2.1 3) (σ.2.2.1 17 (s + j)) ≤ uN (L'.1 100)) → Tm (fun k => y_X1_makeRow__a17 k 10 L' σ) (Mk g t σ kd) := by
        intro L' d1 d3 d4 d8 d7 d5 d10 d100 dh
        have b16 : ∀ L2 : LV, L2.1 1 = L.1 1 → L2.1 3 = L.1 3 → L2.1 4 = L.1 4 → L2.1 8 = L.1 8 → L2.1 5 = L'.1 5 → L2.1 6 = L'.1 100 → (L2.1 100 = 0 ∨ (kd = 6 ∧ ∀ j, j < i + 1 → uN (σ.2.2.1 17 (s + j)) < 2147483648 ∧ uN (σ.2.2.1 3 (uN (σ.2.2.1 17 (s + j)))) % 65536 = 37)) → Tm (fun k => y_X1_makeRow__a17 k 16 L2 σ) (Mk g t σ kd) := by
          intro L2 z1 z3 z4 z8 z5 z6 zm
          refine Tm_suc (fun k => by rw [y_X1_makeRow__a17]) ?_
          refine nx _ ?_ ?_ ?_ ?_ ?_ ?_ ?_ ?_ ?_
          · exact z1
          · exact z3
          · exact z4
          · exact z8
          · show i + 2 ≤ uN (L2.1 5); rw [z5, d5, eS]; omega
          · show uN (L2.1 5) ≤ 3000; rw [z5, d5, eS]; omega
          · show uN (L2.1 6) ≤ 30; rw [z6]; exact d100
          · show ∀ j, j < i + 1 → hgt (σ.2.2.1 3) (σ.2.2.1 17 (s + j)) ≤ uN (L2.1 6)
            rw [z6]; exact dh
          · exact zm
        have b15 : ∀ L2 : LV, L2.1 1 = L.1 1 → L2.1 3 = L.1 3 → L2.1 4 = L.1 4 → L2.1 8 = L.1 8 → L2.1 5 = L'.1 5 → L2.1 6 = L'.1 100 → Tm (fun k => y_X1_makeRow__a17 k 15 L2 σ) (Mk g t σ kd) := by
          intro L2 z1 z3 z4 z8 z5 z6
          refine Tm_suc (fun k => by rw [y_X1_makeRow__a17]) ?_
          refine b16 _ ?_ ?_ ?_ ?_ ?_ ?_ ?_
          · exact z1
          · exact z3
          · exact z4
          · exact z8
          · exact z5
          · exact z6
          · exact Or.inl rfl
        refine Tm_suc (fun k => by rw [y_X1_makeRow__a17]) ?_
        refine Tm_ite (fun _ => ?_) (fun c7 => Tm_ite (fun cp => ?_) (fun _ => ?_))
        · refine b15 _ ?_ ?_ ?_ ?_ ?_ ?_
          · exact d1
          · exact d3
          · exact d4
          · exact d8
          · rfl
          · rfl
        · rw [d10, e_low, u_eq, u_n (by omega)] at cp
          rw [d7] at c7
          refine b16 _ ?_ ?_ ?_ ?_ ?_ ?_ ?_
          · exact d1
          · exact d3
          · exact d4
          · exact d8
          · rfl
          · rfl
          · rcases am with am | am
            · exact absurd am c7
            · exact Or.inr ⟨am.1, jx am.2 ⟨cc, cp⟩⟩
        · refine b15 _ ?_ ?_ ?_ ?_ ?_ ?_
          · exact d1
          · exact d3
          · exact d4
          · exact d8
          · rfl
          · rfl
      refine Tm_ite (fun c6 => ?_) (fun c6 => ?_)
      · rw [u_le (by omega) (by omega), eT] at c6
        refine Tm_suc (fun k => by rw [y_X1_makeRow__a17]) ?_
        refine b10 _ ?_ ?_ ?_ ?_ ?_ ?_ ?_ ?_ ?_
        · rfl
        · rfl
        · rfl
        · rfl
        · rfl
        · rfl
        · rfl
        · show uN (((σ.2.2.1 3 (uN (σ.2.2.1 17 (s + i)))).toUInt32 >>> ((26 : Int32).toUInt32 &&& Int32.toUInt32 31)).toInt32) ≤ 30
          rw [e_hgt, eT]; exact s1.1
        · show ∀ j, j < i + 1 → hgt (σ.2.2.1 3) (σ.2.2.1 17 (s + j)) ≤ uN (((σ.2.2.1 3 (uN (σ.2.2.1 17 (s + i)))).toUInt32 >>> ((26 : Int32).toUInt32 &&& Int32.toUInt32 31)).toInt32)
          rw [e_hgt, eT]
          exact jx (fun j hj => by have := ah j hj; omega) (by omega)
      · rw [u_le (by omega) (by omega), eT] at c6
        refine b10 _ ?_ ?_ ?_ ?_ ?_ ?_ ?_ ?_ ?_
        · rfl
        · rfl
        · rfl
        · rfl
        · rfl
        · rfl
        · rfl
        · exact a6
        · exact jx ah (by show _ ≤ uN (L.1 6); omega)
theorem c_makeRow17 (h : HQ g l t σ) {kd : Nat} (hk : kd = 5 ∨ kd = 6) (hb : 8 ≤ 2147470000) (h1 : uN (L.1 1) = kd) (hs : 1 ≤ uN (L.1 4) → uN (L.1 4) < 2147483648 → uN (L.1 3) + uN (L.1 4) ≤ 8 ∧ ∀ j, j < uN (L.1 4) → Gv g (σ.2.2.1 17 (uN (L.1 3) + j))) : Tm (fun k => y_X1_makeRow__a17 k 0 L σ) (Mk g t σ kd) := by
  have e1 := h.2.2.2.2.1
  have b3 : ∀ (L' : LV) (z : Nat), L'.1 100 = nI z → z < 3 → hdK (uN (σ.2.2.1 3 z)) = kd → g z → Tm (fun k => y_X1_makeRow__a17 k 3 L' σ) (Mk g t σ kd) := by
    intro L' z d100 z3 zk zg
    refine Tm_suc (fun k => by rw [y_X1_makeRow__a17]) ?_
    have eu : uN (nI z) = z := u_n (by omega)
    refine Tm_some (Mk_id h (Or.inl ⟨?_, ?_⟩))
    · rw [d100]
      exact Or.inr ⟨by omega, by rw [eu]; exact zg⟩
    · rw [d100]
      unfold kdC
      rw [if_pos (by omega), eu]
      exact zk
  refine Tm_suc (fun k => by rw [y_X1_makeRow__a17]) ?_
  refine Tm_ite (fun c => ?_) (fun c => ?_)
  · have c4 : 1 ≤ uN (L.1 4) ∧ uN (L.1 4) < 2147483648 := by
      rw [i_lt, u_int (L.1 4)] at c
      have c' : 0 < (if uN (L.1 4) < 2147483648 then (uN (L.1 4) : Int) else (uN (L.1 4) : Int) - 4294967296) := c
      have := u_lt (L.1 4)
      split at c' <;> omega
    obtain ⟨s1, s2⟩ := hs c4.1 c4.2
    have go : ∀ L' : LV, L'.1 1 = L.1 1 → L'.1 3 = L.1 3 → L'.1 4 = L.1 4 → L'.1 5 = 1 → L'.1 6 = 0 → (L'.1 100 = 0 ∨ kd = 6) → Tm (fun k => y_X1_makeRow__a17 k 5 L' σ) (Mk g t σ kd) := by
      intro L' d1 d3 d4 d5 d6 d7
      refine Tm_suc (fun k => by rw [y_X1_makeRow__a17]) ?_
      refine mr17_6 (s := uN (L.1 3)) (n := uN (L.1 4)) h hk c4.1 (by omega) s1 s2 (uN (L.1 4)) 0 _ (by omega) ⟨?_, ?_, ?_, ?_, by omega, ⟨?_, ?_⟩, ?_, fun j hj => absurd hj (by omega), ?_⟩ (by omega)
      · show uN (L'.1 1) = kd; rw [d1, h1]
      · show uN (L'.1 3) = _; rw [d3]
      · show uN (L'.1 4) = _; rw [d4]
      · show uN (L'.1 3) = _; rw [d3]; omega
      · show 0 + 1 ≤ uN (L'.1 5); rw [d5]; decide
      · show uN (L'.1 5) ≤ 3000; rw [d5]; decide
      · show uN (L'.1 6) ≤ 30; rw [d6]; decide
      · exact d7.imp id (fun z => ⟨z, fun j hj => absurd hj (by omega)⟩)
    refine Tm_suc (fun k => by rw [y_X1_makeRow__a17]) ?_
    refine Tm_ite (fun c6 => ?_) (fun c6 => ?_)
    · rw [u_eq, h1] at c6
      exact go _ rfl rfl rfl rfl rfl (Or.inr c6)
    · refine Tm_suc (fun k => by rw [y_X1_makeRow__a17]) ?_
      exact go _ rfl rfl rfl rfl rfl (Or.inl rfl)
  · refine Tm_ite (fun c6 => ?_) (fun c6 => ?_)
    · rw [u_eq, h1] at c6
      have c6' : kd = 6 := c6
      refine b3 _ 2 rfl (by decide) ?_ h.2.2.2.1.2.2
      rw [e1.2.2, c6']; decide
    · rw [u_eq, h1] at c6
      have c6' : ¬ kd = 6 := c6
      refine Tm_suc (fun k => by rw [y_X1_makeRow__a17]) ?_
      refine b3 _ 1 rfl (by decide) ?_ h.2.2.2.1.2.1
      rw [e1.2.1, show kd = 5 from by omega]; decide
/-- midway in a row: i values seen -/
def RI20 (g : Nat → Prop) (σ : CS) (kd s n i : Nat) (L : LV) : Prop := uN (L.1 1) = kd ∧ uN (L.1 3) = s ∧ uN (L.1 4) = n ∧ uN (L.1 8) = s + i ∧ i ≤ n ∧ (i + 1 ≤ uN (L.1 5) ∧ uN (L.1 5) ≤ 3000) ∧ uN (L.1 6) ≤ 30 ∧ (∀ j, j < i → hgt (σ.2.2.1 3) (σ.2.2.1 20 (s + j)) ≤ uN (L.1 6)) ∧ (L.1 7 = 0 ∨ (kd = 6 ∧ ∀ j, j < i → uN (σ.2.2.1 20 (s + j)) < 2147483648 ∧ uN (σ.2.2.1 3 (uN (σ.2.2.1 20 (s + j)))) % 65536 = 37))
theorem mr20_7 (h : HQ g l t σ) {kd s n i : Nat} (hk : kd = 5 ∨ kd = 6) (n1 : 1 ≤ n) (hb : sN σ 20 ≤ 2147483648) (hs : s + n ≤ sN σ 20) (hv : ∀ j, j < n → Gv g (σ.2.2.1 20 (s + j))) (hI : RI20 g σ kd s n i L) (he : i = n ∨ 1000 < uN (L.1 5)) : Tm (fun k => y_X1_makeRow__z20 k 7 L σ) (Mk g t σ kd) := by
  obtain ⟨a1, a3, a4, a8, ai, ⟨a5, b5⟩, a6, ah, am⟩ := hI
  have e11 : ∀ L' : LV, Tm (fun k => y_X1_makeRow__z20 k 11 L' σ) (Mk g t σ kd) := by
    intro L'
    refine Tm_suc (fun k => by rw [y_X1_makeRow__z20]) ?_
    exact Tm_some (Mk_id h (Or.inr (by show 4026531840 ≤ uN (-268435451) ∧ ¬ uN (-268435451) % 16 = 0; decide)))
  refine Tm_suc (fun k => by rw [y_X1_makeRow__z20]) ?_
  refine Tm_ite (fun _ => e11 _) (fun c5 => ?_)
  rw [u_ltn (by decide) (by omega)] at c5
  have c5' : uN (L.1 5) ≤ 1000 := Nat.le_of_not_lt c5
  refine Tm_ite (fun c6 => ?_) (fun _ => e11 _)
  rw [u_ltn (by omega) (by decide)] at c6
  have c6' : uN (L.1 6) < 30 := c6
  have en : i = n := by omega
  subst en
  have hn := HQ_n h
  have h21 := h.2.1
  refine Tm_suc (fun k => by rw [y_X1_makeRow__z20]) ?_
  rw [h.1, show Int32.ofNat (sN σ 3) - nI t = nI (sN σ 3 - t) from n_sub (by omega) h21.2]
  have eu : uN (nI (sN σ 3 - t)) = sN σ 3 - t := u_n (by omega)
  have e1 : uN (1 + L.1 4) = 1 + i := by
    rw [u_add (x := 1) (by show 1 + uN (L.1 4) < _; omega), a4]; rfl
  refine Tm_ite (fun c => ?_) (fun _ => Tm_some (Mk_id h (Or.inr (by show 4026531840 ≤ uN (-268435450) ∧ ¬ uN (-268435450) % 16 = 0; decide))))
  rw [u_le (by omega) (by omega), e1, eu] at c
  have et : uN (nI t) = t := u_n (by omega)
  have e8 : nI t + 1 + L.1 4 = nI (t + 1 + i) := by
    rw [u_eq, u_add (by rw [u_inc (by omega)]; omega), u_inc (by omega), et, a4, u_n (by omega)]
  have b21 : ∀ (L' : LV) (f : Nat), f < 2 → uN (L'.1 100) = f * 8 → uN (L'.1 101) = kd → L'.1 102 = nI t → L'.1 3 = L.1 3 → L'.1 4 = L.1 4 → L'.1 5 = L.1 5 → L'.1 6 = L.1 6 → L'.1 8 = nI t → (f = 1 → ∀ j, j < i → uN (σ.2.2.1 20 (s + j)) < 2147483648 ∧ uN (σ.2.2.1 3 (uN (σ.2.2.1 20 (s + j)))) % 65536 = 37) → Tm (fun k => y_X1_makeRow__z20 k 21 L' (hpC σ (t + 1 + i) (σ.2.2.1 3))) (Mk g t σ kd) := by
    intro L' f f2 d100 d101 d102 d3 d4 d5 d6 d8 hf
    refine Tm_suc (fun k => by rw [y_X1_makeRow__z20]) ?_
    rw [d102, d3, d4, d5, d6, d8]
    refine Tm_chk (u_in (by show uN (nI t) < sN σ 3; omega) (by show sN σ 3 ≤ _; omega)) ?_
    rw [u_cl (x := nI t) (by omega), et, hpC_a]
    have et1 : uN (nI t + 1) = t + 1 := by rw [u_inc (by omega), et]
    refine Tm_chk ⟨by rw [u_neg]; omega, by rw [u_neg]; omega, by rw [u_neg]; omega, by rw [u_cl (by omega), u_cl (by omega), a3, a4]; exact hs, by rw [u_cl (by omega), u_cl (by omega), et1, a4]; show t + 1 + i ≤ sN σ 3; omega⟩ ?_
    rw [u_cl (x := L.1 3) (by omega), u_cl (x := L.1 4) (by omega), u_cl (x := nI t + 1) (by omega), et1, a3, a4, hpC_f]
    refine Tm_some ?_
    have eh := hd_of (K := L'.1 101) (F := L'.1 100) (n := L.1 4) (s := L.1 5) (hh := L.1 6 + 1) d101 (by omega) d100 f2 a4 (by omega) rfl (by omega) (show uN (L.1 6 + 1) = uN (L.1 6) + 1 from u_inc (by omega)) (by omega)
    exact Mk_row (R := σ.2.2.1 20) h hk f2 (by omega) (by omega) c5' (by omega) (by omega) eh (by omega) (fun j hj => ⟨hv j hj, Nat.lt_succ_of_le (ah j hj)⟩) hf
  refine Tm_suc (fun k => by rw [y_X1_makeRow__z20]) ?_
  rw [hpC_i (t := t + 1 + i) σ (show (lI L 8 (nI t)).1 8 + 1 + (lI L 8 (nI t)).1 4 = nI (t + 1 + i) from e8)]
  refine Tm_ite (fun _ => ?_) (fun c7 => ?_)
  · refine Tm_suc (fun k => by rw [y_X1_makeRow__z20]) ?_
    refine b21 _ 0 (by decide) ?_ ?_ ?_ ?_ ?_ ?_ ?_ ?_ (fun z => absurd z (by decide))
    · rfl
    · exact a1
    · rfl
    · rfl
    · rfl
    · rfl
    · rfl
    · rfl
  · refine b21 _ 1 (by decide) ?_ ?_ ?_ ?_ ?_ ?_ ?_ ?_ (fun _ => ?_)
    · rfl
    · exact a1
    · rfl
    · rfl
    · rfl
    · rfl
    · rfl
    · rfl
    · rcases am with am | am
      · exact absurd am c7
      · exact am.2
theorem mr20_6 (h : HQ g l t σ) {kd s n : Nat} (hk : kd = 5 ∨ kd = 6) (n1 : 1 ≤ n) (hb : sN σ 20 ≤ 2147483648) (hs : s + n ≤ sN σ 20) (hv : ∀ j, j < n → Gv g (σ.2.2.1 20 (s + j))) : ∀ (m i : Nat) (L : LV), i + m = n → RI20 g σ kd s n i L → s + n < 2147480000 → Tm (fun k => y_X1_makeRow__z20 k 6 L σ) (Mk g t σ kd) := by
  intro m
  induction m with
  | zero =>
    intro i L hm hI hsn
    have en : i = n := by omega
    have go := mr20_7 h hk n1 hb hs hv hI (Or.inl en)
    obtain ⟨a1, a3, a4, a8, ai, ⟨a5, b5⟩, a6, ah, am⟩ := hI
    refine Tm_suc (fun k => by rw [y_X1_makeRow__z20]) ?_
    refine Tm_yes ?_ go
    have e : uN (L.1 3 + L.1 4) = s + n := by rw [u_add (by omega), a3, a4]
    rw [u_le (by omega) (by omega), e, a8]
    omega
  | succ m ih =>
    intro i L hm hI hsn
    have go : 1000 < uN (L.1 5) → Tm (fun k => y_X1_makeRow__z20 k 7 L σ) (Mk g t σ kd) := fun z => mr20_7 h hk n1 hb hs hv hI (Or.inr z)
    obtain ⟨a1, a3, a4, a8, ai, ⟨a5, b5⟩, a6, ah, am⟩ := hI
    have nx : ∀ L' : LV, L'.1 1 = L.1 1 → L'.1 3 = L.1 3 → L'.1 4 = L.1 4 → L'.1 8 = L.1 8 → i + 2 ≤ uN (L'.1 5) → uN (L'.1 5) ≤ 3000 → uN (L'.1 6) ≤ 30 → (∀ j, j < i + 1 → hgt (σ.2.2.1 3) (σ.2.2.1 20 (s + j)) ≤ uN (L'.1 6)) → (L'.1 7 = 0 ∨ (kd = 6 ∧ ∀ j, j < i + 1 → uN (σ.2.2.1 20 (s + j)) < 2147483648 ∧ uN (σ.2.2.1 3 (uN (σ.2.2.1 20 (s + j)))) % 65536 = 37)) → Tm (fun k => y_X1_makeRow__z20 k 19 L' σ) (Mk g t σ kd) := by
      intro L' d1 d3 d4 d8 d5 e5 d6 dh dm
      refine Tm_suc (fun k => by rw [y_X1_makeRow__z20]) ?_
      refine ih (i + 1) _ (by omega) ⟨?_, ?_, ?_, ?_, by omega, ⟨d5, e5⟩, d6, dh, dm⟩ hsn
      · show uN (L'.1 1) = kd; rw [d1, a1]
      · show uN (L'.1 3) = s; rw [d3, a3]
      · show uN (L'.1 4) = n; rw [d4, a4]
      · show uN (L'.1 8 + 1) = s + (i + 1)
        rw [d8, u_inc (by omega), a8]; omega
    have jx : ∀ {P : Nat → Prop}, (∀ j, j < i → P j) → P i → ∀ j, j < i + 1 → P j := by
      intro P p1 p2 j hj
      rcases Nat.lt_or_ge j i with z | z
      · exact p1 j z
      · rw [show j = i from by omega]; exact p2
    refine Tm_suc (fun k => by rw [y_X1_makeRow__z20]) ?_
    have e : uN (L.1 3 + L.1 4) = s + n := by rw [u_add (by omega), a3, a4]
    refine Tm_ite (fun c => absurd c ?_) (fun _ => ?_)
    · rw [u_le (by omega) (by omega), e, a8]; omega
    refine Tm_ite (fun c => go ?_) (fun c => ?_)
    · rw [u_ltn (by decide) (by omega)] at c; exact c
    rw [u_ltn (by decide) (by omega)] at c
    have c5 : uN (L.1 5) ≤ 1000 := Nat.le_of_not_lt c
    refine Tm_chk (u_in (by omega) hb) ?_
    rw [u_cl (x := L.1 8) (by omega), a8]
    have gi := hv i (by omega)
    refine Tm_ite (fun c0 => ?_) (fun c0 => ?_)
    · rw [u_neg] at c0
      have h0 : hgt (σ.2.2.1 3) (σ.2.2.1 20 (s + i)) = 0 := by unfold hgt; rw [if_neg (by omega)]
      have b18 : ∀ (L' : LV) (z : Int32), L'.1 1 = L.1 1 → L'.1 3 = L.1 3 → L'.1 4 = L.1 4 → L'.1 8 = L.1 8 → L'.1 6 = L.1 6 → L'.1 101 = L.1 5 → L'.1 100 = z → 1 ≤ uN z → uN z ≤ 2 → Tm (fun k => y_X1_makeRow__z20 k 18 L' σ) (Mk g t σ kd) := by
        intro L' z d1 d3 d4 d8 d6 d101 d100 z1 z2
        have es : uN (L'.1 101 + L'.1 100) = uN (L.1 5) + uN z := by rw [d101, d100, u_add (by omega)]
        refine Tm_suc (fun k => by rw [y_X1_makeRow__z20]) ?_
        refine nx _ ?_ ?_ ?_ ?_ ?_ ?_ ?_ ?_ ?_
        · exact d1
        · exact d3
        · exact d4
        · exact d8
        · show i + 2 ≤ uN (L'.1 101 + L'.1 100); rw [es]; omega
        · show uN (L'.1 101 + L'.1 100) ≤ 3000; rw [es]; omega
        · show uN (L'.1 6) ≤ 30; rw [d6]; exact a6
        · show ∀ j, j < i + 1 → hgt (σ.2.2.1 3) (σ.2.2.1 20 (s + j)) ≤ uN (L'.1 6)
          rw [d6]
          exact jx ah (by omega)
        · exact Or.inl rfl
      have b13 : ∀ L' : LV, L'.1 1 = L.1 1 → L'.1 3 = L.1 3 → L'.1 4 = L.1 4 → L'.1 8 = L.1 8 → L'.1 6 = L.1 6 → L'.1 100 = L.1 5 → Tm (fun k => y_X1_makeRow__z20 k 13 L' σ) (Mk g t σ kd) := by
        intro L' d1 d3 d4 d8 d6 d100
        refine Tm_suc (fun k => by rw [y_X1_makeRow__z20]) ?_
        refine b18 _ 2 ?_ ?_ ?_ ?_ ?_ ?_ ?_ (by decide) (by decide)
        · exact d1
        · exact d3
        · exact d4
        · exact d8
        · exact d6
        · exact d100
        · rfl
      have b14 : ∀ L' : LV, L'.1 1 = L.1 1 → L'.1 3 = L.1 3 → L'.1 4 = L.1 4 → L'.1 8 = L.1 8 → L'.1 6 = L.1 6 → L'.1 100 = L.1 5 → Tm (fun k => y_X1_makeRow__z20 k 14 L' σ) (Mk g t σ kd) := by
        intro L' d1 d3 d4 d8 d6 d100
        refine Tm_suc (fun k => by rw [y_X1_makeRow__z20]) ?_
        refine b18 _ 1 ?_ ?_ ?_ ?_ ?_ ?_ ?_ (by decide) (by decide)
        · exact d1
        · exact d3
        · exact d4
        · exact d8
        · exact d6
        · exact d100
        · rfl
      refine Tm_suc (fun k => by rw [y_X1_makeRow__z20]) ?_
      refine Tm_ite (fun _ => b13 _ rfl rfl rfl rfl rfl rfl) (fun _ => Tm_ite (fun _ => Tm_ite (fun _ => b14 _ rfl rfl rfl rfl rfl rfl) (fun _ => b13 _ rfl rfl rfl rfl rfl rfl)) (fun _ => b14 _ rfl rfl rfl rfl rfl rfl))
    · rw [u_neg] at c0
      have cc : uN (σ.2.2.1 20 (s + i)) < 2147483648 := by omega
      refine Tm_chk (in_g h gi cc) ?_
      rw [u_cl cc, e_siz, e_hgt]
      have cg := (HQ_c h (Gv_c gi cc).2).2.2.2.2
      have s1 := cg.2.2.2.1
      have s2 : hdS (uN (σ.2.2.1 3 (uN (σ.2.2.1 20 (s + i))))) < 1024 := Nat.mod_lt _ (by decide)
      have hh : hgt (σ.2.2.1 3) (σ.2.2.1 20 (s + i)) = hdT (uN (σ.2.2.1 3 (uN (σ.2.2.1 20 (s + i))))) := by unfold hgt; rw [if_pos cc]
      have eT : uN (nI (hdT (uN (σ.2.2.1 3 (uN (σ.2.2.1 20 (s + i))))))) = hdT (uN (σ.2.2.1 3 (uN (σ.2.2.1 20 (s + i))))) := u_n (by omega)
      have eS : uN (L.1 5 + nI (hdS (uN (σ.2.2.1 3 (uN (σ.2.2.1 20 (s + i))))))) = uN (L.1 5) + hdS (uN (σ.2.2.1 3 (uN (σ.2.2.1 20 (s + i))))) := by
        rw [u_add (by rw [u_n (by omega)]; omega), u_n (by omega)]
      have b10 : ∀ L' : LV, L'.1 1 = L.1 1 → L'.1 3 = L.1 3 → L'.1 4 = L.1 4 → L'.1 8 = L.1 8 → L'.1 7 = L.1 7 → L'.1 5 = L.1 5 + nI (hdS (uN (σ.2.2.1 3 (uN (σ.2.2.1 20 (s + i)))))) → L'.1 10 = σ.2.2.1 3 (uN (σ.2.2.1 20 (s + i))) → uN (L'.1 100) ≤ 30 → (∀ j, j < i + 1 → hgt (σ.2.2.1 3) (σ.2.2.1 20 (s + j)) ≤ uN (L'.1 100)) → Tm (fun k => y_X1_makeRow__z20 k 10 L' σ) (Mk g t σ kd) := by
        intro L' d1 d3 d4 d8 d7 d5 d10 d100 dh
        have b16 : ∀ L2 : LV, L2.1 1 = L.1 1 → L2.1 3 = L.1 3 → L2.1 4 = L.1 4 → L2.1 8 = L.1 8 → L2.1 5 = L'.1 5 → L2.1 6 = L'.1 100 → (L2.1 100 = 0 ∨ (kd = 6 ∧ ∀ j, j < i + 1 → uN (σ.2.2.1 20 (s + j)) < 2147483648 ∧ uN (σ.2.2.1 3 (uN (σ.2.2.1 20 (s + j)))) % 65536 = 37)) → Tm (fun k => y_X1_makeRow__z20 k 16 L2 σ) (Mk g t σ kd) := by
          intro L2 z1 z3 z4 z8 z5 z6 zm
          refine Tm_suc (fun k => by rw [y_X1_makeRow__z20]) ?_
          refine nx _ ?_ ?_ ?_ ?_ ?_ ?_ ?_ ?_ ?_
          · exact z1
          · exact z3
          · exact z4
          · exact z8
          · show i + 2 ≤ uN (L2.1 5); rw [z5, d5, eS]; omega
          · show uN (L2.1 5) ≤ 3000; rw [z5, d5, eS]; omega
          · show uN (L2.1 6) ≤ 30; rw [z6]; exact d100
          · show ∀ j, j < i + 1 → hgt (σ.2.2.1 3) (σ.2.2.1 20 (s + j)) ≤ uN (L2.1 6)
            rw [z6]; exact dh
          · exact zm
        have b15 : ∀ L2 : LV, L2.1 1 = L.1 1 → L2.1 3 = L.1 3 → L2.1 4 = L.1 4 → L2.1 8 = L.1 8 → L2.1 5 = L'.1 5 → L2.1 6 = L'.1 100 → Tm (fun k => y_X1_makeRow__z20 k 15 L2 σ) (Mk g t σ kd) := by
          intro L2 z1 z3 z4 z8 z5 z6
          refine Tm_suc (fun k => by rw [y_X1_makeRow__z20]) ?_
          refine b16 _ ?_ ?_ ?_ ?_ ?_ ?_ ?_
          · exact z1
          · exact z3
          · exact z4
          · exact z8
          · exact z5
          · exact z6
          · exact Or.inl rfl
        refine Tm_suc (fun k => by rw [y_X1_makeRow__z20]) ?_
        refine Tm_ite (fun _ => ?_) (fun c7 => Tm_ite (fun cp => ?_) (fun _ => ?_))
        · refine b15 _ ?_ ?_ ?_ ?_ ?_ ?_
          · exact d1
          · exact d3
          · exact d4
          · exact d8
          · rfl
          · rfl
        · rw [d10, e_low, u_eq, u_n (by omega)] at cp
          rw [d7] at c7
          refine b16 _ ?_ ?_ ?_ ?_ ?_ ?_ ?_
          · exact d1
          · exact d3
          · exact d4
          · exact d8
          · rfl
          · rfl
          · rcases am with am | am
            · exact absurd am c7
            · exact Or.inr ⟨am.1, jx am.2 ⟨cc, cp⟩⟩
        · refine b15 _ ?_ ?_ ?_ ?_ ?_ ?_
          · exact d1
          · exact d3
          · exact d4
          · exact d8
          · rfl
          · rfl
      refine Tm_ite (fun c6 => ?_) (fun c6 => ?_)
      · rw [u_le (by omega) (by omega), eT] at c6
        refine Tm_suc (fun k => by rw [y_X1_makeRow__z20]) ?_
        refine b10 _ ?_ ?_ ?_ ?_ ?_ ?_ ?_ ?_ ?_
        · rfl
        · rfl
        · rfl
        · rfl
        · rfl
        · rfl
        · rfl
        · show uN (((σ.2.2.1 3 (uN (σ.2.2.1 20 (s + i)))).toUInt32 >>> ((26 : Int32).toUInt32 &&& Int32.toUInt32 31)).toInt32) ≤ 30
          rw [e_hgt, eT]; exact s1.1
        · show ∀ j, j < i + 1 → hgt (σ.2.2.1 3) (σ.2.2.1 20 (s + j)) ≤ uN (((σ.2.2.1 3 (uN (σ.2.2.1 20 (s + i)))).toUInt32 >>> ((26 : Int32).toUInt32 &&& Int32.toUInt32 31)).toInt32)
          rw [e_hgt, eT]
          exact jx (fun j hj => by have := ah j hj; omega) (by omega)
      · rw [u_le (by omega) (by omega), eT] at c6
        refine b10 _ ?_ ?_ ?_ ?_ ?_ ?_ ?_ ?_ ?_
        · rfl
        · rfl
        · rfl
        · rfl
        · rfl
        · rfl
        · rfl
        · exact a6
        · exact jx ah (by show _ ≤ uN (L.1 6); omega)
theorem c_makeRow20 (h : HQ g l t σ) {kd : Nat} (hk : kd = 5 ∨ kd = 6) (hb : sN σ 20 ≤ 2147470000) (h1 : uN (L.1 1) = kd) (hs : 1 ≤ uN (L.1 4) → uN (L.1 4) < 2147483648 → uN (L.1 3) + uN (L.1 4) ≤ sN σ 20 ∧ ∀ j, j < uN (L.1 4) → Gv g (σ.2.2.1 20 (uN (L.1 3) + j))) : Tm (fun k => y_X1_makeRow__z20 k 0 L σ) (Mk g t σ kd) := by
  have e1 := h.2.2.2.2.1
  have b3 : ∀ (L' : LV) (z : Nat), L'.1 100 = nI z → z < 3 → hdK (uN (σ.2.2.1 3 z)) = kd → g z → Tm (fun k => y_X1_makeRow__z20 k 3 L' σ) (Mk g t σ kd) := by
    intro L' z d100 z3 zk zg
    refine Tm_suc (fun k => by rw [y_X1_makeRow__z20]) ?_
    have eu : uN (nI z) = z := u_n (by omega)
    refine Tm_some (Mk_id h (Or.inl ⟨?_, ?_⟩))
    · rw [d100]
      exact Or.inr ⟨by omega, by rw [eu]; exact zg⟩
    · rw [d100]
      unfold kdC
      rw [if_pos (by omega), eu]
      exact zk
  refine Tm_suc (fun k => by rw [y_X1_makeRow__z20]) ?_
  refine Tm_ite (fun c => ?_) (fun c => ?_)
  · have c4 : 1 ≤ uN (L.1 4) ∧ uN (L.1 4) < 2147483648 := by
      rw [i_lt, u_int (L.1 4)] at c
      have c' : 0 < (if uN (L.1 4) < 2147483648 then (uN (L.1 4) : Int) else (uN (L.1 4) : Int) - 4294967296) := c
      have := u_lt (L.1 4)
      split at c' <;> omega
    obtain ⟨s1, s2⟩ := hs c4.1 c4.2
    have go : ∀ L' : LV, L'.1 1 = L.1 1 → L'.1 3 = L.1 3 → L'.1 4 = L.1 4 → L'.1 5 = 1 → L'.1 6 = 0 → (L'.1 100 = 0 ∨ kd = 6) → Tm (fun k => y_X1_makeRow__z20 k 5 L' σ) (Mk g t σ kd) := by
      intro L' d1 d3 d4 d5 d6 d7
      refine Tm_suc (fun k => by rw [y_X1_makeRow__z20]) ?_
      refine mr20_6 (s := uN (L.1 3)) (n := uN (L.1 4)) h hk c4.1 (by omega) s1 s2 (uN (L.1 4)) 0 _ (by omega) ⟨?_, ?_, ?_, ?_, by omega, ⟨?_, ?_⟩, ?_, fun j hj => absurd hj (by omega), ?_⟩ (by omega)
      · show uN (L'.1 1) = kd; rw [d1, h1]
      · show uN (L'.1 3) = _; rw [d3]
      · show uN (L'.1 4) = _; rw [d4]
      · show uN (L'.1 3) = _; rw [d3]; omega
      · show 0 + 1 ≤ uN (L'.1 5); rw [d5]; decide
      · show uN (L'.1 5) ≤ 3000; rw [d5]; decide
      · show uN (L'.1 6) ≤ 30; rw [d6]; decide
      · exact d7.imp id (fun z => ⟨z, fun j hj => absurd hj (by omega)⟩)
    refine Tm_suc (fun k => by rw [y_X1_makeRow__z20]) ?_
    refine Tm_ite (fun c6 => ?_) (fun c6 => ?_)
    · rw [u_eq, h1] at c6
      exact go _ rfl rfl rfl rfl rfl (Or.inr c6)
    · refine Tm_suc (fun k => by rw [y_X1_makeRow__z20]) ?_
      exact go _ rfl rfl rfl rfl rfl (Or.inl rfl)
  · refine Tm_ite (fun c6 => ?_) (fun c6 => ?_)
    · rw [u_eq, h1] at c6
      have c6' : kd = 6 := c6
      refine b3 _ 2 rfl (by decide) ?_ h.2.2.2.1.2.2
      rw [e1.2.2, c6']; decide
    · rw [u_eq, h1] at c6
      have c6' : ¬ kd = 6 := c6
      refine Tm_suc (fun k => by rw [y_X1_makeRow__z20]) ?_
      refine b3 _ 1 rfl (by decide) ?_ h.2.2.2.1.2.1
      rw [e1.2.1, show kd = 5 from by omega]; decide
end CRI

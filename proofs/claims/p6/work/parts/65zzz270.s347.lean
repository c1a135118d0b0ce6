/-! The class: strings (two rows: S347.tpl). -/
section CRK
variable {g g' : Nat → Prop} {l : List Nat} {t t' : Nat} {σ σ' : CS} {L : LV} {x y i : Int32} {M M' : Nat → Int32}
theorem uF_a (σ : CS) (k i : Nat) (f : Nat → Int32) (x : Int32) : uA (uF σ k f) k i x = uF σ k (upd f i x) := by
  refine Prod.ext rfl (Prod.ext rfl (Prod.ext (funext fun j => ?_) rfl))
  show (if j = k then upd (if k = k then f else σ.2.2.1 k) i x else if j = k then f else σ.2.2.1 j) = if j = k then upd f i x else σ.2.2.1 j
  by_cases c : j = k
  · rw [if_pos c, if_pos c, if_pos rfl]
  · rw [if_neg c, if_neg c, if_neg c]
theorem uF_f (σ : CS) (k : Nat) (f f' : Nat → Int32) : uF (uF σ k f) k f' = uF σ k f' := by
  refine Prod.ext rfl (Prod.ext rfl (Prod.ext (funext fun j => ?_) rfl))
  show (if j = k then f' else if j = k then f else σ.2.2.1 j) = if j = k then f' else σ.2.2.1 j
  by_cases c : j = k
  · rw [if_pos c, if_pos c]
  · rw [if_neg c, if_neg c, if_neg c]
theorem uF_id (σ : CS) (k : Nat) : uF σ k (σ.2.2.1 k) = σ := by
  refine Prod.ext rfl (Prod.ext rfl (Prod.ext (funext fun j => ?_) rfl))
  show (if j = k then σ.2.2.1 k else σ.2.2.1 j) = σ.2.2.1 j
  by_cases c : j = k
  · rw [if_pos c, c]
  · rw [if_neg c]
theorem u_orB {x y : Int32} {k a : Nat} (h : uN y < 2 ^ k) (e : uN x = a * 2 ^ k) : uN (x ||| y) = uN x + uN y := by
  rw [u_or, e, ← Nat.shiftLeft_eq, ← Nat.shiftLeft_add_eq_or_of_lt h]
theorem cb15_1 (h : HQ g l t σ) (hx : Gv g x) {a b n : Nat} (n1 : n ≤ 1073741823) (b1 : b ≤ 1073741823) (hk : uN x < 2147483648 → hdK (uN (σ.2.2.1 3 (uN x))) = 4 ∧ a + n ≤ hdL (uN (σ.2.2.1 3 (uN x)))) : ∀ (m : Nat) (L : LV) (f : Nat → Int32), uN (L.1 6) + m = n → L.1 1 = x → (uN x < 2147483648 → uN (L.1 2) = a) → uN (L.1 3) = n → uN (L.1 5) = b → Tm (fun k => y_X1_copyBytes__a15 k 1 L (uF σ 15 f)) (fun r => r.1 = L.1 5 + L.1 3 ∧ ∃ f', r.2 = uF σ 15 f') := by
  intro m
  induction m with
  | zero =>
    intro L f d6 d1 d2 d3 d5
    refine Tm_suc (fun k => by rw [y_X1_copyBytes__a15]) ?_
    refine Tm_yes (by rw [u_le (by omega) (by omega)]; omega) ?_
    refine Tm_suc (fun k => by rw [y_X1_copyBytes__a15]) ?_
    exact Tm_some ⟨rfl, f, rfl⟩
  | succ m ih =>
    intro L f d6 d1 d2 d3 d5
    have b4 : ∀ L' : LV, L'.1 1 = L.1 1 → L'.1 2 = L.1 2 → L'.1 3 = L.1 3 → L'.1 5 = L.1 5 → L'.1 6 = L.1 6 → uN (L'.1 101) < 8192 → Tm (fun k => y_X1_copyBytes__a15 k 4 L' (uF σ 15 f)) (fun r => r.1 = L.1 5 + L.1 3 ∧ ∃ f', r.2 = uF σ 15 f') := by
      intro L' a1 a2 a3 a5 a6 q
      refine Tm_suc (fun k => by rw [y_X1_copyBytes__a15]) ?_
      refine Tm_chk (u_in q (by decide)) ?_
      rw [uF_a]
      refine Tm_mono (ih _ _ ?_ ?_ ?_ ?_ ?_) (fun r hr => ?_)
      · show uN (L'.1 6 + 1) + m = n
        rw [a6, u_inc (by omega)]; omega
      · exact a1.trans d1
      · intro z; show uN (L'.1 2) = a; rw [a2]; exact d2 z
      · show uN (L'.1 3) = n; rw [a3]; exact d3
      · show uN (L'.1 5) = b; rw [a5]; exact d5
      · have e : r.1 = L'.1 5 + L'.1 3 := hr.1
        rw [e, a5, a3]
        exact ⟨rfl, hr.2⟩
    refine Tm_suc (fun k => by rw [y_X1_copyBytes__a15]) ?_
    have e56 : uN (L.1 5 + L.1 6) = b + uN (L.1 6) := by rw [u_add (by omega), d5]
    refine Tm_ite (fun c => absurd c (by rw [u_le (by omega) (by omega)]; omega)) (fun _ => ?_)
    refine Tm_ite (fun _ => ?_) (fun c2 => ?_)
    · refine Tm_suc (fun k => by rw [y_X1_copyBytes__a15]) ?_
      exact Tm_some ⟨rfl, f, rfl⟩
    rw [u_le (by decide) (by omega)] at c2
    have c2' : uN (L.1 5 + L.1 6) < 8192 := Nat.lt_of_not_le c2
    refine Tm_ite (fun c => ?_) (fun c => ?_)
    · rw [u_nn, d1] at c
      obtain ⟨k1, k2⟩ := hk c
      have e26 : uN (L.1 2 + L.1 6) = a + uN (L.1 6) := by
        have lx : hdL (uN (σ.2.2.1 3 (uN x))) < 4096 := Nat.mod_lt _ (by decide)
        have := d2 c
        rw [u_add (by omega), d2 c]
      refine Tm_suc (fun k => by rw [y_X1_copyBytes__a15]) ?_
      refine Tm_chk (by
        show ¬ (L.1 1 + 1 + ((L.1 2 + L.1 6) >>> ((2 : Int32) &&& 31)) < 0 ∨ sN σ 3 ≤ (L.1 1 + 1 + ((L.1 2 + L.1 6) >>> ((2 : Int32) &&& 31))).toNatClampNeg)
        rw [d1]
        exact in_gs (i := L.1 2 + L.1 6) h hx c k1 (by rw [e26]; omega)) ?_
      refine b4 _ rfl rfl rfl rfl rfl ?_
      exact c2'
    · refine b4 _ rfl rfl rfl rfl rfl ?_
      exact c2'
theorem c_copyBytes15 (h : HQ g l t σ) (hx : Gv g (L.1 1)) (n1 : uN (L.1 3) ≤ 1073741823) (b1 : uN (L.1 5) ≤ 1073741823) (hk : uN (L.1 1) < 2147483648 → hdK (uN (σ.2.2.1 3 (uN (L.1 1)))) = 4 ∧ uN (L.1 2) + uN (L.1 3) ≤ hdL (uN (σ.2.2.1 3 (uN (L.1 1))))) : Tm (fun k => y_X1_copyBytes__a15 k 0 L σ) (fun r => r.1 = L.1 5 + L.1 3 ∧ ∃ f', r.2 = uF σ 15 f') := by
  refine Tm_suc (fun k => by rw [y_X1_copyBytes__a15]) ?_
  have q := cb15_1 (x := L.1 1) (a := uN (L.1 2)) (b := uN (L.1 5)) (n := uN (L.1 3)) h hx n1 b1 hk (uN (L.1 3)) (lI L 6 0) (σ.2.2.1 15) (by show 0 + _ = _; omega) rfl (fun _ => rfl) rfl rfl
  rw [uF_id] at q
  exact q
theorem ms15_7 (h : HQ g l t σ) {H : Int32} {s n w : Nat} (hw : w = (n + 3) / 4) (n1 : n ≤ 3996) (hs : s + n ≤ 8192) (hr : t + 1 + w ≤ sN σ 3) (hH : uN H = 4 + 16 * n + 65536 * (1 + w)) : ∀ (m : Nat) (L : LV) (M : Nat → Int32), uN (L.1 7) + m = n → uN (L.1 3) = n → uN (L.1 2) = s → L.1 5 = nI t → (∀ p, p < t → M p = σ.2.2.1 3 p) → M t = H → Tm (fun k => y_X1_makeString__a15 k 7 L (hpC σ (t + 1 + w) M)) (Mk g t σ 4) := by
  have hn := HQ_n h
  have et : uN (nI t) = t := u_n (by omega)
  have et1 : uN (nI t + 1) = t + 1 := by rw [u_inc (by omega), et]
  intro m
  induction m with
  | zero =>
    intro L M d7 d3 d2 d5 hM hMt
    refine Tm_suc (fun k => by rw [y_X1_makeString__a15]) ?_
    refine Tm_yes (by rw [u_le (by omega) (by omega)]; omega) ?_
    refine Tm_suc (fun k => by rw [y_X1_makeString__a15]) ?_
    rw [d5]
    refine Tm_some ?_
    have k1 : hdK (uN H) = 4 := by unfold hdK; omega
    have k2 : hdL (uN H) = n := by unfold hdL; omega
    have k3 : hdW (uN H) = w := by
      unfold hdK at k1
      unfold hdW
      rw [if_pos (by omega), k2, hw]
    have k4 : hdS (uN H) = 1 + w := by
      have a : uN H / 65536 = 1 + w := by omega
      unfold hdS; rw [a]; omega
    have k5 : hdT (uN H) = 0 := by unfold hdT; omega
    have q := Mk_new (M' := M) h hM (by rw [hMt, k3]; exact hr) (by
      unfold CGo
      rw [hMt, k1, k2, k3, k4, k5]
      exact ⟨by omega, by omega, Or.inr (Or.inl rfl), ⟨by omega, by omega⟩, fun z => absurd z (by omega), fun z => absurd z (by omega), fun z => absurd z (by omega)⟩)
    rw [hMt, k1, k3] at q
    exact q
  | succ m ih =>
    intro L M d7 d3 d2 d5 hM hMt
    have b10 : ∀ (L' : LV) (M' : Nat → Int32), L'.1 7 = L.1 7 → L'.1 3 = L.1 3 → L'.1 2 = L.1 2 → L'.1 5 = L.1 5 → (∀ p, p < t → M' p = σ.2.2.1 3 p) → M' t = H → Tm (fun k => y_X1_makeString__a15 k 10 L' (hpC σ (t + 1 + w) M')) (Mk g t σ 4) := by
      intro L' M' a7 a3 a2 a5 z zt
      refine Tm_suc (fun k => by rw [y_X1_makeString__a15]) ?_
      refine ih _ _ ?_ ?_ ?_ ?_ z zt
      · show uN (L'.1 7 + 1) + m = n
        rw [a7, u_inc (by omega)]; omega
      · show uN (L'.1 3) = n; rw [a3]; exact d3
      · show uN (L'.1 2) = s; rw [a2]; exact d2
      · exact a5.trans d5
    have b9 : ∀ L' : LV, L'.1 7 = L.1 7 → L'.1 3 = L.1 3 → L'.1 2 = L.1 2 → L'.1 5 = L.1 5 → Tm (fun k => y_X1_makeString__a15 k 9 L' (hpC σ (t + 1 + w) M)) (Mk g t σ 4) := by
      intro L' a7 a3 a2 a5
      have e : uN (nI t + 1 + (L.1 7 >>> ((2 : Int32) &&& 31))) = t + 1 + uN (L.1 7) / 4 := by
        rw [u_add (by rw [u_sar2 (by omega)]; omega), et1, u_sar2 (by omega)]
      refine Tm_suc (fun k => by rw [y_X1_makeString__a15]) ?_
      rw [a5, a7, d5]
      refine Tm_chk (u_in (by show uN _ < sN σ 3; omega) (by show sN σ 3 ≤ _; omega)) ?_
      rw [hpC_a, u_cl (by omega), e]
      refine b10 _ _ ?_ ?_ ?_ ?_ ?_ ?_
      · exact a7
      · exact a3
      · exact a2
      · exact a5
      · intro p hp
        rw [upd_other (by omega)]; exact hM p hp
      · rw [upd_other (by omega)]; exact hMt
    refine Tm_suc (fun k => by rw [y_X1_makeString__a15]) ?_
    refine Tm_ite (fun c => absurd c (by rw [u_le (by omega) (by omega)]; omega)) (fun _ => ?_)
    have e27 : uN (L.1 2 + L.1 7) = s + uN (L.1 7) := by rw [u_add (by omega), d2]
    refine Tm_chk (u_in (by omega) (by decide)) ?_
    refine Tm_ite (fun _ => ?_) (fun _ => Tm_ite (fun _ => ?_) (fun _ => ?_))
    · exact b9 _ rfl rfl rfl rfl
    · exact b9 _ rfl rfl rfl rfl
    · exact b10 _ M rfl rfl rfl rfl hM hMt
theorem c_makeString15 (h : HQ g l t σ) (hs : 1 ≤ uN (L.1 3) → uN (L.1 3) < 2147483648 → uN (L.1 2) + uN (L.1 3) ≤ 8192) : Tm (fun k => y_X1_makeString__a15 k 0 L σ) (Mk g t σ 4) := by
  have hn := HQ_n h
  have h21 := h.2.1
  refine Tm_suc (fun k => by rw [y_X1_makeString__a15]) ?_
  refine Tm_ite (fun c => ?_) (fun c => Tm_ite (fun c0 => ?_) (fun c0 => ?_))
  · have c4 : 2 ≤ uN (L.1 3) ∧ uN (L.1 3) < 2147483648 := by
      rw [i_lt, u_int (L.1 3)] at c
      have c' : 1 < (if uN (L.1 3) < 2147483648 then (uN (L.1 3) : Int) else (uN (L.1 3) : Int) - 4294967296) := c
      have := u_lt (L.1 3)
      split at c' <;> omega
    have hs' := hs (by omega) c4.2
    have e3 : uN (L.1 3 + 3) = uN (L.1 3) + 3 := u_add (y := 3) (by show uN (L.1 3) + 3 < _; omega)
    have ew : uN ((L.1 3 + 3) >>> ((2 : Int32) &&& 31)) = (uN (L.1 3) + 3) / 4 := by rw [u_sar2 (by omega), e3]
    refine Tm_suc (fun k => by rw [y_X1_makeString__a15]) ?_
    refine Tm_ite (fun cw => ?_) (fun _ => Tm_some (Mk_id h (Or.inr (by show 4026531840 ≤ uN (-268435451) ∧ ¬ uN (-268435451) % 16 = 0; decide))))
    rw [u_ltn (by omega) (by decide), ew] at cw
    have cw' : (uN (L.1 3) + 3) / 4 < 1000 := cw
    refine Tm_suc (fun k => by rw [y_X1_makeString__a15]) ?_
    rw [h.1, show Int32.ofNat (sN σ 3) - nI t = nI (sN σ 3 - t) from n_sub (by omega) h21.2]
    have eu : uN (nI (sN σ 3 - t)) = sN σ 3 - t := u_n (by omega)
    have e1 : uN (1 + ((L.1 3 + 3) >>> ((2 : Int32) &&& 31))) = 1 + (uN (L.1 3) + 3) / 4 := by
      rw [u_add (x := 1) (by rw [ew]; show 1 + _ < _; omega), ew]; rfl
    refine Tm_ite (fun c2 => ?_) (fun _ => Tm_some (Mk_id h (Or.inr (by show 4026531840 ≤ uN (-268435450) ∧ ¬ uN (-268435450) % 16 = 0; decide))))
    have c2a : 1 + ((L.1 3 + 3) >>> ((2 : Int32) &&& 31)) ≤ nI (sN σ 3 - t) := c2
    rw [u_le (by omega) (by omega), e1, eu] at c2a
    have et : uN (nI t) = t := u_n (by omega)
    have et1 : uN (nI t + 1) = t + 1 := by rw [u_inc (by omega), et]
    have e8 : nI t + 1 + ((L.1 3 + 3) >>> ((2 : Int32) &&& 31)) = nI (t + 1 + (uN (L.1 3) + 3) / 4) := by
      rw [u_eq, u_add (by omega), et1, ew, u_n (by omega)]
    refine Tm_suc (fun k => by rw [y_X1_makeString__a15]) ?_
    rw [hpC_i (t := t + 1 + (uN (L.1 3) + 3) / 4) σ (show (lI (lI L 4 ((L.1 3 + 3) >>> ((2 : Int32) &&& 31))) 5 (nI t)).1 5 + 1 + (lI (lI L 4 ((L.1 3 + 3) >>> ((2 : Int32) &&& 31))) 5 (nI t)).1 4 = nI (t + 1 + (uN (L.1 3) + 3) / 4) from e8)]
    refine Tm_oc (Tm_suc (fun k => by rw [y_X1_header]) (Tm_some (Q := fun r => r = _) rfl)) (fun r hr => ?_)
    rw [hr]
    refine Tm_chk (u_in (by show uN (nI t) < sN σ 3; omega) (by show sN σ 3 ≤ _; omega)) ?_
    rw [show ((lI (lI L 4 ((L.1 3 + 3) >>> ((2 : Int32) &&& 31))) 5 (nI t)).1 5).toNatClampNeg = t from (u_cl (x := nI t) (by omega)).trans et, hpC_a]
    refine Tm_suc (fun k => by rw [y_X1_makeString__a15]) ?_
    have hd := hd_of (K := 4) (F := 0 <<< ((3 : Int32) &&& 31)) (n := L.1 3) (s := 1 + ((L.1 3 + 3) >>> ((2 : Int32) &&& 31))) (hh := 0) (k := 4) (f := 0) rfl (by decide) (by decide) (by decide) rfl (by omega) e1 (by omega) (T := 0) rfl (by decide)
    refine ms15_7 (n := uN (L.1 3)) (s := uN (L.1 2)) h rfl (by omega) hs' (by omega) (hd.trans (by omega)) (uN (L.1 3)) _ _ ?_ ?_ ?_ ?_ ?_ ?_
    · show 0 + _ = _; omega
    · rfl
    · rfl
    · rfl
    · intro p hp
      rw [upd_other (by omega)]
    · exact upd_same
  · have c4 : uN (L.1 3) = 1 := by
      rw [i_lt, u_int (L.1 3)] at c c0
      have c' : ¬ 1 < (if uN (L.1 3) < 2147483648 then (uN (L.1 3) : Int) else (uN (L.1 3) : Int) - 4294967296) := c
      have c'' : 0 < (if uN (L.1 3) < 2147483648 then (uN (L.1 3) : Int) else (uN (L.1 3) : Int) - 4294967296) := c0
      have := u_lt (L.1 3)
      split at c' <;> omega
    have hs' := hs (by omega) (by omega)
    refine Tm_suc (fun k => by rw [y_X1_makeString__a15]) ?_
    refine Tm_chk (u_in (by omega) (by decide)) ?_
    refine Tm_suc (fun k => by rw [y_X1_makeString__a15]) ?_
    refine Tm_some (Mk_id h (Or.inl ?_))
    have e : uN (-1073741824 ||| (σ.2.2.1 15 (L.1 2).toNatClampNeg &&& 255)) = 3221225472 + uN (σ.2.2.1 15 (L.1 2).toNatClampNeg) % 256 := by
      rw [u_orB (k := 8) (a := 12582912) (by rw [u_and8, u_n (by omega)]; omega) (by decide), u_and8, u_n (by omega)]; rfl
    show Gv g (-1073741824 ||| (σ.2.2.1 15 (L.1 2).toNatClampNeg &&& 255)) ∧ kdC (σ.2.2.1 3) (-1073741824 ||| (σ.2.2.1 15 (L.1 2).toNatClampNeg &&& 255)) = 4
    refine ⟨Or.inl ⟨by omega, by omega⟩, ?_⟩
    unfold kdC
    rw [if_neg (by omega)]
    omega
  · refine Tm_suc (fun k => by rw [y_X1_makeString__a15]) ?_
    refine Tm_some (Mk_id h (Or.inl ⟨Or.inr ⟨by show uN 0 < 160000; decide, h.2.2.2.1.1⟩, ?_⟩))
    show (if uN 0 < 2147483648 then hdK (uN (σ.2.2.1 3 (uN 0))) else uN 0 / 268435456 % 8) = 4
    rw [if_pos (by decide), show uN 0 = 0 from rfl, h.2.2.2.2.1.1]
    decide
theorem cb13_1 (h : HQ g l t σ) (hx : Gv g x) {a b n : Nat} (n1 : n ≤ 1073741823) (b1 : b ≤ 1073741823) (hk : uN x < 2147483648 → hdK (uN (σ.2.2.1 3 (uN x))) = 4 ∧ a + n ≤ hdL (uN (σ.2.2.1 3 (uN x)))) : ∀ (m : Nat) (L : LV) (f : Nat → Int32), uN (L.1 6) + m = n → L.1 1 = x → (uN x < 2147483648 → uN (L.1 2) = a) → uN (L.1 3) = n → uN (L.1 5) = b → Tm (fun k => y_X1_copyBytes__a13 k 1 L (uF σ 13 f)) (fun r => r.1 = L.1 5 + L.1 3 ∧ ∃ f', r.2 = uF σ 13 f') := by
  intro m
  induction m with
  | zero =>
    intro L f d6 d1 d2 d3 d5
    refine Tm_suc (fun k => by rw [y_X1_copyBytes__a13]) ?_
    refine Tm_yes (by rw [u_le (by omega) (by omega)]; omega) ?_
    refine Tm_suc (fun k => by rw [y_X1_copyBytes__a13]) ?_
    exact Tm_some ⟨rfl, f, rfl⟩
  | succ m ih =>
    intro L f d6 d1 d2 d3 d5
    have b4 : ∀ L' : LV, L'.1 1 = L.1 1 → L'.1 2 = L.1 2 → L'.1 3 = L.1 3 → L'.1 5 = L.1 5 → L'.1 6 = L.1 6 → uN (L'.1 101) < 10400 → Tm (fun k => y_X1_copyBytes__a13 k 4 L' (uF σ 13 f)) (fun r => r.1 = L.1 5 + L.1 3 ∧ ∃ f', r.2 = uF σ 13 f') := by
      intro L' a1 a2 a3 a5 a6 q
      refine Tm_suc (fun k => by rw [y_X1_copyBytes__a13]) ?_
      refine Tm_chk (u_in q (by decide)) ?_
      rw [uF_a]
      refine Tm_mono (ih _ _ ?_ ?_ ?_ ?_ ?_) (fun r hr => ?_)
      · show uN (L'.1 6 + 1) + m = n
        rw [a6, u_inc (by omega)]; omega
      · exact a1.trans d1
      · intro z; show uN (L'.1 2) = a; rw [a2]; exact d2 z
      · show uN (L'.1 3) = n; rw [a3]; exact d3
      · show uN (L'.1 5) = b; rw [a5]; exact d5
      · have e : r.1 = L'.1 5 + L'.1 3 := hr.1
        rw [e, a5, a3]
        exact ⟨rfl, hr.2⟩
    refine Tm_suc (fun k => by rw [y_X1_copyBytes__a13]) ?_
    have e56 : uN (L.1 5 + L.1 6) = b + uN (L.1 6) := by rw [u_add (by omega), d5]
    refine Tm_ite (fun c => absurd c (by rw [u_le (by omega) (by omega)]; omega)) (fun _ => ?_)
    refine Tm_ite (fun _ => ?_) (fun c2 => ?_)
    · refine Tm_suc (fun k => by rw [y_X1_copyBytes__a13]) ?_
      exact Tm_some ⟨rfl, f, rfl⟩
    rw [u_le (by decide) (by omega)] at c2
    have c2' : uN (L.1 5 + L.1 6) < 10400 := Nat.lt_of_not_le c2
    refine Tm_ite (fun c => ?_) (fun c => ?_)
    · rw [u_nn, d1] at c
      obtain ⟨k1, k2⟩ := hk c
      have e26 : uN (L.1 2 + L.1 6) = a + uN (L.1 6) := by
        have lx : hdL (uN (σ.2.2.1 3 (uN x))) < 4096 := Nat.mod_lt _ (by decide)
        have := d2 c
        rw [u_add (by omega), d2 c]
      refine Tm_suc (fun k => by rw [y_X1_copyBytes__a13]) ?_
      refine Tm_chk (by
        show ¬ (L.1 1 + 1 + ((L.1 2 + L.1 6) >>> ((2 : Int32) &&& 31)) < 0 ∨ sN σ 3 ≤ (L.1 1 + 1 + ((L.1 2 + L.1 6) >>> ((2 : Int32) &&& 31))).toNatClampNeg)
        rw [d1]
        exact in_gs (i := L.1 2 + L.1 6) h hx c k1 (by rw [e26]; omega)) ?_
      refine b4 _ rfl rfl rfl rfl rfl ?_
      exact c2'
    · refine b4 _ rfl rfl rfl rfl rfl ?_
      exact c2'
theorem c_copyBytes13 (h : HQ g l t σ) (hx : Gv g (L.1 1)) (n1 : uN (L.1 3) ≤ 1073741823) (b1 : uN (L.1 5) ≤ 1073741823) (hk : uN (L.1 1) < 2147483648 → hdK (uN (σ.2.2.1 3 (uN (L.1 1)))) = 4 ∧ uN (L.1 2) + uN (L.1 3) ≤ hdL (uN (σ.2.2.1 3 (uN (L.1 1))))) : Tm (fun k => y_X1_copyBytes__a13 k 0 L σ) (fun r => r.1 = L.1 5 + L.1 3 ∧ ∃ f', r.2 = uF σ 13 f') := by
  refine Tm_suc (fun k => by rw [y_X1_copyBytes__a13]) ?_
  have q := cb13_1 (x := L.1 1) (a := uN (L.1 2)) (b := uN (L.1 5)) (n := uN (L.1 3)) h hx n1 b1 hk (uN (L.1 3)) (lI L 6 0) (σ.2.2.1 13) (by show 0 + _ = _; omega) rfl (fun _ => rfl) rfl rfl
  rw [uF_id] at q
  exact q
theorem ms13_7 (h : HQ g l t σ) {H : Int32} {s n w : Nat} (hw : w = (n + 3) / 4) (n1 : n ≤ 3996) (hs : s + n ≤ 10400) (hr : t + 1 + w ≤ sN σ 3) (hH : uN H = 4 + 16 * n + 65536 * (1 + w)) : ∀ (m : Nat) (L : LV) (M : Nat → Int32), uN (L.1 7) + m = n → uN (L.1 3) = n → uN (L.1 2) = s → L.1 5 = nI t → (∀ p, p < t → M p = σ.2.2.1 3 p) → M t = H → Tm (fun k => y_X1_makeString__a13 k 7 L (hpC σ (t + 1 + w) M)) (Mk g t σ 4) := by
  have hn := HQ_n h
  have et : uN (nI t) = t := u_n (by omega)
  have et1 : uN (nI t + 1) = t + 1 := by rw [u_inc (by omega), et]
  intro m
  induction m with
  | zero =>
    intro L M d7 d3 d2 d5 hM hMt
    refine Tm_suc (fun k => by rw [y_X1_makeString__a13]) ?_
    refine Tm_yes (by rw [u_le (by omega) (by omega)]; omega) ?_
    refine Tm_suc (fun k => by rw [y_X1_makeString__a13]) ?_
    rw [d5]
    refine Tm_some ?_
    have k1 : hdK (uN H) = 4 := by unfold hdK; omega
    have k2 : hdL (uN H) = n := by unfold hdL; omega
    have k3 : hdW (uN H) = w := by
      unfold hdK at k1
      unfold hdW
      rw [if_pos (by omega), k2, hw]
    have k4 : hdS (uN H) = 1 + w := by
      have a : uN H / 65536 = 1 + w := by omega
      unfold hdS; rw [a]; omega
    have k5 : hdT (uN H) = 0 := by unfold hdT; omega
    have q := Mk_new (M' := M) h hM (by rw [hMt, k3]; exact hr) (by
      unfold CGo
      rw [hMt, k1, k2, k3, k4, k5]
      exact ⟨by omega, by omega, Or.inr (Or.inl rfl), ⟨by omega, by omega⟩, fun z => absurd z (by omega), fun z => absurd z (by omega), fun z => absurd z (by omega)⟩)
    rw [hMt, k1, k3] at q
    exact q
  | succ m ih =>
    intro L M d7 d3 d2 d5 hM hMt
    have b10 : ∀ (L' : LV) (M' : Nat → Int32), L'.1 7 = L.1 7 → L'.1 3 = L.1 3 → L'.1 2 = L.1 2 → L'.1 5 = L.1 5 → (∀ p, p < t → M' p = σ.2.2.1 3 p) → M' t = H → Tm (fun k => y_X1_makeString__a13 k 10 L' (hpC σ (t + 1 + w) M')) (Mk g t σ 4) := by
      intro L' M' a7 a3 a2 a5 z zt
      refine Tm_suc (fun k => by rw [y_X1_makeString__a13]) ?_
      refine ih _ _ ?_ ?_ ?_ ?_ z zt
      · show uN (L'.1 7 + 1) + m = n
        rw [a7, u_inc (by omega)]; omega
      · show uN (L'.1 3) = n; rw [a3]; exact d3
      · show uN (L'.1 2) = s; rw [a2]; exact d2
      · exact a5.trans d5
    have b9 : ∀ L' : LV, L'.1 7 = L.1 7 → L'.1 3 = L.1 3 → L'.1 2 = L.1 2 → L'.1 5 = L.1 5 → Tm (fun k => y_X1_makeString__a13 k 9 L' (hpC σ (t + 1 + w) M)) (Mk g t σ 4) := by
      intro L' a7 a3 a2 a5
      have e : uN (nI t + 1 + (L.1 7 >>> ((2 : Int32) &&& 31))) = t + 1 + uN (L.1 7) / 4 := by
        rw [u_add (by rw [u_sar2 (by omega)]; omega), et1, u_sar2 (by omega)]
      refine Tm_suc (fun k => by rw [y_X1_makeString__a13]) ?_
      rw [a5, a7, d5]
      refine Tm_chk (u_in (by show uN _ < sN σ 3; omega) (by show sN σ 3 ≤ _; omega)) ?_
      rw [hpC_a, u_cl (by omega), e]
      refine b10 _ _ ?_ ?_ ?_ ?_ ?_ ?_
      · exact a7
      · exact a3
      · exact a2
      · exact a5
      · intro p hp
        rw [upd_other (by omega)]; exact hM p hp
      · rw [upd_other (by omega)]; exact hMt
    refine Tm_suc (fun k => by rw [y_X1_makeString__a13]) ?_
    refine Tm_ite (fun c => absurd c (by rw [u_le (by omega) (by omega)]; omega)) (fun _ => ?_)
    have e27 : uN (L.1 2 + L.1 7) = s + uN (L.1 7) := by rw [u_add (by omega), d2]
    refine Tm_chk (u_in (by omega) (by decide)) ?_
    refine Tm_ite (fun _ => ?_) (fun _ => Tm_ite (fun _ => ?_) (fun _ => ?_))
    · exact b9 _ rfl rfl rfl rfl
    · exact b9 _ rfl rfl rfl rfl
    · exact b10 _ M rfl rfl rfl rfl hM hMt
theorem c_makeString13 (h : HQ g l t σ) (hs : 1 ≤ uN (L.1 3) → uN (L.1 3) < 2147483648 → uN (L.1 2) + uN (L.1 3) ≤ 10400) : Tm (fun k => y_X1_makeString__a13 k 0 L σ) (Mk g t σ 4) := by
  have hn := HQ_n h
  have h21 := h.2.1
  refine Tm_suc (fun k => by rw [y_X1_makeString__a13]) ?_
  refine Tm_ite (fun c => ?_) (fun c => Tm_ite (fun c0 => ?_) (fun c0 => ?_))
  · have c4 : 2 ≤ uN (L.1 3) ∧ uN (L.1 3) < 2147483648 := by
      rw [i_lt, u_int (L.1 3)] at c
      have c' : 1 < (if uN (L.1 3) < 2147483648 then (uN (L.1 3) : Int) else (uN (L.1 3) : Int) - 4294967296) := c
      have := u_lt (L.1 3)
      split at c' <;> omega
    have hs' := hs (by omega) c4.2
    have e3 : uN (L.1 3 + 3) = uN (L.1 3) + 3 := u_add (y := 3) (by show uN (L.1 3) + 3 < _; omega)
    have ew : uN ((L.1 3 + 3) >>> ((2 : Int32) &&& 31)) = (uN (L.1 3) + 3) / 4 := by rw [u_sar2 (by omega), e3]
    refine Tm_suc (fun k => by rw [y_X1_makeString__a13]) ?_
    refine Tm_ite (fun cw => ?_) (fun _ => Tm_some (Mk_id h (Or.inr (by show 4026531840 ≤ uN (-268435451) ∧ ¬ uN (-268435451) % 16 = 0; decide))))
    rw [u_ltn (by omega) (by decide), ew] at cw
    have cw' : (uN (L.1 3) + 3) / 4 < 1000 := cw
    refine Tm_suc (fun k => by rw [y_X1_makeString__a13]) ?_
    rw [h.1, show Int32.ofNat (sN σ 3) - nI t = nI (sN σ 3 - t) from n_sub (by omega) h21.2]
    have eu : uN (nI (sN σ 3 - t)) = sN σ 3 - t := u_n (by omega)
    have e1 : uN (1 + ((L.1 3 + 3) >>> ((2 : Int32) &&& 31))) = 1 + (uN (L.1 3) + 3) / 4 := by
      rw [u_add (x := 1) (by rw [ew]; show 1 + _ < _; omega), ew]; rfl
    refine Tm_ite (fun c2 => ?_) (fun _ => Tm_some (Mk_id h (Or.inr (by show 4026531840 ≤ uN (-268435450) ∧ ¬ uN (-268435450) % 16 = 0; decide))))
    have c2a : 1 + ((L.1 3 + 3) >>> ((2 : Int32) &&& 31)) ≤ nI (sN σ 3 - t) := c2
    rw [u_le (by omega) (by omega), e1, eu] at c2a
    have et : uN (nI t) = t := u_n (by omega)
    have et1 : uN (nI t + 1) = t + 1 := by rw [u_inc (by omega), et]
    have e8 : nI t + 1 + ((L.1 3 + 3) >>> ((2 : Int32) &&& 31)) = nI (t + 1 + (uN (L.1 3) + 3) / 4) := by
      rw [u_eq, u_add (by omega), et1, ew, u_n (by omega)]
    refine Tm_suc (fun k => by rw [y_X1_makeString__a13]) ?_
    rw [hpC_i (t := t + 1 + (uN (L.1 3) + 3) / 4) σ (show (lI (lI L 4 ((L.1 3 + 3) >>> ((2 : Int32) &&& 31))) 5 (nI t)).1 5 + 1 + (lI (lI L 4 ((L.1 3 + 3) >>> ((2 : Int32) &&& 31))) 5 (nI t)).1 4 = nI (t + 1 + (uN (L.1 3) + 3) / 4) from e8)]
    refine Tm_oc (Tm_suc (fun k => by rw [y_X1_header]) (Tm_some (Q := fun r => r = _) rfl)) (fun r hr => ?_)
    rw [hr]
    refine Tm_chk (u_in (by show uN (nI t) < sN σ 3; omega) (by show sN σ 3 ≤ _; omega)) ?_
    rw [show ((lI (lI L 4 ((L.1 3 + 3) >>> ((2 : Int32) &&& 31))) 5 (nI t)).1 5).toNatClampNeg = t from (u_cl (x := nI t) (by omega)).trans et, hpC_a]
    refine Tm_suc (fun k => by rw [y_X1_makeString__a13]) ?_
    have hd := hd_of (K := 4) (F := 0 <<< ((3 : Int32) &&& 31)) (n := L.1 3) (s := 1 + ((L.1 3 + 3) >>> ((2 : Int32) &&& 31))) (hh := 0) (k := 4) (f := 0) rfl (by decide) (by decide) (by decide) rfl (by omega) e1 (by omega) (T := 0) rfl (by decide)
    refine ms13_7 (n := uN (L.1 3)) (s := uN (L.1 2)) h rfl (by omega) hs' (by omega) (hd.trans (by omega)) (uN (L.1 3)) _ _ ?_ ?_ ?_ ?_ ?_ ?_
    · show 0 + _ = _; omega
    · rfl
    · rfl
    · rfl
    · intro p hp
      rw [upd_other (by omega)]
    · exact upd_same
  · have c4 : uN (L.1 3) = 1 := by
      rw [i_lt, u_int (L.1 3)] at c c0
      have c' : ¬ 1 < (if uN (L.1 3) < 2147483648 then (uN (L.1 3) : Int) else (uN (L.1 3) : Int) - 4294967296) := c
      have c'' : 0 < (if uN (L.1 3) < 2147483648 then (uN (L.1 3) : Int) else (uN (L.1 3) : Int) - 4294967296) := c0
      have := u_lt (L.1 3)
      split at c' <;> omega
    have hs' := hs (by omega) (by omega)
    refine Tm_suc (fun k => by rw [y_X1_makeString__a13]) ?_
    refine Tm_chk (u_in (by omega) (by decide)) ?_
    refine Tm_suc (fun k => by rw [y_X1_makeString__a13]) ?_
    refine Tm_some (Mk_id h (Or.inl ?_))
    have e : uN (-1073741824 ||| (σ.2.2.1 13 (L.1 2).toNatClampNeg &&& 255)) = 3221225472 + uN (σ.2.2.1 13 (L.1 2).toNatClampNeg) % 256 := by
      rw [u_orB (k := 8) (a := 12582912) (by rw [u_and8, u_n (by omega)]; omega) (by decide), u_and8, u_n (by omega)]; rfl
    show Gv g (-1073741824 ||| (σ.2.2.1 13 (L.1 2).toNatClampNeg &&& 255)) ∧ kdC (σ.2.2.1 3) (-1073741824 ||| (σ.2.2.1 13 (L.1 2).toNatClampNeg &&& 255)) = 4
    refine ⟨Or.inl ⟨by omega, by omega⟩, ?_⟩
    unfold kdC
    rw [if_neg (by omega)]
    omega
  · refine Tm_suc (fun k => by rw [y_X1_makeString__a13]) ?_
    refine Tm_some (Mk_id h (Or.inl ⟨Or.inr ⟨by show uN 0 < 160000; decide, h.2.2.2.1.1⟩, ?_⟩))
    show (if uN 0 < 2147483648 then hdK (uN (σ.2.2.1 3 (uN 0))) else uN 0 / 268435456 % 8) = 4
    rw [if_pos (by decide), show uN 0 = 0 from rfl, h.2.2.2.2.1.1]
    decide
end CRK

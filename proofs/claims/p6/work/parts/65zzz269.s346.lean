/-! The class: tuples, wholes. -/
section CRJ
variable {g g' : Nat → Prop} {l : List Nat} {t t' : Nat} {σ σ' : CS} {L : LV} {x y i : Int32} {M M' : Nat → Int32}
theorem mt16_1 (h : HQ g l t σ) (hb : 2048 ≤ 2147470000) {s n : Nat} (hs : s + n ≤ 2048) (hv : ∀ j, j < n → Gv g (σ.2.2.1 16 (s + j))) : ∀ (m : Nat) (L : LV), m ≤ n → uN (L.1 5) = m → L.1 4 = L.1 5 → uN (L.1 2) = s → Tm (fun k => y_X1_makeTuple__a16 k 1 L σ) (Mk g t σ 5) := by
  have b2 : ∀ (m : Nat) (L : LV), m ≤ n → uN (L.1 5) = m → L.1 4 = L.1 5 → uN (L.1 2) = s → Tm (fun k => y_X1_makeTuple__a16 k 2 L σ) (Mk g t σ 5) := by
    intro m L hm d5 d4 d2
    refine Tm_suc (fun k => by rw [y_X1_makeTuple__a16]) ?_
    have e4 : uN (L.1 4) = m := by rw [d4, d5]
    refine Tm_oc (c_makeRow16 h (Or.inl rfl) (by omega) ?_ ?_) (fun r hr => Tm_some hr)
    · rfl
    · intro _ _
      show uN (L.1 2) + uN (L.1 4) ≤ 2048 ∧ ∀ j, j < uN (L.1 4) → Gv g (σ.2.2.1 16 (uN (L.1 2) + j))
      rw [d2, e4]
      exact ⟨by omega, fun j hj => hv j (by omega)⟩
  intro m
  induction m with
  | zero =>
    intro L hm d5 d4 d2
    refine Tm_suc (fun k => by rw [y_X1_makeTuple__a16]) ?_
    refine Tm_yes ?_ (b2 0 L hm d5 d4 d2)
    rw [u_le (by omega) (by decide), d5]
    exact Nat.zero_le _
  | succ m ih =>
    intro L hm d5 d4 d2
    refine Tm_suc (fun k => by rw [y_X1_makeTuple__a16]) ?_
    have e1 : uN (L.1 2 + L.1 5) = s + (m + 1) := by rw [u_add (by omega), d2, d5]
    have e2 : uN (L.1 2 + L.1 5 - 1) = s + m := by
      rw [u_sub (by rw [e1]; show 1 ≤ _; omega), e1]; show s + (m + 1) - 1 = s + m; omega
    refine Tm_ite (fun _ => b2 (m + 1) L hm d5 d4 d2) (fun _ => ?_)
    refine Tm_chk (u_in (by omega) (by omega)) ?_
    refine Tm_ite (fun _ => ?_) (fun _ => b2 (m + 1) L hm d5 d4 d2)
    refine ih _ (by omega) ?_ ?_ ?_
    · show uN (L.1 5 + (-1)) = m
      rw [u_dec (by omega)]; omega
    · show L.1 5 - 1 = L.1 5 + (-1)
      rw [u_eq, u_dec (by omega), u_sub (by rw [d5]; show 1 ≤ _; omega)]; rfl
    · exact d2
theorem c_makeTuple16 (h : HQ g l t σ) (hb : 2048 ≤ 2147470000) (hs : 1 ≤ uN (L.1 3) → uN (L.1 3) < 2147483648 → uN (L.1 2) + uN (L.1 3) ≤ 2048 ∧ ∀ j, j < uN (L.1 3) → Gv g (σ.2.2.1 16 (uN (L.1 2) + j))) : Tm (fun k => y_X1_makeTuple__a16 k 0 L σ) (Mk g t σ 5) := by
  refine Tm_suc (fun k => by rw [y_X1_makeTuple__a16]) ?_
  by_cases c : 1 ≤ uN (L.1 3) ∧ uN (L.1 3) < 2147483648
  · obtain ⟨a, b⟩ := hs c.1 c.2
    refine mt16_1 h hb a b (uN (L.1 3)) _ (Nat.le_refl _) ?_ ?_ ?_
    · rfl
    · rfl
    · rfl
  · refine Tm_suc (fun k => by rw [y_X1_makeTuple__a16]) ?_
    refine Tm_yes ?_ ?_
    · show L.1 3 ≤ 0
      rw [i_le, u_int (L.1 3)]
      show (if uN (L.1 3) < 2147483648 then (uN (L.1 3) : Int) else (uN (L.1 3) : Int) - 4294967296) ≤ 0
      have := u_lt (L.1 3)
      split <;> omega
    · refine Tm_suc (fun k => by rw [y_X1_makeTuple__a16]) ?_
      refine Tm_oc (c_makeRow16 h (Or.inl rfl) (by omega) ?_ ?_) (fun r hr => Tm_some hr)
      · rfl
      · intro z1 z2
        exact absurd ⟨z1, z2⟩ c
theorem mt20_1 (h : HQ g l t σ) (hb : sN σ 20 ≤ 2147470000) {s n : Nat} (hs : s + n ≤ sN σ 20) (hv : ∀ j, j < n → Gv g (σ.2.2.1 20 (s + j))) : ∀ (m : Nat) (L : LV), m ≤ n → uN (L.1 5) = m → L.1 4 = L.1 5 → uN (L.1 2) = s → Tm (fun k => y_X1_makeTuple__z20 k 1 L σ) (Mk g t σ 5) := by
  have b2 : ∀ (m : Nat) (L : LV), m ≤ n → uN (L.1 5) = m → L.1 4 = L.1 5 → uN (L.1 2) = s → Tm (fun k => y_X1_makeTuple__z20 k 2 L σ) (Mk g t σ 5) := by
    intro m L hm d5 d4 d2
    refine Tm_suc (fun k => by rw [y_X1_makeTuple__z20]) ?_
    have e4 : uN (L.1 4) = m := by rw [d4, d5]
    refine Tm_oc (c_makeRow20 h (Or.inl rfl) (by omega) ?_ ?_) (fun r hr => Tm_some hr)
    · rfl
    · intro _ _
      show uN (L.1 2) + uN (L.1 4) ≤ sN σ 20 ∧ ∀ j, j < uN (L.1 4) → Gv g (σ.2.2.1 20 (uN (L.1 2) + j))
      rw [d2, e4]
      exact ⟨by omega, fun j hj => hv j (by omega)⟩
  intro m
  induction m with
  | zero =>
    intro L hm d5 d4 d2
    refine Tm_suc (fun k => by rw [y_X1_makeTuple__z20]) ?_
    refine Tm_yes ?_ (b2 0 L hm d5 d4 d2)
    rw [u_le (by omega) (by decide), d5]
    exact Nat.zero_le _
  | succ m ih =>
    intro L hm d5 d4 d2
    refine Tm_suc (fun k => by rw [y_X1_makeTuple__z20]) ?_
    have e1 : uN (L.1 2 + L.1 5) = s + (m + 1) := by rw [u_add (by omega), d2, d5]
    have e2 : uN (L.1 2 + L.1 5 - 1) = s + m := by
      rw [u_sub (by rw [e1]; show 1 ≤ _; omega), e1]; show s + (m + 1) - 1 = s + m; omega
    refine Tm_ite (fun _ => b2 (m + 1) L hm d5 d4 d2) (fun _ => ?_)
    refine Tm_chk (u_in (by omega) (by omega)) ?_
    refine Tm_ite (fun _ => ?_) (fun _ => b2 (m + 1) L hm d5 d4 d2)
    refine ih _ (by omega) ?_ ?_ ?_
    · show uN (L.1 5 + (-1)) = m
      rw [u_dec (by omega)]; omega
    · show L.1 5 - 1 = L.1 5 + (-1)
      rw [u_eq, u_dec (by omega), u_sub (by rw [d5]; show 1 ≤ _; omega)]; rfl
    · exact d2
theorem c_makeTuple20 (h : HQ g l t σ) (hb : sN σ 20 ≤ 2147470000) (hs : 1 ≤ uN (L.1 3) → uN (L.1 3) < 2147483648 → uN (L.1 2) + uN (L.1 3) ≤ sN σ 20 ∧ ∀ j, j < uN (L.1 3) → Gv g (σ.2.2.1 20 (uN (L.1 2) + j))) : Tm (fun k => y_X1_makeTuple__z20 k 0 L σ) (Mk g t σ 5) := by
  refine Tm_suc (fun k => by rw [y_X1_makeTuple__z20]) ?_
  by_cases c : 1 ≤ uN (L.1 3) ∧ uN (L.1 3) < 2147483648
  · obtain ⟨a, b⟩ := hs c.1 c.2
    refine mt20_1 h hb a b (uN (L.1 3)) _ (Nat.le_refl _) ?_ ?_ ?_
    · rfl
    · rfl
    · rfl
  · refine Tm_suc (fun k => by rw [y_X1_makeTuple__z20]) ?_
    refine Tm_yes ?_ ?_
    · show L.1 3 ≤ 0
      rw [i_le, u_int (L.1 3)]
      show (if uN (L.1 3) < 2147483648 then (uN (L.1 3) : Int) else (uN (L.1 3) : Int) - 4294967296) ≤ 0
      have := u_lt (L.1 3)
      split <;> omega
    · refine Tm_suc (fun k => by rw [y_X1_makeTuple__z20]) ?_
      refine Tm_oc (c_makeRow20 h (Or.inl rfl) (by omega) ?_ ?_) (fun r hr => Tm_some hr)
      · rfl
      · intro z1 z2
        exact absurd ⟨z1, z2⟩ c
/-- a header without height -/
theorem hd_of3 {K F n s : Int32} {k f N S : Nat} (hk : uN K = k) (k8 : k < 8) (hf : uN F = f * 8) (f2 : f < 2) (hn : uN n = N) (n4 : N < 4096) (hs : uN s = S) (s1 : S < 1024) : uN (((K ||| F) ||| (n <<< ((4 : Int32) &&& 31))) ||| (s <<< ((16 : Int32) &&& 31))) = k + f * 8 + 16 * N + 65536 * S := by
  have e4 : uN (n <<< ((4 : Int32) &&& 31)) = N * 2 ^ 4 := by rw [u_shl (k := 4) _ (by decide) (by rw [hn]; omega), hn]
  have e16 : uN (s <<< ((16 : Int32) &&& 31)) = S * 2 ^ 16 := by rw [u_shl (k := 16) _ (by decide) (by rw [hs]; omega), hs]
  have a1 : uN (K ||| F) = k + f * 8 := by rw [u_orA (k := 3) (a := f) (by rw [hk]; omega) hf, hk, hf]
  have a2 : uN ((K ||| F) ||| (n <<< ((4 : Int32) &&& 31))) = k + f * 8 + N * 2 ^ 4 := by rw [u_orA (k := 4) (a := N) (by rw [a1]; omega) e4, a1, e4]
  rw [u_orA (k := 16) (a := S) (by rw [a2]; omega) e16, a2, e16]
  omega
/-- limbs as a new cell -/
theorem Mk_whole (h : HQ g l t σ) {R : Nat → Int32} {H : Int32} {n f : Nat} (f2 : f < 2) (n0 : 1 ≤ n) (n1 : n ≤ 32) (hH : uN H = 2 + f * 8 + 16 * n + 65536 * (1 + n)) (hr : t + 1 + n ≤ sN σ 3) : Mk g t σ 2 (nI t, hpC σ (t + 1 + n) (va_cpy R (upd (σ.2.2.1 3) t H) 0 (t + 1) n)) := by
  have hm : va_cpy R (upd (σ.2.2.1 3) t H) 0 (t + 1) n t = H := by
    unfold va_cpy
    rw [if_neg (by omega), upd_same]
  have hlo : ∀ p, p < t → va_cpy R (upd (σ.2.2.1 3) t H) 0 (t + 1) n p = σ.2.2.1 3 p := by
    intro p hp
    unfold va_cpy
    rw [if_neg (by omega), upd_other (by omega)]
  have k1 : hdK (uN H) = 2 := by unfold hdK; omega
  have k2 : hdL (uN H) = n := by unfold hdL; omega
  have k3 : hdW (uN H) = n := by
    unfold hdK at k1
    unfold hdW
    rw [if_neg (by omega), k2]
  have k4 : hdS (uN H) = 1 + n := by
    have a : uN H / 65536 = 1 + n := by omega
    unfold hdS; rw [a]; omega
  have k5 : hdT (uN H) = 0 := by unfold hdT; omega
  have q := Mk_new (M' := va_cpy R (upd (σ.2.2.1 3) t H) 0 (t + 1) n) h hlo (by rw [hm, k3]; exact hr) (by
    unfold CGo
    rw [hm, k1, k2, k3, k4, k5]
    exact ⟨by omega, by omega, Or.inl rfl, ⟨by omega, by omega⟩, fun _ => ⟨n0, n1⟩, fun z => absurd z (by omega), fun z => absurd z (by omega)⟩)
  rw [hm, k1, k3] at q
  exact q
theorem c_makeWhole (h : HQ g l t σ) (n0 : 1 ≤ uN (L.1 2)) (n2 : uN (L.1 2) < 2147483648) : Tm (fun k => y_X1_makeWhole__a7 k 0 L σ) (Mk g t σ 2) := by
  have hn := HQ_n h
  have h21 := h.2.1
  refine Tm_suc (fun k => by rw [y_X1_makeWhole__a7]) ?_
  refine Tm_ite (fun c => ?_) (fun _ => Tm_some (Mk_id h (Or.inr (by show 4026531840 ≤ uN (-268435451) ∧ ¬ uN (-268435451) % 16 = 0; decide))))
  rw [u_le n2 (by decide)] at c
  have n1 : uN (L.1 2) ≤ 32 := c
  refine Tm_suc (fun k => by rw [y_X1_makeWhole__a7]) ?_
  rw [h.1, show Int32.ofNat (sN σ 3) - nI t = nI (sN σ 3 - t) from n_sub (by omega) h21.2]
  have eu : uN (nI (sN σ 3 - t)) = sN σ 3 - t := u_n (by omega)
  have e1 : uN (1 + L.1 2) = 1 + uN (L.1 2) := u_add (x := 1) (by show 1 + uN (L.1 2) < _; omega)
  refine Tm_ite (fun c2 => ?_) (fun _ => Tm_some (Mk_id h (Or.inr (by show 4026531840 ≤ uN (-268435450) ∧ ¬ uN (-268435450) % 16 = 0; decide))))
  rw [u_le (by omega) (by omega), e1, eu] at c2
  have et : uN (nI t) = t := u_n (by omega)
  have et1 : uN (nI t + 1) = t + 1 := by rw [u_inc (by omega), et]
  have e8 : nI t + 1 + L.1 2 = nI (t + 1 + uN (L.1 2)) := by
    rw [u_eq, u_add (by omega), et1, u_n (by omega)]
  have b4 : ∀ (L' : LV) (f : Nat), f < 2 → uN (L'.1 100) = f * 8 → uN (L'.1 101) = 2 → L'.1 102 = nI t → L'.1 2 = L.1 2 → L'.1 4 = nI t → Tm (fun k => y_X1_makeWhole__a7 k 4 L' (hpC σ (t + 1 + uN (L.1 2)) (σ.2.2.1 3))) (Mk g t σ 2) := by
    intro L' f f2 d100 d101 d102 d2 d4
    refine Tm_suc (fun k => by rw [y_X1_makeWhole__a7]) ?_
    rw [d102, d2, d4]
    refine Tm_chk (u_in (by show uN (nI t) < sN σ 3; omega) (by show sN σ 3 ≤ _; omega)) ?_
    rw [u_cl (x := nI t) (by omega), et, hpC_a]
    refine Tm_chk ⟨by decide, by rw [u_neg]; omega, by rw [u_neg]; omega, by rw [u_cl n2]; show 0 + _ ≤ 72; omega, by rw [u_cl (by omega), u_cl n2, et1]; show t + 1 + uN (L.1 2) ≤ sN σ 3; omega⟩ ?_
    rw [u_cl n2, u_cl (x := nI t + 1) (by omega), et1, hpC_f]
    refine Tm_some ?_
    have eh := hd_of3 (K := L'.1 101) (F := L'.1 100) (n := L.1 2) (s := 1 + L.1 2) d101 (by omega) d100 f2 rfl (by omega) e1 (by omega)
    exact Mk_whole h f2 n0 n1 eh (by omega)
  refine Tm_suc (fun k => by rw [y_X1_makeWhole__a7]) ?_
  rw [hpC_i (t := t + 1 + uN (L.1 2)) σ (show (lI L 4 (nI t)).1 4 + 1 + (lI L 4 (nI t)).1 2 = nI (t + 1 + uN (L.1 2)) from e8)]
  refine Tm_ite (fun _ => ?_) (fun _ => ?_)
  · refine Tm_suc (fun k => by rw [y_X1_makeWhole__a7]) ?_
    refine b4 _ 0 (by decide) ?_ ?_ ?_ ?_ ?_
    · rfl
    · rfl
    · rfl
    · rfl
    · rfl
  · refine b4 _ 1 (by decide) ?_ ?_ ?_ ?_ ?_
    · rfl
    · rfl
    · rfl
    · rfl
    · rfl
/-- what it stands on is the same -/
theorem HQ_fr (h : HQ g l t σ) (e1 : σ'.1 1 = σ.1 1) (e3 : σ'.2.2.1 3 = σ.2.2.1 3) (en : σ'.2.2.2.2.1 = σ.2.2.2.2.1) : HQ g l t σ' := by
  have s3 : ∀ j, sN σ' j = sN σ j := fun j => congrFun en j
  unfold HQ
  rw [e1, e3, s3, s3, s3]
  exact h
theorem HQ_f (h : HQ g l t σ) {k : Nat} (hk : ¬ 3 = k) (f : Nat → Int32) : HQ g l t (uF σ k f) := HQ_fr h rfl (if_neg hk) rfl
end CRJ

/-! The class: a new cell. -/
section CRH
variable {g g' : Nat → Prop} {l : List Nat} {t t' : Nat} {σ : CS} {L : LV} {x y i : Int32} {M M' : Nat → Int32}
/-- the heap is longer -/
def hpC (σ : CS) (t : Nat) (M : Nat → Int32) : CS := (upd σ.1 1 (nI t), σ.2.1, updG σ.2.2.1 3 M, σ.2.2.2)
theorem hpC_id (h : HQ g l t σ) : hpC σ t (σ.2.2.1 3) = σ := by
  refine Prod.ext (funext fun j => ?_) (Prod.ext rfl (Prod.ext (funext fun j => ?_) rfl))
  · show (if j = 1 then nI t else σ.1 j) = σ.1 j
    by_cases c : j = 1
    · rw [if_pos c, c, h.1]
    · rw [if_neg c]
  · show (if j = 3 then σ.2.2.1 3 else σ.2.2.1 j) = σ.2.2.1 j
    by_cases c : j = 3
    · rw [if_pos c, c]
    · rw [if_neg c]
theorem hpC_hp (σ : CS) (t t' : Nat) (M M' : Nat → Int32) : hpC (hpC σ t M) t' M' = hpC σ t' M' := by
  refine Prod.ext (funext fun j => ?_) (Prod.ext rfl (Prod.ext (funext fun j => ?_) rfl))
  · show (if j = 1 then nI t' else if j = 1 then nI t else σ.1 j) = if j = 1 then nI t' else σ.1 j
    by_cases c : j = 1
    · rw [if_pos c, if_pos c]
    · rw [if_neg c, if_neg c, if_neg c]
  · show (if j = 3 then M' else if j = 3 then M else σ.2.2.1 j) = if j = 3 then M' else σ.2.2.1 j
    by_cases c : j = 3
    · rw [if_pos c, if_pos c]
    · rw [if_neg c, if_neg c, if_neg c]
theorem hpC_u (σ : CS) {v : Int32} (hv : v = nI t) (M : Nat → Int32) : uF (uI σ 1 v) 3 M = hpC σ t M := by rw [hv]; rfl
theorem hpC_a (σ : CS) (i : Nat) (x : Int32) : uA (hpC σ t M) 3 i x = hpC σ t (upd M i x) := by
  refine Prod.ext rfl (Prod.ext rfl (Prod.ext (funext fun j => ?_) rfl))
  show (if j = 3 then upd M i x else if j = 3 then M else σ.2.2.1 j) = if j = 3 then upd M i x else σ.2.2.1 j
  by_cases c : j = 3
  · rw [if_pos c, if_pos c]
  · rw [if_neg c, if_neg c, if_neg c]
theorem hpC_f (σ : CS) (M' : Nat → Int32) : uF (hpC σ t M) 3 M' = hpC σ t M' := by
  refine Prod.ext rfl (Prod.ext rfl (Prod.ext (funext fun j => ?_) rfl))
  show (if j = 3 then M' else if j = 3 then M else σ.2.2.1 j) = if j = 3 then M' else σ.2.2.1 j
  by_cases c : j = 3
  · rw [if_pos c, if_pos c]
  · rw [if_neg c, if_neg c, if_neg c]
theorem hpC_i (σ : CS) {v : Int32} (hv : v = nI t) : uI σ 1 v = hpC σ t (σ.2.2.1 3) := by
  rw [hv]
  refine Prod.ext rfl (Prod.ext rfl (Prod.ext (funext fun j => ?_) rfl))
  show σ.2.2.1 j = if j = 3 then σ.2.2.1 3 else σ.2.2.1 j
  by_cases c : j = 3
  · rw [if_pos c, c]
  · rw [if_neg c]
theorem TlC_app (hM : ∀ p, p < t → M' p = M p) (ht : t ≤ t') (e1 : uN (M' t) < 2147483648) (e2 : t + 1 + hdW (uN (M' t)) = t') : ∀ (l : List Nat) (a : Nat), TlC M t a l → TlC M' t' a (l ++ [t])
  | [], a, h => ⟨show t = a from (show a = t from h).symm, e1, by omega, e2⟩
  | p :: l, a, h => by
    obtain ⟨h1, h2, h3, h4⟩ := h
    have e : M' p = M p := hM p (by omega)
    refine ⟨h1, by rw [e]; exact h2, by rw [e]; omega, ?_⟩
    rw [e]
    exact TlC_app hM ht e1 e2 l _ h4
theorem hdW_5 {H : Nat} (k : 5 ≤ hdK H) : hdW H = hdL H := by
  unfold hdK at k; unfold hdW; rw [if_neg (by omega)]
theorem CGo_ext (hM : ∀ p, p < t → M' p = M p) (hg : ∀ p, g p → g' p) (hb : ∀ p, g p → p < t) (ht : t ≤ t') {p : Nat} (h : CGo M g t p) : CGo M' g' t' p := by
  obtain ⟨h1, h2, h3, h4, h5, h6, h7⟩ := h
  have e : M' p = M p := hM p (by omega)
  unfold CGo
  rw [e]
  have mb : 5 ≤ hdK (uN (M p)) → ∀ i, i < hdL (uN (M p)) → M' (p + 1 + i) = M (p + 1 + i) := by
    intro k i hi
    have w := hdW_5 k
    exact hM _ (by omega)
  refine ⟨h1, by omega, h3, h4, h5, fun k => ⟨(h6 k).1, (h6 k).2.1, fun i hi => ?_⟩, fun k f i hi => ?_⟩
  · obtain ⟨a, b⟩ := (h6 k).2.2 i hi
    rw [mb k i hi]
    refine ⟨Gv_sg a hg, ?_⟩
    unfold hgt at b ⊢
    split
    · rename_i c
      rw [if_pos c] at b
      rw [hM _ (hb _ (Gv_c a c).2)]
      exact b
    · rename_i c
      rw [if_neg c] at b
      exact b
  · have k5 : 5 ≤ hdK (uN (M p)) := by omega
    obtain ⟨a, b⟩ := h7 k f i hi
    have a2 := ((h6 k5).2.2 i hi).1
    rw [mb k5 i hi, hM _ (hb _ (Gv_c a2 a).2)]
    exact ⟨a, b⟩
/-- one cell more -/
theorem HQ_new (h : HQ g l t σ) (hM : ∀ p, p < t → M' p = σ.2.2.1 3 p) (ht : t + 1 + hdW (uN (M' t)) ≤ sN σ 3) (hc : CGo M' (fun p => g p ∨ p = t) (t + 1 + hdW (uN (M' t))) t) : HQ (fun p => g p ∨ p = t) (l ++ [t]) (t + 1 + hdW (uN (M' t))) (hpC σ (t + 1 + hdW (uN (M' t))) M') := by
  have h3 := h.2.1
  refine ⟨rfl, ⟨by omega, ht⟩, h.2.2.1, ⟨Or.inl h.2.2.2.1.1, Or.inl h.2.2.2.1.2.1, Or.inl h.2.2.2.1.2.2⟩, ?_, ?_, fun p hp => ?_⟩
  · show M' 0 = 65540 ∧ M' 1 = 67174405 ∧ M' 2 = 67174414
    rw [hM 0 (by omega), hM 1 (by omega), hM 2 (by omega)]
    exact h.2.2.2.2.1
  · exact TlC_app hM (by omega) hc.1 rfl l 3 h.2.2.2.2.2.1
  · rcases hp with hp | hp
    · obtain ⟨a, b⟩ := h.2.2.2.2.2.2 p hp
      refine ⟨a.imp id (fun z => List.mem_append_left _ z), ?_⟩
      exact CGo_ext hM (fun q => Or.inl) (fun q hq => (HQ_c h hq).1) (by omega) b
    · rw [hp]
      exact ⟨Or.inr (List.mem_append_right _ (List.mem_singleton.2 rfl)), hc⟩
/-- what a maker leaves -/
def Mk (g : Nat → Prop) (t : Nat) (σ : CS) (kd : Nat) (r : Int32 × CS) : Prop := ∃ (g' : Nat → Prop) (l' : List Nat) (t' : Nat) (M' : Nat → Int32), r.2 = hpC σ t' M' ∧ HQ g' l' t' r.2 ∧ (∀ p, g p → g' p) ∧ (∀ p, p < t → M' p = σ.2.2.1 3 p) ∧ t ≤ t' ∧ ((Gv g' r.1 ∧ kdC M' r.1 = kd) ∨ Rw r.1)
theorem Mk_id (h : HQ g l t σ) {v : Int32} {kd : Nat} (hv : (Gv g v ∧ kdC (σ.2.2.1 3) v = kd) ∨ Rw v) : Mk g t σ kd (v, σ) := ⟨g, l, t, σ.2.2.1 3, (hpC_id h).symm, h, fun _ z => z, fun _ _ => rfl, Nat.le_refl _, hv⟩
theorem Mk_new (h : HQ g l t σ) (hM : ∀ p, p < t → M' p = σ.2.2.1 3 p) (ht : t + 1 + hdW (uN (M' t)) ≤ sN σ 3) (hc : CGo M' (fun p => g p ∨ p = t) (t + 1 + hdW (uN (M' t))) t) : Mk g t σ (hdK (uN (M' t))) (nI t, hpC σ (t + 1 + hdW (uN (M' t))) M') := by
  have hn := HQ_n h
  have e : uN (nI t) = t := u_n (by omega)
  refine ⟨_, _, _, M', rfl, HQ_new h hM ht hc, fun p => Or.inl, hM, by omega, Or.inl ⟨Or.inr ⟨by show uN (nI t) < 160000; omega, Or.inr e⟩, ?_⟩⟩
  show (if uN (nI t) < 2147483648 then hdK (uN (M' (uN (nI t)))) else uN (nI t) / 268435456 % 8) = _
  rw [if_pos (by omega), e]
/-- a header -/
theorem hd_of {K F n s hh : Int32} {k f N S T : Nat} (hk : uN K = k) (k8 : k < 8) (hf : uN F = f * 8) (f2 : f < 2) (hn : uN n = N) (n4 : N < 4096) (hs : uN s = S) (s1 : S < 1024) (ht : uN hh = T) (t3 : T < 64) : uN ((((K ||| F) ||| (n <<< ((4 : Int32) &&& 31))) ||| (s <<< ((16 : Int32) &&& 31))) ||| (hh <<< ((26 : Int32) &&& 31))) = k + f * 8 + 16 * N + 65536 * S + 67108864 * T := by
  have e4 : uN (n <<< ((4 : Int32) &&& 31)) = N * 2 ^ 4 := by rw [u_shl (k := 4) _ (by decide) (by rw [hn]; omega), hn]
  have e16 : uN (s <<< ((16 : Int32) &&& 31)) = S * 2 ^ 16 := by rw [u_shl (k := 16) _ (by decide) (by rw [hs]; omega), hs]
  have e26 : uN (hh <<< ((26 : Int32) &&& 31)) = T * 2 ^ 26 := by rw [u_shl (k := 26) _ (by decide) (by rw [ht]; omega), ht]
  have a1 : uN (K ||| F) = k + f * 8 := by rw [u_orA (k := 3) (a := f) (by rw [hk]; omega) hf, hk, hf]
  have a2 : uN ((K ||| F) ||| (n <<< ((4 : Int32) &&& 31))) = k + f * 8 + N * 2 ^ 4 := by rw [u_orA (k := 4) (a := N) (by rw [a1]; omega) e4, a1, e4]
  have a3 : uN (((K ||| F) ||| (n <<< ((4 : Int32) &&& 31))) ||| (s <<< ((16 : Int32) &&& 31))) = k + f * 8 + N * 2 ^ 4 + S * 2 ^ 16 := by rw [u_orA (k := 16) (a := S) (by rw [a2]; omega) e16, a2, e16]
  rw [u_orA (k := 26) (a := T) (by rw [a3]; omega) e26, a3, e26]
  omega
/-- a row of values as a new cell -/
theorem Mk_row (h : HQ g l t σ) {R : Nat → Int32} {H : Int32} {s n kd f S T : Nat} (hk : kd = 5 ∨ kd = 6) (f2 : f < 2) (n1 : n ≤ 999) (s1 : 1 ≤ S) (s2 : S ≤ 1000) (t1 : 1 ≤ T) (t3 : T ≤ 30) (hH : uN H = kd + f * 8 + 16 * n + 65536 * S + 67108864 * T) (hr : t + 1 + n ≤ sN σ 3) (hv : ∀ j, j < n → Gv g (R (s + j)) ∧ hgt (σ.2.2.1 3) (R (s + j)) < T) (hf : f = 1 → ∀ j, j < n → uN (R (s + j)) < 2147483648 ∧ uN (σ.2.2.1 3 (uN (R (s + j)))) % 65536 = 37) : Mk g t σ kd (nI t, hpC σ (t + 1 + n) (va_cpy R (upd (σ.2.2.1 3) t H) s (t + 1) n)) := by
  have hm : va_cpy R (upd (σ.2.2.1 3) t H) s (t + 1) n t = H := by
    unfold va_cpy
    rw [if_neg (by omega), upd_same]
  have hlo : ∀ p, p < t → va_cpy R (upd (σ.2.2.1 3) t H) s (t + 1) n p = σ.2.2.1 3 p := by
    intro p hp
    unfold va_cpy
    rw [if_neg (by omega), upd_other (by omega)]
  have hin : ∀ i, i < n → va_cpy R (upd (σ.2.2.1 3) t H) s (t + 1) n (t + 1 + i) = R (s + i) := by
    intro i hi
    unfold va_cpy
    rw [if_pos ⟨by omega, by omega⟩]
    congr 1
    omega
  have k1 : hdK (uN H) = kd := by unfold hdK; omega
  have k2 : hdL (uN H) = n := by unfold hdL; omega
  have k3 : hdW (uN H) = n := by rw [hdW_5 (by omega), k2]
  have k4 : hdS (uN H) = S := by unfold hdS; omega
  have k5 : hdT (uN H) = T := by unfold hdT; omega
  have k6 : uN H / 8 % 2 = f := by omega
  have q := Mk_new (M' := va_cpy R (upd (σ.2.2.1 3) t H) s (t + 1) n) h hlo (by rw [hm, k3]; exact hr) (by
    unfold CGo
    rw [hm, k1, k2, k3, k4, k5, k6]
    refine ⟨by omega, by omega, by omega, ⟨t3, s1⟩, fun z => by omega, fun _ => ⟨n1, t1, fun i hi => ?_⟩, fun _ z i hi => ?_⟩
    · rw [hin i hi]
      obtain ⟨a, b⟩ := hv i hi
      refine ⟨Gv_sg a (fun p => Or.inl), ?_⟩
      unfold hgt at b ⊢
      split
      · rename_i c
        rw [if_pos c] at b
        rw [hlo _ (HQ_c h (Gv_c a c).2).1]
        exact b
      · omega
    · rw [hin i hi]
      obtain ⟨a, b⟩ := hf z i hi
      rw [hlo _ (HQ_c h (Gv_c (hv i hi).1 a).2).1]
      exact ⟨a, b⟩)
  rw [hm, k1, k3] at q
  exact q
end CRH

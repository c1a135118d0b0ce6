/-! The class: what reads a value. -/
theorem Tm_oc {x : Nat → Option (Int32 × CS)} {f : Nat → Int32 × CS → Option (Int32 × CS)} {P Q : Int32 × CS → Prop} (t : Tm x P) (h : ∀ r, P r → Tm (fun k => f k r) Q) : Tm (fun k => oc (x k) (f k)) Q := by
  obtain ⟨r, k0, h1, h2⟩ := t
  obtain ⟨q, k1, h3, h4⟩ := h r h2
  refine ⟨q, max k0 k1, fun k hk => ?_, h4⟩
  show oc (x k) (f k) = some q
  rw [h1 k (by omega)]; exact h3 k (by omega)
/-- a call whose answer is known -/
theorem Tm_ocE {x : Nat → Option (Int32 × CS)} {f : Nat → Int32 × CS → Option (Int32 × CS)} {v : Int32 × CS} {Q : Int32 × CS → Prop} (t : Tm x (fun r => r = v)) (h : Tm (fun k => f k v) Q) : Tm (fun k => oc (x k) (f k)) Q := Tm_oc t (fun r e => by rw [e]; exact h)
section CRE
variable {g : Nat → Prop} {l : List Nat} {t : Nat} {σ : CS} {L : LV} {x : Int32}
theorem c_length (h : HQ g l t σ) (hv : Gv g (L.1 1)) : Tm (fun k => y_X1_length k 0 L σ) (fun r => r = (nI (lnC (σ.2.2.1 3) (L.1 1)), σ)) := by
  unfold lnC
  refine Tm_suc (fun k => by rw [y_X1_length]) ?_
  refine Tm_ite (fun c => ?_) (fun c => ?_)
  · rw [u_nn] at c
    rw [if_pos c]
    refine Tm_suc (fun k => by rw [y_X1_length]) ?_
    refine Tm_chk (in_g h hv c) ?_
    refine Tm_some (Prod.ext ?_ rfl)
    show _ = nI _
    rw [← u_cl c]
    exact e_len _
  · rw [u_nn] at c
    rw [if_neg c, u_tag]
    have q := u_lt (L.1 1)
    refine Tm_ite (fun d => ?_) (fun d => ?_)
    · rw [u_eq, u_n (by omega)] at d
      rw [if_pos (by have e : uN (-1073741824) = 3221225472 := rfl; omega)]
      refine Tm_suc (fun k => by rw [y_X1_length]) ?_
      exact Tm_some rfl
    · rw [u_eq, u_n (by omega)] at d
      rw [if_neg (by have e : uN (-1073741824) = 3221225472 := rfl; omega)]
      refine Tm_suc (fun k => by rw [y_X1_length]) ?_
      refine Tm_suc (fun k => by rw [y_X1_length]) ?_
      exact Tm_some rfl
theorem c_member (h : HQ g l t σ) (hv : Gv g (L.1 1)) (hk : uN (L.1 1) < 2147483648 → 5 ≤ kdC (σ.2.2.1 3) (L.1 1)) : Tm (fun k => y_X1_member k 0 L σ) (fun r => r = (mbC (σ.2.2.1 3) (L.1 1) (L.1 2), σ)) := by
  have ll := lnC_lt (σ.2.2.1 3) (L.1 1)
  have no : ∀ (c : ¬ (uN (L.1 1) < 2147483648 ∧ uN (L.1 2) < lnC (σ.2.2.1 3) (L.1 1))), Tm (fun k => y_X1_member k 1 L σ) (fun r => r = (mbC (σ.2.2.1 3) (L.1 1) (L.1 2), σ)) := by
    intro c
    unfold mbC
    rw [if_neg c]
    refine Tm_suc (fun k => by rw [y_X1_member]) ?_
    refine Tm_suc (fun k => by rw [y_X1_member]) ?_
    exact Tm_some rfl
  refine Tm_suc (fun k => by rw [y_X1_member]) ?_
  refine Tm_ite (fun c => ?_) (fun c => ?_)
  · rw [u_neg] at c
    exact no (by omega)
  rw [u_neg] at c
  have c1 : uN (L.1 1) < 2147483648 := by omega
  refine Tm_ite (fun d => ?_) (fun d => ?_)
  · rw [u_neg] at d
    exact no (by omega)
  rw [u_neg] at d
  refine Tm_chk (in_g h hv c1) ?_
  have el : lnC (σ.2.2.1 3) (L.1 1) = hdL (uN (σ.2.2.1 3 (uN (L.1 1)))) := if_pos c1
  rw [e_len, u_cl c1, ← el]
  have eu : uN (nI (lnC (σ.2.2.1 3) (L.1 1))) = lnC (σ.2.2.1 3) (L.1 1) := u_n (by omega)
  refine Tm_ite (fun e => ?_) (fun e => ?_)
  · rw [u_le (by omega) (by omega), eu] at e
    exact no (by omega)
  rw [u_le (by omega) (by omega), eu] at e
  have k := hk c1
  unfold kdC at k
  rw [if_pos c1] at k
  have w : hdW (uN (σ.2.2.1 3 (uN (L.1 1)))) = hdL (uN (σ.2.2.1 3 (uN (L.1 1)))) := by
    unfold hdK at k
    unfold hdW
    rw [if_neg (by omega)]
  have e1 : uN (1 + L.1 2) = 1 + uN (L.1 2) := u_add (x := 1) (by show 1 + uN (L.1 2) < _; omega)
  have z := in_gi (y := 1 + L.1 2) h hv c1 (by omega)
  rw [← Int32.add_assoc] at z
  refine Tm_chk z.1 ?_
  refine Tm_suc (fun k => by rw [y_X1_member]) ?_
  refine Tm_some (Prod.ext ?_ rfl)
  unfold mbC
  rw [if_pos ⟨c1, by omega⟩, ← show uN (L.1 1) + (1 + uN (L.1 2)) = uN (L.1 1) + 1 + uN (L.1 2) from by omega, ← e1, ← z.2]
  rfl
theorem c_flagged (h : HQ g l t σ) (hv : Gv g (L.1 1)) : Tm (fun k => y_X1_flagged k 0 L σ) (fun r => (r.2 = σ ∧ (r.1 = 0 ∨ r.1 = 1)) ∧ (¬ r.1 = 0 → uN (L.1 1) < 2147483648 ∧ uN (σ.2.2.1 3 (uN (L.1 1))) / 8 % 2 = 1)) := by
  have no : Tm (fun k => y_X1_flagged k 1 L σ) (fun r => (r.2 = σ ∧ (r.1 = 0 ∨ r.1 = 1)) ∧ (¬ r.1 = 0 → uN (L.1 1) < 2147483648 ∧ uN (σ.2.2.1 3 (uN (L.1 1))) / 8 % 2 = 1)) := by
    refine Tm_suc (fun k => by rw [y_X1_flagged]) ?_
    refine Tm_suc (fun k => by rw [y_X1_flagged]) ?_
    refine Tm_chk (Or.inl rfl) ?_
    exact Tm_some ⟨⟨rfl, Or.inl rfl⟩, fun z => absurd rfl z⟩
  refine Tm_suc (fun k => by rw [y_X1_flagged]) ?_
  refine Tm_ite (fun c => no) (fun c => ?_)
  rw [u_neg] at c
  refine Tm_chk (in_g h hv (by omega)) ?_
  refine Tm_ite (fun d => no) (fun d => ?_)
  rw [e_flg, u_cl (by omega)] at d
  refine Tm_suc (fun k => by rw [y_X1_flagged]) ?_
  refine Tm_chk (Or.inr rfl) ?_
  exact Tm_some ⟨⟨rfl, Or.inr rfl⟩, fun _ => ⟨by omega, by omega⟩⟩
theorem kdC_lt (M : Nat → Int32) (x : Int32) : kdC M x < 8 := by
  unfold kdC hdK
  split <;> omega
theorem c_isMap (h : HQ g l t σ) (hv : Gv g (L.1 1)) : Tm (fun k => y_X1_isMap k 0 L σ) (fun r => (r.2 = σ ∧ (r.1 = 0 ∨ r.1 = 1)) ∧ (¬ r.1 = 0 → uN (L.1 1) < 2147483648 ∧ kdC (σ.2.2.1 3) (L.1 1) = 6 ∧ uN (σ.2.2.1 3 (uN (L.1 1))) / 8 % 2 = 1)) := by
  have no : Tm (fun k => y_X1_isMap k 1 L σ) (fun r => (r.2 = σ ∧ (r.1 = 0 ∨ r.1 = 1)) ∧ (¬ r.1 = 0 → uN (L.1 1) < 2147483648 ∧ kdC (σ.2.2.1 3) (L.1 1) = 6 ∧ uN (σ.2.2.1 3 (uN (L.1 1))) / 8 % 2 = 1)) := by
    refine Tm_suc (fun k => by rw [y_X1_isMap]) ?_
    refine Tm_suc (fun k => by rw [y_X1_isMap]) ?_
    refine Tm_chk (Or.inl rfl) ?_
    exact Tm_some ⟨⟨rfl, Or.inl rfl⟩, fun z => absurd rfl z⟩
  refine Tm_suc (fun k => by rw [y_X1_isMap]) ?_
  refine Tm_ocE (c_kind h hv) ?_
  refine Tm_ite (fun c => ?_) (fun c => no)
  refine Tm_oc (c_flagged h hv) (fun r hr => ?_)
  obtain ⟨⟨r1, r2⟩, r3⟩ := hr
  rw [r1]
  refine Tm_ite (fun d => no) (fun d => ?_)
  refine Tm_suc (fun k => by rw [y_X1_isMap]) ?_
  refine Tm_chk (Or.inr rfl) ?_
  refine Tm_some ⟨⟨rfl, Or.inr rfl⟩, fun _ => ⟨(r3 d).1, ?_, (r3 d).2⟩⟩
  have c' : nI (kdC (σ.2.2.1 3) (L.1 1)) = 6 := c
  have q := kdC_lt (σ.2.2.1 3) (L.1 1)
  rw [u_eq, u_n (by omega)] at c'
  exact c'
/-- its ints -/
theorem hdW_s {H : Nat} (k : hdK H = 4) {i : Nat} (hi : i < hdL H) : 1 + i / 4 ≤ hdW H := by
  unfold hdK at k
  unfold hdW
  rw [if_pos k]
  omega
theorem c_byteAt (h : HQ g l t σ) (hv : Gv g (L.1 1)) (hk : uN (L.1 1) < 2147483648 → kdC (σ.2.2.1 3) (L.1 1) = 4 ∧ uN (L.1 2) < lnC (σ.2.2.1 3) (L.1 1)) : Tm (fun k => y_X1_byteAt k 0 L σ) (fun r => r.2 = σ ∧ uN r.1 < 256) := by
  have by8 : ∀ y : Int32, uN (y &&& 255) < 256 := fun y => by
    rw [u_and8, u_n (by omega)]; omega
  refine Tm_suc (fun k => by rw [y_X1_byteAt]) ?_
  refine Tm_ite (fun c => ?_) (fun c => ?_)
  · rw [u_nn] at c
    obtain ⟨k1, k2⟩ := hk c
    unfold kdC at k1
    unfold lnC at k2
    rw [if_pos c] at k1 k2
    have l2 : hdL (uN (σ.2.2.1 3 (uN (L.1 1)))) < 4096 := Nat.mod_lt _ (by decide)
    have s2 : uN (L.1 2 >>> ((2 : Int32) &&& 31)) = uN (L.1 2) / 4 := u_sar2 (by omega)
    have e1 : uN (1 + (L.1 2 >>> ((2 : Int32) &&& 31))) = 1 + uN (L.1 2) / 4 := by
      rw [u_add (x := 1) (by rw [s2]; show 1 + uN (L.1 2) / 4 < _; omega), s2]; rfl
    have z := in_gi (y := 1 + (L.1 2 >>> ((2 : Int32) &&& 31))) h hv c (by rw [e1]; exact hdW_s k1 k2)
    rw [← Int32.add_assoc] at z
    refine Tm_suc (fun k => by rw [y_X1_byteAt]) ?_
    refine Tm_chk z.1 ?_
    refine Tm_suc (fun k => by rw [y_X1_byteAt]) ?_
    exact Tm_some ⟨rfl, by8 _⟩
  · refine Tm_suc (fun k => by rw [y_X1_byteAt]) ?_
    exact Tm_some ⟨rfl, by8 _⟩
theorem c_size (h : HQ g l t σ) (hv : Gv g (L.1 1)) : Tm (fun k => y_X1_size k 0 L σ) (fun r => r.2 = σ ∧ uN r.1 < 1024) := by
  have a : Tm (fun k => y_X1_size k 2 L σ) (fun r => r.2 = σ ∧ uN r.1 < 1024) := by
    refine Tm_suc (fun k => by rw [y_X1_size]) ?_
    refine Tm_suc (fun k => by rw [y_X1_size]) ?_
    exact Tm_some ⟨rfl, by show uN 2 < 1024; decide⟩
  have b : Tm (fun k => y_X1_size k 3 L σ) (fun r => r.2 = σ ∧ uN r.1 < 1024) := by
    refine Tm_suc (fun k => by rw [y_X1_size]) ?_
    refine Tm_suc (fun k => by rw [y_X1_size]) ?_
    exact Tm_some ⟨rfl, by show uN 1 < 1024; decide⟩
  refine Tm_suc (fun k => by rw [y_X1_size]) ?_
  refine Tm_ite (fun c => ?_) (fun c => ?_)
  · refine Tm_suc (fun k => by rw [y_X1_size]) ?_
    refine Tm_ite (fun _ => a) (fun _ => Tm_ite (fun _ => Tm_ite (fun _ => b) (fun _ => a)) (fun _ => b))
  · rw [u_neg] at c
    refine Tm_chk (in_g h hv (by omega)) ?_
    refine Tm_some ⟨rfl, ?_⟩
    show uN _ < 1024
    rw [e_siz, u_n (by unfold hdS; omega)]
    exact Nat.mod_lt _ (by decide)
end CRE

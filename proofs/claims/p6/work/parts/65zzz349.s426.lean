/-! The class: the newest of the saved runs. -/
section CUK
variable {g g' g2 : Nat → Prop} {l l' l2 : List Nat} {t t' t2 : Nat} {σ σ' σ2 τ τ' φ : CS} {L : LV} {x y z i : Int32} {M M' U U' : Nat → Int32} {K K' K0 K2 K2' K3 K3' K4 K4' KB : Nat → Option Int32} {c : Ct} {B f0 u0 a T : Nat} {fs : List FrT} {u d : Nat} {r r' : List Nat} {pb nf nc sq rk : Nat}
/-- none, or one that isn't beyond -/
def NwA (σ : CS) (n : Nat) (x : Int32) : Prop := x = -1 ∨ ∃ a, x = nI a ∧ (a < uN (σ.1 2404) ∨ (a = 8 ∧ ¬ σ.1 2405 = 0)) ∧ uN (σ.1 (100 * (28 + sPi σ a) + 3)) ≤ n
theorem c_newest (sv : SVK c K σ) (hn : uN (L.1 1) < 2147483648) : Tm (fun k => y_X9_newest k 0 L σ) (fun q => q.2 = σ ∧ NwA σ (uN (L.1 1)) q.1) := by
  obtain ⟨⟨⟨h4, h3⟩, b1', b2'⟩, hp, hi, -, -⟩ := sv
  have b3 : ∀ (m : Nat) (L' : LV), L'.1 1 = L.1 1 → NwA σ (uN (L.1 1)) (L'.1 2) → uN (L'.1 3) + m = uN (σ.1 2404) → Tm (fun k => y_X9_newest k 3 L' σ) (fun q => q.2 = σ ∧ NwA σ (uN (L.1 1)) q.1) := by
    intro m
    induction m with
    | zero =>
      intro L' l1 nw hm
      refine Tm_suc (fun k => by rw [y_X9_newest]) ?_
      refine Tm_yes (by rw [u_le (by omega) (by omega)]; omega) ?_
      refine Tm_suc (fun k => by rw [y_X9_newest]) ?_
      exact Tm_some ⟨rfl, nw⟩
    | succ m ih =>
      intro L' l1 nw hm
      have c3 : (L'.1 3).toNatClampNeg = uN (L'.1 3) := u_cl (by omega)
      have i3 : ¬ (L'.1 3 < 0 ∨ 9 ≤ uN (L'.1 3)) := by
        have z : ¬ (L'.1 3 < 0 ∨ 9 ≤ (L'.1 3).toNatClampNeg) := u_in (by omega) (by decide)
        rw [c3] at z; exact z
      have p3 := hp (uN (L'.1 3)) (by omega)
      have z := b1' (uN (L'.1 3)) (by omega)
      have z2 := z.2.1
      have e31 : uN (L'.1 3 + 1) = uN (L'.1 3) + 1 := u_inc (by omega)
      have b5 : ∀ L2 : LV, L2.1 1 = L.1 1 → NwA σ (uN (L.1 1)) (L2.1 2) → L2.1 3 = L'.1 3 → Tm (fun k => y_X9_newest k 5 L2 σ) (fun q => q.2 = σ ∧ NwA σ (uN (L.1 1)) q.1) := by
        intro L2 o1 o2 o3
        refine Tm_suc (fun k => by rw [y_X9_newest]) ?_
        refine ih _ o1 o2 ?_
        show uN (L2.1 3 + 1) + m = _
        rw [o3, e31]; omega
      have b6 : ∀ L2 : LV, L2.1 1 = L.1 1 → L2.1 3 = L'.1 3 → uN (σ.1 (100 * (28 + sPi σ (uN (L'.1 3))) + 3)) ≤ uN (L.1 1) → Tm (fun k => y_X9_newest k 6 L2 σ) (fun q => q.2 = σ ∧ NwA σ (uN (L.1 1)) q.1) := by
        intro L2 o1 o3 le
        refine Tm_suc (fun k => by rw [y_X9_newest]) ?_
        refine b5 _ o1 (Or.inr ⟨uN (L'.1 3), ?_, Or.inl (by omega), le⟩) o3
        show L2.1 3 = nI (uN (L'.1 3))
        rw [o3]; exact u_of _
      refine Tm_suc (fun k => by rw [y_X9_newest]) ?_
      rw [c3]
      refine Tm_no (by rw [u_le (by omega) (by omega)]; omega) ?_
      refine Tm_chk i3 (Tm_chk p3 ?_)
      refine Tm_ite (fun _ => b5 _ l1 nw rfl) (fun cl => ?_)
      have le : uN (σ.1 (100 * (28 + sPi σ (uN (L'.1 3))) + 3)) ≤ uN (L.1 1) := by
        rw [l1, u_ltn (by omega) (by omega)] at cl
        omega
      refine Tm_ite (fun _ => b6 _ l1 rfl le) (fun c1 => ?_)
      rcases nw with y | ⟨a, y1, y2, y3⟩
      · exact absurd y c1
      · have a9 : a < 9 := by omega
        have ca : (L'.1 2).toNatClampNeg = a := by rw [y1, u_cl (by rw [u_n (by omega)]; omega), u_n (by omega)]
        have ia : ¬ (L'.1 2 < 0 ∨ 9 ≤ (L'.1 2).toNatClampNeg) := u_in (by rw [y1, u_n (by omega)]; omega) (by decide)
        refine Tm_chk i3 (Tm_chk p3 (Tm_chk ia ?_))
        rw [ca]
        refine Tm_chk (hp a a9) ?_
        exact Tm_ite (fun _ => b5 _ l1 (Or.inr ⟨a, y1, y2, y3⟩) rfl) (fun _ => b6 _ l1 rfl le)
  have b2 : ∀ L' : LV, L'.1 1 = L.1 1 → NwA σ (uN (L.1 1)) (L'.1 100) → Tm (fun k => y_X9_newest k 2 L' σ) (fun q => q.2 = σ ∧ NwA σ (uN (L.1 1)) q.1) := by
    intro L' l1 nw
    refine Tm_suc (fun k => by rw [y_X9_newest]) ?_
    exact b3 (uN (σ.1 2404)) _ l1 nw (Nat.zero_add _)
  have b1 : ∀ L' : LV, L'.1 1 = L.1 1 → Tm (fun k => y_X9_newest k 1 L' σ) (fun q => q.2 = σ ∧ NwA σ (uN (L.1 1)) q.1) := by
    intro L' l1
    refine Tm_suc (fun k => by rw [y_X9_newest]) ?_
    exact b2 _ l1 (Or.inl rfl)
  have e8 : (8 : Int32).toNatClampNeg = 8 := rfl
  refine Tm_suc (fun k => by rw [y_X9_newest]) ?_
  refine Tm_ite (fun _ => b1 _ rfl) (fun c5 => ?_)
  rw [e8]
  refine Tm_chk (by decide) (Tm_chk (hp 8 (by decide)) ?_)
  have z := b2' c5
  refine Tm_ite (fun _ => b1 _ rfl) (fun cl => ?_)
  rw [u_ltn (by omega) (by omega)] at cl
  exact b2 _ rfl (Or.inr ⟨8, rfl, Or.inr ⟨rfl, c5⟩, by omega⟩)
end CUK

/-! The sweep: what is not moved yet (reference). -/
/-- cells of the objects that are not moved -/
def rmS (H : Nat → Int32) (mv : Nat → Bool) : List Nat → Nat
  | [] => 0
  | v :: l => (if mv v then 0 else 4 + (H (v + 1)).toNatClampNeg) + rmS H mv l
def mvA (mv : Nat → Bool) (v : Nat) : Nat → Bool := fun w => if w = v then true else mv w
section SWP
variable {H : Nat → Int32} {mv : Nat → Bool}
theorem rmS_all {b : Nat} (hb : b < 2147483648) : ∀ (l : List Nat) (a : Nat), Til H b a l → a + rmS H (fun _ => false) l = b
  | [], a, h => by
    have h : a = b := h
    rw [h]; rfl
  | v :: l, a, h => by
    obtain ⟨e, n, n1, n2, n3⟩ := h
    have ih := rmS_all hb l _ n3
    have e1 : rmS H (fun _ => false) (v :: l) = (4 + (H (v + 1)).toNatClampNeg) + rmS H (fun _ => false) l := rfl
    rw [e1, n1, n_cl (by omega)]
    omega
/-- what lies behind isn't touched -/
theorem rmS_out {v : Nat} : ∀ (l : List Nat), ¬ v ∈ l → rmS H (mvA mv v) l = rmS H mv l
  | [], _ => rfl
  | w :: l, h => by
    have h1 : ¬ w = v := fun e => h (by rw [e]; exact List.mem_cons_self)
    have ih := rmS_out l (fun z => h (List.mem_cons_of_mem w z))
    show (if mvA mv v w then 0 else _) + rmS H (mvA mv v) l = (if mv w then 0 else _) + rmS H mv l
    rw [ih, show mvA mv v w = mv w from if_neg h1]
/-- one more is moved -/
theorem rmS_mv {b v : Nat} : ∀ (l : List Nat) (a : Nat), Til H b a l → v ∈ l → mv v = false → rmS H mv l = (4 + (H (v + 1)).toNatClampNeg) + rmS H (mvA mv v) l
  | [], _, _, h, _ => absurd h (List.not_mem_nil)
  | w :: l, a, hT, hv, hm => by
    obtain ⟨e, n, n1, n2, n3⟩ := hT
    have e1 : rmS H mv (w :: l) = (if mv w then 0 else 4 + (H (w + 1)).toNatClampNeg) + rmS H mv l := rfl
    have e2 : rmS H (mvA mv v) (w :: l) = (if mvA mv v w then 0 else 4 + (H (w + 1)).toNatClampNeg) + rmS H (mvA mv v) l := rfl
    by_cases ew : w = v
    · subst ew
      have hout : ¬ w ∈ l := fun z => by
        have := (Til_mem l _ n3 w z).1
        omega
      rw [e1, e2, rmS_out l hout, hm, show mvA mv w w = true from if_pos rfl]
      simp
    · have hl : v ∈ l := by
        rcases List.mem_cons.mp hv with z | z
        · exact absurd z.symm ew
        · exact z
      rw [e1, e2, rmS_mv l _ n3 hl hm, show mvA mv v w = mv w from if_neg ew]
      omega
end SWP

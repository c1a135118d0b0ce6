/-! A program read again, over other rows of statements: the same. -/
def Ro {α : Type} (K : α → α → Prop) (x x' : Option (Option α)) : Prop := (x = none ∧ x' = none) ∨ (x = some none ∧ x' = some none) ∨ ∃ a a', x = some (some a) ∧ x' = some (some a') ∧ K a a'
section ROS
variable {α β : Type} {K : α → α → Prop} {J : β → β → Prop} {T : Nat → Int32} {n : Nat}
theorem Ro_0 : Ro K none none := Or.inl ⟨rfl, rfl⟩
theorem Ro_n : Ro K (some none) (some none) := Or.inr (Or.inl ⟨rfl, rfl⟩)
theorem Ro_ss {a a' : α} (h : K a a') : Ro K (some (some a)) (some (some a')) := Or.inr (Or.inr ⟨a, a', rfl, rfl, h⟩)
theorem Ro_pb {x x' : Option (Option α)} {k k' : α → Option (Option β)} (h : Ro K x x') (hk : ∀ a a', K a a' → Ro J (k a) (k' a')) : Ro J (pb x k) (pb x' k') := by
  rcases h with ⟨h1, h2⟩ | ⟨h1, h2⟩ | ⟨a, a', h1, h2, h3⟩
  · rw [h1, h2]; exact Ro_0
  · rw [h1, h2]; exact Ro_n
  · rw [h1, h2]; exact hk a a' h3
theorem Ro_pe {x : Option (Option α)} {k k' : α → Option (Option β)} (hk : ∀ a, Ro J (k a) (k' a)) : Ro J (pb x k) (pb x k') := by
  match x with
  | none => exact Ro_0
  | some none => exact Ro_n
  | some (some a) => exact hk a
theorem Ro_ite {c : Prop} [Decidable c] {x x' y y' : Option (Option α)} (h : Ro K x x') (h' : Ro K y y') : Ro K (if c then x else y) (if c then x' else y') := by
  by_cases z : c
  · rw [if_pos z, if_pos z]; exact h
  · rw [if_neg z, if_neg z]; exact h'
theorem Ro_pT {q : Nat} {k k' : Nat → Option (Option α)} (h : ∀ q1, Ro K (k q1) (k' q1)) : Ro K (pT T n q k) (pT T n q k') := Ro_ite Ro_n (h _)
theorem Ro_pW {t q : Nat} {k k' : Nat → Option (Option α)} (h : ∀ q1, Ro K (k q1) (k' q1)) : Ro K (pW T n t q k) (pW T n t q k') := Ro_ite (Ro_pT h) Ro_n
end ROS
/-- the same but for the rows of statements -/
def Kt (DU DP : Nat → Prop) (k0 : Nat) (t t' : ST) : Prop := ∃ q v k e b s s', t = (q, v, k, e, b, s) ∧ t' = (q, v, k, e, b, s') ∧ Zp DU DP k0 s s'
def Kb (DU DP : Nat → Prop) (k0 : Nat) (t t' : BD) : Prop := ∃ q e b s s', t = (q, e, b, s) ∧ t' = (q, e, b, s') ∧ Zp DU DP k0 s s'
def Kg (DU DP : Nat → Prop) (k0 : Nat) (t t' : PRG) : Prop := ∃ q E MD c pc v b s s' F, t = (q, E, MD, c, pc, v, b, s, F) ∧ t' = (q, E, MD, c, pc, v, b, s', F) ∧ Zp DU DP k0 s s'
section RGP
variable {T : Nat → Int32} {n : Nat} {DU DP : Nat → Prop} {k0 : Nat} {s s' : SB}
theorem RC_e {un : Nat} : RC un (fun _ b b' => b = b') := ⟨fun v b b' h => by rw [h]; exact ⟨rfl, rfl⟩, fun v b b' k x y z h => by rw [h], fun v b b' j l x h => by rw [h], fun v b b' T f m h => by rw [h], fun v b b' x h => by rw [h]⟩
theorem GS_z {MD : Nat → Nat → Nat} {f : Nat} {E : En} {lp o q v : Nat} {pe : Int32} {i l : Nat} {b : BT} (h : Zp DU DP k0 s s') : Ro (Kt DU DP k0) (GS T n MD f 0 E lp o q v pe i l b s) (GS T n MD f 0 E lp o q v pe i l b s') := by
  have := GS_R (T := T) (n := n) (MD := MD) (RC_e (un := E.2.2.2.1)) f 0 E lp o q v pe i l b b s s' DU DP k0 (by decide) rfl rfl h
  rcases this with ⟨h1, h2⟩ | ⟨h1, h2⟩ | ⟨q1, v1, k1, e1, b1, b1', t, t', h1, h2, h3, h4⟩
  · rw [h1, h2]; exact Ro_0
  · rw [h1, h2]; exact Ro_n
  · have h3 : b1 = b1' := h3
    subst h3
    have h4 : Zp DU DP k0 t t' := h4
    rw [h1, h2]; exact Ro_ss ⟨q1, v1, k1, e1, b1, t, t', rfl, rfl, h4⟩
theorem gBod_z {pr : Bool} {MD : Nat → Nat → Nat} {E : En} {q v : Nat} {b : BT} (h : Zp DU DP k0 s s') : Ro (Kb DU DP k0) (gBod T n pr MD E q v b s) (gBod T n pr MD E q v b s') := by
  unfold gBod
  refine Ro_ite (Ro_pW (fun q1 => Ro_pe (fun r => Ro_pb (GS_z h) (fun t t' ht => ?_)))) (Ro_pW (fun q1 => Ro_pe (fun t => Ro_pW (fun q2 => Ro_ss ⟨_, _, _, s, s', rfl, rfl, h⟩))))
  obtain ⟨q, v, k, e, b, u, u', rfl, rfl, hz⟩ := ht
  exact Ro_pW (fun q2 => Ro_pW (fun q3 => Ro_ss ⟨_, _, _, u, u', rfl, rfl, hz⟩))
theorem gCal_z {pr : Bool} {E : En} {MD : Nat → Nat → Nat} {c pc v q : Nat} {b : BT} {F : Nat → Int32} (h : Zp DU DP k0 s s') : Ro (Kg DU DP k0) (gCal T n pr E MD c pc v b s F q) (gCal T n pr E MD c pc v b s' F q) := by
  unfold gCal gCb
  refine Ro_pT (fun q1 => Ro_ite (Ro_pT (fun q2 => Ro_ite (Ro_pT (fun q3 => Ro_pe (fun a => Ro_pT (fun q5 => Ro_pb (gBod_z h) (fun z z' hz => ?_))))) Ro_n)) Ro_n)
  obtain ⟨q, e, b1, u, u', rfl, rfl, hz⟩ := hz
  exact Ro_ss ⟨_, _, _, _, _, _, _, u, u', _, rfl, rfl, hz⟩
theorem GDs_z : ∀ (f q : Nat) (E : En) (MD : Nat → Nat → Nat) (c pc v : Nat) (b : BT) (s s' : SB) (F : Nat → Int32), Zp DU DP k0 s s' → Ro (Kg DU DP k0) (GDs T n f (q, E, MD, c, pc, v, b, s, F)) (GDs T n f (q, E, MD, c, pc, v, b, s', F)) := by
  intro f
  induction f with
  | zero => intro q E MD c pc v b s s' F _; unfold GDs; exact Ro_0
  | succ f ih =>
    intro q E MD c pc v b s s' F h
    unfold GDs
    refine Ro_ite (Ro_pe (fun r => ih _ _ _ _ _ _ _ _ _ _ h)) (Ro_ite (Ro_pb (gCal_z h) (fun g g' hg => ?_)) (Ro_ss ⟨_, _, _, _, _, _, _, s, s', _, rfl, rfl, h⟩))
    obtain ⟨q, E, MD, c, pc, v, b, u, u', F, rfl, rfl, hz⟩ := hg
    exact ih _ _ _ _ _ _ _ _ _ _ hz
/-- a program over other rows of statements -/
theorem gPrg_z {q : Nat} {E : En} {MD : Nat → Nat → Nat} {c pc v : Nat} {b : BT} {F : Nat → Int32} (h : Zp DU DP k0 s s') : Ro (fun y y' => Kg DU DP k0 y.1 y'.1 ∧ Kt DU DP k0 y.2 y'.2) (gPrg T n (q, E, MD, c, pc, v, b, s, F)) (gPrg T n (q, E, MD, c, pc, v, b, s', F)) := by
  unfold gPrg
  refine Ro_ite Ro_n (Ro_pb (GDs_z _ _ _ _ _ _ _ _ _ _ _ h) (fun g g' hg => ?_))
  obtain ⟨q, E, MD, c, pc, v, b, u, u', F, rfl, rfl, hz⟩ := id hg
  refine Ro_pb (GS_z hz) (fun t t' ht => ?_)
  obtain ⟨q1, v1, k1, e1, b1, w, w', rfl, rfl, hw⟩ := id ht
  exact Ro_ite (Ro_ss ⟨hg, ht⟩) Ro_n
end RGP

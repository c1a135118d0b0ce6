/-! An exp is read and worked (reference): the tree that is laid, the state before it is worked. -/
section RWK
variable {T : Nat → Nat → Int32} {FN : Nat → Nat → Prop} {S : Nat → Nat → Nat → Nat → Prop} {gl : List Gn} {pr : Nat → Nat} {b : BT} {ns n f : Nat} {Tp : Nat → Int32} {σ ρ ρ1 : MS} {t : RT} {dr : Bool} {C K : Nat → Int32} {e0 z0 x66 : Int32} {sd : Int64} {m : Nat}
/-- what is laid -/
theorem rd_tree (pi : PrI T FN S gl pr b ns) (hn : n ≤ 32768) (hT : ∀ i, i < n → ∃ d, d ≤ 300 ∧ Tp i = nI d) (hG : gX Tp n f (gl, [], [], 42, false, dr, pr) b = some (some t)) : LPt FN (eFl (gl, [], [], 42, false, dr, pr)) 42 t.2.1 20 14 60 b.1 t.2.2.2.2.1 t.2.2.2.1 ∧ b.1 ≤ t.2.2.2.2.1.1 ∧ b.2.1 ≤ t.2.2.2.2.1.2.1 ∧ t.2.2.2.2.1.1 ≤ 70000 ∧ t.2.2.2.2.1.2.1 ≤ 70000 := by
  obtain ⟨_, _, ⟨_, _, l3, l4, l5⟩, en⟩ := pi
  have hN : sk Tp n 0 ≤ n := skE_le Tp n (n + 1) 0 (Nat.zero_le _)
  unfold gX at hG
  by_cases c : tkK Tp n (sk Tp n 0) = 0
  · rw [if_pos c] at hG; cases hG
  rw [if_neg c] at hG
  rcases gb_any hG with ⟨_, hx⟩ | ⟨s, h7, hG⟩
  · cases hx
  by_cases c2 : tkK Tp n s.1 = 25
  · rw [if_pos c2] at hG
    have e : s = t := Option.some.inj (Option.some.inj hG)
    subst e
    obtain ⟨a, _⟩ := mo_of (M := b.1) hN (by decide) h7 (Nat.le_refl _) l3 trivial (fun h => h) (fun h => h)
    have tr := g_tree (FN := FN) hT f 0 (gl, [], [], 42, false, dr, pr) 0 (sk Tp n 0) 0 0 0 0 0 b s 0 b.1 60 hN (by decide) (by decide) (by omega) (by omega) l3 (en dr) h7 ⟨rfl, rfl⟩
    have tr : Frm 42 0 b 0 s.2.2.2.2.1 ∧ LPt FN (eFl (gl, [], [], 42, false, dr, pr)) 42 s.2.1 20 14 60 b.1 s.2.2.2.2.1 s.2.2.2.1 := tr
    unfold Mo at a
    exact ⟨tr.2, tr.1.1, tr.1.2.1, by omega, by omega⟩
  · rw [if_neg c2] at hG; cases hG
/-- the state before an exp is worked: what workAlone wants -/
theorem rd_go (pi : PrI T FN S gl pr b ns) (hP : PSt T FN S C K e0 z0 x66 0 sd m σ) {σa : MS} (ha : ∀ j, ¬ (j = 2 ∨ j = 11) → σa.1 j = σ.1 j) (ha2 : σa.2 = σ.2) (hX : FrX b.1 b.2.1 σa ρ) (hB : PB ρ t.2.2.2.2.1) (ht : LPt FN (eFl (gl, [], [], 42, false, dr, pr)) 42 t.2.1 20 14 60 b.1 t.2.2.2.2.1 t.2.2.2.1) (l1 : b.1 ≤ t.2.2.2.2.1.1) (l2 : b.2.1 ≤ t.2.2.2.2.1.2.1) (l3 : t.2.2.2.2.1.1 ≤ 70000) (l4 : t.2.2.2.2.1.2.1 ≤ 70000) (hs : ∀ j, ¬ (j = 2 ∨ j = 4 ∨ j = 11 ∨ j = 109) → ρ1.1 j = ρ.1 j) (hr : ρ1.2 = ρ.2) {L : Nat → Int32} (d1 : L 1 = nI t.2.2.2.1) : Tm (fun k => x_workAlone k 0 L ρ1) (fun r => ∃ υ, r = (0, mSc υ 69 0) ∧ FE (zA ρ1) υ ∧ UT υ ∧ ((∃ w', EI 1 w' 400000 υ υ) ∨ EZ 0 179300 υ) ∧ K0 dr ρ1 υ ∧ kv υ = kv ρ1) := by
  obtain ⟨hU, ⟨a95, a1, a2⟩⟩ := PSt_UT hP
  obtain ⟨⟨⟨g, l, B, h, X, hM⟩, ⟨hS, _⟩, _, ⟨ty1, ty2⟩, _⟩, _⟩ := hP
  obtain ⟨_, _, ⟨eN, eP, e1, _, _⟩, _⟩ := pi
  have hX0 := hX
  obtain ⟨x1, x2, x3, x4, x5, x6, x7⟩ := hX
  have rr : ∀ a, ρ1.2.2 a = ρ.2.2 a := fun a => by rw [hr]
  have nn : ∀ j, ¬ ((2 ≤ j ∧ j ≤ 13) ∨ j = 22 ∨ j = 24 ∨ j = 37 ∨ j = 38 ∨ j = 42 ∨ j = 43 ∨ (45 ≤ j ∧ j ≤ 48) ∨ j = 52 ∨ j = 109) → ρ1.1 j = σ.1 j := fun j hj => (hs j (by omega)).trans ((x1 j (by omega)).trans (ha j (by omega)))
  have sa : ∀ a, σa.2.2 a = σ.2.2 a := fun a => by rw [ha2]
  have hM1 : MI 0 X g l B h ρ1 := MI_x hM (nn 54 (by decide)) (nn 55 (by decide)) (nn 63 (by decide)) (nn 72 (by decide)) (fun a h1 h2 => (rr a).trans ((x3 a (by omega)).trans (sa a)))
  have hU1 : UT ρ1 := UT_k hU (nn 63 (by decide)) (nn 64 (by decide)) (nn 65 (by decide)) ((rr 28).trans ((x3 28 (by decide)).trans (sa 28))) (fun a h1 h2 => (rr a).trans ((x3 a (by omega)).trans (sa a))) (kC_d (fun i hi => by rw [rr 20, x7 i (Or.inl hi), sa 20]) (fun i hi => by rw [rr 21, x6 i (by omega), sa 21]) (nn 30 (by decide)))
  have hS1 : STb (Tw T t.2.2.2.2.1 ρ) FN ρ1 := STb_b (STb_w (STb_b (ρ := σa) hS (fun j hj => ha j (by omega)) (fun a i _ => by rw [sa a])) hX0 hB eN eP l1 l2 l3 l4) (fun j hj => hs j (by omega)) (fun a i _ => by rw [rr a])
  have wx := ht.2.2.2.2 _ (Agr_w (T := T) (ρ := ρ) (vv := t.2.1) (e := t.2.2.2.1) hB e1 l3 l4)
  obtain ⟨F, wx⟩ := wx
  have hQ : Qt dr (lcW (eFl (gl, [], [], 42, false, dr, pr)) 42 (Tw T t.2.2.2.2.1 ρ)) := Qt_w (fun z => by
    rcases z with ⟨_, z⟩ | ⟨z, _⟩
    · exact absurd (show false = true from z) (by decide)
    · omega) (fun z => by
    rcases z with ⟨z, _⟩ | ⟨_, z⟩
    · omega
    · exact z)
  refine s_workAlone (T := Tw T t.2.2.2.2.1 ρ) (FN := FN) (dr := dr) (x := nI t.2.2.2.1) hM1 hU1 hS1 ?_ ⟨a95, (nn 95 (by decide)).trans a1, a2⟩ lcW_n ⟨20, 60, by omega, by omega, F, wx⟩ ⟨F, 20, 14, 60, wx, hQ⟩ d1
  rw [rr 2, x3 2 (by decide), sa 2, ty2]; exact ty1
end RWK

/-! Simple statements, as the grammar lays them. -/
/-- T' has what is laid from lo on; what stands behind the statement e, and its number, are open -/
def AgS (T' : Nat → Nat → Int32) (un vv : Nat) (b : BT) (lo e : Nat) : Prop := (∀ a i, 4 ≤ a → a ≤ 9 → lo ≤ i → i < b.1 → ¬ ((a = 8 ∨ a = 9) ∧ i = e) → T' a i = b.2.2.1 a i) ∧ (∀ i, i < b.2.1 → T' 12 i = b.2.2.2.1 i) ∧ (∀ s, s < vv → T' 20 (60 * un + s) = b.2.2.2.2 (60 * un + s)) ∧ b.1 ≤ LNo T' % 70001 ∧ b.2.1 ≤ LPo T' % 70001
/-- a statement that was laid last -/
def SLd (GF : Nat → Prop) (un vv lo : Nat) (b : BT) (e : Nat) (Q : (Nat → Nat → Int32) → Prop) : Prop := 1 ≤ lo ∧ lo ≤ e ∧ e < b.1 ∧ b.2.2.1 9 e = -1 ∧ ∀ T', AgS T' un vv b lo e → (∀ s, GF s → ¬ T' 20 s = 0) → Q T'
/-- an assignment -/
def QAs (FN : Nat → Nat → Prop) (un n ks : Nat) (T' : Nat → Nat → Int32) : Prop := (T' 4 n = 40 ∨ T' 4 n = 41) ∧ ∃ k ch s, T' 5 n = nI (ch k) ∧ Tgt T' FN (lcU un T') k ch ∧ NmW T' (lcU un T') (cnU un T') (ch 0) s ∧ kys T' ch k = ks ∧ Wx0 T' FN (lcU un T') (T' 6 n)
/-- targets of a tuple -/
def QPt (FN : Nat → Nat → Prop) (un n ks : Nat) (T' : Nat → Nat → Int32) : Prop := T' 4 n = 42 ∧ ∃ q, q ≤ 20000 ∧ TgL T' FN (lcU un T') (cnU un T') q ks (T' 5 n) ∧ Wx0 T' FN (lcU un T') (T' 6 n)
/-- from -/
def QFr (FN : Nat → Nat → Prop) (un n ks : Nat) (T' : Nat → Nat → Int32) : Prop := T' 4 n = 43 ∧ ∃ ka kb sa sb cha chb, Tgt T' FN (lcU un T') ka cha ∧ NmW T' (lcU un T') (cnU un T') (cha 0) sa ∧ Tgt T' FN (lcU un T') kb chb ∧ NmW T' (lcU un T') (cnU un T') (chb 0) sb ∧ T' 5 n = nI (cha ka) ∧ T' 6 n = nI (chb kb) ∧ kys T' cha ka + kys T' chb kb = ks
section SLS
variable {T : Nat → Int32} {n : Nat} {FN : Nat → Nat → Prop} {GF : Nat → Prop} {E : En} {un v vv lo : Nat} {b b' : BT} {k x y z : Int32} {T' : Nat → Nat → Int32} {Q : (Nat → Nat → Int32) → Prop}
theorem AgS_nd (h1 : 1 ≤ lo) (hA : AgS T' un vv (bNode b k x y z) lo b.1) (hl : lo ≤ b.1) : (∀ top, Agr T' un vv b lo top) ∧ b.1 < LNo T' % 70001 ∧ T' 4 b.1 = k ∧ T' 5 b.1 = x ∧ T' 6 b.1 = y ∧ T' 7 b.1 = z := by
  obtain ⟨n4, n5, n6, n7, _⟩ := nd_t (b := b) (k := k) (x := x) (y := y) (z := z)
  have F : Frm un vv b 0 (bNode b k x y z) := Frm_node
  have lt : b.1 < (bNode b k x y z).1 := Nat.lt_succ_self _
  refine ⟨fun top => ⟨fun a i h4 h9 hi hb _ => ?_, fun i hi => ?_, fun s hs => ?_, Nat.le_trans F.1 hA.2.2.2.1, Nat.le_trans F.2.1 hA.2.2.2.2⟩, hA.2.2.2.1, ?_, ?_, ?_, ?_⟩
  · rw [hA.1 a i h4 h9 hi (by omega) (by omega)]; exact F.2.2.1 a i hb (by omega)
  · rw [hA.2.1 i (Nat.lt_of_lt_of_le hi F.2.1)]; exact F.2.2.2.1 i hi
  · rw [hA.2.2.1 s hs]; exact F.2.2.2.2 s hs
  · exact (hA.1 4 b.1 (by decide) (by decide) hl lt (by omega)).trans n4
  · exact (hA.1 5 b.1 (by decide) (by decide) hl lt (by omega)).trans n5
  · exact (hA.1 6 b.1 (by decide) (by decide) hl lt (by omega)).trans n6
  · exact (hA.1 7 b.1 (by decide) (by decide) hl lt (by omega)).trans n7
theorem SLd_nd (h1 : 1 ≤ lo) (hl : lo ≤ b.1) (hQ : ∀ T', (∀ top, Agr T' un vv b lo top) → b.1 < LNo T' % 70001 → (∀ s, GF s → ¬ T' 20 s = 0) → T' 4 b.1 = k → T' 5 b.1 = x → T' 6 b.1 = y → T' 7 b.1 = z → Q T') : SLd GF un vv lo (bNode b k x y z) b.1 Q := by
  refine ⟨h1, hl, Nat.lt_succ_self _, nd_t.2.2.2.2.2, fun T' hA hGF => ?_⟩
  obtain ⟨a1, a2, a3, a4, a5, a6⟩ := AgS_nd h1 hA hl
  exact hQ T' a1 a2 hGF a3 a4 a5 a6
/-- behind a target: an exp and ; -/
theorem gE13_t {f o q e kk : Nat} {r : RT} {a zz : Int32} (ha : a = 40 ∨ a = 41) (hT : ∀ i, i < n → ∃ d, d ≤ 300 ∧ T i = nI d) (hq : q ≤ n) (hv : v ≤ 60) (ho : o ≤ 20) (hbn : b.1 + n < 70000 + q) (hbp : b.2.1 + n ≤ 70000 + q) (hb1 : 1 ≤ b.1) (hE : EnOK FN E) (hN : NmC E.2.2.2.1 v b GF E) (hL : LTt FN GF E.2.2.2.1 v lo b e kk) (hG : gE13 T n f E o q v b a (nI e) zz = some (some r)) : Frm E.2.2.2.1 v b 0 r.2.2.2.2.1 ∧ SLd GF E.2.2.2.1 r.2.1 lo r.2.2.2.2.1 r.2.2.2.1 (QAs FN E.2.2.2.1 r.2.2.2.1 kk) ∧ q < r.1 := by
  unfold gE13 at hG
  obtain ⟨s, g1, hG⟩ := gb_s hG
  obtain ⟨⟨a1, a2, a3, a4, a5, a6, a7, a8⟩, hF, hP, hlt, hi⟩ := ex_of (GF := GF) hT hq hv ho hbn hbp hb1 hE hN g1
  obtain ⟨w, t, hG⟩ := gW_s hG
  have u := tkN_b T n s.1 a2
  have p1 := hP.2.1
  have p2 := hP.2.2.1
  obtain ⟨l1, l2, l3, l4, l5⟩ := hL
  cases hG
  refine ⟨Frm_tr hF (Frm_node (vv := s.2.1)) a3 (Or.inl rfl), SLd_nd l1 (by omega) (fun T' hA hlt' hGF n4 n5 n6 n7 => ?_), by show q < tkN T n s.1; omega⟩
  obtain ⟨k, ch, w', c1, c2, c3, c4⟩ := l5 T' (Agr_g (hA e) hF a3 l1 (Nat.le_refl _) (Or.inl (by omega)) (Or.inl rfl)) hGF
  refine ⟨by show T' 4 s.2.2.2.2.1.1 = 40 ∨ _; rw [n4]; exact ha, k, ch, w', n5.trans (by rw [c1]), c2, c3, c4, ?_⟩
  show Wx0 T' FN _ (T' 6 s.2.2.2.2.1.1)
  rw [n6]
  exact Wx_of (by omega) (by omega) (by decide) (hP.2.2.2.2 T' (Agr_g (hA s.2.2.2.1) Frm_rf (Nat.le_refl _) l1 (by omega) (Or.inl (by omega : (0 : Nat) < b.1)) (Or.inl rfl)))
end SLS

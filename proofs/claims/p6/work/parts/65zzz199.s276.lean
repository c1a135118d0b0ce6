/-! A statement leaves a state of the same program (reference). -/
section RIB
variable {T : Nat → Nat → Int32} {FN : Nat → Nat → Prop} {S : Nat → Nat → Nat → Nat → Prop} {σ σ' r r' : MS} {C K : Nat → Int32} {e0 z0 x66 x68 : Int32} {sd : Int64}
theorem RIc_k (h : RIc T FN C K e0 z0 x66 x68 sd σ) (he : ¬ e0 = -1) (hk : kq r = kq σ) (h68 : r.1 68 = σ.1 68) (hM : ∃ (g : Nat → Prop) (l : List Nat) (B h X : Nat), MI 0 X g l B h r) (hB : Bz T FN r) (hU : UT r) : RIc T FN C K e0 z0 x66 x68 sd r := by
  obtain ⟨_, _, _, q4, q5, q6, q7, q8, q9, q10⟩ := h
  have k1 : r.2.1 113 = σ.2.1 113 := congrArg (fun x : KT => x.1) hk
  have k2 : r.2.2 2 = σ.2.2 2 := congrArg (fun x : KT => x.2.1) hk
  have k3 : r.2.2 20 = σ.2.2 20 := congrArg (fun x : KT => x.2.2.1) hk
  have k4 : r.1 66 = σ.1 66 := congrArg (fun x : KT => x.2.2.2.2.2.2.1) hk
  have k5 : r.1 110 = σ.1 110 := congrArg (fun x : KT => x.2.2.2.2.2.2.2.1) hk
  obtain ⟨_, P, _, _, _, _, _, _, _, o3, _⟩ := hU
  exact ⟨hM, hB, o3, ⟨q4.1, k2.trans q4.2⟩, trivial, k5.trans q6, fun z => absurd z he, k4.trans q8, h68.trans q9, k1.trans q10⟩
theorem IVs_M (h : IVs T FN S r r') : (∃ (g : Nat → Prop) (l : List Nat) (B h X : Nat), MI 0 X g l B h r) ∧ Bz T FN r ∧ UT r := by
  obtain ⟨⟨g1, l1, B1, h1, X1, _, _, _, _, _, m1, _⟩, _, _, _, U1, _, b1, _⟩ := h.1
  exact ⟨⟨g1, l1, B1, h1, X1, m1⟩, b1, U1⟩
theorem IVz_M (h : IVz T FN r r') : (∃ (g : Nat → Prop) (l : List Nat) (B h X : Nat), MI 0 X g l B h r) ∧ Bz T FN r ∧ UT r := by
  obtain ⟨U1, _, B1, _, z1, _⟩ := h
  obtain ⟨g, l, B, h', t, m, _⟩ := z1
  exact ⟨⟨g, l, B, h', _, MI_mo m (Nat.zero_le _)⟩, ⟨B1.1, B1.2.1, B1.2.2.2.2.2.2⟩, U1⟩
/-- a statement more: a state of the same program -/
theorem RIc_bg (hW : SWf T FN S) (hK : SWk T FN S) (hKB : 9 + KBn T ≤ 17000) (h : RIc T FN C K e0 z0 x66 x68 sd σ) (he : ¬ e0 = -1) (hI : IV0 T FN S σ σ') (hC : CTn T S σ) : Tm (fun k => x_begin k 0 (upd (fun _ => 0) 1 (σ.2.2 30 0)) σ) (fun s => RIc T FN C K e0 z0 x66 x68 sd s.2) := by
  obtain ⟨s1, s2, N, b1, _, g1, g2⟩ := E_bgn (L1 := upd (fun _ => 0) 1 (σ.2.2 30 0)) (L2 := upd (fun _ => 0) 1 (σ'.2.2 30 0)) hW hK hKB hI hC rfl rfl
  refine ⟨s1, N, b1, ?_⟩
  have kk : kq s1.2 = kq σ := kq_begin N 0 _ σ s1 (b1 N (Nat.le_refl _))
  rcases g2 with g | g
  · obtain ⟨a, b, c⟩ := IVs_M g
    exact RIc_k h he kk g1.2.2.1 a b c
  · obtain ⟨a, b, c⟩ := IVz_M g
    exact RIc_k h he kk g1.2.2.1 a b c
end RIB

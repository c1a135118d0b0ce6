/-! A whole less itself: no error (reference). -/
section ASM
variable {g : Nat → Prop} {l : List Nat} {B h : Nat} {σ : MS}
theorem u_wh0 {m c : Nat} {τ : MS} (hS : HS g l B h σ) (e : σ.1 56 = 0) (hr : h + 70 ≤ B + 870000) (hF : NF σ τ) (h86 : τ.1 86 = nI c) (hc : c ≤ 64) (L : Nat → Int32) : Um m (fun k => ob (x_wholeOf k 0 L τ) (fun r1 => some (r1.1, r1.2))) (fun r => r.2.1 56 = 0) := by
  refine Um_ob (u_wholeOf (NF_HS hF hS) ((hF.1 56 (by decide)).trans e) hr (c := c) (by omega) h86 _) (fun r hr => ?_)
  rcases hr with ⟨_, q⟩ | ⟨q, _⟩
  · exact Um_some q.2.2.1
  · have := trN_le (τ.2.2 44) c
    omega
theorem u_sub0 {c : Nat} (hS : HS g l B h σ) (e : σ.1 56 = 0) (hr : h + 70 ≤ B + 870000) (hc : c ≤ 64) : ∀ (m b : Nat) (N : Nat → Int32) (τ : MS), 19 ≤ b → b ≤ 32 → NF σ τ → τ.1 86 = nI c → Um m (fun k => x_add k b N τ) (fun r => r.2.1 56 = 0) := by
  intro m
  induction m using Nat.strongRecOn with
  | ind m ih =>
  intro b N τ hb1 hb2 hF h86
  have go : ∀ (m1 b : Nat) (M : Nat → Int32), m1 + 1 = m → 19 ≤ b → b ≤ 32 → Um m1 (fun k => x_add k b M τ) (fun r => r.2.1 56 = 0) := fun m1 b M h1 h2 h3 => ih m1 (by omega) b M τ h2 h3 hF h86
  have hb : b = 19 ∨ b = 20 ∨ b = 21 ∨ b = 22 ∨ b = 23 ∨ b = 24 ∨ b = 25 ∨ b = 26 ∨ b = 27 ∨ b = 28 ∨ b = 29 ∨ b = 30 ∨ b = 31 ∨ b = 32 := by omega
  rcases hb with rfl | rfl | rfl | rfl | rfl | rfl | rfl | rfl | rfl | rfl | rfl | rfl | rfl | rfl
  · exact Um_suc rfl (fun k => by rw [x_add]) (fun m1 h1 => go m1 20 _ h1 (by omega) (by omega))
  · exact Um_suc rfl (fun k => by rw [x_add]) (fun m1 h1 => Um_ite (fun _ => go m1 30 _ h1 (by omega) (by omega)) (fun _ => Um_ite (fun _ => go m1 21 _ h1 (by omega) (by omega)) (fun _ => Um_chk (fun _ => go m1 22 _ h1 (by omega) (by omega)))))
  · exact Um_suc rfl (fun k => by rw [x_add]) (fun m1 h1 => go m1 22 _ h1 (by omega) (by omega))
  · exact Um_suc rfl (fun k => by rw [x_add]) (fun m1 h1 => Um_ite (fun _ => go m1 23 _ h1 (by omega) (by omega)) (fun _ => Um_chk (fun _ => go m1 24 _ h1 (by omega) (by omega))))
  · exact Um_suc rfl (fun k => by rw [x_add]) (fun m1 h1 => go m1 24 _ h1 (by omega) (by omega))
  · exact Um_suc rfl (fun k => by rw [x_add]) (fun m1 h1 => Um_ite (fun _ => go m1 25 _ h1 (by omega) (by omega)) (fun _ => go m1 26 _ h1 (by omega) (by omega)))
  · exact Um_suc rfl (fun k => by rw [x_add]) (fun m1 h1 => go m1 26 _ h1 (by omega) (by omega))
  · exact Um_suc rfl (fun k => by rw [x_add]) (fun m1 h1 => Um_ite (fun _ => go m1 27 _ h1 (by omega) (by omega)) (fun _ => go m1 28 _ h1 (by omega) (by omega)))
  · exact Um_suc rfl (fun k => by rw [x_add]) (fun m1 h1 => go m1 28 _ h1 (by omega) (by omega))
  · refine Um_suc rfl (fun k => by rw [x_add]) (fun m1 h1 => Um_chk (fun _ => ?_))
    exact ih m1 (by omega) 29 _ (mAr τ 44 (N 8).toNatClampNeg (N 11 &&& 65535)) (by omega) (by omega) (NF_tr hF (NF_ar (by omega))) h86
  · exact Um_suc rfl (fun k => by rw [x_add]) (fun m1 h1 => go m1 20 _ h1 (by omega) (by omega))
  · exact Um_suc rfl (fun k => by rw [x_add]) (fun m1 h1 => Um_ite (fun _ => go m1 31 _ h1 (by omega) (by omega)) (fun _ => go m1 32 _ h1 (by omega) (by omega)))
  · exact Um_suc rfl (fun k => by rw [x_add]) (fun m1 h1 => go m1 32 _ h1 (by omega) (by omega))
  · exact Um_suc rfl (fun k => by rw [x_add]) (fun m1 h1 => u_wh0 hS e hr hF h86 hc _)
theorem u_addSame {a n m : Nat} (hS : HS g l B h σ) (e : σ.1 56 = 0) (hr : h + 70 ≤ B + 870000) (hW : Wh σ a n) (hs : SgOK (σ.2.2 28) a n) {L : Nat → Int32} (d1 : L 1 = nI a) (d2 : L 2 = nI a) (d3 : L 3 = -1) : Um m (fun k => x_add k 0 L σ) (fun r => r.2.1 56 = 0) := by
  have hn := hW.2.2.1
  have hn1 := hW.2.1
  have hab := hW.2.2.2.1
  refine Um_suc rfl (fun k => by rw [x_add]) (fun m1 h1 => ?_)
  refine Um_ob (Um_t (s_loadA hS hW.1 hW.2.1 hW.2.2.1 hW.2.2.2.1 hW.2.2.2.2 (by exact d1)) (fun k => f_loadA k _ _ _)) (fun r1 hr1 => ?_)
  obtain ⟨_, p84, _, q43, q85⟩ := hr1
  have hF1 : NF σ r1.2 := ⟨fun j hj => q85 j (by omega), fun j hj => q43 j (by omega)⟩
  have hW1 := Wh_NF hF1 hW
  refine Um_ob (Um_t (s_loadB (NF_HS hF1 hS) hW1.1 hW1.2.1 hW1.2.2.1 hW1.2.2.2.1 hW1.2.2.2.2 (by exact d2)) (fun k => f_loadB k _ _ _)) (fun r2 hr2 => ?_)
  obtain ⟨hF2, p85, _, _, q84⟩ := hr2
  have hF : NF σ r2.2 := NF_tr hF1 hF2
  have p84 : r2.2.1 84 = nI (n - 1) := q84.trans p84
  have c28 : r2.2.2.2 28 = σ.2.2 28 := hF.2 28 (by decide)
  generalize r2.2 = ρ at hF p84 p85 c28
  refine Um_ob (Um_t (s_signOf (NF_HS hF hS) (m := a) (by omega) (by exact d1)) (fun k => f_signOf k _ _ _)) (fun r3 hr3 => ?_)
  rw [hr3, c28]
  refine Um_ob (Um_t (s_signOf (NF_HS hF hS) (m := a) (by omega) (by exact d2)) (fun k => f_signOf k _ _ _)) (fun r4 hr4 => ?_)
  rw [hr4, c28, d3]
  have c16 : ∀ (m : Nat) (N : Nat → Int32), Um m (fun k => x_add k 16 N ρ) (fun r => r.2.1 56 = 0) := fun m N => by
    refine Um_suc rfl (fun k => by rw [x_add]) (fun m2 h2 => ?_)
    refine Um_ob (Um_t (s_cmpR42 (n := n - 1) (by omega) (by exact p84)) (fun k => f_compareRows__42__43 k _ _ _)) (fun r5 hr5 => ?_)
    rw [hr5]
    have c18 : ∀ (m : Nat) (M : Nat → Int32), M 100 = nI (n - 1) → Um m (fun k => x_add k 18 M ρ) (fun r => r.2.1 56 = 0) := fun m M hM => by
      refine Um_suc rfl (fun k => by rw [x_add]) (fun m3 h3 => ?_)
      rw [hM]
      exact u_sub0 (c := n - 1) hS e hr (by omega) m3 19 M (mSc ρ 86 (nI (n - 1))) (by omega) (by omega) (NF_tr hF (NF_sc (by omega))) rfl
    refine Um_ite (fun _ => ?_) (fun _ => c18 m2 _ p84)
    refine Um_suc rfl (fun k => by rw [x_add]) (fun m3 h3 => ?_)
    exact c18 m3 _ p85
  rcases hs with hs | ⟨hs1, hs2⟩
  · rcases hs with hs | hs
    · rw [hs]
      refine Um_ite (fun z => absurd z (show ¬ (1 : Int32) = 0 by decide)) (fun _ => ?_)
      refine Um_ite (fun z => absurd z (show ¬ (1 : Int32) * -1 = 0 by decide)) (fun _ => ?_)
      exact Um_ite (fun z => absurd z (show ¬ (1 : Int32) = 1 * -1 by decide)) (fun _ => c16 m1 _)
    · rw [hs]
      refine Um_ite (fun z => absurd z (show ¬ (-1 : Int32) = 0 by decide)) (fun _ => ?_)
      refine Um_ite (fun z => absurd z (show ¬ (-1 : Int32) * -1 = 0 by decide)) (fun _ => ?_)
      exact Um_ite (fun z => absurd z (show ¬ (-1 : Int32) = -1 * -1 by decide)) (fun _ => c16 m1 _)
  · rw [hs2]
    refine Um_ite (fun _ => ?_) (fun z => absurd rfl z)
    subst hs1
    have p84 : ρ.1 84 = nI 0 := p84
    have p85 : ρ.1 85 = nI 0 := p85
    refine Um_suc rfl (fun k => by rw [x_add]) (fun m2 h2 => ?_)
    rw [p84, p85]
    refine Um_ite (fun _ => ?_) (fun z => absurd (by decide) z)
    refine Um_suc rfl (fun k => by rw [x_add]) (fun m3 h3 => ?_)
    rw [p85]
    refine Um_suc rfl (fun k => by rw [x_add]) (fun m4 h4 => ?_)
    have hG : NF σ (mSc ρ 86 (nI 0)) := NF_tr hF (NF_sc (by omega))
    have e86 : (mSc ρ 86 (nI 0)).1 86 = nI 0 := rfl
    refine Um_suc rfl (fun k => by rw [x_add]) (fun m5 h5 => ?_)
    have c15 : ∀ (m : Nat) (M : Nat → Int32), Um m (fun k => x_add k 15 M (mSc ρ 86 (nI 0))) (fun r => r.2.1 56 = 0) := fun m M => by
      exact Um_suc rfl (fun k => by rw [x_add]) (fun m1 h1 => u_wh0 hS e hr hG e86 (by omega) _)
    refine Um_suc rfl (fun k => by rw [x_add]) (fun m6 h6 => ?_)
    refine Um_ite (fun _ => ?_) (fun z => absurd (show nI 0 ≤ (0 : Int32) by decide) z)
    refine Um_suc rfl (fun k => by rw [x_add]) (fun m7 h7 => ?_)
    refine Um_ite (fun _ => ?_) (fun z => absurd (show (0 : Int32) ≤ 0 by decide) z)
    refine Um_suc rfl (fun k => by rw [x_add]) (fun m8 h8 => ?_)
    refine Um_ite (fun _ => c15 m8 _) (fun _ => ?_)
    refine Um_suc rfl (fun k => by rw [x_add]) (fun m9 h9 => ?_)
    exact c15 m9 _
end ASM

/-! round, whole (reference). -/
section RDW
variable {T : Nat → Nat → Int32} {FN : Nat → Nat → Prop} {S : Nat → Nat → Nat → Nat → Prop} {gl : List Gn} {pr : Nat → Nat} {b : BT} {ns n : Nat} {Tp : Nat → Int32} {σ : MS} {C K : Nat → Int32} {e0 z0 x66 : Int32} {sd : Int64} {m : Nat} {L : Nat → Int32}
theorem s_roundN (h112 : σ.1 112 = 0) : Tm (fun k => x_round k 0 L σ) (fun r => r = (0, mSc σ 2 1)) := by
  refine Tm_suc (fun k => by rw [x_round]) ?_
  refine Tm_ite (fun _ => ?_) (fun z => absurd h112 z)
  refine Tm_suc (fun k => by rw [x_round]) ?_
  refine Tm_suc (fun k => by rw [x_round]) ?_
  refine Tm_ob (s_good _ _) (fun r hr => ?_)
  rw [hr]
  refine Tm_ite (fun _ => ?_) (fun v => absurd rfl v)
  exact Tm_some rfl
theorem s_round (pi : PrI T FN S gl pr b ns) (hP : PSt T FN S C K e0 z0 x66 0 sd m σ) (hg : PG gl pr b σ) (hTp : TpO Tp n σ) (hV : VwO gl pr b σ) (h112 : ¬ σ.1 112 = 0) : Tm (fun k => x_round k 0 L σ) (fun r => PSt T FN S C K e0 z0 x66 0 sd m r.2 ∧ PG gl pr b r.2 ∧ VwO gl pr b r.2 ∧ (∃ Tp', TpO Tp' n r.2 ∧ ∀ i, i < n → Tp' i = Tp i) ∧ (∀ j, j = 22 ∨ j = 24 ∨ j = 25 ∨ j = 31 ∨ j = 44 ∨ j = 73 ∨ j = 111 ∨ j = 112 ∨ j = 115 ∨ j = 120 → r.2.1 j = σ.1 j) ∧ (∀ a, a = 52 ∨ a = 53 ∨ a = 57 → r.2.2.2 a = σ.2.2 a)) := by
  obtain ⟨⟨hW, _, _⟩, _, ⟨_, _, e1, e2, e3⟩, _⟩ := id pi
  obtain ⟨⟨n1, n2⟩, tp3, tpb⟩ := hTp
  have hV0 := hV
  obtain ⟨V, v1, v2, v3⟩ := hV
  refine Tm_suc (fun k => by rw [x_round]) ?_
  refine Tm_ite (fun z => absurd z h112) (fun _ => ?_)
  refine Tm_suc (fun k => by rw [x_round]) ?_
  refine Tm_ob (s_good _ _) (fun r hr => ?_)
  rw [hr]
  refine Tm_ite (fun z => absurd (show (1 : Int32) = 0 from z) (by decide)) (fun _ => ?_)
  show Tm (fun k => x_round k 3 (upd L 100 0) (mSc σ 2 0)) _
  refine Tm_suc (fun k => by rw [x_round]) ?_
  rw [show (mSc σ 2 0).1 4 = nI n from n1]
  -- behind the copying
  have six : ∀ (N : Nat → Int32) (υ : MS), N 2 = nI n → υ.1 = (mSc σ 2 0).1 → υ.2.1 = σ.2.1 → (∀ a, a ≠ 56 → υ.2.2 a = σ.2.2 a) → (∀ k, k < n → υ.2.2 56 k = Tp k) → Tm (fun k => x_round k 6 N υ) (fun r => PSt T FN S C K e0 z0 x66 0 sd m r.2 ∧ PG gl pr b r.2 ∧ VwO gl pr b r.2 ∧ (∃ Tp', TpO Tp' n r.2 ∧ ∀ i, i < n → Tp' i = Tp i) ∧ (∀ j, j = 22 ∨ j = 24 ∨ j = 25 ∨ j = 31 ∨ j = 44 ∨ j = 73 ∨ j = 111 ∨ j = 112 ∨ j = 115 ∨ j = 120 → r.2.1 j = σ.1 j) ∧ (∀ a, a = 52 ∨ a = 53 ∨ a = 57 → r.2.2.2 a = σ.2.2 a)) := fun N υ n2' us ul ur uc => by
    have s : ∀ j, j ≠ 2 → υ.1 j = σ.1 j := fun j hj => by rw [us]; exact upd_other hj
    obtain ⟨g0, l0, B0, h0, X0, hM0⟩ := hP.1.1
    have hMu : MI 0 X0 g0 l0 B0 h0 υ := MI_x hM0 (s 54 (by decide)) (s 55 (by decide)) (s 63 (by decide)) (s 72 (by decide)) (fun a h1 h2 => ur a (by omega))
    have hPu : PSt T FN S C K e0 z0 x66 0 sd m υ := PSt_sm (σ := σ) hW ⟨fun j hj => s j (by omega), fun a ha => ur a (by omega), ul⟩ ⟨g0, l0, B0, h0, X0, hMu⟩ hP
    have hgu : PG gl pr b υ := by
      obtain ⟨p1, p2, ⟨g1, g2, g3⟩, p4⟩ := hg
      refine ⟨(ur 1 (by decide)).trans p1, PB_c (σ := σ) (s 22 (by decide)) (s 24 (by decide)) (fun j hj => ur j (by omega)) p2, ⟨(s 25 (by decide)).trans g1, g2, ?_⟩, ?_⟩
      · rw [ur 13 (by decide), ur 14 (by decide), ur 15 (by decide), ur 16 (by decide)]; exact g3
      · rw [ur 18 (by decide)]; exact p4
    have hVu : VwO gl pr b υ := VwO_c (σ := σ) (s 73 (by decide)) (ur 54 (by decide)) (ur 55 (by decide)) hV0
    have u73 : υ.1 73 = nI V := (s 73 (by decide)).trans v1
    have lp : ∀ (d v : Nat) (M : Nat → Int32) (χ : MS), d + v = V → PSt T FN S C K e0 z0 x66 0 sd m χ → OR υ χ → M 2 = nI n → M 3 = υ.1 22 → M 4 = υ.1 24 → M 6 = nI v → Tm (fun k => x_round k 7 M χ) (fun r => PSt T FN S C K e0 z0 x66 0 sd m r.2 ∧ PG gl pr b r.2 ∧ VwO gl pr b r.2 ∧ (∃ Tp', TpO Tp' n r.2 ∧ ∀ i, i < n → Tp' i = Tp i) ∧ (∀ j, j = 22 ∨ j = 24 ∨ j = 25 ∨ j = 31 ∨ j = 44 ∨ j = 73 ∨ j = 111 ∨ j = 112 ∨ j = 115 ∨ j = 120 → r.2.1 j = σ.1 j) ∧ (∀ a, a = 52 ∨ a = 53 ∨ a = 57 → r.2.2.2 a = σ.2.2 a)) := by
      intro d
      induction d with
      | zero =>
        intro v M χ hd hPc hO m2 m3 m4 m6
        have c73 : χ.1 73 = nI V := (hO.1 73 (by omega)).trans u73
        refine Tm_suc (fun k => by rw [x_round]) ?_
        rw [c73, m6]
        refine Tm_ite (fun _ => ?_) (fun z => absurd ((n_le (by omega) (by omega)).mpr (by omega)) z)
        refine Tm_suc (fun k => by rw [x_round]) ?_
        refine Tm_ob (s_load56 (σ := χ) (n := n) (p := 0) n2 (by omega) rfl (show (upd (upd (fun _ => 0) 2 0) 3 (M 2) : Nat → Int32) 3 = nI n from m2)) (fun r1 hr1 => ?_)
        obtain ⟨d1, d2, d3, d4, d5⟩ := hr1
        show Tm (fun k => x_round k 31 M (mSc r1.2 11 (M 5))) _
        refine Tm_suc (fun k => by rw [x_round]) ?_
        have ws : ∀ j, ¬ (j = 4 ∨ j = 11) → (mSc r1.2 11 (M 5)).1 j = χ.1 j := fun j hj => by
          show upd r1.2.1 11 _ j = _
          rw [upd_other (by omega)]; exact d2 j (by omega)
        obtain ⟨g1, l1, B1, h1, X1, hM1⟩ := hPc.1.1
        have hgc := PG_or hO (by omega) hgu
        have t3 : ∀ i, i < n → (mSc r1.2 11 (M 5)).2.2 3 i = Tp i := fun i hi => by
          show r1.2.2.2 3 i = _
          rw [d5 i hi]
          show χ.2.2 56 (0 + i) = _
          rw [hO.2.1 56 (by omega), Nat.zero_add]; exact uc i hi
        refine Tm_some ⟨PSt_sm (σ := χ) hW ⟨fun j hj => ws j (by omega), fun a ha => d4 a (by omega), d3⟩ ⟨g1, l1, B1, h1, X1, MI_x hM1 (ws 54 (by omega)) (ws 55 (by omega)) (ws 63 (by omega)) (ws 72 (by omega)) (fun a h1 h2 => d4 a (by omega))⟩ hPc, PG_or (σ := χ) ⟨fun j hj => ws j (by omega), fun a ha => d4 a (by omega), fun a i h1 h2 _ _ => by show r1.2.2.2 a i = _; rw [d4 a (by omega)], fun i _ => by show r1.2.2.2 12 i = _; rw [d4 12 (by decide)]⟩ (by omega) hgc, VwO_c (σ := χ) (ws 73 (by omega)) (d4 54 (by decide)) (d4 55 (by decide)) (VwO_or hO hVu), ⟨r1.2.2.2 3, ⟨⟨d1, n2⟩, rfl, fun i hi => ?_⟩, t3⟩, fun j hj => ?_, fun a ha => ?_⟩
        · obtain ⟨x, x1, x2⟩ := tpb i hi
          exact ⟨x, x1, (t3 i hi).trans x2⟩
        · exact (ws j (by omega)).trans ((hO.1 j (by omega)).trans (s j (by omega)))
        · exact (d4 a (by omega)).trans ((hO.2.1 a (by omega)).trans (ur a (by omega)))
      | succ d ih =>
        intro v M χ hd hPc hO m2 m3 m4 m6
        refine rd_it pi hPc (PG_or hO (by omega) hgu) (VwO_or hO hVu) ((hO.1 73 (by omega)).trans u73) (by omega) v2 (m3.trans (hO.1 22 (by omega)).symm) (m4.trans (hO.1 24 (by omega)).symm) m6 (fun N' τ' c1 c2 c3 c4 => ?_)
        exact ih (v + 1) N' τ' (by omega) c1 (OR_tr hO c2) ((c4 2 (by omega) (by omega)).trans m2) ((c4 3 (by omega) (by omega)).trans m3) ((c4 4 (by omega) (by omega)).trans m4) c3
    refine Tm_suc (fun k => by rw [x_round]) ?_
    exact lp V 0 _ υ (by omega) hPu OR_rf n2' rfl rfl rfl
  have cp : ∀ (d i : Nat) (N : Nat → Int32) (υ : MS), d + i = n → N 2 = nI n → N 3 = nI i → υ.1 = (mSc σ 2 0).1 → υ.2.1 = σ.2.1 → (∀ a, a ≠ 56 → υ.2.2 a = σ.2.2 a) → (∀ k, k < i → υ.2.2 56 k = Tp k) → Tm (fun k => x_round k 4 N υ) (fun r => PSt T FN S C K e0 z0 x66 0 sd m r.2 ∧ PG gl pr b r.2 ∧ VwO gl pr b r.2 ∧ (∃ Tp', TpO Tp' n r.2 ∧ ∀ i, i < n → Tp' i = Tp i) ∧ (∀ j, j = 22 ∨ j = 24 ∨ j = 25 ∨ j = 31 ∨ j = 44 ∨ j = 73 ∨ j = 111 ∨ j = 112 ∨ j = 115 ∨ j = 120 → r.2.1 j = σ.1 j) ∧ (∀ a, a = 52 ∨ a = 53 ∨ a = 57 → r.2.2.2 a = σ.2.2 a)) := by
    intro d
    induction d with
    | zero =>
      intro i N υ hi n2' n3' us ul ur uc
      refine Tm_suc (fun k => by rw [x_round]) ?_
      rw [n2', n3']
      refine Tm_ite (fun _ => ?_) (fun z => absurd ((n_le (by omega) (by omega)).mpr (by omega)) z)
      exact six N υ n2' us ul ur (fun k hk => uc k (by omega))
    | succ d ih =>
      intro i N υ hi n2' n3' us ul ur uc
      refine Tm_suc (fun k => by rw [x_round]) ?_
      rw [n2', n3']
      refine Tm_ite (fun z => absurd ((n_le (by omega) (by omega)).mp z) (by omega)) (fun _ => ?_)
      refine Tm_chk (n_in (by omega) (by omega)) ?_
      refine Tm_chk (n_in (by omega) (by omega)) ?_
      rw [n_cl (p := i) (by omega)]
      show Tm (fun k => x_round k 5 N (mAr υ 56 i (υ.2.2 3 i))) _
      refine Tm_suc (fun k => by rw [x_round]) ?_
      rw [n3', n_add1]
      refine ih (i + 1) _ _ (by omega) n2' rfl us ul (fun a h => (mAr_o h).trans (ur a h)) (fun k hk => ?_)
      rw [mAr_s]
      by_cases e : k = i
      · rw [e, upd_same, ur 3 (by decide), tp3]
      · rw [upd_other e]; exact uc k (by omega)
  exact cp n 0 _ (mSc σ 2 0) (by omega) rfl rfl rfl rfl (fun _ _ => rfl) (fun k hk => absurd hk (Nat.not_lt_zero k))
end RDW

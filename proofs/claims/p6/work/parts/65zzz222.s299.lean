/-! A round (reference): one view. -/
section RDI
variable {T : Nat → Nat → Int32} {FN : Nat → Nat → Prop} {S : Nat → Nat → Nat → Nat → Prop} {gl : List Gn} {pr : Nat → Nat} {b : BT} {ns n : Nat} {χ : MS} {C K : Nat → Int32} {e0 z0 x66 : Int32} {sd : Int64} {m V v : Nat} {Q : Int32 × MS → Prop} {N : Nat → Int32}
theorem rd_it (pi : PrI T FN S gl pr b ns) (hP : PSt T FN S C K e0 z0 x66 0 sd m χ) (hg : PG gl pr b χ) (hV : VwO gl pr b χ) (h73 : χ.1 73 = nI V) (hvV : v < V) (hV8 : V ≤ 8) (n3 : N 3 = χ.1 22) (n4 : N 4 = χ.1 24) (n6 : N 6 = nI v) (cont : ∀ (N' : Nat → Int32) (τ' : MS), PSt T FN S C K e0 z0 x66 0 sd m τ' → OR χ τ' → N' 6 = nI (v + 1) → (∀ j, 2 ≤ j → j ≤ 5 → N' j = N j) → Tm (fun k => x_round k 7 N' τ') Q) : Tm (fun k => x_round k 7 N χ) Q := by
  obtain ⟨⟨hW, _, _⟩, _, ⟨_, _, e1, e2, e3⟩, _⟩ := id pi
  obtain ⟨V', v1, _, v3⟩ := hV
  have eV : V' = V := (n_eq (by omega) (by omega)).mp (v1.symm.trans h73)
  subst eV
  obtain ⟨nv, a1, a2, a3, f, t, a4⟩ := v3 v hvV
  refine Tm_suc (fun k => by rw [x_round]) ?_
  rw [h73, n6]
  refine Tm_ite (fun z => absurd ((n_le (by omega) (by omega)).mp z) (by omega)) (fun _ => ?_)
  refine Tm_chk (n_in (by omega) (by omega)) ?_
  rw [n_cl (p := v) (by omega), a1, show (32768 : Int32) * nI v = nI (32768 * v) from n_mulN 32768 v]
  refine Tm_ob (s_load54 (σ := χ) (p := 32768 * v) a2 (by omega) rfl rfl) (fun r3 hr3 => ?_)
  obtain ⟨d1, d2, d3, d4, d5⟩ := hr3
  -- the text is the tape
  obtain ⟨g0, l0, B0, h0, X0, hM0⟩ := hP.1.1
  have hM1 : MI 0 X0 g0 l0 B0 h0 r3.2 := MI_x hM0 (d2 54 (by decide)) (d2 55 (by decide)) (d2 63 (by decide)) (d2 72 (by decide)) (fun a h1 h2 => d4 a (by omega))
  have hP1 : PSt T FN S C K e0 z0 x66 0 sd m r3.2 := PSt_sm (σ := χ) hW ⟨fun j hj => d2 j (by omega), fun a ha => d4 a (by omega), d3⟩ ⟨g0, l0, B0, h0, X0, hM1⟩ hP
  have hO1 : OR χ r3.2 := ⟨fun j hj => d2 j (by omega), fun a ha => d4 a (by omega), fun a i h1 h2 _ _ => by rw [d4 a (by omega)], fun i _ => by rw [d4 12 (by decide)]⟩
  have hg1 : PG gl pr b r3.2 := PG_or hO1 (by omega) hg
  have hx : gX (r3.2.2.2 3) nv f (gl, [], [], 42, false, decide (0 = 1), pr) b = some (some t) := by
    rw [gX_c (T' := fun i => χ.2.2 54 (32768 * v + i)) (fun i hi => d5 i hi)]
    exact a4
  have hxf : gX (r3.2.2.2 3) nv f (gl, [], [], 42, false, false, pr) b = some (some t) := hx
  refine Tm_ob (p_readExp (dr := 0) (σ := r3.2) hx ⟨d1, a2⟩ rfl hg1 (by omega) rfl (by omega) (by omega)) (fun r4 hr4 => ?_)
  obtain ⟨fx, _, k10, k1, kB, k4, k5, k6⟩ := hr4
  obtain ⟨tr, l1, l2, l3, l4⟩ := rd_tree (dr := false) pi a2 (fun i hi => by rw [d5 i hi]; exact a3 i hi) hxf
  refine Tm_ob (rd_go (dr := false) (σ := r3.2) (σa := r3.2) (ρ := r4.2) (ρ1 := r4.2) pi hP1 (fun _ _ => rfl) rfl fx kB tr l1 l2 l3 l4 (fun _ _ => rfl) rfl (L := upd (fun _ => 0) 1 r4.1) k1) (fun r5 hr5 => ?_)
  obtain ⟨υ, q0, q1, q2, q3, q4, q5⟩ := hr5
  rw [q0, n3]
  show Tm (fun k => x_round k 8 N (mSc (mSc υ 69 0) 22 (χ.1 22))) _
  refine Tm_suc (fun k => by rw [x_round]) ?_
  rw [n4]
  show Tm (fun k => x_round k 9 N (mSc (mSc (mSc υ 69 0) 22 (χ.1 22)) 24 (χ.1 24))) _
  obtain ⟨τ, hτ⟩ : ∃ τ, τ = mSc (mSc (mSc υ 69 0) 22 (χ.1 22)) 24 (χ.1 24) := ⟨_, rfl⟩
  rw [← hτ]
  have ts : ∀ j, ¬ (j = 22 ∨ j = 24 ∨ j = 69) → τ.1 j = υ.1 j := fun j hj => by
    rw [hτ]
    show upd (upd (upd υ.1 69 0) 22 _) 24 _ j = _
    rw [upd_other (by omega), upd_other (by omega), upd_other (by omega)]
  have t22 : τ.1 22 = χ.1 22 := by rw [hτ]; rfl
  have t24 : τ.1 24 = χ.1 24 := by rw [hτ]; rfl
  have tr2 : τ.2 = υ.2 := by rw [hτ]; rfl
  obtain ⟨m1, m2⟩ := kv_m q5
  -- from the end of the evaluation on
  have go : ∀ (M : Nat → Int32) (ω : MS) (g : Nat → Prop) (l : List Nat) (B h X a : Nat), (∀ j, ¬ (j = 22 ∨ j = 24 ∨ j = 56 ∨ j = 59 ∨ j = 69) → ω.1 j = υ.1 j) → ω.2 = υ.2 → ω.1 22 = χ.1 22 → ω.1 24 = χ.1 24 → ω.1 56 = 0 → MI 0 X g l B h ω → (a < 3 ∨ g a) → M 6 = nI v → M 7 = nI a → (∀ j, 2 ≤ j → j ≤ 5 → M j = N j) → Tm (fun k => x_round k 12 M ω) Q := fun M ω g l B h X a ws w2 w22 w24 w56 hM ha m6 m7 mj => by
    have key := wk_end (σ := r3.2) (σa := r3.2) (ρ := r4.2) (ρ1 := r4.2) (υ := υ) (ω := ω) pi hP1 hg1 (fun _ _ => rfl) rfl fx (fun _ _ => rfl) rfl q1 q2 q5 q4.2 (fun j hj => ws j (by omega)) (fun a _ => by rw [w2]) (by rw [w2]) (w22.trans (d2 22 (by decide)).symm) (w24.trans (d2 24 (by decide)).symm) (by rw [w2, q4.1 rfl, fx.2.1]) ⟨g, l, B, h, X, hM⟩
    obtain ⟨kP, kO⟩ := key
    have hO2 : OR χ ω := by
      refine OR_tr hO1 ⟨fun j hj => ?_, fun a ha => ?_, kO.2.2.1, kO.2.2.2⟩
      · by_cases c : j = 120
        · rw [c, ws 120 (by omega), m1 120 (by omega), fx.1 120 (by decide)]
        · exact kO.1 j (by omega)
      · by_cases c : a = 56 ∨ a = 57
        · rw [w2, m2 a (by omega), fx.2.2.1 a (by omega)]
        · exact kO.2.1 a (by omega)
    exact rd_12 hW hM kP ⟨0, w56, by omega⟩ (by omega) m6 m7 ha (fun N' τ' c1 c2 c3 c4 => cont N' τ' c1 (OR_tr hO2 c2) c3 (fun j h1 h2 => (c4 j h1 h2).trans (mj j h1 h2)))
  refine Tm_suc (fun k => by rw [x_round]) ?_
  rcases q3 with ⟨w', q3⟩ | q3
  · obtain ⟨g1, l1', B1, h1, X1, _, _, _, _, _, mm, _, _, _, _, t1, er, _⟩ := q3
    refine Tm_ite (fun _ => ?_) (fun z => absurd (by rw [ts 56 (by omega), er]; decide) z)
    refine Tm_suc (fun k => by rw [x_round]) ?_
    refine Tm_ob (s_pop (u := 0) ((ts 59 (by omega)).trans t1) (by omega) _) (fun r6 hr6 => ?_)
    rw [hr6]
    obtain ⟨a, aa1, aa2⟩ := mm.2.2.1 29 0 (Or.inl ⟨rfl, by omega⟩)
    refine Tm_suc (fun k => by rw [x_round]) ?_
    show Tm (fun k => x_round k 12 (upd (upd N 100 (τ.2.2 29 0)) 7 (τ.2.2 29 0)) (mSc (mSc τ 59 (nI 0)) 56 0)) _
    have ws : ∀ j, ¬ (j = 22 ∨ j = 24 ∨ j = 56 ∨ j = 59 ∨ j = 69) → (mSc (mSc τ 59 (nI 0)) 56 0).1 j = υ.1 j := fun j hj => by
      show upd (upd τ.1 59 _) 56 0 j = _
      rw [upd_other (by omega), upd_other (by omega)]
      exact ts j (by omega)
    refine go _ _ g1 l1' B1 h1 X1 a ws tr2 t22 t24 rfl (MI_x (MI_mo mm (Nat.zero_le _)) (ws 54 (by omega)) (ws 55 (by omega)) (ws 63 (by omega)) (ws 72 (by omega)) (fun x _ _ => by show τ.2.2 x = _; rw [tr2])) aa2 n6 ?_ (fun j h1 h2 => ?_)
    · show τ.2.2 29 0 = nI a
      rw [tr2]; exact aa1
    · rw [upd_other (by omega), upd_other (by omega)]
  · obtain ⟨g1, l1', B1, h1, t', mm, t1, _, _, ne, ⟨e, ee, e11⟩, _⟩ := q3
    refine Tm_ite (fun z => absurd z ?_) (fun _ => ?_)
    · rw [ts 56 (by omega), ee]
      intro z
      have := (n_le (p := e) (q := 0) (by omega) (by decide)).mp z
      exact ne (by rw [ee, show e = 0 by omega]; rfl)
    refine Tm_suc (fun k => by rw [x_round]) ?_
    show Tm (fun k => x_round k 12 (upd (upd N 100 0) 7 0) (mSc τ 56 0)) _
    have ws : ∀ j, ¬ (j = 22 ∨ j = 24 ∨ j = 56 ∨ j = 59 ∨ j = 69) → (mSc τ 56 0).1 j = υ.1 j := fun j hj => by
      show upd τ.1 56 0 j = _
      rw [upd_other (by omega)]
      exact ts j (by omega)
    refine go _ _ g1 l1' B1 h1 870000 0 ws tr2 t22 t24 rfl (MI_x (MI_mo mm (Nat.zero_le _)) (ws 54 (by omega)) (ws 55 (by omega)) (ws 63 (by omega)) (ws 72 (by omega)) (fun x _ _ => by show τ.2.2 x = _; rw [tr2])) (Or.inl (by decide)) n6 rfl (fun j h1 h2 => ?_)
    rw [upd_other (by omega), upd_other (by omega)]
end RDI

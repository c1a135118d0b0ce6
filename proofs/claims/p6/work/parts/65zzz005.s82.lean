/-! Rows of variables (reference): all of a row. -/
section DVL
variable {T : Nat → Int32} {n : Nat} {o : Nat}
theorem p_dv : ∀ (f : Nat) (E : En) (q v : Nat) (b : BT) (x : Option DV), GVr T n f E q v b = some x → ∀ (σ : MS) (L : Nat → Int32), PS T n E o q v b σ → b.2.1 + (n - q) ≤ 70000 → (E.2.2.2.1 = 0 → E.1.length ≤ v + 40) → L 1 = 1 → Tm (fun k => x_declareVar k 1 L σ) (PoV T n o E.2.2.2.1 σ x)
  | 0, E, q, v, b, x, hG, σ, L, h, hp, hg, hL => by cases hG
  | f + 1, E, q, v, b, x, hG, σ, L, h, hp, hg, hL => by
    have ih := p_dv f
    have hq := PS_q h
    have hE := tkE_b T n q hq.1
    have hN := tkN_b T n q hq.1
    have hv := PS_v h
    have w1 : σ.1 37 = nI E.2.2.2.1 := h.2.2.2.1.1
    have w2 : E.2.2.2.1 ≤ 42 := h.2.2.2.1.2.1
    rw [GVr] at hG
    refine Tm_suc (fun k => by rw [x_declareVar]) ?_
    rw [hL]
    refine Tm_ite (fun z => absurd z (by decide)) (fun _ => ?_)
    refine Tm_ite (fun _ => ?_) (fun z => absurd (PS_ok h) z)
    refine Tm_ob (v_wantName (w := E.2.2.2.1) h _) (fun r hr => ?_)
    rcases hr with ⟨x1, x2, x3⟩ | ⟨x1, x2⟩
    · refine Tm_ite (fun z => absurd z x2.1) (fun _ => ?_)
      have hx : x = none := by
        by_cases w0 : E.2.2.2.1 = 0
        · rw [if_pos w0] at hG
          rcases gTe_any hG with ⟨_, hx⟩ | ⟨y, _⟩
          · exact hx
          · exact absurd y.1.1 x1
        · rw [if_neg w0] at hG
          rcases gTl_any hG with ⟨_, hx⟩ | ⟨y, _⟩
          · exact hx
          · exact absurd y.1.1 x1
      subst hx
      exact Tm_some ⟨⟨_, x2⟩, x3⟩
    · rw [x2]
      refine Tm_ite (fun _ => ?_) (fun z => absurd (PS_ok h) z)
      refine Tm_suc (fun k => by rw [x_declareVar]) ?_
      rw [w1]
      by_cases w0 : E.2.2.2.1 = 0
      · rw [if_pos w0] at hG
        refine Tm_ite (fun _ => ?_) (fun z => absurd (by rw [w0]; rfl) z)
        refine Tm_ob (v_find (w := E.2.2.2.1) h (by omega) _) (fun r2 hr2 => ?_)
        obtain ⟨hS2, hV2, h46, hle⟩ := hr2
        rw [h46]
        refine Tm_ite (fun z => ?_) (fun z => ?_)
        · have z0 : (fd E (tkS T n q)).1 = 0 := (n_le0 (by omega)).mp z
          refine Tm_suc (fun k => by rw [x_declareVar]) ?_
          refine Tm_ite (fun _ => ?_) (fun z => absurd (PS_ok hS2) z)
          refine Tm_suc (fun k => by rw [x_declareVar]) ?_
          refine Tm_ob (v_newSlot (w := E.2.2.2.1) hS2 upd_same) (fun r3 hr3 => ?_)
          rcases hr3 with ⟨hv6, hB, hV3⟩ | ⟨hv6, hr, hS3⟩
          · have hx : x = none := by
              rcases gTe_any hG with ⟨_, hx⟩ | ⟨y, _⟩
              · exact hx
              · exact absurd hv6 y.1.2.2
            subst hx
            refine Tm_suc (fun k => by rw [x_declareVar]) ?_
            refine Tm_ite (fun z => absurd z hB.1) (fun _ => ?_)
            refine Tm_suc (fun k => by rw [x_declareVar]) ?_
            refine Tm_mono (dv_b8 hB.1) (fun s hs => ?_)
            rw [show PoV T n o E.2.2.2.1 σ none s = ((∃ m, Bb m s.2) ∧ FrV E.2.2.2.1 σ s.2) from rfl, hs]
            exact ⟨⟨_, hB⟩, FrV_tr hV2 hV3⟩
          · subst hr
            have hS3 : PS T n E o q (v + 1) (bSlot b (60 * E.2.2.2.1 + v) 1) (mSlot r2.2 E.2.2.2.1 v (nI 1)) := hS3
            refine Tm_suc (fun k => by rw [x_declareVar]) ?_
            refine Tm_ite (fun _ => ?_) (fun z => absurd (PS_ok hS3) z)
            refine Tm_ob (p_tellEntity (w := E.2.2.2.1) (k := 1) (m := v) hS3 (by have := hg w0; omega) (by rw [bSlot_p]; omega) (by decide) hv6 (fun z => absurd rfl z) (by rw [upd_other (by decide), upd_same]; rfl) (by rw [upd_same, upd_same])) (fun r4 hr4 => ?_)
            refine Tm_ob (v_take (w := E.2.2.2.1) hr4.2 _) (fun r5 hr5 => ?_)
            have hV5 : FrV E.2.2.2.1 σ r5.2 := FrV_tr hV2 (FrV_tr (FrV_slot hv6 _) (FrV_tr hr4.1 hr5.1))
            refine Tm_suc (fun k => by rw [x_declareVar]) ?_
            rcases hr5.2 with ⟨y, hB⟩ | ⟨y, hS5⟩
            · have hx : x = none := by
                rcases gTe_any hG with ⟨_, hx⟩ | ⟨u, _⟩
                · exact hx
                · exact absurd y u.2
              subst hx
              refine Tm_mono (dv_b8 hB.1) (fun s hs => ?_)
              rw [show PoV T n o E.2.2.2.1 σ none s = ((∃ m, Bb m s.2) ∧ FrV E.2.2.2.1 σ s.2) from rfl, hs]
              exact ⟨⟨_, hB⟩, hV5⟩
            · rcases gTe_any hG with ⟨u, _⟩ | ⟨_, hx⟩
              · exact absurd ⟨⟨x1, z0, by omega⟩, y⟩ u
              · refine Tm_mono (dv_8 (w := E.2.2.2.1) hx hS5 (fun q2 ρ N hq2 hG2 hS6 hN1 => ?_)) (fun s hs => PoV_tr hV5 hs)
                have hN2 := tkN_b T n (tkN T n q) hN.2.1
                have hq2 : q2 = tkN T n (tkN T n q) := hq2
                refine ih _ _ _ _ _ hG2 ρ N hS6 ?_ (fun _ => ?_) hN1
                · show b.2.1 + (tkE T n q - q) + (n - q2) ≤ 70000
                  omega
                · show (E.1 ++ [_]).length ≤ v + 1 + 40
                  rw [List.length_append]
                  have := hg w0
                  show E.1.length + 1 ≤ _
                  omega
        · have z0 : ¬ (fd E (tkS T n q)).1 = 0 := fun y => z ((n_le0 (by omega)).mpr y)
          have hx : x = none := by
            rcases gTe_any hG with ⟨_, hx⟩ | ⟨y, _⟩
            · exact hx
            · exact absurd y.1.2.1 z0
          subst hx
          refine Tm_ob (s_fault _ r2.2) (fun r4 hr4 => ?_)
          have hr4 : r4 = (0, mFlt r2.2 4 (r2.2.1 8)) := hr4
          subst hr4
          have hB := flt_b (M := 0) (P := 0) (w := 0) (PS_ok hS2) (PS_m hS2) 4 (r2.2.1 8)
          refine Tm_suc (fun k => by rw [x_declareVar]) ?_
          refine Tm_ite (fun z => absurd z hB.1.1) (fun _ => ?_)
          refine Tm_suc (fun k => by rw [x_declareVar]) ?_
          refine Tm_ite (fun z => absurd z hB.1.1) (fun _ => ?_)
          refine Tm_suc (fun k => by rw [x_declareVar]) ?_
          refine Tm_mono (dv_b8 hB.1.1) (fun s hs => ?_)
          rw [show PoV T n o E.2.2.2.1 σ none s = ((∃ m, Bb m s.2) ∧ FrV E.2.2.2.1 σ s.2) from rfl, hs]
          exact ⟨⟨_, hB.1⟩, FrV_tr hV2 (FrV_flt _ _)⟩
      · rw [if_neg w0] at hG
        refine Tm_ite (fun z => absurd ((n_eq0 (by omega)).mp z) w0) (fun _ => ?_)
        refine Tm_suc (fun k => by rw [x_declareVar]) ?_
        refine Tm_ob (p_tellLocal h hp upd_same) (fun r3 hr3 => ?_)
        obtain ⟨hV3, hr3⟩ := hr3
        rcases hr3 with ⟨y, hB⟩ | ⟨y, hS3⟩
        · have hx : x = none := by
            rcases gTl_any hG with ⟨_, hx⟩ | ⟨u, _⟩
            · exact hx
            · exact absurd u y
          subst hx
          refine Tm_mono (dv_b8 hB.1) (fun s hs => ?_)
          rw [show PoV T n o E.2.2.2.1 σ none s = ((∃ m, Bb m s.2) ∧ FrV E.2.2.2.1 σ s.2) from rfl, hs]
          exact ⟨⟨_, hB⟩, hV3⟩
        · rcases gTl_any hG with ⟨u, _⟩ | ⟨_, hx⟩
          · exact absurd y u
          · refine Tm_mono (dv_8 (w := E.2.2.2.1) hx hS3 (fun q2 ρ N hq2 hG2 hS6 hN1 => ?_)) (fun s hs => PoV_tr hV3 hs)
            have hN2 := tkN_b T n (tkN T n q) hN.2.1
            have hq2 : q2 = tkN T n (tkN T n q) := hq2
            refine ih _ _ _ _ _ hG2 ρ N hS6 ?_ (fun z => absurd z w0) hN1
            show b.2.1 + (tkE T n q - q) + (n - q2) ≤ 70000
            omega
/-- var .. ; -/
theorem p_declareVar {f : Nat} {E : En} {q v : Nat} {b : BT} {x : Option DV} {σ : MS} {L : Nat → Int32} (hG : pT T n q (fun q1 => GVr T n f E q1 v b) = some x) (h : PS T n E o q v b σ) (hp : b.2.1 + (n - q) ≤ 70000) (hg : E.2.2.2.1 = 0 → E.1.length ≤ v + 40) : Tm (fun k => x_declareVar k 0 L σ) (PoV T n o E.2.2.2.1 σ x) := by
  have hN := tkN_b T n q (PS_q h).1
  refine Tm_suc (fun k => by rw [x_declareVar]) ?_
  refine Tm_ob (v_take (w := E.2.2.2.1) h _) (fun r hr => ?_)
  rcases pT_any hG with ⟨z, rfl⟩ | ⟨z, hx⟩
  · rcases hr.2 with ⟨_, hB⟩ | ⟨y, _⟩
    · refine Tm_mono (dv_b hB.1) (fun s hs => ?_)
      rw [show PoV T n o E.2.2.2.1 σ none s = ((∃ m, Bb m s.2) ∧ FrV E.2.2.2.1 σ s.2) from rfl, hs]
      exact ⟨⟨_, hB⟩, hr.1⟩
    · exact absurd z y
  · rcases hr.2 with ⟨y, _⟩ | ⟨_, hS⟩
    · exact absurd y z
    · exact Tm_mono (p_dv f _ _ _ _ _ hx _ _ hS (by omega) hg upd_same) (fun s hs => PoV_tr hr.1 hs)
/-- what a row of variables brings -/
def MoV (n : Nat) (E : En) (q v : Nat) (b : BT) (r : DV) : Prop := q < r.1 ∧ r.1 ≤ n ∧ v ≤ r.2.2.1 ∧ r.2.2.1 ≤ 60 ∧ r.2.2.2.1 = b.1 ∧ r.2.2.2.2.1 + q ≤ b.2.1 + r.1 ∧ b.2.1 ≤ r.2.2.2.2.1 ∧ r.2.1.2.2 = E.2.2 ∧ (E.2.2.2.1 = 0 → r.2.1.1.length + v = E.1.length + r.2.2.1 ∧ r.2.1.2 = E.2) ∧ (¬ E.2.2.2.1 = 0 → r.2.1.1 = E.1) ∧ (∀ x ∈ r.2.1.1, ¬ x.2.2.1 = 1 → x ∈ E.1) ∧ r.2.2.2.2.2.1 = b.2.2.1
theorem gvr_mo : ∀ (f : Nat) (E : En) (q v : Nat) (b : BT) (r : DV), q ≤ n → v ≤ 60 → GVr T n f E q v b = some (some r) → MoV n E q v b r
  | 0, E, q, v, b, r, hq, hv, hG => by cases hG
  | f + 1, E, q, v, b, r, hq, hv, hG => by
    have ih := gvr_mo f
    have hE := tkE_b T n q hq
    have hN := tkN_b T n q hq
    rw [GVr] at hG
    have step : ∀ (E1 : En), tkK T n q = 26 → ¬ v = 60 → E1.2.2 = E.2.2 → (E.2.2.2.1 = 0 → E1.1.length = E.1.length + 1 ∧ E1.2 = E.2) → (¬ E.2.2.2.1 = 0 → E1.1 = E.1) → (∀ x ∈ E1.1, ¬ x.2.2.1 = 1 → x ∈ E.1) → (if tkK T n (tkN T n q) = 12 then pT T n (tkN T n q) (fun q2 => GVr T n f E1 q2 (v + 1) (bTl T n E q v b)) else pW T n 13 (tkN T n q) (fun q2 => some (some (q2, E1, v + 1, bTl T n E q v b)))) = some (some r) → MoV n E q v b r := by
      intro E1 hK hv6 e1 e2 e3 e4 hx
      have hN1 := hN.2.2.2 (by rw [hK]; decide)
      have hN2 := tkN_b T n (tkN T n q) hN.2.1
      by_cases c : tkK T n (tkN T n q) = 12
      · rw [if_pos c] at hx
        rcases pT_any hx with ⟨_, y⟩ | ⟨_, y⟩
        · cases y
        · obtain ⟨m1, m2, m3, m4, m5, m6, m7, m8, m9, m10, m11, m12⟩ := ih _ _ _ _ _ hN2.2.1 (by omega) y
          have m6 : r.2.2.2.2.1 + tkN T n (tkN T n q) ≤ b.2.1 + (tkE T n q - q) + r.1 := m6
          have m7 : b.2.1 + (tkE T n q - q) ≤ r.2.2.2.2.1 := m7
          have w0 : E1.2.2.2.1 = E.2.2.2.1 := by rw [e1]
          refine ⟨by omega, m2, by omega, m4, m5, by omega, by omega, m8.trans e1, fun z => ?_, fun z => (m10 (by rw [w0]; exact z)).trans (e3 z), fun x hx1 hx2 => e4 x (m11 x hx1 hx2) hx2, m12⟩
          obtain ⟨k1, k2⟩ := m9 (by rw [w0]; exact z)
          obtain ⟨k3, k4⟩ := e2 z
          exact ⟨by omega, k2.trans k4⟩
      · rw [if_neg c] at hx
        rcases pW_any hx with ⟨_, y⟩ | ⟨y0, y⟩
        · cases y
        · obtain rfl := Option.some.inj (Option.some.inj y)
          refine ⟨?_, hN2.2.1, ?_, ?_, rfl, ?_, ?_, e1, fun z => ?_, e3, e4, rfl⟩
          · show q < tkN T n (tkN T n q); omega
          · show v ≤ v + 1; omega
          · show v + 1 ≤ 60; omega
          · show b.2.1 + (tkE T n q - q) + q ≤ b.2.1 + tkN T n (tkN T n q); omega
          · show b.2.1 ≤ b.2.1 + (tkE T n q - q); omega
          · obtain ⟨k3, k4⟩ := e2 z
            exact ⟨by show E1.1.length + v = E.1.length + (v + 1); omega, k4⟩
    by_cases w0 : E.2.2.2.1 = 0
    · rw [if_pos w0] at hG
      rcases gTe_any hG with ⟨_, y⟩ | ⟨y0, y⟩
      · cases y
      · refine step (eTe T n E q v b) y0.1.1 y0.1.2.2 rfl (fun _ => ⟨by show (E.1 ++ [_]).length = _; rw [List.length_append]; rfl, rfl⟩) (fun z => absurd w0 z) (fun x hx hn => ?_) y
        rcases List.mem_append.mp (show x ∈ E.1 ++ [(tkS T n q, b.2.1, 1, v)] from hx) with hx | hx
        · exact hx
        · rw [List.mem_singleton.mp hx] at hn; exact absurd rfl hn
    · rw [if_neg w0] at hG
      rcases gTl_any hG with ⟨_, y⟩ | ⟨y0, y⟩
      · cases y
      · exact step (eTl T n E q v b) y0.1.1 y0.1.2.2 rfl (fun z => absurd z w0) (fun _ => rfl) (fun x hx _ => hx) y
theorem gvr_tot : ∀ (f : Nat) (E : En) (q v : Nat) (b : BT), q ≤ n → n - q + 1 ≤ f → ∃ y, GVr T n f E q v b = some y
  | 0, E, q, v, b, hq, hf => absurd hf (by omega)
  | f + 1, E, q, v, b, hq, hf => by
    have ih := gvr_tot f
    have hN := tkN_b T n q hq
    rw [GVr]
    have step : ∀ (E1 : En) (v1 : Nat) (b1 : BT), tkK T n q = 26 → ∃ y, (if tkK T n (tkN T n q) = 12 then pT T n (tkN T n q) (fun q2 => GVr T n f E1 q2 v1 b1) else pW T n 13 (tkN T n q) (fun q2 => some (some (q2, E1, v1, b1)))) = some y := by
      intro E1 v1 b1 hK
      have hN1 := hN.2.2.2 (by rw [hK]; decide)
      have hN2 := tkN_b T n (tkN T n q) hN.2.1
      by_cases c : tkK T n (tkN T n q) = 12
      · rw [if_pos c]; exact pT_t (ih _ _ _ _ hN2.2.1 (by omega))
      · rw [if_neg c]; exact pW_t (fun _ => ⟨_, rfl⟩)
    by_cases w0 : E.2.2.2.1 = 0
    · rw [if_pos w0]
      unfold gTe
      by_cases c : teC T n E q v
      · rw [if_pos c]; exact pT_t (step _ _ _ c.1)
      · rw [if_neg c]; exact ⟨_, rfl⟩
    · rw [if_neg w0]
      unfold gTl
      by_cases c : tlC T n E q v
      · rw [if_pos c]; exact pT_t (step _ _ _ c.1)
      · rw [if_neg c]; exact ⟨_, rfl⟩
end DVL

/-! A statement is begun on both sides (reference): up to its kind. -/
/-- the state as a statement begins -/
def zB (σ : MS) (x y : Int32) : MS := mSc (mSc (mSc (mSc (mSc (mSc (mSc (mSc (mSc σ 103 x) 104 y) 57 0) 59 0) 72 0) 56 0) 67 0) 97 0) 69 0
/-- tables -/
def Bz (T : Nat → Nat → Int32) (FN : Nat → Nat → Prop) (σ : MS) : Prop := STb T FN σ ∧ (∀ a i, 17 ≤ a → a ≤ 21 → (a ≠ 20 ∧ (a ≤ 18 → i < CNo T % 42) ∧ (a = 19 → i < 8 * (CNo T % 42) ∧ i % 8 < (T 18 (i / 8)).toNatClampNeg) ∧ (a = 21 → i ≤ CNo T % 42)) → σ.2.2 a i = T a i) ∧ ∀ i, kC σ i = T 20 i
/-- between statements: both sides alike -/
def IV0 (T : Nat → Nat → Int32) (FN : Nat → Nat → Prop) (S : Nat → Nat → Nat → Nat → Prop) (σ1 σ2 : MS) : Prop := (∃ (g1 : Nat → Prop) (l1 : List Nat) (B1 h1 X1 : Nat) (g2 : Nat → Prop) (l2 : List Nat) (B2 h2 X2 : Nat), MI 0 X1 g1 l1 B1 h1 σ1 ∧ MI 0 X2 g2 l2 B2 h2 σ2 ∧ RA 0 g1 g2 (zB σ1 0 0) (zB σ2 0 0)) ∧ σ1.1 103 = σ2.1 103 ∧ (TyT (σ1.2.2 2) ∧ σ1.2.2 2 = σ2.2.2 2) ∧ (∃ a, σ1.1 95 = nI a ∧ a ≤ 1000000) ∧ UT σ1 ∧ UT σ2 ∧ Bz T FN σ1 ∧ Bz T FN σ2 ∧ PtQ T S σ1 ∧ Ou6 σ1
section ZBS
variable {σ σ1 σ2 : MS} {x y : Int32} {t X B h : Nat} {g g1 g2 : Nat → Prop} {l : List Nat}
theorem zB_r : (zB σ x y).2.2 = σ.2.2 := rfl
theorem zB_s {j : Nat} (h : ¬ (j = 103 ∨ j = 104 ∨ j = 57 ∨ j = 59 ∨ j = 72 ∨ j = 56 ∨ j = 67 ∨ j = 97 ∨ j = 69)) : (zB σ x y).1 j = σ.1 j := by
  show upd (upd (upd (upd (upd (upd (upd (upd (upd σ.1 103 x) 104 y) 57 0) 59 0) 72 0) 56 0) 67 0) 97 0) 69 0 j = σ.1 j
  rw [upd_other (by omega), upd_other (by omega), upd_other (by omega), upd_other (by omega), upd_other (by omega), upd_other (by omega), upd_other (by omega), upd_other (by omega), upd_other (by omega)]
theorem zB_0 {j : Nat} (h : j = 57 ∨ j = 59 ∨ j = 72 ∨ j = 56 ∨ j = 67 ∨ j = 97 ∨ j = 69) : (zB σ x y).1 j = 0 := by
  rcases h with e | e | e | e | e | e | e <;> (rw [e]; rfl)
theorem RtQ_z (h : RtQ σ) : RtQ (zB σ x y) := by
  obtain ⟨P, e, q1, q2, q3, q4, q5, q6⟩ := h
  exact ⟨P, 0, (zB_s (by omega)).trans q1, q2, rfl, by omega, q5, q6⟩
theorem RtP_z {a i : Nat} (h : RtP 0 (zB σ x y) a i) : RtP 0 σ a i := by
  unfold RtP at h ⊢
  rw [zB_r, zB_s (j := 63) (by omega), zB_0 (j := 72) (by omega), show (0 : Int32).toNatClampNeg = 0 from by decide] at h
  rcases h with z | z | z | z | z | z
  · omega
  · exact Or.inr (Or.inl z)
  · exact Or.inr (Or.inr (Or.inl z))
  · exact Or.inr (Or.inr (Or.inr (Or.inl z)))
  · omega
  · exact Or.inr (Or.inr (Or.inr (Or.inr (Or.inr z))))
/-- what lives -/
theorem MI_z (hM : MI 0 X g l B h σ) (hU : UT σ) : MI 0 400000 g l B h (zB σ x y) := by
  obtain ⟨m1, m2, m3, m4⟩ := hM
  have h1 : HS g l B h (zB σ x y) := HS_c m1 (zB_s (by omega)) (zB_s (by omega)) rfl
  have h2 : RtQ (zB σ x y) := RtQ_z m2
  have h3 : ∀ a i, RtP 0 (zB σ x y) a i → Vd g ((zB σ x y).2.2 a i) := fun a i z => m3 a i (RtP_z z)
  exact ⟨h1, h2, h3, lv_all h1 h2 h3 (UT_c hU rfl (zB_s (by omega)) (zB_s (by omega)) (zB_s (by omega))) rfl⟩
theorem RA_z (hR : RA 0 g1 g2 (zB σ1 0 0) (zB σ2 0 0)) : RA 0 g1 g2 (zB σ1 x y) (zB σ2 x y) := by
  refine ⟨fun a i z hv => hR.1 a i ?_ hv, fun a i ha hz hn => hR.2.1 a i ha hz (fun yy => hn ((InA_c (σ := zB σ1 0 0) (ρ := zB σ1 x y) ((zB_s (by omega)).trans (zB_s (by omega)).symm) rfl ((zB_s (by omega)).trans (zB_s (by omega)).symm) ((zB_s (by omega)).trans (zB_s (by omega)).symm) ((zB_s (by omega)).trans (zB_s (by omega)).symm) ((zB_s (by omega)).trans (zB_s (by omega)).symm) (fun _ _ => rfl) (fun _ _ => rfl) (fun _ _ _ _ => rfl) a i).mpr yy)), fun j hj => ?_, hR.2.2.2⟩
  · unfold RtP at z ⊢
    rw [zB_s (j := 63) (by omega), zB_0 (j := 72) (by omega)] at z ⊢
    exact z
  · by_cases e1 : j = 103
    · rw [e1]; rfl
    by_cases e2 : j = 104
    · rw [e2]; rfl
    have := hR.2.2.1 j hj
    by_cases c : j = 57 ∨ j = 59 ∨ j = 72 ∨ j = 56 ∨ j = 67 ∨ j = 97 ∨ j = 69
    · rw [zB_0 c, zB_0 c]
    · rw [zB_s (by omega), zB_s (by omega)] at this
      rw [zB_s (by omega), zB_s (by omega)]; exact this
end ZBS
section SW4
variable {t X1 X2 B1 h1 B2 h2 : Nat} {g1 g2 : Nat → Prop} {l1 l2 : List Nat} {σ1 σ2 : MS}
/-- a sweep at a statement's begin -/
theorem E_sw4 (m1 : MI 0 400000 g1 l1 B1 h1 σ1) (m2 : MI 0 400000 g2 l2 B2 h2 σ2) (hR : RA 0 g1 g2 σ1 σ2) (t1 : σ1.1 59 = nI 0) (h72 : σ1.1 72 = nI 0) (k72 : σ2.1 72 = nI 0) (e1 : σ1.1 56 = 0) (e2 : σ2.1 56 = 0) (w1 : σ1.1 57 = nI 0) (ty : TyT (σ1.2.2 2) ∧ σ1.2.2 2 = σ2.2.2 2) (h95 : ∃ a, σ1.1 95 = nI a ∧ a ≤ 1000000) : T2 (fun k => x_sweep k 0 (upd (fun _ => 0) 1 400000) σ1) (fun k => x_sweep k 0 (upd (fun _ => 0) 1 400000) σ2) (fun r1 r2 => FE σ1 r1.2 ∧ FE σ2 r2.2 ∧ EI 0 0 400000 r1.2 r2.2) := by
  have t2 : σ2.1 59 = nI 0 := (hR.2.2.1 59 (by unfold AlS; omega)).symm.trans t1
  refine T2_mono (T2_of (MI_sw (T := 400000) m1 t1 (by omega) rfl (by decide)) (MI_sw (T := 400000) m2 t2 (by omega) rfl (by decide)) (fun n => Pm_wl (fun k => wl_sweep k _ _ _) (fun k => wl_sweep k _ _ _) (Pm_t2 (MI_sw (T := 400000) m1 t1 (by omega) rfl (by decide)) (fun k => f_sweep k _ _ _) (MI_sw (T := 400000) m2 t2 (by omega) rfl (by decide)) (fun k => f_sweep k _ _ _)))) (fun r1 r2 hr => ?_)
  obtain ⟨⟨⟨⟨gA, lA, BA, hA, a1, a2, a3, a4⟩, ⟨gB, lB, BB, hB, b1, b2, b3, b4⟩⟩, c1, c2⟩, _, _⟩ := hr
  have f1 := FE_eo m1.2.1 a2
  have f2 := FE_eo m2.2.1 b2
  have hR' : RA 0 gA gB r1.2 r2.2 := RA_step m1.2.1 m2.2.1 hR a2 b2 (by rw [a3 57 (by decide) (by decide), b3 57 (by decide) (by decide)]; exact hR.2.2.1 57 (by unfold AlS; omega)) (by rw [a3 59 (by decide) (by decide), b3 59 (by decide) (by decide)]; exact hR.2.2.1 59 (by unfold AlS; omega)) (by rw [c1, c2]; exact hR.2.2.2)
  obtain ⟨a, ha1, ha2⟩ := h95
  refine ⟨f1, f2, gA, lA, BA, hA, 400000, gB, lB, BB, hB, 400000, a1, b1, hR', ⟨0, (a3 72 (by decide) (by decide)).trans h72, by omega, fun i hi => absurd hi (Nat.not_lt_zero i)⟩, ⟨0, (b3 72 (by decide) (by decide)).trans k72, by omega, fun i hi => absurd hi (Nat.not_lt_zero i)⟩, (a3 59 (by decide) (by decide)).trans t1, (a3 56 (by decide) (by decide)).trans e1, (b3 56 (by decide) (by decide)).trans e2, (a3 57 (by decide) (by decide)).trans w1, ⟨by omega, by omega, by omega⟩, by omega, by omega, ⟨?_, ?_⟩, a, (a3 95 (by decide) (by decide)).trans ha1, ha2⟩
  · rw [f1.2.2.1]; exact ty.1
  · rw [f1.2.2.1, f2.2.2.1]; exact ty.2
end SW4
section BG1
variable {T : Nat → Nat → Int32} {FN : Nat → Nat → Prop} {S : Nat → Nat → Nat → Nat → Prop} {σ1 σ2 : MS}
/-- a statement is begun: behind the sweep -/
theorem E_begin9 (hW : SWf T FN S) (hI : IV0 T FN S σ1 σ2) {c un d v n : Nat} {F : List Nat} (hP : Pos T S c un d v n F σ1) {Q : Int32 × MS → Int32 × MS → Prop} {L1 L2 : Nat → Int32} (d1 : L1 1 = nI n) (d2 : L2 1 = nI n) (hQ : ∀ (x y : Int32) (r1 r2 : MS), x = σ1.1 103 + 1 → Mid T FN S 0 0 400000 (zB σ1 x y) (zB σ2 x y) r1 r2 → Pos T S c un d v n F r1 → FE (zB σ1 x y) r1 → FE (zB σ2 x y) r2 → T2 (fun k => if T 4 n = 40 then x_begin k 10 L1 r1 else if T 4 n = 41 then x_begin k 10 L1 r1 else if T 4 n = 42 then x_begin k 11 L1 r1 else if T 4 n = 43 then x_begin k 12 L1 r1 else if T 4 n = 44 then x_begin k 13 L1 r1 else if T 4 n = 45 then x_begin k 14 L1 r1 else if T 4 n = 46 then x_begin k 15 L1 r1 else if T 4 n = 47 then x_begin k 16 L1 r1 else if T 4 n = 48 then x_begin k 17 L1 r1 else if T 4 n = 49 then x_begin k 18 L1 r1 else if T 4 n = 50 then x_begin k 18 L1 r1 else if T 4 n = 51 then x_begin k 19 L1 r1 else if T 4 n = 52 then x_begin k 20 L1 r1 else if T 4 n = 53 then x_begin k 21 L1 r1 else if T 4 n = 54 then x_begin k 23 L1 r1 else if T 4 n = 55 then x_begin k 24 L1 r1 else x_begin k 25 L1 r1) (fun k => if T 4 n = 40 then x_begin k 10 L2 r2 else if T 4 n = 41 then x_begin k 10 L2 r2 else if T 4 n = 42 then x_begin k 11 L2 r2 else if T 4 n = 43 then x_begin k 12 L2 r2 else if T 4 n = 44 then x_begin k 13 L2 r2 else if T 4 n = 45 then x_begin k 14 L2 r2 else if T 4 n = 46 then x_begin k 15 L2 r2 else if T 4 n = 47 then x_begin k 16 L2 r2 else if T 4 n = 48 then x_begin k 17 L2 r2 else if T 4 n = 49 then x_begin k 18 L2 r2 else if T 4 n = 50 then x_begin k 18 L2 r2 else if T 4 n = 51 then x_begin k 19 L2 r2 else if T 4 n = 52 then x_begin k 20 L2 r2 else if T 4 n = 53 then x_begin k 21 L2 r2 else if T 4 n = 54 then x_begin k 23 L2 r2 else if T 4 n = 55 then x_begin k 24 L2 r2 else x_begin k 25 L2 r2) Q) : T2 (fun k => x_begin k 0 L1 σ1) (fun k => x_begin k 0 L2 σ2) Q := by
  obtain ⟨⟨g1, l1, B1, h1, X1, g2, l2, B2, h2, X2, m1, m2, hR⟩, e103, ty, h95, U1, U2, Z1, Z2, pq, ou⟩ := hI
  obtain ⟨_, _, ⟨n7, _, _⟩, _, _⟩ := Pos_b hW hP
  obtain ⟨_, ⟨p, p8, p4⟩, _⟩ := hW un d v n (LVs_S hP.2.2.1)
  refine T2_suc (fun k => by rw [x_begin]) (fun k => by rw [x_begin]) ?_
  refine T2_suc (fun k => by rw [x_begin]) (fun k => by rw [x_begin]) ?_
  rw [d1, d2]
  refine T2_chk (n_in (by omega) (by omega)) (n_in (by omega) (by omega)) ?_
  rw [n_cl (p := n) (by omega)]
  show T2 (fun k => if ¬ (σ1.2.2 8 n < 0 ∨ 401 ≤ (σ1.2.2 8 n).toNatClampNeg) then x_begin k 2 L1 (mSc (mSc σ1 103 (σ1.1 103 + 1)) 104 (σ1.2.2 11 (σ1.2.2 8 n).toNatClampNeg)) else none) (fun k => if ¬ (σ2.2.2 8 n < 0 ∨ 401 ≤ (σ2.2.2 8 n).toNatClampNeg) then x_begin k 2 L2 (mSc (mSc σ2 103 (σ2.1 103 + 1)) 104 (σ2.2.2 11 (σ2.2.2 8 n).toNatClampNeg)) else none) Q
  rw [Z1.1.1 8 _ (by omega) (by omega) (by omega), Z2.1.1 8 _ (by omega) (by omega) (by omega), p8, ← e103]
  refine T2_chk (n_in (by omega) (by omega)) (n_in (by omega) (by omega)) ?_
  rw [n_cl (p := p) (by omega), Z1.1.1 11 p (by omega) (by omega) (by omega), Z2.1.1 11 p (by omega) (by omega) (by omega)]
  refine T2_suc (fun k => by rw [x_begin]) (fun k => by rw [x_begin]) ?_
  refine T2_suc (fun k => by rw [x_begin]) (fun k => by rw [x_begin]) ?_
  refine T2_suc (fun k => by rw [x_begin]) (fun k => by rw [x_begin]) ?_
  refine T2_suc (fun k => by rw [x_begin]) (fun k => by rw [x_begin]) ?_
  refine T2_suc (fun k => by rw [x_begin]) (fun k => by rw [x_begin]) ?_
  refine T2_suc (fun k => by rw [x_begin]) (fun k => by rw [x_begin]) ?_
  refine T2_suc (fun k => by rw [x_begin]) (fun k => by rw [x_begin]) ?_
  show T2 (fun k => x_begin k 9 L1 (zB σ1 (σ1.1 103 + 1) (T 11 p))) (fun k => x_begin k 9 L2 (zB σ2 (σ1.1 103 + 1) (T 11 p))) Q
  have M1 := MI_z (x := σ1.1 103 + 1) (y := T 11 p) m1 U1
  have M2 := MI_z (x := σ1.1 103 + 1) (y := T 11 p) m2 U2
  have R1 := RA_z (x := σ1.1 103 + 1) (y := T 11 p) hR
  have W1 : UT (zB σ1 (σ1.1 103 + 1) (T 11 p)) := UT_c U1 rfl (zB_s (by omega)) (zB_s (by omega)) (zB_s (by omega))
  have W2 : UT (zB σ2 (σ1.1 103 + 1) (T 11 p)) := UT_c U2 rfl (zB_s (by omega)) (zB_s (by omega)) (zB_s (by omega))
  have C1 : Bs T FN (zB σ1 (σ1.1 103 + 1) (T 11 p)) := ⟨Z1.1, Z1.2.1, rfl, rfl, rfl, rfl, Z1.2.2⟩
  have C2 : Bs T FN (zB σ2 (σ1.1 103 + 1) (T 11 p)) := ⟨Z2.1, Z2.2.1, rfl, rfl, rfl, rfl, Z2.2.2⟩
  have hP' : Pos T S c un d v n F (zB σ1 (σ1.1 103 + 1) (T 11 p)) := hP
  have pq' : PtQ T S (zB σ1 (σ1.1 103 + 1) (T 11 p)) := fun q hq => pq q (by rw [zB_s (by omega)] at hq; exact hq)
  have ou' : Ou6 (zB σ1 (σ1.1 103 + 1) (T 11 p)) := by
    obtain ⟨o, o1, o2⟩ := ou
    exact ⟨o, (zB_s (by omega)).trans o1, o2⟩
  have h95' : ∃ a, (zB σ1 (σ1.1 103 + 1) (T 11 p)).1 95 = nI a ∧ a ≤ 1000000 := by
    obtain ⟨a, a1, a2⟩ := h95
    exact ⟨a, (zB_s (by omega)).trans a1, a2⟩
  have sw := E_sw4 M1 M2 R1 rfl rfl rfl rfl rfl rfl ty h95'
  have fin := fun r1 r2 => hQ (σ1.1 103 + 1) (T 11 p) r1 r2 rfl
  refine T2_suc (fun k => by rw [x_begin]) (fun k => by rw [x_begin]) ?_
  refine T2_ob sw (fun r1 r2 hr => ?_)
  obtain ⟨f1, f2, hE⟩ := hr
  have D1 := Bs_fc (I := fun _ => False) C1 (FC_fe f1)
  have D2 := Bs_fc (I := fun _ => False) C2 (FC_fe f2)
  rw [d1, d2]
  refine T2_chk (n_in (by omega) (by omega)) (n_in (by omega) (by omega)) ?_
  rw [n_cl (p := n) (by omega), D1.1.1 4 _ (by omega) (by omega) (by omega), D2.1.1 4 _ (by omega) (by omega) (by omega)]
  refine fin r1.2 r2.2 ⟨hE, UT_fe f1 W1, UT_fe f2 W2, D1, D2, fun j hj => ⟨f1.1 j (by unfold AlS; omega) (by omega) (by omega) (by omega), f2.1 j (by unfold AlS; omega) (by omega) (by omega) (by omega)⟩, PtQ_fc (I := fun _ => False) pq' (FC_fe f1), Ou6_fc (I := fun _ => False) ou' (FC_fe f1)⟩ (Pos_fs hW (FS_fe f1) hP') f1 f2
end BG1

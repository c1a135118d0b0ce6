/-! Statements on both sides (reference): return. -/
/-- an answer leaves the pile as it was -/
def P29 (A : Nat → Int32) (r : Option (Int32 × MS)) : Prop := ∀ q, r = some q → q.2.2.2 29 = A
section P29S
variable {A : Nat → Int32}
theorem p29_if {c : Prop} {d : Decidable c} {a b : Option (Int32 × MS)} (h1 : P29 A a) (h2 : P29 A b) : P29 A (if c then a else b) := by
  by_cases h : c
  · rw [if_pos h]; exact h1
  · rw [if_neg h]; exact h2
theorem p29_n : P29 A none := fun q h => by cases h
theorem p29_s {x : Int32} {σ : MS} (h : σ.2.2 29 = A) : P29 A (some (x, σ)) := fun q e => by cases e; exact h
theorem p29_ob {a : Option (Int32 × MS)} {F : Int32 × MS → Option (Int32 × MS)} (h1 : P29 A a) (h2 : ∀ r : Int32 × MS, r.2.2.2 29 = A → P29 A (F r)) : P29 A (ob a F) := by
  cases a with
  | none => exact p29_n
  | some r => exact h2 r (h1 r rfl)
theorem p29_size : ∀ (k b : Nat) (L : Nat → Int32) (σ : MS), σ.2.2 29 = A → P29 A (x_size k b L σ) := by
  intro k
  induction k with
  | zero => intro b L σ h; rw [x_size]; exact p29_n
  | succ k ih =>
    intro b L σ h
    match b with
    | 0 => rw [x_size]; exact p29_if (ih 1 L σ h) (ih 2 _ σ h)
    | 1 => rw [x_size]; exact p29_if (ih 2 _ σ h) p29_n
    | 2 => rw [x_size]; exact p29_s h
    | b + 3 => rw [x_size]; exact p29_n
theorem p29_valueOf : ∀ (k b : Nat) (L : Nat → Int32) (σ : MS), σ.2.2 29 = A → P29 A (x_valueOf k b L σ) := by
  intro k
  induction k with
  | zero => intro b L σ h; rw [x_valueOf]; exact p29_n
  | succ k ih =>
    intro b L σ h
    match b with
    | 0 => rw [x_valueOf]; exact p29_if (p29_if (p29_if (p29_if (p29_s h) p29_n) p29_n) (ih 1 L σ h)) p29_n
    | 1 => rw [x_valueOf]; exact p29_if (ih 2 L σ h) (p29_if (p29_if (ih 3 _ σ h) p29_n) p29_n)
    | 2 => rw [x_valueOf]; exact p29_if (p29_if (p29_if (ih 3 _ σ h) p29_n) p29_n) p29_n
    | 3 => rw [x_valueOf]; exact p29_s h
    | b + 4 => rw [x_valueOf]; exact p29_n
theorem p29_ar {σ : MS} {a i : Nat} {x : Int32} (ha : 29 ≠ a) (h : σ.2.2 29 = A) : (mAr σ a i x).2.2 29 = A := (mAr_o ha).trans h
theorem p29_bindOne : ∀ (k b : Nat) (L : Nat → Int32) (σ : MS), σ.2.2 29 = A → P29 A (x_bindOne k b L σ) := by
  intro k
  induction k with
  | zero => intro b L σ h; rw [x_bindOne]; exact p29_n
  | succ k ih =>
    intro b L σ h
    match b with
    | 0 => rw [x_bindOne]; exact p29_if (p29_if (p29_if (p29_if (ih 3 L (mAr σ 30 _ _) (p29_ar (by decide) h)) p29_n) p29_n) (ih 1 L σ h)) p29_n
    | 1 => rw [x_bindOne]; exact p29_if (ih 2 L σ h) (p29_if (p29_if (ih 3 L (mAr σ 33 _ _) (p29_ar (by decide) h)) p29_n) p29_n)
    | 2 => rw [x_bindOne]; exact p29_if (p29_if (p29_if (ih 3 L (mAr σ 30 _ _) (p29_ar (by decide) h)) p29_n) p29_n) p29_n
    | 3 => rw [x_bindOne]; exact p29_s h
    | b + 4 => rw [x_bindOne]; exact p29_n
theorem p29_dropIter : ∀ (k b : Nat) (L : Nat → Int32) (σ : MS), σ.2.2 29 = A → P29 A (x_dropIter k b L σ) := by
  intro k
  induction k with
  | zero => intro b L σ h; rw [x_dropIter]; exact p29_n
  | succ k ih =>
    intro b L σ h
    match b with
    | 0 => rw [x_dropIter]; exact p29_if (p29_if (ih 1 L (mAr σ 30 _ _) (p29_ar (by decide) h)) p29_n) p29_n
    | 1 => rw [x_dropIter]; exact p29_if (p29_if (p29_ob (p29_size k 0 _ σ h) (fun r hr => p29_s hr)) p29_n) p29_n
    | b + 2 => rw [x_dropIter]; exact p29_n
theorem p29_closeFor : ∀ (k b : Nat) (L : Nat → Int32) (σ : MS), σ.2.2 29 = A → P29 A (x_closeFor k b L σ) := by
  intro k
  induction k with
  | zero => intro b L σ h; rw [x_closeFor]; exact p29_n
  | succ k ih =>
    intro b L σ h
    match b with
    | 0 => rw [x_closeFor]; exact p29_if (ih 1 _ σ h) p29_n
    | 1 => rw [x_closeFor]; exact p29_if (p29_if (p29_if (ih 2 L σ h) (p29_ob (p29_dropIter k 0 _ σ h) (fun r hr => ih 1 L r.2 hr))) p29_n) p29_n
    | 2 => rw [x_closeFor]; exact p29_if (p29_if (ih 3 L (mAr σ 30 _ _) (p29_ar (by decide) h)) p29_n) p29_n
    | 3 => rw [x_closeFor]; exact p29_if (p29_if (ih 4 _ σ h) p29_n) p29_n
    | 4 => rw [x_closeFor]; exact p29_if (ih 8 L σ h) (p29_if (ih 5 _ σ h) p29_n)
    | 5 => rw [x_closeFor]; exact p29_if (ih 7 L σ h) (p29_ob (p29_valueOf k 0 _ σ h) (fun r hr => p29_ob (p29_size k 0 _ r.2 hr) (fun q hq => ih 6 L (mSc q.2 64 _) hq)))
    | 6 => rw [x_closeFor]; exact p29_ob (p29_bindOne k 0 _ σ h) (fun r hr => p29_if (ih 5 _ r.2 hr) p29_n)
    | 7 => rw [x_closeFor]; exact p29_if (ih 4 _ σ h) p29_n
    | 8 => rw [x_closeFor]; exact p29_s h
    | b + 9 => rw [x_closeFor]; exact p29_n
end P29S
section T59
variable {g1 g2 : Nat → Option (Int32 × MS)} {Q : Int32 × MS → Int32 × MS → Prop} {x y : Int32}
theorem T2_59 (h : T2 g1 g2 Q) : T2 (fun k => o59 x (g1 k)) (fun k => o59 x (g2 k)) (fun r1 r2 => ∃ s1 s2, r1 = (s1.1, mSc s1.2 59 x) ∧ r2 = (s2.1, mSc s2.2 59 x) ∧ Q s1 s2) := by
  obtain ⟨r1, r2, N, a1, a2, b⟩ := h
  refine ⟨(r1.1, mSc r1.2 59 x), (r2.1, mSc r2.2 59 x), N, fun k hk => ?_, fun k hk => ?_, r1, r2, rfl, rfl, b⟩
  · show o59 x (g1 k) = _
    rw [a1 k hk]; rfl
  · show o59 x (g2 k) = _
    rw [a2 k hk]; rfl
theorem T2_p29 {A1 A2 : Nat → Int32} (h1 : ∀ k, P29 A1 (g1 k)) (h2 : ∀ k, P29 A2 (g2 k)) (h : T2 g1 g2 Q) : T2 g1 g2 (fun r1 r2 => Q r1 r2 ∧ r1.2.2.2 29 = A1 ∧ r2.2.2.2 29 = A2) := by
  obtain ⟨r1, r2, N, a1, a2, b⟩ := h
  exact ⟨r1, r2, N, a1, a2, b, h1 N r1 (a1 N (Nat.le_refl _)), h2 N r2 (a2 N (Nat.le_refl _))⟩
end T59
/-- a value that lies above the top is upon the pile -/
theorem mPu_back {τ : MS} {t : Nat} {x y : Int32} (h59 : τ.1 59 = nI (t + 1)) (h29 : τ.2.2 29 t = x) : mPu (mSc τ 59 y) t x = τ := by
  have e1 : upd (upd τ.1 59 y) 59 (nI (t + 1)) = τ.1 := by
    funext i
    by_cases e : i = 59
    · rw [e, upd_same, h59]
    · rw [upd_other e, upd_other e]
  have e2 : (mAr (mSc τ 59 y) 29 t x).2.2 = τ.2.2 := mAr_same (σ := mSc τ 59 y) h29
  show (upd (upd τ.1 59 y) 59 (nI (t + 1)), τ.2.1, (mAr (mSc τ 59 y) 29 t x).2.2) = τ
  rw [e1, e2]
section RET
variable {T : Nat → Nat → Int32} {FN : Nat → Nat → Prop} {lc cn : Nat → Prop} {S : Nat → Nat → Nat → Nat → Prop} {t w XC : Nat} {σ1 σ2 : MS} {x y : Int32} {F0 : List Nat}
/-- all fors of a call are closed while a value lies above the top -/
theorem E_gbCloseV {l2 : Nat} (hl2 : l2 < 50) {N1 N2 : Nat → Int32} (n2 : N1 2 = nI l2) (o2 : N2 2 = nI l2) {Q : Int32 × MS → Int32 × MS → Prop} (hS : Sc1 T FN lc cn σ1) (hS2 : Sc1 T FN lc cn σ2) (h1c : σ1.2.2 30 1 = nI (l2 + 1)) (h66 : σ1.2.2 30 (66 + 3 * l2) = nI F0.length) (hQ : ∀ (τ1 τ2 : MS), EI (t + 1) w XC τ1 τ2 → UT τ1 → UT τ2 → FCt (fun i => i = 2 ∨ i = 3) σ1 τ1 → FCt (fun i => i = 2 ∨ i = 3) σ2 τ2 → τ1.2.2 30 2 = nI F0.length → τ1.2.2 30 3 = nI (suI T F0) → ItS τ1 (suI T F0) → τ1.2.2 29 = σ1.2.2 29 → τ2.2.2 29 = σ2.2.2 29 → T2 (fun k => x_giveBack k 2 N1 (mSc τ1 59 (nI t))) (fun k => x_giveBack k 2 N2 (mSc τ2 59 (nI t))) Q) : ∀ (G : List Nat) (τ1 τ2 : MS), (G ++ F0).length ≤ 1050 → suI T (G ++ F0) ≤ 3100 → (∀ m ∈ G, ∃ kk, ItL T FN lc cn kk (T 5 m)) → EI (t + 1) w XC τ1 τ2 → UT τ1 → UT τ2 → FCt (fun i => i = 2 ∨ i = 3) σ1 τ1 → FCt (fun i => i = 2 ∨ i = 3) σ2 τ2 → τ1.2.2 30 2 = nI (G ++ F0).length → FSk T (τ1.2.2 30) (G ++ F0) → τ1.2.2 30 3 = nI (suI T (G ++ F0)) → ItS τ1 (suI T (G ++ F0)) → τ1.2.2 29 = σ1.2.2 29 → τ2.2.2 29 = σ2.2.2 29 → T2 (fun k => x_giveBack k 1 N1 (mSc τ1 59 (nI t))) (fun k => x_giveBack k 1 N2 (mSc τ2 59 (nI t))) Q := by
  intro G
  have e66 : (64 : Int32) + 3 * nI l2 + 2 = nI (66 + 3 * l2) := by
    rw [show (3 : Int32) * nI l2 = nI (3 * l2) from n_mulN 3 l2, show (64 : Int32) + nI (3 * l2) = nI (64 + 3 * l2) from n_add (p := 64) (by omega), show nI (64 + 3 * l2) + 2 = nI (64 + 3 * l2 + 2) from n_add (q := 2) (by omega)]
    congr 1; omega
  have row : ∀ (τ : MS) a, (mSc τ 59 (nI t)).2.2 a = τ.2.2 a := fun _ _ => rfl
  induction G with
  | nil =>
    intro τ1 τ2 hl hs hG hJ V1 V2 f1 f2 p2 pF p3 pit u1 u2
    have hl : F0.length ≤ 1050 := hl
    have p2 : τ1.2.2 30 2 = nI F0.length := p2
    refine T2_suc (fun k => by rw [x_giveBack]) (fun k => by rw [x_giveBack]) ?_
    refine T2_chk (by decide) (by decide) ?_
    rw [n2, o2, e66]
    refine T2_chk (n_in (by omega) (by omega)) (n_in (by omega) (by omega)) ?_
    rw [show (2 : Int32).toNatClampNeg = 2 from by decide, n_cl (p := 66 + 3 * l2) (by omega), row, row, EI_30 hJ (i := 2) (by unfold Zn; omega) (InA_4 (by omega)), EI_30 hJ (i := 66 + 3 * l2) (by unfold Zn; omega) (InA_cl ((FC_30 f1 (i := 1) (by unfold Zn; omega) (by omega)).trans h1c) (by omega) (by omega)), p2, FC_30 f1 (i := 66 + 3 * l2) (by unfold Zn; omega) (by omega), h66]
    refine T2_ite Iff.rfl (fun _ _ => ?_) (fun z _ => absurd (Int32.le_refl _) z)
    exact hQ τ1 τ2 hJ V1 V2 f1 f2 p2 p3 pit u1 u2
  | cons m G ih =>
    intro τ1 τ2 hl hs hG hJ V1 V2 f1 f2 p2 pF p3 pit u1 u2
    have hl : (G ++ F0).length + 1 ≤ 1050 := hl
    have gl : F0.length ≤ (G ++ F0).length := by rw [List.length_append]; omega
    have p2 : τ1.2.2 30 2 = nI ((G ++ F0).length + 1) := p2
    have hs' : itn T m + suI T (G ++ F0) ≤ 3100 := hs
    refine T2_suc (fun k => by rw [x_giveBack]) (fun k => by rw [x_giveBack]) ?_
    refine T2_chk (by decide) (by decide) ?_
    rw [n2, o2, e66]
    refine T2_chk (n_in (by omega) (by omega)) (n_in (by omega) (by omega)) ?_
    rw [show (2 : Int32).toNatClampNeg = 2 from by decide, n_cl (p := 66 + 3 * l2) (by omega), row, row, EI_30 hJ (i := 2) (by unfold Zn; omega) (InA_4 (by omega)), EI_30 hJ (i := 66 + 3 * l2) (by unfold Zn; omega) (InA_cl ((FC_30 f1 (i := 1) (by unfold Zn; omega) (by omega)).trans h1c) (by omega) (by omega)), p2, FC_30 f1 (i := 66 + 3 * l2) (by unfold Zn; omega) (by omega), h66]
    refine T2_ite Iff.rfl (fun z _ => ?_) (fun _ _ => ?_)
    · have := (n_le (by omega) (by omega)).mp z
      omega
    obtain ⟨kk, hL⟩ := hG m (List.mem_cons_self ..)
    have cl := T2_59 (x := nI t) (T2_p29 (fun k => p29_closeFor k 0 (fun _ => 0) τ1 u1) (fun k => p29_closeFor k 0 (fun _ => 0) τ2 u2) (E_closeFor (m := m) (F := G ++ F0) (q := itn T m + suI T (G ++ F0)) (L1 := fun _ => 0) (L2 := fun _ => 0) (Sc1_fc hS f1 (fun i hi => by unfold Ict; omega)) hJ V1 V2 hl p2 pF p3 (by omega) hL))
    have q1 : (fun k => x_closeFor k 0 (fun _ => 0) (mSc τ1 59 (nI t))) = (fun k => o59 (nI t) (x_closeFor k 0 (fun _ => 0) τ1)) := funext (fun k => c59_closeFor k 0 _ τ1)
    have q2 : (fun k => x_closeFor k 0 (fun _ => 0) (mSc τ2 59 (nI t))) = (fun k => o59 (nI t) (x_closeFor k 0 (fun _ => 0) τ2)) := funext (fun k => c59_closeFor k 0 _ τ2)
    rw [← q1, ← q2] at cl
    refine T2_ob cl (fun r1 r2 hr => ?_)
    obtain ⟨s1, s2, e1, e2, ⟨c1, c2, c3, c4, c5, c6, c7, c8⟩, u1', u2'⟩ := hr
    rw [e1, e2]
    exact ih s1.2 s2.2 (by omega) (by omega) (fun m hm => hG m (List.mem_cons_of_mem _ hm)) c1 c2 c3 (FC_tr f1 c4) (FC_tr f2 c5) c6 (FSk_c (by omega) (fun i h1 h2 => FC_30 c4 (by unfold Zn; omega) (by omega)) pF.2) c7 (c8 (ItS_mo pit (show suI T (G ++ F0) ≤ itn T m + suI T (G ++ F0) by omega))) u1' u2'
end RET
section GVA
variable {T : Nat → Nat → Int32} {FN : Nat → Nat → Prop} {t w XC pr np ns n0 l2 un0 : Nat} {F0 G : List Nat} {σ1 σ2 : MS} {x y : Int32}
/-- a call gives back a value that lies above the top -/
theorem E_giveBackV (hXC : XC ≤ 402000) (ht : t + 9 + KBn T ≤ w + 17000) (hB : Bs T FN σ1) (hB' : Bs T FN σ2) (hI : EI (t + 1) w XC σ1 σ2) (U1 : UT σ1) (U2 : UT σ2) (hl : l2 < 50) (hc : σ1.2.2 30 1 = nI (l2 + 1)) (h64 : σ1.2.2 30 (64 + 3 * l2) = nI n0) (h65 : σ1.2.2 30 (65 + 3 * l2) = nI pr) (h66 : σ1.2.2 30 (66 + 3 * l2) = nI F0.length) (hn0 : (1 ≤ n0 ∧ n0 < LNo T % 70001)) (hpr : pr < CNo T % 42) (hnp : np ≤ 8) (hns : ns ≤ 60) (t18 : T 18 pr = nI np) (t21 : T 21 (1 + pr) = nI ns) (t20 : ∀ s, ns ≤ s → s < 60 → T 20 (60 * (1 + pr) + s) = 0) (hlen : (G ++ F0).length ≤ 1050) (hsum : suI T (G ++ F0) ≤ 3100) (hG : ∀ m ∈ G, ∃ kk, ItL T FN (lcU (1 + pr) T) (cnU (1 + pr) T) kk (T 5 m)) (h2 : σ1.2.2 30 2 = nI (G ++ F0).length) (hF : FSk T (σ1.2.2 30) (G ++ F0)) (h3 : σ1.2.2 30 3 = nI (suI T (G ++ F0))) (hIt : ItS σ1 (suI T (G ++ F0))) (hL0 : LvU (σ1.2.2 30) l2 un0) (hA : ArL T FN (lcU un0 T) (cnU un0 T) pr np 0 (T 6 n0)) (h5 : T 5 n0 = -1 ∨ TgN T FN (lcU un0 T) (cnU un0 T) (T 5 n0)) {L1 L2 : Nat → Int32} (d1 : L1 1 = σ1.2.2 29 t) (d2 : L2 1 = σ2.2.2 29 t) : T2 (fun k => x_giveBack k 0 L1 (mSc σ1 59 (nI t))) (fun k => x_giveBack k 0 L2 (mSc σ2 59 (nI t))) (fun r1 r2 => r1.1 = r2.1 ∧ FCt (fun i => i = 1 ∨ i = 2 ∨ i = 3) σ1 r1.2 ∧ FCt (fun i => i = 1 ∨ i = 2 ∨ i = 3) σ2 r2.2 ∧ UT r1.2 ∧ UT r2.2 ∧ ((r1.1 = nI n0 ∧ ∃ w', w ≤ w' ∧ EI t w' XC r1.2 r2.2 ∧ r1.2.2.2 30 1 = nI l2 ∧ r1.2.2.2 30 2 = nI F0.length ∧ r1.2.2.2 30 3 = nI (suI T F0) ∧ ItS r1.2 (suI T F0)) ∨ (r1.1 = -1 ∧ EZ t 179400 r1.2 ∧ EZ t 179400 r2.2))) := by
  have w6 := EI_w hI
  have lvc : LvU (σ1.2.2 30) (l2 + 1) (1 + pr) := Or.inr ⟨pr, by omega, rfl, by omega, by rw [Nat.add_sub_cancel]; exact h65⟩
  have hS := Sc1_lv hB hc (by omega) lvc
  have hS2 := Sc1_ei hS hI
  have s3 : suI T F0 ≤ 3100 := Nat.le_trans (suI_app (G := G)) hsum
  have k1 : σ2.2.2 30 1 = nI (l2 + 1) := (EI_30 hI (by unfold Zn; omega) (InA_4 (by omega))).trans hc
  have k64 : σ2.2.2 30 (64 + 3 * l2) = nI n0 := (EI_30 hI (by unfold Zn; omega) (InA_cl hc (by omega) (by omega))).trans h64
  have k65 : σ2.2.2 30 (65 + 3 * l2) = nI pr := (EI_30 hI (by unfold Zn; omega) (InA_cl hc (by omega) (by omega))).trans h65
  have e64 : (64 : Int32) + 3 * nI l2 = nI (64 + 3 * l2) := by
    rw [show (3 : Int32) * nI l2 = nI (3 * l2) from n_mulN 3 l2]; exact n_add (p := 64) (by omega)
  have e65 : nI (64 + 3 * l2) + 1 = nI (65 + 3 * l2) := by rw [n_add1]; congr 1; omega
  have row : ∀ (τ : MS) a, (mSc τ 59 (nI t)).2.2 a = τ.2.2 a := fun _ _ => rfl
  refine T2_suc (fun k => by rw [x_giveBack]) (fun k => by rw [x_giveBack]) ?_
  refine T2_chk (by decide) (by decide) ?_
  rw [show (1 : Int32).toNatClampNeg = 1 from by decide, row, row, hc, k1, n_sub1 (by omega), e64, e65]
  refine T2_chk (n_in (by omega) (by omega)) (n_in (by omega) (by omega)) ?_
  refine T2_chk (n_in (by omega) (by omega)) (n_in (by omega) (by omega)) ?_
  rw [n_cl (p := 64 + 3 * l2) (by omega), n_cl (p := 65 + 3 * l2) (by omega), h64, k64, h65, k65]
  refine E_gbCloseV (t := t) (l2 := l2) hl rfl rfl hS hS2 hc h66 (fun τ1 τ2 hJ V1 V2 f1 f2 p2 p3 pit u1 u2 => ?_) G σ1 σ2 hlen hsum hG hI U1 U2 FC_rf FC_rf h2 hF h3 hIt rfl rfl
  have B1 := Bs_fc hB f1
  have cc : τ1.2.2 30 1 = nI (l2 + 1) := by rw [FC_30 f1 (by unfold Zn; omega) (by omega)]; exact hc
  have c65 : τ1.2.2 30 (65 + 3 * l2) = nI pr := by rw [FC_30 f1 (by unfold Zn; omega) (by omega)]; exact h65
  obtain ⟨j1, j2⟩ := EI_59 hJ
  have b1 := mPu_back (τ := τ1) (t := t) (x := σ1.2.2 29 t) (y := nI t) j1 (by rw [u1])
  have b2 := mPu_back (τ := τ2) (t := t) (x := σ2.2.2 29 t) (y := nI t) j2 (by rw [u2])
  have hJ' : EI (t + 1) w XC (mPu (mSc τ1 59 (nI t)) t (σ1.2.2 29 t)) (mPu (mSc τ2 59 (nI t)) t (σ2.2.2 29 t)) := by rw [b1, b2]; exact hJ
  have fs : ∀ τ : MS, FSt τ (mSc τ 59 (nI t)) := fun τ => FS_sc (by omega)
  refine E_gbFrame (x := σ1.2.2 29 t) (y := σ2.2.2 29 t) (np := np) (ns := ns) (n0 := n0) (pr := pr) (by omega) (EI_dn (by omega) hJ) hJ' (UT_c V1 rfl rfl rfl rfl) (UT_c V2 rfl rfl rfl rfl) hl cc c65 (by omega) (STb_30 B1.1 hpr) (by omega) hns (by rw [row, B1.2.1 18 _ (by omega) (by omega) (by omega)]; exact t18) (by rw [row, B1.2.1 21 _ (by omega) (by omega) (by omega)]; exact t21) (fun s h1 h2 => by show kC τ1 _ = 0; rw [B1.2.2.2.2.2.2]; exact t20 s h1 h2) (by exact d1) (by exact d2) rfl rfl rfl rfl rfl rfl (fun ρ1 ρ2 M1 M2 q3 p3' q4 p4 q5 p5 hK W1 W2 g1 g2 a1 it => ?_)
  have g1 := FC_tr (FC_fs (I := fun i => i = 1) (fs τ1)) g1
  have g2 := FC_tr (FC_fs (I := fun i => i = 1) (fs τ2)) g2
  have B2 := Bs_fc B1 g1
  have B3 := Bs_fc (Bs_fc hB' f2) g2
  have lv0 : LvU (ρ1.2.2 30) l2 un0 := by
    rcases hL0 with z | ⟨p, z1, z2, z3, z4⟩
    · exact Or.inl z
    · refine Or.inr ⟨p, z1, z2, z3, ?_⟩
      rw [FC_30 g1 (by unfold Zn; omega) (by omega), FC_30 f1 (by unfold Zn; omega) (by omega)]; exact z4
  have S0 := Sc1_lv B2 a1 (by omega) lv0
  refine T2_mono (E_gbWrites hXC ht hn0 hpr hnp S0 (fun a i h => ⟨B2.2.1 a i (by omega) (by omega) (by omega), B3.2.1 a i (by omega) (by omega) (by omega)⟩) hK W1 W2 t18 hA h5 q3 p3' q4 p4 q5 p5) (fun r1 r2 hr => ?_)
  obtain ⟨c1, c2, c3, c4, c5, c6⟩ := hr
  have F1 : FCt (fun i => i = 1 ∨ i = 2 ∨ i = 3) σ1 r1.2 := FC_tr (FC_mo (fun i hi => Or.inr hi) f1) (FC_tr (FC_mo (fun i hi => Or.inl hi) g1) (FC_fs c2))
  have F2 : FCt (fun i => i = 1 ∨ i = 2 ∨ i = 3) σ2 r2.2 := FC_tr (FC_mo (fun i hi => Or.inr hi) f2) (FC_tr (FC_mo (fun i hi => Or.inl hi) g2) (FC_fs c3))
  refine ⟨c1, F1, F2, c4, c5, c6.imp (fun ⟨z, w', hw, hE⟩ => ⟨z, w', hw, hE, ?_, ?_, ?_, ?_⟩) id⟩
  · rw [c2.2.1 30 1 (by unfold AlR; omega) (by unfold Zn; omega) (by omega)]; exact a1
  · rw [c2.2.1 30 2 (by unfold AlR; omega) (by unfold Zn; omega) (by omega), FC_30 g1 (by unfold Zn; omega) (by omega)]; exact p2
  · rw [c2.2.1 30 3 (by unfold AlR; omega) (by unfold Zn; omega) (by omega), FC_30 g1 (by unfold Zn; omega) (by omega)]; exact p3
  · have z3 : ρ1.2.2 30 3 = nI (suI T F0) := by rw [FC_30 g1 (by unfold Zn; omega) (by omega)]; exact p3
    exact ItS_fs c2 z3 s3 (Nat.le_refl _) (it _ s3 pit)
end GVA
section RTN
variable {T : Nat → Nat → Int32} {FN : Nat → Nat → Prop} {S : Nat → Nat → Nat → Nat → Prop} {t w XC : Nat} {τ1 τ2 σ1 σ2 : MS}
theorem FSk_ap {A : Nat → Int32} {F0 : List Nat} : ∀ {G : List Nat}, FSk T A (G ++ F0) → FSk T A F0
  | [], h => h
  | _ :: G, h => FSk_ap (G := G) h.2
/-- the call that a statement of a procedure lies in -/
theorem Pos_ca (hW : SWf T FN S) {c un d v n : Nat} {F : List Nat} {ρ : MS} (hP : Pos T S c un d v n F ρ) (hun : ¬ un = 0) : ∃ j pr un0 d0 v0 n0 F0 np ns, c = j + 1 ∧ un = 1 + pr ∧ pr < CNo T % 42 ∧ (1 ≤ n0 ∧ n0 < LNo T % 70001) ∧ np ≤ 8 ∧ ns ≤ 60 ∧ T 18 pr = nI np ∧ T 21 (1 + pr) = nI ns ∧ (∀ s, ns ≤ s → s < 60 → T 20 (60 * (1 + pr) + s) = 0) ∧ ArL T FN (lcU un0 T) (cnU un0 T) pr np 0 (T 6 n0) ∧ (T 5 n0 = -1 ∨ TgN T FN (lcU un0 T) (cnU un0 T) (T 5 n0)) ∧ F = fls T d n ++ F0 ∧ (∀ m ∈ fls T d n, ∃ kk, ItL T FN (lcU (1 + pr) T) (cnU (1 + pr) T) kk (T 5 m)) ∧ ρ.2.2 30 (64 + 3 * j) = nI n0 ∧ ρ.2.2 30 (65 + 3 * j) = nI pr ∧ ρ.2.2 30 (66 + 3 * j) = nI F0.length ∧ LVs T S (ρ.2.2 30) j un0 d0 v0 n0 F0 := by
  obtain ⟨h1, h2, hLV, h4, _⟩ := id hP
  cases c with
  | zero => exact absurd hLV.1 hun
  | succ j =>
    obtain ⟨hS, pr, un0, d0, v0, n0, F0, g1, g2, g3, g4, g5, g6, g7, g8, g9⟩ := hLV
    obtain ⟨⟨a1, _, a3, _⟩, _, _, _, _, h45⟩ := hW un0 d0 v0 n0 (LVs_S g9)
    obtain ⟨pr', np, ns, y1, y2, y3, y4, y5, y6, y7, y8, y9⟩ := h45 g6
    have epr : pr' = pr := (n_eq (by omega) (by omega)).mp (y2.symm.trans g7)
    subst epr
    subst g1
    exact ⟨j, pr', un0, d0, v0, n0, F0, np, ns, rfl, rfl, y1, a1, y4, y6, y3, y5, y7, y8, y9, g8, (fls_b hW hS).2.2, g3, g4, g5, g9⟩
/-- return -/
theorem E_returns (hW : SWf T FN S) (hXC : XC ≤ 401000) (ht : t + 9 + KBn T ≤ w + 17000) {c un d v n w' : Nat} {F : List Nat} (hw : w ≤ w') (hM : Mid T FN S t w' XC σ1 σ2 τ1 τ2) (hP : Pos T S c un d v n F τ1) (hun : ¬ un = 0) (h5 : T 5 n = -1 ∨ Wx0 T FN (lcU un T) (T 5 n)) {L1 L2 : Nat → Int32} (d1 : L1 1 = nI n) (d2 : L2 1 = nI n) : T2 (fun k => x_returns k 0 L1 τ1) (fun k => x_returns k 0 L2 τ2) (fun r1 r2 => OuQ T FN S t w XC σ1 σ2 r1.2 r2.2) := by
  obtain ⟨hE, U1, U2, B1, B2, kp⟩ := id hM
  have w6 := EI_w hE
  obtain ⟨_, _, ⟨n7, _, _⟩, pb3, pb4⟩ := Pos_b hW hP
  have hSc := Pos_sc B1 hP
  have fin4 : ∀ (s1 s2 : MS) (K1 K2 : Nat → Int32), OuQ T FN S t w XC σ1 σ2 s1 s2 → T2 (fun k => x_returns k 4 K1 s1) (fun k => x_returns k 4 K2 s2) (fun r1 r2 => OuQ T FN S t w XC σ1 σ2 r1.2 r2.2) := fun s1 s2 K1 K2 h => T2_suc (fun k => by rw [x_returns]) (fun k => by rw [x_returns]) (T2_some h)
  -- behind giveBack
  have back : ∀ (t0 w2 j un0 d0 v0 n0 : Nat) (F0 : List Nat) (ρ1 ρ2 : MS) (r1 r2 : Int32 × MS) (K1 K2 : Nat → Int32), w ≤ w2 → Mid T FN S t0 w2 XC σ1 σ2 ρ1 ρ2 → j < 50 → LVs T S (ρ1.2.2 30) j un0 d0 v0 n0 F0 → FSk T (ρ1.2.2 30) F0 → F0.length ≤ 1050 → (r1.1 = r2.1 ∧ FCt (fun i => i = 1 ∨ i = 2 ∨ i = 3) ρ1 r1.2 ∧ FCt (fun i => i = 1 ∨ i = 2 ∨ i = 3) ρ2 r2.2 ∧ UT r1.2 ∧ UT r2.2 ∧ ((r1.1 = nI n0 ∧ ∃ w', w2 ≤ w' ∧ EI t w' XC r1.2 r2.2 ∧ r1.2.2.2 30 1 = nI j ∧ r1.2.2.2 30 2 = nI F0.length ∧ r1.2.2.2 30 3 = nI (suI T F0) ∧ ItS r1.2 (suI T F0)) ∨ (r1.1 = -1 ∧ EZ t 179400 r1.2 ∧ EZ t 179400 r2.2))) → T2 (fun k => ob (x_goOnBehind k 0 (upd (fun _ => 0) 1 r1.1) r1.2) (fun r3 => x_returns k 4 K1 r3.2)) (fun k => ob (x_goOnBehind k 0 (upd (fun _ => 0) 1 r2.1) r2.2) (fun r3 => x_returns k 4 K2 r3.2)) (fun r1 r2 => OuQ T FN S t w XC σ1 σ2 r1.2 r2.2) := by
    intro t0 w2 j un0 d0 v0 n0 F0 ρ1 ρ2 r1 r2 K1 K2 hw2 hK hj hL0 hF0 hl0 hp
    obtain ⟨c1, c2, c3, c4, c5, c6⟩ := hp
    rcases c6 with ⟨z1, w3, hw3, hJ, k1, k2, k3, k4⟩ | ⟨z1, z2, z3⟩
    · refine T2_ob (E_goOnBehind hW hXC ht (Nat.le_trans hw2 hw3) (Mid_fc hK c2 c3 hJ c4 c5) ⟨by omega, k1, LVs_c (by omega) (fun i h1 h2 => FC_30 c2 (by unfold Zn; omega) (by omega)) hL0, k2, FSk_c hl0 (fun i h1 h2 => FC_30 c2 (by unfold Zn; omega) (by omega)) hF0, k3, k4⟩ (by exact z1) (by exact c1.symm.trans z1)) (fun s1 s2 hs => fin4 _ _ _ _ hs)
    · refine T2_ob (T2_t (s_gobM (by exact z1)) (s_gobM (by exact c1.symm.trans z1))) (fun s1 s2 hs => ?_)
      rw [hs.1, hs.2]
      exact fin4 _ _ _ _ (OuQ_z hK c2 c3 c4 c5 (Nat.le_refl _) z2 z3)
  refine T2_suc (fun k => by rw [x_returns]) (fun k => by rw [x_returns]) ?_
  rw [d1, d2]
  refine T2_chk (n_in (by omega) (by omega)) (n_in (by omega) (by omega)) ?_
  rw [n_cl (p := n) (by omega), B1.1.1 5 _ (by omega) (by omega) (by omega), B2.1.1 5 _ (by omega) (by omega) (by omega)]
  refine T2_ite Iff.rfl (fun z5 _ => ?_) (fun z5 _ => ?_)
  · -- no value
    obtain ⟨e1, e2⟩ := EI_e hE
    obtain ⟨j, pr, un0, d0, v0, n0, F0, np, ns, ec, eun, a1, a2, a3, a4, a5, a6, a7, a8, a9, eF, a10, a11, a12, a13, a14⟩ := Pos_ca hW hP hun
    obtain ⟨hc5, hc, _, h2, hF, h3, hIt⟩ := id hP
    subst ec
    rw [eF] at h2 hF h3 hIt pb3 pb4
    have fl : F0.length ≤ (fls T d n ++ F0).length := by rw [List.length_append]; omega
    refine T2_suc (fun k => by rw [x_returns]) (fun k => by rw [x_returns]) ?_
    rw [e1, e2]
    refine T2_ite Iff.rfl (fun _ _ => ?_) (fun z _ => absurd rfl z)
    refine T2_ob (E_giveBack (x := 0) (y := 0) (G := fls T d n) (F0 := F0) (l2 := j) (n0 := n0) (un0 := un0) (by omega) (by omega) B1 B2 hE U1 U2 (by omega) hc a11 a12 a13 a2 a1 a3 a4 a5 a6 a7 (by omega) (by omega) a10 h2 hF h3 hIt (LVs_u a14) a8 a9 (fun ρ1 ρ2 hJ _ _ => EI_pu0 (by omega) hJ) rfl rfl) (fun r1 r2 hr => ?_)
    exact back t w' j un0 d0 v0 n0 F0 τ1 τ2 r1 r2 _ _ hw hM (by omega) a14 (FSk_ap hF) (by omega) hr
  · refine T2_chk (n_in3 (by omega) (by omega)) (n_in3 (by omega) (by omega)) ?_
    refine T2_ob (E_eval (by omega) (by omega) hSc.1 (h5.resolve_left z5) hE rfl rfl) (fun r1 r2 hr => ?_)
    obtain ⟨f1, f2, hr⟩ := hr
    have V1 := UT_fe f1 U1
    have V2 := UT_fe f2 U2
    rcases hr with ⟨w2, hw2, hJ⟩ | ⟨z1, z2⟩
    · obtain ⟨e1, e2⟩ := EI_e hJ
      obtain ⟨t1, t2⟩ := EI_59 hJ
      have hK : Mid T FN S (t + 1) w2 XC σ1 σ2 r1.2 r2.2 := Mid_fc (I := fun _ => False) hM (FC_fe f1) (FC_fe f2) hJ V1 V2
      have hP' := Pos_fs hW (FS_fe f1) hP
      obtain ⟨j, pr, un0, d0, v0, n0, F0, np, ns, ec, eun, a1, a2, a3, a4, a5, a6, a7, a8, a9, eF, a10, a11, a12, a13, a14⟩ := Pos_ca hW hP' hun
      obtain ⟨hc5, hc, _, h2, hF, h3, hIt⟩ := id hP'
      subst ec
      rw [eF] at h2 hF h3 hIt pb3 pb4
      have fl : F0.length ≤ (fls T d n ++ F0).length := by rw [List.length_append]; omega
      rw [e1, e2]
      refine T2_ite Iff.rfl (fun _ _ => ?_) (fun z _ => absurd (by decide) z)
      refine T2_suc (fun k => by rw [x_returns]) (fun k => by rw [x_returns]) ?_
      refine T2_ob (T2_t (s_pop t1 (by omega) _) (s_pop t2 (by omega) _)) (fun s1 s2 hs => ?_)
      rw [hs.1, hs.2]
      refine T2_suc (fun k => by rw [x_returns]) (fun k => by rw [x_returns]) ?_
      refine T2_suc (fun k => by rw [x_returns]) (fun k => by rw [x_returns]) ?_
      have x1 : (mSc r1.2 59 (nI t)).1 56 = 0 := e1
      have x2 : (mSc r2.2 59 (nI t)).1 56 = 0 := e2
      rw [x1, x2]
      refine T2_ite Iff.rfl (fun _ _ => ?_) (fun z _ => absurd rfl z)
      refine T2_ob (E_giveBackV (G := fls T d n) (F0 := F0) (l2 := j) (n0 := n0) (un0 := un0) (by omega) (by omega) hK.2.2.2.1 hK.2.2.2.2.1 hJ V1 V2 (by omega) hc a11 a12 a13 a2 a1 a3 a4 a5 a6 a7 (by omega) (by omega) a10 h2 hF h3 hIt (LVs_u a14) a8 a9 rfl rfl) (fun s1 s2 hs => ?_)
      exact back (t + 1) w2 j un0 d0 v0 n0 F0 r1.2 r2.2 s1 s2 _ _ (Nat.le_trans hw hw2) hK (by omega) a14 (FSk_ap hF) (by omega) hs
    · refine T2_ite ⟨fun z => absurd z (EZ_le z1), fun z => absurd z (EZ_le z2)⟩ (fun z _ => absurd z (EZ_le z1)) (fun _ _ => ?_)
      refine T2_suc (fun k => by rw [x_returns]) (fun k => by rw [x_returns]) ?_
      refine T2_suc (fun k => by rw [x_returns]) (fun k => by rw [x_returns]) ?_
      refine T2_ite ⟨fun z => absurd z (EZ_e z1), fun z => absurd z (EZ_e z2)⟩ (fun z _ => absurd z (EZ_e z1)) (fun _ _ => ?_)
      exact fin4 _ _ _ _ (OuQ_z (I := fun _ => False) hM (FC_fe f1) (FC_fe f2) V1 V2 (by omega) z1 z2)
end RTN

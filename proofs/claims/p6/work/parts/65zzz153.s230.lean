/-! Statements on both sides (reference): evaluation, targets and their keys. -/
/-- what a statement stands on: tables, nothing open -/
def Sc0 (T : Nat → Nat → Int32) (FN : Nat → Nat → Prop) (lc : Nat → Prop) (σ : MS) : Prop := STb T FN σ ∧ Cx lc 0 0 0 σ
/-- what a statement evaluates -/
def Wx0 (T : Nat → Nat → Int32) (FN : Nat → Nat → Prop) (lc : Nat → Prop) (x : Int32) : Prop := ∃ O K, O ≤ 20 ∧ K ≤ 60 ∧ ∃ F, WN T FN F 0 O 14 K lc x
section SEV
variable {T : Nat → Nat → Int32} {FN : Nat → Nat → Prop} {lc : Nat → Prop} {t w XC : Nat} {σ σ1 σ2 ρ : MS} {x : Int32}
theorem Sc0_fe {N : Nat → Nat → Prop} (h : Sc0 T FN lc σ) (hF : FEn N σ ρ) : Sc0 T FN lc ρ := ⟨STb_fe h.1 hF, Cx_fe h.2 hF⟩
theorem Sc0_ei (h : Sc0 T FN lc σ1) (hE : EI t w XC σ1 σ2) : Sc0 T FN lc σ2 := by
  obtain ⟨g1, l1, B1, h1, X1, g2, l2, B2, h2, X2, _, _, hR, _⟩ := hE
  exact ⟨STb_ra hR h.1, Cx_ra hR h.2⟩
theorem PC_st {O K d : Nat} (hX : XC ≤ 402000) (hO : O ≤ 20) (hK : K ≤ 60) (ht : t ≤ w + 17000) (hd : 1214 ≤ d ∧ d ≤ 1300) (hw : w ≤ 60000) (hS : Sc0 T FN lc σ1) : PC T FN O 14 K lc d t w XC σ1 := ⟨hS.1, by omega, hO, by omega, ⟨by omega, by omega⟩, by omega, hw, 0, 0, 0, hS.2, by omega, by omega, by omega⟩
theorem E_eval (hX : XC ≤ 402000) (ht : t ≤ w + 17000) (hS : Sc0 T FN lc σ1) (hW : Wx0 T FN lc x) (hI : EI t w XC σ1 σ2) {L1 L2 : Nat → Int32} (d1 : L1 1 = x) (d2 : L2 1 = x) : T2 (fun k => x_eval k 0 L1 σ1) (fun k => x_eval k 0 L2 σ2) (EQ 179300 t w XC σ1 σ2) := by
  obtain ⟨O, K, hO, hK, F, hW⟩ := hW
  exact PE_all 1300 F O 14 K lc x t w XC σ1 σ2 L1 L2 hW (PC_st hX hO hK ht (by omega) (EI_w hI) hS) hI d1 d2
theorem E_hold (hX : XC ≤ 402000) (ht : t ≤ w + 17000) (hS : Sc0 T FN lc σ1) (hW : Wx0 T FN lc x) (hI : EI t w XC σ1 σ2) {L1 L2 : Nat → Int32} (d1 : L1 1 = x) (d2 : L2 1 = x) : T2 (fun k => x_holds k 0 L1 σ1) (fun k => x_holds k 0 L2 σ2) (fun r1 r2 => r1.1 = r2.1 ∧ FE σ1 r1.2 ∧ FE σ2 r2.2 ∧ ((∃ w', w ≤ w' ∧ EI t w' XC r1.2 r2.2) ∨ (EZ t 179300 r1.2 ∧ EZ t 179300 r2.2 ∧ r1.1 = 0))) := by
  obtain ⟨O, K, hO, hK, F, hW⟩ := hW
  refine T2_mono (b_holds (d := 1299) (PE_all 1299) hW (PC_st hX hO hK ht (by omega) (EI_w hI) hS) hI d1 d2) (fun r1 r2 hr => ?_)
  obtain ⟨a1, a2, a3, a4⟩ := hr
  exact ⟨a1, a2, a3, a4.imp id (fun z => ⟨EZ_mo z.1 (Nat.le_refl _) (by omega), EZ_mo z.2.1 (Nat.le_refl _) (by omega), z.2.2⟩)⟩
end SEV
/-- a target: a variable and its parts -/
def Tgt (T : Nat → Nat → Int32) (FN : Nat → Nat → Prop) (lc : Nat → Prop) (k : Nat) (ch : Nat → Nat) : Prop := (∀ i, i ≤ k → (1 ≤ ch i ∧ ch i < LNo T % 70001)) ∧ (T 4 (ch 0) = 7 ∧ ∃ s, T 6 (ch 0) = nI s ∧ s < 60 ∧ (T 5 (ch 0) = 0 ∨ lc 0)) ∧ ∀ i, i < k → T 6 (ch (i + 1)) = nI (ch i) ∧ T 9 (ch i) = nI (ch (i + 1)) ∧ (T 4 (ch (i + 1)) = 21 ∨ T 4 (ch (i + 1)) = 22 ∨ T 4 (ch (i + 1)) = 23) ∧ Wx0 T FN lc (T 7 (ch (i + 1))) ∧ (T 4 (ch (i + 1)) = 22 → Wx0 T FN lc (T 8 (ch (i + 1))))
/-- how many keys its first i parts have -/
def kys (T : Nat → Nat → Int32) (ch : Nat → Nat) : Nat → Nat
  | 0 => 0
  | i + 1 => kys T ch i + (if T 4 (ch (i + 1)) = 22 then 2 else 1)
section TGS
variable {T : Nat → Nat → Int32} {FN : Nat → Nat → Prop} {lc : Nat → Prop} {t w XC k : Nat} {σ σ1 σ2 ρ : MS} {x : Int32} {ch : Nat → Nat}
theorem kys_mo : ∀ {i j : Nat}, i ≤ j → kys T ch i ≤ kys T ch j := by
  intro i j h
  induction j with
  | zero => rw [show i = 0 by omega]; exact Nat.le_refl _
  | succ j ih =>
    by_cases c : i = j + 1
    · rw [c]; exact Nat.le_refl _
    · have := ih (by omega)
      show kys T ch i ≤ kys T ch j + (if T 4 (ch (j + 1)) = 22 then 2 else 1)
      omega
theorem kys_ge : ∀ {i : Nat}, i ≤ kys T ch i := by
  intro i
  induction i with
  | zero => exact Nat.le_refl _
  | succ i ih =>
    unfold kys
    split
    · omega
    · omega
theorem Tgt_7 (h : Tgt T FN lc k ch) {i : Nat} (h1 : 1 ≤ i) (hi : i ≤ k) : ¬ T 4 (ch i) = 7 := by
  obtain ⟨j, rfl⟩ : ∃ j, i = j + 1 := ⟨i - 1, by omega⟩
  rcases (h.2.2 j (by omega)).2.2.1 with z | z | z <;> (rw [z]; decide)
theorem Tgt_inj (h : Tgt T FN lc k ch) : ∀ i j, i < j → j ≤ k → ¬ ch i = ch j := by
  intro i
  induction i with
  | zero =>
    intro j h1 h2 e
    exact Tgt_7 h h1 h2 (by rw [← e]; exact h.2.1.1)
  | succ i ih =>
    intro j h1 h2 e
    obtain ⟨j, rfl⟩ : ∃ q, j = q + 1 := ⟨j - 1, by omega⟩
    have a := (h.2.2 i (by omega)).1
    have b := (h.2.2 j (by omega)).1
    rw [e, b] at a
    have b1 := h.1 i (by omega)
    have b2 := h.1 j (by omega)
    exact ih j (by omega) (by omega) ((n_eq (by omega) (by omega)).mp a).symm
theorem Tgt_eq (h : Tgt T FN lc k ch) {i : Nat} (hi : i ≤ k) : nI (ch i) = nI (ch k) ↔ i = k := by
  have b1 := h.1 i hi
  have b2 := h.1 k (Nat.le_refl _)
  rw [n_eq (by omega) (by omega)]
  constructor
  · intro e
    by_cases c : i = k
    · exact c
    · exact absurd e (Tgt_inj h i k (by omega) (Nat.le_refl _))
  · intro e; rw [e]
theorem s_nameOf (h : Tgt T FN lc k ch) (r4 : ∀ i, (1 ≤ i ∧ i < LNo T % 70001) → σ.2.2 4 i = T 4 i) (r6 : ∀ i, (1 ≤ i ∧ i < LNo T % 70001) → σ.2.2 6 i = T 6 i) {L : Nat → Int32} (d : L 1 = nI (ch k)) : Tm (fun n => x_nameOf n 0 L σ) (fun r => r = (nI (ch 0), σ)) := by
  have lp : ∀ i, i ≤ k → ∀ N : Nat → Int32, N 2 = nI (ch i) → Tm (fun n => x_nameOf n 1 N σ) (fun r => r = (nI (ch 0), σ)) := by
    intro i
    induction i with
    | zero =>
      intro _ N e
      have b := h.1 0 (by omega)
      refine Tm_suc (fun n => by rw [x_nameOf]) ?_
      rw [e]
      refine Tm_chk (n_in (by omega) (by omega)) ?_
      rw [n_cl (p := ch 0) (by omega), r4 _ (by omega)]
      refine Tm_ite (fun _ => ?_) (fun z => absurd h.2.1.1 z)
      refine Tm_suc (fun n => by rw [x_nameOf]) ?_
      rw [e]
      exact Tm_some rfl
    | succ i ih =>
      intro hi N e
      have b := h.1 (i + 1) hi
      refine Tm_suc (fun n => by rw [x_nameOf]) ?_
      rw [e]
      refine Tm_chk (n_in (by omega) (by omega)) ?_
      rw [n_cl (p := ch (i + 1)) (by omega), r4 _ (by omega)]
      refine Tm_ite (fun z => absurd z (Tgt_7 h (by omega) hi)) (fun _ => ?_)
      refine Tm_chk (n_in3 (by omega) (by omega)) ?_
      rw [r6 _ (by omega), (h.2.2 i (by omega)).1]
      exact ih (by omega) _ rfl
  refine Tm_suc (fun n => by rw [x_nameOf]) ?_
  exact lp k (Nat.le_refl _) _ d
theorem s_keysOf {L : Nat → Int32} : Tm (fun n => x_keysOf n 0 L σ) (fun r => r = ((if L 0 = 7 then 0 else if L 0 = 22 then 2 else 1), σ)) := by
  refine Tm_suc (fun n => by rw [x_keysOf]) ?_
  refine Tm_ite (fun z => ?_) (fun z => ?_)
  · refine Tm_suc (fun n => by rw [x_keysOf]) ?_
    exact Tm_some (by rw [if_pos z]; rfl)
  refine Tm_suc (fun n => by rw [x_keysOf]) ?_
  refine Tm_ite (fun y => ?_) (fun y => ?_)
  · refine Tm_suc (fun n => by rw [x_keysOf]) ?_
    exact Tm_some (by rw [if_neg z, if_pos y]; rfl)
  refine Tm_suc (fun n => by rw [x_keysOf]) ?_
  refine Tm_suc (fun n => by rw [x_keysOf]) ?_
  exact Tm_some (by rw [if_neg z, if_neg y]; rfl)
/-- keys of one part -/
theorem s_keysP (h : Tgt T FN lc k ch) {i : Nat} (hi : i < k) {L : Nat → Int32} (d : L 0 = T 4 (ch (i + 1))) : Tm (fun n => x_keysOf n 0 L σ) (fun r => r = (nI (if T 4 (ch (i + 1)) = 22 then 2 else 1), σ)) := by
  refine Tm_mono s_keysOf (fun r hr => ?_)
  rw [hr, d, if_neg (Tgt_7 h (by omega) (by omega))]
  by_cases c : T 4 (ch (i + 1)) = 22
  · rw [if_pos c, if_pos c]; rfl
  · rw [if_neg c, if_neg c]; rfl
theorem s_keysIn (h : Tgt T FN lc k ch) (r4 : ∀ i, (1 ≤ i ∧ i < LNo T % 70001) → σ.2.2 4 i = T 4 i) (r6 : ∀ i, (1 ≤ i ∧ i < LNo T % 70001) → σ.2.2 6 i = T 6 i) (hk : kys T ch k ≤ 100000) {L : Nat → Int32} (d : L 1 = nI (ch k)) : Tm (fun n => x_keysIn n 0 L σ) (fun r => r = (nI (kys T ch k), σ)) := by
  have lp : ∀ i, i ≤ k → ∀ (a : Nat) (N : Nat → Int32), a + kys T ch i ≤ 200000 → N 2 = nI a → N 3 = nI (ch i) → Tm (fun n => x_keysIn n 1 N σ) (fun r => r = (nI (a + kys T ch i), σ)) := by
    intro i
    induction i with
    | zero =>
      intro _ a N ha e2 e
      have b := h.1 0 (by omega)
      refine Tm_suc (fun n => by rw [x_keysIn]) ?_
      rw [e]
      refine Tm_chk (n_in (by omega) (by omega)) ?_
      rw [n_cl (p := ch 0) (by omega), r4 _ (by omega)]
      refine Tm_ite (fun _ => ?_) (fun z => absurd h.2.1.1 z)
      refine Tm_suc (fun n => by rw [x_keysIn]) ?_
      rw [e2]
      exact Tm_some rfl
    | succ i ih =>
      intro hi a N ha e2 e
      have b := h.1 (i + 1) hi
      refine Tm_suc (fun n => by rw [x_keysIn]) ?_
      rw [e, e2]
      refine Tm_chk (n_in (by omega) (by omega)) ?_
      rw [n_cl (p := ch (i + 1)) (by omega), r4 _ (by omega)]
      refine Tm_ite (fun z => absurd z (Tgt_7 h (by omega) hi)) (fun _ => ?_)
      refine Tm_chk (n_in3 (by omega) (by omega)) ?_
      refine Tm_ob (s_keysP h (by omega) rfl) (fun r hr => ?_)
      rw [hr]
      refine Tm_chk (n_in3 (by omega) (by omega)) ?_
      have ek : kys T ch (i + 1) = kys T ch i + (if T 4 (ch (i + 1)) = 22 then 2 else 1) := rfl
      have es : a + kys T ch (i + 1) = (a + (if T 4 (ch (i + 1)) = 22 then 2 else 1)) + kys T ch i := by omega
      rw [es] at ha ⊢
      have e22 : (if T 4 (ch (i + 1)) = 22 then 2 else 1) ≤ 2 := by split <;> omega
      show Tm (fun n => x_keysIn n 1 (upd (upd N 2 (nI a + nI (if T 4 (ch (i + 1)) = 22 then 2 else 1))) 3 (σ.2.2 6 (ch (i + 1)))) σ) _
      rw [n_add (p := a) (by omega), r6 _ (by omega), (h.2.2 i (by omega)).1]
      exact ih (by omega) _ _ (by omega) rfl rfl
  refine Tm_suc (fun n => by rw [x_keysIn]) ?_
  refine Tm_mono (lp k (Nat.le_refl _) 0 _ (by omega) rfl d) (fun r hr => ?_)
  rw [hr, Nat.zero_add]
/-- the keys are worked out -/
theorem E_workParts (hX : XC ≤ 402000) (h : Tgt T FN lc k ch) (ht : t + kys T ch k ≤ w + 17000) (hS : Sc0 T FN lc σ1) (hI : EI t w XC σ1 σ2) {L1 L2 : Nat → Int32} (d1 : L1 1 = nI (ch k)) (d2 : L2 1 = nI (ch k)) : T2 (fun n => x_workParts n 0 L1 σ1) (fun n => x_workParts n 0 L2 σ2) (fun r1 r2 => FE σ1 r1.2 ∧ FE σ2 r2.2 ∧ ((∃ w', w ≤ w' ∧ EI (t + kys T ch k) w' XC r1.2 r2.2) ∨ (EZ t 179300 r1.2 ∧ EZ t 179300 r2.2))) := by
  have hS2 := Sc0_ei hS hI
  have tb : ∀ (τ1 τ2 : MS), FE σ1 τ1 → FE σ2 τ2 → ∀ a i, 4 ≤ a → a ≤ 9 → (1 ≤ i ∧ i < LNo T % 70001) → τ1.2.2 a i = T a i ∧ τ2.2.2 a i = T a i := fun τ1 τ2 f1 f2 a i h1 h2 h3 => ⟨(STb_fe hS.1 f1).1 a i h1 (by omega) ⟨fun _ => h3, fun z => by omega⟩, (STb_fe hS2.1 f2).1 a i h1 (by omega) ⟨fun _ => h3, fun z => by omega⟩⟩
  have wend : ∀ (τ : MS) (N : Nat → Int32), ¬ τ.1 56 = 0 → Tm (fun n => x_workParts n 1 N τ) (fun r => r = (0, τ)) := fun τ N he => by
    have fin : Tm (fun n => x_workParts n 2 N τ) (fun r => r = (0, τ)) := Tm_suc (fun n => by rw [x_workParts]) (Tm_some rfl)
    refine Tm_suc (fun n => by rw [x_workParts]) ?_
    exact Tm_ite (fun _ => fin) (fun _ => Tm_ite (fun z => absurd z he) (fun _ => fin))
  have zend : ∀ (τ1 τ2 : MS) (N1 N2 : Nat → Int32) (a : Nat), t ≤ a → FE σ1 τ1 → FE σ2 τ2 → EZ a 179300 τ1 → EZ a 179300 τ2 → T2 (fun n => x_workParts n 1 N1 τ1) (fun n => x_workParts n 1 N2 τ2) (fun r1 r2 => FE σ1 r1.2 ∧ FE σ2 r2.2 ∧ ((∃ w', w ≤ w' ∧ EI (t + kys T ch k) w' XC r1.2 r2.2) ∨ (EZ t 179300 r1.2 ∧ EZ t 179300 r2.2))) := fun τ1 τ2 N1 N2 a ha f1 f2 z1 z2 => by
    refine T2_mono (T2_t (wend τ1 N1 (EZ_e z1)) (wend τ2 N2 (EZ_e z2))) (fun r1 r2 hr => ?_)
    rw [hr.1, hr.2]
    exact ⟨f1, f2, Or.inr ⟨EZ_mo z1 ha (Nat.le_refl _), EZ_mo z2 ha (Nat.le_refl _)⟩⟩
  have lp : ∀ (q i : Nat), q + i = k → ∀ (w' : Nat) (τ1 τ2 : MS) (N1 N2 : Nat → Int32), w ≤ w' → FE σ1 τ1 → FE σ2 τ2 → EI (t + kys T ch i) w' XC τ1 τ2 → N1 1 = nI (ch k) → N2 1 = nI (ch k) → N1 2 = nI (ch i) → N2 2 = nI (ch i) → T2 (fun n => x_workParts n 1 N1 τ1) (fun n => x_workParts n 1 N2 τ2) (fun r1 r2 => FE σ1 r1.2 ∧ FE σ2 r2.2 ∧ ((∃ w', w ≤ w' ∧ EI (t + kys T ch k) w' XC r1.2 r2.2) ∨ (EZ t 179300 r1.2 ∧ EZ t 179300 r2.2))) := by
    intro q
    induction q with
    | zero =>
      intro i hi w' τ1 τ2 N1 N2 hw f1 f2 hJ a1 a2 b1 b2
      have e : i = k := by omega
      subst e
      refine T2_suc (fun n => by rw [x_workParts]) (fun n => by rw [x_workParts]) ?_
      rw [a1, a2, b1, b2]
      refine T2_ite Iff.rfl (fun _ _ => ?_) (fun z _ => absurd rfl z)
      refine T2_suc (fun n => by rw [x_workParts]) (fun n => by rw [x_workParts]) ?_
      exact T2_some ⟨f1, f2, Or.inl ⟨w', hw, hJ⟩⟩
    | succ q ih =>
      intro i hi w' τ1 τ2 N1 N2 hw f1 f2 hJ a1 a2 b1 b2
      have bi := h.1 i (by omega)
      have bj := h.1 (i + 1) (by omega)
      have km := kys_mo (T := T) (ch := ch) (i := i + 1) (j := k) (by omega)
      have ek : kys T ch (i + 1) = kys T ch i + (if T 4 (ch (i + 1)) = 22 then 2 else 1) := rfl
      obtain ⟨c6, c9, c4, c7, c8⟩ := h.2.2 i (by omega)
      obtain ⟨e1, e2⟩ := EI_e hJ
      refine T2_suc (fun n => by rw [x_workParts]) (fun n => by rw [x_workParts]) ?_
      rw [a1, a2, b1, b2, e1, e2]
      refine T2_ite Iff.rfl (fun z _ => absurd ((Tgt_eq h (by omega)).mp z) (by omega)) (fun _ _ => ?_)
      refine T2_ite Iff.rfl (fun _ _ => ?_) (fun z _ => absurd rfl z)
      refine T2_chk (n_in (by omega) (by omega)) (n_in (by omega) (by omega)) ?_
      rw [n_cl (p := ch i) (by omega), (tb τ1 τ2 f1 f2 9 _ (by omega) (by omega) (by omega)).1, (tb τ1 τ2 f1 f2 9 _ (by omega) (by omega) (by omega)).2, c9]
      refine T2_chk (n_in (by omega) (by omega)) (n_in (by omega) (by omega)) ?_
      rw [n_cl (p := ch (i + 1)) (by omega), (tb τ1 τ2 f1 f2 7 _ (by omega) (by omega) (by omega)).1, (tb τ1 τ2 f1 f2 7 _ (by omega) (by omega) (by omega)).2]
      have k12 : 1 ≤ (if T 4 (ch (i + 1)) = 22 then 2 else 1) := by split <;> omega
      refine T2_ob (E_eval hX (by omega) (Sc0_fe hS f1) c7 hJ rfl rfl) (fun r1 r2 hr => ?_)
      obtain ⟨g1, g2, hr⟩ := hr
      have h1 := FE_tr f1 g1
      have h2 := FE_tr f2 g2
      refine T2_chk (n_in3 (by omega) (by omega)) (n_in3 (by omega) (by omega)) ?_
      rw [(tb _ _ h1 h2 4 _ (by omega) (by omega) (by omega)).1, (tb _ _ h1 h2 4 _ (by omega) (by omega) (by omega)).2]
      rcases hr with ⟨w2, hw2, hJ2⟩ | ⟨z1, z2⟩
      · obtain ⟨e1, e2⟩ := EI_e hJ2
        refine T2_ite Iff.rfl (fun y22 _ => ?_) (fun y22 _ => ?_)
        · rw [if_pos y22] at ek
          rw [e1, e2]
          refine T2_ite Iff.rfl (fun _ _ => ?_) (fun z _ => absurd rfl z)
          refine T2_chk (n_in3 (by omega) (by omega)) (n_in3 (by omega) (by omega)) ?_
          rw [(tb _ _ h1 h2 8 _ (by omega) (by omega) (by omega)).1, (tb _ _ h1 h2 8 _ (by omega) (by omega) (by omega)).2]
          refine T2_ob (E_eval hX (by omega) (Sc0_fe hS h1) (c8 y22) hJ2 rfl rfl) (fun s1 s2 hs => ?_)
          obtain ⟨j1, j2, hs⟩ := hs
          rcases hs with ⟨w3, hw3, hJ3⟩ | ⟨z1, z2⟩
          · exact ih (i + 1) (by omega) w3 _ _ _ _ (by omega) (FE_tr h1 j1) (FE_tr h2 j2) (by rw [ek]; exact hJ3) a1 a2 rfl rfl
          · exact zend _ _ _ _ _ (by omega) (FE_tr h1 j1) (FE_tr h2 j2) z1 z2
        · rw [if_neg y22] at ek
          exact ih (i + 1) (by omega) w2 _ _ _ _ (by omega) h1 h2 (by rw [ek]; exact hJ2) a1 a2 rfl rfl
      · refine T2_ite Iff.rfl (fun y22 _ => ?_) (fun y22 _ => ?_)
        · refine T2_ite ⟨fun z => absurd z (EZ_e z1), fun z => absurd z (EZ_e z2)⟩ (fun z _ => absurd z (EZ_e z1)) (fun _ _ => ?_)
          exact zend _ _ _ _ _ (by omega) h1 h2 z1 z2
        · exact zend _ _ _ _ _ (by omega) h1 h2 z1 z2
  refine T2_suc (fun n => by rw [x_workParts]) (fun n => by rw [x_workParts]) ?_
  refine T2_ob (T2_t (s_nameOf h (fun i hi => hS.1.1 4 i (by omega) (by omega) (by omega)) (fun i hi => hS.1.1 6 i (by omega) (by omega) (by omega)) d1) (s_nameOf h (fun i hi => hS2.1.1 4 i (by omega) (by omega) (by omega)) (fun i hi => hS2.1.1 6 i (by omega) (by omega) (by omega)) d2)) (fun r1 r2 hr => ?_)
  rw [hr.1, hr.2]
  exact lp k 0 rfl w σ1 σ2 _ _ (Nat.le_refl _) FE_rf FE_rf hI d1 d2 rfl rfl
end TGS

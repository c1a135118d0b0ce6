section JnS230
/-! Statements on both sides (reference): evaluation, targets and their keys. -/
/-- what a statement stands on: tables, nothing open -/
def Sc0 (T : Nat → Nat → Int32) (FN : Nat → Nat → Prop) (lc : Nat → Prop) (σ : MS) : Prop := STb T FN σ ∧ Cx lc 0 0 0 σ
/-- what a statement evaluates -/
def Wx0 (T : Nat → Nat → Int32) (FN : Nat → Nat → Prop) (lc : Nat → Prop) (x : Int32) : Prop := ∃ O K, O ≤ 20 ∧ K ≤ 60 ∧ ∃ F, WN T FN F 0 O 14 K lc x
section SEV
variable {T : Nat → Nat → Int32} {FN : Nat → Nat → Prop} {lc : Nat → Prop} {t w XC : Nat} {σ σ1 σ2 ρ : MS} {x : Int32}
theorem Sc0_fe {N : Nat → Nat → Prop} (h : Sc0 T FN lc σ) (hF : FEn N σ ρ) : Sc0 T FN lc ρ := ⟨STb_fe h.1 hF, Cx_fe h.2 hF⟩
theorem Sc0_ei (h : Sc0 T FN lc σ1) (hE : EI t w XC σ1 σ2) : Sc0 T FN lc σ2 := by
  obtain ⟨g1, l1, B1, h1, X1, g2, l2, B2, h2, X2, _, _, hR, _⟩ := hE
  exact ⟨STb_ra hR h.1, Cx_ra hR h.2⟩
theorem PC_st {O K d : Nat} (hX : XC ≤ 402000) (hO : O ≤ 20) (hK : K ≤ 60) (ht : t ≤ w + 17000) (hd : 1214 ≤ d ∧ d ≤ 1300) (hw : w ≤ 60000) (hS : Sc0 T FN lc σ1) : PC T FN O 14 K lc d t w XC σ1 := ⟨hS.1, by omega, hO, by omega, ⟨by omega, by omega⟩, by omega, hw, 0, 0, 0, hS.2, by omega, by omega, by omega⟩
theorem E_eval (hX : XC ≤ 402000) (ht : t ≤ w + 17000) (hS : Sc0 T FN lc σ1) (hW : Wx0 T FN lc x) (hI : EI t w XC σ1 σ2) {L1 L2 : Nat → Int32} (d1 : L1 1 = x) (d2 : L2 1 = x) : T2 (fun k => x_eval k 0 L1 σ1) (fun k => x_eval k 0 L2 σ2) (EQ 179300 t w XC σ1 σ2) := by
  obtain ⟨O, K, hO, hK, F, hW⟩ := hW
  exact PE_all 1300 F O 14 K lc x t w XC σ1 σ2 L1 L2 hW (PC_st hX hO hK ht (by omega) (EI_w hI) hS) hI d1 d2
theorem E_hold (hX : XC ≤ 402000) (ht : t ≤ w + 17000) (hS : Sc0 T FN lc σ1) (hW : Wx0 T FN lc x) (hI : EI t w XC σ1 σ2) {L1 L2 : Nat → Int32} (d1 : L1 1 = x) (d2 : L2 1 = x) : T2 (fun k => x_holds k 0 L1 σ1) (fun k => x_holds k 0 L2 σ2) (fun r1 r2 => r1.1 = r2.1 ∧ FE σ1 r1.2 ∧ FE σ2 r2.2 ∧ ((∃ w', w ≤ w' ∧ EI t w' XC r1.2 r2.2) ∨ (EZ t 179300 r1.2 ∧ EZ t 179300 r2.2 ∧ r1.1 = 0))) := by
  obtain ⟨O, K, hO, hK, F, hW⟩ := hW
  refine T2_mono (b_holds (d := 1299) (PE_all 1299) hW (PC_st hX hO hK ht (by omega) (EI_w hI) hS) hI d1 d2) (fun r1 r2 hr => ?_)
  obtain ⟨a1, a2, a3, a4⟩ := hr
  exact ⟨a1, a2, a3, a4.imp id (fun z => ⟨EZ_mo z.1 (Nat.le_refl _) (by omega), EZ_mo z.2.1 (Nat.le_refl _) (by omega), z.2.2⟩)⟩
end SEV
/-- a target: a variable and its parts -/
def Tgt (T : Nat → Nat → Int32) (FN : Nat → Nat → Prop) (lc : Nat → Prop) (k : Nat) (ch : Nat → Nat) : Prop := (∀ i, i ≤ k → (1 ≤ ch i ∧ ch i < LNo T % 70001)) ∧ (T 4 (ch 0) = 7 ∧ ∃ s, T 6 (ch 0) = nI s ∧ s < 60 ∧ (T 5 (ch 0) = 0 ∨ lc 0)) ∧ ∀ i, i < k → T 6 (ch (i + 1)) = nI (ch i) ∧ T 9 (ch i) = nI (ch (i + 1)) ∧ (T 4 (ch (i + 1)) = 21 ∨ T 4 (ch (i + 1)) = 22 ∨ T 4 (ch (i + 1)) = 23) ∧ Wx0 T FN lc (T 7 (ch (i + 1))) ∧ (T 4 (ch (i + 1)) = 22 → Wx0 T FN lc (T 8 (ch (i + 1))))
/-- how many keys its first i parts have -/
def kys (T : Nat → Nat → Int32) (ch : Nat → Nat) : Nat → Nat
  | 0 => 0
  | i + 1 => kys T ch i + (if T 4 (ch (i + 1)) = 22 then 2 else 1)
section TGS
variable {T : Nat → Nat → Int32} {FN : Nat → Nat → Prop} {lc : Nat → Prop} {t w XC k : Nat} {σ σ1 σ2 ρ : MS} {x : Int32} {ch : Nat → Nat}
theorem kys_mo : ∀ {i j : Nat}, i ≤ j → kys T ch i ≤ kys T ch j := by
  intro i j h
  induction j with
  | zero => rw [show i = 0 by omega]; exact Nat.le_refl _
  | succ j ih =>
    by_cases c : i = j + 1
    · rw [c]; exact Nat.le_refl _
    · have := ih (by omega)
      show kys T ch i ≤ kys T ch j + (if T 4 (ch (j + 1)) = 22 then 2 else 1)
      omega
theorem kys_ge : ∀ {i : Nat}, i ≤ kys T ch i := by
  intro i
  induction i with
  | zero => exact Nat.le_refl _
  | succ i ih =>
    unfold kys
    split
    · omega
    · omega
theorem Tgt_7 (h : Tgt T FN lc k ch) {i : Nat} (h1 : 1 ≤ i) (hi : i ≤ k) : ¬ T 4 (ch i) = 7 := by
  obtain ⟨j, rfl⟩ : ∃ j, i = j + 1 := ⟨i - 1, by omega⟩
  rcases (h.2.2 j (by omega)).2.2.1 with z | z | z <;> (rw [z]; decide)
theorem Tgt_inj (h : Tgt T FN lc k ch) : ∀ i j, i < j → j ≤ k → ¬ ch i = ch j := by
  intro i
  induction i with
  | zero =>
    intro j h1 h2 e
    exact Tgt_7 h h1 h2 (by rw [← e]; exact h.2.1.1)
  | succ i ih =>
    intro j h1 h2 e
    obtain ⟨j, rfl⟩ : ∃ q, j = q + 1 := ⟨j - 1, by omega⟩
    have a := (h.2.2 i (by omega)).1
    have b := (h.2.2 j (by omega)).1
    rw [e, b] at a
    have b1 := h.1 i (by omega)
    have b2 := h.1 j (by omega)
    exact ih j (by omega) (by omega) ((n_eq (by omega) (by omega)).mp a).symm
theorem Tgt_eq (h : Tgt T FN lc k ch) {i : Nat} (hi : i ≤ k) : nI (ch i) = nI (ch k) ↔ i = k := by
  have b1 := h.1 i hi
  have b2 := h.1 k (Nat.le_refl _)
  rw [n_eq (by omega) (by omega)]
  constructor
  · intro e
    by_cases c : i = k
    · exact c
    · exact absurd e (Tgt_inj h i k (by omega) (Nat.le_refl _))
  · intro e; rw [e]
theorem s_nameOf (h : Tgt T FN lc k ch) (r4 : ∀ i, (1 ≤ i ∧ i < LNo T % 70001) → σ.2.2 4 i = T 4 i) (r6 : ∀ i, (1 ≤ i ∧ i < LNo T % 70001) → σ.2.2 6 i = T 6 i) {L : Nat → Int32} (d : L 1 = nI (ch k)) : Tm (fun n => x_nameOf n 0 L σ) (fun r => r = (nI (ch 0), σ)) := by
  have lp : ∀ i, i ≤ k → ∀ N : Nat → Int32, N 2 = nI (ch i) → Tm (fun n => x_nameOf n 1 N σ) (fun r => r = (nI (ch 0), σ)) := by
    intro i
    induction i with
    | zero =>
      intro _ N e
      have b := h.1 0 (by omega)
      refine Tm_suc (fun n => by rw [x_nameOf]) ?_
      rw [e]
      refine Tm_chk (n_in (by omega) (by omega)) ?_
      rw [n_cl (p := ch 0) (by omega), r4 _ (by omega)]
      refine Tm_ite (fun _ => ?_) (fun z => absurd h.2.1.1 z)
      refine Tm_suc (fun n => by rw [x_nameOf]) ?_
      rw [e]
      exact Tm_some rfl
    | succ i ih =>
      intro hi N e
      have b := h.1 (i + 1) hi
      refine Tm_suc (fun n => by rw [x_nameOf]) ?_
      rw [e]
      refine Tm_chk (n_in (by omega) (by omega)) ?_
      rw [n_cl (p := ch (i + 1)) (by omega), r4 _ (by omega)]
      refine Tm_ite (fun z => absurd z (Tgt_7 h (by omega) hi)) (fun _ => ?_)
      refine Tm_chk (n_in3 (by omega) (by omega)) ?_
      rw [r6 _ (by omega), (h.2.2 i (by omega)).1]
      exact ih (by omega) _ rfl
  refine Tm_suc (fun n => by rw [x_nameOf]) ?_
  exact lp k (Nat.le_refl _) _ d
theorem s_keysOf {L : Nat → Int32} : Tm (fun n => x_keysOf n 0 L σ) (fun r => r = ((if L 0 = 7 then 0 else if L 0 = 22 then 2 else 1), σ)) := by
  refine Tm_suc (fun n => by rw [x_keysOf]) ?_
  refine Tm_ite (fun z => ?_) (fun z => ?_)
  · refine Tm_suc (fun n => by rw [x_keysOf]) ?_
    exact Tm_some (by rw [if_pos z]; rfl)
  refine Tm_suc (fun n => by rw [x_keysOf]) ?_
  refine Tm_ite (fun y => ?_) (fun y => ?_)
  · refine Tm_suc (fun n => by rw [x_keysOf]) ?_
    exact Tm_some (by rw [if_neg z, if_pos y]; rfl)
  refine Tm_suc (fun n => by rw [x_keysOf]) ?_
  refine Tm_suc (fun n => by rw [x_keysOf]) ?_
  exact Tm_some (by rw [if_neg z, if_neg y]; rfl)
/-- keys of one part -/
theorem s_keysP (h : Tgt T FN lc k ch) {i : Nat} (hi : i < k) {L : Nat → Int32} (d : L 0 = T 4 (ch (i + 1))) : Tm (fun n => x_keysOf n 0 L σ) (fun r => r = (nI (if T 4 (ch (i + 1)) = 22 then 2 else 1), σ)) := by
  refine Tm_mono s_keysOf (fun r hr => ?_)
  rw [hr, d, if_neg (Tgt_7 h (by omega) (by omega))]
  by_cases c : T 4 (ch (i + 1)) = 22
  · rw [if_pos c, if_pos c]; rfl
  · rw [if_neg c, if_neg c]; rfl
theorem s_keysIn (h : Tgt T FN lc k ch) (r4 : ∀ i, (1 ≤ i ∧ i < LNo T % 70001) → σ.2.2 4 i = T 4 i) (r6 : ∀ i, (1 ≤ i ∧ i < LNo T % 70001) → σ.2.2 6 i = T 6 i) (hk : kys T ch k ≤ 100000) {L : Nat → Int32} (d : L 1 = nI (ch k)) : Tm (fun n => x_keysIn n 0 L σ) (fun r => r = (nI (kys T ch k), σ)) := by
  have lp : ∀ i, i ≤ k → ∀ (a : Nat) (N : Nat → Int32), a + kys T ch i ≤ 200000 → N 2 = nI a → N 3 = nI (ch i) → Tm (fun n => x_keysIn n 1 N σ) (fun r => r = (nI (a + kys T ch i), σ)) := by
    intro i
    induction i with
    | zero =>
      intro _ a N ha e2 e
      have b := h.1 0 (by omega)
      refine Tm_suc (fun n => by rw [x_keysIn]) ?_
      rw [e]
      refine Tm_chk (n_in (by omega) (by omega)) ?_
      rw [n_cl (p := ch 0) (by omega), r4 _ (by omega)]
      refine Tm_ite (fun _ => ?_) (fun z => absurd h.2.1.1 z)
      refine Tm_suc (fun n => by rw [x_keysIn]) ?_
      rw [e2]
      exact Tm_some rfl
    | succ i ih =>
      intro hi a N ha e2 e
      have b := h.1 (i + 1) hi
      refine Tm_suc (fun n => by rw [x_keysIn]) ?_
      rw [e, e2]
      refine Tm_chk (n_in (by omega) (by omega)) ?_
      rw [n_cl (p := ch (i + 1)) (by omega), r4 _ (by omega)]
      refine Tm_ite (fun z => absurd z (Tgt_7 h (by omega) hi)) (fun _ => ?_)
      refine Tm_chk (n_in3 (by omega) (by omega)) ?_
      refine Tm_ob (s_keysP h (by omega) rfl) (fun r hr => ?_)
      rw [hr]
      refine Tm_chk (n_in3 (by omega) (by omega)) ?_
      have ek : kys T ch (i + 1) = kys T ch i + (if T 4 (ch (i + 1)) = 22 then 2 else 1) := rfl
      have es : a + kys T ch (i + 1) = (a + (if T 4 (ch (i + 1)) = 22 then 2 else 1)) + kys T ch i := by omega
      rw [es] at ha ⊢
      have e22 : (if T 4 (ch (i + 1)) = 22 then 2 else 1) ≤ 2 := by split <;> omega
      show Tm (fun n => x_keysIn n 1 (upd (upd N 2 (nI a + nI (if T 4 (ch (i + 1)) = 22 then 2 else 1))) 3 (σ.2.2 6 (ch (i + 1)))) σ) _
      rw [n_add (p := a) (by omega), r6 _ (by omega), (h.2.2 i (by omega)).1]
      exact ih (by omega) _ _ (by omega) rfl rfl
  refine Tm_suc (fun n => by rw [x_keysIn]) ?_
  refine Tm_mono (lp k (Nat.le_refl _) 0 _ (by omega) rfl d) (fun r hr => ?_)
  rw [hr, Nat.zero_add]
/-- the keys are worked out -/
theorem E_workParts (hX : XC ≤ 402000) (h : Tgt T FN lc k ch) (ht : t + kys T ch k ≤ w + 17000) (hS : Sc0 T FN lc σ1) (hI : EI t w XC σ1 σ2) {L1 L2 : Nat → Int32} (d1 : L1 1 = nI (ch k)) (d2 : L2 1 = nI (ch k)) : T2 (fun n => x_workParts n 0 L1 σ1) (fun n => x_workParts n 0 L2 σ2) (fun r1 r2 => FE σ1 r1.2 ∧ FE σ2 r2.2 ∧ ((∃ w', w ≤ w' ∧ EI (t + kys T ch k) w' XC r1.2 r2.2) ∨ (EZ t 179300 r1.2 ∧ EZ t 179300 r2.2))) := by
  have hS2 := Sc0_ei hS hI
  have tb : ∀ (τ1 τ2 : MS), FE σ1 τ1 → FE σ2 τ2 → ∀ a i, 4 ≤ a → a ≤ 9 → (1 ≤ i ∧ i < LNo T % 70001) → τ1.2.2 a i = T a i ∧ τ2.2.2 a i = T a i := fun τ1 τ2 f1 f2 a i h1 h2 h3 => ⟨(STb_fe hS.1 f1).1 a i h1 (by omega) ⟨fun _ => h3, fun z => by omega⟩, (STb_fe hS2.1 f2).1 a i h1 (by omega) ⟨fun _ => h3, fun z => by omega⟩⟩
  have wend : ∀ (τ : MS) (N : Nat → Int32), ¬ τ.1 56 = 0 → Tm (fun n => x_workParts n 1 N τ) (fun r => r = (0, τ)) := fun τ N he => by
    have fin : Tm (fun n => x_workParts n 2 N τ) (fun r => r = (0, τ)) := Tm_suc (fun n => by rw [x_workParts]) (Tm_some rfl)
    refine Tm_suc (fun n => by rw [x_workParts]) ?_
    exact Tm_ite (fun _ => fin) (fun _ => Tm_ite (fun z => absurd z he) (fun _ => fin))
  have zend : ∀ (τ1 τ2 : MS) (N1 N2 : Nat → Int32) (a : Nat), t ≤ a → FE σ1 τ1 → FE σ2 τ2 → EZ a 179300 τ1 → EZ a 179300 τ2 → T2 (fun n => x_workParts n 1 N1 τ1) (fun n => x_workParts n 1 N2 τ2) (fun r1 r2 => FE σ1 r1.2 ∧ FE σ2 r2.2 ∧ ((∃ w', w ≤ w' ∧ EI (t + kys T ch k) w' XC r1.2 r2.2) ∨ (EZ t 179300 r1.2 ∧ EZ t 179300 r2.2))) := fun τ1 τ2 N1 N2 a ha f1 f2 z1 z2 => by
    refine T2_mono (T2_t (wend τ1 N1 (EZ_e z1)) (wend τ2 N2 (EZ_e z2))) (fun r1 r2 hr => ?_)
    rw [hr.1, hr.2]
    exact ⟨f1, f2, Or.inr ⟨EZ_mo z1 ha (Nat.le_refl _), EZ_mo z2 ha (Nat.le_refl _)⟩⟩
  have lp : ∀ (q i : Nat), q + i = k → ∀ (w' : Nat) (τ1 τ2 : MS) (N1 N2 : Nat → Int32), w ≤ w' → FE σ1 τ1 → FE σ2 τ2 → EI (t + kys T ch i) w' XC τ1 τ2 → N1 1 = nI (ch k) → N2 1 = nI (ch k) → N1 2 = nI (ch i) → N2 2 = nI (ch i) → T2 (fun n => x_workParts n 1 N1 τ1) (fun n => x_workParts n 1 N2 τ2) (fun r1 r2 => FE σ1 r1.2 ∧ FE σ2 r2.2 ∧ ((∃ w', w ≤ w' ∧ EI (t + kys T ch k) w' XC r1.2 r2.2) ∨ (EZ t 179300 r1.2 ∧ EZ t 179300 r2.2))) := by
    intro q
    induction q with
    | zero =>
      intro i hi w' τ1 τ2 N1 N2 hw f1 f2 hJ a1 a2 b1 b2
      have e : i = k := by omega
      subst e
      refine T2_suc (fun n => by rw [x_workParts]) (fun n => by rw [x_workParts]) ?_
      rw [a1, a2, b1, b2]
      refine T2_ite Iff.rfl (fun _ _ => ?_) (fun z _ => absurd rfl z)
      refine T2_suc (fun n => by rw [x_workParts]) (fun n => by rw [x_workParts]) ?_
      exact T2_some ⟨f1, f2, Or.inl ⟨w', hw, hJ⟩⟩
    | succ q ih =>
      intro i hi w' τ1 τ2 N1 N2 hw f1 f2 hJ a1 a2 b1 b2
      have bi := h.1 i (by omega)
      have bj := h.1 (i + 1) (by omega)
      have km := kys_mo (T := T) (ch := ch) (i := i + 1) (j := k) (by omega)
      have ek : kys T ch (i + 1) = kys T ch i + (if T 4 (ch (i + 1)) = 22 then 2 else 1) := rfl
      obtain ⟨c6, c9, c4, c7, c8⟩ := h.2.2 i (by omega)
      obtain ⟨e1, e2⟩ := EI_e hJ
      refine T2_suc (fun n => by rw [x_workParts]) (fun n => by rw [x_workParts]) ?_
      rw [a1, a2, b1, b2, e1, e2]
      refine T2_ite Iff.rfl (fun z _ => absurd ((Tgt_eq h (by omega)).mp z) (by omega)) (fun _ _ => ?_)
      refine T2_ite Iff.rfl (fun _ _ => ?_) (fun z _ => absurd rfl z)
      refine T2_chk (n_in (by omega) (by omega)) (n_in (by omega) (by omega)) ?_
      rw [n_cl (p := ch i) (by omega), (tb τ1 τ2 f1 f2 9 _ (by omega) (by omega) (by omega)).1, (tb τ1 τ2 f1 f2 9 _ (by omega) (by omega) (by omega)).2, c9]
      refine T2_chk (n_in (by omega) (by omega)) (n_in (by omega) (by omega)) ?_
      rw [n_cl (p := ch (i + 1)) (by omega), (tb τ1 τ2 f1 f2 7 _ (by omega) (by omega) (by omega)).1, (tb τ1 τ2 f1 f2 7 _ (by omega) (by omega) (by omega)).2]
      have k12 : 1 ≤ (if T 4 (ch (i + 1)) = 22 then 2 else 1) := by split <;> omega
      refine T2_ob (E_eval hX (by omega) (Sc0_fe hS f1) c7 hJ rfl rfl) (fun r1 r2 hr => ?_)
      obtain ⟨g1, g2, hr⟩ := hr
      have h1 := FE_tr f1 g1
      have h2 := FE_tr f2 g2
      refine T2_chk (n_in3 (by omega) (by omega)) (n_in3 (by omega) (by omega)) ?_
      rw [(tb _ _ h1 h2 4 _ (by omega) (by omega) (by omega)).1, (tb _ _ h1 h2 4 _ (by omega) (by omega) (by omega)).2]
      rcases hr with ⟨w2, hw2, hJ2⟩ | ⟨z1, z2⟩
      · obtain ⟨e1, e2⟩ := EI_e hJ2
        refine T2_ite Iff.rfl (fun y22 _ => ?_) (fun y22 _ => ?_)
        · rw [if_pos y22] at ek
          rw [e1, e2]
          refine T2_ite Iff.rfl (fun _ _ => ?_) (fun z _ => absurd rfl z)
          refine T2_chk (n_in3 (by omega) (by omega)) (n_in3 (by omega) (by omega)) ?_
          rw [(tb _ _ h1 h2 8 _ (by omega) (by omega) (by omega)).1, (tb _ _ h1 h2 8 _ (by omega) (by omega) (by omega)).2]
          refine T2_ob (E_eval hX (by omega) (Sc0_fe hS h1) (c8 y22) hJ2 rfl rfl) (fun s1 s2 hs => ?_)
          obtain ⟨j1, j2, hs⟩ := hs
          rcases hs with ⟨w3, hw3, hJ3⟩ | ⟨z1, z2⟩
          · exact ih (i + 1) (by omega) w3 _ _ _ _ (by omega) (FE_tr h1 j1) (FE_tr h2 j2) (by rw [ek]; exact hJ3) a1 a2 rfl rfl
          · exact zend _ _ _ _ _ (by omega) (FE_tr h1 j1) (FE_tr h2 j2) z1 z2
        · rw [if_neg y22] at ek
          exact ih (i + 1) (by omega) w2 _ _ _ _ (by omega) h1 h2 (by rw [ek]; exact hJ2) a1 a2 rfl rfl
      · refine T2_ite Iff.rfl (fun y22 _ => ?_) (fun y22 _ => ?_)
        · refine T2_ite ⟨fun z => absurd z (EZ_e z1), fun z => absurd z (EZ_e z2)⟩ (fun z _ => absurd z (EZ_e z1)) (fun _ _ => ?_)
          exact zend _ _ _ _ _ (by omega) h1 h2 z1 z2
        · exact zend _ _ _ _ _ (by omega) h1 h2 z1 z2
  refine T2_suc (fun n => by rw [x_workParts]) (fun n => by rw [x_workParts]) ?_
  refine T2_ob (T2_t (s_nameOf h (fun i hi => hS.1.1 4 i (by omega) (by omega) (by omega)) (fun i hi => hS.1.1 6 i (by omega) (by omega) (by omega)) d1) (s_nameOf h (fun i hi => hS2.1.1 4 i (by omega) (by omega) (by omega)) (fun i hi => hS2.1.1 6 i (by omega) (by omega) (by omega)) d2)) (fun r1 r2 hr => ?_)
  rw [hr.1, hr.2]
  exact lp k 0 rfl w σ1 σ2 _ _ (Nat.le_refl _) FE_rf FE_rf hI d1 d2 rfl rfl
end TGS
end JnS230
section JnS231
/-! Statements on both sides (reference): the parts of a target are read. -/
/-- what lies upon the pile below u keeps its kind, its size, its length -/
def PKp (u : Nat) (σ ρ : MS) : Prop := ∀ i, i < u → szV ρ 29 i = szV σ 29 i
theorem PK_rf {u : Nat} {σ : MS} : PKp u σ σ := fun _ _ => rfl
theorem PK_tr {u : Nat} {σ τ ρ : MS} (a : PKp u σ τ) (b : PKp u τ ρ) : PKp u σ ρ := fun i hi => (b i hi).trans (a i hi)
theorem PK_mo {u v : Nat} {σ ρ : MS} (h : u ≤ v) (a : PKp v σ ρ) : PKp u σ ρ := fun i hi => a i (by omega)
theorem PK_28 {u : Nat} {σ ρ : MS} (h28 : ρ.2.2 28 = σ.2.2 28) (h29 : ∀ i, i < u → ρ.2.2 29 i = σ.2.2 29 i) : PKp u σ ρ := fun i hi => by unfold szV; rw [h28, h29 i hi]
theorem PK_pi {u t : Nat} {σ : MS} {x : Int32} (h : u ≤ t) : PKp u σ (mAr σ 29 t x) := PK_28 (mAr_o (by decide)) (fun i hi => by rw [mAr_s, upd_other (by omega)])
theorem PK_pu {u t : Nat} {σ : MS} {x : Int32} (h : u ≤ t) : PKp u σ (mPu σ t x) := PK_pi (σ := σ) (t := t) (x := x) h
theorem PK_eo {t : Nat} {g g' : Nat → Prop} {σ ρ : MS} (hE : EO t g σ g' ρ) : PKp t σ ρ := fun i hi => by
  obtain ⟨m, m', e1, v1, e2, v2, ev, b1, b2⟩ := hE.1 29 i (Or.inl ⟨rfl, hi⟩)
  unfold szV
  rw [e1, e2, n_cl (p := m) (by omega), n_cl (p := m') (by omega), (EVb_sz ev).1, (EVb_sz ev).2.2]
  rcases EVb_3 ev with ⟨z, y⟩ | ⟨z, y⟩
  · rw [y, if_pos z, if_pos z]
  · rw [if_neg (by omega), if_neg (by omega), EVb_hd ev z (i := 1) (by omega)]
/-- a sweep: the pile keeps what it has -/
theorem E_swP {t w XC : Nat} {σ1 σ2 : MS} (hXC : XC ≤ 408500) (ht : t ≤ 185000) (hE : EI t w XC σ1 σ2) : T2 (fun k => x_sweep k 0 (upd (fun _ => 0) 1 780000) σ1) (fun k => x_sweep k 0 (upd (fun _ => 0) 1 780000) σ2) (fun r1 r2 => (FE σ1 r1.2 ∧ FE σ2 r2.2 ∧ ∃ (g1 : Nat → Prop) (l1 : List Nat) (B1 h1 X1 : Nat) (g2 : Nat → Prop) (l2 : List Nat) (B2 h2 X2 : Nat), EIx t w XC r1.2 r2.2 g1 l1 B1 h1 X1 g2 l2 B2 h2 X2 ∧ h1 + 79900 ≤ B1 + 870000 ∧ h2 + 79900 ≤ B2 + 870000) ∧ PKp t σ1 r1.2) := by
  have e := E_sw hXC ht hE
  obtain ⟨g1, l1, B1, h1, X1, g2, l2, B2, h2, X2, m1, m2, hR, i1, i2, t1, e1, e2, w1, hw, x1, x2, ⟨ty1, ty2⟩, a, a1, a2⟩ := hE
  have t2 : σ2.1 59 = nI t := (hR.2.2.1 59 (by unfold AlS; omega)).symm.trans t1
  refine T2_and e (T2_mono (T2_of (MI_sw (T := 780000) m1 t1 ht rfl (by decide)) (MI_sw (T := 780000) m2 t2 ht rfl (by decide)) (fun n => k_sweep (XM := 780000) (by omega) m1 m2 hR t1 ht (by omega) (by omega) rfl rfl)) (fun r1 r2 hr => ?_))
  obtain ⟨⟨gA, lA, BA, hA, gB, lB, BB, hB, a1', a2', a3, a4, a5, a6, a7, a8, a9⟩, _, _⟩ := hr
  exact PK_eo a4
section EA1
variable {g1 g2 : Nat → Prop} {l1 l2 : List Nat} {B1 h1 B2 h2 X1 X2 t w XC : Nat} {ρ1 ρ2 : MS}
/-- an answer is counted (one at the least) and pushed -/
theorem E_an1 {c : Nat} {Q : Int32 × MS → Int32 × MS → Prop} {F1 F2 : Nat → Int32 × MS → Option (Int32 × MS)} {r1 r2 : Int32 × MS} (m1 : MI t X1 g1 l1 B1 h1 ρ1) (m2 : MI t X2 g2 l2 B2 h2 ρ2) (hR : RA t g1 g2 ρ1 ρ2) (i1 : IT g1 ρ1) (i2 : IT g2 ρ2) (ht : t ≤ 176000 ∧ XC - 400000 + 10 ≤ c) (hT : TyT (ρ1.2.2 2)) (hT2 : ρ1.2.2 2 = ρ2.2.2 2) (ha : ∃ a, r1.2.1 95 = nI a ∧ a ≤ 1000000) (ha2 : r1.2.1 95 = r2.2.1 95)
    (s1 : SO t w XC g1 ρ1 r1) (s2 : SO t w XC g2 ρ2 r2) (hK : KS c r1 r2) (hQ : ∀ v1 v2 : Int32 × MS, FE ρ1 v1.2 → FE ρ2 v2.2 → PKp t ρ1 v1.2 → ((∃ w', w + 1 ≤ w' ∧ EI (t + 1) w' XC v1.2 v2.2) ∨ (EZ t (t + 2001) v1.2 ∧ EZ t (t + 2001) v2.2)) → T2 (fun k => F1 k v1) (fun k => F2 k v2) Q) :
    T2 (fun k => ob (x_answer k 0 (upd (fun _ => 0) 1 r1.1) r1.2) (fun u => ob (x_push k 0 (upd (fun _ => 0) 1 u.1) u.2) (F1 k))) (fun k => ob (x_answer k 0 (upd (fun _ => 0) 1 r2.1) r2.2) (fun u => ob (x_push k 0 (upd (fun _ => 0) 1 u.1) u.2) (F2 k))) Q := by
  obtain ⟨gA, lA, BA, hA, XA, wA, tA, a1, a2, a3, a4, a5, a6, a7, ⟨a8, a9, a10, a11⟩, a12⟩ := s1
  obtain ⟨gB, lB, BB, hB, XB, wB, tB, b1, b2, b3, b4, b5, b6, b7, ⟨b8, b9, b10, b11⟩, b12⟩ := s2
  have f1 := FE_eo m1.2.1 a2
  have f2 := FE_eo m2.2.1 b2
  obtain ⟨c1, c2, c3⟩ := a3
  obtain ⟨d1, d2, d3⟩ := b3
  have ha' : ∃ a, r2.2.1 95 = nI a ∧ a ≤ 1000000 := by rw [← ha2]; exact ha
  by_cases er : r1.2.1 56 = 0
  · have er2 := hK.1.1.mp er
    obtain ⟨⟨⟨rB1, rh1, rm1, rm2, rm3, rm4⟩, ⟨rB2, rh2, rn1, rn2, rn3, rn4⟩⟩, k57, u, v, k1, k2, k3, k4, k5⟩ := hK.1.2 er
    have room : hA + (XC - 400000) + 10 ≤ BA + 870000 ∧ hB + (XC - 400000) + 10 ≤ BB + 870000 := by
      have p1 := HS_b a1.1
      have p2 := HS_b b1.1
      have p3 := a1.1.2.1
      have p4 := b1.1.2.1
      have e1 : BA = rB1 := (n_eq (by omega) (by omega)).mp (a1.1.1.symm.trans rm1)
      have e2 : BB = rB2 := (n_eq (by omega) (by omega)).mp (b1.1.1.symm.trans rn1)
      have e3 : hA = rh1 := (n_eq (by omega) (by omega)).mp (a1.1.2.2.1.symm.trans rm3)
      have e4 : hB = rh2 := (n_eq (by omega) (by omega)).mp (b1.1.2.2.1.symm.trans rn3)
      omega
    have e1 : tA = t := a11.resolve_right (fun z => z er)
    have e2 : tB = t := b11.resolve_right (fun z => z er2)
    subst e1
    subst e2
    have ew : wB = wA := by
      have z := b5.symm.trans (k57.symm.trans a5)
      exact (n_eq (by omega) (by omega)).mp z
    subst ew
    have bc := HS_vb a1.1 c3
    have bd := HS_vb b1.1 d3
    have eu : c1 = u := (n_eq (by omega) (by omega)).mp (c2.symm.trans k1)
    have ev : d1 = v := (n_eq (by omega) (by omega)).mp (d2.symm.trans k2)
    subst eu
    subst ev
    have hR' := RA_step m1.2.1 m2.2.1 hR a2 b2 k57 (a8.trans b8.symm) hK.2
    have j1 : IT gA r1.2 := IT_eo m1.2.1 m1.1 (Or.inr ⟨BA, hA, a1.1⟩) a2 i1
    have j2 : IT gB r2.2 := IT_eo m2.2.1 m2.1 (Or.inr ⟨BB, hB, b1.1⟩) b2 i2
    have x1 := a12 er
    have x2 := b12 er2
    refine T2_ob (T2_of (s_answer a1.1 c3 a5 (by omega) (by exact c2)) (s_answer b1.1 d3 b5 (by omega) (by exact d2)) (fun n => Pm_wl (fun k => wl_answer k _ _ _) (fun k => wl_answer k _ _ _) (k_answer a1.1 b1.1 c3 d3 k5 er er2 a5 b5 (by omega) (by exact c2) (by exact d2)))) (fun z1 z2 hz => ?_)
    obtain ⟨⟨⟨y1, y2, y3, y4⟩, wl1, wl2⟩, _, _⟩ := hz
    have ys1 : ∀ j, j ≠ 56 → j ≠ 57 → z1.2.1 j = r1.2.1 j := fun j q1 q2 => WkO_s y3 q1 q2
    have ys2 : ∀ j, j ≠ 56 → j ≠ 57 → z2.2.1 j = r2.2.1 j := fun j q1 q2 => WkO_s y4 q1 q2
    have n1 : MI tB XA gA lA BA hA z1.2 := MI_c a1 (ys1 54 (by decide) (by decide)) (ys1 55 (by decide) (by decide)) (ys1 63 (by decide) (by decide)) (ys1 72 (by decide) (by decide)) (WkO_a y3)
    have n2 : MI tB XB gB lB BB hB z2.2 := MI_c b1 (ys2 54 (by decide) (by decide)) (ys2 55 (by decide) (by decide)) (ys2 63 (by decide) (by decide)) (ys2 72 (by decide) (by decide)) (WkO_a y4)
    have z59 : z1.2.1 59 = nI tB := (ys1 59 (by decide) (by decide)).trans a8
    have w59 : z2.2.1 59 = nI tB := (ys2 59 (by decide) (by decide)).trans b8
    refine T2_ob (T2_t (s_push z59 (by omega) _) (s_push w59 (by omega) _)) (fun v1 v2 hv => ?_)
    rw [hv.1, hv.2]
    show T2 (fun k => F1 k (0, mPu z1.2 tB z1.1)) (fun k => F2 k (0, mPu z2.2 tB z2.1)) Q
    rw [y1, y2]
    refine hQ _ _ (FE_tr f1 (FE_tr (FE_wk y3) FE_pu)) (FE_tr f2 (FE_tr (FE_wk y4) FE_pu)) (PK_tr (PK_eo a2) (PK_tr (PK_28 (congrFun (WkO_a y3) 28) (fun i _ => congrFun (congrFun (WkO_a y3) 29) i)) (PK_pu (Nat.le_refl _)))) ?_
    have s28 : z1.2.2.2 28 = r1.2.2.2 28 := congrFun (WkO_a y3) 28
    have t28 : z2.2.2.2 28 = r2.2.2.2 28 := congrFun (WkO_a y4) 28
    have one := (szN_b a1.1 c3).1
    by_cases le : wB + szN (r1.2.2.2 28) c1 ≤ 60000
    · have zr1 := (WkO_er er y3).mpr le
      have zr2 := (WkO_er er2 y4).mpr le
      have y57 : z1.2.1 57 = nI (wB + szN (r1.2.2.2 28) c1) := WkO_57 y3
      refine Or.inl ⟨wB + szN (r1.2.2.2 28) c1, by omega, gA, lA, BA, hA, XA + 6 * szN (z1.2.2.2 28) c1, gB, lB, BB, hB, XB + 6 * szN (z2.2.2.2 28) d1, MI_pu n1 c3, MI_pu n2 d3, ?_, ?_, ?_, rfl, ?_, ?_, ?_, ⟨le, room⟩, ?_, ?_, ⟨?_, ?_⟩, ?_⟩
      · refine RA_pu n1.2.1 (RA_c hR' (WkO_a y3) (WkO_a y4) (ys1 63 (by decide) (by decide)) (ys1 72 (by decide) (by decide)) (ys1 22 (by decide) (by decide)) (ys1 24 (by decide) (by decide)) (ys1 30 (by decide) (by decide)) (ys1 44 (by decide) (by decide)) (fun j hj => ?_) ?_) ?_
        · by_cases e57 : j = 57
          · rw [e57, y57, WkO_57 y4]
          · rw [ys1 j (by unfold AlS at hj; omega) e57, ys2 j (by unfold AlS at hj; omega) e57]
            exact hR'.2.2.1 j hj
        · rw [wl1, wl2]; exact hK.2
        · rw [s28, t28]; exact ⟨c1, d1, rfl, c3, rfl, d3, k5, bc, bd⟩
      · exact IT_c ((mPu_s (by decide)).trans (ys1 72 (by decide) (by decide))) ((mPu_o (by decide)).trans (congrFun (WkO_a y3) 34)) ((mPu_o (by decide)).trans (congrFun (WkO_a y3) 35)) ((mPu_o (by decide)).trans s28) j1
      · exact IT_c ((mPu_s (by decide)).trans (ys2 72 (by decide) (by decide))) ((mPu_o (by decide)).trans (congrFun (WkO_a y4) 34)) ((mPu_o (by decide)).trans (congrFun (WkO_a y4) 35)) ((mPu_o (by decide)).trans t28) j2
      · rw [mPu_s (by decide)]; exact zr1
      · rw [mPu_s (by decide)]; exact zr2
      · rw [mPu_s (by decide)]; exact y57
      · rw [s28]; omega
      · rw [t28, (EVb_sz k5).1]; omega
      · rw [mPu_o (by decide), congrFun (WkO_a y3) 2, f1.2.2.1]; exact hT
      · rw [mPu_o (by decide), mPu_o (by decide), congrFun (WkO_a y3) 2, congrFun (WkO_a y4) 2, f1.2.2.1, f2.2.2.1]; exact hT2
      · rw [mPu_s (by decide), ys1 95 (by decide) (by decide)]; exact ha
    · have zr1 : ¬ z1.2.1 56 = 0 := fun y => le ((WkO_er er y3).mp y)
      have zr2 : ¬ z2.2.1 56 = 0 := fun y => le ((WkO_er er2 y4).mp y)
      have sz := szN_b a1.1 c3
      refine Or.inr ⟨EZ_pu n1 z59 (by omega) (by omega) zr1 (WkO_E y3 a4) ⟨_, WkO_57 y3, by omega⟩ (by rw [ys1 95 (by decide) (by decide)]; exact ha) ⟨c1, rfl, c3⟩, EZ_pu n2 w59 (by omega) (by omega) zr2 (WkO_E y4 b4) ⟨_, WkO_57 y4, by omega⟩ (by rw [ys2 95 (by decide) (by decide)]; exact ha') ⟨d1, rfl, d3⟩⟩
  · have er2 : ¬ r2.2.1 56 = 0 := fun z => er (hK.1.1.mpr z)
    have an : ∀ (r : Int32 × MS), ¬ r.2.1 56 = 0 → Tm (fun k => x_answer k 0 (upd (fun _ => 0) 1 r.1) r.2) (fun s => s = r) := fun r he => by
      refine Tm_suc (fun k => by rw [x_answer]) ?_
      refine Tm_ite (fun z => absurd z he) (fun _ => ?_)
      refine Tm_suc (fun k => by rw [x_answer]) ?_
      exact Tm_some rfl
    refine T2_ob (T2_t (an r1 er) (an r2 er2)) (fun z1 z2 hz => ?_)
    rw [hz.1, hz.2]
    refine T2_ob (T2_t (s_push a8 (by omega) _) (s_push b8 (by omega) _)) (fun v1 v2 hv => ?_)
    rw [hv.1, hv.2]
    show T2 (fun k => F1 k (0, mPu r1.2 tA r1.1)) (fun k => F2 k (0, mPu r2.2 tB r2.1)) Q
    refine hQ _ _ (FE_tr f1 FE_pu) (FE_tr f2 FE_pu) (PK_tr (PK_eo a2) (PK_pu a9)) (Or.inr ⟨EZ_pu a1 a8 a9 (by omega) er a4 ⟨_, a5, by omega⟩ ha ⟨c1, c2, c3⟩, EZ_pu b1 b8 b9 (by omega) er2 b4 ⟨_, b5, by omega⟩ ha' ⟨d1, d2, d3⟩⟩)
end EA1
/-- behind readParts: the variable and jj parts lie upon the pile -/
def RPq (t jj w XC : Nat) (σ1 σ2 : MS) (r1 r2 : Int32 × MS) : Prop := FE σ1 r1.2 ∧ FE σ2 r2.2 ∧ ((∃ w', w + jj ≤ w' ∧ EI (t + 1 + jj) w' XC r1.2 r2.2) ∨ (EZ t 179300 r1.2 ∧ EZ t 179300 r2.2))
section RDP
variable {T : Nat → Nat → Int32} {FN : Nat → Nat → Prop} {lc : Nat → Prop} {t w XC k u : Nat} {σ σ1 σ2 ρ : MS} {x : Int32} {ch : Nat → Nat}
theorem rp_6 {τ : MS} {N : Nat → Int32} : Tm (fun n => x_readParts n 6 N τ) (fun r => r = (0, τ)) := Tm_suc (fun n => by rw [x_readParts]) (Tm_some rfl)
/-- with an error it ends -/
theorem rp_z (h : Tgt T FN lc k ch) {i : Nat} (hi : i ≤ k) {τ : MS} (he : ¬ τ.1 56 = 0) {N : Nat → Int32} (n4 : N 4 = nI (ch i)) : Tm (fun n => x_readParts n 1 N τ) (fun r => r = (0, τ)) := by
  have b := h.1 i hi
  have two : Tm (fun n => x_readParts n 2 N τ) (fun r => r = (0, τ)) := by
    refine Tm_suc (fun n => by rw [x_readParts]) ?_
    exact Tm_ite (fun z => absurd z he) (fun _ => rp_6)
  refine Tm_suc (fun n => by rw [x_readParts]) ?_
  refine Tm_ite (fun _ => rp_6) (fun _ => Tm_ite (fun _ => ?_) (fun _ => two))
  rw [n4]
  refine Tm_chk (n_in (by omega) (by omega)) ?_
  exact Tm_ite (fun _ => rp_6) (fun _ => two)
/-- it ends at its last part -/
theorem rp_x (h : Tgt T FN lc k ch) {i : Nat} {fl : Int32} (hi : i = (if fl = 0 then k - 1 else k)) {τ : MS} (r9 : ∀ i, (1 ≤ i ∧ i < LNo T % 70001) → τ.2.2 9 i = T 9 i) {N : Nat → Int32} (n1 : N 1 = nI (ch k)) (n3 : N 3 = fl) (n4 : N 4 = nI (ch i)) : Tm (fun n => x_readParts n 1 N τ) (fun r => r = (0, τ)) := by
  have ik : i ≤ k := by rw [hi]; split <;> omega
  have b := h.1 i ik
  refine Tm_suc (fun n => by rw [x_readParts]) ?_
  rw [n1, n3, n4]
  refine Tm_ite (fun _ => rp_6) (fun z => ?_)
  have ne : ¬ i = k := fun e => z ((Tgt_eq h ik).mpr e)
  refine Tm_ite (fun y => ?_) (fun y => ?_)
  · refine Tm_chk (n_in (by omega) (by omega)) ?_
    rw [if_pos y] at hi
    rw [n_cl (p := ch i) (by omega), r9 _ (by omega), (h.2.2 i (by omega)).2.1, show i + 1 = k by omega]
    exact Tm_ite (fun _ => rp_6) (fun z => absurd rfl z)
  · rw [if_neg y] at hi
    exact absurd hi ne
/-- the variable, then part by part -/
theorem E_readPartsP (hX : XC ≤ 402000) (h : Tgt T FN lc k ch) (ht : t + k ≤ 120000 ∧ t ≤ 90000) (hu : u + kys T ch k ≤ t) (hS : Sc0 T FN lc σ1) (hI : EI t w XC σ1 σ2) {fl : Int32} {L1 L2 : Nat → Int32} (d1 : L1 1 = nI (ch k)) (d2 : L2 1 = nI (ch k)) (u1 : L1 2 = nI u) (u2 : L2 2 = nI u) (q1 : L1 3 = fl) (q2 : L2 3 = fl) : T2 (fun n => x_readParts n 0 L1 σ1) (fun n => x_readParts n 0 L2 σ2) (fun r1 r2 => RPq t (if fl = 0 then k - 1 else k) w XC σ1 σ2 r1 r2 ∧ (r1.2.1 56 = 0 → PKp t σ1 r1.2)) := by
  have hS2 := Sc0_ei hS hI
  have tb : ∀ (τ1 τ2 : MS), FE σ1 τ1 → FE σ2 τ2 → ∀ a i, 4 ≤ a → a ≤ 9 → (1 ≤ i ∧ i < LNo T % 70001) → τ1.2.2 a i = T a i ∧ τ2.2.2 a i = T a i := fun τ1 τ2 f1 f2 a i h1 h2 h3 => ⟨(STb_fe hS.1 f1).1 a i h1 (by omega) ⟨fun _ => h3, fun z => by omega⟩, (STb_fe hS2.1 f2).1 a i h1 (by omega) ⟨fun _ => h3, fun z => by omega⟩⟩
  have jk : (if fl = 0 then k - 1 else k) ≤ k := by split <;> omega
  have lp : ∀ (q i : Nat), q + i = (if fl = 0 then k - 1 else k) → ∀ (w' : Nat) (τ1 τ2 : MS) (N1 N2 : Nat → Int32), w + i ≤ w' → FE σ1 τ1 → FE σ2 τ2 → PKp t σ1 τ1 → EI (t + 1 + i) w' XC τ1 τ2 → N1 1 = nI (ch k) → N2 1 = nI (ch k) → N1 3 = fl → N2 3 = fl → N1 4 = nI (ch i) → N2 4 = nI (ch i) → N1 5 = nI (u + kys T ch i) → N2 5 = nI (u + kys T ch i) → T2 (fun n => x_readParts n 1 N1 τ1) (fun n => x_readParts n 1 N2 τ2) (fun r1 r2 => RPq t (if fl = 0 then k - 1 else k) w XC σ1 σ2 r1 r2 ∧ (r1.2.1 56 = 0 → PKp t σ1 r1.2)) := by
    intro q
    induction q with
    | zero =>
      intro i hi w' τ1 τ2 N1 N2 hw f1 f2 pk hJ a1 a2 b1 b2 c1 c2 _ _
      have e : i = (if fl = 0 then k - 1 else k) := by omega
      refine T2_mono (T2_t (rp_x h e (fun j hj => (tb τ1 τ2 f1 f2 9 j (by omega) (by omega) hj).1) a1 b1 c1) (rp_x h e (fun j hj => (tb τ1 τ2 f1 f2 9 j (by omega) (by omega) hj).2) a2 b2 c2)) (fun r1 r2 hr => ?_)
      rw [hr.1, hr.2]
      exact ⟨⟨f1, f2, Or.inl ⟨w', by rw [← e]; exact hw, by rw [← e]; exact hJ⟩⟩, fun _ => pk⟩
    | succ q ih =>
      intro i hi w' τ1 τ2 N1 N2 hw f1 f2 pk hJ a1 a2 b1 b2 c1 c2 g5 g6
      have bi := h.1 i (by omega)
      have bj := h.1 (i + 1) (by omega)
      have km := kys_mo (T := T) (ch := ch) (i := i + 1) (j := k) (by omega)
      have ek : kys T ch (i + 1) = kys T ch i + (if T 4 (ch (i + 1)) = 22 then 2 else 1) := rfl
      have k12 : 1 ≤ (if T 4 (ch (i + 1)) = 22 then 2 else 1) ∧ (if T 4 (ch (i + 1)) = 22 then 2 else 1) ≤ 2 := by split <;> omega
      obtain ⟨c6, c9, c4, c7, c8⟩ := h.2.2 i (by omega)
      obtain ⟨e1, e2⟩ := EI_e hJ
      -- behind an operation
      have five : ∀ (r1 r2 : MS) (g1 : Nat → Prop) (l1 : List Nat) (B1 h1 X1 : Nat) (g2 : Nat → Prop) (l2 : List Nat) (B2 h2 X2 : Nat), FE σ1 r1 → FE σ2 r2 → PKp t σ1 r1 → EIx (t + 1 + i) w' XC r1 r2 g1 l1 B1 h1 X1 g2 l2 B2 h2 X2 → ∀ (s1 s2 : Int32 × MS) (O1 O2 : Nat → Int32), O1 100 = s1.1 → O2 100 = s2.1 → O1 1 = nI (ch k) → O2 1 = nI (ch k) → O1 3 = fl → O2 3 = fl → O1 4 = nI (ch (i + 1)) → O2 4 = nI (ch (i + 1)) → O1 5 = nI (u + kys T ch i) → O2 5 = nI (u + kys T ch i) → (SO (t + 1 + i) w' XC g1 r1 s1 ∧ SO (t + 1 + i) w' XC g2 r2 s2 ∧ KS 8600 s1 s2 ∧ s1.2.1 95 = r1.1 95 ∧ s2.2.1 95 = r2.1 95) → T2 (fun n => x_readParts n 5 O1 s1.2) (fun n => x_readParts n 5 O2 s2.2) (fun r1 r2 => RPq t (if fl = 0 then k - 1 else k) w XC σ1 σ2 r1 r2 ∧ (r1.2.1 56 = 0 → PKp t σ1 r1.2)) := by
        intro r1 r2 g1 l1 B1 h1 X1 g2 l2 B2 h2 X2 p1 p2 pk2 hX' s1 s2 O1 O2 o100 p100 o1 o1' o3 o3' o4 o4' o5 o5' hs
        obtain ⟨s1', s2', s3, s4, s5⟩ := hs
        obtain ⟨m1, m2, bR, j1, j2, _, _, _, _, _, _, _, ⟨ty1, ty2⟩, a, z1, z2⟩ := hX'
        refine T2_suc (fun n => by rw [x_readParts]) (fun n => by rw [x_readParts]) ?_
        rw [o100, p100, o4, o4', o5, o5']
        refine E_an1 m1 m2 bR j1 j2 (by omega) ty1 ty2 ⟨a, s4.trans z1, z2⟩ (s4.trans ((bR.2.2.1 95 (by unfold AlS; omega)).trans s5.symm)) s1' s2' s3 (fun v1 v2 k1 k2 pk3 hv => ?_)
        have y1 := FE_tr p1 k1
        have y2 := FE_tr p2 k2
        refine T2_chk (n_in (by omega) (by omega)) (n_in (by omega) (by omega)) ?_
        rw [n_cl (p := ch (i + 1)) (by omega), (tb _ _ y1 y2 4 _ (by omega) (by omega) (by omega)).1, (tb _ _ y1 y2 4 _ (by omega) (by omega) (by omega)).2]
        refine T2_ob (T2_t (s_keysP h (by omega) rfl) (s_keysP h (by omega) rfl)) (fun y z hy => ?_)
        rw [hy.1, hy.2]
        show T2 (fun n => x_readParts n 1 (upd O1 5 (nI (u + kys T ch i) + nI (if T 4 (ch (i + 1)) = 22 then 2 else 1))) v1.2) (fun n => x_readParts n 1 (upd O2 5 (nI (u + kys T ch i) + nI (if T 4 (ch (i + 1)) = 22 then 2 else 1))) v2.2) _
        rw [n_add (p := u + kys T ch i) (by omega), show u + kys T ch i + (if T 4 (ch (i + 1)) = 22 then 2 else 1) = u + kys T ch (i + 1) by omega]
        rcases hv with ⟨w2, hw2, hv⟩ | ⟨y3, y4⟩
        · exact ih (i + 1) (by omega) w2 v1.2 v2.2 _ _ (by omega) y1 y2 (PK_tr pk2 (PK_mo (by omega) pk3)) hv o1 o1' o3 o3' o4 o4' rfl rfl
        · refine T2_mono (T2_t (rp_z h (i := i + 1) (by omega) (EZ_e y3) o4) (rp_z h (i := i + 1) (by omega) (EZ_e y4) o4')) (fun r1 r2 hr => ?_)
          rw [hr.1, hr.2]
          exact ⟨⟨y1, y2, Or.inr ⟨EZ_mo y3 (by omega) (by omega), EZ_mo y4 (by omega) (by omega)⟩⟩, fun z => absurd z (EZ_e y3)⟩
      have two : T2 (fun n => x_readParts n 2 N1 τ1) (fun n => x_readParts n 2 N2 τ2) (fun r1 r2 => RPq t (if fl = 0 then k - 1 else k) w XC σ1 σ2 r1 r2 ∧ (r1.2.1 56 = 0 → PKp t σ1 r1.2)) := by
        refine T2_suc (fun n => by rw [x_readParts]) (fun n => by rw [x_readParts]) ?_
        rw [e1, e2, c1, c2]
        refine T2_ite Iff.rfl (fun _ _ => ?_) (fun z _ => absurd rfl z)
        refine T2_chk (n_in (by omega) (by omega)) (n_in (by omega) (by omega)) ?_
        rw [n_cl (p := ch i) (by omega), (tb τ1 τ2 f1 f2 9 _ (by omega) (by omega) (by omega)).1, (tb τ1 τ2 f1 f2 9 _ (by omega) (by omega) (by omega)).2, c9]
        refine T2_ob (E_swP (by omega) (by omega) hJ) (fun r1 r2 hr => ?_)
        obtain ⟨hr, pk4⟩ := hr
        obtain ⟨k1, k2, g1, l1, B1, h1, X1, g2, l2, B2, h2, X2, hX', rm1, rm2⟩ := hr
        have ff1 := FE_tr f1 k1
        have ff2 := FE_tr f2 k2
        have fv := five r1.2 r2.2 g1 l1 B1 h1 X1 g2 l2 B2 h2 X2 ff1 ff2 (PK_tr pk (PK_mo (by omega) pk4)) hX'
        have hX0 := hX'
        obtain ⟨m1, m2, aR, _, _, t1, o1, o2, _⟩ := hX'
        have t2 : r2.2.1 59 = nI (t + 1 + i) := (aR.2.2.1 59 (by unfold AlS; omega)).symm.trans t1
        have tt : nI (t + 1 + i) - 1 = nI (t + i) := (n_sub (p := t + 1 + i) (q := 1) (by omega) (by omega)).trans (by rw [show t + 1 + i - 1 = t + i by omega])
        rw [t1, t2, tt, g5, g6]
        refine T2_chk (n_in (by omega) (by omega)) (n_in (by omega) (by omega)) ?_
        refine T2_chk (n_in (by omega) (by omega)) (n_in (by omega) (by omega)) ?_
        rw [n_cl (p := ch (i + 1)) (by omega), n_cl (p := t + i) (by omega), (tb _ _ ff1 ff2 4 _ (by omega) (by omega) (by omega)).1, (tb _ _ ff1 ff2 4 _ (by omega) (by omega) (by omega)).2]
        have P1 : VP g1 l1 B1 h1 (t + 1 + i) r1.2 := ⟨m1.1, t1, by omega, ⟨0, o1, by decide⟩⟩
        have P2 : VP g2 l2 B2 h2 (t + 1 + i) r2.2 := ⟨m2.1, t2, by omega, ⟨0, o2, by decide⟩⟩
        obtain ⟨va, vb, va1, va2, va3, va4, va5, va6, va7⟩ := aR.1 29 (t + i) (Or.inl ⟨rfl, by omega⟩) (by unfold VwR; omega)
        obtain ⟨vc, vd, vc1, vc2, vc3, vc4, vc5, vc6, vc7⟩ := aR.1 29 (u + kys T ch i) (Or.inl ⟨rfl, by omega⟩) (by unfold VwR; omega)
        rw [va1, va3]
        refine T2_ite Iff.rfl (fun _ _ => ?_) (fun n21 _ => ?_)
        · refine T2_chk (n_in (by omega) (by omega)) (n_in (by omega) (by omega)) ?_
          rw [n_cl (p := u + kys T ch i) (by omega), vc1, vc3]
          exact T2_ob (E_op hX0 (s_partAt P1 va2 vc2 rfl rfl) (s_partAt P2 va4 vc4 rfl rfl) (fun n => k_partAt m1.1 m2.1 o1 o2 (by omega) (by omega) va2 va4 va5 vc2 vc4 vc5 rfl rfl rfl rfl) (fun k => wl_partAt k _ _ _) (fun k => wl_partAt k _ _ _) (c := 8600) (by omega)) (fun s1 s2 hs => fv s1 s2 _ _ rfl rfl a1 a2 b1 b2 rfl rfl g5 g6 hs)
        have three : ∀ (O1 O2 : Nat → Int32), O1 1 = nI (ch k) → O2 1 = nI (ch k) → O1 3 = fl → O2 3 = fl → O1 4 = nI (ch (i + 1)) → O2 4 = nI (ch (i + 1)) → O1 5 = nI (u + kys T ch i) → O2 5 = nI (u + kys T ch i) → O1 6 = nI va → O2 6 = nI vb → T2 (fun n => x_readParts n 3 O1 r1.2) (fun n => x_readParts n 3 O2 r2.2) (fun r1 r2 => RPq t (if fl = 0 then k - 1 else k) w XC σ1 σ2 r1 r2 ∧ (r1.2.1 56 = 0 → PKp t σ1 r1.2)) := by
          intro O1 O2 o11 o12 o31 o32 o41 o42 o51 o52 o61 o62
          refine T2_suc (fun n => by rw [x_readParts]) (fun n => by rw [x_readParts]) ?_
          rw [o41, o42, o51, o52, o61, o62]
          refine T2_chk (n_in (by omega) (by omega)) (n_in (by omega) (by omega)) ?_
          rw [n_cl (p := ch (i + 1)) (by omega), (tb _ _ ff1 ff2 4 _ (by omega) (by omega) (by omega)).1, (tb _ _ ff1 ff2 4 _ (by omega) (by omega) (by omega)).2]
          refine T2_ite Iff.rfl (fun _ _ => ?_) (fun n23 _ => ?_)
          · refine T2_chk (n_in (by omega) (by omega)) (n_in (by omega) (by omega)) ?_
            rw [n_cl (p := u + kys T ch i) (by omega), vc1, vc3]
            exact T2_ob (E_op hX0 (s_image P1 va2 vc2 rfl rfl) (s_image P2 va4 vc4 rfl rfl) (fun n => k_image m1.1 m2.1 o1 o2 t1 t2 (by omega) (by omega) (by omega) va2 va4 va5 vc2 vc4 vc5 rfl rfl rfl rfl) (fun k => wl_image k _ _ _) (fun k => wl_image k _ _ _) (c := 8600) (by omega)) (fun s1 s2 hs => fv s1 s2 _ _ rfl rfl o11 o12 o31 o32 o41 o42 o51 o52 hs)
          · have y22 : T 4 (ch (i + 1)) = 22 := by
              rcases c4 with z | z | z
              · exact absurd z n21
              · exact z
              · exact absurd z n23
            rw [if_pos y22] at ek
            refine T2_suc (fun n => by rw [x_readParts]) (fun n => by rw [x_readParts]) ?_
            rw [o51, o52, o61, o62, n_add1]
            refine T2_chk (n_in (by omega) (by omega)) (n_in (by omega) (by omega)) ?_
            refine T2_chk (n_in (by omega) (by omega)) (n_in (by omega) (by omega)) ?_
            obtain ⟨ve, vf, ve1, ve2, ve3, ve4, ve5, ve6, ve7⟩ := aR.1 29 (u + kys T ch i + 1) (Or.inl ⟨rfl, by omega⟩) (by unfold VwR; omega)
            rw [n_cl (p := u + kys T ch i) (by omega), n_cl (p := u + kys T ch i + 1) (by omega), vc1, vc3, ve1, ve3]
            refine T2_ob (E_op hX0 (s_slice P1 va2 vc2 ve2 rfl rfl rfl) (s_slice P2 va4 vc4 ve4 rfl rfl rfl) (fun n => k_slice m1.1 m2.1 o1 o2 t1 t2 (by omega) (by omega) (by omega) va2 va4 va5 vc2 vc4 vc5 ve2 ve4 ve5 rfl rfl rfl rfl rfl rfl (fun i hi => ?_)) (fun k => wl_slice k _ _ _) (fun k => wl_slice k _ _ _) (c := 8600) (by omega)) (fun s1 s2 hs => fv s1 s2 _ _ rfl rfl o11 o12 o31 o32 o41 o42 o51 o52 hs)
            rw [upd_other (by omega), upd_other (by omega), upd_other (by omega), upd_other (by omega), upd_other (by omega), upd_other (by omega)]
        exact three _ _ a1 a2 b1 b2 rfl rfl g5 g6 rfl rfl
      have ne : ¬ nI (ch i) = nI (ch k) := fun z => absurd ((Tgt_eq h (by omega)).mp z) (by split at hi <;> omega)
      refine T2_suc (fun n => by rw [x_readParts]) (fun n => by rw [x_readParts]) ?_
      rw [a1, a2, b1, b2, c1, c2]
      refine T2_ite Iff.rfl (fun z _ => absurd z ne) (fun _ _ => ?_)
      refine T2_ite Iff.rfl (fun y _ => ?_) (fun _ _ => two)
      refine T2_chk (n_in (by omega) (by omega)) (n_in (by omega) (by omega)) ?_
      rw [n_cl (p := ch i) (by omega), (tb τ1 τ2 f1 f2 9 _ (by omega) (by omega) (by omega)).1, (tb τ1 τ2 f1 f2 9 _ (by omega) (by omega) (by omega)).2, c9]
      refine T2_ite Iff.rfl (fun z _ => absurd ((Tgt_eq h (by omega)).mp z) ?_) (fun _ _ => two)
      rw [if_pos y] at hi
      omega
  refine T2_suc (fun n => by rw [x_readParts]) (fun n => by rw [x_readParts]) ?_
  refine T2_ob (T2_t (s_nameOf h (fun i hi => hS.1.1 4 i (by omega) (by omega) (by omega)) (fun i hi => hS.1.1 6 i (by omega) (by omega) (by omega)) d1) (s_nameOf h (fun i hi => hS2.1.1 4 i (by omega) (by omega) (by omega)) (fun i hi => hS2.1.1 6 i (by omega) (by omega) (by omega)) d2)) (fun r1 r2 hr => ?_)
  rw [hr.1, hr.2]
  have hI0 := hI
  obtain ⟨g1, l1, B1, h1, X1, g2, l2, B2, h2, X2, hX'⟩ := hI0
  obtain ⟨c4, s, c6, cs, c5⟩ := h.2.1
  obtain ⟨a, i, hR, ha, _, _, hT⟩ := E_val hS.1 hX' hS.2 (h.1 0 (by omega)) c6 cs c5 (L1 := upd (fun _ => 0) 1 (nI (ch 0))) (L2 := upd (fun _ => 0) 1 (nI (ch 0))) rfl rfl
  refine T2_ob hT (fun s1 s2 hs => ?_)
  rw [hs.1, hs.2]
  have t1 := (EI_59 hI).1
  refine T2_ob (T2_and (E_prt hI (by omega) hR (by unfold VwR; omega) rfl rfl) (T2_t (s_push t1 (by omega) _) (s_push (EI_59 hI).2 (by omega) _))) (fun v1 v2 hv => ?_)
  obtain ⟨⟨f1, f2, hv⟩, hs1, _⟩ := hv
  have pk0 : PKp t σ1 v1.2 := by rw [hs1]; exact PK_pu (Nat.le_refl _)
  rw [u1, u2]
  exact lp _ 0 rfl w v1.2 v2.2 _ _ (Nat.le_refl _) f1 f2 pk0 hv d1 d2 q1 q2 rfl rfl rfl rfl
theorem E_readParts (hX : XC ≤ 402000) (h : Tgt T FN lc k ch) (ht : t + k ≤ 120000 ∧ t ≤ 90000) (hu : u + kys T ch k ≤ t) (hS : Sc0 T FN lc σ1) (hI : EI t w XC σ1 σ2) {fl : Int32} {L1 L2 : Nat → Int32} (d1 : L1 1 = nI (ch k)) (d2 : L2 1 = nI (ch k)) (u1 : L1 2 = nI u) (u2 : L2 2 = nI u) (q1 : L1 3 = fl) (q2 : L2 3 = fl) : T2 (fun n => x_readParts n 0 L1 σ1) (fun n => x_readParts n 0 L2 σ2) (RPq t (if fl = 0 then k - 1 else k) w XC σ1 σ2) := T2_mono (E_readPartsP hX h ht hu hS hI d1 d2 u1 u2 q1 q2) (fun r1 r2 hr => hr.1)
end RDP
end JnS231
section JnS232
/-! Statements (reference): what counts, the totals; what a statement's pieces leave. -/
/-- a sum -/
def suN (f : Nat → Nat) : Nat → Nat
  | 0 => 0
  | n + 1 => suN f n + f n
theorem suN_c {f g : Nat → Nat} : ∀ {n : Nat}, (∀ i, i < n → f i = g i) → suN f n = suN g n
  | 0, _ => rfl
  | n + 1, h => by
    show suN f n + f n = suN g n + g n
    rw [suN_c (fun i hi => h i (by omega)), h n (by omega)]
theorem suN_1 {f g : Nat → Nat} {i : Nat} : ∀ {n : Nat}, i < n → (∀ j, j < n → j ≠ i → f j = g j) → suN g n + f i = suN f n + g i
  | 0, h, _ => by omega
  | n + 1, hi, h => by
    show suN g n + g n + f i = suN f n + f n + g i
    by_cases e : i = n
    · subst e
      rw [suN_c (f := f) (g := g) (fun j hj => h j (by omega) (by omega))]; omega
    · have := suN_1 (f := f) (g := g) (i := i) (n := n) (by omega) (fun j hj hn => h j (by omega) hn)
      rw [h n (by omega) (by omega)]; omega
theorem suN_le {f : Nat → Nat} {i : Nat} : ∀ {n : Nat}, i < n → f i ≤ suN f n
  | 0, h => by omega
  | n + 1, hi => by
    show f i ≤ suN f n + f n
    by_cases e : i = n
    · subst e; omega
    · have := suN_le (f := f) (i := i) (n := n) (by omega); omega
theorem suN_0 {f : Nat → Nat} : ∀ {n : Nat}, (∀ i, i < n → f i = 0) → suN f n = 0
  | 0, _ => rfl
  | n + 1, h => by
    show suN f n + f n = 0
    rw [suN_0 (fun i hi => h i (by omega)), h n (by omega)]
/-- places of a row that don't count -/
def NUa (K A : Nat → Int32) (b i : Nat) : Prop := (4 ≤ i ∧ i < 64 ∧ K (i - 4) = 0) ∨ (214 ≤ i ∧ i < 3214 ∧ K (60 * (1 + (A (b + (65 + 3 * ((i - 214) / 60)))).toNatClampNeg) + (i - 214) % 60) = 0)
/-- places that count -/
def CtA (K A : Nat → Int32) (b i : Nat) : Prop := StI A b (b + i) ∧ ¬ NUa K A b i
noncomputable def szP (H K A : Nat → Int32) (b i : Nat) : Nat := @ite Nat (CtA K A b i) (Classical.propDecidable (CtA K A b i)) (szN H (A (b + i)).toNatClampNeg) 0
noncomputable def SzS (H K A : Nat → Int32) (b : Nat) : Nat := suN (szP H K A b) 11514
/-- the total of a state, of its points -/
noncomputable def StS (σ : MS) : Nat := SzS (σ.2.2 28) (kC σ) (σ.2.2 30) 0
noncomputable def PtS (σ : MS) (p : Nat) : Nat := SzS (σ.2.2 28) (kC σ) (σ.2.2 31) (11514 * p)
/-- calls of a row -/
def CWa (A : Nat → Int32) (b : Nat) : Prop := ∃ c, A (b + 1) = nI c ∧ c ≤ 50 ∧ ∀ i, i < c → ∃ pr, A (b + (65 + 3 * i)) = nI pr ∧ pr < 41
theorem CWa_c {A A' : Nat → Int32} {b b' : Nat} (h : CWa A b) (h1 : A' (b' + 1) = A (b + 1)) (hh : ∀ j, 65 ≤ j → j < 214 → A' (b' + j) = A (b + j)) : CWa A' b' := by
  obtain ⟨c, c1, c2, c3⟩ := h
  refine ⟨c, h1.trans c1, c2, fun i hi => ?_⟩
  rw [hh (65 + 3 * i) (by omega) (by omega)]; exact c3 i hi
/-- the iterators of a point are good -/
def ItP (σ : MS) (p : Nat) : Prop := ∃ q, σ.2.2 31 (11514 * p + 3) = nI q ∧ q ≤ 3100 ∧ ∀ i, i < q → 4 ≤ (szV σ 31 (11514 * p + (5314 + i))).2.1 ∧ ∃ m k, (szV σ 31 (11514 * p + (5314 + i))).2.2 = nI m ∧ m ≤ 3996 ∧ σ.2.2 31 (11514 * p + (8414 + i)) = nI k ∧ k ≤ m
theorem ItP_c {σ ρ : MS} {p : Nat} (h28 : ρ.2.2 28 = σ.2.2 28) (h31 : ∀ j, j < 11514 → ρ.2.2 31 (11514 * p + j) = σ.2.2 31 (11514 * p + j)) (h : ItP σ p) : ItP ρ p := by
  obtain ⟨q, q1, q2, q3⟩ := h
  refine ⟨q, (h31 3 (by omega)).trans q1, q2, fun i hi => ?_⟩
  have e : szV ρ 31 (11514 * p + (5314 + i)) = szV σ 31 (11514 * p + (5314 + i)) := by unfold szV; rw [h28, h31 (5314 + i) (by omega)]
  rw [e, h31 (8414 + i) (by omega)]; exact q3 i hi
/-- what doesn't count is om -/
def NUo (P : Nat) (σ : MS) : Prop := (∀ i, StI (σ.2.2 30) 0 i → NUa (kC σ) (σ.2.2 30) 0 i → σ.2.2 30 i = 0) ∧ (∀ p, p < P → ∀ i, StI (σ.2.2 31) (11514 * p) (11514 * p + i) → NUa (kC σ) (σ.2.2 31) (11514 * p) i → σ.2.2 31 (11514 * p + i) = 0) ∧ (∀ i, i < 1380 → σ.2.2 33 i = 0) ∧ CWa (σ.2.2 30) 0 ∧ ∀ p, p < P → CWa (σ.2.2 31) (11514 * p) ∧ ItP σ p
/-- the totals are what they are said to be -/
def UT (σ : MS) : Prop := σ.1 64 = nI (StS σ) ∧ ∃ P, σ.1 63 = nI P ∧ P ≤ 20 ∧ σ.1 65 = nI (suN (PtS σ) P) ∧ (∀ p, p < P → σ.2.2 32 p = nI (PtS σ p)) ∧ StS σ + suN (PtS σ) P ≤ 40000 ∧ NUo P σ
section UTS
variable {σ ρ τ : MS} {N : Nat → Nat → Prop}
theorem NU_a {i : Nat} : NU σ 30 i ↔ NUa (kC σ) (σ.2.2 30) 0 i := by
  unfold NU NUa
  rw [Nat.zero_add]
  constructor
  · rintro (z | z)
    · omega
    · exact z.2
  · intro z; exact Or.inr ⟨rfl, z⟩
theorem StI_c {A A' : Nat → Int32} {b i : Nat} (h1 : A' (b + 1) = A (b + 1)) (h3 : A' (b + 3) = A (b + 3)) : StI A' b i ↔ StI A b i := by unfold StI; rw [h1, h3]
theorem NUa_c {K A A' : Nat → Int32} {b i : Nat} (h : ∀ j, 65 ≤ j → j < 214 → A' (b + j) = A (b + j)) : NUa K A' b i ↔ NUa K A b i := by
  unfold NUa
  by_cases c : 214 ≤ i ∧ i < 3214
  · rw [h (65 + 3 * ((i - 214) / 60)) (by omega) (by omega)]
  · constructor
    · rintro (z | z)
      · exact Or.inl z
      · exact absurd ⟨z.1, z.2.1⟩ c
    · rintro (z | z)
      · exact Or.inl z
      · exact absurd ⟨z.1, z.2.1⟩ c
/-- rows that have the same heads: the sums are alike, if sizes are -/
theorem szP_c {H H' K A A' : Nat → Int32} {b b' i : Nat} (h1 : A' (b' + 1) = A (b + 1)) (h3 : A' (b' + 3) = A (b + 3)) (hh : ∀ j, 65 ≤ j → j < 214 → A' (b' + j) = A (b + j)) (hs : CtA K A b i → szN H' (A' (b' + i)).toNatClampNeg = szN H (A (b + i)).toNatClampNeg) : (CtA K A' b' i ↔ CtA K A b i) ∧ szP H' K A' b' i = szP H K A b i := by
  have e1 : StI A' b' (b' + i) ↔ StI A b (b + i) := by
    unfold StI; rw [h1, h3]
    omega
  have e2 : NUa K A' b' i ↔ NUa K A b i := by
    unfold NUa
    by_cases c : 214 ≤ i ∧ i < 3214
    · rw [hh (65 + 3 * ((i - 214) / 60)) (by omega) (by omega)]
    · constructor
      · rintro (z | z)
        · exact Or.inl z
        · exact absurd ⟨z.1, z.2.1⟩ c
      · rintro (z | z)
        · exact Or.inl z
        · exact absurd ⟨z.1, z.2.1⟩ c
  have e : CtA K A' b' i ↔ CtA K A b i := by unfold CtA; rw [e1, e2]
  refine ⟨e, ?_⟩
  unfold szP
  by_cases c : CtA K A b i
  · rw [if_pos c, if_pos (e.mpr c), hs c]
  · rw [if_neg c, if_neg (fun z => c (e.mp z))]
/-- an evaluation keeps the totals -/
theorem UT_fe (hF : FE σ ρ) (h : UT σ) : UT ρ := by
  have hB := FEn_b hF
  obtain ⟨b63, b20, b30, b31⟩ := hB
  obtain ⟨h64, P, h63, hP, h65, h32, hle, o1, o2, o3, o4, o5⟩ := h
  have K : kC ρ = kC σ := funext b20
  have kp := hF.2.2.2
  have sc : ∀ j, AlS j → j ≠ 57 → j ≠ 59 → j ≠ 95 → ρ.1 j = σ.1 j := hF.1
  have sS : StS ρ = StS σ := by
    unfold StS SzS
    rw [K]
    refine suN_c (fun i hi => (szP_c (b30 1 (by unfold Zn; omega)) (b30 3 (by unfold Zn; omega)) (fun j h1 h2 => b30 (0 + j) (by unfold Zn; omega)) (fun c => ?_)).2)
    rw [Nat.zero_add]
    have c1 : StI (σ.2.2 30) 0 i := by have := c.1; rw [Nat.zero_add] at this; exact this
    rcases kp 30 i (Or.inl ⟨rfl, c1⟩) (fun z => z) with z | z
    · exact congrArg (fun (z : Nat × Nat × Int32) => z.1) z.1
    · exact absurd (NU_a.mp z.2) c.2
  have zn31 : ∀ p j, j < 11514 → j < 4 ∨ (64 ≤ j ∧ j < 214) → ¬ Zn 31 (11514 * p + j) := fun p j hj h => by unfold Zn; omega
  have i31 : ∀ p i, p < P → StI (σ.2.2 31) (11514 * p) (11514 * p + i) → szV ρ 31 (11514 * p + i) = szV σ 31 (11514 * p + i) ∧ (σ.2.2 31 (11514 * p + i) = 0 → ρ.2.2 31 (11514 * p + i) = 0) := fun p i hp c => by
    rcases kp 31 (11514 * p + i) (Or.inr (Or.inl ⟨rfl, p, by rw [h63, n_cl (by omega)]; exact hp, c⟩)) (fun z => z) with z | z
    · exact ⟨z.1, z.2.1⟩
    · exact absurd z.2 (by unfold NU; omega)
  have c31 : ∀ p i, p < P → (CtA (kC σ) (ρ.2.2 31) (11514 * p) i ↔ CtA (kC σ) (σ.2.2 31) (11514 * p) i) ∧ szP (ρ.2.2 28) (kC σ) (ρ.2.2 31) (11514 * p) i = szP (σ.2.2 28) (kC σ) (σ.2.2 31) (11514 * p) i := fun p i hp => szP_c (b31 _ (zn31 p 1 (by omega) (by omega))) (b31 _ (zn31 p 3 (by omega) (by omega))) (fun j h1 h2 => b31 _ (zn31 p j (by omega) (by omega))) (fun c => congrArg (fun (z : Nat × Nat × Int32) => z.1) (i31 p i hp c.1).1)
  have sP : ∀ p, p < P → PtS ρ p = PtS σ p := fun p hp => by
    unfold PtS SzS
    rw [K]
    exact suN_c (fun i hi => (c31 p i hp).2)
  have sP' : suN (PtS ρ) P = suN (PtS σ) P := suN_c sP
  refine ⟨?_, P, (sc 63 (by unfold AlS; omega) (by decide) (by decide) (by decide)).trans h63, hP, ?_, fun p hp => ?_, ?_, fun i c n => ?_, fun p hp i c n => ?_, fun i hi => ?_, CWa_c o4 (b30 1 (by unfold Zn; omega)) (fun j h1 h2 => b30 (0 + j) (by unfold Zn; omega)), fun p hp => ⟨CWa_c (o5 p hp).1 (b31 _ (zn31 p 1 (by omega) (by omega))) (fun j h1 h2 => b31 _ (zn31 p j (by omega) (by omega))), ?_⟩⟩
  · rw [sS, sc 64 (by unfold AlS; omega) (by decide) (by decide) (by decide)]; exact h64
  · rw [sP', sc 65 (by unfold AlS; omega) (by decide) (by decide) (by decide)]; exact h65
  · rw [sP p hp, hF.2.1 32 p (by unfold AlR; omega) (by unfold Zn; omega) (by omega)]; exact h32 p hp
  · rw [sS, sP']; exact hle
  · have c' : StI (σ.2.2 30) 0 i := (StI_c (b30 1 (by unfold Zn; omega)) (b30 3 (by unfold Zn; omega))).mp c
    rw [K] at n
    have n' : NUa (kC σ) (σ.2.2 30) 0 i := (NUa_c (fun j h1 h2 => b30 (0 + j) (by unfold Zn; omega))).mp n
    rcases kp 30 i (Or.inl ⟨rfl, c'⟩) (fun z => z) with z | z
    · exact z.2.1 (o1 i c' n')
    · exact z.1
  · have c' : StI (σ.2.2 31) (11514 * p) (11514 * p + i) := (StI_c (b31 _ (zn31 p 1 (by omega) (by omega))) (b31 _ (zn31 p 3 (by omega) (by omega)))).mp c
    rw [K] at n
    have n' : NUa (kC σ) (σ.2.2 31) (11514 * p) i := (NUa_c (fun j h1 h2 => b31 _ (zn31 p j (by omega) (by omega)))).mp n
    exact (i31 p i hp c').2 (o2 p hp i c' n')
  · rcases kp 33 i (Or.inr (Or.inr ⟨rfl, hi⟩)) (fun z => z) with z | z
    · exact z.2.1 (o3 i hi)
    · exact z.1
  · obtain ⟨q, q1, q2, q3⟩ := (o5 p hp).2
    refine ⟨q, (b31 _ (zn31 p 3 (by omega) (by omega))).trans q1, q2, fun i hi => ?_⟩
    have c : StI (σ.2.2 31) (11514 * p) (11514 * p + (5314 + i)) := by
      unfold StI; rw [q1, n_cl (p := q) (by omega)]; omega
    rw [(i31 p (5314 + i) hp c).1, b31 (11514 * p + (8414 + i)) (by unfold Zn; omega)]; exact q3 i hi
/-- what a piece of a statement leaves as it was -/
def FSt (σ ρ : MS) : Prop := (∀ j, AlS j → j ≠ 57 → j ≠ 59 → j ≠ 95 → j ≠ 64 → ρ.1 j = σ.1 j) ∧ (∀ a i, AlR a → ¬ Zn a i → ¬ ((a = 35 ∨ a = 50) ∧ (σ.1 72).toNatClampNeg ≤ i) → ρ.2.2 a i = σ.2.2 a i) ∧ ρ.2.2 2 = σ.2.2 2 ∧ ∀ i, 5314 ≤ i → StI (σ.2.2 30) 0 i → szV ρ 30 i = szV σ 30 i
theorem FS_fe (h : FE σ ρ) : FSt σ ρ := by
  refine ⟨fun j a b c d _ => h.1 j a b c d, h.2.1, h.2.2.1, fun i hi c => ?_⟩
  rcases h.2.2.2 30 i (Or.inl ⟨rfl, c⟩) (fun z => z) with z | z
  · exact z.1
  · exact absurd z.2 (by unfold NU; omega)
theorem FS_rf : FSt σ σ := FS_fe FE_rf
theorem FS_tr (a : FSt σ τ) (b : FSt τ ρ) : FSt σ ρ := by
  have e : τ.1 72 = σ.1 72 := a.1 72 (by unfold AlS; omega) (by decide) (by decide) (by decide) (by decide)
  refine ⟨fun j h1 h2 h3 h4 h5 => (b.1 j h1 h2 h3 h4 h5).trans (a.1 j h1 h2 h3 h4 h5), fun x i h1 h2 h3 => ?_, b.2.2.1.trans a.2.2.1, fun i hi c => ?_⟩
  · rw [b.2.1 x i h1 h2 (by rw [e]; exact h3), a.2.1 x i h1 h2 h3]
  · rw [b.2.2.2 i hi ((StI_c (a.2.1 30 1 (by unfold AlR; omega) (by unfold Zn; omega) (by omega)) (a.2.1 30 3 (by unfold AlR; omega) (by unfold Zn; omega) (by omega))).mpr c), a.2.2.2 i hi c]
theorem Sc0_fs {T : Nat → Nat → Int32} {FN : Nat → Nat → Prop} {lc : Nat → Prop} (h : Sc0 T FN lc σ) (hF : FSt σ ρ) : Sc0 T FN lc ρ := ⟨STb_b h.1 (fun j hj => hF.1 j (by unfold AlS; omega) (by omega) (by omega) (by omega) (by omega)) (fun a i q => hF.2.1 a i (by unfold AlR; omega) (by unfold Zn; omega) (by omega)), Cx_b h.2 (fun j hj => hF.1 j (by unfold AlS; omega) (by omega) (by omega) (by omega) (by omega)) (kC_c (fun i => hF.2.1 20 i (by unfold AlR; omega) (by unfold Zn; omega) (by omega)) (fun i _ => hF.2.1 21 i (by unfold AlR; omega) (by unfold Zn; omega) (by omega)) (hF.1 30 (by unfold AlS; omega) (by omega) (by omega) (by omega) (by omega))) (fun i hz _ => hF.2.1 30 i (by unfold AlR; omega) hz (by omega))⟩
end UTS
end JnS232
section JnS233
/-! Statements on both sides (reference): a variable is written. -/
theorem n_mix {a b c : Nat} (h : a + b < 2147483648) (hc : c ≤ a + b) : nI a + (nI b - nI c) = nI (a + b - c) := by
  have e : nI a + (nI b - nI c) = (nI a + nI b) - nI c := by rw [Int32.sub_eq_add_neg, Int32.sub_eq_add_neg, Int32.add_assoc]
  rw [e, n_add h, n_sub h hc]
/-- slots that count (1 + s: of the program, 61 + s: of a proc's call) -/
def CnU (cn : Nat → Prop) (σ : MS) : Prop := (∀ s, s < 60 → cn (1 + s) → ¬ kC σ s = 0) ∧ ∀ s c, s < 60 → cn (61 + s) → σ.2.2 30 1 = nI c → 1 ≤ c → c ≤ 50 → ¬ kC σ (60 * (1 + (σ.2.2 30 (65 + 3 * (c - 1))).toNatClampNeg) + s) = 0
/-- what a statement stands on -/
def Sc1 (T : Nat → Nat → Int32) (FN : Nat → Nat → Prop) (lc cn : Nat → Prop) (σ : MS) : Prop := Sc0 T FN lc σ ∧ σ.1 69 = 0 ∧ CnU cn σ
/-- the place of a slot -/
def plc (T : Nat → Nat → Int32) (c n s : Nat) : Nat := if T 5 n = 0 then 4 + s else 214 + 60 * (c - 1) + s
/-- a name that is written -/
def NmW (T : Nat → Nat → Int32) (lc cn : Nat → Prop) (n s : Nat) : Prop := (1 ≤ n ∧ n < LNo T % 70001) ∧ T 6 n = nI s ∧ s < 60 ∧ (T 5 n = 0 ∨ lc 0) ∧ cn (if T 5 n = 0 then 1 + s else 61 + s)
/-- behind a piece of a statement -/
def SQ (b t w XC : Nat) (σ1 σ2 : MS) (r1 r2 : MS) : Prop := FSt σ1 r1 ∧ FSt σ2 r2 ∧ UT r1 ∧ UT r2 ∧ ((∃ w', w ≤ w' ∧ EI t w' XC r1 r2) ∨ (EZ t b r1 ∧ EZ t b r2))
section ASG
variable {T : Nat → Nat → Int32} {FN : Nat → Nat → Prop} {lc cn : Nat → Prop} {t w XC n s c : Nat} {σ σ1 σ2 ρ : MS}
theorem EI_s {j : Nat} {x : Int32} (hj : ¬ (j = 54 ∨ j = 55 ∨ j = 56 ∨ j = 57 ∨ j = 59 ∨ j = 63 ∨ j = 72 ∨ j = 95 ∨ j = 22 ∨ j = 24 ∨ j = 30 ∨ j = 44)) (hE : EI t w XC σ1 σ2) : EI t w XC (mSc σ1 j x) (mSc σ2 j x) := by
  obtain ⟨g1, l1, B1, h1, X1, g2, l2, B2, h2, X2, m1, m2, hR, i1, i2, t1, e1, e2, w1, hw, x1, x2, y, a, a1, a2⟩ := hE
  have n : ∀ {i : Nat}, ¬ i = j → ∀ σ : MS, (mSc σ j x).1 i = σ.1 i := fun h σ => upd_other h
  have c1 : ∀ σ : MS, (mSc σ j x).1 54 = σ.1 54 := n (by omega)
  have c2 : ∀ σ : MS, (mSc σ j x).1 55 = σ.1 55 := n (by omega)
  have c3 : ∀ σ : MS, (mSc σ j x).1 63 = σ.1 63 := n (by omega)
  have c4 : ∀ σ : MS, (mSc σ j x).1 72 = σ.1 72 := n (by omega)
  have c22 : ∀ σ : MS, (mSc σ j x).1 22 = σ.1 22 := n (by omega)
  have c24 : ∀ σ : MS, (mSc σ j x).1 24 = σ.1 24 := n (by omega)
  refine ⟨g1, l1, B1, h1, X1, g2, l2, B2, h2, X2, MI_c m1 (c1 _) (c2 _) (c3 _) (c4 _) rfl, MI_c m2 (c1 _) (c2 _) (c3 _) (c4 _) rfl, RA_c hR rfl rfl (c3 _) (c4 _) (c22 _) (c24 _) (n (i := 30) (by omega) _) (n (i := 44) (by omega) _) (fun i hi => ?_) hR.2.2.2, IT_c (c4 _) rfl rfl rfl i1, IT_c (c4 _) rfl rfl rfl i2, (n (i := 59) (by omega) _).trans t1, (n (i := 56) (by omega) _).trans e1, (n (i := 56) (by omega) _).trans e2, (n (i := 57) (by omega) _).trans w1, hw, x1, x2, y, a, (n (i := 95) (by omega) _).trans a1, a2⟩
  show upd σ1.1 j x i = upd σ2.1 j x i
  by_cases e : i = j
  · rw [e, upd_same, upd_same]
  · rw [upd_other e, upd_other e]; exact hR.2.2.1 i hi
theorem EZ_s {a b j : Nat} {x : Int32} (hj : ¬ (j = 54 ∨ j = 55 ∨ j = 56 ∨ j = 57 ∨ j = 59 ∨ j = 63 ∨ j = 72 ∨ j = 95)) (h : EZ a b σ) : EZ a b (mSc σ j x) := by
  obtain ⟨g, l, B, h', t, m, c1, c2, c3, c4, c5, ⟨w, c6, c6'⟩, ⟨c, c7, c8⟩⟩ := h
  have n : ∀ {i : Nat}, ¬ i = j → (mSc σ j x).1 i = σ.1 i := fun h => upd_other h
  refine ⟨g, l, B, h', t, MI_c m (n (by omega)) (n (by omega)) (n (by omega)) (n (by omega)) rfl, (n (by omega)).trans c1, c2, c3, ?_, ErB_c (n (by omega)) c5, ⟨w, (n (by omega)).trans c6, c6'⟩, ⟨c, (n (by omega)).trans c7, c8⟩⟩
  rw [n (i := 56) (by omega)]; exact c4
theorem CnU_fs (h : CnU cn σ) (hF : FSt σ ρ) : CnU cn ρ := by
  have e20 : ∀ i, kC ρ i = kC σ i := kC_c (fun i => hF.2.1 20 i (by unfold AlR; omega) (by unfold Zn; omega) (by omega)) (fun i _ => hF.2.1 21 i (by unfold AlR; omega) (by unfold Zn; omega) (by omega)) (hF.1 30 (by unfold AlS; omega) (by omega) (by omega) (by omega) (by omega))
  refine ⟨fun s hs z => by rw [e20]; exact h.1 s hs z, fun s c hs z e1 c1 c5 => ?_⟩
  rw [hF.2.1 30 1 (by unfold AlR; omega) (by unfold Zn; omega) (by omega)] at e1
  rw [e20, hF.2.1 30 (65 + 3 * (c - 1)) (by unfold AlR; omega) (by unfold Zn; omega) (by omega)]
  exact h.2 s c hs z e1 c1 c5
theorem Sc1_fs (h : Sc1 T FN lc cn σ) (hF : FSt σ ρ) : Sc1 T FN lc cn ρ := ⟨Sc0_fs h.1 hF, (hF.1 69 (by unfold AlS; omega) (by decide) (by decide) (by decide) (by decide)).trans h.2.1, CnU_fs h.2.2 hF⟩
theorem Sc1_ei (h : Sc1 T FN lc cn σ1) (hE : EI t w XC σ1 σ2) : Sc1 T FN lc cn σ2 := by
  refine ⟨Sc0_ei h.1 hE, ?_, ?_⟩
  · obtain ⟨g1, l1, B1, h1, X1, g2, l2, B2, h2, X2, _, _, hR, _⟩ := hE
    exact (hR.2.2.1 69 (by unfold AlS; omega)).symm.trans h.2.1
  · obtain ⟨g1, l1, B1, h1, X1, g2, l2, B2, h2, X2, _, _, hR, _⟩ := hE
    have e20 : ∀ i, kC σ2 i = kC σ1 i := kC_ra hR
    refine ⟨fun s hs z => by rw [e20]; exact h.2.2.1 s hs z, fun s c hs z e1 c1 c5 => ?_⟩
    rw [← hR.2.1 30 1 (by unfold AlR; omega) (by unfold Zn; omega) (InA_4 (by omega))] at e1
    rw [e20, ← hR.2.1 30 (65 + 3 * (c - 1)) (by unfold AlR; omega) (by unfold Zn; omega) (InA_cl e1 (by omega) (by omega))]
    exact h.2.2.2 s c hs z e1 c1 c5
/-- the totals read rows and three numbers -/
theorem UT_c {τ : MS} (h : UT σ) (a : τ.2.2 = σ.2.2) (h63 : τ.1 63 = σ.1 63) (h64 : τ.1 64 = σ.1 64) (h65 : τ.1 65 = σ.1 65) (hc : τ.1 30 = σ.1 30 := by first | rfl | assumption) : UT τ := by
  have k : kC τ = kC σ := kC_r (congrFun a 20) (congrFun a 21) hc
  unfold UT StS PtS NUo ItP szV at h ⊢
  rw [k, a, h63, h64, h65]; exact h
theorem FS_sc {j : Nat} {x : Int32} (hj : ¬ AlS j ∨ j = 57 ∨ j = 59 ∨ j = 95 ∨ j = 64) : FSt σ (mSc σ j x) := by
  refine ⟨fun i h1 h2 h3 h4 h5 => upd_other (fun e => ?_), fun _ _ _ _ _ => rfl, rfl, fun _ _ _ => rfl⟩
  subst e
  rcases hj with z | z
  · exact z h1
  · omega
/-- a place of a variable -/
theorem Nm_c (hS : Sc1 T FN lc cn σ) (hn : NmW T lc cn n s) : ∃ c, σ.2.2 30 1 = nI c ∧ c ≤ 50 ∧ (T 5 n = 0 ∨ 1 ≤ c) ∧ StI (σ.2.2 30) 0 (plc T c n s) ∧ CtA (kC σ) (σ.2.2 30) 0 (plc T c n s) ∧ PlV 30 (plc T c n s) := by
  obtain ⟨⟨hT, _, _, _, _, _, ⟨c, c1, c2, c3, _⟩, _⟩, h69, k1, k2⟩ := hS
  obtain ⟨n7, x6, hs, x5, hcn⟩ := hn
  have hc : T 5 n = 0 ∨ 1 ≤ c := by
    rcases x5 with z | z
    · exact Or.inl z
    · rcases c3 z with y | y
      · rw [h69] at y; exact absurd y (by decide)
      · exact Or.inr y.2
  refine ⟨c, c1, c2, hc, ?_⟩
  unfold plc
  by_cases z : T 5 n = 0
  · rw [if_pos z] at hcn ⊢
    have st : StI (σ.2.2 30) 0 (4 + s) := Or.inl ⟨by omega, by omega⟩
    refine ⟨st, ⟨by rw [Nat.zero_add]; exact st, ?_⟩, Or.inl ⟨rfl, by omega, by omega, by omega⟩⟩
    rintro (y | y)
    · exact k1 s hs hcn (by rw [show s = 4 + s - 4 by omega]; exact y.2.2)
    · omega
  · rw [if_neg z] at hcn ⊢
    have c1' := hc.resolve_left z
    have st : StI (σ.2.2 30) 0 (214 + 60 * (c - 1) + s) := by
      refine Or.inr (Or.inl ⟨by omega, ?_⟩)
      rw [Nat.zero_add, Nat.zero_add, c1, n_cl (p := c) (by omega)]; omega
    refine ⟨st, ⟨by rw [Nat.zero_add]; exact st, ?_⟩, Or.inl ⟨rfl, by omega, by omega, by omega⟩⟩
    rintro (y | y)
    · omega
    · refine k2 s c hs hcn c1 c1' c2 ?_
      have e1 : (214 + 60 * (c - 1) + s - 214) / 60 = c - 1 := by omega
      have e2 : (214 + 60 * (c - 1) + s - 214) % 60 = s := by omega
      have y := y.2.2
      rw [e1, e2, Nat.zero_add] at y
      exact y
/-- its value -/
theorem s_valS (hS : Sc1 T FN lc cn σ) (hn : NmW T lc cn n s) (hc : σ.2.2 30 1 = nI c) (h5 : c ≤ 50) {L : Nat → Int32} (d : L 1 = nI n) : Tm (fun k => x_valueOf k 0 L σ) (fun r => r = (σ.2.2 30 (plc T c n s), σ)) := by
  obtain ⟨c', c1, c2, c3, _⟩ := Nm_c hS hn
  have ec : c' = c := (n_eq (by omega) (by omega)).mp (c1.symm.trans hc)
  subst ec
  obtain ⟨⟨hT, _⟩, h69, _⟩ := hS
  obtain ⟨n7, x6, hs, _, _⟩ := hn
  have hin : ¬ (nI n < 0 ∨ 70000 ≤ (nI n).toNatClampNeg) := n_in (by omega) (by omega)
  unfold plc
  refine Tm_suc (fun k => by rw [x_valueOf]) ?_
  rw [d]
  refine Tm_chk hin ?_
  rw [n_cl (p := n) (by omega), hT.1 5 _ (by omega) (by omega) (by omega), hT.1 6 _ (by omega) (by omega) (by omega), x6]
  refine Tm_ite (fun z => ?_) (fun z => ?_)
  · rw [show (4 : Int32) + nI s = nI (4 + s) from n_add (p := 4) (by omega), if_pos z]
    refine Tm_chk (n_in3 (by omega) (by omega)) ?_
    refine Tm_chk (n_in (by omega) (by omega)) ?_
    rw [n_cl (p := 4 + s) (by omega)]
    exact Tm_some rfl
  · have hc1 := c3.resolve_left z
    rw [if_neg z]
    refine Tm_suc (fun k => by rw [x_valueOf]) ?_
    rw [h69]
    refine Tm_ite (fun _ => ?_) (fun z => absurd rfl z)
    refine Tm_suc (fun k => by rw [x_valueOf]) ?_
    rw [d, show (1 : Int32).toNatClampNeg = 1 from by decide, c1]
    refine Tm_chk (by decide) ?_
    refine Tm_chk hin ?_
    rw [n_cl (p := n) (by omega), hT.1 6 _ (by omega) (by omega) (by omega), x6, show nI c' - 1 = nI (c' - 1) from n_sub (p := c') (q := 1) (by omega) hc1, show (60 : Int32) * nI (c' - 1) = nI (60 * (c' - 1)) from n_mulN 60 (c' - 1), show (214 : Int32) + nI (60 * (c' - 1)) = nI (214 + 60 * (c' - 1)) from n_add (p := 214) (by omega), n_add (p := 214 + 60 * (c' - 1)) (by omega)]
    refine Tm_chk (n_in (by omega) (by omega)) ?_
    rw [n_cl (p := 214 + 60 * (c' - 1) + s) (by omega)]
    refine Tm_suc (fun k => by rw [x_valueOf]) ?_
    exact Tm_some rfl
theorem s_bndS (hS : Sc1 T FN lc cn σ) (hn : NmW T lc cn n s) (hc : σ.2.2 30 1 = nI c) (h5 : c ≤ 50) {L : Nat → Int32} (d : L 1 = nI n) : Tm (fun k => x_bindOne k 0 L σ) (fun r => r = (0, mAr σ 30 (plc T c n s) (L 2))) := by
  obtain ⟨n7, x6, hs, x5, _⟩ := hn
  obtain ⟨a, i, _, hp, hT⟩ := s_bindOne hS.1.1 hS.1.2 n7 x6 hs x5
  have e : a = 30 ∧ i = plc T c n s := by
    unfold plc
    rcases hp with ⟨z, e1, e2⟩ | ⟨z, _, e1, c', k1, k2, k3, e2⟩ | ⟨z, k, _⟩
    · rw [if_pos z]; exact ⟨e1, e2⟩
    · rw [if_neg z]
      have : c' = c := (n_eq (by omega) (by omega)).mp (k1.symm.trans hc)
      rw [← this]; exact ⟨e1, e2⟩
    · rw [hS.2.1] at k; exact absurd k (by decide)
  rw [e.1, e.2] at hT
  exact hT L d
/-- the totals behind a write -/
theorem UT_wr {g : Nat → Prop} {l : List Nat} {B h i m v : Nat} (hS : HS g l B h σ) (hU : UT σ) (hi : CtA (kC σ) (σ.2.2 30) 0 i) (hp : PlV 30 i) (hm : m < 3 ∨ g m) (ho : σ.2.2 30 i = nI v) (hv : v < 3 ∨ g v) (hle : StS σ + suN (PtS σ) (σ.1 63).toNatClampNeg - szN (σ.2.2 28) v + szN (σ.2.2 28) m ≤ 40000) : szN (σ.2.2 28) v ≤ StS σ ∧ UT (mAr (mSc σ 64 (nI (StS σ + szN (σ.2.2 28) m - szN (σ.2.2 28) v))) 30 i (nI m)) := by
  have bm := HS_vb hS hm
  have bv := HS_vb hS hv
  obtain ⟨h64, P, h63, hP, h65, h32, hl, o1, o2, o3, o4, o5⟩ := hU
  rw [h63, n_cl (p := P) (by omega)] at hle
  unfold PlV at hp
  have hi5 : i < 11514 := by omega
  have hw : ∀ j, j ≠ i → (upd (σ.2.2 30) i (nI m)) j = σ.2.2 30 j := fun j hj => upd_other hj
  have sz : ∀ j, szP (σ.2.2 28) (kC σ) (upd (σ.2.2 30) i (nI m)) 0 j = if j = i then szN (σ.2.2 28) m else szP (σ.2.2 28) (kC σ) (σ.2.2 30) 0 j := fun j => by
    by_cases e : j = i
    · rw [if_pos e, e]
      have c' : CtA (kC σ) (upd (σ.2.2 30) i (nI m)) 0 i := by
        refine ⟨(StI_c (hw _ (by omega)) (hw _ (by omega))).mpr hi.1, fun z => hi.2 ((NUa_c (fun j h1 h2 => hw _ (by omega))).mp z)⟩
      unfold szP
      rw [if_pos c', Nat.zero_add, upd_same, n_cl (by omega)]
    · rw [if_neg e]
      exact (szP_c (hw _ (by omega)) (hw _ (by omega)) (fun j h1 h2 => hw _ (by omega)) (fun _ => by rw [hw _ (by omega)])).2
  have s0 : szP (σ.2.2 28) (kC σ) (σ.2.2 30) 0 i = szN (σ.2.2 28) v := by
    unfold szP
    rw [if_pos hi, Nat.zero_add, ho, n_cl (by omega)]
  have le : szN (σ.2.2 28) v ≤ StS σ := by
    rw [← s0]; exact suN_le hi5
  have q1 : (mAr (mSc σ 64 (nI (StS σ + szN (σ.2.2 28) m - szN (σ.2.2 28) v))) 30 i (nI m)).2.2 30 = upd (σ.2.2 30) i (nI m) := mAr_s
  have q2 : ∀ a, a ≠ 30 → (mAr (mSc σ 64 (nI (StS σ + szN (σ.2.2 28) m - szN (σ.2.2 28) v))) 30 i (nI m)).2.2 a = σ.2.2 a := fun a ha => mAr_o ha
  generalize hr : mAr (mSc σ 64 (nI (StS σ + szN (σ.2.2 28) m - szN (σ.2.2 28) v))) 30 i (nI m) = ρ at q1 q2 ⊢
  have r64 : ρ.1 64 = nI (StS σ + szN (σ.2.2 28) m - szN (σ.2.2 28) v) := by rw [← hr]; rfl
  have r6 : ∀ j, j ≠ 64 → ρ.1 j = σ.1 j := fun j hj => by rw [← hr]; exact upd_other hj
  have sS : StS ρ = StS σ + szN (σ.2.2 28) m - szN (σ.2.2 28) v := by
    have := suN_1 (f := szP (σ.2.2 28) (kC σ) (σ.2.2 30) 0) (g := szP (σ.2.2 28) (kC σ) (upd (σ.2.2 30) i (nI m)) 0) (i := i) (n := 11514) hi5 (fun j _ hj => by rw [sz j, if_neg hj])
    rw [sz i, if_pos rfl, s0] at this
    unfold StS at le ⊢
    rw [q1, q2 28 (by decide), kC_r (q2 20 (by decide)) (q2 21 (by decide)) (r6 30 (by decide))]
    unfold SzS at le ⊢
    omega
  have sP : ∀ p, PtS ρ p = PtS σ p := fun p => by
    unfold PtS; rw [q2 28 (by decide), kC_r (q2 20 (by decide)) (q2 21 (by decide)) (r6 30 (by decide)), q2 31 (by decide)]
  have sP' : suN (PtS ρ) P = suN (PtS σ) P := suN_c (fun p _ => sP p)
  refine ⟨le, by rw [r64, sS], P, (r6 63 (by decide)).trans h63, hP, ?_, fun p hp => ?_, ?_, fun j c n => ?_, fun p hp j c n => ?_, fun j hj => ?_, ?_, fun p hp => ?_⟩
  · rw [r6 65 (by decide), sP']; exact h65
  · rw [q2 32 (by decide), sP]; exact h32 p hp
  · rw [sS, sP']; omega
  · rw [q1] at c n ⊢
    rw [kC_r (q2 20 (by decide)) (q2 21 (by decide)) (r6 30 (by decide))] at n
    have c' := (StI_c (hw _ (by omega)) (hw _ (by omega))).mp c
    have n' := (NUa_c (fun j h1 h2 => hw _ (by omega))).mp n
    by_cases e : j = i
    · rw [e] at n'; exact absurd n' hi.2
    · rw [upd_other e]; exact o1 j c' n'
  · rw [q2 31 (by decide)] at c n ⊢
    rw [kC_r (q2 20 (by decide)) (q2 21 (by decide)) (r6 30 (by decide))] at n
    exact o2 p hp j c n
  · rw [q2 33 (by decide)]; exact o3 j hj
  · rw [q1]; exact CWa_c o4 (hw _ (by omega)) (fun j h1 h2 => hw _ (by omega))
  · rw [q2 31 (by decide)]; exact ⟨(o5 p hp).1, ItP_c (q2 28 (by decide)) (fun j _ => by rw [q2 31 (by decide)]) (o5 p hp).2⟩
theorem FS_wr {i : Nat} {x y : Int32} (hp : PlV 30 i) : FSt σ (mAr (mSc σ 64 y) 30 i x) := by
  unfold PlV at hp
  refine ⟨fun j _ _ _ _ h5 => upd_other h5, fun a j ha hz _ => ?_, mAr_o (by decide), fun j hj c => ?_⟩
  · by_cases e : a = 30
    · subst e
      rw [mAr_s, upd_other (fun e => hz (by unfold Zn; omega))]; rfl
    · rw [mAr_o e]; rfl
  · unfold szV
    rw [mAr_s, mAr_o (by decide), upd_other (by omega)]; rfl
/-- a write leaves all rows but 30, and that from 3214 on -/
def ASr (σ ρ : MS) : Prop := (∀ a, a ≠ 30 → ρ.2.2 a = σ.2.2 a) ∧ ∀ i, 3214 ≤ i → ρ.2.2 30 i = σ.2.2 30 i
theorem AS_wr {i : Nat} {x y : Int32} (hp : PlV 30 i) : ASr σ (mAr (mSc σ 64 y) 30 i x) := by
  unfold PlV at hp
  refine ⟨fun a ha => mAr_o ha, fun j hj => ?_⟩
  rw [mAr_s, upd_other (by omega)]; rfl
/-- a variable is written: both do, or both have error 6 -/
theorem E_asg0 {g1 g2 : Nat → Prop} {l1 l2 : List Nat} {B1 h1 X1 B2 h2 X2 : Nat} (hX : XC ≤ 402000) (hS : Sc1 T FN lc cn σ1) (hE : EIx t w XC σ1 σ2 g1 l1 B1 h1 X1 g2 l2 B2 h2 X2) (hU1 : UT σ1) (hU2 : UT σ2) (hn : NmW T lc cn n s) {x y : Int32} (vc : VC g1 g2 (σ1.2.2 28) (σ2.2.2 28) x y) (hfin : ∀ (z : Int32) (i : Nat), PlV 30 i → EI t w XC (mAr (mSc σ1 64 z) 30 i x) (mAr (mSc σ2 64 z) 30 i y)) {L1 L2 : Nat → Int32} (d1 : L1 1 = nI n) (d2 : L2 1 = nI n) (x1 : L1 2 = x) (x2 : L2 2 = y) : T2 (fun k => x_assign k 0 L1 σ1) (fun k => x_assign k 0 L2 σ2) (fun r1 r2 => SQ t t w XC σ1 σ2 r1.2 r2.2 ∧ ASr σ1 r1.2 ∧ ASr σ2 r2.2) := by
  have hI : EI t w XC σ1 σ2 := ⟨g1, l1, B1, h1, X1, g2, l2, B2, h2, X2, hE⟩
  have hS2 := Sc1_ei hS hI
  obtain ⟨c, c1, c5, _, st, ct, pl⟩ := Nm_c hS hn
  obtain ⟨c', c1', c5', _, st2, ct2, _⟩ := Nm_c hS2 hn
  obtain ⟨m1, m2, hR, _, _, _, e1, e2, _⟩ := hE
  have ec : c' = c := (n_eq (by omega) (by omega)).mp (c1'.symm.trans ((hR.2.1 30 1 (by unfold AlR; omega) (by unfold Zn; omega) (InA_4 (by omega))).symm.trans c1))
  subst ec
  have al : ∀ j, AlS j → σ2.1 j = σ1.1 j := fun j h => (hR.2.2.1 j h).symm
  obtain ⟨va, vb, va1, va2, va3, va4, va5, va6, va7⟩ := hR.1 30 (plc T c' n s) (Or.inr (Or.inl ⟨rfl, st⟩)) (by unfold VwR; omega)
  obtain ⟨xa, xb, xa1, xa2, xa3, xa4, xa5, xa6, xa7⟩ := vc
  have so := (EVb_sz va5).1
  have sn := (EVb_sz xa5).1
  have bo := szN_b m1.1 va2
  have bn := szN_b m1.1 xa2
  have U1 := hU1
  have U2 := hU2
  obtain ⟨h64, P, h63, hP, h65, _, hl, _⟩ := U1
  obtain ⟨k64, P', k63, hP', k65, _, kl, _⟩ := U2
  have eS : StS σ2 = StS σ1 := (n_eq (by omega) (by omega)).mp (k64.symm.trans ((al 64 (by unfold AlS; omega)).trans h64))
  have eP : P' = P := (n_eq (by omega) (by omega)).mp (k63.symm.trans ((al 63 (by unfold AlS; omega)).trans h63))
  subst eP
  have eR : suN (PtS σ2) P' = suN (PtS σ1) P' := (n_eq (by omega) (by omega)).mp (k65.symm.trans ((al 65 (by unfold AlS; omega)).trans h65))
  have le : szN (σ1.2.2 28) va ≤ StS σ1 := by
    have : szP (σ1.2.2 28) (kC σ1) (σ1.2.2 30) 0 (plc T c' n s) = szN (σ1.2.2 28) va := by
      unfold szP
      rw [if_pos ct, Nat.zero_add, va1, n_cl (by omega)]
    rw [← this]
    exact suN_le (by unfold PlV at pl; omega)
  refine T2_suc (fun k => by rw [x_assign]) (fun k => by rw [x_assign]) ?_
  rw [e1, e2]
  refine T2_ite Iff.rfl (fun _ _ => ?_) (fun z _ => absurd (by decide) z)
  refine T2_suc (fun k => by rw [x_assign]) (fun k => by rw [x_assign]) ?_
  refine T2_ob (T2_t (s_valS hS hn c1 c5 d1) (s_valS hS2 hn c1' c5 d2)) (fun r1 r2 hr => ?_)
  rw [hr.1, hr.2]
  refine T2_ob (T2_t (s_size m1.1 va2 (by exact va1)) (s_size m2.1 va4 (by exact va3))) (fun r1 r2 hr => ?_)
  rw [hr.1, hr.2]
  refine T2_ob (T2_t (s_size m1.1 xa2 (by exact x1.trans xa1)) (s_size m2.1 xa4 (by exact x2.trans xa3))) (fun r1 r2 hr => ?_)
  rw [hr.1, hr.2, so, sn]
  have ar : σ1.1 64 + σ1.1 65 - nI (szN (σ1.2.2 28) va) + nI (szN (σ1.2.2 28) xa) = nI (StS σ1 + suN (PtS σ1) P' - szN (σ1.2.2 28) va + szN (σ1.2.2 28) xa) := by
    rw [h64, h65, n_add (by omega), n_sub (by omega) (by omega), n_add (by omega)]
  have ar2 : σ2.1 64 + σ2.1 65 - nI (szN (σ1.2.2 28) va) + nI (szN (σ1.2.2 28) xa) = nI (StS σ1 + suN (PtS σ1) P' - szN (σ1.2.2 28) va + szN (σ1.2.2 28) xa) := by
    rw [al 64 (by unfold AlS; omega), al 65 (by unfold AlS; omega)]; exact ar
  show T2 (fun k => if σ1.1 64 + σ1.1 65 - nI (szN (σ1.2.2 28) va) + nI (szN (σ1.2.2 28) xa) ≤ 40000 then x_assign k 2 (upd L1 3 (nI (szN (σ1.2.2 28) va))) σ1 else ob (x_fail k 0 (upd (fun _ => 0) 1 6) σ1) (fun r5 => some (0, r5.2))) (fun k => if σ2.1 64 + σ2.1 65 - nI (szN (σ1.2.2 28) va) + nI (szN (σ1.2.2 28) xa) ≤ 40000 then x_assign k 2 (upd L2 3 (nI (szN (σ1.2.2 28) va))) σ2 else ob (x_fail k 0 (upd (fun _ => 0) 1 6) σ2) (fun r5 => some (0, r5.2))) _
  rw [ar, ar2]
  refine T2_ite Iff.rfl (fun z _ => ?_) (fun _ _ => ?_)
  · have z := (n_le (q := 40000) (by omega) (by decide)).mp z
    obtain ⟨_, w1⟩ := UT_wr m1.1 hU1 ct pl xa2 va1 va2 (by rw [h63, n_cl (p := P') (by omega)]; exact z)
    obtain ⟨_, w2⟩ := UT_wr m2.1 hU2 ct2 pl xa4 va3 va4 (by rw [k63, n_cl (p := P') (by omega), eS, eR, so, sn]; exact z)
    refine T2_suc (fun k => by rw [x_assign]) (fun k => by rw [x_assign]) ?_
    refine T2_ob (T2_t (s_size m1.1 xa2 (by exact x1.trans xa1)) (s_size m2.1 xa4 (by exact x2.trans xa3))) (fun r1 r2 hr => ?_)
    rw [hr.1, hr.2, sn]
    rw [eS, so, sn] at w2
    have a64 : σ1.1 64 + (nI (szN (σ1.2.2 28) xa) - nI (szN (σ1.2.2 28) va)) = nI (StS σ1 + szN (σ1.2.2 28) xa - szN (σ1.2.2 28) va) := by rw [h64, n_mix (by omega) (by omega)]
    have b64 : σ2.1 64 + (nI (szN (σ1.2.2 28) xa) - nI (szN (σ1.2.2 28) va)) = nI (StS σ1 + szN (σ1.2.2 28) xa - szN (σ1.2.2 28) va) := by rw [al 64 (by unfold AlS; omega)]; exact a64
    show T2 (fun k => x_assign k 3 (upd L1 3 (nI (szN (σ1.2.2 28) va))) (mSc σ1 64 (σ1.1 64 + (nI (szN (σ1.2.2 28) xa) - nI (szN (σ1.2.2 28) va))))) (fun k => x_assign k 3 (upd L2 3 (nI (szN (σ1.2.2 28) va))) (mSc σ2 64 (σ2.1 64 + (nI (szN (σ1.2.2 28) xa) - nI (szN (σ1.2.2 28) va))))) _
    rw [a64, b64]
    have hI' : EI t w XC (mSc σ1 64 (nI (StS σ1 + szN (σ1.2.2 28) xa - szN (σ1.2.2 28) va))) (mSc σ2 64 (nI (StS σ1 + szN (σ1.2.2 28) xa - szN (σ1.2.2 28) va))) := EI_s (by omega) hI
    have F1 : FSt σ1 (mSc σ1 64 (nI (StS σ1 + szN (σ1.2.2 28) xa - szN (σ1.2.2 28) va))) := FS_sc (by omega)
    have F2 : FSt σ2 (mSc σ2 64 (nI (StS σ1 + szN (σ1.2.2 28) xa - szN (σ1.2.2 28) va))) := FS_sc (by omega)
    refine T2_suc (fun k => by rw [x_assign]) (fun k => by rw [x_assign]) ?_
    refine T2_ob (T2_t (s_bndS (Sc1_fs hS F1) hn (by exact c1) c5 d1) (s_bndS (Sc1_fs hS2 F2) hn (by exact c1') c5 d2)) (fun r1 r2 hr => ?_)
    rw [hr.1, hr.2]
    refine T2_some ⟨⟨FS_wr pl, FS_wr pl, ?_, ?_, Or.inl ⟨w, Nat.le_refl _, ?_⟩⟩, AS_wr pl, AS_wr pl⟩
    · show UT (mAr _ 30 _ (L1 2)); rw [x1, xa1]; exact w1
    · show UT (mAr _ 30 _ (L2 2)); rw [x2, xa3]; exact w2
    · show EI t w XC (mAr _ 30 _ (L1 2)) (mAr _ 30 _ (L2 2))
      rw [x1, x2]
      exact hfin _ _ pl
  · refine T2_ob (T2_t (s_fail _ _) (s_fail _ _)) (fun r1 r2 hr => ?_)
    rw [hr.1, hr.2]
    obtain ⟨z1, z2⟩ := E_er (a := t) (b := t) (e := 6) (by omega) hI (by omega) (by decide) (Nat.le_refl _) (Nat.le_refl _)
    exact T2_some ⟨⟨FS_fe FE_er, FS_fe FE_er, UT_c hU1 rfl (mEr_s (by decide)) (mEr_s (by decide)) (mEr_s (by decide)), UT_c hU2 rfl (mEr_s (by decide)) (mEr_s (by decide)) (mEr_s (by decide)), Or.inr ⟨z1, z2⟩⟩, ⟨fun _ _ => rfl, fun _ _ => rfl⟩, fun _ _ => rfl, fun _ _ => rfl⟩
theorem E_assX (hX : XC ≤ 402000) (hS : Sc1 T FN lc cn σ1) (hI : EI t w XC σ1 σ2) (hU1 : UT σ1) (hU2 : UT σ2) (hn : NmW T lc cn n s) {x y : Int32} (hx : ∀ (g1 : Nat → Prop) (l1 : List Nat) (B1 h1 X1 : Nat) (g2 : Nat → Prop) (l2 : List Nat) (B2 h2 X2 : Nat), EIx t w XC σ1 σ2 g1 l1 B1 h1 X1 g2 l2 B2 h2 X2 → VC g1 g2 (σ1.2.2 28) (σ2.2.2 28) x y ∧ (∃ m, x = nI m ∧ (m < 3 ∨ Rch (σ1.2.2 28) (RoS t σ1) m)) ∧ ∃ m, y = nI m ∧ (m < 3 ∨ Rch (σ2.2.2 28) (RoS t σ2) m)) {L1 L2 : Nat → Int32} (d1 : L1 1 = nI n) (d2 : L2 1 = nI n) (x1 : L1 2 = x) (x2 : L2 2 = y) : T2 (fun k => x_assign k 0 L1 σ1) (fun k => x_assign k 0 L2 σ2) (fun r1 r2 => SQ t t w XC σ1 σ2 r1.2 r2.2 ∧ ASr σ1 r1.2 ∧ ASr σ2 r2.2) := by
  have hI0 := hI
  obtain ⟨g1, l1, B1, h1, X1, g2, l2, B2, h2, X2, hE⟩ := hI0
  refine E_asg0 hX hS hE hU1 hU2 hn (hx g1 l1 B1 h1 X1 g2 l2 B2 h2 X2 hE).1 (fun z i pl => ?_) d1 d2 x1 x2
  have al := hE.2.2.1.2.2.1
  refine EI_bd (EI_s (by omega) hI) pl (fun g1 l1 B1 h1 X1 g2 l2 B2 h2 X2 hE => ?_)
  obtain ⟨m1, m2, hR, i1, i2, t1, e1, e2, w1, hw, x1, x2, ty, a, a1, a2⟩ := hE
  exact hx g1 l1 B1 h1 X1 g2 l2 B2 h2 X2 ⟨MI_c m1 rfl rfl rfl rfl rfl, MI_c m2 rfl rfl rfl rfl rfl, RA_c hR rfl rfl rfl rfl rfl rfl rfl rfl al hR.2.2.2, IT_c rfl rfl rfl rfl i1, IT_c rfl rfl rfl rfl i2, t1, e1, e2, w1, hw, x1, x2, ty, a, a1, a2⟩
theorem E_assign (hX : XC ≤ 402000) (hS : Sc1 T FN lc cn σ1) (hI : EI t w XC σ1 σ2) (hU1 : UT σ1) (hU2 : UT σ2) (hn : NmW T lc cn n s) {x y : Int32} (hx : ∀ (g1 : Nat → Prop) (l1 : List Nat) (B1 h1 X1 : Nat) (g2 : Nat → Prop) (l2 : List Nat) (B2 h2 X2 : Nat), EIx t w XC σ1 σ2 g1 l1 B1 h1 X1 g2 l2 B2 h2 X2 → VC g1 g2 (σ1.2.2 28) (σ2.2.2 28) x y ∧ (∃ m, x = nI m ∧ (m < 3 ∨ Rch (σ1.2.2 28) (RoS t σ1) m)) ∧ ∃ m, y = nI m ∧ (m < 3 ∨ Rch (σ2.2.2 28) (RoS t σ2) m)) {L1 L2 : Nat → Int32} (d1 : L1 1 = nI n) (d2 : L2 1 = nI n) (x1 : L1 2 = x) (x2 : L2 2 = y) : T2 (fun k => x_assign k 0 L1 σ1) (fun k => x_assign k 0 L2 σ2) (fun r1 r2 => SQ t t w XC σ1 σ2 r1.2 r2.2) := T2_mono (E_assX hX hS hI hU1 hU2 hn hx d1 d2 x1 x2) (fun r1 r2 hr => hr.1)
theorem mSc_c {j k : Nat} {x y : Int32} (h : j ≠ k) : mSc (mSc σ j x) k y = mSc (mSc σ k y) j x := by
  unfold mSc
  have : upd (upd σ.1 j x) k y = upd (upd σ.1 k y) j x := by
    funext i
    by_cases a : i = j
    · rw [a, upd_other h, upd_same, upd_same]
    · by_cases b : i = k
      · rw [b, upd_same, upd_other (Ne.symm h), upd_same]
      · rw [upd_other b, upd_other a, upd_other a, upd_other b]
  show (upd (upd σ.1 j x) k y, σ.2.1, σ.2.2) = _
  rw [this]
theorem mSc_self {j : Nat} {x : Int32} (h : σ.1 j = x) : mSc σ j x = σ := by
  unfold mSc
  have : upd σ.1 j x = σ.1 := by
    funext i
    by_cases a : i = j
    · rw [a, upd_same, h]
    · rw [upd_other a]
  rw [this]
/-- a value upon the pile is written, the top lies below it -/
theorem E_asgDP {u i : Nat} (hX : XC ≤ 402000) (hS : Sc1 T FN lc cn σ1) (hI : EI t w XC σ1 σ2) (hU1 : UT σ1) (hU2 : UT σ2) (hn : NmW T lc cn n s) (hu : u ≤ t) (hi : i < t) {L1 L2 : Nat → Int32} (d1 : L1 1 = nI n) (d2 : L2 1 = nI n) (x1 : L1 2 = σ1.2.2 29 i) (x2 : L2 2 = σ2.2.2 29 i) : T2 (fun k => x_assign k 0 L1 (mSc σ1 59 (nI u))) (fun k => x_assign k 0 L2 (mSc σ2 59 (nI u))) (fun r1 r2 => SQ u u w XC σ1 σ2 r1.2 r2.2 ∧ ASr σ1 r1.2) := by
  have hI0 := hI
  obtain ⟨g1, l1, B1, h1, X1, g2, l2, B2, h2, X2, hE⟩ := hI0
  have hv := hE.2.2.1.1 29 i (Or.inl ⟨rfl, hi⟩) (by unfold VwR; omega)
  have F1 : FSt σ1 (mSc σ1 59 (nI u)) := FS_sc (by omega)
  have F2 : FSt σ2 (mSc σ2 59 (nI u)) := FS_sc (by omega)
  have hE' : EIx u w XC (mSc σ1 59 (nI u)) (mSc σ2 59 (nI u)) g1 l1 B1 h1 X1 g2 l2 B2 h2 X2 := by
    obtain ⟨m1, m2, hR, i1, i2, t1, e1, e2, w1, hw, x1, x2, ty, a, a1, a2⟩ := hE
    exact ⟨MI_59 (MI_mo m1 hu), MI_59 (MI_mo m2 hu), RA_59 (RA_mo hu hR), IT_c rfl rfl rfl rfl i1, IT_c rfl rfl rfl rfl i2, rfl, e1, e2, w1, hw, x1, x2, ty, a, a1, a2⟩
  refine T2_mono (E_asg0 hX (Sc1_fs hS F1) hE' (UT_c hU1 rfl rfl rfl rfl) (UT_c hU2 rfl rfl rfl rfl) hn hv (fun z j pl => ?_) d1 d2 x1 x2) (fun r1 r2 hr => ⟨⟨FS_tr F1 hr.1.1, FS_tr F2 hr.1.2.1, hr.1.2.2⟩, hr.2.1⟩)
  have b := EI_bd (x := σ1.2.2 29 i) (y := σ2.2.2 29 i) (EI_s (j := 64) (x := z) (by omega) hI) pl (fun g1 l1 B1 h1 X1 g2 l2 B2 h2 X2 hE => ⟨hE.2.2.1.1 29 i (Or.inl ⟨rfl, hi⟩) (by unfold VwR; omega), MI_rt hE.1 (Or.inl ⟨rfl, hi⟩), MI_rt hE.2.1 (Or.inl ⟨rfl, hi⟩)⟩)
  have b' := EI_dn hu b
  have e : ∀ (σ : MS) (v : Int32), mAr (mSc (mSc σ 59 (nI u)) 64 z) 30 j v = mSc (mAr (mSc σ 64 z) 30 j v) 59 (nI u) := fun σ v => by
    rw [mSc_c (by decide)]; rfl
  rw [e, e]; exact b'
theorem E_asgD {u i : Nat} (hX : XC ≤ 402000) (hS : Sc1 T FN lc cn σ1) (hI : EI t w XC σ1 σ2) (hU1 : UT σ1) (hU2 : UT σ2) (hn : NmW T lc cn n s) (hu : u ≤ t) (hi : i < t) {L1 L2 : Nat → Int32} (d1 : L1 1 = nI n) (d2 : L2 1 = nI n) (x1 : L1 2 = σ1.2.2 29 i) (x2 : L2 2 = σ2.2.2 29 i) : T2 (fun k => x_assign k 0 L1 (mSc σ1 59 (nI u))) (fun k => x_assign k 0 L2 (mSc σ2 59 (nI u))) (fun r1 r2 => SQ u u w XC σ1 σ2 r1.2 r2.2) := T2_mono (E_asgDP hX hS hI hU1 hU2 hn hu hi d1 d2 x1 x2) (fun r1 r2 hr => hr.1)
end ASG
end JnS233
section JnS234
/-! Statements on both sides (reference): an answer in place of what lies at the top; a target is written. -/
section OPQ
variable {t w XC : Nat} {σ σ1 σ2 : MS}
/-- an operation that may leave something upon the pile with an error -/
theorem E_opq {W c : Nat} {g1 g2 : Nat → Prop} {l1 l2 : List Nat} {B1 h1 X1 B2 h2 X2 KK : Nat} {Y1 Y2 : Nat → Option (Int32 × MS)} (hW : W ≤ 2000) (hX : EIx t w XC σ1 σ2 g1 l1 B1 h1 X1 g2 l2 B2 h2 X2) (v1 : Tm Y1 (VQ g1 B1 h1 t W σ1)) (v2 : Tm Y2 (VQ g2 B2 h2 t W σ2)) (kq : ∀ n, Pm n Y1 Y2 (KQ h1 h2 KK)) (k1 : ∀ k, Wk (Y1 k) σ1.2.1) (k2 : ∀ k, Wk (Y2 k) σ2.2.1) (hc : h1 + KK + c ≤ B1 + 870000 ∧ h2 + KK + c ≤ B2 + 870000) : T2 Y1 Y2 (fun r1 r2 => SO t w XC g1 σ1 r1 ∧ SO t w XC g2 σ2 r2 ∧ KS c r1 r2 ∧ r1.2.1 95 = σ1.1 95 ∧ r2.2.1 95 = σ2.1 95) := by
  obtain ⟨m1, m2, hR, i1, i2, t1, e1, e2, w1, hw, x1, x2, _⟩ := hX
  have w2 : σ2.1 57 = nI w := (hR.2.2.1 57 (by unfold AlS; omega)).symm.trans w1
  refine T2_mono (T2_of v1 v2 (fun n => Pm_wl k1 k2 (kq n))) (fun r1 r2 hr => ?_)
  obtain ⟨⟨hq, a1, a2⟩, b1, b2⟩ := hr
  have c1 := b1
  have c2 := b2
  obtain ⟨_, _, _, _, f1, _⟩ := c1
  obtain ⟨_, _, _, _, f2, _⟩ := c2
  refine ⟨SO_of hW m1 w1 hw.1 x1 b1, SO_of hW m2 w2 hw.1 x2 b2, ⟨KR_of (VQ_54 b1) (VQ_54 b2) hc hq ?_, ?_⟩, f1.1 95 (by decide), f2.1 95 (by decide)⟩
  · rw [f1.1 57 (by decide), f2.1 57 (by decide), w1, w2]
  · rw [a1, a2]; exact hR.2.2.2
/-- with an error: a value is put at a place of the pile -/
theorem EZ_st {g : Nat → Prop} {l : List Nat} {B h X a b i t' : Nat} {x : Int32} (hM : MI t' X g l B h σ) (h59 : σ.1 59 = nI t') (ha : a ≤ t') (hb : t' ≤ b) (hi : i < t') (he : ¬ σ.1 56 = 0) (hE : ErB σ) (hw : ∃ w, σ.1 57 = nI w ∧ w ≤ 80000) (hc : ∃ c, σ.1 95 = nI c ∧ c ≤ 1000000) (hx : Vd g x) : EZ a b (mAr σ 29 i x) := by
  obtain ⟨m, m1, m2⟩ := hx
  rw [m1]
  have hM1 := MI_set (MI_mo hM (show i ≤ t' by omega)) m2
  refine ⟨g, l, B, h, t', MI_any hM1.1 hM1.2.1 (fun c j z => ?_), h59, ha, hb, he, hE, hw, hc⟩
  have z' : RtP t' σ c j := (RtP_c (σ := σ) (τ := mAr σ 29 i (nI m)) rfl rfl (mAr_o (by decide)) (mAr_o (by decide)) c j).mp z
  by_cases e : c = 29
  · subst e
    rw [mAr_s]
    by_cases e2 : j = i
    · rw [e2, upd_same]; exact ⟨m, rfl, m2⟩
    · rw [upd_other e2]; exact hM.2.2.1 29 j z'
  · rw [mAr_o e]; exact hM.2.2.1 c j z'
theorem mPu_at {x : Int32} (h : σ.1 59 = nI (t + 1)) : mPu σ t x = mAr σ 29 t x := by
  unfold mPu; exact mSc_self h
end OPQ
section ANS
variable {g1 g2 : Nat → Prop} {l1 l2 : List Nat} {B1 h1 B2 h2 X1 X2 t w XC : Nat} {ρ1 ρ2 : MS}
/-- an answer is counted and put where the top's value lies -/
theorem E_anS {c : Nat} {Q : Int32 × MS → Int32 × MS → Prop} {F1 F2 : Nat → Int32 × MS → Option (Int32 × MS)} {r1 r2 : Int32 × MS} (m1 : MI (t + 1) X1 g1 l1 B1 h1 ρ1) (m2 : MI (t + 1) X2 g2 l2 B2 h2 ρ2) (hR : RA (t + 1) g1 g2 ρ1 ρ2) (i1 : IT g1 ρ1) (i2 : IT g2 ρ2) (ht : t ≤ 176000 ∧ XC - 400000 + 10 ≤ c) (hT : TyT (ρ1.2.2 2)) (hT2 : ρ1.2.2 2 = ρ2.2.2 2) (ha : ∃ a, r1.2.1 95 = nI a ∧ a ≤ 1000000) (ha2 : r1.2.1 95 = r2.2.1 95)
    (s1 : SO (t + 1) w XC g1 ρ1 r1) (s2 : SO (t + 1) w XC g2 ρ2 r2) (hK : KS c r1 r2) (hQ : ∀ v1 v2 : Int32 × MS, FE ρ1 (mAr v1.2 29 t v1.1) → FE ρ2 (mAr v2.2 29 t v2.1) → PKp t ρ1 (mAr v1.2 29 t v1.1) → ((∃ w', w ≤ w' ∧ EI (t + 1) w' XC (mAr v1.2 29 t v1.1) (mAr v2.2 29 t v2.1)) ∨ (EZ (t + 1) (t + 2001) (mAr v1.2 29 t v1.1) ∧ EZ (t + 1) (t + 2001) (mAr v2.2 29 t v2.1))) → T2 (fun k => F1 k v1) (fun k => F2 k v2) Q) :
    T2 (fun k => ob (x_answer k 0 (upd (fun _ => 0) 1 r1.1) r1.2) (F1 k)) (fun k => ob (x_answer k 0 (upd (fun _ => 0) 1 r2.1) r2.2) (F2 k)) Q := by
  obtain ⟨gA, lA, BA, hA, XA, wA, tA, a1, a2, a3, a4, a5, a6, a7, ⟨a8, a9, a10, a11⟩, a12⟩ := s1
  obtain ⟨gB, lB, BB, hB, XB, wB, tB, b1, b2, b3, b4, b5, b6, b7, ⟨b8, b9, b10, b11⟩, b12⟩ := s2
  have f1 := FE_eo m1.2.1 a2
  have f2 := FE_eo m2.2.1 b2
  obtain ⟨c1, c2, c3⟩ := a3
  obtain ⟨d1, d2, d3⟩ := b3
  have ha' : ∃ a, r2.2.1 95 = nI a ∧ a ≤ 1000000 := by rw [← ha2]; exact ha
  by_cases er : r1.2.1 56 = 0
  · have er2 := hK.1.1.mp er
    obtain ⟨⟨⟨rB1, rh1, rm1, rm2, rm3, rm4⟩, ⟨rB2, rh2, rn1, rn2, rn3, rn4⟩⟩, k57, u, v, k1, k2, k3, k4, k5⟩ := hK.1.2 er
    have room : hA + (XC - 400000) + 10 ≤ BA + 870000 ∧ hB + (XC - 400000) + 10 ≤ BB + 870000 := by
      have p1 := HS_b a1.1
      have p2 := HS_b b1.1
      have p3 := a1.1.2.1
      have p4 := b1.1.2.1
      have e1 : BA = rB1 := (n_eq (by omega) (by omega)).mp (a1.1.1.symm.trans rm1)
      have e2 : BB = rB2 := (n_eq (by omega) (by omega)).mp (b1.1.1.symm.trans rn1)
      have e3 : hA = rh1 := (n_eq (by omega) (by omega)).mp (a1.1.2.2.1.symm.trans rm3)
      have e4 : hB = rh2 := (n_eq (by omega) (by omega)).mp (b1.1.2.2.1.symm.trans rn3)
      omega
    have e1 : tA = t + 1 := a11.resolve_right (fun z => z er)
    have e2 : tB = t + 1 := b11.resolve_right (fun z => z er2)
    subst e1
    subst e2
    have ew : wB = wA := by
      have z := b5.symm.trans (k57.symm.trans a5)
      exact (n_eq (by omega) (by omega)).mp z
    subst ew
    have bc := HS_vb a1.1 c3
    have bd := HS_vb b1.1 d3
    have eu : c1 = u := (n_eq (by omega) (by omega)).mp (c2.symm.trans k1)
    have ev : d1 = v := (n_eq (by omega) (by omega)).mp (d2.symm.trans k2)
    subst eu
    subst ev
    have hR' := RA_step m1.2.1 m2.2.1 hR a2 b2 k57 (a8.trans b8.symm) hK.2
    have j1 : IT gA r1.2 := IT_eo m1.2.1 m1.1 (Or.inr ⟨BA, hA, a1.1⟩) a2 i1
    have j2 : IT gB r2.2 := IT_eo m2.2.1 m2.1 (Or.inr ⟨BB, hB, b1.1⟩) b2 i2
    have x1 := a12 er
    have x2 := b12 er2
    refine T2_ob (T2_of (s_answer a1.1 c3 a5 (by omega) (by exact c2)) (s_answer b1.1 d3 b5 (by omega) (by exact d2)) (fun n => Pm_wl (fun k => wl_answer k _ _ _) (fun k => wl_answer k _ _ _) (k_answer a1.1 b1.1 c3 d3 k5 er er2 a5 b5 (by omega) (by exact c2) (by exact d2)))) (fun z1 z2 hz => ?_)
    obtain ⟨⟨⟨y1, y2, y3, y4⟩, wl1, wl2⟩, _, _⟩ := hz
    have ys1 : ∀ j, j ≠ 56 → j ≠ 57 → z1.2.1 j = r1.2.1 j := fun j q1 q2 => WkO_s y3 q1 q2
    have ys2 : ∀ j, j ≠ 56 → j ≠ 57 → z2.2.1 j = r2.2.1 j := fun j q1 q2 => WkO_s y4 q1 q2
    have n1 : MI (t + 1) XA gA lA BA hA z1.2 := MI_c a1 (ys1 54 (by decide) (by decide)) (ys1 55 (by decide) (by decide)) (ys1 63 (by decide) (by decide)) (ys1 72 (by decide) (by decide)) (WkO_a y3)
    have n2 : MI (t + 1) XB gB lB BB hB z2.2 := MI_c b1 (ys2 54 (by decide) (by decide)) (ys2 55 (by decide) (by decide)) (ys2 63 (by decide) (by decide)) (ys2 72 (by decide) (by decide)) (WkO_a y4)
    have z59 : z1.2.1 59 = nI (t + 1) := (ys1 59 (by decide) (by decide)).trans a8
    have w59 : z2.2.1 59 = nI (t + 1) := (ys2 59 (by decide) (by decide)).trans b8
    have s28 : z1.2.2.2 28 = r1.2.2.2 28 := congrFun (WkO_a y3) 28
    have t28 : z2.2.2.2 28 = r2.2.2.2 28 := congrFun (WkO_a y4) 28
    refine hQ z1 z2 (FE_tr f1 (FE_tr (FE_wk y3) FE_pile)) (FE_tr f2 (FE_tr (FE_wk y4) FE_pile)) (PK_tr (PK_mo (by omega) (PK_eo a2)) (PK_tr (PK_28 (congrFun (WkO_a y3) 28) (fun i _ => congrFun (congrFun (WkO_a y3) 29) i)) (PK_pi (Nat.le_refl _)))) ?_
    rw [y1, y2]
    by_cases le : wB + szN (r1.2.2.2 28) c1 ≤ 60000
    · have zr1 := (WkO_er er y3).mpr le
      have zr2 := (WkO_er er2 y4).mpr le
      have y57 : z1.2.1 57 = nI (wB + szN (r1.2.2.2 28) c1) := WkO_57 y3
      rw [← mPu_at z59, ← mPu_at w59]
      refine Or.inl ⟨wB + szN (r1.2.2.2 28) c1, by omega, gA, lA, BA, hA, XA + 6 * szN (z1.2.2.2 28) c1, gB, lB, BB, hB, XB + 6 * szN (z2.2.2.2 28) d1, MI_pu (MI_mo n1 (by omega)) c3, MI_pu (MI_mo n2 (by omega)) d3, ?_, ?_, ?_, rfl, ?_, ?_, ?_, ⟨le, room⟩, ?_, ?_, ⟨?_, ?_⟩, ?_⟩
      · refine RA_pu n1.2.1 (RA_c (RA_mo (by omega) hR') (WkO_a y3) (WkO_a y4) (ys1 63 (by decide) (by decide)) (ys1 72 (by decide) (by decide)) (ys1 22 (by decide) (by decide)) (ys1 24 (by decide) (by decide)) (ys1 30 (by decide) (by decide)) (ys1 44 (by decide) (by decide)) (fun j hj => ?_) ?_) ?_
        · by_cases e57 : j = 57
          · rw [e57, y57, WkO_57 y4]
          · rw [ys1 j (by unfold AlS at hj; omega) e57, ys2 j (by unfold AlS at hj; omega) e57]
            exact hR'.2.2.1 j hj
        · rw [wl1, wl2]; exact hK.2
        · rw [s28, t28]; exact ⟨c1, d1, rfl, c3, rfl, d3, k5, bc, bd⟩
      · exact IT_c ((mPu_s (by decide)).trans (ys1 72 (by decide) (by decide))) ((mPu_o (by decide)).trans (congrFun (WkO_a y3) 34)) ((mPu_o (by decide)).trans (congrFun (WkO_a y3) 35)) ((mPu_o (by decide)).trans s28) j1
      · exact IT_c ((mPu_s (by decide)).trans (ys2 72 (by decide) (by decide))) ((mPu_o (by decide)).trans (congrFun (WkO_a y4) 34)) ((mPu_o (by decide)).trans (congrFun (WkO_a y4) 35)) ((mPu_o (by decide)).trans t28) j2
      · rw [mPu_s (by decide)]; exact zr1
      · rw [mPu_s (by decide)]; exact zr2
      · rw [mPu_s (by decide)]; exact y57
      · rw [s28]; omega
      · rw [t28, (EVb_sz k5).1]; omega
      · rw [mPu_o (by decide), congrFun (WkO_a y3) 2, f1.2.2.1]; exact hT
      · rw [mPu_o (by decide), mPu_o (by decide), congrFun (WkO_a y3) 2, congrFun (WkO_a y4) 2, f1.2.2.1, f2.2.2.1]; exact hT2
      · rw [mPu_s (by decide), ys1 95 (by decide) (by decide)]; exact ha
    · have zr1 : ¬ z1.2.1 56 = 0 := fun y => le ((WkO_er er y3).mp y)
      have zr2 : ¬ z2.2.1 56 = 0 := fun y => le ((WkO_er er2 y4).mp y)
      have sz := szN_b a1.1 c3
      refine Or.inr ⟨EZ_st n1 z59 (by omega) (by omega) (by omega) zr1 (WkO_E y3 a4) ⟨_, WkO_57 y3, by omega⟩ (by rw [ys1 95 (by decide) (by decide)]; exact ha) ⟨c1, rfl, c3⟩, EZ_st n2 w59 (by omega) (by omega) (by omega) zr2 (WkO_E y4 b4) ⟨_, WkO_57 y4, by omega⟩ (by rw [ys2 95 (by decide) (by decide)]; exact ha') ⟨d1, rfl, d3⟩⟩
  · have er2 : ¬ r2.2.1 56 = 0 := fun z => er (hK.1.1.mpr z)
    have an : ∀ (r : Int32 × MS), ¬ r.2.1 56 = 0 → Tm (fun k => x_answer k 0 (upd (fun _ => 0) 1 r.1) r.2) (fun s => s = r) := fun r he => by
      refine Tm_suc (fun k => by rw [x_answer]) ?_
      refine Tm_ite (fun z => absurd z he) (fun _ => ?_)
      refine Tm_suc (fun k => by rw [x_answer]) ?_
      exact Tm_some rfl
    refine T2_ob (T2_t (an r1 er) (an r2 er2)) (fun z1 z2 hz => ?_)
    rw [hz.1, hz.2]
    refine hQ _ _ (FE_tr f1 FE_pile) (FE_tr f2 FE_pile) (PK_tr (PK_mo (by omega) (PK_eo a2)) (PK_pi (Nat.le_refl _))) (Or.inr ⟨EZ_st a1 a8 a9 (by omega) (by omega) er a4 ⟨_, a5, by omega⟩ ha ⟨c1, c2, c3⟩, EZ_st b1 b8 b9 (by omega) (by omega) er2 b4 ⟨_, b5, by omega⟩ ha' ⟨d1, d2, d3⟩⟩)
end ANS
end JnS234

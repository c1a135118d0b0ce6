/-! Two runs side by side (reference): wholes are loaded, made. -/
/-- two rows are the same below n -/
def AgN (f f' : Nat → Int32) (n : Nat) : Prop := ∀ i, i < n → f i = f' i
theorem AgN_mo {f f' : Nat → Int32} {n m : Nat} (h : AgN f f' n) (hm : m ≤ n) : AgN f f' m := fun i hi => h i (by omega)
theorem AgN_up {f f' : Nat → Int32} {n : Nat} {x y : Int32} (h : AgN f f' n) (e : x = y) : AgN (upd f n x) (upd f' n y) (n + 1) := fun i hi => by
  by_cases c : i = n
  · rw [c, upd_same, upd_same, e]
  · rw [upd_other c, upd_other c]; exact h i (by omega)
theorem AgN_st {f f' : Nat → Int32} {n j : Nat} {x y : Int32} (h : AgN f f' n) (e : x = y) : AgN (upd f j x) (upd f' j y) n := fun i hi => by
  by_cases c : i = j
  · rw [c, upd_same, upd_same, e]
  · rw [upd_other c, upd_other c]; exact h i hi
section KWH
variable {g : Nat → Prop} {l : List Nat} {B h t : Nat} {σ : MS}
/-- a whole is loaded: its limbs -/
theorem u_loadA {m v n : Nat} (hW : Wh σ v n) {L : Nat → Int32} (hL : L 1 = nI v) : Um m (fun k => x_loadA k 0 L σ) (fun r => (∀ i, i < n - 1 → r.2.2.2 42 i = σ.2.2 28 (v + 5 + i))) := by
  obtain ⟨hn, h1, h65, hv, hl⟩ := hW
  have lp : ∀ (m i : Nat) (N : Nat → Int32) (τ : MS), i ≤ n - 1 → N 1 = nI v → N 2 = nI i → τ.1 84 = nI (n - 1) → τ.2.2 28 = σ.2.2 28 → (∀ j, j < i → τ.2.2 42 j = σ.2.2 28 (v + 5 + j)) → Um m (fun k => x_loadA k 2 N τ) (fun r => (∀ i, i < n - 1 → r.2.2.2 42 i = σ.2.2 28 (v + 5 + i))) := by
    intro m
    induction m using Nat.strongRecOn with
    | ind m ih =>
    intro i N τ hi n1 n2 t84 t28 tc
    refine Um_suc rfl (fun k => by rw [x_loadA]) (fun m1 hm1 => ?_)
    rw [t84, n2, n1, show nI v + 5 = nI (v + 5) from n_add (q := 5) (by omega), n_add (p := v + 5) (by omega), n_cl (p := v + 5 + i) (by omega), n_cl (p := i) (by omega)]
    refine Um_ite (fun y => ?_) (fun y => ?_)
    · have y := (n_le (by omega) (by omega)).mp y
      refine Um_suc rfl (fun k => by rw [x_loadA]) (fun m2 hm2 => ?_)
      exact Um_some (fun j hj => tc j (by omega))
    have hi2 : i < n - 1 := by
      by_cases q : n - 1 ≤ i
      · exact absurd ((n_le (by omega) (by omega)).mpr q) y
      · omega
    refine Um_chk (fun _ => ?_)
    refine Um_chk (fun _ => ?_)
    rw [t28]
    show Um m1 (fun k => x_loadA k 3 N (mAr τ 42 i (σ.2.2 28 (v + 5 + i)))) _
    refine Um_suc rfl (fun k => by rw [x_loadA]) (fun m2 hm2 => ?_)
    refine ih m2 (by omega) (i + 1) _ _ (by omega) n1 (by show N 2 + 1 = _; rw [n2, n_add1]) t84 ((mAr_o (by decide)).trans t28) (fun j hj => ?_)
    by_cases e : j = i
    · rw [e, mAr_s, upd_same]
    · rw [mAr_s, upd_other e]; exact tc j (by omega)
  refine Um_suc rfl (fun k => by rw [x_loadA]) (fun m1 _ => ?_)
  rw [hL, n_add1, n_cl (p := v + 1) (by omega), hn, show nI n - 1 = nI (n - 1) from n_sub (p := n) (q := 1) (by omega) h1]
  refine Um_chk (fun _ => ?_)
  show Um m1 (fun k => x_loadA k 1 L (mSc σ 84 (nI (n - 1)))) _
  refine Um_suc rfl (fun k => by rw [x_loadA]) (fun m2 _ => ?_)
  exact lp m2 0 _ _ (Nat.zero_le _) hL rfl rfl rfl (fun j hj => absurd hj (Nat.not_lt_zero j))
theorem u_loadB {m v n : Nat} (hW : Wh σ v n) {L : Nat → Int32} (hL : L 1 = nI v) : Um m (fun k => x_loadB k 0 L σ) (fun r => (∀ i, i < n - 1 → r.2.2.2 43 i = σ.2.2 28 (v + 5 + i))) := by
  obtain ⟨hn, h1, h65, hv, hl⟩ := hW
  have lp : ∀ (m i : Nat) (N : Nat → Int32) (τ : MS), i ≤ n - 1 → N 1 = nI v → N 2 = nI i → τ.1 85 = nI (n - 1) → τ.2.2 28 = σ.2.2 28 → (∀ j, j < i → τ.2.2 43 j = σ.2.2 28 (v + 5 + j)) → Um m (fun k => x_loadB k 2 N τ) (fun r => (∀ i, i < n - 1 → r.2.2.2 43 i = σ.2.2 28 (v + 5 + i))) := by
    intro m
    induction m using Nat.strongRecOn with
    | ind m ih =>
    intro i N τ hi n1 n2 t84 t28 tc
    refine Um_suc rfl (fun k => by rw [x_loadB]) (fun m1 hm1 => ?_)
    rw [t84, n2, n1, show nI v + 5 = nI (v + 5) from n_add (q := 5) (by omega), n_add (p := v + 5) (by omega), n_cl (p := v + 5 + i) (by omega), n_cl (p := i) (by omega)]
    refine Um_ite (fun y => ?_) (fun y => ?_)
    · have y := (n_le (by omega) (by omega)).mp y
      refine Um_suc rfl (fun k => by rw [x_loadB]) (fun m2 hm2 => ?_)
      exact Um_some (fun j hj => tc j (by omega))
    have hi2 : i < n - 1 := by
      by_cases q : n - 1 ≤ i
      · exact absurd ((n_le (by omega) (by omega)).mpr q) y
      · omega
    refine Um_chk (fun _ => ?_)
    refine Um_chk (fun _ => ?_)
    rw [t28]
    show Um m1 (fun k => x_loadB k 3 N (mAr τ 43 i (σ.2.2 28 (v + 5 + i)))) _
    refine Um_suc rfl (fun k => by rw [x_loadB]) (fun m2 hm2 => ?_)
    refine ih m2 (by omega) (i + 1) _ _ (by omega) n1 (by show N 2 + 1 = _; rw [n2, n_add1]) t84 ((mAr_o (by decide)).trans t28) (fun j hj => ?_)
    by_cases e : j = i
    · rw [e, mAr_s, upd_same]
    · rw [mAr_s, upd_other e]; exact tc j (by omega)
  refine Um_suc rfl (fun k => by rw [x_loadB]) (fun m1 _ => ?_)
  rw [hL, n_add1, n_cl (p := v + 1) (by omega), hn, show nI n - 1 = nI (n - 1) from n_sub (p := n) (q := 1) (by omega) h1]
  refine Um_chk (fun _ => ?_)
  show Um m1 (fun k => x_loadB k 1 L (mSc σ 85 (nI (n - 1)))) _
  refine Um_suc rfl (fun k => by rw [x_loadB]) (fun m2 _ => ?_)
  exact lp m2 0 _ _ (Nat.zero_le _) hL rfl rfl rfl (fun j hj => absurd hj (Nat.not_lt_zero j))
/-- how many limbs are left when zeroes above are gone -/
def trN (f : Nat → Int32) : Nat → Nat
  | 0 => 0
  | n + 1 => if f n = 0 then trN f n else n + 1
theorem trN_le (f : Nat → Int32) : ∀ n, trN f n ≤ n
  | 0 => Nat.le_refl _
  | n + 1 => by
    have := trN_le f n
    unfold trN
    by_cases c : f n = 0
    · rw [if_pos c]; omega
    · rw [if_neg c]; omega
theorem trN_ag {f f' : Nat → Int32} : ∀ n, AgN f f' n → trN f' n = trN f n
  | 0, _ => rfl
  | n + 1, h => by
    unfold trN
    rw [h n (by omega), trN_ag n (AgN_mo h (by omega))]
/-- a whole is made of limbs and a sign -/
theorem u_wholeOf {m c : Nat} (hS : HS g l B h σ) (h56 : σ.1 56 = 0) (hr : h + 70 ≤ B + 870000) (hc : c ≤ 300) (h86 : σ.1 86 = nI c) (L : Nat → Int32) : Um m (fun k => x_wholeOf k 0 L σ) (fun r => (trN (σ.2.2 44) c ≤ 64 ∧ NwO h 2 (trN (σ.2.2 44) c + 1) (1 + (trN (σ.2.2 44) c + 1) / 2) 0 (fun i => if i = 0 then (if trN (σ.2.2 44) c = 0 then 0 else L 1) else σ.2.2 44 (i - 1)) r) ∨ (64 < trN (σ.2.2 44) c ∧ r.1 = 0 ∧ r.2.1 55 = nI h ∧ ¬ r.2.1 56 = 0)) := by
  have hb := HS_b hS
  have hB := hS.2.1
  generalize hz : trN (σ.2.2 44) c = z
  have hz300 : z ≤ 300 := by have := trN_le (σ.2.2 44) c; omega
  -- the limbs
  have l7 : z ≤ 64 → ∀ (m i : Nat) (N : Nat → Int32) (τ : MS), i ≤ z → N 2 = nI h → N 3 = nI i → τ.1 86 = nI z → τ.1 56 = 0 → τ.1 55 = nI (h + 4 + (z + 1)) → τ.2.2 44 = σ.2.2 44 → τ.2.2 28 h = nI 2 → τ.2.2 28 (h + 1) = nI (z + 1) → τ.2.2 28 (h + 3) = nI 0 → τ.2.2 28 (h + 4) = (if z = 0 then 0 else L 1) → (∀ j, j < i → τ.2.2 28 (h + 5 + j) = σ.2.2 44 j) → Um m (fun k => x_wholeOf k 7 N τ) (NwO h 2 (z + 1) (1 + (z + 1) / 2) 0 (fun i => if i = 0 then (if z = 0 then 0 else L 1) else σ.2.2 44 (i - 1))) := by
    intro hz64 m
    induction m using Nat.strongRecOn with
    | ind m ih =>
    intro i N τ hi n2 n3 t86 t56 t55 t44 th t1 t3 t4 tc
    refine Um_suc rfl (fun k => by rw [x_wholeOf]) (fun m1 hm1 => ?_)
    rw [t86, n3, n2, show nI h + 5 = nI (h + 5) from n_add (q := 5) (by omega), n_add (p := h + 5) (by omega), n_cl (p := i) (by omega), n_cl (p := h + 5 + i) (by omega)]
    refine Um_ite (fun y => ?_) (fun y => ?_)
    · have y := (n_le (by omega) (by omega)).mp y
      have e : i = z := by omega
      subst e
      refine Um_suc rfl (fun k => by rw [x_wholeOf]) (fun m2 hm2 => ?_)
      refine Um_chk0 (fun _ => ?_)
      rw [n2, t86, show nI h + 2 = nI (h + 2) from n_add (q := 2) (by omega), n_cl (p := h + 2) (by omega), n_add1, show nI (i + 1) / 2 = nI ((i + 1) / 2) from n_div (q := 2) (by omega) (by decide) (by decide), show (1 : Int32) + nI ((i + 1) / 2) = nI (1 + (i + 1) / 2) from n_add (p := 1) (by omega)]
      refine Um_chk (fun _ => ?_)
      show Um m2 (fun k => x_wholeOf k 10 N (mAr τ 28 (h + 2) (nI (1 + (i + 1) / 2)))) _
      refine Um_suc rfl (fun k => by rw [x_wholeOf]) (fun m3 hm3 => ?_)
      have u : ∀ j, j ≠ h + 2 → (mAr τ 28 (h + 2) (nI (1 + (i + 1) / 2))).2.2 28 j = τ.2.2 28 j := fun j hj => by rw [mAr_s, upd_other hj]
      refine Um_some ⟨n2, t55, t56, (u _ (by omega)).trans th, (u _ (by omega)).trans t1, by rw [mAr_s, upd_same], (u _ (by omega)).trans t3, fun j hj => ?_⟩
      rw [u _ (by omega)]
      show _ = (if j = 0 then (if i = 0 then 0 else L 1) else σ.2.2 44 (j - 1))
      by_cases e0 : j = 0
      · rw [if_pos e0, e0]; exact t4
      · rw [if_neg e0, show h + 4 + j = h + 5 + (j - 1) by omega]; exact tc (j - 1) (by omega)
    have hi2 : i < z := by
      by_cases q : z ≤ i
      · exact absurd ((n_le (by omega) (by omega)).mpr q) y
      · omega
    refine Um_chk (fun _ => ?_)
    refine Um_chk (fun _ => ?_)
    rw [t44]
    show Um m1 (fun k => x_wholeOf k 8 N (mAr τ 28 (h + 5 + i) (σ.2.2 44 i))) _
    refine Um_suc rfl (fun k => by rw [x_wholeOf]) (fun m2 hm2 => ?_)
    have u : ∀ j, j ≠ h + 5 + i → (mAr τ 28 (h + 5 + i) (σ.2.2 44 i)).2.2 28 j = τ.2.2 28 j := fun j hj => by rw [mAr_s, upd_other hj]
    refine ih m2 (by omega) (i + 1) _ _ (by omega) n2 (by show N 3 + 1 = _; rw [n3, n_add1]) t86 t56 t55 ((mAr_o (by decide)).trans t44) ((u _ (by omega)).trans th) ((u _ (by omega)).trans t1) ((u _ (by omega)).trans t3) ((u _ (by omega)).trans t4) (fun j hj => ?_)
    by_cases e : j = i
    · rw [e, mAr_s, upd_same]
    · exact (u _ (by omega)).trans (tc j (by omega))
  -- zeroes above are taken away
  have l1 : ∀ (m : Nat) (τ : MS), HS g l B h τ → τ.1 56 = 0 → τ.1 86 = nI z → τ.2.2 44 = σ.2.2 44 → τ.1 55 = nI h → Um m (fun k => x_wholeOf k 1 L τ) (fun r => (z ≤ 64 ∧ NwO h 2 (z + 1) (1 + (z + 1) / 2) 0 (fun i => if i = 0 then (if z = 0 then 0 else L 1) else σ.2.2 44 (i - 1)) r) ∨ (64 < z ∧ r.1 = 0 ∧ r.2.1 55 = nI h ∧ ¬ r.2.1 56 = 0)) := by
    intro m τ hSτ t56 t86 t44 t55
    refine Um_suc rfl (fun k => by rw [x_wholeOf]) (fun m1 hm1 => ?_)
    rw [t86]
    refine Um_ite (fun y => ?_) (fun y => ?_)
    · have hz64 := (n_le (q := 64) (by omega) (by decide)).mp y
      refine Um_suc rfl (fun k => by rw [x_wholeOf]) (fun m2 hm2 => ?_)
      rw [t86, n_add1]
      refine Um_ob (u_make hSτ (n := z + 1) (by omega) (by omega) rfl) (fun r hr => ?_)
      rw [hr]
      refine Um_ite (fun _ => ?_) (fun w => absurd (by rw [mMk_s (by decide), t56]; decide) w)
      have e28 := mMk_28 (σ := τ) (h := h) (k := (upd (upd (fun _ => 0) 1 2) 2 (nI (z + 1)) : Nat → Int32) 1) (n := z + 1)
      have e55 : (mMk τ h ((upd (upd (fun _ => 0) 1 2) 2 (nI (z + 1)) : Nat → Int32) 1) (z + 1)).1 55 = nI (h + (4 + (z + 1))) := rfl
      have e56 : (mMk τ h ((upd (upd (fun _ => 0) 1 2) 2 (nI (z + 1)) : Nat → Int32) 1) (z + 1)).1 56 = 0 := (mMk_s (by decide)).trans t56
      have e86 : (mMk τ h ((upd (upd (fun _ => 0) 1 2) 2 (nI (z + 1)) : Nat → Int32) 1) (z + 1)).1 86 = nI z := (mMk_s (by decide)).trans t86
      have e44 : (mMk τ h ((upd (upd (fun _ => 0) 1 2) 2 (nI (z + 1)) : Nat → Int32) 1) (z + 1)).2.2 44 = σ.2.2 44 := (mMk_o (by decide)).trans t44
      generalize mMk τ h ((upd (upd (fun _ => 0) 1 2) 2 (nI (z + 1)) : Nat → Int32) 1) (z + 1) = υ at e28 e55 e56 e86 e44
      have k2 : ((upd (upd (fun _ => 0) 1 2) 2 (nI (z + 1)) : Nat → Int32) 1) = nI 2 := rfl
      rw [k2] at e28
      have l5 : ∀ (m : Nat) (N : Nat → Int32), N 2 = nI h → N 101 = nI (h + 4) → N 100 = (if z = 0 then 0 else L 1) → Um m (fun k => x_wholeOf k 5 N υ) (fun r => (z ≤ 64 ∧ NwO h 2 (z + 1) (1 + (z + 1) / 2) 0 (fun i => if i = 0 then (if z = 0 then 0 else L 1) else σ.2.2 44 (i - 1)) r) ∨ (64 < z ∧ r.1 = 0 ∧ r.2.1 55 = nI h ∧ ¬ r.2.1 56 = 0)) := by
        intro m N n2 n101 n100
        refine Um_suc rfl (fun k => by rw [x_wholeOf]) (fun m3 hm3 => ?_)
        rw [n101, n_cl (p := h + 4) (by omega), n100]
        refine Um_chk (fun _ => ?_)
        show Um m3 (fun k => x_wholeOf k 6 N (mAr υ 28 (h + 4) (if z = 0 then 0 else L 1))) _
        refine Um_suc rfl (fun k => by rw [x_wholeOf]) (fun m4 hm4 => ?_)
        have u : ∀ j, j ≠ h + 4 → (mAr υ 28 (h + 4) (if z = 0 then 0 else L 1)).2.2 28 j = υ.2.2 28 j := fun j hj => by rw [mAr_s, upd_other hj]
        refine Um_mono (l7 hz64 m4 0 _ _ (Nat.zero_le _) n2 rfl e86 e56 (by show υ.1 55 = _; rw [e55]; congr 1; omega) ((mAr_o (by decide)).trans e44) ?_ ?_ ?_ ?_ (fun j hj => absurd hj (Nat.not_lt_zero j))) (fun r hr => Or.inl ⟨hz64, hr⟩)
        · rw [u _ (by omega), e28, upd_other (by omega), upd_other (by omega), upd_other (by omega), upd_same]
        · rw [u _ (by omega), e28, upd_other (by omega), upd_other (by omega), upd_same]
        · rw [u _ (by omega), e28, upd_same]; rfl
        · rw [mAr_s, upd_same]
      refine Um_suc rfl (fun k => by rw [x_wholeOf]) (fun m3 hm3 => ?_)
      rw [e86, show upd L 2 (nI h) 2 = nI h from upd_same, show nI h + 4 = nI (h + 4) from n_add (q := 4) (by omega)]
      refine Um_ite (fun q => ?_) (fun q => ?_)
      · have q := (n_eq0 (by omega)).mp q
        exact l5 m3 _ rfl rfl (by rw [if_pos q]; rfl)
      · have q : ¬ z = 0 := fun e => q (by rw [e]; rfl)
        refine Um_suc rfl (fun k => by rw [x_wholeOf]) (fun m4 hm4 => ?_)
        exact l5 m4 _ rfl rfl (by rw [if_neg q]; rfl)
    · refine Um_ob (Um_t (s_fail _ τ) (fun k => f_fail k _ _ _)) (fun r hr => ?_)
      rw [hr]
      refine Um_some (Or.inr ⟨?_, rfl, (mEr_s (by decide)).trans t55, mEr_e (by decide)⟩)
      by_cases q : z ≤ 64
      · exact absurd ((n_le (q := 64) (by omega) (by decide)).mpr q) y
      · omega
  have l0 : ∀ (c : Nat) (m : Nat) (τ : MS), c ≤ 300 → trN (σ.2.2 44) c = z → HS g l B h τ → τ.1 56 = 0 → τ.1 86 = nI c → τ.2.2 44 = σ.2.2 44 → τ.1 55 = nI h → Um m (fun k => x_wholeOf k 0 L τ) (fun r => (z ≤ 64 ∧ NwO h 2 (z + 1) (1 + (z + 1) / 2) 0 (fun i => if i = 0 then (if z = 0 then 0 else L 1) else σ.2.2 44 (i - 1)) r) ∨ (64 < z ∧ r.1 = 0 ∧ r.2.1 55 = nI h ∧ ¬ r.2.1 56 = 0)) := by
    intro c
    induction c with
    | zero =>
      intro m τ hc hz hSτ t56 t86 t44 t55
      have hz : 0 = z := hz
      refine Um_suc rfl (fun k => by rw [x_wholeOf]) (fun m1 hm1 => ?_)
      rw [t86]
      refine Um_ite (fun _ => l1 m1 τ hSτ t56 (by rw [t86, hz]) t44 t55) (fun w => absurd (by decide) w)
    | succ c ih =>
      intro m τ hc hz hSτ t56 t86 t44 t55
      unfold trN at hz
      refine Um_suc rfl (fun k => by rw [x_wholeOf]) (fun m1 hm1 => ?_)
      rw [t86, show nI (c + 1) - 1 = nI c from n_sub1 (by omega), n_cl (p := c) (by omega), t44]
      refine Um_ite (fun w => absurd ((n_le0 (by omega)).mp w) (by omega)) (fun _ => ?_)
      refine Um_chk (fun _ => ?_)
      refine Um_ite (fun y => ?_) (fun y => ?_)
      · rw [if_pos y] at hz
        show Um m1 (fun k => x_wholeOf k 0 L (mSc τ 86 (nI c))) _
        exact ih m1 _ (by omega) hz (HS_c hSτ rfl rfl rfl) t56 rfl t44 t55
      · rw [if_neg y] at hz
        exact l1 m1 τ hSτ t56 (by rw [t86, hz]) t44 t55
  exact l0 c m σ hc hz hS h56 h86 rfl hS.2.2.1
end KWH

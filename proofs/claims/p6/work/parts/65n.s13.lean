section ADV2
variable {σ : CS} {n : Nat}
theorem dg_loop (hn : cN σ n) {a : Nat} {hi lo : Int64} (Q : RS → Prop) : ∀ (f i : Nat) (L : LV) (en : Int32), n - i < f → a ≤ i → i ≤ n → (a < i → en = nI i) → L.1 1 = nI a → L.1 5 = nI i → (∀ (M : LV) (en' : Int32), M.1 1 = nI a → (a < dgE (σ.2.2.1 38) n f i → en' = nI (dgE (σ.2.2.1 38) n f i)) → Tm (fun k => f_X2_advance k 24 M (sA σ 3 (nI a) en' hi lo)) Q) → Tm (fun k => f_X2_advance k 20 L (sA σ 3 (nI a) en hi lo)) Q := by
  obtain ⟨h1, hN, hS, hS2, hfit, z0, z1⟩ := hn
  intro f
  induction f with
  | zero => intro i L en h; omega
  | succ f ih =>
    intro i L en hf hai hin hen l1 l5 t
    rw [dgE_step] at t
    have stop : ¬ (i < n ∧ ¬ σ.2.2.1 38 i < 48 ∧ ¬ 57 < σ.2.2.1 38 i) → Tm (fun k => f_X2_advance k 24 L (sA σ 3 (nI a) en hi lo)) Q := fun h => by
      rw [if_neg h] at t
      exact t L en l1 hen
    refine Tm_suc (fun k => by rw [f_X2_advance]) ?_
    rw [sA_r1, h1, l5]
    refine Tm_ite (fun c => ?_) (fun c => ?_)
    · rw [n_le (by omega) (by omega)] at c
      exact stop (by omega)
    rw [n_le (by omega) (by omega)] at c
    refine Tm_chk (n_in (by omega) (show i < sN σ 38 by omega)) ?_
    rw [n_cl (p := i) (by omega)]
    show Tm (fun k => if σ.2.2.1 38 i < 48 then _ else _) Q
    refine Tm_ite (fun d => stop (fun h => h.2.1 d)) (fun d => ?_)
    refine Tm_chk (by rw [i_lt, n_int (p := i) (by omega), i_c0]; show ¬ (_ ∨ sN σ 38 ≤ i); omega) ?_
    show Tm (fun k => if 57 < σ.2.2.1 38 i then _ else _) Q
    refine Tm_ite (fun g => stop (fun h => h.2.2 g)) (fun g => ?_)
    rw [if_pos ⟨by omega, d, g⟩] at t
    rw [n_add1, sA_w4]
    exact ih (i + 1) _ _ (by omega) (by omega) (by omega) (fun _ => rfl) (by rw [lI_other (by decide)]; exact l1) (by rw [lI_same]) t
theorem sg_loop (hn : cN σ n) {a : Nat} {hi lo : Int64} (Q : RS → Prop) : ∀ (f i : Nat) (L : LV), n - i < f → i ≤ n → L.1 1 = nI a → L.1 5 = nI i → (∀ (M : LV), M.1 1 = nI a → Tm (fun k => f_X2_advance k 29 M (sA σ 4 (nI a) (nI (sgE (σ.2.2.1 38) n f i)) hi lo)) Q) → Tm (fun k => f_X2_advance k 23 L (sA σ 4 (nI a) (nI i) hi lo)) Q := by
  obtain ⟨h1, hN, hS, hS2, hfit, z0, z1⟩ := hn
  intro f
  induction f with
  | zero => intro i L h; omega
  | succ f ih =>
    intro i L hf hin l1 l5 t
    rw [sgE_step] at t
    have stop : ¬ (i < n ∧ ¬ σ.2.2.1 38 i &&& 255 < 32 ∧ ¬ σ.2.2.1 38 i = 34) → Tm (fun k => f_X2_advance k 29 L (sA σ 4 (nI a) (nI i) hi lo)) Q := fun h => by
      rw [if_neg h] at t
      exact t L l1
    refine Tm_suc (fun k => by rw [f_X2_advance]) ?_
    rw [sA_r1, h1, l5]
    refine Tm_ite (fun c => ?_) (fun c => ?_)
    · rw [n_le (by omega) (by omega)] at c
      exact stop (by omega)
    rw [n_le (by omega) (by omega)] at c
    refine Tm_chk (n_in (by omega) (show i < sN σ 38 by omega)) ?_
    rw [n_cl (p := i) (by omega)]
    show Tm (fun k => if σ.2.2.1 38 i &&& 255 < 32 then _ else _) Q
    refine Tm_ite (fun d => stop (fun h => h.2.1 d)) (fun d => ?_)
    refine Tm_chk (by rw [i_lt, n_int (p := i) (by omega), i_c0]; show ¬ (_ ∨ sN σ 38 ≤ i); omega) ?_
    show Tm (fun k => if σ.2.2.1 38 i = 34 then _ else _) Q
    refine Tm_ite (fun g => stop (fun h => h.2.2 g)) (fun g => ?_)
    rw [if_pos ⟨by omega, d, g⟩] at t
    rw [n_add1, sA_w4]
    exact ih (i + 1) _ (by omega) (by omega) (by rw [lI_other (by decide)]; exact l1) (by rw [lI_same]) t
end ADV2
/-- a sign of two bytes: its kind, and whether there is a second byte -/
def sgK (kd nx : Int32) : Int32 × Nat :=
  if nx = 61 ∧ (kd = 27 ∨ kd = 22 ∨ kd = 24 ∨ kd = 18) then (if kd = 18 then 5 else if kd = 27 then 21 else kd + 1, 1)
  else if (kd = 8 ∧ nx = 42) ∨ (kd = 29 ∧ nx = 46) then (if kd = 8 then 9 else 28, 1)
  else (kd, 0)
/-- a token that begins at q: its kind, its end, the bytes of a name (those of the one before, where it is none) -/
def tokC (W : Nat → Int64) (hi lo : Int64) (R : Nat → Int32) (n q : Nat) : Int32 × Nat × Int64 × Int64 :=
  if n ≤ q then (1, q, hi, lo)
  else if cls (R q) = 2 then
    (if nmE R n (n + 1) q - q ≤ 8 then wdK W (keyH R q (nmE R n (n + 1) q - q)) 53 0 2 else if nmE R n (n + 1) q - q ≤ 16 then 2 else 0, nmE R n (n + 1) q, keyH R q (nmE R n (n + 1) q - q), keyL R q (nmE R n (n + 1) q - q))
  else if cls (R q) = 3 then (if dgE R n (n + 1) q - q ≤ 60 then 3 else 0, dgE R n (n + 1) q, hi, lo)
  else if cls (R q) = 4 then (if (sgE R n (n + 1) (q + 1) < n ∧ R (sgE R n (n + 1) (q + 1)) = 34) ∧ sgE R n (n + 1) (q + 1) - q - 1 ≤ 100 then 4 else 0, sgE R n (n + 1) (q + 1) + 1, hi, lo)
  else ((sgK (cls (R q)) (R (q + 1))).1, q + 1 + (sgK (cls (R q)) (R (q + 1))).2, hi, lo)
theorem lxC_dig : ∀ c : Nat, c < 128 → lxC.getD c 0 = 3 → 48 ≤ c ∧ c ≤ 57 := by decide +kernel
theorem cls_dig {c : Int32} (hf : fits .byte (.int c) = true) (h : cls c = 3) : ¬ c < 48 ∧ ¬ 57 < c := by
  unfold cls at h
  by_cases h0 : c < 0
  · rw [if_pos h0] at h; exact absurd h (by decide)
  · rw [if_neg h0] at h
    have hb := fits_byte' hf
    rw [i_lt, i_c0] at h0
    have hc := i_clamp (x := c) (by omega)
    have := lxC_dig c.toNatClampNeg (by omega) h
    rw [i_lt, i_lt, show (48 : Int32).toInt = 48 from rfl, show (57 : Int32).toInt = 57 from rfl]
    omega
theorem s_advance {σ : CS} {n p : Nat} (hn : cN σ n) (h4 : σ.1 3704 = nI p) (hp : p ≤ n) (L : LV) : Tm (fun k => f_X2_advance k 0 L σ) (fun r => ∀ (q : Nat) (t : Int32 × Nat × Int64 × Int64), q = cSk (σ.2.2.1 38) n (n + 1) false p → t = tokC (σ.2.2.2.1 39) (σ.2.1 3705) (σ.2.1 3706) (σ.2.2.1 38) n q → r = cTok σ t.1 (nI q) (nI t.2.1) t.2.2.1 t.2.2.2) := by
  have hcn := hn
  obtain ⟨h1, hN, hS, hS2, hfit, z0, z1⟩ := hn
  have hq : cSk (σ.2.2.1 38) n (n + 1) false p ≤ n := cSk_le _ _ _ _ _ hp
  refine Tm_suc (fun k => by rw [f_X2_advance]) ?_
  refine between_loop hcn _ (n + 1) false p _ (by omega) hp ?_ ?_ ?_ ?_ (fun M m1 => ?_)
  · rw [lI_other (by decide), lI_other (by decide), lI_other (by decide), lI_same]; exact h4
  · rw [lI_other (by decide), lI_other (by decide), lI_same]; rfl
  · rw [lI_other (by decide), lI_same]
  · rw [lI_same]; exact h4
  generalize cSk (σ.2.2.1 38) n (n + 1) false p = q at hq m1
  suffices hh : Tm (fun k => f_X2_advance k 2 M σ) (fun r => r = cTok σ (tokC (σ.2.2.2.1 39) (σ.2.1 3705) (σ.2.1 3706) (σ.2.2.1 38) n q).1 (nI q) (nI (tokC (σ.2.2.2.1 39) (σ.2.1 3705) (σ.2.1 3706) (σ.2.2.1 38) n q).2.1) (tokC (σ.2.2.2.1 39) (σ.2.1 3705) (σ.2.1 3706) (σ.2.2.1 38) n q).2.2.1 (tokC (σ.2.2.2.1 39) (σ.2.1 3705) (σ.2.1 3706) (σ.2.2.1 38) n q).2.2.2) from
    Tm_mono hh (fun r hr q' t hq' ht => by subst hq'; subst ht; exact hr)
  have hself := sA_self (σ := σ)
  generalize σ.1 3702 = kd0 at hself
  generalize σ.1 3703 = st0 at hself
  generalize σ.1 3704 = en0 at hself
  generalize hhi : σ.2.1 3705 = hi0 at hself ⊢
  generalize hlo : σ.2.1 3706 = lo0 at hself ⊢
  -- from 12 on: the kind is in 100
  have twelve : ∀ (K : LV) (en : Nat), K.1 1 = nI q → K.1 100 = (if n ≤ q then 1 else cls (σ.2.2.1 38 q)) → en = (if n ≤ q then q else q + 1) → Tm (fun k => f_X2_advance k 12 K (sA σ kd0 (nI q) (nI en) hi0 lo0)) (fun r => r = cTok σ (tokC (σ.2.2.2.1 39) hi0 lo0 (σ.2.2.1 38) n q).1 (nI q) (nI (tokC (σ.2.2.2.1 39) hi0 lo0 (σ.2.2.1 38) n q).2.1) (tokC (σ.2.2.2.1 39) hi0 lo0 (σ.2.2.1 38) n q).2.2.1 (tokC (σ.2.2.2.1 39) hi0 lo0 (σ.2.2.1 38) n q).2.2.2) := by
    intro K en k1 k100 hen
    have hen2 : en < n + 2 := by rw [hen]; split <;> omega
    refine Tm_suc (fun k => by rw [f_X2_advance]) ?_
    rw [k100, sA_w2, sA_r4, sA_r2]
    refine Tm_chk (n_in (by omega) (show en < sN σ 38 by omega)) ?_
    rw [n_cl (p := en) (by omega)]
    unfold tokC
    by_cases c : n ≤ q
    · -- the end of the tape
      obtain rfl : q = n := by omega
      have hen : en = q := by rw [hen, if_pos (Nat.le_refl _)]
      subst hen
      simp only [if_pos (Nat.le_refl en)]
      refine Tm_ite (fun d => absurd d (by decide)) (fun _ => ?_)
      refine Tm_suc (fun k => by rw [f_X2_advance]) ?_
      rw [sA_r2]
      refine Tm_ite (fun d => absurd d (by decide)) (fun _ => ?_)
      refine Tm_suc (fun k => by rw [f_X2_advance]) ?_
      rw [sA_r2]
      refine Tm_ite (fun d => absurd d (by decide)) (fun _ => ?_)
      refine Tm_suc (fun k => by rw [f_X2_advance]) ?_
      rw [lI_same]
      show Tm (fun k => if σ.2.2.1 38 en = 61 then _ else _) _
      rw [z0]
      refine Tm_ite (fun d => absurd d (by decide)) (fun _ => ?_)
      refine Tm_suc (fun k => by rw [f_X2_advance]) ?_
      rw [sA_r2]
      refine Tm_ite (fun d => absurd d (by decide)) (fun _ => ?_)
      refine Tm_suc (fun k => by rw [f_X2_advance]) ?_
      rw [sA_r2]
      refine Tm_ite (fun d => absurd d (by decide)) (fun _ => ?_)
      exact adv_end _
    have hen : en = q + 1 := by rw [hen, if_neg c]
    subst hen
    simp only [if_neg c]
    have hb := hfit q (by omega)
    refine Tm_ite (fun d => ?_) (fun d => ?_)
    · -- a name
      rw [if_pos d]
      have hE := nmE_le (σ.2.2.1 38) n (n + 1) q hq
      refine Tm_suc (fun k => by rw [f_X2_advance]) ?_
      rw [sA_w5, sA_w6, d]
      have := nm_loop hcn (a := q) (fun r => r = cTok σ (if nmE (σ.2.2.1 38) n (n + 1) q - q ≤ 8 then wdK (σ.2.2.2.1 39) (keyH (σ.2.2.1 38) q (nmE (σ.2.2.1 38) n (n + 1) q - q)) 53 0 2 else if nmE (σ.2.2.1 38) n (n + 1) q - q ≤ 16 then 2 else 0) (nI q) (nI (nmE (σ.2.2.1 38) n (n + 1) q)) (keyH (σ.2.2.1 38) q (nmE (σ.2.2.1 38) n (n + 1) q - q)) (keyL (σ.2.2.1 38) q (nmE (σ.2.2.1 38) n (n + 1) q - q))) (n + 1) q (lI (lI K 5 2) 6 (K.1 1)) (nI (q + 1)) (by omega) (Nat.le_refl _) hq (fun _ => ⟨by omega, Or.inl d⟩) (fun h => absurd h (Nat.lt_irrefl _)) (by rw [lI_other (by decide), lI_other (by decide)]; exact k1) (by rw [lI_other (by decide), lI_same, d]) (by rw [lI_same]; exact k1) ?_
      · rw [Nat.sub_self] at this
        exact this
      intro N n1 hlt
      generalize nmE (σ.2.2.1 38) n (n + 1) q = e at hE hlt ⊢
      -- 33: the kind before the words
      have kind : ∀ (x : Int32) (J : LV), J.1 1 = nI q → J.1 100 = x → (x = if e - q ≤ 16 then 2 else 0) → Tm (fun k => f_X2_advance k 33 J (sA σ 2 (nI q) (nI e) (keyH (σ.2.2.1 38) q (e - q)) (keyL (σ.2.2.1 38) q (e - q)))) (fun r => r = cTok σ (if e - q ≤ 8 then wdK (σ.2.2.2.1 39) (keyH (σ.2.2.1 38) q (e - q)) 53 0 2 else if e - q ≤ 16 then 2 else 0) (nI q) (nI e) (keyH (σ.2.2.1 38) q (e - q)) (keyL (σ.2.2.1 38) q (e - q))) := by
        intro x J j1 j100 hx
        refine Tm_suc (fun k => by rw [f_X2_advance]) ?_
        rw [j100, sA_w2]
        by_cases h8 : e - q ≤ 8
        · rw [if_pos h8]
          rw [if_pos (by omega)] at hx
          rw [hx]
          exact wd_loop (by omega) (by omega) h8 53 0 2 _ rfl (by rw [lI_other (by decide)]; exact j1) (by rw [lI_same]; rfl)
        · rw [if_neg h8, ← hx]
          refine Tm_suc (fun k => by rw [f_X2_advance]) ?_
          rw [lI_same]
          refine Tm_ite (fun g => absurd g (by decide)) (fun _ => ?_)
          rw [sA_r4, lI_other (by decide), j1, n_sub (by omega) (by omega), show (8 : Int32) = nI 8 from rfl]
          refine Tm_ite (fun _ => ?_) (fun g => ?_)
          · refine Tm_suc (fun k => by rw [f_X2_advance]) ?_
            exact adv_end _
          · rw [n_lt (by omega) (by omega)] at g; omega
      refine Tm_suc (fun k => by rw [f_X2_advance]) ?_
      rw [sA_r4, n1, n_sub (by omega) (by omega), show (16 : Int32) = nI 16 from rfl]
      refine Tm_ite (fun g => ?_) (fun g => ?_)
      · rw [n_le (by omega) (by omega)] at g
        refine Tm_suc (fun k => by rw [f_X2_advance]) ?_
        exact kind 2 _ (by rw [lI_other (by decide)]; exact n1) (by rw [lI_same]) (by rw [if_pos g])
      · rw [n_le (by omega) (by omega)] at g
        exact kind 0 _ (by rw [lI_other (by decide)]; exact n1) (by rw [lI_same]) (by rw [if_neg g])
    rw [if_neg d]
    refine Tm_suc (fun k => by rw [f_X2_advance]) ?_
    rw [sA_r2]
    refine Tm_ite (fun d3 => ?_) (fun d3 => ?_)
    · -- a number
      rw [if_pos d3, d3]
      have hE := dgE_le (σ.2.2.1 38) n (n + 1) q hq
      have hlt : q < dgE (σ.2.2.1 38) n (n + 1) q := by
        rw [dgE_step, if_pos ⟨by omega, cls_dig hb d3⟩]
        have := dgE_ge (σ.2.2.1 38) n n (q + 1)
        omega
      refine dg_loop hcn _ (n + 1) q _ (nI (q + 1)) (by omega) (Nat.le_refl _) hq (fun h => absurd h (Nat.lt_irrefl _)) (by rw [lI_other (by decide), lI_other (by decide)]; exact k1) (by rw [lI_same, lI_other (by decide)]; exact k1) (fun N en' n1 he => ?_)
      rw [he hlt]
      clear he
      generalize dgE (σ.2.2.1 38) n (n + 1) q = e at hE hlt ⊢
      have last : ∀ (x : Int32) (J : LV), J.1 100 = x → Tm (fun k => f_X2_advance k 31 J (sA σ 3 (nI q) (nI e) hi0 lo0)) (fun r => r = cTok σ x (nI q) (nI e) hi0 lo0) := fun x J hx => by
        refine Tm_suc (fun k => by rw [f_X2_advance]) ?_
        rw [hx, sA_w2]
        exact adv_end _
      refine Tm_suc (fun k => by rw [f_X2_advance]) ?_
      rw [sA_r4, n1, n_sub (by omega) (by omega), show (60 : Int32) = nI 60 from rfl]
      refine Tm_ite (fun g => ?_) (fun g => ?_)
      · rw [n_le (by omega) (by omega)] at g
        rw [if_pos g]
        refine Tm_suc (fun k => by rw [f_X2_advance]) ?_
        exact last 3 _ (by rw [lI_same])
      · rw [n_le (by omega) (by omega)] at g
        rw [if_neg g]
        exact last 0 _ (by rw [lI_same])
    rw [if_neg d3]
    refine Tm_suc (fun k => by rw [f_X2_advance]) ?_
    rw [sA_r2]
    refine Tm_ite (fun d4 => ?_) (fun d4 => ?_)
    · -- a string
      rw [if_pos d4, d4]
      have hE := sgE_le (σ.2.2.1 38) n (n + 1) (q + 1) (by omega)
      have hG := sgE_ge (σ.2.2.1 38) n (n + 1) (q + 1)
      refine sg_loop hcn _ (n + 1) (q + 1) _ (by omega) (by omega) (by rw [lI_other (by decide), lI_other (by decide)]; exact k1) (by rw [lI_same, lI_other (by decide), k1, n_add1]) (fun N n1 => ?_)
      generalize sgE (σ.2.2.1 38) n (n + 1) (q + 1) = e at hE hG ⊢
      have last : ∀ (x : Int32) (J : LV), J.1 100 = x → Tm (fun k => f_X2_advance k 41 J (sA σ 4 (nI q) (nI e) hi0 lo0)) (fun r => r = cTok σ x (nI q) (nI (e + 1)) hi0 lo0) := fun x J hx => by
        refine Tm_suc (fun k => by rw [f_X2_advance]) ?_
        rw [hx, sA_w2, sA_r4, n_add1, sA_w4]
        exact adv_end _
      have no : ¬ ((e < n ∧ σ.2.2.1 38 e = 34) ∧ e - q - 1 ≤ 100) → Tm (fun k => f_X2_advance k 40 N (sA σ 4 (nI q) (nI e) hi0 lo0)) (fun r => r = cTok σ (if (e < n ∧ σ.2.2.1 38 e = 34) ∧ e - q - 1 ≤ 100 then 4 else 0) (nI q) (nI (e + 1)) hi0 lo0) := fun h => by
        rw [if_neg h]
        refine Tm_suc (fun k => by rw [f_X2_advance]) ?_
        exact last 0 _ (by rw [lI_same])
      refine Tm_suc (fun k => by rw [f_X2_advance]) ?_
      rw [sA_r1, h1, sA_r4]
      refine Tm_ite (fun g => ?_) (fun g => ?_)
      · rw [n_le (by omega) (by omega)] at g
        exact no (by omega)
      rw [n_le (by omega) (by omega)] at g
      refine Tm_chk (n_in (by omega) (show e < sN σ 38 by omega)) ?_
      rw [n_cl (p := e) (by omega)]
      show Tm (fun k => if σ.2.2.1 38 e = 34 then _ else _) _
      refine Tm_ite (fun g34 => ?_) (fun g34 => no (fun h => g34 h.1.2))
      rw [n1, n_sub (by omega) (by omega), show nI (e - q) - 1 = nI (e - q - 1) from n_sub (q := 1) (by omega) (by omega), show (100 : Int32) = nI 100 from rfl]
      refine Tm_ite (fun g100 => ?_) (fun g100 => ?_)
      · rw [n_lt (by omega) (by omega)] at g100
        exact no (by omega)
      · rw [n_lt (by omega) (by omega)] at g100
        rw [if_pos ⟨⟨by omega, g34⟩, by omega⟩]
        exact last 4 _ (by rw [lI_same])
    rw [if_neg d4]
    refine Tm_suc (fun k => by rw [f_X2_advance]) ?_
    rw [sA_r2, lI_same]
    have e38 : (sA σ (cls (σ.2.2.1 38 q)) (nI q) (nI (q + 1)) hi0 lo0).2.2.1 38 (q + 1) = σ.2.2.1 38 (q + 1) := rfl
    rw [e38]
    clear e38
    generalize σ.2.2.1 38 (q + 1) = nx at *
    generalize cls (σ.2.2.1 38 q) = kd at *
    -- two bytes
    have step : ∀ (x : Int32), Tm (fun k => f_X2_advance k 42 (lI (lI K 4 nx) 100 x) (sA σ x (nI q) (nI (q + 1 + 1)) hi0 lo0)) (fun r => r = cTok σ x (nI q) (nI (q + 1 + 1)) hi0 lo0) := fun x => adv_end _
    have first : nx = 61 → (kd = 27 ∨ kd = 22 ∨ kd = 24 ∨ kd = 18) → Tm (fun k => f_X2_advance k 28 (lI K 4 nx) (sA σ kd (nI q) (nI (q + 1)) hi0 lo0)) (fun r => r = cTok σ (sgK kd nx).1 (nI q) (nI (q + 1 + (sgK kd nx).2)) hi0 lo0) := by
      intro e1 e2
      unfold sgK
      rw [if_pos ⟨e1, e2⟩]
      have l39 : ∀ (x : Int32) (J : LV), J.1 100 = x → Tm (fun k => f_X2_advance k 39 J (sA σ kd (nI q) (nI (q + 1)) hi0 lo0)) (fun r => r = cTok σ x (nI q) (nI (q + 1 + 1)) hi0 lo0) := fun x J hx => by
        refine Tm_suc (fun k => by rw [f_X2_advance]) ?_
        rw [hx, sA_w2, sA_r4, n_add1, sA_w4]
        exact adv_end _
      refine Tm_suc (fun k => by rw [f_X2_advance]) ?_
      rw [sA_r2]
      refine Tm_ite (fun g => ?_) (fun g => ?_)
      · rw [if_pos g]; exact l39 5 _ (by rw [lI_same])
      · rw [if_neg g]
        refine Tm_suc (fun k => by rw [f_X2_advance]) ?_
        rw [sA_r2]
        refine Tm_ite (fun g2 => ?_) (fun g2 => ?_)
        · rw [if_pos g2]; exact l39 21 _ (by rw [lI_same])
        · rw [if_neg g2]
          refine Tm_suc (fun k => by rw [f_X2_advance]) ?_
          rw [sA_r2]
          exact l39 _ _ (by rw [lI_same])
    have second : ¬ (nx = 61 ∧ (kd = 27 ∨ kd = 22 ∨ kd = 24 ∨ kd = 18)) → Tm (fun k => f_X2_advance k 27 (lI K 4 nx) (sA σ kd (nI q) (nI (q + 1)) hi0 lo0)) (fun r => r = cTok σ (sgK kd nx).1 (nI q) (nI (q + 1 + (sgK kd nx).2)) hi0 lo0) := by
      intro hno
      unfold sgK
      rw [if_neg hno]
      have l47 : ∀ (x : Int32) (J : LV), J.1 100 = x → Tm (fun k => f_X2_advance k 47 J (sA σ kd (nI q) (nI (q + 1)) hi0 lo0)) (fun r => r = cTok σ x (nI q) (nI (q + 1 + 1)) hi0 lo0) := fun x J hx => by
        refine Tm_suc (fun k => by rw [f_X2_advance]) ?_
        rw [hx, sA_w2, sA_r4, n_add1, sA_w4]
        exact adv_end _
      have l37 : (kd = 8 ∧ nx = 42) ∨ (kd = 29 ∧ nx = 46) → Tm (fun k => f_X2_advance k 37 (lI K 4 nx) (sA σ kd (nI q) (nI (q + 1)) hi0 lo0)) (fun r => r = cTok σ (if (kd = 8 ∧ nx = 42) ∨ (kd = 29 ∧ nx = 46) then ((if kd = 8 then 9 else 28, 1) : Int32 × Nat) else (kd, 0)).1 (nI q) (nI (q + 1 + (if (kd = 8 ∧ nx = 42) ∨ (kd = 29 ∧ nx = 46) then ((if kd = 8 then 9 else 28, 1) : Int32 × Nat) else (kd, 0)).2)) hi0 lo0) := fun h => by
        rw [if_pos h]
        refine Tm_suc (fun k => by rw [f_X2_advance]) ?_
        rw [sA_r2]
        refine Tm_ite (fun g => ?_) (fun g => ?_)
        · rw [if_pos g]; exact l47 9 _ (by rw [lI_same])
        · rw [if_neg g]
          refine Tm_suc (fun k => by rw [f_X2_advance]) ?_
          exact l47 28 _ (by rw [lI_same])
      have l42 : ¬ ((kd = 8 ∧ nx = 42) ∨ (kd = 29 ∧ nx = 46)) → Tm (fun k => f_X2_advance k 42 (lI K 4 nx) (sA σ kd (nI q) (nI (q + 1)) hi0 lo0)) (fun r => r = cTok σ (if (kd = 8 ∧ nx = 42) ∨ (kd = 29 ∧ nx = 46) then ((if kd = 8 then 9 else 28, 1) : Int32 × Nat) else (kd, 0)).1 (nI q) (nI (q + 1 + (if (kd = 8 ∧ nx = 42) ∨ (kd = 29 ∧ nx = 46) then ((if kd = 8 then 9 else 28, 1) : Int32 × Nat) else (kd, 0)).2)) hi0 lo0) := fun h => by
        rw [if_neg h]
        exact adv_end _
      have l36 : ¬ (kd = 8 ∧ nx = 42) → Tm (fun k => f_X2_advance k 36 (lI K 4 nx) (sA σ kd (nI q) (nI (q + 1)) hi0 lo0)) (fun r => r = cTok σ (if (kd = 8 ∧ nx = 42) ∨ (kd = 29 ∧ nx = 46) then ((if kd = 8 then 9 else 28, 1) : Int32 × Nat) else (kd, 0)).1 (nI q) (nI (q + 1 + (if (kd = 8 ∧ nx = 42) ∨ (kd = 29 ∧ nx = 46) then ((if kd = 8 then 9 else 28, 1) : Int32 × Nat) else (kd, 0)).2)) hi0 lo0) := fun h => by
        refine Tm_suc (fun k => by rw [f_X2_advance]) ?_
        rw [sA_r2, lI_same]
        refine Tm_ite (fun g => ?_) (fun g => l42 (fun q => q.elim h (fun q => g q.1)))
        exact Tm_ite (fun g2 => l37 (Or.inr ⟨g, g2⟩)) (fun g2 => l42 (fun q => q.elim h (fun q => g2 q.2)))
      refine Tm_suc (fun k => by rw [f_X2_advance]) ?_
      rw [sA_r2, lI_same]
      refine Tm_ite (fun g => ?_) (fun g => l36 (fun q => g q.1))
      exact Tm_ite (fun g2 => l37 (Or.inl ⟨g, g2⟩)) (fun g2 => l36 (fun q => g2 q.2))
    refine Tm_ite (fun e61 => ?_) (fun e61 => second (fun h => e61 h.1))
    refine Tm_ite (fun g => first e61 (Or.inl g)) (fun g1 => ?_)
    refine Tm_ite (fun g => first e61 (Or.inr (Or.inl g))) (fun g2 => ?_)
    refine Tm_ite (fun g => first e61 (Or.inr (Or.inr (Or.inl g)))) (fun g3 => ?_)
    exact Tm_ite (fun g => first e61 (Or.inr (Or.inr (Or.inr g)))) (fun g4 => second (fun h => h.2.elim g1 (fun h => h.elim g2 (fun h => h.elim g3 g4))))
  have seven : ∀ (K : LV) (en : Nat), K.1 1 = nI q → K.1 100 = nI en → en = (if n ≤ q then q else q + 1) → Tm (fun k => f_X2_advance k 7 K (sA σ kd0 (nI q) en0 hi0 lo0)) (fun r => r = cTok σ (tokC (σ.2.2.2.1 39) hi0 lo0 (σ.2.2.1 38) n q).1 (nI q) (nI (tokC (σ.2.2.2.1 39) hi0 lo0 (σ.2.2.1 38) n q).2.1) (tokC (σ.2.2.2.1 39) hi0 lo0 (σ.2.2.1 38) n q).2.2.1 (tokC (σ.2.2.2.1 39) hi0 lo0 (σ.2.2.1 38) n q).2.2.2) := by
    intro K en k1 k100 hen
    refine Tm_suc (fun k => by rw [f_X2_advance]) ?_
    rw [k1, k100, sA_w4, sA_r1, h1]
    refine Tm_ite (fun c => ?_) (fun c => ?_)
    · rw [n_lt (by omega) (by omega)] at c
      have hb := hfit q (by omega)
      refine Tm_suc (fun k => by rw [f_X2_advance]) ?_
      rw [k1]
      refine Tm_chk (n_in (by omega) (show q < sN σ 38 by omega)) ?_
      rw [n_cl (p := q) (by omega)]
      show Tm (fun k => if 0 ≤ σ.2.2.1 38 q then _ else _) _
      refine Tm_ite (fun g => ?_) (fun g => ?_)
      · have hc : ¬ σ.2.2.1 38 q < 0 := Int32.not_lt.mpr g
        refine Tm_suc (fun k => by rw [f_X2_advance]) ?_
        rw [k1]
        refine Tm_chk (n_in (by omega) (show q < sN σ 38 by omega)) ?_
        rw [n_cl (p := q) (by omega)]
        refine Tm_chk (byte_in hb hc) ?_
        exact twelve _ en (by rw [lI_other (by decide)]; exact k1) (by rw [lI_same, if_neg (by omega)]; unfold cls; rw [if_neg hc]; rfl) hen
      · have hc : σ.2.2.1 38 q < 0 := Int32.not_le.mp g
        exact twelve _ en (by rw [lI_other (by decide)]; exact k1) (by rw [lI_same, if_neg (by omega)]; unfold cls; rw [if_pos hc]) hen
    · rw [n_lt (by omega) (by omega)] at c
      exact twelve _ en (by rw [lI_other (by decide)]; exact k1) (by rw [lI_same, if_pos (by omega)]) hen
  have goal2 : Tm (fun k => f_X2_advance k 2 M (sA σ kd0 st0 en0 hi0 lo0)) (fun r => r = cTok σ (tokC (σ.2.2.2.1 39) hi0 lo0 (σ.2.2.1 38) n q).1 (nI q) (nI (tokC (σ.2.2.2.1 39) hi0 lo0 (σ.2.2.1 38) n q).2.1) (tokC (σ.2.2.2.1 39) hi0 lo0 (σ.2.2.1 38) n q).2.2.1 (tokC (σ.2.2.2.1 39) hi0 lo0 (σ.2.2.1 38) n q).2.2.2) := by
    refine Tm_suc (fun k => by rw [f_X2_advance]) ?_
    rw [m1, sA_w3, sA_r1, h1, n_add1]
    refine Tm_ite (fun c => ?_) (fun c => ?_)
    · rw [n_le (by omega) (by omega)] at c
      refine Tm_suc (fun k => by rw [f_X2_advance]) ?_
      rw [m1]
      exact seven (lI M 100 (nI q)) q (by rw [lI_other (by decide)]; exact m1) (by rw [lI_same]) (by rw [if_pos c])
    · rw [n_le (by omega) (by omega)] at c
      exact seven (lI M 100 (nI (q + 1))) (q + 1) (by rw [lI_other (by decide)]; exact m1) (by rw [lI_same]) (by rw [if_neg c])
  rw [hself] at goal2
  exact goal2

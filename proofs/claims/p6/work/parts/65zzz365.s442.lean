/-! The class: where its lexer stands. -/
section CVA
variable {T R S : Nat → Int32} {n p q a b m : Nat} {σ σ' τ : CS} {L : LV} {l l' : List Int32} {hi lo : Int64}
/-- the kinds of the reference, as the house has them -/
def cKd (k : Nat) : Int32 := if k = 25 then 1 else if k = 26 then 2 else if k = 27 then 3 else if k = 28 then 4 else if k < 25 then sgC.getD k 0 else nI k
abbrev tkV (k : Nat) : Prop := (1 ≤ k ∧ k ≤ 28) ∨ (32 ≤ k ∧ k ≤ 84)
def ckB (k j : Nat) : Bool := !(decide (tkV k) && decide (tkV j)) || (decide (cKd k = cKd j) == decide (k = j))
theorem ck_ck : ∀ k : Nat, k < 85 → ∀ j : Nat, j < 85 → ckB k j = true := by decide +kernel
theorem ck_all (k : Nat) (k85 : k < 85) (hk : tkV k) (j : Nat) (j85 : j < 85) (hj : tkV j) : cKd k = cKd j ↔ k = j := by
  have z := ck_ck k k85 j j85
  unfold ckB at z
  rw [decide_eq_true hk, decide_eq_true hj] at z
  have z' : (decide (cKd k = cKd j) == decide (k = j)) = true := z
  rw [beq_iff_eq, decide_eq_decide] at z'
  exact z'
theorem ck_e {k j : Nat} (hk : tkV k) (hj : tkV j) : cKd k = cKd j ↔ k = j := ck_all k (by omega) hk j (by omega) hj
theorem tk_v (hq : q ≤ n) (h : ¬ tkK T n q = 0) : tkV (tkK T n q) := by
  rcases tk_cases T n q hq with ⟨_, a, b⟩ | ⟨_, ⟨a, b⟩ | ⟨a, b⟩ | ⟨a, b⟩ | ⟨a, b1, b2, b3⟩ | ⟨a, b1, b2, b3⟩ | ⟨a, b⟩⟩
  · omega
  · omega
  · omega
  · omega
  · omega
  · omega
  · exact absurd b h
theorem keyH_c : ∀ m : Nat, (∀ i, i < m → R (a + i) = S (b + i)) → keyH R a m = keyH S b m
  | 0, _ => rfl
  | m + 1, h => by
    show (if m < 8 then keyH R a m <<< ((8 : Int32).toInt64 &&& 63) ||| (R (a + m)).toInt64 else keyH R a m) = (if m < 8 then keyH S b m <<< ((8 : Int32).toInt64 &&& 63) ||| (S (b + m)).toInt64 else keyH S b m)
    rw [keyH_c m (fun i hi => h i (by omega)), h m (by omega)]
theorem keyL_c : ∀ m : Nat, (∀ i, i < m → R (a + i) = S (b + i)) → keyL R a m = keyL S b m
  | 0, _ => rfl
  | m + 1, h => by
    show (if m < 8 then keyL R a m else keyL R a m <<< ((8 : Int32).toInt64 &&& 63) ||| (R (a + m)).toInt64) = (if m < 8 then keyL S b m else keyL S b m <<< ((8 : Int32).toInt64 &&& 63) ||| (S (b + m)).toInt64)
    rw [keyL_c m (fun i hi => h i (by omega)), h m (by omega)]
/-- a name's two numbers -/
def kyH (l : List Int32) : Int64 := keyH (fun i => l.getD i 0) 0 l.length
def kyL (l : List Int32) : Int64 := keyL (fun i => l.getD i 0) 0 l.length
def okN (l : List Int32) : Prop := 1 ≤ l.length ∧ l.length ≤ 16 ∧ ∀ i, i < l.length → okB (l.getD i 0)
theorem gD_ext : ∀ (l l' : List Int32), l.length = l'.length → (∀ i, i < l.length → l.getD i 0 = l'.getD i 0) → l = l'
  | [], [], _, _ => rfl
  | [], b :: l', h, _ => absurd h (by show ¬ 0 = l'.length + 1; omega)
  | a :: l, [], h, _ => absurd h (by show ¬ l.length + 1 = 0; omega)
  | a :: l, b :: l', h, e => by
    have h' : l.length + 1 = l'.length + 1 := h
    have e0 : a = b := e 0 (by show 0 < l.length + 1; omega)
    rw [e0, gD_ext l l' (by omega) (fun i hi => e (i + 1) (by show i + 1 < l.length + 1; omega))]
theorem ky_inj (h1 : okN l) (h2 : okN l') : (kyH l = kyH l' ∧ kyL l = kyL l') ↔ l = l' := by
  have z := key_inj (R := fun i => l.getD i 0) (S := fun i => l'.getD i 0) (a := 0) (b := 0) h1.2.1 h2.2.1 (fun i hi => by show okB (l.getD (0 + i) 0); rw [Nat.zero_add]; exact h1.2.2 i hi) (fun i hi => by show okB (l'.getD (0 + i) 0); rw [Nat.zero_add]; exact h2.2.2 i hi)
  constructor
  · intro e
    obtain ⟨e1, e2⟩ := z.1 e
    refine gD_ext l l' e1 (fun i hi => ?_)
    have y := e2 i hi
    have y' : l.getD (0 + i) 0 = l'.getD (0 + i) 0 := y
    rw [Nat.zero_add] at y'
    exact y'
  · intro e
    rw [e]; exact ⟨rfl, rfl⟩
theorem tk_nm (hq : q ≤ n) (h : tkK T n q = 26) : q < n ∧ isL (rB T n q) ∧ tkE T n q = nameE T n (n + 1) q ∧ nameE T n (n + 1) q - q ≤ 16 := by
  have hc : q < n ∧ (tokM 0 T n q).1 = 1 := by
    rcases tk_cases T n q hq with ⟨_, a, b⟩ | ⟨hl, ⟨a, b⟩ | ⟨a, b⟩ | ⟨a, b⟩ | ⟨a, b1, b2, b3⟩ | ⟨a, b1, b2, b3⟩ | ⟨a, b⟩⟩
    · omega
    · exact ⟨hl, a⟩
    · omega
    · omega
    · omega
    · omega
    · omega
  obtain ⟨hl, a⟩ := hc
  have n0 : ¬ q = n := by omega
  have eE : tkE T n q = (tokM 0 T n q).2.2 := rfl
  unfold tokM at a eE
  rw [if_neg n0] at a eE
  by_cases c : isL (rB T n q)
  · rw [if_pos c] at a eE
    refine ⟨hl, c, eE, ?_⟩
    by_cases c16 : nameE T n (n + 1) q - q ≤ 16
    · exact c16
    · have a' : (if nameE T n (n + 1) q - q ≤ 16 then (if wordI (seg T q (nameE T n (n + 1) q)) = -1 then (1 : Int32) else 5) else 6) = 1 := a
      rw [if_neg c16] at a'
      exact absurd a' (by decide)
  · exfalso
    rw [if_neg c] at a
    by_cases c2 : isD (rB T n q)
    · rw [if_pos c2] at a
      have a' : (if digE T n (n + 1) q - q ≤ 60 then (2 : Int32) else 6) = 1 := a
      split at a' <;> exact absurd a' (by decide)
    · rw [if_neg c2] at a
      by_cases c3 : rB T n q = 34
      · rw [if_pos c3] at a
        have a' : (if (strE T n (n + 1) (q + 1) < n ∧ T (strE T n (n + 1) (q + 1)) = 34) ∧ strE T n (n + 1) (q + 1) - q - 1 ≤ 100 then (3 : Int32) else 6) = 1 := a
        split at a' <;> exact absurd a' (by decide)
      · rw [if_neg c3] at a
        have a' : (if signF (rB T n q) (rB T n (q + 1)) = 0 then (6 : Int32) else 4) = 1 := a
        split at a' <;> exact absurd a' (by decide)
/-- a name's bytes on both sides -/
theorem nm_same (h : sameT T R n) (hq : q ≤ n) (hk : tkK T n q = 26) : okN (tkS T n q) ∧ (tokC lxW hi lo R n q).2.2 = (kyH (tkS T n q), kyL (tkS T n q)) := by
  obtain ⟨hl, c, eE, h16⟩ := tk_nm hq hk
  have hge := nameE_ge T n (n + 1) q
  have hle := nameE_le T n (n + 1) q hq
  have hall := nameE_all T n (n + 1) q
  have hgt : q < nameE T n (n + 1) q := by
    have := (tkE_b T n q hq).2.2 (by omega)
    omega
  have hok : ∀ i, q ≤ i → i < nameE T n (n + 1) q → okB (R i) ∧ T i = R i := fun i a b => by
    have hn := hall i a b
    have ht := t_int h (i := i) (by omega)
    have hb := fits_byte' (h.2.1 i (by omega))
    have : 48 ≤ (T i).toInt ∧ (T i).toInt ≤ 122 := by
      rcases hn with g | g | g
      · rw [isL_int] at g; omega
      · rw [isD_int] at g; omega
      · rw [g]; decide
    by_cases g : 0 ≤ (R i).toInt
    · rw [if_pos g] at ht; exact ⟨by omega, by rw [i_eq]; exact ht⟩
    · rw [if_neg g] at ht; omega
  have eS : tkS T n q = seg T q (nameE T n (n + 1) q) := by unfold tkS; rw [eE]
  have el : (tkS T n q).length = nameE T n (n + 1) q - q := by rw [eS, seg_len]
  have eg : ∀ i, i < nameE T n (n + 1) q - q → (tkS T n q).getD i 0 = R (q + i) := fun i hi => by
    rw [eS, seg_at hi]
    exact (hok (q + i) (by omega) (by omega)).2
  refine ⟨⟨by omega, by omega, fun i hi => by rw [eg i (by omega)]; exact (hok (q + i) (by omega) (by omega)).1⟩, ?_⟩
  have kl : cls (R q) = 2 := by
    have z := (same_kind h hl).1
    rw [rB_in hl] at c
    exact z.1 c
  unfold tokC
  rw [if_neg (by omega), if_pos kl, name_same h (n + 1) q]
  show (keyH R q (nameE T n (n + 1) q - q), keyL R q (nameE T n (n + 1) q - q)) = _
  unfold kyH kyL
  rw [el]
  refine Prod.ext (keyH_c _ (fun i hi => ?_)) (keyL_c _ (fun i hi => ?_))
  · show R (q + i) = (tkS T n q).getD (0 + i) 0
    rw [Nat.zero_add]; exact (eg i hi).symm
  · show R (q + i) = (tkS T n q).getD (0 + i) 0
    rw [Nat.zero_add]; exact (eg i hi).symm
/-- the lexer is at the token that begins at q -/
def LxQ (T : Nat → Int32) (n q : Nat) (σ : CS) : Prop := cN σ n ∧ sameT T (σ.2.2.1 38) n ∧ σ.2.2.2.1 39 = lxW ∧ q ≤ n ∧ ¬ tkK T n q = 0 ∧ σ.1 3702 = cKd (tkK T n q) ∧ σ.1 3703 = nI q ∧ σ.1 3704 = nI (tkE T n q) ∧ (tkK T n q = 26 → (σ.2.1 3705 = kyH (tkS T n q) ∧ σ.2.1 3706 = kyL (tkS T n q)) ∧ okN (tkS T n q))
/-- the next token is looked at; what is none is thrown -/
def AdO (T : Nat → Int32) (n q : Nat) (σ : CS) (r : RS) : Prop := (tkK T n q = 0 → r.1 = (1, 0) ∧ r.2.2 = (1, 6)) ∧ (¬ tkK T n q = 0 → r.1 = (0, 0) ∧ r.2.2 = (0, 0) ∧ LxQ T n q r.2.1) ∧ ∃ kd st en hi lo, r.2.1 = sA σ kd st en hi lo
theorem c_advP (hn : cN σ n) (hs : sameT T (σ.2.2.1 38) n) (hw : σ.2.2.2.1 39 = lxW) (h4 : σ.1 3704 = nI p) (hp : p ≤ n) : Tm (fun k => f_X2_advance k 0 L σ) (AdO T n (sk T n p) σ) := by
  refine Tm_mono (s_advance hn h4 hp L) (fun r z => ?_)
  have z' := z (sk T n p) _ (sk_same hs hp).symm rfl
  rw [hw] at z'
  have hq : sk T n p ≤ n := skE_le T n (n + 1) p hp
  have hnb : sk T n p < n → ¬ cls (σ.2.2.1 38 (sk T n p)) = 31 := fun lt => by
    have y := skE_not T n (n + 1) p (by omega) hp lt
    exact fun w => y ((same_blank hs lt).2 w)
  have ts := tok_same hs hq hnb 0 (σ.2.1 3705) (σ.2.1 3706)
  generalize sk T n p = q at *
  have k0 : tkK T n q = 0 ↔ (tokM 0 T n q).1 = 6 := by
    rcases tk_cases T n q hq with ⟨_, a, b⟩ | ⟨hl, ⟨a, b⟩ | ⟨a, b⟩ | ⟨a, b⟩ | ⟨a, b1, b2, b3⟩ | ⟨a, b1, b2, b3⟩ | ⟨a, b⟩⟩
    · rw [a, b]; decide
    · rw [a, b]; decide
    · rw [a, b]; decide
    · rw [a, b]; decide
    · rw [a]; exact ⟨fun y => by omega, fun y => absurd y (by decide)⟩
    · rw [a]; exact ⟨fun y => by omega, fun y => absurd y (by decide)⟩
    · rw [a, b]; decide
  refine ⟨fun e => ?_, fun e => ?_, ?_⟩
  · have bd := ts.1.2 (k0.1 e)
    rw [z']
    unfold cTok
    rw [if_pos bd]
    exact ⟨rfl, rfl⟩
  · have nb : ¬ badK (tokC lxW (σ.2.1 3705) (σ.2.1 3706) (σ.2.2.1 38) n q).1 := fun y => e (k0.2 (ts.1.1 y))
    obtain ⟨t1, t2⟩ := ts.2 nb
    rw [z']
    unfold cTok
    rw [if_neg nb]
    refine ⟨rfl, rfl, cN_sA hn, hs, hw, hq, e, ?_, sA_r3, ?_, fun e26 => ?_⟩
    · show (sA σ _ _ _ _ _).1 3702 = _
      rw [sA_r2]
      rcases tk_cases T n q hq with ⟨_, a, b⟩ | ⟨hl, ⟨a, b⟩ | ⟨a, b⟩ | ⟨a, b⟩ | ⟨a, b1, b2, b3⟩ | ⟨a, b1, b2, b3⟩ | ⟨a, b⟩⟩
      · rw [b]
        rcases t2 with ⟨y, _⟩ | ⟨_, y⟩ | ⟨_, y⟩ | ⟨_, y⟩ | ⟨y, _⟩ | ⟨y, _⟩
        · exact y
        all_goals (rw [a] at y; exact absurd y (by decide))
      · rw [b]
        rcases t2 with ⟨_, y⟩ | ⟨y, _⟩ | ⟨_, y⟩ | ⟨_, y⟩ | ⟨y, _⟩ | ⟨y, _⟩
        · rw [a] at y; exact absurd y (by decide)
        · exact y
        all_goals (rw [a] at y; exact absurd y (by decide))
      · rw [b]
        rcases t2 with ⟨_, y⟩ | ⟨_, y⟩ | ⟨y, _⟩ | ⟨_, y⟩ | ⟨y, _⟩ | ⟨y, _⟩
        · rw [a] at y; exact absurd y (by decide)
        · rw [a] at y; exact absurd y (by decide)
        · exact y
        all_goals (rw [a] at y; exact absurd y (by decide))
      · rw [b]
        rcases t2 with ⟨_, y⟩ | ⟨_, y⟩ | ⟨_, y⟩ | ⟨y, _⟩ | ⟨y, _⟩ | ⟨y, _⟩
        · rw [a] at y; exact absurd y (by decide)
        · rw [a] at y; exact absurd y (by decide)
        · rw [a] at y; exact absurd y (by decide)
        · exact y
        all_goals (rw [a] at y; exact absurd y (by decide))
      · rcases t2 with ⟨_, y⟩ | ⟨_, y⟩ | ⟨_, y⟩ | ⟨_, y⟩ | ⟨_, v, v1, v2, v3, v4⟩ | ⟨y, _⟩
        · rw [a] at y; exact absurd y (by decide)
        · rw [a] at y; exact absurd y (by decide)
        · rw [a] at y; exact absurd y (by decide)
        · rw [a] at y; exact absurd y (by decide)
        · rw [b3, n_eq (by omega) (by omega)] at v3
          rw [v4, ← v3]
          unfold cKd
          rw [if_neg (by omega), if_neg (by omega), if_neg (by omega), if_neg (by omega), if_pos (by omega)]
        · rw [a] at y; exact absurd y (by decide)
      · rcases t2 with ⟨_, y⟩ | ⟨_, y⟩ | ⟨_, y⟩ | ⟨_, y⟩ | ⟨y, _⟩ | ⟨_, v, v1, v3, v4⟩
        · rw [a] at y; exact absurd y (by decide)
        · rw [a] at y; exact absurd y (by decide)
        · rw [a] at y; exact absurd y (by decide)
        · rw [a] at y; exact absurd y (by decide)
        · rw [a] at y; exact absurd y (by decide)
        · rw [b3, n_eq (by omega) (by omega)] at v3
          rw [v4]
          unfold cKd
          rw [if_neg (by omega), if_neg (by omega), if_neg (by omega), if_neg (by omega), if_neg (by omega)]
          show nI 32 + nI v = _
          rw [n_add (by omega), ← v3]
          exact congrArg nI (by omega)
      · exact absurd b e
    · show (sA σ _ _ _ _ _).1 3704 = _
      rw [sA_r4, t1]; rfl
    · obtain ⟨y1, y2⟩ := nm_same (hi := σ.2.1 3705) (lo := σ.2.1 3706) hs hq e26
      refine ⟨⟨?_, ?_⟩, y1⟩
      · show (sA σ _ _ _ _ _).2.1 3705 = _
        rw [sA_r5, y2]
      · show (sA σ _ _ _ _ _).2.1 3706 = _
        rw [sA_r6, y2]
  · rw [z']
    unfold cTok
    split
    · exact ⟨_, _, _, _, _, rfl⟩
    · exact ⟨_, _, _, _, _, rfl⟩
theorem c_adv (h : LxQ T n q σ) : Tm (fun k => f_X2_advance k 0 L σ) (AdO T n (tkN T n q) σ) := by
  obtain ⟨h1, h2, h3, h4, h5, h6, h7, h8, h9⟩ := h
  exact c_advP h1 h2 h3 h8 (tkE_b T n q h4).2.1
end CVA

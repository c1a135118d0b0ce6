theorem cPut_old {row : Nat → Int32} {x : Int32} {l i : Nat} : ∀ j : Nat, (i < l ∨ l + j ≤ i) → cPut row x l j i = row i
  | 0, _ => rfl
  | j + 1, h => by
    show upd (cPut row x l j) (l + j) _ i = _
    rw [upd_other (by omega)]
    exact cPut_old j (by omega)
theorem cPut_new {row : Nat → Int32} {x : Int32} {l : Nat} : ∀ j q : Nat, q < j → cPut row x l j (l + q) = cByte x (24 - 8 * nI q)
  | 0, q, h => absurd h (by omega)
  | j + 1, q, h => by
    show upd (cPut row x l j) (l + j) _ (l + q) = _
    by_cases e : q = j
    · rw [e, upd_same]
    · rw [upd_other (by omega)]
      exact cPut_new j q (by omega)
/-- the tape is well: length, room, bytes -/
def tOK (σ : CS) : Prop := 0 ≤ (σ.1 3701).toInt ∧ (σ.1 3701).toInt ≤ sN σ 38 ∧ (σ.1 3701).toInt ≤ 32768 ∧ sN σ 38 ≤ 32770 ∧ tFit (σ.2.2.1 38) (sN σ 38)
/-- the tape grew by m bytes b -/
def tGrew (σ : CS) (m : Nat) (b : Nat → Int32) (r : RS) : Prop := ∃ (row : Nat → Int32) (n : Nat), r.2.1 = tC σ (σ.1 3701 + nI m) row n ∧ (∀ i : Nat, (i : Int) < (σ.1 3701).toInt → row i = σ.2.2.1 38 i) ∧ (∀ j, j < m → row ((σ.1 3701).toNatClampNeg + j) = b j) ∧ tFit row n ∧ sN σ 38 ≤ n ∧ n ≤ 32770 ∧ (σ.1 3701).toInt + m ≤ n ∧ r.2.2.1 + tpC n ≤ tpC (sN σ 38) ∧ r.2.2.2 + tpS n ≤ tpS (sN σ 38)
theorem s_append (L : LV) (σ : CS) (h0 : 0 ≤ (σ.1 3701).toInt) (h1 : (σ.1 3701).toInt + 4 ≤ 32770) (h2 : (σ.1 3701).toInt ≤ sN σ 38) (hn : sN σ 38 ≤ 32770) (hf : tFit (σ.2.2.1 38) (sN σ 38)) : Tm (fun k => f_X2_append k 0 L σ) (fun r => r.1 = (0, 0) ∧ tGrew σ 4 (fun j => cByte (L.1 1) (24 - 8 * nI j)) r) := by
  have k4 : (4 : Int32).toInt = 4 := rfl
  have hs : (σ.1 3701 + 4).toInt = (σ.1 3701).toInt + 4 := by rw [i_add] <;> omega
  refine Tm_suc (fun k => by rw [f_X2_append]) ?_
  refine Tm_ox (s_lexWiden _ σ (by rw [lI_same]; omega) (by rw [lI_same]; omega) hn hf) (fun r hr h => absurd (by rw [hr.1]) h) (fun r hr _ => ?_)
  obtain ⟨hr0, row, n, hst, hrow, hfit, hn1, hn2, hn3, hc, hsl⟩ := hr
  rw [lI_same, hs] at hn3
  have loop := append_loop (L.1 1) σ (σ.1 3701) row n h0 (by omega) hn2 4 0 (lI L 2 24) rfl (by rw [lI_other (by decide)]) (by rw [lI_same]; rfl)
  have e : tC σ (σ.1 3701 + nI 0) (cPut row (L.1 1) (σ.1 3701).toNatClampNeg 0) n = r.2.1 := by
    rw [hst, show σ.1 3701 + nI 0 = σ.1 3701 from Int32.add_zero _]; rfl
  rw [e] at loop
  refine Tm_mono loop (fun q hq => ?_)
  subst hq
  have hcl := i_clamp h0
  refine ⟨rfl, _, n, rfl, fun i hi => ?_, fun j hj => cPut_new 4 j hj, cPut_fit hfit 4, hn1, hn2, ?_, ?_, ?_⟩
  · rw [cPut_old 4 (by omega)]; exact hrow i (by omega)
  · show _ + ((4 : Nat) : Int) ≤ _; omega
  · exact hc
  · exact hsl
/-- two growths, one behind the other -/
theorem tGrew_tr {σ : CS} {m m' : Nat} {b b' : Nat → Int32} {r q : RS} (h0 : 0 ≤ (σ.1 3701).toInt) (hm : (σ.1 3701).toInt + m + m' ≤ 32770) (h1 : tGrew σ m b r) (h2 : tGrew r.2.1 m' b' q) : tGrew σ (m + m') (fun j => if j < m then b j else b' (j - m)) (q.1, q.2.1, (r.2.2.1 + q.2.2.1, r.2.2.2 + q.2.2.2)) := by
  obtain ⟨row, n, hst, hrow, hnew, hfit, a1, a2, a3, hc, hs⟩ := h1
  obtain ⟨row', n', hst', hrow', hnew', hfit', a1', a2', a3', hc', hs'⟩ := h2
  have hmi : (nI m).toInt = m := i_ofNat (by omega)
  have hl : (r.2.1.1 3701) = σ.1 3701 + nI m := by rw [hst]; exact tC_len
  have hli : (r.2.1.1 3701).toInt = (σ.1 3701).toInt + m := by rw [hl, i_add] <;> omega
  have hr : r.2.1.2.2.1 38 = row := by rw [hst]; exact tC_row
  have hnn : sN r.2.1 38 = n := by rw [hst]; exact tC_n
  have hcl := i_clamp h0
  have hcl' := i_clamp (x := r.2.1.1 3701) (by omega)
  rw [hnn] at a1' hc' hs'
  refine ⟨row', n', ?_, fun i hi => ?_, fun j hj => ?_, hfit', by omega, a2', ?_, ?_, ?_⟩
  · show q.2.1 = _
    rw [hst', hl, hst, tC_tC]
    show tC σ (σ.1 3701 + nI m + nI m') row' n' = tC σ (σ.1 3701 + nI (m + m')) row' n'
    rw [Int32.add_assoc, show nI m + nI m' = nI (m + m') from (Int32.ofNat_add m m').symm]
  · rw [hrow' i (by omega), hr]; exact hrow i hi
  · show _ = if j < m then b j else b' (j - m)
    by_cases c : j < m
    · rw [if_pos c, hrow' _ (by omega), hr]; exact hnew j c
    · rw [if_neg c, ← hnew' (j - m) (by omega)]
      congr 1
      omega
  · omega
  · show r.2.2.1 + q.2.2.1 + tpC n' ≤ _; omega
  · show r.2.2.2 + q.2.2.2 + tpS n' ≤ _; omega

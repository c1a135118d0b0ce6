/-! Rows of iters: names that are told have slots of their own; they are seen. -/
theorem mo_v {T : Nat → Int32} {n f nt : Nat} {E : En} {o q v : Nat} {b : BT} {s : RT} (hq : q ≤ n) (hv : v ≤ 60) (h1 : 1 ≤ b.1) (h : G T n f nt E o q v 0 0 0 0 b = some (some s)) (h0 : Nd0 nt 1 b 0 0 0) (hmo : MoN nt n b q v s → Mo n b q v s) : q ≤ s.1 ∧ s.1 ≤ n ∧ v ≤ s.2.1 ∧ s.2.1 ≤ 60 := by
  obtain ⟨x1, _⟩ := g_mono T n f nt E o q v 0 0 0 0 b s hq hv h 1 h1 (by decide) h0
  obtain ⟨a1, a2, a3, a4, _⟩ := hmo x1
  exact ⟨a1, a2, a3, by omega⟩
/-- the row at a place within -/
theorem rows_mid {A B C pool : Nat → Int32} {p : Nat} {x : Nm} {l2 : List Nm} : ∀ l1 : List Nm, rowsOK A B C pool p (l1 ++ x :: l2) → A l2.length = nI x.2.1 ∧ B l2.length = nI x.1.length ∧ C l2.length = nI x.2.2 ∧ x.2.1 + x.1.length ≤ p ∧ x.2.2 < 60 ∧ ∀ i, i < x.1.length → pool (x.2.1 + i) = x.1.getD i 0
  | [], h => h.1
  | y :: l1, h => rows_mid l1 h.2
theorem rows_suf {A B C pool : Nat → Int32} {p : Nat} {l2 : List Nm} : ∀ l1 : List Nm, rowsOK A B C pool p (l1 ++ l2) → rowsOK A B C pool p l2
  | [], h => h
  | y :: l1, h => rows_suf l1 h.2
section SEE
variable {T : Nat → Int32} {n : Nat} {o q v M P w d : Nat} {b : BT}
theorem see_loop {gl : List Gn} {S R : List Nm} {X : Nat × Bool × Bool × (Nat → Nat)} {σ0 : MS} (Q : Int32 × MS → Prop) : ∀ (m : Nat) (rest don : List Nm) (σ : MS) (N : Nat → Int32), rest.length = m → PS T n (gl, don ++ S, rest ++ (don ++ R), X) o q v b σ → N 11 = nI (don.length + R.length) → rest.length + don.length + S.length ≤ v → FrM M P w σ0 σ →
    (∀ (ρ : MS) (N' : Nat → Int32), (∀ j, j ≠ 11 → N' j = N j) → PS T n (gl, rest ++ (don ++ S), rest ++ (don ++ R), X) o q v b ρ → FrM M P w σ0 ρ → Tm (fun k => x_GE k d 4 9 N' ρ) Q) → Tm (fun k => x_GE k d 4 8 N σ) Q := by
  intro m
  induction m with
  | zero =>
    intro rest don σ N hm hS hN hl hF hout
    have hr : rest = [] := List.length_eq_zero_iff.mp hm
    subst hr
    have h52 : σ.1 52 = nI (don ++ R).length := hS.2.2.2.2.1.2.1.1
    have hlen : (don ++ R).length = don.length + R.length := List.length_append
    have hb : (don ++ R).length ≤ v := hS.2.2.2.2.1.2.1.2.1
    have hv := PS_v hS
    refine Tm_suc (fun k => by rw [xE_4]) ?_
    refine Tm_ite (c := σ.1 52 ≤ N 11) (fun _ => hout σ N (fun _ _ => rfl) hS hF) (fun z => absurd ?_ z)
    rw [h52, hN, hlen]
    exact (n_le (by omega) (by omega)).mpr (Nat.le_refl _)
  | succ m ih =>
    intro rest don σ N hm hS hN hl hF hout
    have hne : rest ≠ [] := fun z => by rw [z] at hm; exact absurd hm.symm (Nat.succ_ne_zero m)
    obtain ⟨r', x, rfl⟩ : ∃ r' x, rest = r' ++ [x] := ⟨rest.dropLast, rest.getLast hne, (List.dropLast_concat_getLast hne).symm⟩
    have hr' : r'.length = m := by rw [List.length_append] at hm; exact Nat.succ.inj hm
    have eL : (r' ++ [x]) ++ (don ++ R) = r' ++ x :: (don ++ R) := by rw [List.append_assoc]; rfl
    have h52 : σ.1 52 = nI ((r' ++ [x]) ++ (don ++ R)).length := hS.2.2.2.2.1.2.1.1
    have hb : ((r' ++ [x]) ++ (don ++ R)).length ≤ v := hS.2.2.2.2.1.2.1.2.1
    have hrows : rowsOK (σ.2.2 25) (σ.2.2 26) (σ.2.2 27) b.2.2.2.1 b.2.1 ((r' ++ [x]) ++ (don ++ R)) := hS.2.2.2.2.1.2.1.2.2
    rw [eL] at h52 hb hrows
    have hlen : (r' ++ x :: (don ++ R)).length = r'.length + (don.length + R.length + 1) := by rw [List.length_append, List.length_cons, List.length_append]
    have hx := rows_mid r' hrows
    have hdl : (don ++ R).length = don.length + R.length := List.length_append
    rw [hdl] at hx
    have hv := PS_v hS
    have hsl : (r' ++ [x]).length = m + 1 := hm
    have h38 : σ.1 38 = nI (don ++ S).length := hS.2.2.2.2.1.1.1
    have hds : (don ++ S).length = don.length + S.length := List.length_append
    refine Tm_suc (fun k => by rw [xE_4]) ?_
    refine Tm_ite (c := σ.1 52 ≤ N 11) (fun z => ?_) (fun _ => ?_)
    · rw [h52, hN, hlen, n_le (by omega) (by omega)] at z; omega
    refine Tm_ite (c := σ.1 10 = 0) (fun _ => ?_) (fun z => absurd (PS_ok hS) z)
    rw [hN]
    refine Tm_chk (n_in (by omega) (by omega)) ?_
    refine Tm_chk (n_in (by omega) (by omega)) ?_
    refine Tm_chk (n_in (by omega) (by omega)) ?_
    rw [n_cl (p := don.length + R.length) (by omega), hx.1, hx.2.1, hx.2.2.1]
    refine Tm_ob (s_see h38 (by omega) _) (fun r6 hr6 => ?_)
    subst hr6
    have hS2 := PS_see hS x (by show (don ++ S).length + 1 ≤ v; omega) hx.2.2.2.1 hx.2.2.2.2.1 hx.2.2.2.2.2
    have eE : seeN (gl, don ++ S, (r' ++ [x]) ++ (don ++ R), X) [x] = (gl, (x :: don) ++ S, r' ++ ((x :: don) ++ R), X) := by
      show (gl, [x] ++ (don ++ S), (r' ++ [x]) ++ (don ++ R), X) = _
      rw [eL]; rfl
    rw [eE] at hS2
    refine ih r' (x :: don) _ _ hr' hS2 (by rw [upd_same, n_add1]; show nI (don.length + R.length + 1) = nI (don.length + 1 + R.length); congr 1; omega) (by show r'.length + (don.length + 1) + S.length ≤ v; omega) (FrM_tr hF FrM_see) (fun ρ N' hN' hSρ hFρ => ?_)
    refine hout ρ N' (fun j hj => (hN' j hj).trans (upd_other hj)) ?_ hFρ
    have e1 : r' ++ ((x :: don) ++ S) = (r' ++ [x]) ++ (don ++ S) := by rw [List.append_assoc]; rfl
    have e2 : r' ++ ((x :: don) ++ R) = (r' ++ [x]) ++ (don ++ R) := by rw [List.append_assoc]; rfl
    rw [e1, e2] at hSρ
    exact hSρ
end SEE

/-! A name of the program is told (reference). -/
/-- a name more among those of the program -/
def glA (E : En) (x : Gn) : En := (E.1 ++ [x], E.2)
def mEnt (σ : MS) (g : Nat) (k p l m : Int32) : MS := (upd σ.1 25 (nI (g + 1)), σ.2.1, updG (updG (updG (updG σ.2.2 13 (upd (σ.2.2 13) g k)) 14 (upd (σ.2.2 14) g p)) 15 (upd (σ.2.2 15) g l)) 16 (upd (σ.2.2 16) g m))
section TEN
variable {T : Nat → Int32} {n : Nat} {E : En} {o q v : Nat} {b : BT} {σ : MS}
theorem mEnt_o {g : Nat} {k p l m : Int32} {j : Nat} (h : j < 13 ∨ 16 < j) : (mEnt σ g k p l m).2.2 j = σ.2.2 j := by
  show updG (updG (updG (updG σ.2.2 13 _) 14 _) 15 _) 16 _ j = _
  rw [updG_other (by omega), updG_other (by omega), updG_other (by omega), updG_other (by omega)]
theorem mEnt_s {g : Nat} {k p l m : Int32} {j : Nat} (h : j ≠ 25) : (mEnt σ g k p l m).1 j = σ.1 j := upd_other h
theorem mEnt_13 {g : Nat} {k p l m : Int32} : (mEnt σ g k p l m).2.2 13 = upd (σ.2.2 13) g k := rfl
theorem mEnt_14 {g : Nat} {k p l m : Int32} : (mEnt σ g k p l m).2.2 14 = upd (σ.2.2 14) g p := rfl
theorem mEnt_15 {g : Nat} {k p l m : Int32} : (mEnt σ g k p l m).2.2 15 = upd (σ.2.2 15) g l := rfl
theorem mEnt_16 {g : Nat} {k p l m : Int32} : (mEnt σ g k p l m).2.2 16 = upd (σ.2.2 16) g m := rfl
theorem FrV_ent {w g : Nat} {k p l m : Int32} : FrV w σ (mEnt σ g k p l m) := ⟨fun j hj => mEnt_s (by omega), rfl, fun j hj => mEnt_o (by omega), fun i _ => by rw [mEnt_o (by decide)], fun i _ => by rw [mEnt_o (by decide)]⟩
theorem PS_ent (h : PS T n E o q v b σ) (x : Gn) (hl : E.1.length < 200) (hp : x.2.1 + x.1.length ≤ b.2.1) (hk : 1 ≤ x.2.2.1 ∧ x.2.2.1 ≤ 3) (hs : x.2.2.2 < 60) (hc : ∀ i, i < x.1.length → b.2.2.2.1 (x.2.1 + i) = x.1.getD i 0) (hf : ¬ x.2.2.1 = 1 → x.2.2.2 < 41 ∧ σ.2.2 18 x.2.2.2 = nI (E.2.2.2.2.2.2 x.2.2.2) ∧ E.2.2.2.2.2.2 x.2.2.2 ≤ 8) : PS T n (glA E x) o q v b (mEnt σ E.1.length (nI x.2.2.1) (nI x.2.1) (nI x.1.length) (nI x.2.2.2)) := by
  obtain ⟨h1, h2, h3, h4, ⟨⟨g1, g2, g3⟩, ⟨g4, g5, g6⟩, ⟨g7, g8, g9⟩⟩, h6⟩ := h
  refine ⟨PT_c (fun j _ _ => mEnt_s (by omega)) (mEnt_o (by decide)) (mEnt_o (by decide)) h1, ⟨(mEnt_s (by decide)).trans h2.1, h2.2⟩, PB_c (mEnt_s (by decide)) (mEnt_s (by decide)) (fun j hj => mEnt_o (by omega)) h3, PV_c (mEnt_s (by decide)) (mEnt_o (by decide)) (mEnt_o (by decide)) h4, ⟨⟨?_, g2, ?_⟩, ⟨?_, g5, ?_⟩, ⟨?_, ?_, ?_⟩⟩, ⟨?_, ?_, ?_⟩⟩
  · exact (mEnt_s (by decide)).trans g1
  · rw [mEnt_o (by decide), mEnt_o (by decide), mEnt_o (by decide)]; exact g3
  · exact (mEnt_s (by decide)).trans g4
  · rw [mEnt_o (by decide), mEnt_o (by decide), mEnt_o (by decide)]; exact g6
  · show upd σ.1 25 (nI (E.1.length + 1)) 25 = nI (E.1 ++ [x]).length
    rw [upd_same, List.length_append]; rfl
  · show (E.1 ++ [x]).length ≤ 200
    rw [List.length_append]; show E.1.length + 1 ≤ 200; omega
  · intro k y hy
    have hy : (E.1 ++ [x])[k]? = some y := hy
    rw [mEnt_13, mEnt_14, mEnt_15, mEnt_16]
    by_cases hk2 : k < E.1.length
    · rw [List.getElem?_append_left hk2] at hy
      rw [upd_other (by omega), upd_other (by omega), upd_other (by omega), upd_other (by omega)]
      exact g9 k y hy
    · rw [List.getElem?_append_right (by omega)] at hy
      have he : k = E.1.length := by
        by_cases z : k - E.1.length = 0
        · omega
        · rw [List.getElem?_eq_none (by show 1 ≤ _; omega)] at hy; cases hy
      subst he
      rw [Nat.sub_self] at hy
      have hy : some x = some y := hy
      obtain rfl := Option.some.inj hy
      rw [upd_same, upd_same, upd_same, upd_same]
      exact ⟨rfl, rfl, rfl, rfl, hp, hk.2, hk.1, hs, hc⟩
  · rw [mEnt_s (by decide)]; exact h6.1
  · rw [mEnt_s (by decide)]; exact h6.2.1
  · intro y hy hn
    rw [mEnt_o (by decide)]
    have hy : y ∈ E.1 ++ [x] := hy
    rcases List.mem_append.mp hy with hy | hy
    · exact h6.2.2 y hy hn
    · rw [List.mem_singleton.mp hy] at hn ⊢; exact hf hn
theorem p_tellEntity {w : Nat} (h : PS T n E o q v b σ) (hl : E.1.length < 200) (hp : b.2.1 + (n - q) ≤ 70000) {k m : Nat} (hk : 1 ≤ k ∧ k ≤ 3) (hm : m < 60) (hf : ¬ k = 1 → m < 41 ∧ σ.2.2 18 m = nI (E.2.2.2.2.2.2 m) ∧ E.2.2.2.2.2.2 m ≤ 8) {L : Nat → Int32} (h1 : L 1 = nI k) (h2 : L 2 = nI m) : Tm (fun f => x_tellEntity f 0 L σ) (fun r => FrV w σ r.2 ∧ PS T n (glA E (tkS T n q, b.2.1, k, m)) o q v (bKeep b T q (tkE T n q - q)) r.2) := by
  have hc := PS_cur h
  have hE := tkE_b T n q hc.1
  have hn := PS_q h
  have k25 : σ.1 25 = nI E.1.length := h.2.2.2.2.1.2.2.1
  have hi : ¬ (nI E.1.length < 0 ∨ 200 ≤ (nI E.1.length).toNatClampNeg) := n_in (by omega) (by omega)
  have hcl : (nI E.1.length).toNatClampNeg = E.1.length := n_cl (by omega)
  refine Tm_suc (fun f => by rw [x_tellEntity]) ?_
  rw [k25, hcl, h1]
  refine Tm_chk (by rw [hcl] at hi; exact hi) ?_
  refine Tm_suc (fun f => by rw [x_tellEntity]) ?_
  have hS1 : PS T n E o q v b (mAr σ 13 E.1.length (nI k)) := by
    obtain ⟨s1, s2, s3, s4, ⟨⟨g1, g2, g3⟩, ⟨g4, g5, g6⟩, ⟨g7, g8, g9⟩⟩, s6⟩ := h
    have r : ∀ j, j ≠ 13 → (mAr σ 13 E.1.length (nI k)).2.2 j = σ.2.2 j := fun j hj => updG_other hj
    refine ⟨PT_c (fun _ _ _ => rfl) (r 3 (by decide)) (r 1 (by decide)) s1, s2, PB_c (σ := σ) rfl rfl (fun j hj => r j (by omega)) s3, PV_c (σ := σ) rfl (r 21 (by decide)) (r 20 (by decide)) s4, ⟨⟨g1, g2, ?_⟩, ⟨g4, g5, ?_⟩, ⟨g7, g8, ?_⟩⟩, PF_c (σ := σ) rfl rfl (r 18 (by decide)) s6⟩
    · rw [r 22 (by decide), r 23 (by decide), r 24 (by decide)]; exact g3
    · rw [r 25 (by decide), r 26 (by decide), r 27 (by decide)]; exact g6
    · intro i x hx
      have hlt : i < E.1.length := by
        by_cases z : i < E.1.length
        · exact z
        · rw [List.getElem?_eq_none (by omega)] at hx; cases hx
      rw [r 14 (by decide), r 15 (by decide), r 16 (by decide)]
      show upd (σ.2.2 13) E.1.length (nI k) i = _ ∧ _
      rw [upd_other (by omega)]
      exact g9 i x hx
  refine Tm_ob (p_keep (M := 0) (P := 0) (w := 0) hS1 (Nat.zero_le _) (f := q) (e := tkE T n q) hE.1 (by omega) (by omega) (by rw [upd_other (by decide), upd_same]; exact hc.2.1) (by rw [upd_same]; exact hc.2.2.2.1)) (fun r1 hr1 => ?_)
  obtain ⟨hr1, hS2, _⟩ := hr1
  have t25 : r1.2.1 25 = nI E.1.length := hS2.2.2.2.2.1.2.2.1
  have t8 : r1.2.1 8 = nI q := hS2.1.2.2.2.2.1.2.1
  have t9 : r1.2.1 9 = nI (tkE T n q) := hS2.1.2.2.2.2.1.2.2.2.1
  have t1 : r1.1 = nI b.2.1 := by rw [hr1]
  show Tm (fun f => if ¬ (σ.1 25 < 0 ∨ 200 ≤ (σ.1 25).toNatClampNeg) then x_tellEntity f 2 L (r1.2.1, r1.2.2.1, updG r1.2.2.2 14 (upd (r1.2.2.2 14) (σ.1 25).toNatClampNeg r1.1)) else none) _
  rw [k25, hcl]
  refine Tm_chk (by rw [hcl] at hi; exact hi) ?_
  refine Tm_suc (fun f => by rw [x_tellEntity]) ?_
  show Tm (fun f => if ¬ (r1.2.1 25 < 0 ∨ 200 ≤ (r1.2.1 25).toNatClampNeg) then x_tellEntity f 3 L (r1.2.1, r1.2.2.1, updG (updG r1.2.2.2 14 (upd (r1.2.2.2 14) E.1.length r1.1)) 15 (upd (updG r1.2.2.2 14 (upd (r1.2.2.2 14) E.1.length r1.1) 15) (r1.2.1 25).toNatClampNeg (r1.2.1 9 - r1.2.1 8))) else none) _
  rw [t25, hcl, t8, t9, t1, n_sub (by omega) hE.1]
  refine Tm_chk (by rw [hcl] at hi; exact hi) ?_
  refine Tm_suc (fun f => by rw [x_tellEntity]) ?_
  refine Tm_chk (c := ¬ (r1.2.1 25 < 0 ∨ 200 ≤ (r1.2.1 25).toNatClampNeg)) (by rw [t25]; exact hi) ?_
  refine Tm_suc (fun f => by rw [x_tellEntity]) ?_
  have hsl : (tkS T n q).length = tkE T n q - q := seg_len _ _ _
  have h13 : r1.2.2.2 13 = upd (σ.2.2 13) E.1.length (nI k) := by
    rw [hr1]
    exact (mPool_is (σ := mAr σ 13 E.1.length (nI k)) (f := q) (p := b.2.1) h.2.2.1.2.2.1 (tkE T n q - q) (by omega)).2.2.2.1 13 (by decide)
  have h18 : r1.2.2.2 18 = σ.2.2 18 := by
    rw [hr1]
    exact (mPool_is (σ := mAr σ 13 E.1.length (nI k)) (f := q) (p := b.2.1) h.2.2.1.2.2.1 (tkE T n q - q) (by omega)).2.2.2.1 18 (by decide)
  have hst : ((upd r1.2.1 25 (r1.2.1 25 + 1), r1.2.2.1, updG (updG (updG r1.2.2.2 14 (upd (r1.2.2.2 14) E.1.length (nI b.2.1))) 15 (upd (updG r1.2.2.2 14 (upd (r1.2.2.2 14) E.1.length (nI b.2.1)) 15) E.1.length (nI (tkE T n q - q)))) 16 (upd ((updG (updG r1.2.2.2 14 (upd (r1.2.2.2 14) E.1.length (nI b.2.1))) 15 (upd (updG r1.2.2.2 14 (upd (r1.2.2.2 14) E.1.length (nI b.2.1)) 15) E.1.length (nI (tkE T n q - q)))) 16) (r1.2.1 25).toNatClampNeg (L 2))) : MS) = mEnt r1.2 E.1.length (nI k) (nI b.2.1) (nI (tkE T n q - q)) (nI m) := by
    rw [t25, hcl, h2, n_add1]
    have hu : upd (r1.2.2.2 13) E.1.length (nI k) = r1.2.2.2 13 := by
      rw [h13]; funext j
      by_cases z : j = E.1.length
      · subst z; rw [upd_same, upd_same]
      · rw [upd_other z]
    unfold mEnt
    rw [hu, updG_self]
    rfl
  refine Tm_some ?_
  show FrV w σ (upd r1.2.1 25 (r1.2.1 25 + 1), r1.2.2.1, updG (updG (updG r1.2.2.2 14 (upd (r1.2.2.2 14) E.1.length (nI b.2.1))) 15 (upd (updG r1.2.2.2 14 (upd (r1.2.2.2 14) E.1.length (nI b.2.1)) 15) E.1.length (nI (tkE T n q - q)))) 16 (upd ((updG (updG r1.2.2.2 14 (upd (r1.2.2.2 14) E.1.length (nI b.2.1))) 15 (upd (updG r1.2.2.2 14 (upd (r1.2.2.2 14) E.1.length (nI b.2.1)) 15) E.1.length (nI (tkE T n q - q)))) 16) (r1.2.1 25).toNatClampNeg (L 2))) ∧ PS T n (glA E (tkS T n q, b.2.1, k, m)) o q v (bKeep b T q (tkE T n q - q)) _
  rw [hst]
  have hV1 : FrV w σ r1.2 := by
    rw [hr1]
    have hF : FrV w σ (mAr σ 13 E.1.length (nI k)) := ⟨fun _ _ => rfl, rfl, fun j hj => mAr_o (by omega), fun i _ => by rw [mAr_o (by decide)], fun i _ => by rw [mAr_o (by decide)]⟩
    exact FrV_tr hF (FrV_pool _)
  refine ⟨FrV_tr hV1 FrV_ent, ?_⟩
  have := PS_ent hS2 (tkS T n q, b.2.1, k, m) hl (by show b.2.1 + (tkS T n q).length ≤ b.2.1 + (tkE T n q - q); rw [hsl]; exact Nat.le_refl _) hk hm (fun i hi => by
    have hi : i < (tkS T n q).length := hi
    rw [hsl] at hi
    show (if b.2.1 ≤ b.2.1 + i ∧ b.2.1 + i < b.2.1 + (tkE T n q - q) then T (q + (b.2.1 + i - b.2.1)) else _) = (tkS T n q).getD i 0
    rw [if_pos (by omega), show b.2.1 + i - b.2.1 = i by omega]
    exact (seg_at hi).symm) (fun z => by rw [h18]; exact hf z)
  rw [hsl] at this
  exact this
end TEN

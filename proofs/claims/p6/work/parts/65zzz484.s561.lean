/-! The class: an exp that is asked for is read: what it leaves. -/
section DZJ
variable {σ σ1 σ2 σ3 s s' τ τ' : CS} {b : Bool} {N M n nc sz mk a1 a2 : Nat} {x1 : Int32}
/-- what the reading of an exp leaves: N code, M names stay -/
def RxF (b : Bool) (N M n : Nat) (σ s : CS) : Prop := ((∀ j, ¬ (j = 404 ∨ (3702 ≤ j ∧ j ≤ 3704) ∨ (4003 ≤ j ∧ j ≤ 4020) ∨ j = fP b 1 ∨ j = fP b 11 ∨ j = fP b 19) → s.1 j = σ.1 j) ∧ ∀ j, ¬ (j = 3705 ∨ j = 3706) → s.2.1 j = σ.2.1 j) ∧ ((∀ k, ¬ ((5 ≤ k ∧ k ≤ 11) ∨ k = 38 ∨ k = 41 ∨ k = 43 ∨ k = 51 ∨ k = pR7 b ∨ k = pR8 b ∨ k = pR9 b ∨ k = pR10 b ∨ k = pR13 b ∨ k = pR14 b ∨ k = pR15 b ∨ k = pR16 b ∨ k = pR17 b ∨ k = pR18 b) → s.2.2.1 k = σ.2.2.1 k) ∧ (∀ k, ¬ (k = 38 ∨ k = 41 ∨ k = 43 ∨ k = 51) → sN s k = sN σ k) ∧ (∀ k, ¬ (k = pR5 b ∨ k = pR6 b) → s.2.2.2.1 k = σ.2.2.2.1 k)) ∧ ((sCur s = sCur σ ∧ sOt s = sOt σ ∧ sPr s = sPr σ) ∧ (∀ d, ¬ d = b → sKd s d = sKd σ d) ∧ s.2.2.2.2.2.2 = σ.2.2.2.2.2.2) ∧ ((∀ i, ¬ i = 41 → s.2.2.1 (pR13 b) i = σ.2.2.1 (pR13 b) i ∧ s.2.2.1 (pR14 b) i = σ.2.2.1 (pR14 b) i ∧ s.2.2.1 (pR15 b) i = σ.2.2.1 (pR15 b) i ∧ s.2.2.1 (pR18 b) i = σ.2.2.1 (pR18 b) i) ∧ s.2.2.1 (pR14 b) 41 = 0 ∧ s.2.2.1 (pR18 b) 41 = 0) ∧ (∀ i, i < M → (s.2.2.2.1 (pR5 b) i = σ.2.2.2.1 (pR5 b) i ∧ s.2.2.2.1 (pR6 b) i = σ.2.2.2.1 (pR6 b) i) ∧ (s.2.2.1 (pR7 b) i = σ.2.2.1 (pR7 b) i ∧ s.2.2.1 (pR8 b) i = σ.2.2.1 (pR8 b) i) ∧ s.2.2.1 (pR9 b) i = σ.2.2.1 (pR9 b) i ∧ s.2.2.1 (pR10 b) i = σ.2.2.1 (pR10 b) i) ∧ (∀ i, i < N → cdr b s i = cdr b σ i ∧ cdr (!b) s i = cdr (!b) σ i) ∧ (N ≤ cdn b s ∧ (cdn b s = 36864 ∨ (sN s 43 = 1024 ∧ sN s 51 = 1024))) ∧ sN s 41 ≤ 21504 ∧ cN s n
/-- the numbers of the parser, of the code and of the names are free -/
theorem RxF_u (h : RxF b N M n σ s) (f1 : ∀ j, ¬ ((4003 ≤ j ∧ j ≤ 4020) ∨ j = fP b 1 ∨ j = fP b 11) → s'.1 j = s.1 j) (f2 : s'.2 = s.2) : RxF b N M n σ s' := by
  have fc1 := fP_c b 1
  have fc11 := fP_c b 11
  obtain ⟨a', r'⟩ := s'
  obtain ⟨a0, r0⟩ := s
  have e : r' = r0 := f2
  subst e
  obtain ⟨⟨h1, h2⟩, h3, h4, h5, h6, h7, h8, h9, h10⟩ := h
  exact ⟨⟨fun j hj => (f1 j (by omega)).trans (h1 j hj), h2⟩, h3, h4, h5, h6, h7, h8, h9, (f1 3701 (by omega)).trans h10.1, h10.2⟩
/-- more is read -/
theorem RxF_x (h : RxF b N M n σ s) (xk : XK b 41 nc sz mk s s') (hM : M ≤ nc) (hN : N ≤ sz) : RxF b N M n σ s' := by
  have p13 := pR_13 b
  have fc1 := fP_c b 1
  have fc11 := fP_c b 11
  have fc19 := fP_c b 19
  obtain ⟨⟨h1, h2⟩, ⟨h3, h3', h3''⟩, ⟨⟨h4, h4', h4''⟩, h5, h5'⟩, ⟨h6, h6', h6''⟩, h7, h8, h9, h10, h11⟩ := h
  obtain ⟨⟨x1, x2⟩, ⟨x3, x3', x3''⟩, ⟨⟨x4, x4', x4'', x4'''⟩, x5, x5'⟩, x6, x7, x8, x9, x10, x11⟩ := xk
  have r13 := x3 (pR13 b) (by cases b <;> decide)
  have r14 := x3 (pR14 b) (by cases b <;> decide)
  have r15 := x3 (pR15 b) (by cases b <;> decide)
  have r18 := x3 (pR18 b) (by cases b <;> decide)
  refine ⟨⟨fun j hj => (x1 j (by omega)).trans (h1 j hj), fun j hj => (x2 j hj).trans (h2 j hj)⟩, ⟨fun k hk => (x3 k (by omega)).trans (h3 k hk), fun k hk => (x3' k (by omega)).trans (h3' k hk), fun k hk => (x3'' k hk).trans (h3'' k hk)⟩, ⟨⟨x4.trans h4, x4'.trans h4', x4''.trans h4''⟩, fun d hd => (x5 d hd).trans (h5 d hd), x5'.trans h5'⟩, ⟨fun i hi => ?_, by rw [r14]; exact h6', by rw [r18]; exact h6''⟩, fun i hi => ?_, fun i hi => ⟨(x8 i (by omega)).1.trans (h8 i hi).1, (x8 i (by omega)).2.trans (h8 i hi).2⟩, ⟨by omega, x10.2⟩, x11.2, ?_⟩
  · rw [r13, r14, r15, r18]; exact h6 i hi
  · obtain ⟨⟨y1, y2⟩, ⟨y3, y4⟩, y5, y6⟩ := x7 i (by omega)
    obtain ⟨⟨z1, z2⟩, ⟨z3, z4⟩, z5, z6⟩ := h7 i hi
    exact ⟨⟨y1.trans z1, y2.trans z2⟩, ⟨y3.trans z3, y4.trans z4⟩, y5.trans z5, y6.trans z6⟩
  · unfold cN at h11 ⊢
    rw [x1 3701 (by omega), x3' 38 (by omega), x3 38 (by omega)]
    exact h11
/-- the unit is opened, the text looked at -/
theorem RxF_0 {kd st en : Int32} {hi lo : Int64} (e1 : σ1 = opU b 41 x1 σ) (bg : BgF n σ1 σ2) (e3 : σ3 = sA σ2 kd st en hi lo) (cd : CdL b N σ) (h41 : sN σ 41 ≤ 21504) : RxF b N M n σ σ3 := by
  have p13 := pR_13 b
  have fc1 := fP_c b 1
  have fc11 := fP_c b 11
  have fc19 := fP_c b 19
  have b0 := bg
  obtain ⟨⟨g1, g2⟩, ⟨g3, g4⟩, ⟨⟨g5, g6, g7, g8⟩, g9⟩, g10⟩ := bg
  have k2 : σ1.2.1 = σ.2.1 := by rw [e1]; exact opU_2.1
  have k3 : σ1.2.2.2 = σ.2.2.2 := by rw [e1]; exact opU_2.2
  have s22 : σ3.2.2 = σ2.2.2 := by rw [e3]; rfl
  have sN3 : ∀ k, sN σ3 k = sN σ2 k := fun k => by show σ3.2.2.2.2.1 k = _; rw [s22]
  have n1 : ∀ k, sN σ1 k = sN σ k := fun k => by show σ1.2.2.2.2.1 k = _; rw [k3]
  have rr : ∀ k, ¬ k = 38 → σ3.2.2.1 k = σ1.2.2.1 k := fun k hk => by rw [s22]; exact (g3 k hk).1
  have rk : ∀ k, ¬ k = 38 → ¬ (k = pR13 b ∨ k = pR14 b ∨ k = pR15 b ∨ k = pR16 b ∨ k = pR17 b ∨ k = pR18 b) → σ3.2.2.1 k = σ.2.2.1 k := fun k hk h2 => by rw [rr k hk, e1]; exact opU_k h2
  have nn : ∀ k, ¬ k = 38 → sN σ3 k = sN σ k := fun k hk => by rw [sN3, (g3 k hk).2, n1]
  have kd' : sKd σ3 = sKd σ := by
    show σ3.2.2.2.2.2.1.2.2.2.2 = _
    rw [s22]
    exact g8.trans (by show σ1.2.2.2.2.2.1.2.2.2.2 = _; rw [k3])
  have cdf : ∀ d i, cdr d σ3 i = cdr d σ i := fun d i => by
    have p0 := pR0_c (sKd σ d)
    show σ3.2.2.1 (pR0 (sKd σ3 d)) i = σ.2.2.1 (pR0 (sKd σ d)) i
    rw [kd', rk _ (by omega) (by omega)]
  have cdf2 : cdn b σ3 = cdn b σ := by
    have p0 := pR0_c (sKd σ b)
    show sN σ3 (pR0 (sKd σ3 b)) = sN σ (pR0 (sKd σ b))
    rw [kd', nn _ (by omega)]
  refine ⟨⟨fun j hj => ?_, fun j hj => ?_⟩, ⟨fun k hk => rk k (by omega) (by omega), fun k hk => nn k (by omega), fun k hk => ?_⟩, ⟨⟨?_, ?_, ?_⟩, fun d _ => by rw [kd'], ?_⟩, ⟨fun i hi => ⟨?_, ?_, ?_, ?_⟩, ?_, ?_⟩, fun i hi => ⟨⟨?_, ?_⟩, ⟨?_, ?_⟩, ?_, ?_⟩, fun i hi => ⟨cdf b i, cdf (!b) i⟩, ⟨by rw [cdf2]; exact cd.2.1, by rw [cdf2, nn 43 (by decide), nn 51 (by decide)]; exact cd.2.2⟩, by rw [nn 41 (by decide)]; exact h41, by rw [e3]; exact cN_sA g10⟩
  · rw [e3]
    show upd (upd (upd σ2.1 3702 kd) 3703 st) 3704 en j = _
    rw [upd_other (by omega), upd_other (by omega), upd_other (by omega), g1 j (by omega), e1]
    exact opU_f (by omega)
  · rw [e3]
    show updW (updW σ2.2.1 3705 _) 3706 lo j = _
    rw [updW_other (by omega), updW_other (by omega), g2, k2]
  · rw [s22, g4, k3]
  · show σ3.2.2.2.2.2.1.1 = _
    rw [s22]; exact g5.trans (by show σ1.2.2.2.2.2.1.1 = _; rw [k3])
  · show σ3.2.2.2.2.2.1.2.1 = _
    rw [s22]; exact g6.trans (by show σ1.2.2.2.2.2.1.2.1 = _; rw [k3])
  · show σ3.2.2.2.2.2.1.2.2.1 = _
    rw [s22]; exact g7.trans (by show σ1.2.2.2.2.2.1.2.2.1 = _; rw [k3])
  · rw [s22, g9, k3]
  · rw [rr _ (by omega), e1, opU_13, upd_other hi]
  · rw [rr _ (by omega), e1, opU_14, upd_other hi]
  · rw [rr _ (by omega), e1, opU_15, upd_other hi]
  · rw [rr _ (by omega), e1, opU_18, upd_other hi]
  · rw [rr _ (by omega), e1, opU_14, upd_same]
  · rw [rr _ (by omega), e1, opU_18, upd_same]
  · rw [s22, g4, k3]
  · rw [s22, g4, k3]
  · rw [rk _ (by omega) (by omega)]
  · rw [rk _ (by omega) (by omega)]
  · rw [rk _ (by omega) (by omega)]
  · rw [rk _ (by omega) (by omega)]
end DZJ

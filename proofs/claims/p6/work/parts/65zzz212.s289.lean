/-! What a state's values and totals read; what a program is between calls (reference). -/
section RDS
variable {σ τ ω ρ : MS} {t X B h : Nat} {g : Nat → Prop} {l : List Nat}
theorem RtP_x (h63 : τ.1 63 = σ.1 63) (h72 : τ.1 72 = σ.1 72) (h30 : τ.2.2 30 = σ.2.2 30) (h31 : τ.2.2 31 = σ.2.2 31) (a i : Nat) : RtP t τ a i ↔ RtP t σ a i := by
  unfold RtP
  rw [h63, h72, h30, h31]
theorem RtP_r {a i : Nat} (h : RtP t σ a i) : a = 29 ∨ a = 30 ∨ a = 31 ∨ a = 33 ∨ a = 34 ∨ a = 36 ∨ a = 37 ∨ a = 38 ∨ a = 40 := by
  rcases h with z | z | z | z | z | z | z | z | z
  · exact Or.inl z.1
  · exact Or.inr (Or.inl z.1)
  · exact Or.inr (Or.inr (Or.inl z.1))
  · exact Or.inr (Or.inr (Or.inr (Or.inl z.1)))
  · exact Or.inr (Or.inr (Or.inr (Or.inr (Or.inl z.1))))
  · exact Or.inr (Or.inr (Or.inr (Or.inr (Or.inr (Or.inl z.1)))))
  · exact Or.inr (Or.inr (Or.inr (Or.inr (Or.inr (Or.inr (Or.inl z.1))))))
  · exact Or.inr (Or.inr (Or.inr (Or.inr (Or.inr (Or.inr (Or.inr (Or.inl z.1)))))))
  · exact Or.inr (Or.inr (Or.inr (Or.inr (Or.inr (Or.inr (Or.inr (Or.inr z.1)))))))
/-- values read rows 28 to 40 and four numbers -/
theorem MI_x (hM : MI t X g l B h σ) (h54 : τ.1 54 = σ.1 54) (h55 : τ.1 55 = σ.1 55) (h63 : τ.1 63 = σ.1 63) (h72 : τ.1 72 = σ.1 72) (hr : ∀ a, 28 ≤ a → a ≤ 40 → τ.2.2 a = σ.2.2 a) : MI t X g l B h τ := by
  obtain ⟨m1, m2, m3, m4⟩ := hM
  have rp : ∀ a i, RtP t τ a i ↔ RtP t σ a i := RtP_x h63 h72 (hr 30 (by omega) (by omega)) (hr 31 (by omega) (by omega))
  have ro : RoS t τ = RoS t σ := by
    funext v
    refine propext ⟨?_, ?_⟩
    · rintro ⟨v1, v2, a, i, v3, v4⟩
      have c := RtP_r v3
      exact ⟨v1, v2, a, i, (rp a i).mp v3, by rw [← hr a (by omega) (by omega)]; exact v4⟩
    · rintro ⟨v1, v2, a, i, v3, v4⟩
      have c := RtP_r v3
      exact ⟨v1, v2, a, i, (rp a i).mpr v3, by rw [hr a (by omega) (by omega)]; exact v4⟩
  refine ⟨HS_c m1 h54 h55 (hr 28 (by omega) (by omega)), RtQ_c h63 h72 (hr 30 (by omega) (by omega)) (hr 31 (by omega) (by omega)) m2, fun a i z => ?_, ?_⟩
  · have c := RtP_r z
    rw [hr a (by omega) (by omega)]
    exact m3 a i ((rp a i).mp z)
  · rw [ro, hr 28 (by omega) (by omega)]; exact m4
/-- totals read rows 28, 30 to 33, the slots that count and three numbers -/
theorem UT_k (hU : UT σ) (h63 : τ.1 63 = σ.1 63) (h64 : τ.1 64 = σ.1 64) (h65 : τ.1 65 = σ.1 65) (h28 : τ.2.2 28 = σ.2.2 28) (hr : ∀ a, 30 ≤ a → a ≤ 33 → τ.2.2 a = σ.2.2 a) (hk : ∀ i, kC τ i = kC σ i) : UT τ := by
  have k : kC τ = kC σ := funext hk
  unfold UT StS PtS NUo ItP szV at hU ⊢
  rw [k, h28, hr 30 (by omega) (by omega), hr 31 (by omega) (by omega), hr 32 (by omega) (by omega), hr 33 (by omega) (by omega), h63, h64, h65]
  exact hU
end RDS
/-- a program, as it was read: names, params, what is laid; its tables -/
def PrI (T : Nat → Nat → Int32) (FN : Nat → Nat → Prop) (S : Nat → Nat → Nat → Nat → Prop) (gl : List Gn) (pr : Nat → Nat) (b : BT) (ns : Nat) : Prop := (SWf T FN S ∧ SWk T FN S ∧ 9 + KBn T ≤ 17000) ∧ (T 21 0 = nI ns ∧ ns ≤ 60) ∧ (LNo T % 70001 = b.1 ∧ LPo T % 70001 = b.2.1 ∧ 1 ≤ b.1 ∧ b.1 + 33735 ≤ 70000 ∧ b.2.1 + 32768 ≤ 70000) ∧ ∀ dr, EnOK FN (gl, [], [], 42, false, dr, pr)
/-- the tape: n bytes -/
def TpO (Tp : Nat → Int32) (n : Nat) (σ : MS) : Prop := mN σ n ∧ σ.2.2 3 = Tp ∧ ∀ i, i < n → ∃ d, d ≤ 300 ∧ Tp i = nI d
/-- what working and showing leave besides the run -/
def OF (σ ω : MS) : Prop := (∀ j, j = 22 ∨ j = 24 ∨ j = 25 ∨ j = 31 ∨ j = 44 ∨ j = 73 ∨ j = 111 ∨ j = 112 ∨ j = 115 → ω.1 j = σ.1 j) ∧ (∀ a, a = 1 ∨ a = 3 ∨ (13 ≤ a ∧ a ≤ 19) ∨ a = 39 ∨ (52 ≤ a ∧ a ≤ 55) → ω.2.2 a = σ.2.2 a) ∧ (∀ a i, 4 ≤ a → a ≤ 9 → 1 ≤ i → i < (σ.1 22).toNatClampNeg → ω.2.2 a i = σ.2.2 a i) ∧ ∀ i, i < (σ.1 24).toNatClampNeg → ω.2.2 12 i = σ.2.2 12 i
section OFS
variable {σ τ ω : MS} {gl : List Gn} {pr : Nat → Nat} {b : BT}
theorem PG_of (h : OF σ ω) (hb : b.1 ≤ 70000 ∧ b.2.1 ≤ 70000) (hp : PG gl pr b σ) : PG gl pr b ω := by
  obtain ⟨o1, o2, o3, o4⟩ := h
  obtain ⟨p1, ⟨q1, q2, q3, q4, q5⟩, ⟨g1, g2, g3⟩, p4⟩ := hp
  rw [q1, n_cl (p := b.1) (by omega)] at o3
  rw [q3, n_cl (p := b.2.1) (by omega)] at o4
  refine ⟨(o2 1 (by omega)).trans p1, ⟨(o1 22 (by omega)).trans q1, q2, (o1 24 (by omega)).trans q3, fun j h4 h9 i hi hi2 => ?_, fun i hi => ?_⟩, ⟨(o1 25 (by omega)).trans g1, g2, ?_⟩, ?_⟩
  · rw [o3 j i h4 h9 hi hi2]; exact q4 j h4 h9 i hi hi2
  · rw [o4 i hi]; exact q5 i hi
  · rw [o2 13 (by omega), o2 14 (by omega), o2 15 (by omega), o2 16 (by omega)]; exact g3
  · rw [o2 18 (by omega)]; exact p4
theorem kv_m (h : kv τ = kv σ) : (∀ j, j = 25 ∨ j = 31 ∨ j = 44 ∨ j = 73 ∨ j = 111 ∨ j = 112 ∨ j = 115 ∨ j = 4 ∨ j = 120 ∨ j = 30 → τ.1 j = σ.1 j) ∧ (∀ a, (1 ≤ a ∧ a ≤ 21) ∨ a = 39 ∨ (52 ≤ a ∧ a ≤ 57) → τ.2.2 a = σ.2.2 a) := by
  have r := (kv_n h).2.1
  unfold kv at h
  simp only [Prod.mk.injEq] at h
  obtain ⟨l113, n2, n4, n11, n22, n24, n25, n30, n31, n44, n63, n64, n65, n66, n73, n79, n102, n103, n104, n105, n106, n108, n109, n110, n111, n112, n115, n120, r1, r2, r3, r4, r5, r6, r7, r8, r9, r10, r11, r12, r13, r14, r15, r16, r17, r18, r19, r20, r21, r32, r39, r52, r53, r54, r55, r56, r57⟩ := h
  refine ⟨fun j hj => ?_, fun a ha => ?_⟩
  · rcases hj with rfl | rfl | rfl | rfl | rfl | rfl | rfl | rfl | rfl | rfl <;> assumption
  · by_cases c : 1 ≤ a ∧ a ≤ 21
    · exact r a c.1 c.2
    · have : a = 39 ∨ a = 52 ∨ a = 53 ∨ a = 54 ∨ a = 55 ∨ a = 56 ∨ a = 57 := by omega
      rcases this with rfl | rfl | rfl | rfl | rfl | rfl | rfl <;> assumption
end OFS

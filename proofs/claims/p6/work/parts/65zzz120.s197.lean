/-! Two runs side by side (reference): answers, the pile, sweeps. -/
section KSW
variable {g1 g2 : Nat → Prop} {l1 l2 : List Nat} {B1 h1 B2 h2 n t X1 X2 : Nat} {σ1 σ2 : MS}
/-- one answer: the same work on both sides -/
theorem k_answer {v1 v2 w : Nat} (hS1 : HS g1 l1 B1 h1 σ1) (hS2 : HS g2 l2 B2 h2 σ2) (hv1 : v1 < 3 ∨ g1 v1) (hv2 : v2 < 3 ∨ g2 v2) (hv : EVb (σ1.2.2 28) (σ2.2.2 28) v1 v2) (e1 : σ1.1 56 = 0) (e2 : σ2.1 56 = 0) (w1 : σ1.1 57 = nI w) (w2 : σ2.1 57 = nI w) (hw : w ≤ 2000000000) {L1 L2 : Nat → Int32} (d1 : L1 1 = nI v1) (d2 : L2 1 = nI v2) : Pm n (fun k => x_answer k 0 L1 σ1) (fun k => x_answer k 0 L2 σ2) (fun r1 r2 => r1.1 = nI v1 ∧ r2.1 = nI v2 ∧ WkO σ1 w (szN (σ1.2.2 28) v1) r1.2 ∧ WkO σ2 w (szN (σ1.2.2 28) v1) r2.2) := by
  refine Pm_mono (Pm_t2 (s_answer hS1 hv1 w1 hw d1) (fun k => f_answer k _ _ _) (s_answer hS2 hv2 w2 hw d2) (fun k => f_answer k _ _ _)) (fun r1 r2 hr => ?_)
  obtain ⟨⟨a1, a2⟩, b1, b2⟩ := hr
  have a2 := (a2.resolve_left (fun z => z.1 e1)).2
  have b2 := (b2.resolve_left (fun z => z.1 e2)).2
  rw [(EVb_sz hv).1] at b2
  exact ⟨a1, b1, a2, b2⟩
theorem WkO_er {σ τ : MS} {w m : Nat} (h : σ.1 56 = 0) (hW : WkO σ w m τ) : τ.1 56 = 0 ↔ w + m ≤ 60000 := by
  rcases hW with ⟨z, e⟩ | ⟨z, e⟩
  · rw [e]; exact ⟨fun _ => z, fun _ => h⟩
  · rw [e]; exact ⟨fun y => absurd y (mEr_e (by decide)), fun y => by omega⟩
/-- a value upon both piles -/
theorem RA_set {x y : Int32} {w1 w2 : Int32} (hQ : RtQ σ1) (hR : RA t g1 g2 σ1 σ2) (hv : VC g1 g2 (σ1.2.2 28) (σ2.2.2 28) x y) : RA (t + 1) g1 g2 (mAr σ1 29 t x) (mAr σ2 29 t y) := by
  obtain ⟨r1, r2, r3, r4⟩ := hR
  refine ⟨fun a i z ha => ?_, fun a i ha hz hn => ?_, r3, r4⟩
  · have hR := RtP_c (t := t + 1) (τ := mAr σ1 29 t x) (σ := σ1) rfl rfl (mAr_o (by decide)) (mAr_o (by decide))
    rw [show (mAr σ1 29 t x).2.2 28 = σ1.2.2 28 from mAr_o (by decide), show (mAr σ2 29 t y).2.2 28 = σ2.2.2 28 from mAr_o (by decide)]
    by_cases e : a = 29
    · subst e
      rw [mAr_s, mAr_s]
      by_cases e2 : i = t
      · subst e2; rw [upd_same, upd_same]; exact hv
      · rw [upd_other e2, upd_other e2]
        rcases RtP_up ((hR 29 i).mp z) with q | q
        · exact r1 29 i q ha
        · exact absurd q.2 e2
    · rw [mAr_o e, mAr_o e]
      rcases RtP_up ((hR a i).mp z) with q | q
      · exact r1 a i q ha
      · exact absurd q.1 e
  · have e : a ≠ 29 := by unfold AlR at ha; omega
    rw [mAr_o e, mAr_o e]; exact r2 a i ha hz (fun z => hn ((InA_c (σ := σ1) (ρ := mAr σ1 29 t x) rfl rfl rfl rfl rfl rfl (fun u _ => by rw [mAr_o (by decide)]) (fun j _ => by rw [mAr_o (by decide)]) (fun p _ j _ => by rw [mAr_o (by decide)]) a i).mpr z))
/-- other numbers, the same rows -/
theorem RA_c {τ1 τ2 : MS} (hR : RA t g1 g2 σ1 σ2) (a1 : τ1.2.2 = σ1.2.2) (a2 : τ2.2.2 = σ2.2.2) (h63 : τ1.1 63 = σ1.1 63) (h72 : τ1.1 72 = σ1.1 72) (h22 : τ1.1 22 = σ1.1 22) (h24 : τ1.1 24 = σ1.1 24) (hc : τ1.1 30 = σ1.1 30) (h44 : τ1.1 44 = σ1.1 44) (hs : ∀ j, AlS j → τ1.1 j = τ2.1 j) (h96 : τ1.2.1 96 = τ2.2.1 96) : RA t g1 g2 τ1 τ2 := by
  obtain ⟨r1, r2, r3, r4⟩ := hR
  refine ⟨fun a i z ha => ?_, fun a i ha hz hn => ?_, hs, h96⟩
  · rw [a1, a2]
    exact r1 a i ((RtP_c h63 h72 (congrFun a1 30) (congrFun a1 31) a i).mp z) ha
  · rw [a1, a2]; exact r2 a i ha hz (fun z => hn ((InA_c (σ := σ1) (ρ := τ1) h63 h72 h22 h24 hc h44 (fun u _ => by rw [a1]) (fun j _ => by rw [a1]) (fun p _ j _ => by rw [a1]) a i).mpr z))
/-- both sweep: alike behind it, and there is room -/
theorem k_sweep {XM : Nat} (hX : XM ≤ 790000) (m1 : MI t X1 g1 l1 B1 h1 σ1) (m2 : MI t X2 g2 l2 B2 h2 σ2) (hR : RA t g1 g2 σ1 σ2) (t1 : σ1.1 59 = nI t) (ht : t ≤ 185000) (x1 : X1 ≤ XM) (x2 : X2 ≤ XM) {L1 L2 : Nat → Int32} (d1 : L1 1 = nI 780000) (d2 : L2 1 = nI 780000) : Pm n (fun k => x_sweep k 0 L1 σ1) (fun k => x_sweep k 0 L2 σ2) (fun r1 r2 => ∃ (g1' : Nat → Prop) (l1' : List Nat) (B1' h1' : Nat) (g2' : Nat → Prop) (l2' : List Nat) (B2' h2' : Nat), MI t X1 g1' l1' B1' h1' r1.2 ∧ MI t X2 g2' l2' B2' h2' r2.2 ∧ RA t g1' g2' r1.2 r2.2 ∧ EO t g1 σ1 g1' r1.2 ∧ EO t g2 σ2 g2' r2.2 ∧ (∀ j, j ≠ 54 → j ≠ 55 → r1.2.1 j = σ1.1 j) ∧ (∀ j, j ≠ 54 → j ≠ 55 → r2.2.1 j = σ2.1 j) ∧ h1' + 79900 ≤ B1' + 870000 ∧ h2' + 79900 ≤ B2' + 870000) := by
  have t2 : σ2.1 59 = nI t := (hR.2.2.1 59 (by unfold AlS; omega)).symm.trans t1
  refine Pm_mono (Pm_wl (fun k => wl_sweep k _ _ _) (fun k => wl_sweep k _ _ _) (Pm_t2 (MI_sw (T := 780000) m1 t1 ht d1 (by decide)) (fun k => f_sweep k _ _ _) (MI_sw (T := 780000) m2 t2 ht d2 (by decide)) (fun k => f_sweep k _ _ _))) (fun r1 r2 hr => ?_)
  obtain ⟨⟨⟨g1', l1', B1', h1', a1, a2, a3, a4⟩, ⟨g2', l2', B2', h2', b1, b2, b3, b4⟩⟩, c1, c2⟩ := hr
  refine ⟨g1', l1', B1', h1', g2', l2', B2', h2', a1, b1, RA_step m1.2.1 m2.2.1 hR a2 b2 ?_ ?_ ?_, a2, b2, a3, b3, by omega, by omega⟩
  · rw [a3 57 (by decide) (by decide), b3 57 (by decide) (by decide)]; exact hR.2.2.1 57 (by unfold AlS; omega)
  · rw [a3 59 (by decide) (by decide), b3 59 (by decide) (by decide)]; exact hR.2.2.1 59 (by unfold AlS; omega)
  · rw [c1, c2]; exact hR.2.2.2
/-- an operation on both sides -/
theorem RA_gr {g1' g2' : Nat → Prop} {l1' l2' : List Nat} {h1' h2' : Nat} {ρ1 ρ2 : MS} (m1 : MI t X1 g1 l1 B1 h1 σ1) (m2 : MI t X2 g2 l2 B2 h2 σ2) (hR : RA t g1 g2 σ1 σ2) (a1 : HG g1 B1 h1 σ1 ρ1 g1' l1' h1') (a2 : HG g2 B2 h2 σ2 ρ2 g2' l2' h2') (f1 : FW t σ1 ρ1) (f2 : FW t σ2 ρ2) (h59 : ρ1.1 59 = ρ2.1 59) (h96 : ρ1.2.1 96 = ρ2.2.1 96) : MI t X1 g1' l1' B1 h1' ρ1 ∧ MI t X2 g2' l2' B2 h2' ρ2 ∧ RA t g1' g2' ρ1 ρ2 := by
  obtain ⟨k1, k2⟩ := MI_gr m1 a1 f1
  obtain ⟨j1, j2⟩ := MI_gr m2 a2 f2
  refine ⟨k1, j1, RA_step m1.2.1 m2.2.1 hR k2 j2 ?_ h59 h96⟩
  rw [f1.1 57 (by decide), f2.1 57 (by decide)]; exact hR.2.2.1 57 (by unfold AlS; omega)
end KSW
section PCK
variable {g : Nat → Prop} {l : List Nat} {B h t X : Nat} {σ : MS}
/-- what lies there, or a member of what lies below it, is put at the top -/
theorem MI_pick {v p i m : Nat} {x : Int32} (hM : MI (t + 2) X g l B h σ) (h29 : σ.2.2 29 t = nI v) (gv : g v) (hk : 5 ≤ kdN (σ.2.2 28) v) (hp : σ.2.2 28 (v + 1) = nI p) (hp2 : p ≤ 3996) (hi : i < p) (hm : σ.2.2 28 (v + 4 + i) = nI m) (hm2 : m < 3 ∨ g m) (hx : x = σ.2.2 29 (t + 1) ∨ x = nI m) : MI (t + 2) X g l B h (mAr σ 29 (t + 1) x) := by
  rcases hx with hx | hx
  · rw [hx]; exact MI_c hM rfl rfl rfl rfl (mAr_same rfl)
  · rw [hx]
    refine MI_str (MI_mo hM (by omega)) ?_
    have hv3 : RoS (t + 1) σ v := by
      obtain ⟨_, _, _, _, _, z, _⟩ := HS_at hM.1 gv
      exact ⟨by omega, HS_vb hM.1 (Or.inr gv), 29, t, Or.inl ⟨rfl, by omega⟩, h29⟩
    exact Rch_mem hM.1 (Rch_b hv3) hk gv hp hp2 hi hm hm2
end PCK

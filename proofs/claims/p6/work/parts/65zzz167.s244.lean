/-! Statements on both sides (reference): an answer below the top; assignments. -/
/-- with an error: a value is put at i, the top is lowered to it -/
theorem EZ_sd {σ : MS} {g : Nat → Prop} {l : List Nat} {B h X b i t' : Nat} {x : Int32} (hM : MI t' X g l B h σ) (hi : i ≤ t' - 1) (hb : i + 1 ≤ b) (he : ¬ σ.1 56 = 0) (hE : ErB σ) (hw : ∃ w, σ.1 57 = nI w ∧ w ≤ 80000) (hc : ∃ c, σ.1 95 = nI c ∧ c ≤ 1000000) (hx : Vd g x) : EZ i b (mPu σ i x) := by
  obtain ⟨m, m1, m2⟩ := hx
  rw [m1]
  have hM1 := MI_pu (MI_mo hM (show i ≤ t' by omega)) m2
  refine ⟨g, l, B, h, i + 1, MI_any hM1.1 hM1.2.1 hM1.2.2.1, rfl, by omega, hb, ?_, ErB_c (mPu_s (by decide)) hE, ?_, ?_⟩
  · rw [mPu_s (by decide)]; exact he
  · rw [mPu_s (by decide)]; exact hw
  · rw [mPu_s (by decide)]; exact hc
section AND
variable {g1 g2 : Nat → Prop} {l1 l2 : List Nat} {B1 h1 B2 h2 X1 X2 t w XC : Nat} {ρ1 ρ2 : MS}
/-- an answer is counted and put at i, the top is lowered to it -/
theorem E_anD {c i : Nat} {Q : Int32 × MS → Int32 × MS → Prop} {F1 F2 : Nat → Int32 × MS → Option (Int32 × MS)} {r1 r2 : Int32 × MS} (m1 : MI (t + 1) X1 g1 l1 B1 h1 ρ1) (m2 : MI (t + 1) X2 g2 l2 B2 h2 ρ2) (hR : RA (t + 1) g1 g2 ρ1 ρ2) (i1 : IT g1 ρ1) (i2 : IT g2 ρ2) (hi : i ≤ t) (ht : t ≤ 176000 ∧ XC - 400000 + 10 ≤ c) (hT : TyT (ρ1.2.2 2)) (hT2 : ρ1.2.2 2 = ρ2.2.2 2) (ha : ∃ a, r1.2.1 95 = nI a ∧ a ≤ 1000000) (ha2 : r1.2.1 95 = r2.2.1 95)
    (s1 : SO (t + 1) w XC g1 ρ1 r1) (s2 : SO (t + 1) w XC g2 ρ2 r2) (hK : KS c r1 r2) (hQ : ∀ v1 v2 : Int32 × MS, FE ρ1 (mPu v1.2 i v1.1) → FE ρ2 (mPu v2.2 i v2.1) → ((∃ w', w ≤ w' ∧ EI (i + 1) w' XC (mPu v1.2 i v1.1) (mPu v2.2 i v2.1)) ∨ (EZ i (t + 2001) (mPu v1.2 i v1.1) ∧ EZ i (t + 2001) (mPu v2.2 i v2.1))) → T2 (fun k => F1 k v1) (fun k => F2 k v2) Q) :
    T2 (fun k => ob (x_answer k 0 (upd (fun _ => 0) 1 r1.1) r1.2) (F1 k)) (fun k => ob (x_answer k 0 (upd (fun _ => 0) 1 r2.1) r2.2) (F2 k)) Q := by
  obtain ⟨gA, lA, BA, hA, XA, wA, tA, a1, a2, a3, a4, a5, a6, a7, ⟨a8, a9, a10, a11⟩, a12⟩ := s1
  obtain ⟨gB, lB, BB, hB, XB, wB, tB, b1, b2, b3, b4, b5, b6, b7, ⟨b8, b9, b10, b11⟩, b12⟩ := s2
  have f1 := FE_eo m1.2.1 a2
  have f2 := FE_eo m2.2.1 b2
  obtain ⟨c1, c2, c3⟩ := a3
  obtain ⟨d1, d2, d3⟩ := b3
  have ha' : ∃ a, r2.2.1 95 = nI a ∧ a ≤ 1000000 := by rw [← ha2]; exact ha
  by_cases er : r1.2.1 56 = 0
  · have er2 := hK.1.1.mp er
    obtain ⟨⟨⟨rB1, rh1, rm1, rm2, rm3, rm4⟩, ⟨rB2, rh2, rn1, rn2, rn3, rn4⟩⟩, k57, u, v, k1, k2, k3, k4, k5⟩ := hK.1.2 er
    have room : hA + (XC - 400000) + 10 ≤ BA + 870000 ∧ hB + (XC - 400000) + 10 ≤ BB + 870000 := by
      have p1 := HS_b a1.1
      have p2 := HS_b b1.1
      have p3 := a1.1.2.1
      have p4 := b1.1.2.1
      have e1 : BA = rB1 := (n_eq (by omega) (by omega)).mp (a1.1.1.symm.trans rm1)
      have e2 : BB = rB2 := (n_eq (by omega) (by omega)).mp (b1.1.1.symm.trans rn1)
      have e3 : hA = rh1 := (n_eq (by omega) (by omega)).mp (a1.1.2.2.1.symm.trans rm3)
      have e4 : hB = rh2 := (n_eq (by omega) (by omega)).mp (b1.1.2.2.1.symm.trans rn3)
      omega
    have e1 : tA = t + 1 := a11.resolve_right (fun z => z er)
    have e2 : tB = t + 1 := b11.resolve_right (fun z => z er2)
    subst e1
    subst e2
    have ew : wB = wA := by
      have z := b5.symm.trans (k57.symm.trans a5)
      exact (n_eq (by omega) (by omega)).mp z
    subst ew
    have bc := HS_vb a1.1 c3
    have bd := HS_vb b1.1 d3
    have eu : c1 = u := (n_eq (by omega) (by omega)).mp (c2.symm.trans k1)
    have ev : d1 = v := (n_eq (by omega) (by omega)).mp (d2.symm.trans k2)
    subst eu
    subst ev
    have hR' := RA_step m1.2.1 m2.2.1 hR a2 b2 k57 (a8.trans b8.symm) hK.2
    have j1 : IT gA r1.2 := IT_eo m1.2.1 m1.1 (Or.inr ⟨BA, hA, a1.1⟩) a2 i1
    have j2 : IT gB r2.2 := IT_eo m2.2.1 m2.1 (Or.inr ⟨BB, hB, b1.1⟩) b2 i2
    have x1 := a12 er
    have x2 := b12 er2
    refine T2_ob (T2_of (s_answer a1.1 c3 a5 (by omega) (by exact c2)) (s_answer b1.1 d3 b5 (by omega) (by exact d2)) (fun n => Pm_wl (fun k => wl_answer k _ _ _) (fun k => wl_answer k _ _ _) (k_answer a1.1 b1.1 c3 d3 k5 er er2 a5 b5 (by omega) (by exact c2) (by exact d2)))) (fun z1 z2 hz => ?_)
    obtain ⟨⟨⟨y1, y2, y3, y4⟩, wl1, wl2⟩, _, _⟩ := hz
    have ys1 : ∀ j, j ≠ 56 → j ≠ 57 → z1.2.1 j = r1.2.1 j := fun j q1 q2 => WkO_s y3 q1 q2
    have ys2 : ∀ j, j ≠ 56 → j ≠ 57 → z2.2.1 j = r2.2.1 j := fun j q1 q2 => WkO_s y4 q1 q2
    have n1 : MI (t + 1) XA gA lA BA hA z1.2 := MI_c a1 (ys1 54 (by decide) (by decide)) (ys1 55 (by decide) (by decide)) (ys1 63 (by decide) (by decide)) (ys1 72 (by decide) (by decide)) (WkO_a y3)
    have n2 : MI (t + 1) XB gB lB BB hB z2.2 := MI_c b1 (ys2 54 (by decide) (by decide)) (ys2 55 (by decide) (by decide)) (ys2 63 (by decide) (by decide)) (ys2 72 (by decide) (by decide)) (WkO_a y4)
    have z59 : z1.2.1 59 = nI (t + 1) := (ys1 59 (by decide) (by decide)).trans a8
    have w59 : z2.2.1 59 = nI (t + 1) := (ys2 59 (by decide) (by decide)).trans b8
    have s28 : z1.2.2.2 28 = r1.2.2.2 28 := congrFun (WkO_a y3) 28
    have t28 : z2.2.2.2 28 = r2.2.2.2 28 := congrFun (WkO_a y4) 28
    refine hQ z1 z2 (FE_tr f1 (FE_tr (FE_wk y3) FE_pu)) (FE_tr f2 (FE_tr (FE_wk y4) FE_pu)) ?_
    rw [y1, y2]
    by_cases le : wB + szN (r1.2.2.2 28) c1 ≤ 60000
    · have zr1 := (WkO_er er y3).mpr le
      have zr2 := (WkO_er er2 y4).mpr le
      have y57 : z1.2.1 57 = nI (wB + szN (r1.2.2.2 28) c1) := WkO_57 y3
      refine Or.inl ⟨wB + szN (r1.2.2.2 28) c1, by omega, gA, lA, BA, hA, XA + 6 * szN (z1.2.2.2 28) c1, gB, lB, BB, hB, XB + 6 * szN (z2.2.2.2 28) d1, MI_pu (MI_mo n1 (show i ≤ t + 1 by omega)) c3, MI_pu (MI_mo n2 (show i ≤ t + 1 by omega)) d3, ?_, ?_, ?_, rfl, ?_, ?_, ?_, ⟨le, room⟩, ?_, ?_, ⟨?_, ?_⟩, ?_⟩
      · refine RA_pu n1.2.1 (RA_c (RA_mo (show i ≤ t + 1 by omega) hR') (WkO_a y3) (WkO_a y4) (ys1 63 (by decide) (by decide)) (ys1 72 (by decide) (by decide)) (ys1 22 (by decide) (by decide)) (ys1 24 (by decide) (by decide)) (ys1 30 (by decide) (by decide)) (ys1 44 (by decide) (by decide)) (fun j hj => ?_) ?_) ?_
        · by_cases e57 : j = 57
          · rw [e57, y57, WkO_57 y4]
          · rw [ys1 j (by unfold AlS at hj; omega) e57, ys2 j (by unfold AlS at hj; omega) e57]
            exact hR'.2.2.1 j hj
        · rw [wl1, wl2]; exact hK.2
        · rw [s28, t28]; exact ⟨c1, d1, rfl, c3, rfl, d3, k5, bc, bd⟩
      · exact IT_c ((mPu_s (by decide)).trans (ys1 72 (by decide) (by decide))) ((mPu_o (by decide)).trans (congrFun (WkO_a y3) 34)) ((mPu_o (by decide)).trans (congrFun (WkO_a y3) 35)) ((mPu_o (by decide)).trans s28) j1
      · exact IT_c ((mPu_s (by decide)).trans (ys2 72 (by decide) (by decide))) ((mPu_o (by decide)).trans (congrFun (WkO_a y4) 34)) ((mPu_o (by decide)).trans (congrFun (WkO_a y4) 35)) ((mPu_o (by decide)).trans t28) j2
      · rw [mPu_s (by decide)]; exact zr1
      · rw [mPu_s (by decide)]; exact zr2
      · rw [mPu_s (by decide)]; exact y57
      · rw [s28]; omega
      · rw [t28, (EVb_sz k5).1]; omega
      · rw [mPu_o (by decide), congrFun (WkO_a y3) 2, f1.2.2.1]; exact hT
      · rw [mPu_o (by decide), mPu_o (by decide), congrFun (WkO_a y3) 2, congrFun (WkO_a y4) 2, f1.2.2.1, f2.2.2.1]; exact hT2
      · rw [mPu_s (by decide), ys1 95 (by decide) (by decide)]; exact ha
    · have zr1 : ¬ z1.2.1 56 = 0 := fun y => le ((WkO_er er y3).mp y)
      have zr2 : ¬ z2.2.1 56 = 0 := fun y => le ((WkO_er er2 y4).mp y)
      have sz := szN_b a1.1 c3
      refine Or.inr ⟨EZ_sd n1 (show i ≤ t + 1 - 1 by omega) (by omega) zr1 (WkO_E y3 a4) ⟨_, WkO_57 y3, by omega⟩ (by rw [ys1 95 (by decide) (by decide)]; exact ha) ⟨c1, rfl, c3⟩, EZ_sd n2 (show i ≤ t + 1 - 1 by omega) (by omega) zr2 (WkO_E y4 b4) ⟨_, WkO_57 y4, by omega⟩ (by rw [ys2 95 (by decide) (by decide)]; exact ha') ⟨d1, rfl, d3⟩⟩
  · have er2 : ¬ r2.2.1 56 = 0 := fun z => er (hK.1.1.mpr z)
    have an : ∀ (r : Int32 × MS), ¬ r.2.1 56 = 0 → Tm (fun k => x_answer k 0 (upd (fun _ => 0) 1 r.1) r.2) (fun s => s = r) := fun r he => by
      refine Tm_suc (fun k => by rw [x_answer]) ?_
      refine Tm_ite (fun z => absurd z he) (fun _ => ?_)
      refine Tm_suc (fun k => by rw [x_answer]) ?_
      exact Tm_some rfl
    refine T2_ob (T2_t (an r1 er) (an r2 er2)) (fun z1 z2 hz => ?_)
    rw [hz.1, hz.2]
    refine hQ _ _ (FE_tr f1 FE_pu) (FE_tr f2 FE_pu) (Or.inr ⟨EZ_sd a1 (show i ≤ tA - 1 by omega) (by omega) er a4 ⟨_, a5, by omega⟩ ha ⟨c1, c2, c3⟩, EZ_sd b1 (show i ≤ tB - 1 by omega) (by omega) er2 b4 ⟨_, b5, by omega⟩ ha' ⟨d1, d2, d3⟩⟩)
end AND
section WWK
variable {T : Nat → Nat → Int32} {FN : Nat → Nat → Prop} {lc cn : Nat → Prop} {t w XC k p s n : Nat} {σ1 σ2 : MS} {ch : Nat → Nat}
theorem SQ_mo {b b' : Nat} {r1 r2 : MS} (h : SQ b t w XC σ1 σ2 r1 r2) (hb : b ≤ b') : SQ b' t w XC σ1 σ2 r1 r2 := ⟨h.1, h.2.1, h.2.2.1, h.2.2.2.1, h.2.2.2.2.imp id (fun z => ⟨EZ_mo z.1 (Nat.le_refl _) hb, EZ_mo z.2 (Nat.le_refl _) hb⟩)⟩
/-- keys, then the write -/
theorem E_writeWorked (hX : XC ≤ 402000) (h : Tgt T FN lc k ch) (hn : NmW T lc cn (ch 0) s) (ht : t + kys T ch k ≤ w + 17000) (hk7 : kys T ch k ≤ 17000) (hp : p < t) (hS : Sc1 T FN lc cn σ1) (hI : EI t w XC σ1 σ2) (U1 : UT σ1) (U2 : UT σ2) {L1 L2 : Nat → Int32} (d1 : L1 1 = nI (ch k)) (d2 : L2 1 = nI (ch k)) (q1 : L1 2 = nI p) (q2 : L2 2 = nI p) : T2 (fun n => x_writeWorked n 0 L1 σ1) (fun n => x_writeWorked n 0 L2 σ2) (fun r1 r2 => SQ 179301 t w XC σ1 σ2 r1.2 r2.2) := by
  obtain ⟨t1, t2⟩ := EI_59 hI
  have kk := kys_ge (T := T) (ch := ch) (i := k)
  have w6 := EI_w hI
  refine T2_suc (fun n => by rw [x_writeWorked]) (fun n => by rw [x_writeWorked]) ?_
  refine T2_ob (E_workParts hX h ht hS.1 hI (by exact d1) (by exact d2)) (fun r1 r2 hr => ?_)
  obtain ⟨f1, f2, hr⟩ := hr
  have V1 := UT_fe f1 U1
  have V2 := UT_fe f2 U2
  rw [t1, t2, d1, d2, q1, q2]
  rcases hr with ⟨w2, hw2, hJ⟩ | ⟨z1, z2⟩
  · refine T2_ob (E_write (u := t) (p := p) hX h hn (by omega) (Nat.le_refl _) (by omega) (Sc1_fs hS (FS_fe f1)) hJ V1 V2 rfl rfl rfl rfl rfl rfl) (fun s1 s2 hs => ?_)
    obtain ⟨c1, c2, c3, c4, c5⟩ := hs
    refine T2_some ⟨FS_tr (FS_fe f1) (FS_tr c1 (FS_sc (by omega))), FS_tr (FS_fe f2) (FS_tr c2 (FS_sc (by omega))), UT_c c3 rfl rfl rfl rfl, UT_c c4 rfl rfl rfl rfl, ?_⟩
    rcases c5 with ⟨w3, hw3, hK⟩ | ⟨z1, z2⟩
    · exact Or.inl ⟨w3, by omega, EI_dn (by omega) hK⟩
    · exact Or.inr ⟨EZ_dn z1 (by omega) (by omega), EZ_dn z2 (by omega) (by omega)⟩
  · refine T2_ob (T2_t (s_writeZ (EZ_le z1)) (s_writeZ (EZ_le z2))) (fun s1 s2 hs => ?_)
    rw [hs.1, hs.2]
    exact T2_some (SQ_z f1 f2 U1 U2 (Nat.le_refl _) (by omega) (EZ_mo z1 (Nat.le_refl _) (by omega)) (EZ_mo z2 (Nat.le_refl _) (by omega)))
theorem s_passZ {τ : MS} (he : ¬ τ.1 56 = 0) {L : Nat → Int32} : Tm (fun n => x_pass n 0 L τ) (fun r => r = (0, τ)) := by
  refine Tm_suc (fun n => by rw [x_pass]) ?_
  refine Tm_ite (fun z => absurd z he) (fun _ => ?_)
  refine Tm_suc (fun n => by rw [x_pass]) ?_
  exact Tm_some rfl
/-- how many keys a target of a call has at the most (kept beside the tables) -/
def KBn (T : Nat → Nat → Int32) : Nat := (T 99 0).toNatClampNeg
/-- what is to be shown behind a statement: with an error; or behind its pass -/
def Bhd (T : Nat → Nat → Int32) (XC n : Nat) (σ1 σ2 : MS) (Q : MS → MS → Prop) : Prop := (∀ τ1 τ2, FSt σ1 τ1 → FSt σ2 τ2 → UT τ1 → UT τ2 → EZ 0 179400 τ1 → EZ 0 179400 τ2 → Q τ1 τ2) ∧ ∀ (t w : Nat) (τ1 τ2 : MS), t + 9 + KBn T ≤ w + 17000 → FSt σ1 τ1 → FSt σ2 τ2 → UT τ1 → UT τ2 → EI t w XC τ1 τ2 → ∀ L1 L2 : Nat → Int32, L1 1 = nI n → L2 1 = nI n → T2 (fun k => x_pass k 0 L1 τ1) (fun k => x_pass k 0 L2 τ2) (fun r1 r2 => Q r1.2 r2.2)
theorem Bh_p {Q : MS → MS → Prop} {b t w : Nat} {τ1 τ2 : MS} (hB : Bhd T XC n σ1 σ2 Q) (ht : t + 9 + KBn T ≤ w + 17000) (hb : b ≤ 179400) (hq : SQ b t w XC σ1 σ2 τ1 τ2) {L1 L2 : Nat → Int32} (d1 : L1 1 = nI n) (d2 : L2 1 = nI n) : T2 (fun k => ob (x_pass k 0 L1 τ1) (fun r => some (0, r.2))) (fun k => ob (x_pass k 0 L2 τ2) (fun r => some (0, r.2))) (fun r1 r2 => Q r1.2 r2.2) := by
  obtain ⟨c1, c2, c3, c4, c5⟩ := hq
  rcases c5 with ⟨w', hw', hJ⟩ | ⟨z1, z2⟩
  · exact T2_ob (hB.2 t w' τ1 τ2 (by omega) c1 c2 c3 c4 hJ L1 L2 d1 d2) (fun r1 r2 hr => T2_some hr)
  · refine T2_ob (T2_t (s_passZ (EZ_e z1)) (s_passZ (EZ_e z2))) (fun r1 r2 hr => ?_)
    rw [hr.1, hr.2]
    exact T2_some (hB.1 τ1 τ2 c1 c2 c3 c4 (EZ_mo z1 (by omega) hb) (EZ_mo z2 (by omega) hb))
/-- an assignment -/
theorem E_assignTo {Q : MS → MS → Prop} (hXC : XC ≤ 402000) (hn : (1 ≤ n ∧ n < LNo T % 70001)) (h : Tgt T FN lc k ch) (hnm : NmW T lc cn (ch 0) s) (x5 : T 5 n = nI (ch k)) (x6 : Wx0 T FN lc (T 6 n)) (ht : kys T ch k + 10 + KBn T ≤ 17000) (hS : Sc1 T FN lc cn σ1) (hI : EI 0 w XC σ1 σ2) (U1 : UT σ1) (U2 : UT σ2) (hB : Bhd T XC n σ1 σ2 Q) {L1 L2 : Nat → Int32} (d1 : L1 1 = nI n) (d2 : L2 1 = nI n) : T2 (fun k => x_assignTo k 0 L1 σ1) (fun k => x_assignTo k 0 L2 σ2) (fun r1 r2 => Q r1.2 r2.2) := by
  have hS2 := Sc1_ei hS hI
  have kk := kys_ge (T := T) (ch := ch) (i := k)
  obtain ⟨t1, t2⟩ := EI_59 hI
  have tb : ∀ (τ1 τ2 : MS), FE σ1 τ1 → FE σ2 τ2 → ∀ a i, 4 ≤ a → a ≤ 9 → (1 ≤ i ∧ i < LNo T % 70001) → τ1.2.2 a i = T a i ∧ τ2.2.2 a i = T a i := fun τ1 τ2 f1 f2 a i h1 h2 h3 => ⟨(STb_fe hS.1.1 f1).1 a i h1 (by omega) ⟨fun _ => h3, fun z => by omega⟩, (STb_fe hS2.1.1 f2).1 a i h1 (by omega) ⟨fun _ => h3, fun z => by omega⟩⟩
  -- with an error
  have oneZ : ∀ (τ1 τ2 : MS) (N1 N2 : Nat → Int32), FE σ1 τ1 → FE σ2 τ2 → EZ 0 179400 τ1 → EZ 0 179400 τ2 → T2 (fun k => x_assignTo k 1 N1 τ1) (fun k => x_assignTo k 1 N2 τ2) (fun r1 r2 => Q r1.2 r2.2) := by
    intro τ1 τ2 N1 N2 f1 f2 z1 z2
    refine T2_suc (fun n => by rw [x_assignTo]) (fun n => by rw [x_assignTo]) ?_
    refine T2_ite ⟨fun z => absurd z (EZ_le z1), fun z => absurd z (EZ_le z2)⟩ (fun z _ => absurd z (EZ_le z1)) (fun _ _ => ?_)
    exact T2_some (hB.1 τ1 τ2 (FS_fe f1) (FS_fe f2) (UT_fe f1 U1) (UT_fe f2 U2) z1 z2)
  -- the write
  have four : ∀ (w' : Nat) (τ1 τ2 : MS) (N1 N2 : Nat → Int32), w ≤ w' → FE σ1 τ1 → FE σ2 τ2 → EI (kys T ch k + 1) w' XC τ1 τ2 → N1 1 = nI n → N2 1 = nI n → N1 2 = nI (ch k) → N2 2 = nI (ch k) → N1 3 = nI 0 → N2 3 = nI 0 → N1 4 = nI (kys T ch k) → N2 4 = nI (kys T ch k) → T2 (fun k => x_assignTo k 4 N1 τ1) (fun k => x_assignTo k 4 N2 τ2) (fun r1 r2 => Q r1.2 r2.2) := by
    intro w' τ1 τ2 N1 N2 hw f1 f2 hJ a1 b1 a2 b2 a3 b3 a4 b4
    refine T2_suc (fun n => by rw [x_assignTo]) (fun n => by rw [x_assignTo]) ?_
    refine T2_ob (E_write (u := 0) (p := kys T ch k) hXC h hnm (by omega) (by omega) (by omega) (Sc1_fs hS (FS_fe f1)) hJ (UT_fe f1 U1) (UT_fe f2 U2) (by exact a2) (by exact b2) (by exact a3) (by exact b3) (by exact a4) (by exact b4)) (fun r1 r2 hr => ?_)
    exact Bh_p hB (t := kys T ch k + 1) (b := 179301) (w := w') (by omega) (by omega) ⟨FS_tr (FS_fe f1) hr.1, FS_tr (FS_fe f2) hr.2.1, hr.2.2⟩ (by exact a1) (by exact b1)
  have fourZ : ∀ (τ1 τ2 : MS) (N1 N2 : Nat → Int32) (x : Int32), FE σ1 τ1 → FE σ2 τ2 → N1 1 = nI n → N2 1 = nI n → EZ 0 179400 τ1 → EZ 0 179400 τ2 → T2 (fun k => x_assignTo k 4 N1 τ1) (fun k => x_assignTo k 4 N2 τ2) (fun r1 r2 => Q r1.2 r2.2) := by
    intro τ1 τ2 N1 N2 x f1 f2 a1 b1 z1 z2
    refine T2_suc (fun n => by rw [x_assignTo]) (fun n => by rw [x_assignTo]) ?_
    refine T2_ob (T2_t (s_writeZ (EZ_le z1)) (s_writeZ (EZ_le z2))) (fun r1 r2 hr => ?_)
    rw [hr.1, hr.2]
    exact Bh_p hB (t := 0) (b := 179400) (w := w) (by omega) (Nat.le_refl _) ⟨FS_fe f1, FS_fe f2, UT_fe f1 U1, UT_fe f2 U2, Or.inr ⟨z1, z2⟩⟩ (by exact a1) (by exact b1)
  -- behind the exp
  have one : ∀ (w' : Nat) (τ1 τ2 : MS) (N1 N2 : Nat → Int32), w ≤ w' → FE σ1 τ1 → FE σ2 τ2 → EI (kys T ch k + 1) w' XC τ1 τ2 → N1 1 = nI n → N2 1 = nI n → N1 2 = nI (ch k) → N2 2 = nI (ch k) → N1 3 = nI 0 → N2 3 = nI 0 → T2 (fun k => x_assignTo k 1 N1 τ1) (fun k => x_assignTo k 1 N2 τ2) (fun r1 r2 => Q r1.2 r2.2) := by
    intro w' τ1 τ2 N1 N2 hw f1 f2 hJ a1 b1 a2 b2 a3 b3
    obtain ⟨e1, e2⟩ := EI_e hJ
    obtain ⟨s1, s2⟩ := EI_59 hJ
    refine T2_suc (fun n => by rw [x_assignTo]) (fun n => by rw [x_assignTo]) ?_
    rw [e1, e2]
    refine T2_ite Iff.rfl (fun _ _ => ?_) (fun z _ => absurd (by decide) z)
    refine T2_suc (fun n => by rw [x_assignTo]) (fun n => by rw [x_assignTo]) ?_
    rw [a1, b1, s1, s2, n_sub1 (by omega)]
    refine T2_chk (n_in (by omega) (by omega)) (n_in (by omega) (by omega)) ?_
    rw [n_cl (p := n) (by omega), (tb τ1 τ2 f1 f2 4 _ (by omega) (by omega) (by omega)).1, (tb τ1 τ2 f1 f2 4 _ (by omega) (by omega) (by omega)).2]
    refine T2_ite Iff.rfl (fun _ _ => ?_) (fun _ _ => four w' τ1 τ2 _ _ hw f1 f2 hJ a1 b1 a2 b2 a3 b3 rfl rfl)
    refine T2_ob (E_readParts (u := 0) (fl := 1) hXC h (by omega) (by omega) (Sc0_fe hS.1 f1) hJ (by exact a2) (by exact b2) (by exact a3) (by exact b3) rfl rfl) (fun r1 r2 hr => ?_)
    obtain ⟨g1, g2, hr⟩ := hr
    have h1 := FE_tr f1 g1
    have h2 := FE_tr f2 g2
    rw [if_neg (by decide)] at hr
    rcases hr with ⟨w2, hw2, hK⟩ | ⟨z1, z2⟩
    case inr =>
      refine T2_ite ⟨fun z => absurd z (EZ_e z1), fun z => absurd z (EZ_e z2)⟩ (fun z _ => absurd z (EZ_e z1)) (fun _ _ => ?_)
      refine T2_suc (fun n => by rw [x_assignTo]) (fun n => by rw [x_assignTo]) ?_
      show T2 (fun q => x_assignTo q 4 _ (mSc r1.2 59 (nI (kys T ch k) + 1))) (fun q => x_assignTo q 4 _ (mSc r2.2 59 (nI (kys T ch k) + 1))) _
      rw [n_add1]
      exact fourZ _ _ _ _ 0 (FE_tr h1 (FE_sc (by omega))) (FE_tr h2 (FE_sc (by omega))) a1 b1 (EZ_mo (EZ_dn (c := kys T ch k + 1) z1 (by omega) (by omega)) (by omega) (by omega)) (EZ_mo (EZ_dn (c := kys T ch k + 1) z2 (by omega) (by omega)) (by omega) (by omega))
    obtain ⟨x1, x2⟩ := EI_e hK
    rw [x1, x2]
    refine T2_ite Iff.rfl (fun _ _ => ?_) (fun z _ => absurd rfl z)
    refine T2_ob (E_sw (by omega) (by omega) hK) (fun v1 v2 hv => ?_)
    obtain ⟨k1, k2, gA, lA, BA, hA, XA, gB, lB, BB, hB', XB, hX', rm1, rm2⟩ := hv
    have ff1 := FE_tr h1 k1
    have ff2 := FE_tr h2 k2
    have hX0 := hX'
    obtain ⟨m1, m2, aR, j1, j2, u1, o1, o2, _, _, _, _, ⟨ty1, ty2⟩, a95, z1, z2⟩ := hX'
    have u2 : v2.2.1 59 = nI (kys T ch k + 1 + 1 + k) := (aR.2.2.1 59 (by unfold AlS; omega)).symm.trans u1
    have et : nI (kys T ch k + 1 + 1 + k) - 1 = nI (kys T ch k + 1 + k) := (n_sub (p := kys T ch k + 1 + 1 + k) (q := 1) (by omega) (by omega)).trans (by rw [show kys T ch k + 1 + 1 + k - 1 = kys T ch k + 1 + k by omega])
    rw [u1, u2, et]
    refine T2_chk (n_in3 (by omega) (by omega)) (n_in3 (by omega) (by omega)) ?_
    refine T2_chk (n_in (by omega) (by omega)) (n_in (by omega) (by omega)) ?_
    refine T2_chk (n_in (by omega) (by omega)) (n_in (by omega) (by omega)) ?_
    rw [n_cl (p := kys T ch k + 1 + k) (by omega), n_cl (p := kys T ch k) (by omega), (tb _ _ ff1 ff2 7 _ (by omega) (by omega) (by omega)).1, (tb _ _ ff1 ff2 7 _ (by omega) (by omega) (by omega)).2]
    have P1 : VP gA lA BA hA (kys T ch k + 1 + 1 + k) v1.2 := ⟨m1.1, u1, by omega, ⟨0, o1, by decide⟩⟩
    have P2 : VP gB lB BB hB' (kys T ch k + 1 + 1 + k) v2.2 := ⟨m2.1, u2, by omega, ⟨0, o2, by decide⟩⟩
    obtain ⟨va, vb, va1, va2, va3, va4, va5, va6, va7⟩ := aR.1 29 (kys T ch k + 1 + k) (Or.inl ⟨rfl, by omega⟩) (by unfold VwR; omega)
    obtain ⟨vc, vd, vc1, vc2, vc3, vc4, vc5, vc6, vc7⟩ := aR.1 29 (kys T ch k) (Or.inl ⟨rfl, by omega⟩) (by unfold VwR; omega)
    rw [va1, va3, vc1, vc3]
    refine T2_ob (E_op hX0 (s_operate P1 va2 vc2 rfl rfl) (s_operate P2 va4 vc4 rfl rfl) (fun n => k_operate m1.1 m2.1 o1 o2 u1 u2 (by omega) (by omega) (by omega) va2 va4 va5 vc2 vc4 vc5 rfl rfl rfl rfl rfl (fun i hi => ?_)) (fun k => wl_operate k _ _ _) (fun k => wl_operate k _ _ _) (c := 8600) (by omega)) (fun s1 s2 hs => ?_)
    · rw [upd_other (by omega), upd_other (by omega), upd_other (by omega), upd_other (by omega), upd_other (by omega), upd_other (by omega)]
    obtain ⟨s1', s2', s3, s4, s5⟩ := hs
    have eT : kys T ch k + 1 + 1 + k = (kys T ch k + 1 + k) + 1 := by omega
    rw [eT] at m1 m2 aR s1' s2'
    refine E_anD (i := kys T ch k) m1 m2 aR j1 j2 (by omega) (by omega) ty1 ty2 ⟨a95, s4.trans z1, z2⟩ (s4.trans ((aR.2.2.1 95 (by unfold AlS; omega)).trans s5.symm)) s1' s2' s3 (fun y1 y2 p1 p2 hy => ?_)
    refine T2_chk (n_in3 (by omega) (by omega)) (n_in3 (by omega) (by omega)) ?_
    refine T2_suc (fun n => by rw [x_assignTo]) (fun n => by rw [x_assignTo]) ?_
    show T2 (fun q => x_assignTo q 4 _ (mSc (mAr y1.2 29 (kys T ch k) y1.1) 59 (nI (kys T ch k) + 1))) (fun q => x_assignTo q 4 _ (mSc (mAr y2.2 29 (kys T ch k) y2.1) 59 (nI (kys T ch k) + 1))) _
    rw [n_add1]
    show T2 (fun q => x_assignTo q 4 _ (mPu y1.2 (kys T ch k) y1.1)) (fun q => x_assignTo q 4 _ (mPu y2.2 (kys T ch k) y2.1)) _
    rcases hy with ⟨w3, hw3, hy⟩ | ⟨y3, y4⟩
    · exact four w3 _ _ _ _ (by omega) (FE_tr ff1 p1) (FE_tr ff2 p2) hy a1 b1 a2 b2 a3 b3 rfl rfl
    · exact fourZ _ _ _ _ 0 (FE_tr ff1 p1) (FE_tr ff2 p2) a1 b1 (EZ_mo y3 (by omega) (by omega)) (EZ_mo y4 (by omega) (by omega))
  refine T2_suc (fun n => by rw [x_assignTo]) (fun n => by rw [x_assignTo]) ?_
  rw [d1, d2]
  refine T2_chk (n_in (by omega) (by omega)) (n_in (by omega) (by omega)) ?_
  rw [n_cl (p := n) (by omega), hS.1.1.1 5 _ (by omega) (by omega) (by omega), hS2.1.1.1 5 _ (by omega) (by omega) (by omega), x5, t1, t2]
  refine T2_ob (E_workParts hXC h (by omega) hS.1 hI rfl rfl) (fun r1 r2 hr => ?_)
  obtain ⟨f1, f2, hr⟩ := hr
  rw [Nat.zero_add] at hr
  rcases hr with ⟨w2, hw2, hJ⟩ | ⟨z1, z2⟩
  · obtain ⟨e1, e2⟩ := EI_e hJ
    rw [e1, e2]
    refine T2_ite Iff.rfl (fun _ _ => ?_) (fun z _ => absurd rfl z)
    refine T2_chk (n_in3 (by omega) (by omega)) (n_in3 (by omega) (by omega)) ?_
    rw [(tb _ _ f1 f2 6 _ (by omega) (by omega) (by omega)).1, (tb _ _ f1 f2 6 _ (by omega) (by omega) (by omega)).2]
    refine T2_ob (E_eval hXC (by omega) (Sc0_fe hS.1 f1) x6 hJ rfl rfl) (fun s1 s2 hs => ?_)
    obtain ⟨g1, g2, hs⟩ := hs
    rcases hs with ⟨w3, hw3, hK⟩ | ⟨z1, z2⟩
    · exact one w3 _ _ _ _ (by omega) (FE_tr f1 g1) (FE_tr f2 g2) hK d1 d2 rfl rfl rfl rfl
    · exact oneZ _ _ _ _ (FE_tr f1 g1) (FE_tr f2 g2) (EZ_mo z1 (by omega) (by omega)) (EZ_mo z2 (by omega) (by omega))
  · refine T2_ite ⟨fun z => absurd z (EZ_e z1), fun z => absurd z (EZ_e z2)⟩ (fun z _ => absurd z (EZ_e z1)) (fun _ _ => ?_)
    exact oneZ _ _ _ _ f1 f2 (EZ_mo z1 (by omega) (by omega)) (EZ_mo z2 (by omega) (by omega))
end WWK

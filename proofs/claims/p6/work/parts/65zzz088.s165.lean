/-! What is made holds what it was made of (reference): rows of values. -/
/-- sizes together -/
def sS (H : Nat → Int32) (c : Nat → Int32) : Nat → Nat
  | 0 => 0
  | i + 1 => sS H c i + szN H (c i).toNatClampNeg
/-- the greatest height -/
def mH (H : Nat → Int32) (c : Nat → Int32) : Nat → Nat
  | 0 => 0
  | i + 1 => if htN H (c i).toNatClampNeg ≤ mH H c i then mH H c i else htN H (c i).toNatClampNeg
/-- a row that was made at h of the values c, or an error since it is too large or too high -/
def RwM (H : Nat → Int32) (h kd n : Nat) (c : Nat → Int32) (r : Int32 × MS) : Prop := r.2.1 55 = nI (h + 4 + n) ∧ ((1 + sS H c n ≤ 1000 ∧ mH H c n + 1 ≤ 30 ∧ r.1 = nI h ∧ r.2.1 56 = 0 ∧ r.2.2.2 28 h = nI kd ∧ r.2.2.2 28 (h + 1) = nI n ∧ r.2.2.2 28 (h + 2) = nI (1 + sS H c n) ∧ r.2.2.2 28 (h + 3) = nI (mH H c n + 1) ∧ ∀ i, i < n → r.2.2.2 28 (h + 4 + i) = c i) ∨ (¬ (1 + sS H c n ≤ 1000 ∧ mH H c n + 1 ≤ 30) ∧ ¬ r.2.1 56 = 0))
section URW
variable {g : Nat → Prop} {l : List Nat} {B h t : Nat} {σ : MS}
theorem sS_b (hS : HS g l B h σ) {c : Nat → Int32} {n : Nat} (hc : ∀ i, i < n → ∃ m, c i = nI m ∧ (m < 3 ∨ g m)) : ∀ i, i ≤ n → i ≤ sS (σ.2.2 28) c i ∧ sS (σ.2.2 28) c i ≤ 1000 * i ∧ mH (σ.2.2 28) c i ≤ 30 := by
  intro i
  induction i with
  | zero => intro _; exact ⟨Nat.le_refl _, Nat.le_refl _, Nat.zero_le _⟩
  | succ i ih =>
    intro hi
    obtain ⟨m, m1, m2⟩ := hc i (by omega)
    have hb := HS_vb hS m2
    have := szN_b hS m2
    have := ih (by omega)
    unfold sS mH
    rw [m1, n_cl (by omega)]
    refine ⟨by omega, by omega, ?_⟩
    by_cases e : htN (σ.2.2 28) m ≤ mH (σ.2.2 28) c i
    · rw [if_pos e]; omega
    · rw [if_neg e]; omega
theorem u_measured {m n kd : Nat} {τ : MS} {l' : List Nat} {H0 : Nat → Int32} {c : Nat → Int32} (hS : HS g l' B (h + 4 + n) τ) (hn : n ≤ 200000) (h56 : τ.1 56 = 0) (h55 : τ.1 55 = nI (h + 4 + n)) (th : τ.2.2 28 h = nI kd) (th1 : τ.2.2 28 (h + 1) = nI n) (tc : ∀ i, i < n → τ.2.2 28 (h + 4 + i) = c i) (hc : ∀ i, i < n → ∃ m, c i = nI m ∧ (m < 3 ∨ g m)) (hsz : ∀ m, (m < 3 ∨ g m) → szN H0 m = szN (τ.2.2 28) m ∧ htN H0 m = htN (τ.2.2 28) m) {L : Nat → Int32} (hL : L 1 = nI h) : Um m (fun k => x_measured k 0 L τ) (RwM H0 h kd n c) := by
  have hb := HS_b hS
  have hB := hS.2.1
  have eS : ∀ i, i ≤ n → sS H0 c i = sS (τ.2.2 28) c i ∧ mH H0 c i = mH (τ.2.2 28) c i := by
    intro i
    induction i with
    | zero => intro _; exact ⟨rfl, rfl⟩
    | succ i ih =>
      intro hi
      obtain ⟨m, m1, m2⟩ := hc i (by omega)
      have hmb := HS_vb hS m2
      have q := hsz m m2
      have p := ih (by omega)
      unfold sS mH
      rw [m1, n_cl (by omega), q.1, q.2, p.1, p.2]
      exact ⟨rfl, rfl⟩
  have bd := sS_b hS hc
  obtain ⟨eS1, eS2⟩ := eS n (Nat.le_refl _)
  -- the end
  have b4 : ∀ (m : Nat) (N : Nat → Int32), N 1 = nI h → N 2 = nI (1 + sS H0 c n) → N 3 = nI (mH H0 c n) → Um m (fun k => x_measured k 4 N τ) (RwM H0 h kd n c) := by
    intro m N n1 n2 n3
    obtain ⟨bd1, bd2, bd3⟩ := bd n (Nat.le_refl _)
    rw [← eS1] at bd1 bd2
    rw [← eS2] at bd3
    refine Um_suc rfl (fun k => by rw [x_measured]) (fun m1 _ => ?_)
    rw [n1, n2, show nI h + 2 = nI (h + 2) from n_add (q := 2) (by omega), n_cl (p := h + 2) (by omega)]
    refine Um_chk (fun _ => ?_)
    show Um m1 (fun k => x_measured k 5 N (mAr τ 28 (h + 2) (nI (1 + sS H0 c n)))) _
    refine Um_suc rfl (fun k => by rw [x_measured]) (fun m2 _ => ?_)
    rw [n1, n3, n_add1, show nI h + 3 = nI (h + 3) from n_add (q := 3) (by omega), n_cl (p := h + 3) (by omega)]
    refine Um_chk (fun _ => ?_)
    show Um m2 (fun k => x_measured k 6 N (mAr (mAr τ 28 (h + 2) (nI (1 + sS H0 c n))) 28 (h + 3) (nI (mH H0 c n + 1)))) _
    have e2 : (mAr (mAr τ 28 (h + 2) (nI (1 + sS H0 c n))) 28 (h + 3) (nI (mH H0 c n + 1))).2.2 28 = upd (upd (τ.2.2 28) (h + 2) (nI (1 + sS H0 c n))) (h + 3) (nI (mH H0 c n + 1)) := by rw [mAr_s, mAr_s]
    have f56 : (mAr (mAr τ 28 (h + 2) (nI (1 + sS H0 c n))) 28 (h + 3) (nI (mH H0 c n + 1))).1 56 = 0 := h56
    have f55 : (mAr (mAr τ 28 (h + 2) (nI (1 + sS H0 c n))) 28 (h + 3) (nI (mH H0 c n + 1))).1 55 = nI (h + 4 + n) := h55
    generalize mAr (mAr τ 28 (h + 2) (nI (1 + sS H0 c n))) 28 (h + 3) (nI (mH H0 c n + 1)) = υ at e2 f56 f55
    have u2 : ∀ j, j ≠ h + 2 → j ≠ h + 3 → υ.2.2 28 j = τ.2.2 28 j := fun j h1 h2 => by rw [e2, upd_other h2, upd_other h1]
    have us : υ.2.2 28 (h + 2) = nI (1 + sS H0 c n) := by rw [e2, upd_other (by omega), upd_same]
    have ut : υ.2.2 28 (h + 3) = nI (mH H0 c n + 1) := by rw [e2, upd_same]
    refine Um_suc rfl (fun k => by rw [x_measured]) (fun m3 _ => ?_)
    refine Um_ob (P := RwM H0 h kd n c) ?_ (fun r hr => Um_some hr)
    have l1 : ¬ (1 + sS H0 c n ≤ 1000 ∧ mH H0 c n + 1 ≤ 30) → ∀ (m' : Nat) (M : Nat → Int32), Um m' (fun k => x_checked k 1 M υ) (RwM H0 h kd n c) := fun hno m' M => by
      refine Um_suc rfl (fun k => by rw [x_checked]) (fun m4 _ => ?_)
      refine Um_ob (Um_t (s_fail _ υ) (fun k => f_fail k _ _ _)) (fun r hr => ?_)
      rw [hr]
      refine Um_suc rfl (fun k => by rw [x_checked]) (fun m5 _ => ?_)
      refine Um_ite (fun z => absurd z (mEr_e (by decide))) (fun _ => ?_)
      refine Um_suc rfl (fun k => by rw [x_checked]) (fun m6 _ => ?_)
      refine Um_suc rfl (fun k => by rw [x_checked]) (fun m7 _ => ?_)
      exact Um_some ⟨(mEr_s (by decide)).trans f55, Or.inr ⟨hno, mEr_e (by decide)⟩⟩
    refine Um_suc rfl (fun k => by rw [x_checked]) (fun m4 _ => ?_)
    rw [show upd (fun _ => (0 : Int32)) 1 (N 1) 1 = nI h from n1, show nI h + 2 = nI (h + 2) from n_add (q := 2) (by omega), show nI h + 3 = nI (h + 3) from n_add (q := 3) (by omega), n_cl (p := h + 2) (by omega), n_cl (p := h + 3) (by omega), us, ut]
    refine Um_ite (fun _ => ?_) (fun w => absurd f56 w)
    refine Um_chk (fun _ => ?_)
    refine Um_ite (fun w => l1 (fun z => ?_) m4 _) (fun w => ?_)
    · have := (n_lt (p := 1000) (by decide) (by omega)).mp w
      omega
    have w : 1 + sS H0 c n ≤ 1000 := by
      by_cases q : 1000 < 1 + sS H0 c n
      · exact absurd ((n_lt (p := 1000) (by decide) (by omega)).mpr q) w
      · omega
    refine Um_chk (fun _ => ?_)
    refine Um_ite (fun w2 => ?_) (fun w2 => l1 (fun z => w2 ((n_le (q := 30) (by omega) (by decide)).mpr z.2)) m4 _)
    have w2 := (n_le (q := 30) (by omega) (by decide)).mp w2
    refine Um_suc rfl (fun k => by rw [x_checked]) (fun m5 _ => ?_)
    refine Um_ite (fun _ => ?_) (fun z => absurd f56 z)
    refine Um_suc rfl (fun k => by rw [x_checked]) (fun m6 _ => ?_)
    exact Um_some ⟨f55, Or.inl ⟨w, w2, n1, f56, (u2 _ (by omega) (by omega)).trans th, (u2 _ (by omega) (by omega)).trans th1, us, ut, fun i hi => (u2 _ (by omega) (by omega)).trans (tc i hi)⟩⟩
  have b1 : ∀ (m i : Nat) (N : Nat → Int32), i ≤ n → N 1 = nI h → N 2 = nI (1 + sS H0 c i) → N 3 = nI (mH H0 c i) → N 4 = nI n → N 5 = nI i → Um m (fun k => x_measured k 1 N τ) (RwM H0 h kd n c) := by
    intro m
    induction m using Nat.strongRecOn with
    | ind m ih =>
    intro i N hi n1 n2 n3 n4 n5
    refine Um_suc rfl (fun k => by rw [x_measured]) (fun m1 hm1 => ?_)
    rw [n1, n4, n5, show nI h + 4 = nI (h + 4) from n_add (q := 4) (by omega), n_add (p := h + 4) (by omega), n_cl (p := h + 4 + i) (by omega)]
    refine Um_ite (fun y => ?_) (fun y => ?_)
    · have y := (n_le (by omega) (by omega)).mp y
      have e : i = n := by omega
      rw [e] at n2 n3
      exact b4 m1 N n1 n2 n3
    have hin : i < n := by
      by_cases e : n ≤ i
      · exact absurd ((n_le (by omega) (by omega)).mpr e) y
      · omega
    obtain ⟨x, x1, x2⟩ := hc i hin
    have hx := HS_vb hS x2
    have qx := hsz x x2
    have bx := szN_b hS x2
    obtain ⟨bd1, bd2, bd3⟩ := bd i hi
    obtain ⟨ei1, ei2⟩ := eS i hi
    have en1 : sS H0 c (i + 1) = sS H0 c i + szN (τ.2.2 28) x := by
      show sS H0 c i + szN H0 (c i).toNatClampNeg = _
      rw [x1, n_cl (by omega), qx.1]
    have en2 : mH H0 c (i + 1) = if htN (τ.2.2 28) x ≤ mH H0 c i then mH H0 c i else htN (τ.2.2 28) x := by
      show (if htN H0 (c i).toNatClampNeg ≤ mH H0 c i then mH H0 c i else htN H0 (c i).toNatClampNeg) = _
      rw [x1, n_cl (by omega), qx.2]
    rw [tc i hin, x1]
    refine Um_chk (fun _ => ?_)
    refine Um_ob (Um_t (s_size hS x2 rfl) (fun k => f_size k _ _ _)) (fun r hr => ?_)
    rw [hr]
    refine Um_ob (Um_t (s_height hS x2 rfl) (fun k => f_height k _ _ _)) (fun r2 hr2 => ?_)
    rw [hr2, n3, n2]
    have hsum : nI (1 + sS H0 c i) + nI (szN (τ.2.2 28) x) = nI (1 + sS H0 c (i + 1)) := by
      rw [n_add (by omega), en1, Nat.add_assoc]
    have b3 : ∀ (m' : Nat) (M : Nat → Int32), m' < m → M 1 = nI h → M 2 = nI (1 + sS H0 c (i + 1)) → M 100 = nI (mH H0 c (i + 1)) → M 4 = nI n → M 5 = nI i → Um m' (fun k => x_measured k 3 M τ) (RwM H0 h kd n c) := by
      intro m' M hm' q1 q2 q3 q4 q5
      refine Um_suc rfl (fun k => by rw [x_measured]) (fun m2 hm2 => ?_)
      exact ih m2 (by omega) (i + 1) _ (by omega) q1 q2 q3 q4 (by show M 5 + 1 = _; rw [q5, n_add1])
    refine Um_ite (fun w => ?_) (fun w => ?_)
    · have w := (n_le (by omega) (by omega)).mp w
      refine Um_suc rfl (fun k => by rw [x_measured]) (fun m2 hm2 => ?_)
      exact b3 m2 _ (by omega) n1 hsum (by show N 3 = _; rw [n3, en2, if_pos w]) n4 n5
    · have w : ¬ htN (τ.2.2 28) x ≤ mH H0 c i := fun z => w ((n_le (by omega) (by omega)).mpr z)
      refine Um_ob (Um_t (s_height hS x2 rfl) (fun k => f_height k _ _ _)) (fun r3 hr3 => ?_)
      rw [hr3]
      exact b3 m1 _ (by omega) n1 hsum (by show nI (htN (τ.2.2 28) x) = _; rw [en2, if_neg w]) n4 n5
  refine Um_suc rfl (fun k => by rw [x_measured]) (fun m1 _ => ?_)
  rw [hL, n_add1, n_cl (p := h + 1) (by omega), th1]
  refine Um_chk (fun _ => ?_)
  exact b1 m1 0 _ (Nat.zero_le _) hL rfl rfl rfl rfl
end URW
section KRW
variable {g1 g2 : Nat → Prop} {l1 l2 : List Nat} {B1 h1 B2 h2 n : Nat} {σ1 σ2 : MS}
/-- values of two rows that hold the same -/
def CeE (g1 g2 : Nat → Prop) (H1 H2 : Nat → Int32) (c1 c2 : Nat → Int32) (n : Nat) : Prop := ∀ i, i < n → VC g1 g2 H1 H2 (c1 i) (c2 i)
theorem CeE_sz {H1 H2 : Nat → Int32} {c1 c2 : Nat → Int32} {n : Nat} (h : CeE g1 g2 H1 H2 c1 c2 n) : ∀ i, i ≤ n → sS H2 c2 i = sS H1 c1 i ∧ mH H2 c2 i = mH H1 c1 i := by
  intro i
  induction i with
  | zero => intro _; exact ⟨rfl, rfl⟩
  | succ i ih =>
    intro hi
    obtain ⟨a, b, a1, _, b1, _, ev, ab, bb⟩ := h i (by omega)
    have q := EVb_sz ev
    have p := ih (by omega)
    unfold sS mH
    rw [a1, b1, n_cl (by omega), n_cl (by omega), q.1, q.2.1, p.1, p.2]
    exact ⟨rfl, rfl⟩
/-- two rows made alike -/
theorem RwM_ev {kd n K : Nat} {c1 c2 : Nat → Int32} {r1 r2 : Int32 × MS} (hS1 : HS g1 l1 B1 h1 σ1) (hS2 : HS g2 l2 B2 h2 σ2) (hk : kd = 5 ∨ kd = 6) (hK : 4 + n ≤ K) (hc : CeE g1 g2 (σ1.2.2 28) (σ2.2.2 28) c1 c2 n) (f1 : ∀ i, B1 + 4 ≤ i → i < h1 → r1.2.2.2 28 i = σ1.2.2 28 i) (f2 : ∀ i, B2 + 4 ≤ i → i < h2 → r2.2.2.2 28 i = σ2.2.2 28 i) (b1 : h1 < 1740000) (b2 : h2 < 1740000) (a : RwM (σ1.2.2 28) h1 kd n c1 r1) (b : RwM (σ2.2.2 28) h2 kd n c2 r2) : KQ h1 h2 K r1 r2 := by
  have hb1 := HS_b hS1
  have hb2 := HS_b hS2
  obtain ⟨es, eh⟩ := CeE_sz hc n (Nat.le_refl _)
  obtain ⟨a0, a⟩ := a
  obtain ⟨b0, b⟩ := b
  rw [es, eh] at b
  rcases a with ⟨x1, x2, x3, x4, x5, x6, x7, x8, x9⟩ | ⟨x1, x2⟩
  · rcases b with ⟨y1, y2, y3, y4, y5, y6, y7, y8, y9⟩ | ⟨y1, y2⟩
    · refine ⟨⟨fun _ => y4, fun _ => x4⟩, fun _ => ⟨h1, h2, x3, y3, b1, b2, EVb_mk (by omega) (by omega) (fun i hi => ?_) (fun n' hn' hn2 i hi => Or.inl ⟨?_, ?_⟩)⟩, _, _, a0, b0, by omega, by omega⟩
      · have : i = 0 ∨ i = 1 ∨ i = 2 ∨ i = 3 := by omega
        rcases this with rfl | rfl | rfl | rfl
        · exact y5.trans x5.symm
        · exact y6.trans x6.symm
        · exact y7.trans x7.symm
        · exact y8.trans x8.symm
      · rw [x5]; exact hk.imp (fun e => by rw [e]) (fun e => by rw [e])
      · have hnn : n ≤ 1000 := by
          have : n ≤ sS (σ1.2.2 28) c1 n := (sS_b hS1 (fun i hi => by
            obtain ⟨m, _, m1, m2, _⟩ := hc i hi
            exact ⟨m, m1, m2⟩) n (Nat.le_refl _)).1
          omega
        have e : n = n' := (n_eq (by omega) (by omega)).mp (x6.symm.trans hn')
        subst e
        obtain ⟨u, v, u1, u2, v1, v2, ev, ub, vb⟩ := hc i hi
        exact ⟨u, v, (x9 i hi).trans u1, ub, (y9 i hi).trans v1, vb, EVb_g2 hS1.2.2.2.2 hb1.2 f1 hS2.2.2.2.2 hb2.2 f2 u2 v2 ev⟩
    · exact absurd ⟨x1, x2⟩ y1
  · rcases b with ⟨y1, y2, _⟩ | ⟨y1, y2⟩
    · exact absurd ⟨y1, y2⟩ x1
    · exact ⟨⟨fun z => absurd z x2, fun z => absurd z y2⟩, fun z => absurd z x2, _, _, a0, b0, by omega, by omega⟩
end KRW

/-! Two runs side by side (reference): comparing values. -/
section KCV
variable {g1 g2 : Nat → Prop} {l1 l2 : List Nat} {B1 h1 B2 h2 n : Nat} {σ1 σ2 : MS}
theorem Pm_ite4 {Q : Int32 × MS → Int32 × MS → Prop} {c1 c2 : Prop} {d1 : Decidable c1} {d2 : Decidable c2} {a1 a2 b1 b2 : Nat → Option (Int32 × MS)} (t : c1 → c2 → Pm n a1 a2 Q) (t' : c1 → ¬ c2 → Pm n a1 b2 Q) (u' : ¬ c1 → c2 → Pm n b1 a2 Q) (u : ¬ c1 → ¬ c2 → Pm n b1 b2 Q) : Pm n (fun k => if c1 then a1 k else b1 k) (fun k => if c2 then a2 k else b2 k) Q := by
  intro k hk r1 r2 e1 e2
  have e1 : (if c1 then a1 k else b1 k) = some r1 := e1
  have e2 : (if c2 then a2 k else b2 k) = some r2 := e2
  by_cases h : c1
  · rw [if_pos h] at e1
    by_cases h' : c2
    · rw [if_pos h'] at e2; exact t h h' k hk r1 r2 e1 e2
    · rw [if_neg h'] at e2; exact t' h h' k hk r1 r2 e1 e2
  · rw [if_neg h] at e1
    by_cases h' : c2
    · rw [if_pos h'] at e2; exact u' h h' k hk r1 r2 e1 e2
    · rw [if_neg h'] at e2; exact u h h' k hk r1 r2 e1 e2
/-- wholes of the same limbs -/
theorem z_compareWholes (hS1 : HS g1 l1 B1 h1 σ1) {a b p : Nat} (p1 : σ1.2.2 28 (a + 1) = nI p) (q1 : σ1.2.2 28 (b + 1) = nI p) (hp : p ≤ 3996) (hp1 : 1 ≤ p) (ha1 : a + 4 + p ≤ 1740000) (hb1 : b + 4 + p ≤ 1740000) (cab : ∀ i, i < p → σ1.2.2 28 (b + 4 + i) = σ1.2.2 28 (a + 4 + i)) {L : Nat → Int32} (e1 : L 1 = nI a) (e2 : L 2 = nI b) : Pm n (fun k => x_compareWholes k 0 L σ1) (fun k => x_compareWholes k 0 L σ1) (fun r1 r2 => r1.1 = 0 ∧ r2.1 = 0) := by
  have sg : ∀ (m x : Nat) (N : Nat → Int32), x + 4 < 1740000 → N 1 = nI x → Pm m (fun k => x_signOf k 0 N σ1) (fun k => x_signOf k 0 N σ1) (fun r1 r2 => r1 = (σ1.2.2 28 (x + 4), σ1) ∧ r2 = (σ1.2.2 28 (x + 4), σ1)) := fun m x N hx m1 => Pm_t2 (s_signOf hS1 (m := x) hx m1) (fun k => f_signOf k _ _ _) (s_signOf hS1 (m := x) hx m1) (fun k => f_signOf k _ _ _)
  have w5 : ∀ (m : Nat) (N : Nat → Int32), N 100 = 0 → Pm m (fun k => x_compareWholes k 5 N σ1) (fun k => x_compareWholes k 5 N σ1) (fun r1 r2 => r1.1 = 0 ∧ r2.1 = 0) := fun m N h => by
    refine Pm_suc rfl (fun k => by rw [x_compareWholes]) (fun k => by rw [x_compareWholes]) (fun m _ => ?_)
    exact Pm_some ⟨h, h⟩
  have w3 : ∀ (m : Nat) (N : Nat → Int32), N 1 = nI a → N 5 = 0 → Pm m (fun k => x_compareWholes k 3 N σ1) (fun k => x_compareWholes k 3 N σ1) (fun r1 r2 => r1.1 = 0 ∧ r2.1 = 0) := fun m N n1 n5 => by
    refine Pm_suc rfl (fun k => by rw [x_compareWholes]) (fun k => by rw [x_compareWholes]) (fun m _ => ?_)
    refine Pm_ob (sg m a _ (by omega) (by exact n1)) (fun r1 r2 hr => ?_)
    rw [hr.1, hr.2]
    refine Pm_ite Iff.rfl (fun _ _ => ?_) (fun _ _ => ?_)
    · refine Pm_suc rfl (fun k => by rw [x_compareWholes]) (fun k => by rw [x_compareWholes]) (fun m _ => ?_)
      exact w5 m _ (by show N 5 = 0; exact n5)
    · exact w5 m _ (by show - N 5 = 0; rw [n5]; rfl)
  have w2 : ∀ (m i : Nat) (N : Nat → Int32), i < p → N 1 = nI a → N 2 = nI b → N 6 = nI i → N 5 = 0 → Pm m (fun k => x_compareWholes k 2 N σ1) (fun k => x_compareWholes k 2 N σ1) (fun r1 r2 => r1.1 = 0 ∧ r2.1 = 0) := by
    intro m
    induction m with
    | zero =>
      intro i N hi n1 n2 n6 n5
      exact Pm_suc rfl (fun k => by rw [x_compareWholes]) (fun k => by rw [x_compareWholes]) (fun m hm => by omega)
    | succ m ih =>
      intro i N hi n1 n2 n6 n5
      refine Pm_suc rfl (fun k => by rw [x_compareWholes]) (fun k => by rw [x_compareWholes]) (fun m' hm' => ?_)
      have hm' : m' = m := by omega
      subst hm'
      rw [n1, n2, n6, show nI a + 4 = nI (a + 4) from n_add (q := 4) (by omega), show nI b + 4 = nI (b + 4) from n_add (q := 4) (by omega), n_add (p := a + 4) (q := i) (by omega), n_add (p := b + 4) (q := i) (by omega)]
      refine Pm_ite Iff.rfl (fun _ _ => w3 m' _ n1 n5) (fun z _ => ?_)
      refine Pm_ite Iff.rfl (fun _ _ => ?_) (fun w _ => absurd n5 w)
      refine Pm_chk (fun _ _ => ?_)
      refine Pm_chk (fun _ _ => ?_)
      rw [n_cl (p := a + 4 + i) (by omega), n_cl (p := b + 4 + i) (by omega), cab i hi]
      have hi1 : 1 ≤ i := by
        by_cases e : i = 0
        · exact absurd (by rw [e]; decide) z
        · omega
      obtain ⟨j, rfl⟩ : ∃ j, i = j + 1 := ⟨i - 1, by omega⟩
      rw [show nI (j + 1) + (-1) = nI j from n_pred j (by omega), Int32.sub_self]
      exact ih j _ (by omega) n1 n2 rfl rfl
  have s4 : σ1.2.2 28 (b + 4) = σ1.2.2 28 (a + 4) := cab 0 (by omega)
  refine Pm_suc rfl (fun k => by rw [x_compareWholes]) (fun k => by rw [x_compareWholes]) (fun m _ => ?_)
  refine Pm_ob (sg m a _ (by omega) (by exact e1)) (fun r1 r2 hr => ?_)
  rw [hr.1, hr.2]
  refine Pm_ob (sg m b _ (by omega) (by exact e2)) (fun s1 s2 hs => ?_)
  rw [hs.1, hs.2]
  refine Pm_ite Iff.rfl (fun _ _ => ?_) (fun w _ => absurd s4.symm w)
  refine Pm_suc rfl (fun k => by rw [x_compareWholes]) (fun k => by rw [x_compareWholes]) (fun m _ => ?_)
  rw [e1, e2, n_add1, n_add1]
  refine Pm_chk (fun _ _ => ?_)
  refine Pm_chk (fun _ _ => ?_)
  rw [n_cl (p := a + 1) (by omega), n_cl (p := b + 1) (by omega), p1, q1]
  refine w2 m (p - 1) _ (by omega) e1 e2 ?_ ?_
  · show nI p - 1 = _
    exact n_sub (p := p) (q := 1) (by omega) hp1
  · show nI p - nI p = 0
    exact Int32.sub_self _
/-- what is known of two values of one rank -/
theorem EVb_ob (hS1 : HS g1 l1 B1 h1 σ1) (hS2 : HS g2 l2 B2 h2 σ2) {a1 a2 : Nat} (ha1 : g1 a1) (hv : EVb (σ1.2.2 28) (σ2.2.2 28) a1 a2) (ha2 : a2 < 3 ∨ g2 a2) : ∃ k p, g2 a2 ∧ 3 ≤ a1 ∧ 3 ≤ a2 ∧ (2 ≤ k ∧ k ≤ 6) ∧ p ≤ 3996 ∧ (k = 2 → 1 ≤ p) ∧ kdN (σ1.2.2 28) a1 = k ∧ σ1.2.2 28 a1 = nI k ∧ σ2.2.2 28 a2 = nI k ∧ σ1.2.2 28 (a1 + 1) = nI p ∧ σ2.2.2 28 (a2 + 1) = nI p ∧ a1 + 4 + p ≤ 1740000 ∧ a2 + 4 + p ≤ 1740000 := by
  obtain ⟨k, p, s, t, q1, q2, q3⟩ := HS_at hS1 ha1
  have hb1 := HS_b hS1
  have hb2 := HS_b hS2
  have c3 : 3 ≤ a1 := by omega
  have c4 : 3 ≤ a2 := by
    rcases EVb_3 hv with z | z
    · omega
    · exact z.2
  have ga2 : g2 a2 := ha2.resolve_left (by omega)
  obtain ⟨k', p', s', t', r1, r2, r3⟩ := HS_at hS2 ga2
  have k6 := q1.2.2.2.2.1
  have e0 : σ2.2.2 28 a2 = nI k := (EVb_hd hv c3 (i := 0) (by omega)).trans q1.1
  have e1 : σ2.2.2 28 (a2 + 1) = nI p := (EVb_hd hv c3 (i := 1) (by omega)).trans q1.2.1
  have hp := q1.2.2.2.2.2.2.2.1
  have hp' := r1.2.2.2.2.2.2.2.1
  have ep : p' = p := (n_eq (by omega) (by omega)).mp (r1.2.1.symm.trans e1)
  have hk : kdN (σ1.2.2 28) a1 = k := by
    unfold kdN
    rw [if_neg (by omega), if_neg (by omega), q1.1, n_cl (by omega)]
  have h2 : k = 2 → 1 ≤ p := fun e => (q1.2.2.2.2.2.2.2.2.1 e).1
  exact ⟨k, p, ga2, c3, c4, k6, hp, h2, hk, q1.1, e0, q1.2.1, e1, by omega, by omega⟩
theorem rkN_ev {a1 a2 : Nat} (hv : EVb (σ1.2.2 28) (σ2.2.2 28) a1 a2) : rkN (σ2.2.2 28) a2 = rkN (σ1.2.2 28) a1 := by
  unfold rkN
  rcases EVb_3 hv with ⟨z1, z2⟩ | ⟨z1, z2⟩
  · rw [z2, if_pos z1, if_pos z1]
  · rw [if_neg (by omega), if_neg (by omega), show σ2.2.2 28 a2 = σ1.2.2 28 a1 from EVb_hd hv z1 (i := 0) (by omega)]
theorem k56 {k : Nat} (h : k ≤ 6) : (nI k = (5 : Int32) ↔ k = 5) ∧ (nI k = (6 : Int32) ↔ k = 6) ∧ (nI k = (2 : Int32) ↔ k = 2) := ⟨n_eq (q := 5) (by omega) (by decide), n_eq (q := 6) (by omega) (by decide), n_eq (q := 2) (by omega) (by decide)⟩
theorem htN_ch (hS : HS g1 l1 B1 h1 σ1) {a p i m : Nat} (ga : g1 a) (hk : 5 ≤ kdN (σ1.2.2 28) a) (hp : σ1.2.2 28 (a + 1) = nI p) (hp2 : p ≤ 3996) (hi : i < p) (hm : σ1.2.2 28 (a + 4 + i) = nI m) (hmb : m < 1740000) : (m < 3 ∨ g1 m) ∧ htN (σ1.2.2 28) m < htN (σ1.2.2 28) a := by
  obtain ⟨k, n, s, t, q1, q2, q3⟩ := HS_at hS ga
  have k6 := q1.2.2.2.2.1
  have hn := q1.2.2.2.2.2.2.2.1
  have h7 := q1.2.2.2.2.2.2.1
  have hb := HS_b hS
  have en : n = p := (n_eq (by omega) (by omega)).mp (q1.2.1.symm.trans hp)
  subst en
  have hk2 : kdN (σ1.2.2 28) a = k := by
    unfold kdN
    rw [if_neg (by omega), if_neg (by omega), q1.1, n_cl (by omega)]
  have hta : htN (σ1.2.2 28) a = t := by
    unfold htN
    rw [if_neg (by omega), q1.2.2.2.1, n_cl (by omega)]
  obtain ⟨m', m1, m2, m3⟩ := (q1.2.2.2.2.2.2.2.2.2.2.2 (by omega)).2 i hi
  have hm' := HS_vb hS m2
  have e : m' = m := (n_eq (by omega) (by omega)).mp (m1.symm.trans hm)
  subst e
  exact ⟨m2, by omega⟩
/-- values that hold the same compare as 0 -/
theorem z_cmp (hS : HS g1 l1 B1 h1 σ1) : ∀ (n d a b : Nat) (L : Nat → Int32), (a < 3 ∨ g1 a) → (b < 3 ∨ g1 b) → EVb (σ1.2.2 28) (σ1.2.2 28) a b → htN (σ1.2.2 28) a ≤ d → L 1 = nI a → L 2 = nI b → Pm n (fun k => x_GC k d 0 0 L σ1) (fun k => x_GC k d 0 0 L σ1) (fun r1 r2 => r1.1 = 0 ∧ r2.1 = 0) := by
  intro n
  induction n using Nat.strongRecOn with
  | ind n ih =>
  intro d a b L ha hb hv hd e1 e2
  have ba := HS_vb hS ha
  have bb := HS_vb hS hb
  refine Pm_suc rfl (fun k => e_compare_0 k _ _ _) (fun k => e_compare_0 k _ _ _) (fun m1 hm1 => ?_)
  rw [e1, e2]
  refine Pm_ite Iff.rfl (fun _ _ => Pm_some ⟨rfl, rfl⟩) (fun hne _ => ?_)
  rw [n_eq (by omega) (by omega)] at hne
  refine Pm_suc rfl (fun k => e_compare_1 k _ _ _) (fun k => e_compare_1 k _ _ _) (fun m2 hm2 => ?_)
  refine Pm_ob (Pm_t2 (s_rank hS ha (by exact e1)) (fun k => f_rank k _ _ _) (s_rank hS ha (by exact e1)) (fun k => f_rank k _ _ _)) (fun r1 r2 hr => ?_)
  rw [hr.1, hr.2]
  refine Pm_ob (Pm_t2 (s_rank hS hb (by exact e2)) (fun k => f_rank k _ _ _) (s_rank hS hb (by exact e2)) (fun k => f_rank k _ _ _)) (fun s1 s2 hs => ?_)
  rw [hs.1, hs.2]
  have hrk : rkN (σ1.2.2 28) b = rkN (σ1.2.2 28) a := rkN_ev hv
  rw [hrk]
  refine Pm_ite Iff.rfl (fun _ _ => ?_) (fun w _ => absurd (Int32.sub_self _) w)
  have ga : g1 a := by
    rcases ha with z | z
    · rcases EVb_3 hv with y | y
      · exact absurd y.2.symm hne
      · omega
    · exact z
  obtain ⟨k, p, gb, a3, b3, k6, hp, k2, kk, ka, kb, pa, pb, qa, qb⟩ := EVb_ob hS hS ga hv hb
  generalize hM : upd L 3 (nI (rkN (σ1.2.2 28) a) - nI (rkN (σ1.2.2 28) a)) = M
  have q1 : M 1 = nI a := by rw [← hM]; exact e1
  have q2 : M 2 = nI b := by rw [← hM]; exact e2
  refine Pm_suc rfl (fun k => e_compare_2 k _ _ _) (fun k => e_compare_2 k _ _ _) (fun m3 hm3 => ?_)
  rw [q1, n_cl (p := a) (by omega), ka]
  refine Pm_chk (fun _ _ => ?_)
  obtain ⟨i5, i6, i2⟩ := k56 k6.2
  refine Pm_ite Iff.rfl (fun z _ => ?_) (fun z _ => ?_)
  · have z := i2.mp z
    have nr : ¬ (σ1.2.2 28 a = nI 5 ∨ σ1.2.2 28 a = nI 6) := by
      rw [ka]
      intro y
      rcases y with y | y
      · exact absurd (i5.mp y) (by omega)
      · exact absurd (i6.mp y) (by omega)
    refine Pm_ob (Pm_mono (z_compareWholes hS pa pb hp (k2 z) qa qb (fun i hi => EVb_raw hv a3 nr pa hp hi) rfl (by exact q2)) (fun r1 r2 h => h)) (fun r1 r2 hr => ?_)
    exact Pm_some hr
  refine Pm_suc rfl (fun k => e_compare_3 k _ _ _) (fun k => e_compare_3 k _ _ _) (fun m4 hm4 => ?_)
  rw [show upd M 4 (nI k) 1 = nI a from q1, show upd M 4 (nI k) 2 = nI b from q2, n_add1, n_add1, n_cl (p := a + 1) (by omega), n_cl (p := b + 1) (by omega), pa, pb]
  refine Pm_chk (fun _ _ => ?_)
  refine Pm_chk (fun _ _ => ?_)
  have lp : ∀ (m i : Nat) (N : Nat → Int32), m < n → i ≤ p → N 1 = nI a → N 2 = nI b → N 4 = nI k → N 5 = nI p → N 6 = nI p → N 7 = nI i → Pm m (fun k => x_GC k d 0 4 N σ1) (fun k => x_GC k d 0 4 N σ1) (fun r1 r2 => r1.1 = 0 ∧ r2.1 = 0) := by
    intro m
    induction m using Nat.strongRecOn with
    | ind m ihm =>
    intro i N hm hi n1 n2 n4 n5 n6 n7
    have b9 : ∀ m', Pm m' (fun k => x_GC k d 0 9 N σ1) (fun k => x_GC k d 0 9 N σ1) (fun r1 r2 => r1.1 = 0 ∧ r2.1 = 0) := fun m' => by
      refine Pm_suc rfl (fun k => e_compare_9 k _ _ _) (fun k => e_compare_9 k _ _ _) (fun m'' _ => ?_)
      rw [n5, n6, Int32.sub_self]
      exact Pm_some ⟨rfl, rfl⟩
    have b7 : ∀ (m' : Nat), m' < m → i < p → Pm m' (fun k => x_GC k d 0 7 (upd N 100 0) σ1) (fun k => x_GC k d 0 7 (upd N 100 0) σ1) (fun r1 r2 => r1.1 = 0 ∧ r2.1 = 0) := by
      intro m' hm' hip
      refine Pm_suc rfl (fun k => e_compare_7 k _ _ _) (fun k => e_compare_7 k _ _ _) (fun m1 h1 => ?_)
      refine Pm_ite Iff.rfl (fun _ _ => ?_) (fun w _ => absurd upd_same w)
      refine Pm_suc rfl (fun k => e_compare_8 k _ _ _) (fun k => e_compare_8 k _ _ _) (fun m2 h2 => ?_)
      exact ihm m2 (by omega) (i + 1) _ (by omega) (by omega) n1 n2 n4 n5 n6 (by show N 7 + 1 = _; rw [n7, n_add1])
    refine Pm_suc rfl (fun k => e_compare_4 k _ _ _) (fun k => e_compare_4 k _ _ _) (fun m1 hm1 => ?_)
    rw [n4, n5, n6, n7]
    refine Pm_ite Iff.rfl (fun _ _ => b9 m1) (fun w _ => ?_)
    have hip : i < p := by
      by_cases q : p ≤ i
      · exact absurd ((n_le (by omega) (by omega)).mpr q) w
      · omega
    refine Pm_ite Iff.rfl (fun _ _ => b9 m1) (fun _ _ => ?_)
    have ev5 : k = 5 ∨ k = 6 → Pm m1 (fun k => x_GC k d 0 5 N σ1) (fun k => x_GC k d 0 5 N σ1) (fun r1 r2 => r1.1 = 0 ∧ r2.1 = 0) := fun hk => by
      obtain ⟨c, e, c1, c2, d1, d2, cd⟩ := EVb_mem hv a3 (by rw [ka]; exact hk.imp (fun y => by rw [y]) (fun y => by rw [y])) pa hp hip
      refine Pm_suc rfl (fun k => e_compare_5 k _ _ _) (fun k => e_compare_5 k _ _ _) (fun m2 hm2 => ?_)
      rw [n1, n2, n7, show nI a + 4 = nI (a + 4) from n_add (q := 4) (by omega), show nI b + 4 = nI (b + 4) from n_add (q := 4) (by omega), n_add (p := a + 4) (q := i) (by omega), n_add (p := b + 4) (q := i) (by omega), n_cl (p := a + 4 + i) (by omega), n_cl (p := b + 4 + i) (by omega), c1, d1]
      refine Pm_chk (fun _ _ => ?_)
      refine Pm_chk (fun _ _ => ?_)
      have kb' : kdN (σ1.2.2 28) b = k := ((EVb_sz hv).2.2).trans kk
      obtain ⟨m52, hch⟩ := htN_ch hS ga (by rw [kk]; omega) pa hp hip c1 c2
      obtain ⟨m62, _⟩ := htN_ch hS gb (by rw [kb']; omega) pb hp hip d1 d2
      obtain ⟨e0, he0⟩ : ∃ e0, d = e0 + 1 := ⟨d - 1, by omega⟩
      subst he0
      show Pm m2 (fun k => ob (x_GC k e0 0 0 (upd (upd (fun _ => 0) 1 (nI c)) 2 (nI e)) σ1) (fun r3 => x_GC k (e0 + 1) 0 7 (upd N 100 r3.1) r3.2)) (fun k => ob (x_GC k e0 0 0 (upd (upd (fun _ => 0) 1 (nI c)) 2 (nI e)) σ1) (fun r3 => x_GC k (e0 + 1) 0 7 (upd N 100 r3.1) r3.2)) _
      have un := s_cmpd hS e0 c e (upd (upd (fun _ => 0) 1 (nI c)) 2 (nI e)) m52 m62 (by omega) rfl rfl
      have mn : Mn (fun k => x_GC k e0 0 0 (upd (upd (fun _ => 0) 1 (nI c)) 2 (nI e)) σ1) := fun k => f_GC k _ _ _ _ _
      refine Pm_ob (Pm_un un mn un mn (ih m2 (by omega) e0 c e _ m52 m62 cd (by omega) rfl rfl)) (fun r1 r2 hr => ?_)
      obtain ⟨⟨hr0, hr0'⟩, hr1, hr2⟩ := hr
      rw [hr0, hr0', hr1, hr2]
      exact b7 m2 (by omega) hip
    have ev6 : ¬ (k = 5 ∨ k = 6) → Pm m1 (fun k => x_GC k d 0 6 N σ1) (fun k => x_GC k d 0 6 N σ1) (fun r1 r2 => r1.1 = 0 ∧ r2.1 = 0) := fun hk => by
      have nr : ¬ (σ1.2.2 28 a = nI 5 ∨ σ1.2.2 28 a = nI 6) := by
        rw [ka]
        exact fun y => hk (y.imp i5.mp i6.mp)
      have cr := EVb_raw hv a3 nr pa hp hip
      refine Pm_suc rfl (fun k => e_compare_6 k _ _ _) (fun k => e_compare_6 k _ _ _) (fun m2 hm2 => ?_)
      rw [n1, n2, n7, show nI a + 4 = nI (a + 4) from n_add (q := 4) (by omega), show nI b + 4 = nI (b + 4) from n_add (q := 4) (by omega), n_add (p := a + 4) (q := i) (by omega), n_add (p := b + 4) (q := i) (by omega), n_cl (p := a + 4 + i) (by omega), n_cl (p := b + 4 + i) (by omega), cr, Int32.sub_self]
      refine Pm_chk (fun _ _ => ?_)
      refine Pm_chk (fun _ _ => ?_)
      exact b7 m2 (by omega) hip
    refine Pm_ite Iff.rfl (fun y _ => ev5 (Or.inl (i5.mp y))) (fun y5 _ => ?_)
    refine Pm_ite Iff.rfl (fun y _ => ev5 (Or.inr (i6.mp y))) (fun y6 _ => ?_)
    exact ev6 (fun y => y.elim (fun q => y5 (i5.mpr q)) (fun q => y6 (i6.mpr q)))
  exact lp m4 0 _ (by omega) (Nat.zero_le _) q1 q2 rfl rfl rfl rfl
end KCV

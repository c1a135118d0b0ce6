/-! Two runs side by side (reference): comparing goes alike. -/
section KCW
variable {g1 g2 : Nat → Prop} {l1 l2 : List Nat} {B1 h1 B2 h2 : Nat} {σ1 σ2 : MS}
theorem n_sb {p q p' q' : Nat} (h1 : p' = p) (h2 : q' = q) : nI p - nI q = nI p' - nI q' := by rw [h1, h2]
theorem k_cmp (hS1 : HS g1 l1 B1 h1 σ1) (hS2 : HS g2 l2 B2 h2 σ2) : ∀ (n d a1 b1 a2 b2 : Nat) (L1 L2 : Nat → Int32), (a1 < 3 ∨ g1 a1) → (b1 < 3 ∨ g1 b1) → (a2 < 3 ∨ g2 a2) → (b2 < 3 ∨ g2 b2) → EVb (σ1.2.2 28) (σ2.2.2 28) a1 a2 → EVb (σ1.2.2 28) (σ2.2.2 28) b1 b2 → htN (σ1.2.2 28) a1 ≤ d → L1 1 = nI a1 → L1 2 = nI b1 → L2 1 = nI a2 → L2 2 = nI b2 → Pm n (fun k => x_GC k d 0 0 L1 σ1) (fun k => x_GC k d 0 0 L2 σ2) (fun r1 r2 => r1.1 = r2.1) := by
  intro n
  induction n using Nat.strongRecOn with
  | ind n ih =>
  intro d a1 b1 a2 b2 L1 L2 ha1 hb1 ha2 hb2 va vb hd e1 e2 f1 f2
  have ba1 := HS_vb hS1 ha1
  have bb1 := HS_vb hS1 hb1
  have ba2 := HS_vb hS2 ha2
  have bb2 := HS_vb hS2 hb2
  have hd2 : htN (σ2.2.2 28) a2 ≤ d := by rw [(EVb_sz va).2.1]; exact hd
  by_cases c1 : a1 = b1
  · -- one place on the left
    subst c1
    have hv2 : EVb (σ2.2.2 28) (σ2.2.2 28) a2 b2 := EVb_tr (EVb_sy va) vb
    intro k hk r1 r2 q1 q2
    have z2 := z_cmp hS2 n d a2 b2 L2 ha2 hb2 hv2 hd2 f1 f2 k hk r2 r2 q2 q2
    have z1 := z_cmp hS1 n d a1 a1 L1 ha1 ha1 (EVb_gr hS1.2.2.2.2 (HS_b hS1).2 (fun _ _ _ => rfl) ha1) hd e1 e2 k hk r1 r1 q1 q1
    rw [z1.1, z2.1]
  by_cases c2 : a2 = b2
  · subst c2
    have hv1 : EVb (σ1.2.2 28) (σ1.2.2 28) a1 b1 := EVb_tr va (EVb_sy vb)
    intro k hk r1 r2 q1 q2
    have z1 := z_cmp hS1 n d a1 b1 L1 ha1 hb1 hv1 hd e1 e2 k hk r1 r1 q1 q1
    have z2 := z_cmp hS2 n d a2 a2 L2 ha2 ha2 (EVb_gr hS2.2.2.2.2 (HS_b hS2).2 (fun _ _ _ => rfl) ha2) hd2 f1 f2 k hk r2 r2 q2 q2
    rw [z1.1, z2.1]
  refine Pm_suc rfl (fun k => e_compare_0 k _ _ _) (fun k => e_compare_0 k _ _ _) (fun m1 hm1 => ?_)
  rw [e1, e2, f1, f2]
  refine Pm_ite ⟨fun z => absurd ((n_eq (by omega) (by omega)).mp z) c1, fun z => absurd ((n_eq (by omega) (by omega)).mp z) c2⟩ (fun z _ => absurd ((n_eq (by omega) (by omega)).mp z) c1) (fun _ _ => ?_)
  refine Pm_suc rfl (fun k => e_compare_1 k _ _ _) (fun k => e_compare_1 k _ _ _) (fun m2 hm2 => ?_)
  refine Pm_ob (Pm_t2 (s_rank hS1 ha1 (by exact e1)) (fun k => f_rank k _ _ _) (s_rank hS2 ha2 (by exact f1)) (fun k => f_rank k _ _ _)) (fun r1 r2 hr => ?_)
  rw [hr.1, hr.2]
  refine Pm_ob (Pm_t2 (s_rank hS1 hb1 (by exact e2)) (fun k => f_rank k _ _ _) (s_rank hS2 hb2 (by exact f2)) (fun k => f_rank k _ _ _)) (fun s1 s2 hs => ?_)
  rw [hs.1, hs.2]
  rw [rkN_ev va, rkN_ev vb]
  have rb : ∀ m, (m < 3 ∨ g1 m) → rkN (σ1.2.2 28) m ≤ 7 ∧ (m < 3 → rkN (σ1.2.2 28) m = m) ∧ (¬ m < 3 → 3 ≤ rkN (σ1.2.2 28) m) := fun m hm => by
    unfold rkN
    by_cases c : m < 3
    · rw [if_pos c]; exact ⟨by omega, fun _ => rfl, fun z => absurd c z⟩
    · rw [if_neg c]
      obtain ⟨k, _, _, _, q, _, _⟩ := HS_at hS1 (hm.resolve_left c)
      have hk := q.2.2.2.2.1
      rw [q.1, n_cl (by omega)]
      exact ⟨by omega, fun z => absurd z c, fun _ => by omega⟩
  obtain ⟨ra1, ra2, ra3⟩ := rb a1 ha1
  obtain ⟨rb1, rb2, rb3⟩ := rb b1 hb1
  refine Pm_ite Iff.rfl (fun z _ => ?_) (fun _ _ => Pm_some rfl)
  have z := (n_sub0 (by omega) (by omega)).mp z
  have ca : ¬ a1 < 3 := fun c => by
    have y1 := ra2 c
    by_cases c2 : b1 < 3
    · have y2 := rb2 c2; omega
    · have y2 := rb3 c2; omega
  have cb : ¬ b1 < 3 := fun c => by
    have y1 := rb2 c
    have y2 := ra3 ca
    omega
  obtain ⟨k, p, ga2, a13, a23, k6, hp, k2, kk, ka1, ka2, pa1, pa2, qa1, qa2⟩ := EVb_ob hS1 hS2 (ha1.resolve_left ca) va ha2
  obtain ⟨k', p', gb2, b13, b23, k6', hp', k2', kk', kb1, kb2, pb1, pb2, qb1, qb2⟩ := EVb_ob hS1 hS2 (hb1.resolve_left cb) vb hb2
  have ga1 := ha1.resolve_left ca
  have gb1 := hb1.resolve_left cb
  have ek : k' = k := by
    unfold rkN at z
    rw [if_neg ca, if_neg cb, ka1, kb1, n_cl (by omega), n_cl (by omega)] at z
    omega
  subst ek
  generalize hM1 : upd L1 3 (nI (rkN (σ1.2.2 28) a1) - nI (rkN (σ1.2.2 28) b1)) = M1
  generalize hM2 : upd L2 3 (nI (rkN (σ1.2.2 28) a1) - nI (rkN (σ1.2.2 28) b1)) = M2
  have q11 : M1 1 = nI a1 := by rw [← hM1]; exact e1
  have q12 : M1 2 = nI b1 := by rw [← hM1]; exact e2
  have q21 : M2 1 = nI a2 := by rw [← hM2]; exact f1
  have q22 : M2 2 = nI b2 := by rw [← hM2]; exact f2
  refine Pm_suc rfl (fun k => e_compare_2 k _ _ _) (fun k => e_compare_2 k _ _ _) (fun m3 hm3 => ?_)
  rw [q11, q21, n_cl (p := a1) (by omega), n_cl (p := a2) (by omega), ka1, ka2]
  refine Pm_chk (fun _ _ => ?_)
  obtain ⟨i5, i6, i2⟩ := k56 k6.2
  refine Pm_ite Iff.rfl (fun z _ => ?_) (fun z _ => ?_)
  · have z := i2.mp z
    have nra : ¬ (σ1.2.2 28 a1 = nI 5 ∨ σ1.2.2 28 a1 = nI 6) := by
      rw [ka1]
      intro y
      rcases y with y | y
      · exact absurd (i5.mp y) (by omega)
      · exact absurd (i6.mp y) (by omega)
    have nrb : ¬ (σ1.2.2 28 b1 = nI 5 ∨ σ1.2.2 28 b1 = nI 6) := by
      rw [kb1, ← ka1]; exact nra
    refine Pm_ob (k_compareWholes hS1 hS2 pa1 pa2 pb1 pb2 hp hp' (k2 z) (k2' z) qa1 qa2 qb1 qb2 (fun i hi => EVb_raw va a13 nra pa1 hp hi) (fun i hi => EVb_raw vb b13 nrb pb1 hp' hi) rfl (by exact q12) rfl (by exact q22)) (fun r1 r2 hr => ?_)
    exact Pm_some hr
  refine Pm_suc rfl (fun k => e_compare_3 k _ _ _) (fun k => e_compare_3 k _ _ _) (fun m4 hm4 => ?_)
  rw [show upd M1 4 (nI k') 1 = nI a1 from q11, show upd M1 4 (nI k') 2 = nI b1 from q12, show upd M2 4 (nI k') 1 = nI a2 from q21, show upd M2 4 (nI k') 2 = nI b2 from q22, n_add1, n_add1, n_add1, n_add1, n_cl (p := a1 + 1) (by omega), n_cl (p := b1 + 1) (by omega), n_cl (p := a2 + 1) (by omega), n_cl (p := b2 + 1) (by omega), pa1, pb1, pa2, pb2]
  refine Pm_chk (fun _ _ => ?_)
  refine Pm_chk (fun _ _ => ?_)
  have lp : ∀ (m i : Nat) (N1 N2 : Nat → Int32), m < n → i ≤ p → N1 1 = nI a1 → N1 2 = nI b1 → N1 4 = nI k' → N1 5 = nI p → N1 6 = nI p' → N1 7 = nI i → N2 1 = nI a2 → N2 2 = nI b2 → N2 4 = nI k' → N2 5 = nI p → N2 6 = nI p' → N2 7 = nI i → Pm m (fun k => x_GC k d 0 4 N1 σ1) (fun k => x_GC k d 0 4 N2 σ2) (fun r1 r2 => r1.1 = r2.1) := by
    intro m
    induction m using Nat.strongRecOn with
    | ind m ihm =>
    intro i N1 N2 hm hi n1 n2 n4 n5 n6 n7 o1 o2 o4 o5 o6 o7
    have b9 : ∀ m', Pm m' (fun k => x_GC k d 0 9 N1 σ1) (fun k => x_GC k d 0 9 N2 σ2) (fun r1 r2 => r1.1 = r2.1) := fun m' => by
      refine Pm_suc rfl (fun k => e_compare_9 k _ _ _) (fun k => e_compare_9 k _ _ _) (fun m'' _ => ?_)
      rw [n5, n6, o5, o6]
      exact Pm_some rfl
    have b7 : ∀ (m' : Nat) (x : Int32), m' < m → i < p → Pm m' (fun k => x_GC k d 0 7 (upd N1 100 x) σ1) (fun k => x_GC k d 0 7 (upd N2 100 x) σ2) (fun r1 r2 => r1.1 = r2.1) := by
      intro m' x hm' hip
      refine Pm_suc rfl (fun k => e_compare_7 k _ _ _) (fun k => e_compare_7 k _ _ _) (fun m1 h1 => ?_)
      refine Pm_ite Iff.rfl (fun _ _ => ?_) (fun _ _ => Pm_some rfl)
      refine Pm_suc rfl (fun k => e_compare_8 k _ _ _) (fun k => e_compare_8 k _ _ _) (fun m2 h2 => ?_)
      exact ihm m2 (by omega) (i + 1) _ _ (by omega) (by omega) n1 n2 n4 n5 n6 (by show N1 7 + 1 = _; rw [n7, n_add1]) o1 o2 o4 o5 o6 (by show N2 7 + 1 = _; rw [o7, n_add1])
    refine Pm_suc rfl (fun k => e_compare_4 k _ _ _) (fun k => e_compare_4 k _ _ _) (fun m1 hm1 => ?_)
    rw [n4, n5, n6, n7, o4, o5, o6, o7]
    refine Pm_ite Iff.rfl (fun _ _ => b9 m1) (fun w _ => ?_)
    have hip : i < p := by
      by_cases q : p ≤ i
      · exact absurd ((n_le (by omega) (by omega)).mpr q) w
      · omega
    refine Pm_ite Iff.rfl (fun _ _ => b9 m1) (fun w' _ => ?_)
    have hip' : i < p' := by
      by_cases q : p' ≤ i
      · exact absurd ((n_le (by omega) (by omega)).mpr q) w'
      · omega
    have ev5 : k' = 5 ∨ k' = 6 → Pm m1 (fun k => x_GC k d 0 5 N1 σ1) (fun k => x_GC k d 0 5 N2 σ2) (fun r1 r2 => r1.1 = r2.1) := fun hk => by
      obtain ⟨c, e, y1, y2, y3, y4, cd⟩ := EVb_mem va a13 (by rw [ka1]; exact hk.imp (fun y => by rw [y]) (fun y => by rw [y])) pa1 hp hip
      obtain ⟨c', e', x1, x2, x3, x4, cd'⟩ := EVb_mem vb b13 (by rw [kb1]; exact hk.imp (fun y => by rw [y]) (fun y => by rw [y])) pb1 hp' hip'
      refine Pm_suc rfl (fun k => e_compare_5 k _ _ _) (fun k => e_compare_5 k _ _ _) (fun m2 hm2 => ?_)
      rw [n1, n2, n7, o1, o2, o7, show nI a1 + 4 = nI (a1 + 4) from n_add (q := 4) (by omega), show nI b1 + 4 = nI (b1 + 4) from n_add (q := 4) (by omega), show nI a2 + 4 = nI (a2 + 4) from n_add (q := 4) (by omega), show nI b2 + 4 = nI (b2 + 4) from n_add (q := 4) (by omega), n_add (p := a1 + 4) (q := i) (by omega), n_add (p := b1 + 4) (q := i) (by omega), n_add (p := a2 + 4) (q := i) (by omega), n_add (p := b2 + 4) (q := i) (by omega), n_cl (p := a1 + 4 + i) (by omega), n_cl (p := b1 + 4 + i) (by omega), n_cl (p := a2 + 4 + i) (by omega), n_cl (p := b2 + 4 + i) (by omega), y1, y3, x1, x3]
      refine Pm_chk (fun _ _ => ?_)
      refine Pm_chk (fun _ _ => ?_)
      have ka' : kdN (σ2.2.2 28) a2 = k' := ((EVb_sz va).2.2).trans kk
      have kb' : kdN (σ2.2.2 28) b2 = k' := ((EVb_sz vb).2.2).trans kk'
      obtain ⟨u1, hch⟩ := htN_ch hS1 ga1 (by rw [kk]; omega) pa1 hp hip y1 y2
      obtain ⟨u2, _⟩ := htN_ch hS1 gb1 (by rw [kk']; omega) pb1 hp' hip' x1 x2
      obtain ⟨u3, _⟩ := htN_ch hS2 ga2 (by rw [ka']; omega) pa2 hp hip y3 y4
      obtain ⟨u4, _⟩ := htN_ch hS2 gb2 (by rw [kb']; omega) pb2 hp' hip' x3 x4
      obtain ⟨e0, he0⟩ : ∃ e0, d = e0 + 1 := ⟨d - 1, by omega⟩
      subst he0
      show Pm m2 (fun k => ob (x_GC k e0 0 0 (upd (upd (fun _ => 0) 1 (nI c)) 2 (nI c')) σ1) (fun r3 => x_GC k (e0 + 1) 0 7 (upd N1 100 r3.1) r3.2)) (fun k => ob (x_GC k e0 0 0 (upd (upd (fun _ => 0) 1 (nI e)) 2 (nI e')) σ2) (fun r3 => x_GC k (e0 + 1) 0 7 (upd N2 100 r3.1) r3.2)) _
      have un1 := s_cmpd hS1 e0 c c' (upd (upd (fun _ => 0) 1 (nI c)) 2 (nI c')) u1 u2 (by omega) rfl rfl
      have un2 := s_cmpd hS2 e0 e e' (upd (upd (fun _ => 0) 1 (nI e)) 2 (nI e')) u3 u4 (by rw [(EVb_sz cd).2.1]; omega) rfl rfl
      refine Pm_ob (Pm_un un1 (fun k => f_GC k _ _ _ _ _) un2 (fun k => f_GC k _ _ _ _ _) (ih m2 (by omega) e0 c c' e e' _ _ u1 u2 u3 u4 cd cd' (by omega) rfl rfl rfl rfl)) (fun r1 r2 hr => ?_)
      obtain ⟨hr0, hr1, hr2⟩ := hr
      rw [hr0, hr1, hr2]
      exact b7 m2 _ (by omega) hip
    have ev6 : ¬ (k' = 5 ∨ k' = 6) → Pm m1 (fun k => x_GC k d 0 6 N1 σ1) (fun k => x_GC k d 0 6 N2 σ2) (fun r1 r2 => r1.1 = r2.1) := fun hk => by
      have nra : ¬ (σ1.2.2 28 a1 = nI 5 ∨ σ1.2.2 28 a1 = nI 6) := by
        rw [ka1]
        exact fun y => hk (y.imp i5.mp i6.mp)
      have nrb : ¬ (σ1.2.2 28 b1 = nI 5 ∨ σ1.2.2 28 b1 = nI 6) := by
        rw [kb1, ← ka1]; exact nra
      have cra := EVb_raw va a13 nra pa1 hp hip
      have crb := EVb_raw vb b13 nrb pb1 hp' hip'
      refine Pm_suc rfl (fun k => e_compare_6 k _ _ _) (fun k => e_compare_6 k _ _ _) (fun m2 hm2 => ?_)
      rw [n1, n2, n7, o1, o2, o7, show nI a1 + 4 = nI (a1 + 4) from n_add (q := 4) (by omega), show nI b1 + 4 = nI (b1 + 4) from n_add (q := 4) (by omega), show nI a2 + 4 = nI (a2 + 4) from n_add (q := 4) (by omega), show nI b2 + 4 = nI (b2 + 4) from n_add (q := 4) (by omega), n_add (p := a1 + 4) (q := i) (by omega), n_add (p := b1 + 4) (q := i) (by omega), n_add (p := a2 + 4) (q := i) (by omega), n_add (p := b2 + 4) (q := i) (by omega), n_cl (p := a1 + 4 + i) (by omega), n_cl (p := b1 + 4 + i) (by omega), n_cl (p := a2 + 4 + i) (by omega), n_cl (p := b2 + 4 + i) (by omega), cra, crb]
      refine Pm_chk (fun _ _ => ?_)
      refine Pm_chk (fun _ _ => ?_)
      exact b7 m2 _ (by omega) hip
    refine Pm_ite Iff.rfl (fun y _ => ev5 (Or.inl (i5.mp y))) (fun y5 _ => ?_)
    refine Pm_ite Iff.rfl (fun y _ => ev5 (Or.inr (i6.mp y))) (fun y6 _ => ?_)
    exact ev6 (fun y => y.elim (fun q => y5 (i5.mpr q)) (fun q => y6 (i6.mpr q)))
  exact lp m4 0 _ _ (by omega) (Nat.zero_le _) q11 q12 rfl rfl rfl rfl q21 q22 rfl rfl rfl rfl
theorem k_compare (hS1 : HS g1 l1 B1 h1 σ1) (hS2 : HS g2 l2 B2 h2 σ2) {n a1 b1 a2 b2 : Nat} {L1 L2 : Nat → Int32} (ha1 : a1 < 3 ∨ g1 a1) (hb1 : b1 < 3 ∨ g1 b1) (ha2 : a2 < 3 ∨ g2 a2) (hb2 : b2 < 3 ∨ g2 b2) (va : EVb (σ1.2.2 28) (σ2.2.2 28) a1 a2) (vb : EVb (σ1.2.2 28) (σ2.2.2 28) b1 b2) (e1 : L1 1 = nI a1) (e2 : L1 2 = nI b1) (f1 : L2 1 = nI a2) (f2 : L2 2 = nI b2) : Pm n (fun k => x_compare k 0 L1 σ1) (fun k => x_compare k 0 L2 σ2) (fun r1 r2 => r1.1 = r2.1 ∧ r1.2 = σ1 ∧ r2.2 = σ2) :=
  Pm_un (s_compareV hS1 ha1 hb1 e1 e2) (fun k => f_compare k _ _ _) (s_compareV hS2 ha2 hb2 f1 f2) (fun k => f_compare k _ _ _) (k_cmp hS1 hS2 n 40 a1 b1 a2 b2 L1 L2 ha1 hb1 ha2 hb2 va vb (by have := (szN_b hS1 ha1).2.2; omega) e1 e2 f1 f2)
end KCW

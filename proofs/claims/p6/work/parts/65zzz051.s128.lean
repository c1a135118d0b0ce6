/-! Parts and images are written (reference). -/
section PTA
variable {g : Nat → Prop} {l : List Nat} {B h t : Nat} {σ : MS}
theorem PuS_PuH {n : Nat} {τ : MS} (hU : PuS g t n σ τ) (hS : HS g l B h σ) (hE : ErB σ) : PuH g B h t n σ τ g l h :=
  ⟨⟨PuS_HS hU hS, fun _ z => z, Nat.le_refl _, fun i _ _ => by rw [hU.2.1 28 (by decide)]⟩, PuS_FW hU, hU.2.2.2.1, hU.2.2.2.2, ErB_c (hU.1 56 (by decide)) hE, fun z => by rw [hU.1 56 (by decide)]; exact z⟩
theorem s_pairW {u : Nat} (hS : HS g l B h σ) (hE : ErB σ) (h59 : σ.1 59 = nI u) (hu : u + 2 ≤ 185000) {v x : Nat} (hv : v < 3 ∨ g v) (hx : x < 3 ∨ g x) {L : Nat → Int32} (h1 : L 1 = nI v) (h2 : L 2 = nI x) : Tm (fun k => x_pair k 0 L σ) (VO g B h u σ) := by
  refine Tm_suc (fun k => by rw [x_pair]) ?_
  refine Tm_ob (PuS_push (PuS_0 h59) (by omega) hv (by exact h1)) (fun r hr => ?_)
  refine Tm_ob (PuS_push hr (by omega) hx (by exact h2)) (fun s hs => ?_)
  exact Tm_ob (PuS_tup hs hS hE (by omega) (by exact h59)) (fun u hu => Tm_some hu)
theorem VO_59 {r : Int32 × MS} {u : Nat} (hr : VO g B h u σ r) : r.2.1 59 = nI u := by
  obtain ⟨_, _, _, _, _, e, _⟩ := hr
  exact e
theorem s_putAt (hP : VP g l B h t σ) {v a x : Nat} (hv : v < 3 ∨ g v) (ha : a < 3 ∨ g a) (hx : x < 3 ∨ g x) {L : Nat → Int32} (h1 : L 1 = nI v) (h2 : L 2 = nI a) (h3 : L 3 = nI x) : Tm (fun k => x_putAt k 0 L σ) (VQ g B h t 1000 σ) := by
  have hS := hP.1
  have hb := HS_b hS
  have hB := hS.2.1
  have ht := hP.2.2.1
  have kv := kdN_6 hS hv
  have ka := kdN_6 hS ha
  have kx := kdN_6 hS hx
  have b2 : ∀ N : Nat → Int32, Tm (fun k => x_putAt k 2 N σ) (VQ g B h t 1000 σ) := fun N => by
    refine Tm_suc (fun k => by rw [x_putAt]) ?_
    exact Tm_ob (s_wrongKind _) (fun r hr => Tm_some (VQ_of (VO_wk hP hr)))
  have b4 : ∀ N : Nat → Int32, Tm (fun k => x_putAt k 4 N σ) (VQ g B h t 1000 σ) := fun N => by
    refine Tm_suc (fun k => by rw [x_putAt]) ?_
    refine Tm_ob (s_fail _ σ) (fun r hr => ?_)
    rw [hr]
    exact Tm_some (VQ_of (VO_er hP (e := 4) (by decide)))
  -- a string or a tuple
  have b3 : (kdN (σ.2.2 28) v = 4 ∨ kdN (σ.2.2 28) v = 5) → kdN (σ.2.2 28) a = 2 → (kdN (σ.2.2 28) v = 4 → kdN (σ.2.2 28) x = 4 ∧ σ.2.2 28 (x + 1) = nI 1) → ∀ N : Nat → Int32, N 1 = nI v → N 2 = nI a → N 3 = nI x → N 4 = nI (kdN (σ.2.2 28) v) → Tm (fun k => x_putAt k 3 N σ) (VQ g B h t 1000 σ) := by
    intro hk hka hkx N n1 n2 n3 n4
    have gv := kdN_ge hS hv (by omega)
    obtain ⟨n, v1, v2, v3, v4, v5, v6, v7⟩ := ob_at hS gv
    obtain ⟨m, hm⟩ := Wh_of hS ha hka
    have b5 : ∀ (p : Nat) (N : Nat → Int32), 1 ≤ p → p ≤ 100001 → (kdN (σ.2.2 28) v = 4 → p ≤ n + 1) → N 1 = nI v → N 3 = nI x → N 4 = nI (kdN (σ.2.2 28) v) → N 5 = nI p → N 6 = nI n → Tm (fun k => x_putAt k 5 N σ) (VQ g B h t 1000 σ) := by
      intro p N hp1 hp hp4 n1 n3 n4 n5 n6
      refine Tm_suc (fun k => by rw [x_putAt]) ?_
      rw [n4]
      refine Tm_ite (fun w => ?_) (fun w => ?_)
      · have w := (n_eq (q := 4) (by omega) (by decide)).mp w
        have hp4 := hp4 w
        obtain ⟨kx4, x1⟩ := hkx w
        obtain ⟨c, c1, c2, c3, c4, -, -, -⟩ := ob_at hS (kdN_ge hS hx (by omega))
        have ec : c = 1 := (n_eq (by omega) (by omega)).mp (c1.symm.trans x1)
        subst ec
        have b11 : ∀ (d : Nat) (N : Nat → Int32) (τ : MS), d ≤ n + 1 → N 100 = nI d → N 101 = nI 0 → BF σ τ → Tm (fun k => x_putAt k 11 N τ) (VQ g B h t 1000 σ) := fun d N τ hd m100 m101 hF => by
          refine Tm_suc (fun k => by rw [x_putAt]) ?_
          exact Tm_ob (s_stringOf51 (BF_VP hF hP) (f := 0) (n := d) (by omega) (fun _ => by omega) (by exact m101) (by exact m100)) (fun r hr => Tm_some (VQ_of (BF_VO hF hP hr)))
        have b6 : ∀ (q i : Nat) (N : Nat → Int32) (τ : MS), q + i = n → N 1 = nI v → N 3 = nI x → N 5 = nI p → N 6 = nI n → N 7 = nI i → BF σ τ → Tm (fun k => x_putAt k 6 N τ) (VQ g B h t 1000 σ) := by
          intro q
          induction q with
          | zero =>
            intro i N τ hi n1 n3 n5 n6 n7 hF
            refine Tm_suc (fun k => by rw [x_putAt]) ?_
            rw [n6, n7]
            refine Tm_ite (fun _ => ?_) (fun w => absurd ((n_le (by omega) (by omega)).mpr (by omega)) w)
            refine Tm_suc (fun k => by rw [x_putAt]) ?_
            rw [n3, n5, show nI x + 4 = nI (x + 4) from n_add (q := 4) (by omega), show nI p - 1 = nI (p - 1) from n_sub (p := p) (q := 1) (by omega) (by omega)]
            refine Tm_chk (n_in (by omega) (by omega)) ?_
            refine Tm_chk (n_in (by omega) (by omega)) ?_
            rw [n_cl (p := p - 1) (by omega)]
            show Tm (fun k => x_putAt k 9 N (mAr τ 51 (p - 1) (τ.2.2 28 (nI (x + 4)).toNatClampNeg))) _
            refine Tm_suc (fun k => by rw [x_putAt]) ?_
            refine Tm_ite (fun _ => ?_) (fun _ => ?_)
            · refine Tm_suc (fun k => by rw [x_putAt]) ?_
              exact b11 n _ _ (by omega) n6 rfl (BF_51 hF)
            · exact b11 (n + 1) _ _ (by omega) (by show N 6 + 1 = _; rw [n6, n_add1]) rfl (BF_51 hF)
          | succ q ih =>
            intro i N τ hi n1 n3 n5 n6 n7 hF
            refine Tm_suc (fun k => by rw [x_putAt]) ?_
            rw [n6, n7, n1, show nI v + 4 = nI (v + 4) from n_add (q := 4) (by omega), n_add (by omega)]
            refine Tm_ite (fun w => absurd ((n_le (by omega) (by omega)).mp w) (by omega)) (fun _ => ?_)
            refine Tm_chk (n_in (by omega) (by omega)) ?_
            refine Tm_chk (n_in (by omega) (by omega)) ?_
            rw [n_cl (p := i) (by omega)]
            show Tm (fun k => x_putAt k 7 N (mAr τ 51 i (τ.2.2 28 (nI (v + 4 + i)).toNatClampNeg))) _
            refine Tm_suc (fun k => by rw [x_putAt]) ?_
            exact ih (i + 1) _ _ (by omega) n1 n3 n5 n6 (by show N 7 + 1 = _; rw [n7, n_add1]) (BF_51 hF)
        exact b6 n 0 _ _ (by omega) n1 n3 n5 n6 rfl BF_rf
      · have hk5 : 5 ≤ kdN (σ.2.2 28) v := by
          rcases hk with e | e
          · exact absurd (by rw [e]; rfl) w
          · omega
        refine Tm_suc (fun k => by rw [x_putAt]) ?_
        exact Tm_ob (s_putPlace hP gv hk5 hp1 hp hx (by exact n1) (by exact n5) (by exact n3)) (fun r hr => Tm_some (VQ_of hr))
    refine Tm_suc (fun k => by rw [x_putAt]) ?_
    refine Tm_ob (s_intOf hS hm (b := 100000) (by decide) (by exact n2) rfl) (fun r hr => ?_)
    obtain ⟨r1, y, y1, y2, y3⟩ := hr
    rw [r1, n1, show nI v + 1 = nI (v + 1) from n_add1 v]
    refine Tm_chk (n_in (by omega) (by omega)) ?_
    rw [n_cl (p := v + 1) (by omega), v1, n4]
    refine Tm_ite (fun _ => b4 _) (fun z => ?_)
    have e1 : (1 : Int32).toInt = 1 := rfl
    have z1 : 1 ≤ r.1.toInt := by rw [i_lt, e1] at z; omega
    have ey := sg_pos y1 y2 (by omega)
    have hy1 : 1 ≤ y := by rw [ey, n_int (by omega)] at z1; omega
    refine Tm_ite (fun w => ?_) (fun w => ?_)
    · rw [ey, n_add1]
      refine Tm_ite (fun z => ?_) (fun _ => b4 _)
      have z := (n_le (by omega) (by omega)).mp z
      exact b5 y _ hy1 y1 (fun _ => z) n1 n3 n4 rfl rfl
    · refine b5 y _ hy1 y1 (fun e => absurd (by rw [e]; rfl) w) n1 n3 n4 ?_ rfl
      exact ey
  have b1 : (kdN (σ.2.2 28) v = 4 ∨ kdN (σ.2.2 28) v = 5) → ∀ N : Nat → Int32, N 1 = nI v → N 2 = nI a → N 3 = nI x → N 4 = nI (kdN (σ.2.2 28) v) → Tm (fun k => x_putAt k 1 N σ) (VQ g B h t 1000 σ) := by
    intro hk N n1 n2 n3 n4
    refine Tm_suc (fun k => by rw [x_putAt]) ?_
    refine Tm_ob (s_kind hS ha (by exact n2)) (fun r hr => ?_)
    rw [hr]
    refine Tm_ite (fun w => ?_) (fun _ => b2 _)
    have w := (n_eq (q := 2) (by omega) (by decide)).mp w
    rw [n4]
    refine Tm_ite (fun w4 => ?_) (fun w4 => b3 hk w (fun e => absurd (by rw [e]; rfl) w4) N n1 n2 n3 n4)
    refine Tm_ob (s_kind hS hx (by exact n3)) (fun r hr => ?_)
    rw [hr]
    refine Tm_ite (fun w5 => ?_) (fun _ => b2 _)
    have w5 := (n_eq (q := 4) (by omega) (by decide)).mp w5
    obtain ⟨c, c1, c2, c3, c4, -, -, -⟩ := ob_at hS (kdN_ge hS hx (by omega))
    rw [n3, show nI x + 1 = nI (x + 1) from n_add1 x]
    refine Tm_chk (n_in (by omega) (by omega)) ?_
    rw [n_cl (p := x + 1) (by omega)]
    exact Tm_ite (fun w6 => b3 hk w (fun _ => ⟨w5, w6⟩) N n1 n2 n3 n4) (fun _ => b2 _)
  refine Tm_suc (fun k => by rw [x_putAt]) ?_
  refine Tm_ob (s_kind hS hv (by exact h1)) (fun r hr => ?_)
  rw [hr]
  refine Tm_ite (fun w => b1 (Or.inr ((n_eq (q := 5) (by omega) (by decide)).mp w)) _ h1 h2 h3 rfl) (fun _ => ?_)
  refine Tm_ite (fun w => b1 (Or.inl ((n_eq (q := 4) (by omega) (by decide)).mp w)) _ h1 h2 h3 rfl) (fun _ => ?_)
  -- a map
  refine Tm_suc (fun k => by rw [x_putAt]) ?_
  refine Tm_ob (s_isMap hS hv (by exact h1)) (fun r hr => ?_)
  obtain ⟨hr1, hr2⟩ := hr
  rw [hr1]
  rcases hr2 with hr2 | ⟨hr2, gv, kv6, n, hn, v1, hM⟩
  · refine Tm_ite (fun _ => ?_) (fun w => absurd hr2 w)
    exact Tm_ob (s_wrongKind _) (fun r hr => Tm_some (VQ_of (VO_wk hP hr)))
  refine Tm_ite (fun w => absurd (hr2.symm.trans w) (by decide)) (fun _ => ?_)
  have hn9 := ob_n hS gv (by omega) v1 hn
  have b17 : ∀ (N : Nat → Int32) (r : Int32 × MS), N 100 = r.1 → VQ g B h t 1000 σ r → Tm (fun k => x_putAt k 17 N r.2) (VQ g B h t 1000 σ) := fun N r hN hr => by
    refine Tm_suc (fun k => by rw [x_putAt]) ?_
    rw [hN]; exact Tm_some hr
  have b15 : ∀ (p : Nat) (N : Nat → Int32) (τ : MS) (g' : Nat → Prop) (l' : List Nat) (h' : Nat), p ≤ 1000 → N 5 = nI t → PuH g B h t p σ τ g' l' h' → Tm (fun k => x_putAt k 15 N τ) (VQ g B h t 1000 σ) := by
    intro p N τ g' l' h' hp n5 hU
    refine Tm_suc (fun k => by rw [x_putAt]) ?_
    refine Tm_ite (fun _ => ?_) (fun w => ?_)
    · refine Tm_suc (fun k => by rw [x_putAt]) ?_
      exact Tm_ob (PuH_set hU (by omega) (by omega) (by exact n5)) (fun r hr => b17 _ r rfl (VQ_of hr))
    · refine b17 _ (0, τ) rfl (PuH_er hU hp (fun e => w ?_))
      rw [e]; decide
  refine Tm_suc (fun k => by rw [x_putAt]) ?_
  refine Tm_ob (s_pushOthers hP gv hn v1 hM ha (by exact h1) (by exact h2)) (fun r hr => ?_)
  obtain ⟨p, hp, hU⟩ := hr
  have hH := PuS_PuH hU hS hP.2.2.2
  refine Tm_ite (fun _ => b15 p _ _ _ _ _ (by omega) hP.2.1 hH) (fun _ => ?_)
  refine Tm_ob (s_pairW hH.1.1 hH.2.2.2.2.1 hH.2.2.1 (by omega) ha hx (by exact h2) (by exact h3)) (fun s hs => ?_)
  refine Tm_ob (s_push (VO_59 hs) (by omega) _) (fun u hu => ?_)
  rw [hu]
  obtain ⟨g2, l2, h2', hW, -⟩ := PuH_VO hH hs
  exact b15 (p + 1) _ _ g2 l2 h2' (by omega) hP.2.1 hW
theorem s_putImage (hP : VP g l B h t σ) {v a x : Nat} (hv : v < 3 ∨ g v) (ha : a < 3 ∨ g a) (hx : x < 3 ∨ g x) {L : Nat → Int32} (h1 : L 1 = nI v) (h2 : L 2 = nI a) (h3 : L 3 = nI x) : Tm (fun k => x_putImage k 0 L σ) (VQ g B h t 2000 σ) := by
  have hS := hP.1
  have hb := HS_b hS
  have hB := hS.2.1
  have ht := hP.2.2.1
  have kx := kdN_6 hS hx
  have b1 : ∀ N : Nat → Int32, Tm (fun k => x_putImage k 1 N σ) (VQ g B h t 2000 σ) := fun N => by
    refine Tm_suc (fun k => by rw [x_putImage]) ?_
    exact Tm_ob (s_wrongKind _) (fun r hr => Tm_some (VQ_of (VO_wk hP hr)))
  refine Tm_suc (fun k => by rw [x_putImage]) ?_
  refine Tm_ob (s_isMap hS hv (by exact h1)) (fun r hr => ?_)
  obtain ⟨hr1, hr2⟩ := hr
  rw [hr1]
  rcases hr2 with hr2 | ⟨hr2, gv, kv6, n, hn, v1, hM⟩
  · exact Tm_ite (fun _ => b1 _) (fun w => absurd hr2 w)
  refine Tm_ite (fun w => absurd (hr2.symm.trans w) (by decide)) (fun _ => ?_)
  have hn9 := ob_n hS gv (by omega) v1 hn
  refine Tm_ob (s_kind hS hx (by exact h3)) (fun r hr => ?_)
  rw [hr]
  refine Tm_ite (fun w => ?_) (fun _ => b1 _)
  have w := (n_eq (q := 6) (by omega) (by decide)).mp w
  have gx := kdN_ge hS hx (by omega)
  obtain ⟨m, x1, x2, x3, x4, x5, x6, x7⟩ := ob_at hS gx
  have x7 := x7 (by omega)
  have hm9 := ob_n hS gx (by omega) x1 x2
  have b6 : ∀ (N : Nat → Int32) (r : Int32 × MS), N 100 = r.1 → VQ g B h t 2000 σ r → Tm (fun k => x_putImage k 6 N r.2) (VQ g B h t 2000 σ) := fun N r hN hr => by
    refine Tm_suc (fun k => by rw [x_putImage]) ?_
    rw [hN]; exact Tm_some hr
  have b4 : ∀ (p : Nat) (N : Nat → Int32) (τ : MS) (g' : Nat → Prop) (l' : List Nat) (h' : Nat), p ≤ 2000 → N 4 = nI t → PuH g B h t p σ τ g' l' h' → Tm (fun k => x_putImage k 4 N τ) (VQ g B h t 2000 σ) := by
    intro p N τ g' l' h' hp n4 hU
    refine Tm_suc (fun k => by rw [x_putImage]) ?_
    refine Tm_ite (fun _ => ?_) (fun w => ?_)
    · refine Tm_suc (fun k => by rw [x_putImage]) ?_
      exact Tm_ob (PuH_set hU (by omega) (by omega) (by exact n4)) (fun r hr => b6 _ r rfl (VQ_of hr))
    · refine b6 _ (0, τ) rfl (PuH_er hU hp (fun e => w ?_))
      rw [e]; decide
  have b3 : ∀ (q i p : Nat) (N : Nat → Int32) (τ : MS) (g' : Nat → Prop) (l' : List Nat) (h' : Nat), q + i = m → p ≤ n + i → N 2 = nI a → N 3 = nI x → N 4 = nI t → N 5 = nI i → PuH g B h t p σ τ g' l' h' → Tm (fun k => x_putImage k 3 N τ) (VQ g B h t 2000 σ) := by
    intro q
    induction q with
    | zero =>
      intro i p N τ g' l' h' hi hp n2 n3 n4 n5 hU
      refine Tm_suc (fun k => by rw [x_putImage]) ?_
      rw [n3, n5, show nI x + 1 = nI (x + 1) from n_add1 x]
      refine Tm_chk (n_in (by omega) (by omega)) ?_
      rw [n_cl (p := x + 1) (by omega), hU.1.2.2.2 (x + 1) (by omega) (by omega), x1]
      exact Tm_ite (fun _ => b4 p N τ g' l' h' (by omega) n4 hU) (fun w => absurd ((n_le (by omega) (by omega)).mpr (by omega)) w)
    | succ q ih =>
      intro i p N τ g' l' h' hi hp n2 n3 n4 n5 hU
      obtain ⟨y, y1, y2⟩ := x7 i (by omega)
      refine Tm_suc (fun k => by rw [x_putImage]) ?_
      rw [n3, n5, show nI x + 1 = nI (x + 1) from n_add1 x, show nI x + 4 = nI (x + 4) from n_add (q := 4) (by omega), n_add (by omega)]
      refine Tm_chk (n_in (by omega) (by omega)) ?_
      rw [n_cl (p := x + 1) (by omega), hU.1.2.2.2 (x + 1) (by omega) (by omega), x1]
      refine Tm_ite (fun w => absurd ((n_le (by omega) (by omega)).mp w) (by omega)) (fun _ => ?_)
      refine Tm_ite (fun _ => ?_) (fun _ => b4 p N τ g' l' h' (by omega) n4 hU)
      refine Tm_chk (n_in (by omega) (by omega)) ?_
      rw [n_cl (p := x + 4 + i) (by omega), hU.1.2.2.2 (x + 4 + i) (by omega) (by omega), y1]
      refine Tm_ob (s_pairW hU.1.1 hU.2.2.2.2.1 hU.2.2.1 (by omega) (ha.imp id (hU.1.2.1 a)) (y2.imp id (hU.1.2.1 y)) (by exact n2) rfl) (fun s hs => ?_)
      refine Tm_ob (s_push (VO_59 hs) (by omega) _) (fun u hu => ?_)
      rw [hu]
      obtain ⟨g2, l2, h2', hW, -⟩ := PuH_VO hU hs
      exact ih (i + 1) (p + 1) _ _ g2 l2 h2' (by omega) (by omega) n2 n3 n4 (n_add1 i) hW
  refine Tm_suc (fun k => by rw [x_putImage]) ?_
  refine Tm_ob (s_pushOthers hP gv hn v1 hM ha (by exact h1) (by exact h2)) (fun r hr => ?_)
  obtain ⟨p, hp, hU⟩ := hr
  rw [hP.2.1]
  exact b3 m 0 p _ _ g l h (by omega) (by omega) h2 h3 rfl rfl (PuS_PuH hU hS hP.2.2.2)
end PTA

section JnS128
/-! Parts and images are written (reference). -/
section PTA
variable {g : Nat → Prop} {l : List Nat} {B h t : Nat} {σ : MS}
theorem PuS_PuH {n : Nat} {τ : MS} (hU : PuS g t n σ τ) (hS : HS g l B h σ) (hE : ErB σ) : PuH g B h t n σ τ g l h :=
  ⟨⟨PuS_HS hU hS, fun _ z => z, Nat.le_refl _, fun i _ _ => by rw [hU.2.1 28 (by decide)]⟩, PuS_FW hU, hU.2.2.2.1, hU.2.2.2.2, ErB_c (hU.1 56 (by decide)) hE, fun z => by rw [hU.1 56 (by decide)]; exact z⟩
theorem s_pairW {u : Nat} (hS : HS g l B h σ) (hE : ErB σ) (h59 : σ.1 59 = nI u) (hu : u + 2 ≤ 185000) {v x : Nat} (hv : v < 3 ∨ g v) (hx : x < 3 ∨ g x) {L : Nat → Int32} (h1 : L 1 = nI v) (h2 : L 2 = nI x) : Tm (fun k => x_pair k 0 L σ) (VO g B h u σ) := by
  refine Tm_suc (fun k => by rw [x_pair]) ?_
  refine Tm_ob (PuS_push (PuS_0 h59) (by omega) hv (by exact h1)) (fun r hr => ?_)
  refine Tm_ob (PuS_push hr (by omega) hx (by exact h2)) (fun s hs => ?_)
  exact Tm_ob (PuS_tup hs hS hE (by omega) (by exact h59)) (fun u hu => Tm_some hu)
theorem VO_59 {r : Int32 × MS} {u : Nat} (hr : VO g B h u σ r) : r.2.1 59 = nI u := by
  obtain ⟨_, _, _, _, _, e, _⟩ := hr
  exact e
theorem s_putAt (hP : VP g l B h t σ) {v a x : Nat} (hv : v < 3 ∨ g v) (ha : a < 3 ∨ g a) (hx : x < 3 ∨ g x) {L : Nat → Int32} (h1 : L 1 = nI v) (h2 : L 2 = nI a) (h3 : L 3 = nI x) : Tm (fun k => x_putAt k 0 L σ) (VQ g B h t 1000 σ) := by
  have hS := hP.1
  have hb := HS_b hS
  have hB := hS.2.1
  have ht := hP.2.2.1
  have kv := kdN_6 hS hv
  have ka := kdN_6 hS ha
  have kx := kdN_6 hS hx
  have b2 : ∀ N : Nat → Int32, Tm (fun k => x_putAt k 2 N σ) (VQ g B h t 1000 σ) := fun N => by
    refine Tm_suc (fun k => by rw [x_putAt]) ?_
    exact Tm_ob (s_wrongKind _) (fun r hr => Tm_some (VQ_of (VO_wk hP hr)))
  have b4 : ∀ N : Nat → Int32, Tm (fun k => x_putAt k 4 N σ) (VQ g B h t 1000 σ) := fun N => by
    refine Tm_suc (fun k => by rw [x_putAt]) ?_
    refine Tm_ob (s_fail _ σ) (fun r hr => ?_)
    rw [hr]
    exact Tm_some (VQ_of (VO_er hP (e := 4) (by decide)))
  -- a string or a tuple
  have b3 : (kdN (σ.2.2 28) v = 4 ∨ kdN (σ.2.2 28) v = 5) → kdN (σ.2.2 28) a = 2 → (kdN (σ.2.2 28) v = 4 → kdN (σ.2.2 28) x = 4 ∧ σ.2.2 28 (x + 1) = nI 1) → ∀ N : Nat → Int32, N 1 = nI v → N 2 = nI a → N 3 = nI x → N 4 = nI (kdN (σ.2.2 28) v) → Tm (fun k => x_putAt k 3 N σ) (VQ g B h t 1000 σ) := by
    intro hk hka hkx N n1 n2 n3 n4
    have gv := kdN_ge hS hv (by omega)
    obtain ⟨n, v1, v2, v3, v4, v5, v6, v7⟩ := ob_at hS gv
    obtain ⟨m, hm⟩ := Wh_of hS ha hka
    have b5 : ∀ (p : Nat) (N : Nat → Int32), 1 ≤ p → p ≤ 100001 → (kdN (σ.2.2 28) v = 4 → p ≤ n + 1) → N 1 = nI v → N 3 = nI x → N 4 = nI (kdN (σ.2.2 28) v) → N 5 = nI p → N 6 = nI n → Tm (fun k => x_putAt k 5 N σ) (VQ g B h t 1000 σ) := by
      intro p N hp1 hp hp4 n1 n3 n4 n5 n6
      refine Tm_suc (fun k => by rw [x_putAt]) ?_
      rw [n4]
      refine Tm_ite (fun w => ?_) (fun w => ?_)
      · have w := (n_eq (q := 4) (by omega) (by decide)).mp w
        have hp4 := hp4 w
        obtain ⟨kx4, x1⟩ := hkx w
        obtain ⟨c, c1, c2, c3, c4, -, -, -⟩ := ob_at hS (kdN_ge hS hx (by omega))
        have ec : c = 1 := (n_eq (by omega) (by omega)).mp (c1.symm.trans x1)
        subst ec
        have b11 : ∀ (d : Nat) (N : Nat → Int32) (τ : MS), d ≤ n + 1 → N 100 = nI d → N 101 = nI 0 → BF σ τ → Tm (fun k => x_putAt k 11 N τ) (VQ g B h t 1000 σ) := fun d N τ hd m100 m101 hF => by
          refine Tm_suc (fun k => by rw [x_putAt]) ?_
          exact Tm_ob (s_stringOf51 (BF_VP hF hP) (f := 0) (n := d) (by omega) (fun _ => by omega) (by exact m101) (by exact m100)) (fun r hr => Tm_some (VQ_of (BF_VO hF hP hr)))
        have b6 : ∀ (q i : Nat) (N : Nat → Int32) (τ : MS), q + i = n → N 1 = nI v → N 3 = nI x → N 5 = nI p → N 6 = nI n → N 7 = nI i → BF σ τ → Tm (fun k => x_putAt k 6 N τ) (VQ g B h t 1000 σ) := by
          intro q
          induction q with
          | zero =>
            intro i N τ hi n1 n3 n5 n6 n7 hF
            refine Tm_suc (fun k => by rw [x_putAt]) ?_
            rw [n6, n7]
            refine Tm_ite (fun _ => ?_) (fun w => absurd ((n_le (by omega) (by omega)).mpr (by omega)) w)
            refine Tm_suc (fun k => by rw [x_putAt]) ?_
            rw [n3, n5, show nI x + 4 = nI (x + 4) from n_add (q := 4) (by omega), show nI p - 1 = nI (p - 1) from n_sub (p := p) (q := 1) (by omega) (by omega)]
            refine Tm_chk (n_in (by omega) (by omega)) ?_
            refine Tm_chk (n_in (by omega) (by omega)) ?_
            rw [n_cl (p := p - 1) (by omega)]
            show Tm (fun k => x_putAt k 9 N (mAr τ 51 (p - 1) (τ.2.2 28 (nI (x + 4)).toNatClampNeg))) _
            refine Tm_suc (fun k => by rw [x_putAt]) ?_
            refine Tm_ite (fun _ => ?_) (fun _ => ?_)
            · refine Tm_suc (fun k => by rw [x_putAt]) ?_
              exact b11 n _ _ (by omega) n6 rfl (BF_51 hF)
            · exact b11 (n + 1) _ _ (by omega) (by show N 6 + 1 = _; rw [n6, n_add1]) rfl (BF_51 hF)
          | succ q ih =>
            intro i N τ hi n1 n3 n5 n6 n7 hF
            refine Tm_suc (fun k => by rw [x_putAt]) ?_
            rw [n6, n7, n1, show nI v + 4 = nI (v + 4) from n_add (q := 4) (by omega), n_add (by omega)]
            refine Tm_ite (fun w => absurd ((n_le (by omega) (by omega)).mp w) (by omega)) (fun _ => ?_)
            refine Tm_chk (n_in (by omega) (by omega)) ?_
            refine Tm_chk (n_in (by omega) (by omega)) ?_
            rw [n_cl (p := i) (by omega)]
            show Tm (fun k => x_putAt k 7 N (mAr τ 51 i (τ.2.2 28 (nI (v + 4 + i)).toNatClampNeg))) _
            refine Tm_suc (fun k => by rw [x_putAt]) ?_
            exact ih (i + 1) _ _ (by omega) n1 n3 n5 n6 (by show N 7 + 1 = _; rw [n7, n_add1]) (BF_51 hF)
        exact b6 n 0 _ _ (by omega) n1 n3 n5 n6 rfl BF_rf
      · have hk5 : 5 ≤ kdN (σ.2.2 28) v := by
          rcases hk with e | e
          · exact absurd (by rw [e]; rfl) w
          · omega
        refine Tm_suc (fun k => by rw [x_putAt]) ?_
        exact Tm_ob (s_putPlace hP gv hk5 hp1 hp hx (by exact n1) (by exact n5) (by exact n3)) (fun r hr => Tm_some (VQ_of hr))
    refine Tm_suc (fun k => by rw [x_putAt]) ?_
    refine Tm_ob (s_intOf hS hm (b := 100000) (by decide) (by exact n2) rfl) (fun r hr => ?_)
    obtain ⟨r1, y, y1, y2, y3⟩ := hr
    rw [r1, n1, show nI v + 1 = nI (v + 1) from n_add1 v]
    refine Tm_chk (n_in (by omega) (by omega)) ?_
    rw [n_cl (p := v + 1) (by omega), v1, n4]
    refine Tm_ite (fun _ => b4 _) (fun z => ?_)
    have e1 : (1 : Int32).toInt = 1 := rfl
    have z1 : 1 ≤ r.1.toInt := by rw [i_lt, e1] at z; omega
    have ey := sg_pos y1 y2 (by omega)
    have hy1 : 1 ≤ y := by rw [ey, n_int (by omega)] at z1; omega
    refine Tm_ite (fun w => ?_) (fun w => ?_)
    · rw [ey, n_add1]
      refine Tm_ite (fun z => ?_) (fun _ => b4 _)
      have z := (n_le (by omega) (by omega)).mp z
      exact b5 y _ hy1 y1 (fun _ => z) n1 n3 n4 rfl rfl
    · refine b5 y _ hy1 y1 (fun e => absurd (by rw [e]; rfl) w) n1 n3 n4 ?_ rfl
      exact ey
  have b1 : (kdN (σ.2.2 28) v = 4 ∨ kdN (σ.2.2 28) v = 5) → ∀ N : Nat → Int32, N 1 = nI v → N 2 = nI a → N 3 = nI x → N 4 = nI (kdN (σ.2.2 28) v) → Tm (fun k => x_putAt k 1 N σ) (VQ g B h t 1000 σ) := by
    intro hk N n1 n2 n3 n4
    refine Tm_suc (fun k => by rw [x_putAt]) ?_
    refine Tm_ob (s_kind hS ha (by exact n2)) (fun r hr => ?_)
    rw [hr]
    refine Tm_ite (fun w => ?_) (fun _ => b2 _)
    have w := (n_eq (q := 2) (by omega) (by decide)).mp w
    rw [n4]
    refine Tm_ite (fun w4 => ?_) (fun w4 => b3 hk w (fun e => absurd (by rw [e]; rfl) w4) N n1 n2 n3 n4)
    refine Tm_ob (s_kind hS hx (by exact n3)) (fun r hr => ?_)
    rw [hr]
    refine Tm_ite (fun w5 => ?_) (fun _ => b2 _)
    have w5 := (n_eq (q := 4) (by omega) (by decide)).mp w5
    obtain ⟨c, c1, c2, c3, c4, -, -, -⟩ := ob_at hS (kdN_ge hS hx (by omega))
    rw [n3, show nI x + 1 = nI (x + 1) from n_add1 x]
    refine Tm_chk (n_in (by omega) (by omega)) ?_
    rw [n_cl (p := x + 1) (by omega)]
    exact Tm_ite (fun w6 => b3 hk w (fun _ => ⟨w5, w6⟩) N n1 n2 n3 n4) (fun _ => b2 _)
  refine Tm_suc (fun k => by rw [x_putAt]) ?_
  refine Tm_ob (s_kind hS hv (by exact h1)) (fun r hr => ?_)
  rw [hr]
  refine Tm_ite (fun w => b1 (Or.inr ((n_eq (q := 5) (by omega) (by decide)).mp w)) _ h1 h2 h3 rfl) (fun _ => ?_)
  refine Tm_ite (fun w => b1 (Or.inl ((n_eq (q := 4) (by omega) (by decide)).mp w)) _ h1 h2 h3 rfl) (fun _ => ?_)
  -- a map
  refine Tm_suc (fun k => by rw [x_putAt]) ?_
  refine Tm_ob (s_isMap hS hv (by exact h1)) (fun r hr => ?_)
  obtain ⟨hr1, hr2⟩ := hr
  rw [hr1]
  rcases hr2 with hr2 | ⟨hr2, gv, kv6, n, hn, v1, hM⟩
  · refine Tm_ite (fun _ => ?_) (fun w => absurd hr2 w)
    exact Tm_ob (s_wrongKind _) (fun r hr => Tm_some (VQ_of (VO_wk hP hr)))
  refine Tm_ite (fun w => absurd (hr2.symm.trans w) (by decide)) (fun _ => ?_)
  have hn9 := ob_n hS gv (by omega) v1 hn
  have b17 : ∀ (N : Nat → Int32) (r : Int32 × MS), N 100 = r.1 → VQ g B h t 1000 σ r → Tm (fun k => x_putAt k 17 N r.2) (VQ g B h t 1000 σ) := fun N r hN hr => by
    refine Tm_suc (fun k => by rw [x_putAt]) ?_
    rw [hN]; exact Tm_some hr
  have b15 : ∀ (p : Nat) (N : Nat → Int32) (τ : MS) (g' : Nat → Prop) (l' : List Nat) (h' : Nat), p ≤ 1000 → N 5 = nI t → PuH g B h t p σ τ g' l' h' → Tm (fun k => x_putAt k 15 N τ) (VQ g B h t 1000 σ) := by
    intro p N τ g' l' h' hp n5 hU
    refine Tm_suc (fun k => by rw [x_putAt]) ?_
    refine Tm_ite (fun _ => ?_) (fun w => ?_)
    · refine Tm_suc (fun k => by rw [x_putAt]) ?_
      exact Tm_ob (PuH_set hU (by omega) (by omega) (by exact n5)) (fun r hr => b17 _ r rfl (VQ_of hr))
    · refine b17 _ (0, τ) rfl (PuH_er hU hp (fun e => w ?_))
      rw [e]; decide
  refine Tm_suc (fun k => by rw [x_putAt]) ?_
  refine Tm_ob (s_pushOthers hP gv hn v1 hM ha (by exact h1) (by exact h2)) (fun r hr => ?_)
  obtain ⟨p, hp, hU⟩ := hr
  have hH := PuS_PuH hU hS hP.2.2.2
  refine Tm_ite (fun _ => b15 p _ _ _ _ _ (by omega) hP.2.1 hH) (fun _ => ?_)
  refine Tm_ob (s_pairW hH.1.1 hH.2.2.2.2.1 hH.2.2.1 (by omega) ha hx (by exact h2) (by exact h3)) (fun s hs => ?_)
  refine Tm_ob (s_push (VO_59 hs) (by omega) _) (fun u hu => ?_)
  rw [hu]
  obtain ⟨g2, l2, h2', hW, -⟩ := PuH_VO hH hs
  exact b15 (p + 1) _ _ g2 l2 h2' (by omega) hP.2.1 hW
theorem s_putImage (hP : VP g l B h t σ) {v a x : Nat} (hv : v < 3 ∨ g v) (ha : a < 3 ∨ g a) (hx : x < 3 ∨ g x) {L : Nat → Int32} (h1 : L 1 = nI v) (h2 : L 2 = nI a) (h3 : L 3 = nI x) : Tm (fun k => x_putImage k 0 L σ) (VQ g B h t 2000 σ) := by
  have hS := hP.1
  have hb := HS_b hS
  have hB := hS.2.1
  have ht := hP.2.2.1
  have kx := kdN_6 hS hx
  have b1 : ∀ N : Nat → Int32, Tm (fun k => x_putImage k 1 N σ) (VQ g B h t 2000 σ) := fun N => by
    refine Tm_suc (fun k => by rw [x_putImage]) ?_
    exact Tm_ob (s_wrongKind _) (fun r hr => Tm_some (VQ_of (VO_wk hP hr)))
  refine Tm_suc (fun k => by rw [x_putImage]) ?_
  refine Tm_ob (s_isMap hS hv (by exact h1)) (fun r hr => ?_)
  obtain ⟨hr1, hr2⟩ := hr
  rw [hr1]
  rcases hr2 with hr2 | ⟨hr2, gv, kv6, n, hn, v1, hM⟩
  · exact Tm_ite (fun _ => b1 _) (fun w => absurd hr2 w)
  refine Tm_ite (fun w => absurd (hr2.symm.trans w) (by decide)) (fun _ => ?_)
  have hn9 := ob_n hS gv (by omega) v1 hn
  refine Tm_ob (s_kind hS hx (by exact h3)) (fun r hr => ?_)
  rw [hr]
  refine Tm_ite (fun w => ?_) (fun _ => b1 _)
  have w := (n_eq (q := 6) (by omega) (by decide)).mp w
  have gx := kdN_ge hS hx (by omega)
  obtain ⟨m, x1, x2, x3, x4, x5, x6, x7⟩ := ob_at hS gx
  have x7 := x7 (by omega)
  have hm9 := ob_n hS gx (by omega) x1 x2
  have b6 : ∀ (N : Nat → Int32) (r : Int32 × MS), N 100 = r.1 → VQ g B h t 2000 σ r → Tm (fun k => x_putImage k 6 N r.2) (VQ g B h t 2000 σ) := fun N r hN hr => by
    refine Tm_suc (fun k => by rw [x_putImage]) ?_
    rw [hN]; exact Tm_some hr
  have b4 : ∀ (p : Nat) (N : Nat → Int32) (τ : MS) (g' : Nat → Prop) (l' : List Nat) (h' : Nat), p ≤ 2000 → N 4 = nI t → PuH g B h t p σ τ g' l' h' → Tm (fun k => x_putImage k 4 N τ) (VQ g B h t 2000 σ) := by
    intro p N τ g' l' h' hp n4 hU
    refine Tm_suc (fun k => by rw [x_putImage]) ?_
    refine Tm_ite (fun _ => ?_) (fun w => ?_)
    · refine Tm_suc (fun k => by rw [x_putImage]) ?_
      exact Tm_ob (PuH_set hU (by omega) (by omega) (by exact n4)) (fun r hr => b6 _ r rfl (VQ_of hr))
    · refine b6 _ (0, τ) rfl (PuH_er hU hp (fun e => w ?_))
      rw [e]; decide
  have b3 : ∀ (q i p : Nat) (N : Nat → Int32) (τ : MS) (g' : Nat → Prop) (l' : List Nat) (h' : Nat), q + i = m → p ≤ n + i → N 2 = nI a → N 3 = nI x → N 4 = nI t → N 5 = nI i → PuH g B h t p σ τ g' l' h' → Tm (fun k => x_putImage k 3 N τ) (VQ g B h t 2000 σ) := by
    intro q
    induction q with
    | zero =>
      intro i p N τ g' l' h' hi hp n2 n3 n4 n5 hU
      refine Tm_suc (fun k => by rw [x_putImage]) ?_
      rw [n3, n5, show nI x + 1 = nI (x + 1) from n_add1 x]
      refine Tm_chk (n_in (by omega) (by omega)) ?_
      rw [n_cl (p := x + 1) (by omega), hU.1.2.2.2 (x + 1) (by omega) (by omega), x1]
      exact Tm_ite (fun _ => b4 p N τ g' l' h' (by omega) n4 hU) (fun w => absurd ((n_le (by omega) (by omega)).mpr (by omega)) w)
    | succ q ih =>
      intro i p N τ g' l' h' hi hp n2 n3 n4 n5 hU
      obtain ⟨y, y1, y2⟩ := x7 i (by omega)
      refine Tm_suc (fun k => by rw [x_putImage]) ?_
      rw [n3, n5, show nI x + 1 = nI (x + 1) from n_add1 x, show nI x + 4 = nI (x + 4) from n_add (q := 4) (by omega), n_add (by omega)]
      refine Tm_chk (n_in (by omega) (by omega)) ?_
      rw [n_cl (p := x + 1) (by omega), hU.1.2.2.2 (x + 1) (by omega) (by omega), x1]
      refine Tm_ite (fun w => absurd ((n_le (by omega) (by omega)).mp w) (by omega)) (fun _ => ?_)
      refine Tm_ite (fun _ => ?_) (fun _ => b4 p N τ g' l' h' (by omega) n4 hU)
      refine Tm_chk (n_in (by omega) (by omega)) ?_
      rw [n_cl (p := x + 4 + i) (by omega), hU.1.2.2.2 (x + 4 + i) (by omega) (by omega), y1]
      refine Tm_ob (s_pairW hU.1.1 hU.2.2.2.2.1 hU.2.2.1 (by omega) (ha.imp id (hU.1.2.1 a)) (y2.imp id (hU.1.2.1 y)) (by exact n2) rfl) (fun s hs => ?_)
      refine Tm_ob (s_push (VO_59 hs) (by omega) _) (fun u hu => ?_)
      rw [hu]
      obtain ⟨g2, l2, h2', hW, -⟩ := PuH_VO hU hs
      exact ih (i + 1) (p + 1) _ _ g2 l2 h2' (by omega) (by omega) n2 n3 n4 (n_add1 i) hW
  refine Tm_suc (fun k => by rw [x_putImage]) ?_
  refine Tm_ob (s_pushOthers hP gv hn v1 hM ha (by exact h1) (by exact h2)) (fun r hr => ?_)
  obtain ⟨p, hp, hU⟩ := hr
  rw [hP.2.1]
  exact b3 m 0 p _ _ g l h (by omega) (by omega) h2 h3 rfl rfl (PuS_PuH hU hS hP.2.2.2)
end PTA
end JnS128
section JnS129
/-! A slice is written (reference). -/
section PTS
variable {g : Nat → Prop} {l : List Nat} {B h t : Nat} {σ : MS}
/-- a slice of a string is written -/
theorem s_ptS4 (hP : VP g l B h t σ) {v x n m y w : Nat} (v1 : σ.2.2 28 (v + 1) = nI n) (v4 : v + 4 + n ≤ 1740000) (hn : n ≤ 3996) (x4 : x + 4 + m ≤ 1740000) (hm : m ≤ 3996) (s1 : σ.1 100 = nI y) (s2 : σ.1 101 = nI w) (hy : 1 ≤ y) (hyw : y ≤ w + 1) (hw : w ≤ n) : ∀ (N : Nat → Int32), N 1 = nI v → N 4 = nI x → N 5 = nI n → N 6 = nI m → N 7 = nI 0 → N 8 = nI 0 → Tm (fun k => x_putSlice k 4 N σ) (VO g B h t σ) := by
  have b12 : ∀ (p : Nat) (N : Nat → Int32) (τ : MS), p ≤ 8000 → N 7 = nI p → BF σ τ → Tm (fun k => x_putSlice k 12 N τ) (VO g B h t σ) := fun p N τ hp n7 hF => by
    refine Tm_suc (fun k => by rw [x_putSlice]) ?_
    exact Tm_ob (s_stringOf51 (BF_VP hF hP) (f := 0) (n := p) (by omega) (fun _ => by omega) rfl (by exact n7)) (fun r hr => Tm_some (BF_VO hF hP hr))
  have b10 : ∀ (q i p : Nat) (N : Nat → Int32) (τ : MS), q + i = n → p + w = y - 1 + m + i → w ≤ i → N 1 = nI v → N 5 = nI n → N 7 = nI p → N 8 = nI i → BF σ τ → Tm (fun k => x_putSlice k 10 N τ) (VO g B h t σ) := by
    intro q
    induction q with
    | zero =>
      intro i p N τ hi hp hwi n1 n5 n7 n8 hF
      refine Tm_suc (fun k => by rw [x_putSlice]) ?_
      rw [n5, n8]
      exact Tm_ite (fun _ => b12 p N τ (by omega) n7 hF) (fun w => absurd ((n_le (by omega) (by omega)).mpr (by omega)) w)
    | succ q ih =>
      intro i p N τ hi hp hwi n1 n5 n7 n8 hF
      refine Tm_suc (fun k => by rw [x_putSlice]) ?_
      rw [n5, n8, n1, n7, show nI v + 4 = nI (v + 4) from n_add (q := 4) (by omega), n_add (by omega)]
      refine Tm_ite (fun w => absurd ((n_le (by omega) (by omega)).mp w) (by omega)) (fun _ => ?_)
      refine Tm_chk (n_in (by omega) (by omega)) ?_
      refine Tm_chk (n_in (by omega) (by omega)) ?_
      rw [n_cl (p := p) (by omega)]
      show Tm (fun k => x_putSlice k 11 N (mAr τ 51 p (τ.2.2 28 (nI (v + 4 + i)).toNatClampNeg))) _
      refine Tm_suc (fun k => by rw [x_putSlice]) ?_
      exact ih (i + 1) (p + 1) _ _ (by omega) (by omega) (by omega) n1 n5 (by show N 7 + 1 = _; rw [n7, n_add1]) (by show N 8 + 1 = _; rw [n8, n_add1]) (BF_51 hF)
  have b7 : ∀ (q i p : Nat) (N : Nat → Int32) (τ : MS), q + i = m → p = y - 1 + i → N 1 = nI v → N 4 = nI x → N 5 = nI n → N 6 = nI m → N 7 = nI p → N 8 = nI i → BF σ τ → Tm (fun k => x_putSlice k 7 N τ) (VO g B h t σ) := by
    intro q
    induction q with
    | zero =>
      intro i p N τ hi hp n1 n4 n5 n6 n7 n8 hF
      refine Tm_suc (fun k => by rw [x_putSlice]) ?_
      rw [n6, n8]
      refine Tm_ite (fun _ => ?_) (fun w => absurd ((n_le (by omega) (by omega)).mpr (by omega)) w)
      refine Tm_suc (fun k => by rw [x_putSlice]) ?_
      rw [hF.1 101, s2]
      exact b10 (n - w) w p _ _ (by omega) (by omega) (Nat.le_refl _) n1 n5 n7 rfl hF
    | succ q ih =>
      intro i p N τ hi hp n1 n4 n5 n6 n7 n8 hF
      refine Tm_suc (fun k => by rw [x_putSlice]) ?_
      rw [n6, n8, n4, n7, show nI x + 4 = nI (x + 4) from n_add (q := 4) (by omega), n_add (by omega)]
      refine Tm_ite (fun w => absurd ((n_le (by omega) (by omega)).mp w) (by omega)) (fun _ => ?_)
      refine Tm_chk (n_in (by omega) (by omega)) ?_
      refine Tm_chk (n_in (by omega) (by omega)) ?_
      rw [n_cl (p := p) (by omega)]
      show Tm (fun k => x_putSlice k 8 N (mAr τ 51 p (τ.2.2 28 (nI (x + 4 + i)).toNatClampNeg))) _
      refine Tm_suc (fun k => by rw [x_putSlice]) ?_
      exact ih (i + 1) (p + 1) _ _ (by omega) (by omega) n1 n4 n5 n6 (by show N 7 + 1 = _; rw [n7, n_add1]) (by show N 8 + 1 = _; rw [n8, n_add1]) (BF_51 hF)
  have b4 : ∀ (q i : Nat) (N : Nat → Int32) (τ : MS), q + i = y - 1 → N 1 = nI v → N 4 = nI x → N 5 = nI n → N 6 = nI m → N 7 = nI i → N 8 = nI i → BF σ τ → Tm (fun k => x_putSlice k 4 N τ) (VO g B h t σ) := by
    intro q
    induction q with
    | zero =>
      intro i N τ hi n1 n4 n5 n6 n7 n8 hF
      refine Tm_suc (fun k => by rw [x_putSlice]) ?_
      rw [hF.1 100, s1, n8, show nI y - 1 = nI (y - 1) from n_sub (p := y) (q := 1) (by omega) (by omega)]
      refine Tm_ite (fun _ => ?_) (fun w => absurd ((n_le (by omega) (by omega)).mpr (by omega)) w)
      refine Tm_suc (fun k => by rw [x_putSlice]) ?_
      exact b7 m 0 i _ _ (by omega) (by omega) n1 n4 n5 n6 n7 rfl hF
    | succ q ih =>
      intro i N τ hi n1 n4 n5 n6 n7 n8 hF
      refine Tm_suc (fun k => by rw [x_putSlice]) ?_
      rw [hF.1 100, s1, n8, n1, n7, show nI y - 1 = nI (y - 1) from n_sub (p := y) (q := 1) (by omega) (by omega), show nI v + 4 = nI (v + 4) from n_add (q := 4) (by omega), n_add (by omega)]
      refine Tm_ite (fun w => absurd ((n_le (by omega) (by omega)).mp w) (by omega)) (fun _ => ?_)
      refine Tm_chk (n_in (by omega) (by omega)) ?_
      refine Tm_chk (n_in (by omega) (by omega)) ?_
      rw [n_cl (p := i) (by omega)]
      show Tm (fun k => x_putSlice k 5 N (mAr τ 51 i (τ.2.2 28 (nI (v + 4 + i)).toNatClampNeg))) _
      refine Tm_suc (fun k => by rw [x_putSlice]) ?_
      exact ih (i + 1) _ _ (by omega) n1 n4 n5 n6 (by show N 7 + 1 = _; rw [n7, n_add1]) (by show N 8 + 1 = _; rw [n8, n_add1]) (BF_51 hF)
  intro N n1 n4 n5 n6 n7 n8
  exact b4 (y - 1) 0 N σ (by omega) n1 n4 n5 n6 n7 n8 BF_rf
/-- a slice of a tuple is written -/
theorem s_ptS13 (hP : VP g l B h t σ) {v x n m y w : Nat} (hn : n ≤ 3996) (hm : m ≤ 3996) (v4 : v + 4 + n ≤ 1740000) (x4 : x + 4 + m ≤ 1740000) (v7 : ∀ i, i < n → ∃ m, σ.2.2 28 (v + 4 + i) = nI m ∧ (m < 3 ∨ g m)) (x7 : ∀ i, i < m → ∃ n, σ.2.2 28 (x + 4 + i) = nI n ∧ (n < 3 ∨ g n)) (s1 : σ.1 100 = nI y) (s2 : σ.1 101 = nI w) (hy : 1 ≤ y) (hyw : y ≤ w + 1) (hw : w ≤ n) : ∀ (N : Nat → Int32), N 1 = nI v → N 4 = nI x → N 5 = nI n → N 6 = nI m → Tm (fun k => x_putSlice k 13 N σ) (VO g B h t σ) := by
  have hS := hP.1
  have ht := hP.2.2.1
  have b18 : ∀ (q i p : Nat) (N : Nat → Int32) (τ : MS), q + i = n → p + w = y - 1 + m + i → w ≤ i → N 1 = nI v → N 5 = nI n → N 7 = nI t → N 8 = nI i → PuS g t p σ τ → Tm (fun k => x_putSlice k 18 N τ) (VO g B h t σ) := by
    intro q
    induction q with
    | zero =>
      intro i p N τ hi hp hwi n1 n5 n7 n8 hU
      refine Tm_suc (fun k => by rw [x_putSlice]) ?_
      rw [n5, n8]
      refine Tm_ite (fun _ => ?_) (fun w => absurd ((n_le (by omega) (by omega)).mpr (by omega)) w)
      refine Tm_suc (fun k => by rw [x_putSlice]) ?_
      exact Tm_ob (PuS_tup hU hS hP.2.2.2 (by omega) (by exact n7)) (fun r hr => Tm_some hr)
    | succ q ih =>
      intro i p N τ hi hp hwi n1 n5 n7 n8 hU
      obtain ⟨z, z1, z2⟩ := v7 i (by omega)
      refine Tm_suc (fun k => by rw [x_putSlice]) ?_
      rw [n5, n8, n1, show nI v + 4 = nI (v + 4) from n_add (q := 4) (by omega), n_add (by omega)]
      refine Tm_ite (fun w => absurd ((n_le (by omega) (by omega)).mp w) (by omega)) (fun _ => ?_)
      refine Tm_chk (n_in (by omega) (by omega)) ?_
      rw [n_cl (p := v + 4 + i) (by omega), hU.2.1 28 (by decide), z1]
      exact Tm_ob (PuS_push hU (by omega) z2 rfl) (fun r hr => ih (i + 1) (p + 1) _ _ (by omega) (by omega) (by omega) n1 n5 n7 (n_add1 i) hr)
  have b16 : ∀ (q i p : Nat) (N : Nat → Int32) (τ : MS), q + i = m → p = y - 1 + i → N 1 = nI v → N 4 = nI x → N 5 = nI n → N 6 = nI m → N 7 = nI t → N 8 = nI i → PuS g t p σ τ → Tm (fun k => x_putSlice k 16 N τ) (VO g B h t σ) := by
    intro q
    induction q with
    | zero =>
      intro i p N τ hi hp n1 n4 n5 n6 n7 n8 hU
      refine Tm_suc (fun k => by rw [x_putSlice]) ?_
      rw [n6, n8]
      refine Tm_ite (fun _ => ?_) (fun w => absurd ((n_le (by omega) (by omega)).mpr (by omega)) w)
      refine Tm_suc (fun k => by rw [x_putSlice]) ?_
      rw [hU.1 101 (by decide), s2]
      exact b18 (n - w) w p _ _ (by omega) (by omega) (Nat.le_refl _) n1 n5 n7 rfl hU
    | succ q ih =>
      intro i p N τ hi hp n1 n4 n5 n6 n7 n8 hU
      obtain ⟨z, z1, z2⟩ := x7 i (by omega)
      refine Tm_suc (fun k => by rw [x_putSlice]) ?_
      rw [n6, n8, n4, show nI x + 4 = nI (x + 4) from n_add (q := 4) (by omega), n_add (by omega)]
      refine Tm_ite (fun w => absurd ((n_le (by omega) (by omega)).mp w) (by omega)) (fun _ => ?_)
      refine Tm_chk (n_in (by omega) (by omega)) ?_
      rw [n_cl (p := x + 4 + i) (by omega), hU.2.1 28 (by decide), z1]
      exact Tm_ob (PuS_push hU (by omega) z2 rfl) (fun r hr => ih (i + 1) (p + 1) _ _ (by omega) (by omega) n1 n4 n5 n6 n7 (n_add1 i) hr)
  have b14 : ∀ (q i : Nat) (N : Nat → Int32) (τ : MS), q + i = y - 1 → N 1 = nI v → N 4 = nI x → N 5 = nI n → N 6 = nI m → N 7 = nI t → N 8 = nI i → PuS g t i σ τ → Tm (fun k => x_putSlice k 14 N τ) (VO g B h t σ) := by
    intro q
    induction q with
    | zero =>
      intro i N τ hi n1 n4 n5 n6 n7 n8 hU
      refine Tm_suc (fun k => by rw [x_putSlice]) ?_
      rw [hU.1 100 (by decide), s1, n8, show nI y - 1 = nI (y - 1) from n_sub (p := y) (q := 1) (by omega) (by omega)]
      refine Tm_ite (fun _ => ?_) (fun w => absurd ((n_le (by omega) (by omega)).mpr (by omega)) w)
      refine Tm_suc (fun k => by rw [x_putSlice]) ?_
      exact b16 m 0 i _ _ (by omega) (by omega) n1 n4 n5 n6 n7 rfl hU
    | succ q ih =>
      intro i N τ hi n1 n4 n5 n6 n7 n8 hU
      obtain ⟨z, z1, z2⟩ := v7 i (by omega)
      refine Tm_suc (fun k => by rw [x_putSlice]) ?_
      rw [hU.1 100 (by decide), s1, n8, n1, show nI y - 1 = nI (y - 1) from n_sub (p := y) (q := 1) (by omega) (by omega), show nI v + 4 = nI (v + 4) from n_add (q := 4) (by omega), n_add (by omega)]
      refine Tm_ite (fun w => absurd ((n_le (by omega) (by omega)).mp w) (by omega)) (fun _ => ?_)
      refine Tm_chk (n_in (by omega) (by omega)) ?_
      rw [n_cl (p := v + 4 + i) (by omega), hU.2.1 28 (by decide), z1]
      exact Tm_ob (PuS_push hU (by omega) z2 rfl) (fun r hr => ih (i + 1) _ _ (by omega) n1 n4 n5 n6 n7 (n_add1 i) hr)
  intro N n1 n4 n5 n6
  refine Tm_suc (fun k => by rw [x_putSlice]) ?_
  rw [hP.2.1]
  exact b14 (y - 1) 0 _ _ (by omega) n1 n4 n5 n6 rfl rfl (PuS_0 hP.2.1)
theorem s_putSlice (hP : VP g l B h t σ) {v a b x : Nat} (hv : v < 3 ∨ g v) (ha : a < 3 ∨ g a) (hb : b < 3 ∨ g b) (hx : x < 3 ∨ g x) {L : Nat → Int32} (h1 : L 1 = nI v) (h2 : L 2 = nI a) (h3 : L 3 = nI b) (h4 : L 4 = nI x) : Tm (fun k => x_putSlice k 0 L σ) (VO g B h t σ) := by
  refine Tm_suc (fun k => by rw [x_putSlice]) ?_
  refine Tm_ob (s_isSlice hP.1 hv ha hb (by exact h1) (by exact h2) (by exact h3)) (fun r hr => ?_)
  rcases hr with hr | ⟨r1, gv, hk, x0, z, y, w, hy, hw, hx0, hz, r2⟩
  · rw [hr]
    exact Tm_ite (fun _ => Tm_some (VO_er hP (e := 1) (by decide))) (fun w => absurd rfl w)
  refine Tm_ite (fun w => absurd (r1.symm.trans w) (by decide)) (fun _ => ?_)
  rw [r2]
  have hP1 := Sl_VP (x := x0) (z := z) hP
  refine Tm_mono (Q := VO g B h t (mSc (mSc σ 100 x0) 101 z)) ?_ (fun r hr => Sl_VO hP hr)
  have hk1 : kdN ((mSc (mSc σ 100 x0) 101 z).2.2 28) v = 4 ∨ kdN ((mSc (mSc σ 100 x0) 101 z).2.2 28) v = 5 := hk
  have x1 : (mSc (mSc σ 100 x0) 101 z).1 100 = nI y ∨ (mSc (mSc σ 100 x0) 101 z).1 100 = - nI y := hx0
  have z1 : (mSc (mSc σ 100 x0) 101 z).1 101 = nI w ∨ (mSc (mSc σ 100 x0) 101 z).1 101 = - nI w := hz
  generalize mSc (mSc σ 100 x0) 101 z = ρ at hP1 hk1 x1 z1
  have hS1 := hP1.1
  have hb1 := HS_b hS1
  have kx := kdN_6 hS1 hx
  obtain ⟨n, v1, v2, v3, v4, v5, v6, v7⟩ := ob_at hS1 gv
  refine Tm_suc (fun k => by rw [x_putSlice]) ?_
  refine Tm_ob (s_kind hS1 hx (by exact h4)) (fun r hr => ?_)
  rw [hr]
  refine Tm_ob (s_kind hS1 hv (by exact h1)) (fun r hr => ?_)
  rw [hr]
  refine Tm_ite (fun e => ?_) (fun _ => Tm_ob (s_wrongKind _) (fun r hr => Tm_some (VO_wk hP1 hr)))
  have e := (n_eq (by omega) (by omega)).mp e
  have gx := kdN_ge hS1 hx (by omega)
  obtain ⟨m, c1, c2, c3, c4, c5, c6, c7⟩ := ob_at hS1 gx
  refine Tm_suc (fun k => by rw [x_putSlice]) ?_
  refine Tm_ob (s_isSliceIn hS1 v1 v2 (by omega) hy hw x1 z1 (by exact h1)) (fun s hs => ?_)
  rcases hs with hs | ⟨hs, s1, s2, s3, s4, s5⟩
  · rw [hs]
    exact Tm_ite (fun _ => Tm_some (VO_er hP1 (e := 4) (by decide))) (fun w => absurd rfl w)
  rw [hs]
  refine Tm_ite (fun w => absurd (show (1 : Int32) = 0 from w) (by decide)) (fun _ => ?_)
  refine Tm_suc (fun k => by rw [x_putSlice]) ?_
  rw [h1, h4, show nI v + 1 = nI (v + 1) from n_add1 v, show nI x + 1 = nI (x + 1) from n_add1 x]
  refine Tm_chk (n_in (by omega) (by omega)) ?_
  refine Tm_chk (n_in (by omega) (by omega)) ?_
  refine Tm_chk (n_in (by omega) (by omega)) ?_
  show Tm (fun k => if ρ.2.2 28 (nI v).toNatClampNeg = 4 then x_putSlice k 4 (upd (upd (upd (upd L 5 (ρ.2.2 28 (nI (v + 1)).toNatClampNeg)) 6 (ρ.2.2 28 (nI (x + 1)).toNatClampNeg)) 7 0) 8 0) ρ else x_putSlice k 13 (upd (upd L 5 (ρ.2.2 28 (nI (v + 1)).toNatClampNeg)) 6 (ρ.2.2 28 (nI (x + 1)).toNatClampNeg)) ρ) _
  rw [n_cl (p := v) (by omega), n_cl (p := v + 1) (by omega), n_cl (p := x + 1) (by omega), v1, c1, v5]
  refine Tm_ite (fun _ => ?_) (fun z => ?_)
  · exact s_ptS4 hP1 v1 (by omega) v2 (by omega) c2 s1 s2 s3 s4 s5 _ h1 h4 rfl rfl rfl rfl
  · have hk5 : 5 ≤ kdN (ρ.2.2 28) v := by
      rcases hk1 with e | e
      · exact absurd (by rw [e]; rfl) z
      · omega
    exact s_ptS13 hP1 v2 c2 (by omega) (by omega) (v7 hk5) (c7 (by omega)) s1 s2 s3 s4 s5 _ h1 h4 rfl rfl
end PTS
end JnS129
section JnS130
/-! Wholes: where there is no error, the answer is a whole (reference; made by wgen.py out of S99 to S101). -/
section WHW
variable {g : Nat → Prop} {l : List Nat} {B h t : Nat} {σ : MS}
/-- VO, and: no error, then a whole; and (where ok) room, then no new error -/
def VW (ok : Prop) (g : Nat → Prop) (B h t : Nat) (σ : MS) (r : Int32 × MS) : Prop := ∃ g' l' h', HG g B h σ r.2 g' l' h' ∧ FW t σ r.2 ∧ r.2.1 59 = nI t ∧ ErB r.2 ∧ (¬ σ.1 56 = 0 → ¬ r.2.1 56 = 0) ∧ Vd g' r.1 ∧ (r.2.1 56 = 0 → ∃ v n, r.1 = nI v ∧ g' v ∧ Wh r.2 v n) ∧ (ok → σ.1 56 = 0 → h + 100 ≤ B + 870000 → r.2.1 56 = 0) ∧ (r.2.1 56 = 0 → ∀ v, r.1 = nI v → v < 1740000 → r.2.2.2 28 v = nI 2)
theorem VW_VO {ok : Prop} {r : Int32 × MS} (a : VW ok g B h t σ r) : VO g B h t σ r := by
  obtain ⟨g', l', h', a1, a2, a3, a4, a5, a6, _, _⟩ := a
  exact ⟨g', l', h', a1, a2, a3, a4, a5, a6⟩
theorem VW_er {ok : Prop} (hP : VP g l B h t σ) {e : Nat} (he : e ≤ 11) (he0 : ¬ nI e = 0) (hn : ok → σ.1 56 = 0 → h + 100 ≤ B + 870000 → False) : VW ok g B h t σ (0, mEr σ (nI e)) := by
  obtain ⟨g', l', h', a1, a2, a3, a4, a5, a6⟩ := VO_er hP he
  exact ⟨g', l', h', a1, a2, a3, a4, a5, a6, fun z => absurd z (mEr_e he0), fun p q r => (hn p q r).elim, fun z => absurd z (mEr_e he0)⟩
theorem VW_NF {ok : Prop} {τ : MS} {r : Int32 × MS} (hN : NF σ τ) (hP : VP g l B h t σ) (b : VW ok g B h t τ r) : VW ok g B h t σ r := by
  obtain ⟨g', l', h', a1, a2, a3, a4, a5, a6, a7, a8, a9⟩ := b
  refine ⟨g', l', h', ⟨a1.1, a1.2.1, a1.2.2.1, fun i h1 h2 => ?_⟩, FW_tr (NF_FW hN) a2, a3, a4, fun z => a5 (by rw [hN.1 56 (by decide)]; exact z), a6, a7, fun p q => a8 p (by rw [hN.1 56 (by decide)]; exact q), a9⟩
  rw [a1.2.2.2 i h1 h2, hN.2 28 (by decide)]
theorem VW_NF_Tm {ok : Prop} {τ : MS} {f : Nat → Option (Int32 × MS)} (hN : NF σ τ) (hP : VP g l B h t σ) (b : Tm f (VW ok g B h t τ)) : Tm f (VW ok g B h t σ) := Tm_mono b (fun r hr => VW_NF hN hP hr)
theorem s_wholeOfW {ok : Prop} (hP : VP g l B h t σ) {c : Nat} (hc : c ≤ 300) (hok : ok → c ≤ 64) (h86 : σ.1 86 = nI c) (hLM : LM (σ.2.2 44) c) (L : Nat → Int32) (hsg : SgO (L 1) (σ.2.2 44) c) : Tm (fun k => x_wholeOf k 0 L σ) (VW ok g B h t σ) := by
  have hb := HS_b hP.1
  have hB := hP.1.2.1
  -- from the room on
  have l1 : ∀ (m : Nat) (τ : MS), m ≤ c → NF σ τ → τ.1 86 = nI m → τ.2.2 44 = σ.2.2 44 → ((L 1 = 1 ∨ L 1 = -1) ∨ m = 0) → Tm (fun k => x_wholeOf k 1 L τ) (VW ok g B h t σ) := by
    intro m τ hm hF t86 t44 hsm
    have hPt := NF_VP hF hP
    refine VW_NF_Tm hF hP ?_
    refine Tm_suc (fun k => by rw [x_wholeOf]) ?_
    rw [t86]
    refine Tm_ite (fun z => ?_) (fun z => ?_)
    case refine_2 =>
      refine Tm_ob (s_fail _ τ) (fun r hr => ?_)
      rw [hr]
      refine Tm_some (VW_er hPt (e := 5) (by decide) (by decide) (fun q _ _ => ?_))
      have := hok q
      exact absurd ((n_le (q := 64) (by omega) (by decide)).mpr (by omega)) z
    have z := (n_le (q := 64) (by omega) (by decide)).mp z
    refine Tm_suc (fun k => by rw [x_wholeOf]) ?_
    rw [t86, n_add1]
    refine Tm_ob (s_make hPt.1 (n := m + 1) (by omega) upd_same) (fun r hr => ?_)
    rcases hr with ⟨y, hr⟩ | ⟨y, hr⟩
    · rw [hr]
      refine Tm_ite (fun w => ?_) (fun _ => Tm_some (VW_er hPt (e := 5) (by decide) (by decide) (fun _ _ q => by omega)))
      obtain ⟨g', l', h', e1, e2, e3, ⟨e, e41, e42⟩, e5, e6⟩ := VO_er hPt (e := 5) (by decide)
      have w : (mEr τ 5).1 56 ≤ 0 := w
      have e41 : (mEr τ 5).1 56 = nI e := e41
      rw [e41] at w
      have w := (n_le0 (by omega)).mp w
      rw [w] at e41
      exact absurd e41 (mEr_e (by decide))
    rw [hr]
    have hErr : ErB τ := hPt.2.2.2
    refine Tm_ite (fun w => ?_) (fun w => ?_)
    case refine_2 =>
      -- an error stood before
      have hS2 := HS_mk (k := 2) hPt.1 y
      refine Tm_some ⟨g, _, _, ⟨hS2, fun _ z => z, by omega, fun i h1 h2 => ?_⟩, FW_mk, (mMk_s (by decide)).trans hPt.2.1, ?_, fun q => ?_, Vd_0, fun q => ?_, fun _ q _ => ?_, fun q => ?_⟩
      · rw [mMk_28, upd_other (by omega), upd_other (by omega), upd_other (by omega), upd_other (by omega)]
      · unfold ErB; rw [mMk_s (by decide)]; exact hErr
      · rw [mMk_s (by decide)]; exact q
      · exact absurd (show (mMk τ h 2 (m + 1)).1 56 ≤ 0 by rw [show (mMk τ h 2 (m + 1)).1 56 = 0 from q]; decide) w
      · exact absurd (show (mMk τ h 2 (m + 1)).1 56 ≤ 0 by rw [mMk_s (by decide), q]; decide) w
      · exact absurd (show (mMk τ h 2 (m + 1)).1 56 ≤ 0 by rw [show (mMk τ h 2 (m + 1)).1 56 = 0 from q]; decide) w
    -- the limbs
    have fin : ∀ (N : Nat → Int32) (υ : MS), N 2 = nI h → FW t τ υ → υ.1 59 = τ.1 59 → υ.1 56 = τ.1 56 → υ.1 55 = nI (h + 4 + (m + 1)) → υ.1 86 = nI m → υ.2.2 28 h = nI 2 → υ.2.2 28 (h + 1) = nI (m + 1) → υ.2.2 28 (h + 3) = nI 0 → SgOK (υ.2.2 28) h (m + 1) → (∀ i, i < m → ∃ d, d ≤ 65535 ∧ υ.2.2 28 (h + 5 + i) = nI d) → (∀ i, B + 4 ≤ i → i < h → υ.2.2 28 i = τ.2.2 28 i) → Tm (fun k => x_wholeOf k 9 N υ) (VW ok g B h t τ) := by
      intro N υ n2 hF2 u59 u56 u55 u86 uh u1 u3 uS uL hag
      refine Tm_suc (fun k => by rw [x_wholeOf]) ?_
      refine Tm_chk0 (by decide) ?_
      rw [n2, show nI h + 2 = nI (h + 2) from n_add (q := 2) (by omega)]
      refine Tm_chk (n_in (by omega) (by omega)) ?_
      rw [n_cl (p := h + 2) (by omega), u86, n_add1, show nI (m + 1) / 2 = nI ((m + 1) / 2) from n_div (q := 2) (by omega) (by decide) (by decide), show (1 : Int32) + nI ((m + 1) / 2) = nI (1 + (m + 1) / 2) from n_add (p := 1) (by omega)]
      show Tm (fun k => x_wholeOf k 10 N (mAr υ 28 (h + 2) (nI (1 + (m + 1) / 2)))) _
      refine Tm_suc (fun k => by rw [x_wholeOf]) ?_
      rw [n2]
      have u : ∀ j, j ≠ h + 2 → (mAr υ 28 (h + 2) (nI (1 + (m + 1) / 2))).2.2 28 j = υ.2.2 28 j := fun j hj => by rw [mAr_s, upd_other hj]
      have hG : GOn ((mAr υ 28 (h + 2) (nI (1 + (m + 1) / 2))).2.2 28) g h 2 (m + 1) (1 + (m + 1) / 2) 0 := by
        refine ⟨by rw [u h (by omega)]; exact uh, by rw [u (h + 1) (by omega)]; exact u1, by rw [mAr_s, upd_same], by rw [u (h + 3) (by omega)]; exact u3, by decide, by omega, by decide, by omega, fun _ => ⟨by omega, by omega, rfl, fun i hi => ?_, ?_⟩, fun z => absurd z (by decide), fun z => absurd z (by decide), fun z => absurd z (by decide)⟩
        · rw [u _ (by omega)]; exact uL i (by omega)
        · unfold SgOK; rw [u _ (by omega)]; exact uS
      exact Tm_some ⟨_, _, _, HS_good hPt.1 y (hF2.1 54 (by decide)) u55 (fun i h1 h2 => by rw [u i (by omega)]; exact hag i h1 h2) hG, FW_tr hF2 (FW_ar (Or.inl rfl)), u59.trans hPt.2.1, by unfold ErB; show ∃ e, υ.1 56 = nI e ∧ e ≤ 11; rw [u56]; exact hPt.2.2.2, fun y => by show ¬ υ.1 56 = 0; rw [u56]; exact y, ⟨h, rfl, Or.inr (Or.inr rfl)⟩, fun _ => ⟨h, m + 1, rfl, Or.inr rfl, by rw [u (h + 1) (by omega)]; exact u1, by omega, by omega, by omega, fun i hi => by rw [u _ (by omega)]; exact uL i (by omega), by unfold SgOK; rw [u _ (by omega)]; exact uS⟩, fun _ q _ => by show υ.1 56 = 0; rw [u56]; exact q, fun _ v hv hb => by
        have e : h = v := (n_eq (by omega) (by omega)).mp hv
        rw [← e, u h (by omega)]; exact uh⟩
    have l7 : ∀ (j i : Nat) (N : Nat → Int32) (υ : MS), j + i = m → N 2 = nI h → N 3 = nI i → FW t τ υ → υ.1 59 = τ.1 59 → υ.1 56 = τ.1 56 → υ.1 55 = nI (h + 4 + (m + 1)) → υ.1 86 = nI m → υ.2.2 44 = τ.2.2 44 → υ.2.2 28 h = nI 2 → υ.2.2 28 (h + 1) = nI (m + 1) → υ.2.2 28 (h + 3) = nI 0 → SgOK (υ.2.2 28) h (m + 1) → (∀ k, k < i → ∃ d, d ≤ 65535 ∧ υ.2.2 28 (h + 5 + k) = nI d) → (∀ i, B + 4 ≤ i → i < h → υ.2.2 28 i = τ.2.2 28 i) → Tm (fun k => x_wholeOf k 7 N υ) (VW ok g B h t τ) := by
      intro j
      induction j with
      | zero =>
        intro i N υ hi n2 n3 hF2 u59 u56 u55 u86 u44 uh u1 u3 uS uL hag
        refine Tm_suc (fun k => by rw [x_wholeOf]) ?_
        rw [u86, n3]
        exact Tm_ite (fun _ => fin N υ n2 hF2 u59 u56 u55 u86 uh u1 u3 uS (fun k hk => uL k (by omega)) hag) (fun q => absurd ((n_le (by omega) (by omega)).mpr (by omega)) q)
      | succ j ih =>
        intro i N υ hi n2 n3 hF2 u59 u56 u55 u86 u44 uh u1 u3 uS uL hag
        refine Tm_suc (fun k => by rw [x_wholeOf]) ?_
        rw [u86, n3, n2, show nI h + 5 = nI (h + 5) from n_add (q := 5) (by omega), n_add (by omega)]
        refine Tm_ite (fun q => absurd ((n_le (by omega) (by omega)).mp q) (by omega)) (fun _ => ?_)
        refine Tm_chk (n_in (by omega) (by omega)) ?_
        refine Tm_chk (n_in (by omega) (by omega)) ?_
        rw [n_cl (p := h + 5 + i) (by omega), n_cl (p := i) (by omega), u44, t44]
        show Tm (fun k => x_wholeOf k 8 N (mAr υ 28 (h + 5 + i) (σ.2.2 44 i))) _
        refine Tm_suc (fun k => by rw [x_wholeOf]) ?_
        have u : ∀ j, j ≠ h + 5 + i → (mAr υ 28 (h + 5 + i) (σ.2.2 44 i)).2.2 28 j = υ.2.2 28 j := fun j hj => by rw [mAr_s, upd_other hj]
        refine ih (i + 1) _ _ (by omega) n2 (by show N 3 + 1 = _; rw [n3, n_add1]) (FW_tr hF2 (FW_ar (Or.inl rfl))) u59 u56 u55 u86 (by rw [mAr_o (by decide)]; exact u44) (by rw [u _ (by omega)]; exact uh) (by rw [u _ (by omega)]; exact u1) (by rw [u _ (by omega)]; exact u3) (by unfold SgOK; rw [u _ (by omega)]; exact uS) (fun k hk => ?_) (fun i h1 h2 => by rw [u _ (by omega)]; exact hag i h1 h2)
        by_cases e : k = i
        · rw [e, mAr_s, upd_same]; exact hLM i (by omega)
        · rw [u _ (by omega)]; exact uL k (by omega)
    -- the sign
    have l5 : ∀ (N : Nat → Int32), N 2 = nI h → N 101 = nI (h + 4) → ((N 100 = 1 ∨ N 100 = -1) ∨ (m + 1 = 1 ∧ N 100 = 0)) → Tm (fun k => x_wholeOf k 5 N (mMk τ h 2 (m + 1))) (VW ok g B h t τ) := by
      intro N n2 n101 n100
      refine Tm_suc (fun k => by rw [x_wholeOf]) ?_
      rw [n101]
      refine Tm_chk (n_in (by omega) (by omega)) ?_
      rw [n_cl (p := h + 4) (by omega)]
      show Tm (fun k => x_wholeOf k 6 N (mAr (mMk τ h 2 (m + 1)) 28 (h + 4) (N 100))) _
      refine Tm_suc (fun k => by rw [x_wholeOf]) ?_
      have u : ∀ j, j ≠ h + 4 → (mAr (mMk τ h 2 (m + 1)) 28 (h + 4) (N 100)).2.2 28 j = (mMk τ h 2 (m + 1)).2.2 28 j := fun j hj => by rw [mAr_s, upd_other hj]
      refine l7 m 0 _ _ (by omega) n2 rfl (FW_tr FW_mk (FW_ar (Or.inl rfl))) (show (mMk τ h 2 (m + 1)).1 59 = τ.1 59 from mMk_s (by decide)) (show (mMk τ h 2 (m + 1)).1 56 = τ.1 56 from mMk_s (by decide)) ?_ (show (mMk τ h 2 (m + 1)).1 86 = nI m from (mMk_s (by decide)).trans t86) ?_ ?_ ?_ ?_ ?_ (fun k hk => absurd hk (Nat.not_lt_zero k)) (fun i h1 h2 => ?_)
      · show nI (h + (4 + (m + 1))) = _
        rw [Nat.add_assoc]
      · rw [mAr_o (by decide), mMk_o (by decide)]
      · rw [u h (by omega), mMk_28, upd_other (by omega), upd_other (by omega), upd_other (by omega), upd_same]; rfl
      · rw [u (h + 1) (by omega), mMk_28, upd_other (by omega), upd_other (by omega), upd_same]
      · rw [u (h + 3) (by omega), mMk_28, upd_same]; rfl
      · unfold SgOK; rw [mAr_s, upd_same]; exact n100
      · rw [u i (by omega), mMk_28, upd_other (by omega), upd_other (by omega), upd_other (by omega), upd_other (by omega)]
    refine Tm_suc (fun k => by rw [x_wholeOf]) ?_
    show Tm (fun k => if (mMk τ h 2 (m + 1)).1 86 = 0 then x_wholeOf k 5 (upd (upd (upd L 2 (nI h)) 100 0) 101 (nI h + 4)) (mMk τ h 2 (m + 1)) else x_wholeOf k 4 (upd (upd L 2 (nI h)) 100 (nI h + 4)) (mMk τ h 2 (m + 1))) _
    have e4 : nI h + 4 = nI (h + 4) := n_add (q := 4) (by omega)
    refine Tm_ite (fun w0 => ?_) (fun w0 => ?_)
    · refine l5 _ rfl e4 (Or.inr ⟨?_, rfl⟩)
      have w0 : (mMk τ h 2 (m + 1)).1 86 = nI 0 := w0
      rw [mMk_s (by decide), t86] at w0
      have := (n_eq (by omega) (by decide)).mp w0
      omega
    · refine Tm_suc (fun k => by rw [x_wholeOf]) ?_
      refine l5 _ rfl e4 (Or.inl (hsm.resolve_right (fun q => w0 ?_)))
      rw [mMk_s (by decide), t86, q]; rfl
  -- noughts at the top
  have l0 : ∀ (m : Nat) (τ : MS), m ≤ c → NF σ τ → τ.1 86 = nI m → τ.2.2 44 = σ.2.2 44 → Tm (fun k => x_wholeOf k 0 L τ) (VW ok g B h t σ) := by
    intro m
    induction m with
    | zero =>
      intro τ hm hF t86 t44
      refine Tm_suc (fun k => by rw [x_wholeOf]) ?_
      rw [t86]
      exact Tm_ite (fun _ => l1 0 τ hm hF t86 t44 (Or.inr rfl)) (fun q => absurd ((n_le0 (by decide)).mpr rfl) q)
    | succ m ih =>
      intro τ hm hF t86 t44
      refine Tm_suc (fun k => by rw [x_wholeOf]) ?_
      rw [t86, show nI (m + 1) - 1 = nI m from n_sub (p := m + 1) (q := 1) (by omega) (by omega)]
      refine Tm_ite (fun q => absurd ((n_le0 (by omega)).mp q) (by omega)) (fun _ => ?_)
      refine Tm_chk (n_in (by omega) (by omega)) ?_
      refine Tm_ite (fun _ => ?_) (fun w0 => l1 (m + 1) τ hm hF t86 t44 (Or.inl (hsg.resolve_right (fun q => w0 (by rw [n_cl (by omega), t44]; exact q m (by omega))))))
      exact ih (mSc τ 86 (nI m)) (by omega) (NF_tr hF (NF_sc (by decide))) rfl t44
  exact l0 c σ (Nat.le_refl _) NF_rf h86 rfl
theorem s_smallW (hP : VP g l B h t σ) (L : Nat → Int32) : Tm (fun k => x_small k 0 L σ) (VW True g B h t σ) := by
  have l8 : ∀ (N : Nat → Int32) (τ : MS) (c : Nat), c ≤ 64 → NF σ τ → τ.1 86 = nI c → LM (τ.2.2 44) c → (N 100 = 1 ∨ N 100 = -1) → Tm (fun k => x_small k 8 N τ) (VW True g B h t σ) := fun N τ c hc hF t86 hLM n100 => by
    refine Tm_suc (fun k => by rw [x_small]) ?_
    refine VW_NF_Tm hF hP (Tm_ob (s_wholeOfW (NF_VP hF hP) (by omega) (fun _ => hc) t86 hLM _ (Or.inl n100)) (fun r hr => Tm_some hr))
  have l6 : ∀ (N : Nat → Int32) (τ : MS) (c : Nat), c ≤ 64 → NF σ τ → τ.1 86 = nI c → LM (τ.2.2 44) c → Tm (fun k => x_small k 6 N τ) (VW True g B h t σ) := fun N τ c hc hF t86 hLM => by
    refine Tm_suc (fun k => by rw [x_small]) ?_
    refine Tm_ite (fun _ => ?_) (fun _ => l8 _ τ c hc hF t86 hLM (Or.inr rfl))
    refine Tm_suc (fun k => by rw [x_small]) ?_
    exact l8 _ τ c hc hF t86 hLM (Or.inl rfl)
  have l4 : ∀ (j m c : Nat) (N : Nat → Int32) (τ : MS), m < 65536 ^ j → m < 2147483648 → c + j ≤ 64 → N 2 = nI m → NF σ τ → τ.1 86 = nI c → LM (τ.2.2 44) c → Tm (fun k => x_small k 4 N τ) (VW True g B h t σ) := by
    intro j
    induction j with
    | zero =>
      intro m c N τ hm hm2 hc n2 hF t86 hLM
      have hm : m = 0 := by
        have : m < 1 := hm
        omega
      refine Tm_suc (fun k => by rw [x_small]) ?_
      rw [n2, hm]
      exact Tm_ite (fun _ => l6 N τ c (by omega) hF t86 hLM) (fun q => absurd ((n_le0 (by decide)).mpr rfl) q)
    | succ j ih =>
      intro m c N τ hm hm2 hc n2 hF t86 hLM
      refine Tm_suc (fun k => by rw [x_small]) ?_
      rw [n2, t86]
      refine Tm_ite (fun _ => l6 N τ c (by omega) hF t86 hLM) (fun _ => ?_)
      refine Tm_chk (n_in (by omega) (by omega)) ?_
      rw [n_cl (p := c) (by omega)]
      show Tm (fun k => x_small k 5 N (mAr τ 44 c (nI m &&& 65535))) _
      refine Tm_suc (fun k => by rw [x_small]) ?_
      rw [n2, n_ushr16 hm2]
      show Tm (fun k => x_small k 4 (upd N 2 (nI (m / 65536))) (mSc (mAr τ 44 c (nI m &&& 65535)) 86 (τ.1 86 + 1))) _
      rw [t86, n_add1]
      refine ih (m / 65536) (c + 1) _ _ ?_ (by omega) (by omega) rfl (NF_tr hF (NF_tr (NF_ar (by decide)) (NF_sc (by decide)))) rfl ?_
      · rw [Nat.pow_succ] at hm
        exact Nat.div_lt_of_lt_mul (by rw [Nat.mul_comm]; exact hm)
      · show LM ((mAr τ 44 c (nI m &&& 65535)).2.2 44) (c + 1)
        rw [mAr_s]; exact LM_suc hLM (n_and16 _)
  have l3 : ∀ N : Nat → Int32, Tm (fun k => x_small k 3 N (mSc σ 86 0)) (VW True g B h t σ) := fun N => by
    refine Tm_suc (fun k => by rw [x_small]) ?_
    by_cases z : 0 ≤ (N 100).toInt
    · have hb := i_bd (N 100)
      exact l4 2 (N 100).toInt.toNat 0 _ _ (by show _ < 4294967296; omega) (by omega) (by decide) (n_ofpos z) (NF_sc (by decide)) rfl (fun i hi => absurd hi (Nat.not_lt_zero i))
    · refine Tm_suc (fun k => by rw [x_small]) ?_
      refine Tm_ite (fun _ => l6 _ _ 0 (by decide) (NF_sc (by decide)) rfl (fun i hi => absurd hi (Nat.not_lt_zero i))) (fun q => absurd (i_le.mpr ?_) q)
      show (N 100).toInt ≤ 0
      omega
  refine Tm_suc (fun k => by rw [x_small]) ?_
  show Tm (fun k => x_small k 1 L (mSc σ 86 0)) _
  refine Tm_suc (fun k => by rw [x_small]) ?_
  refine Tm_ite (fun _ => ?_) (fun _ => l3 _)
  refine Tm_suc (fun k => by rw [x_small]) ?_
  exact l3 _
theorem s_addW (hP : VP g l B h t σ) {a b n m : Nat} (hA : Wh σ a n) (hB : Wh σ b m) {L : Nat → Int32} (h1 : L 1 = nI a) (h2 : L 2 = nI b) (h3 : L 3 = 1 ∨ L 3 = -1) : Tm (fun k => x_add k 0 L σ) (VW False g B h t σ) := by
  obtain ⟨a1, a2, a3, a4, a5⟩ := hA
  refine Tm_suc (fun k => by rw [x_add]) ?_
  refine Tm_ob (s_loadA hP.1 a1 a2 a3 a4 a5 (by exact h1)) (fun r1 hr1 => ?_)
  obtain ⟨hF1, p84, pA, _, _⟩ := hr1
  have bS := hB.2.2.2.2.2
  obtain ⟨b1, b2, b3, b4, b5⟩ := Wh_NF hF1 hB
  refine Tm_ob (s_loadB (NF_HS hF1 hP.1) b1 b2 b3 b4 b5 (by exact h2)) (fun r2 hr2 => ?_)
  obtain ⟨hF2, p85, pB, q42, q84⟩ := hr2
  have hF := NF_tr hF1 hF2
  have s84 : r2.2.1 84 = nI (n - 1) := q84.trans p84
  have sA : LM (r2.2.2.2 42) (n - 1) := by rw [q42]; exact pA
  refine Tm_ob (s_signOf (NF_HS hF hP.1) (m := a) (by omega) (by exact h1)) (fun r3 hr3 => ?_)
  rw [hr3]
  refine Tm_ob (s_signOf (NF_HS hF hP.1) (m := b) (by omega) (by exact h2)) (fun r4 hr4 => ?_)
  rw [hr4]
  have s28 : r2.2.2.2 28 = σ.2.2 28 := hF.2 28 (by decide)
  rw [s28]
  -- the answer
  have wf : ∀ (N : Nat → Int32) (τ : MS) (c : Nat), c ≤ 300 → NF σ τ → τ.1 86 = nI c → LM (τ.2.2 44) c → ∀ x : Int32, SgO x (τ.2.2 44) c → Tm (fun k => ob (x_wholeOf k 0 (upd (fun _ => 0) 1 x) τ) (fun r1 => some (r1.1, r1.2))) (VW False g B h t σ) := fun N τ c hc hF t86 hLM x hx => VW_NF_Tm hF hP (Tm_ob (s_wholeOfW (NF_VP hF hP) hc (fun z => z.elim) t86 hLM _ hx) (fun r hr => Tm_some hr))
  have l13 : ∀ (N : Nat → Int32) (τ : MS) (c : Nat), c ≤ 300 → NF σ τ → τ.1 86 = nI c → LM (τ.2.2 44) c → (SgP N ∨ c = 0) → Tm (fun k => x_add k 13 N τ) (VW False g B h t σ) := fun N τ c hc hF t86 hLM hG => by
    have l15 : ∀ N : Nat → Int32, SgO (N 100) (τ.2.2 44) c → Tm (fun k => x_add k 15 N τ) (VW False g B h t σ) := fun N hx => by
      refine Tm_suc (fun k => by rw [x_add]) ?_
      exact wf N τ c hc hF t86 hLM _ hx
    refine Tm_suc (fun k => by rw [x_add]) ?_
    refine Tm_ite (fun w0 => l15 _ (SgP_0 hG w0)) (fun w0 => ?_)
    refine Tm_suc (fun k => by rw [x_add]) ?_
    exact l15 _ (SgP_1 hG w0)
  have l30 : ∀ (N : Nat → Int32) (τ : MS) (c : Nat), c ≤ 300 → NF σ τ → τ.1 86 = nI c → LM (τ.2.2 44) c → SgQ N → Tm (fun k => x_add k 30 N τ) (VW False g B h t σ) := fun N τ c hc hF t86 hLM hG => by
    have l32 : ∀ N : Nat → Int32, (N 100 = 1 ∨ N 100 = -1) → Tm (fun k => x_add k 32 N τ) (VW False g B h t σ) := fun N hx => by
      refine Tm_suc (fun k => by rw [x_add]) ?_
      exact wf N τ c hc hF t86 hLM _ (Or.inl hx)
    refine Tm_suc (fun k => by rw [x_add]) ?_
    refine Tm_ite (fun _ => ?_) (fun _ => l32 _ hG.1)
    refine Tm_suc (fun k => by rw [x_add]) ?_
    exact l32 _ hG.2
  -- sums
  have l5 : ∀ (c j i : Nat) (N : Nat → Int32) (τ : MS), c ≤ 64 → j + i = c → N 7 = nI i → (¬ N 6 ≤ 0 → ∃ d, d ≤ 65535 ∧ N 6 = nI d) → (SgP N ∨ (c = 0 ∧ N 6 ≤ 0)) → NF σ τ → τ.1 84 = nI (n - 1) → τ.1 85 = nI (m - 1) → τ.1 86 = nI c → LM (τ.2.2 44) i → Tm (fun k => x_add k 5 N τ) (VW False g B h t σ) := by
    intro c j
    induction j with
    | zero =>
      intro i N τ hc hi n7 n6 hG hF t84 t85 t86 hLM
      refine Tm_suc (fun k => by rw [x_add]) ?_
      rw [t86, n7]
      refine Tm_ite (fun _ => ?_) (fun q => absurd ((n_le (by omega) (by omega)).mpr (by omega)) q)
      refine Tm_suc (fun k => by rw [x_add]) ?_
      refine Tm_ite (fun _ => l13 N τ c (by omega) hF t86 (LM_mo hLM (by omega)) (hG.imp id And.left)) (fun z => ?_)
      rw [t86]
      refine Tm_chk (n_in (by omega) (by omega)) ?_
      rw [n_cl (p := c) (by omega)]
      show Tm (fun k => x_add k 12 N (mAr τ 44 c (N 6))) _
      refine Tm_suc (fun k => by rw [x_add]) ?_
      show Tm (fun k => x_add k 13 N (mSc (mAr τ 44 c (N 6)) 86 (τ.1 86 + 1))) _
      rw [t86, n_add1]
      exact l13 N _ (c + 1) (by omega) (NF_tr hF (NF_tr (NF_ar (by decide)) (NF_sc (by decide)))) rfl (by show LM ((mAr τ 44 c (N 6)).2.2 44) (c + 1); rw [mAr_s]; exact LM_suc (LM_mo hLM (by omega)) (n6 z)) (Or.inl (hG.resolve_right (fun q => z q.2)))
    | succ j ih =>
      intro i N τ hc hi n7 n6 hG hF t84 t85 t86 hLM
      have l9 : ∀ N : Nat → Int32, SgP N → N 7 = nI i → Tm (fun k => x_add k 9 N τ) (VW False g B h t σ) := fun N gN n7 => by
        refine Tm_suc (fun k => by rw [x_add]) ?_
        rw [n7]
        refine Tm_chk (n_in (by omega) (by omega)) ?_
        rw [n_cl (p := i) (by omega)]
        generalize N 102 + (N 101 + N 100) = x
        show Tm (fun k => x_add k 10 (upd N 6 x) (mAr τ 44 i (x &&& 65535))) _
        refine Tm_suc (fun k => by rw [x_add]) ?_
        exact ih (i + 1) _ _ hc (by omega) (by show N 7 + 1 = _; rw [n7, n_add1]) (fun z => n_shr16 x z) (Or.inl gN) (NF_tr hF (NF_ar (by decide))) t84 t85 t86 (by rw [mAr_s]; exact LM_suc hLM (n_and16 _))
      have l7 : ∀ N : Nat → Int32, SgP N → N 7 = nI i → Tm (fun k => x_add k 7 N τ) (VW False g B h t σ) := fun N gN n7 => by
        refine Tm_suc (fun k => by rw [x_add]) ?_
        rw [t85, n7]
        refine Tm_ite (fun _ => ?_) (fun _ => ?_)
        · refine Tm_suc (fun k => by rw [x_add]) ?_
          exact l9 _ gN n7
        · refine Tm_chk (n_in (by omega) (by omega)) ?_
          exact l9 _ gN n7
      have gN : SgP N := hG.resolve_right (fun q => by omega)
      refine Tm_suc (fun k => by rw [x_add]) ?_
      rw [t86, n7, t84]
      refine Tm_ite (fun q => absurd ((n_le (by omega) (by omega)).mp q) (by omega)) (fun _ => ?_)
      refine Tm_ite (fun _ => ?_) (fun _ => ?_)
      · refine Tm_suc (fun k => by rw [x_add]) ?_
        exact l7 _ gN n7
      · refine Tm_chk (n_in (by omega) (by omega)) ?_
        exact l7 _ gN n7
  -- differences
  have l20 : ∀ (c j i : Nat) (N : Nat → Int32) (τ : MS), c ≤ 64 → j + i = c → N 8 = nI i → SgQ N → NF σ τ → τ.1 84 = nI (n - 1) → τ.1 85 = nI (m - 1) → τ.1 86 = nI c → LM (τ.2.2 44) i → Tm (fun k => x_add k 20 N τ) (VW False g B h t σ) := by
    intro c j
    induction j with
    | zero =>
      intro i N τ hc hi n7 hG hF t84 t85 t86 hLM
      refine Tm_suc (fun k => by rw [x_add]) ?_
      rw [t86, n7]
      exact Tm_ite (fun _ => l30 N τ c (by omega) hF t86 (LM_mo hLM (by omega)) hG) (fun q => absurd ((n_le (by omega) (by omega)).mpr (by omega)) q)
    | succ j ih =>
      intro i N τ hc hi n7 hG hF t84 t85 t86 hLM
      have l28 : ∀ N : Nat → Int32, SgQ N → N 8 = nI i → Tm (fun k => x_add k 28 N τ) (VW False g B h t σ) := fun N gN n7 => by
        refine Tm_suc (fun k => by rw [x_add]) ?_
        rw [n7]
        refine Tm_chk (n_in (by omega) (by omega)) ?_
        rw [n_cl (p := i) (by omega)]
        show Tm (fun k => x_add k 29 (upd N 7 (N 100)) (mAr τ 44 i (N 11 &&& 65535))) _
        refine Tm_suc (fun k => by rw [x_add]) ?_
        exact ih (i + 1) _ _ hc (by omega) (by show N 8 + 1 = _; rw [n7, n_add1]) gN (NF_tr hF (NF_ar (by decide))) t84 t85 t86 (by rw [mAr_s]; exact LM_suc hLM (n_and16 _))
      have l26 : ∀ N : Nat → Int32, SgQ N → N 8 = nI i → Tm (fun k => x_add k 26 N τ) (VW False g B h t σ) := fun N gN n7 => by
        refine Tm_suc (fun k => by rw [x_add]) ?_
        refine Tm_ite (fun _ => ?_) (fun _ => l28 _ gN n7)
        refine Tm_suc (fun k => by rw [x_add]) ?_
        exact l28 _ gN n7
      have l24 : ∀ N : Nat → Int32, SgQ N → N 8 = nI i → Tm (fun k => x_add k 24 N τ) (VW False g B h t σ) := fun N gN n7 => by
        refine Tm_suc (fun k => by rw [x_add]) ?_
        refine Tm_ite (fun _ => ?_) (fun _ => l26 _ gN n7)
        refine Tm_suc (fun k => by rw [x_add]) ?_
        exact l26 _ gN n7
      have l22 : ∀ N : Nat → Int32, SgQ N → N 8 = nI i → Tm (fun k => x_add k 22 N τ) (VW False g B h t σ) := fun N gN n7 => by
        refine Tm_suc (fun k => by rw [x_add]) ?_
        rw [t85, n7]
        refine Tm_ite (fun _ => ?_) (fun _ => ?_)
        · refine Tm_suc (fun k => by rw [x_add]) ?_
          exact l24 _ gN n7
        · refine Tm_chk (n_in (by omega) (by omega)) ?_
          exact l24 _ gN n7
      refine Tm_suc (fun k => by rw [x_add]) ?_
      rw [t86, n7, t84]
      refine Tm_ite (fun q => absurd ((n_le (by omega) (by omega)).mp q) (by omega)) (fun _ => ?_)
      refine Tm_ite (fun _ => ?_) (fun _ => ?_)
      · refine Tm_suc (fun k => by rw [x_add]) ?_
        exact l22 _ hG n7
      · refine Tm_chk (n_in (by omega) (by omega)) ?_
        exact l22 _ hG n7
  have nil : LM (r2.2.2.2 44) 0 := fun i hi => absurd hi (Nat.not_lt_zero i)
  have go1 : ∀ N : Nat → Int32, (SgP N ∨ (n = 1 ∧ m = 1)) → Tm (fun k => x_add k 1 N r2.2) (VW False g B h t σ) := fun N gN => by
    have l3 : ∀ (c : Nat) (N : Nat → Int32), c ≤ 64 → N 6 = 0 → N 100 = nI c → (SgP N ∨ c = 0) → Tm (fun k => x_add k 3 N r2.2) (VW False g B h t σ) := fun c N hc n6 n100 gN => by
      refine Tm_suc (fun k => by rw [x_add]) ?_
      rw [n100]
      show Tm (fun k => x_add k 4 N (mSc r2.2 86 (nI c))) _
      refine Tm_suc (fun k => by rw [x_add]) ?_
      have n6' : N 6 ≤ 0 := by rw [n6]; decide
      refine l5 c c 0 _ _ hc (by omega) rfl (fun z => absurd n6' z) (gN.imp id (fun q => ⟨q, n6'⟩)) (NF_tr hF (NF_sc (by decide))) s84 p85 rfl nil
    refine Tm_suc (fun k => by rw [x_add]) ?_
    refine Tm_ite (fun _ => ?_) (fun _ => ?_)
    · refine Tm_suc (fun k => by rw [x_add]) ?_
      exact l3 (m - 1) _ (by omega) rfl p85 (gN.imp id (fun q => by omega))
    · exact l3 (n - 1) _ (by omega) rfl s84 (gN.imp id (fun q => by omega))
  have go16 : ∀ N : Nat → Int32, SgQ N → Tm (fun k => x_add k 16 N r2.2) (VW False g B h t σ) := fun N gN => by
    have l18 : ∀ (c : Nat) (N : Nat → Int32), c ≤ 64 → N 100 = nI c → SgQ N → Tm (fun k => x_add k 18 N r2.2) (VW False g B h t σ) := fun c N hc n100 gN => by
      refine Tm_suc (fun k => by rw [x_add]) ?_
      rw [n100]
      show Tm (fun k => x_add k 19 N (mSc r2.2 86 (nI c))) _
      refine Tm_suc (fun k => by rw [x_add]) ?_
      exact l20 c c 0 _ _ hc (by omega) rfl gN (NF_tr hF (NF_sc (by decide))) s84 p85 rfl nil
    refine Tm_suc (fun k => by rw [x_add]) ?_
    refine Tm_ob (s_cmpR42 (n := n - 1) (by omega) (by exact s84)) (fun r5 hr5 => ?_)
    rw [hr5]
    refine Tm_ite (fun _ => ?_) (fun _ => ?_)
    · refine Tm_suc (fun k => by rw [x_add]) ?_
      exact l18 (m - 1) _ (by omega) p85 gN
    · exact l18 (n - 1) _ (by omega) s84 gN
  obtain ⟨z1, z2, z3⟩ := Sg_add a5.2 bS h3
  refine Tm_ite (fun w0 => go1 _ (z1 w0)) (fun w0 => ?_)
  refine Tm_ite (fun w1 => go1 _ (z2 w0)) (fun w1 => ?_)
  exact Tm_ite (fun _ => go1 _ (z2 w0)) (fun _ => go16 _ (z3 w0 w1))
end WHW
end JnS130
section JnS131
/-! Ranges (reference). -/
section RNG
variable {g : Nat → Prop} {l : List Nat} {B h t : Nat} {σ : MS}
theorem s_pop {u : Nat} (h59 : σ.1 59 = nI (u + 1)) (hu : u < 185000) (L : Nat → Int32) : Tm (fun k => x_pop k 0 L σ) (fun r => r = (σ.2.2 29 u, mSc σ 59 (nI u))) := by
  refine Tm_suc (fun k => by rw [x_pop]) ?_
  rw [h59, show nI (u + 1) - 1 = nI u from n_sub (p := u + 1) (q := 1) (by omega) (by omega)]
  show Tm (fun k => x_pop k 1 L (mSc σ 59 (nI u))) _
  refine Tm_suc (fun k => by rw [x_pop]) ?_
  show Tm (fun k => if ¬ (nI u < 0 ∨ 185000 ≤ (nI u).toNatClampNeg) then some (σ.2.2 29 (nI u).toNatClampNeg, mSc σ 59 (nI u)) else none) _
  refine Tm_chk (n_in (by omega) (by omega)) ?_
  rw [n_cl (p := u) (by omega)]
  exact Tm_some rfl
def RgW (g : Nat → Prop) (τ : MS) (x : Int32) : Prop := ∃ v n, x = nI v ∧ g v ∧ Wh τ v n
theorem RgW_of (hS : HS g l B h σ) {v : Nat} (hv : v < 3 ∨ g v) (hk : kdN (σ.2.2 28) v = 2) : RgW g σ (nI v) := by
  obtain ⟨n, hn⟩ := Wh_of hS hv hk
  exact ⟨v, n, rfl, kdN_ge hS hv (by omega), hn⟩
theorem RgW_c {g2 : Nat → Prop} {τ : MS} {x : Int32} (hx : RgW g σ x) (hg : ∀ v, g v → g2 v) (h28 : τ.2.2 28 = σ.2.2 28) : RgW g2 τ x := by
  obtain ⟨v, n, e, gv, w⟩ := hx
  refine ⟨v, n, e, hg v gv, ?_⟩
  unfold Wh
  rw [h28]
  exact w
theorem RgW_HG {g2 : Nat → Prop} {l2 : List Nat} {h2 : Nat} {τ : MS} {x : Int32} (hS : HS g l B h σ) (a : HG g B h σ τ g2 l2 h2) (hx : RgW g σ x) : RgW g2 τ x := by
  obtain ⟨v, n, e, gv, w1, w2, w3, w4, w5⟩ := hx
  obtain ⟨m, v1, v2, v3, v4, -, -, -⟩ := ob_at hS gv
  have em : m = n := (n_eq (by omega) (by omega)).mp (v1.symm.trans w1)
  subst em
  refine ⟨v, m, e, a.2.1 v gv, ?_, w2, w3, w4, fun i hi => ?_, ?_⟩
  · rw [a.2.2.2 (v + 1) (by omega) (by omega)]; exact w1
  · rw [a.2.2.2 (v + 5 + i) (by omega) (by omega)]; exact w5.1 i hi
  · unfold SgOK; rw [a.2.2.2 (v + 4) (by omega) (by omega)]; exact w5.2
theorem RgW_cmp (hS : HS g l B h σ) {x y : Int32} (hx : RgW g σ x) (hy : RgW g σ y) {L : Nat → Int32} (h1 : L 1 = x) (h2 : L 2 = y) : Tm (fun k => x_compareWholes k 0 L σ) (fun r => r.2 = σ) := by
  obtain ⟨v, n, e, gv, w1, w2, w3, w4, w5⟩ := hx
  obtain ⟨u, m, f, gu, q1, q2, q3, q4, q5⟩ := hy
  exact s_compareWholes hS w1 q1 (by omega) (by omega) w4 q4 w2 q2 (h1.trans e) (h2.trans f)
theorem RgW_Vd {τ : MS} {x : Int32} (hx : RgW g τ x) : Vd g x := by
  obtain ⟨v, n, e, gv, _⟩ := hx
  exact ⟨v, e, Or.inr gv⟩
/-- a whole, or om (where there was no room for the step) -/
def RgZ (g : Nat → Prop) (τ : MS) (x : Int32) : Prop := RgW g τ x ∨ x = 0
theorem RgZ_Vd {τ : MS} {x : Int32} (hx : RgZ g τ x) : Vd g x := by
  rcases hx with hx | hx
  · exact RgW_Vd hx
  · rw [hx]; exact Vd_0
theorem sub0 {x y : Int32} (h : x - y = 0) : x = y := by
  have e : x - y + y = x := Int32.sub_add_cancel x y
  rw [h, Int32.zero_add] at e
  exact e.symm
/-- om is compared with a whole: it reads no wrong cell -/
theorem RgZ_cmp (hS : HS g l B h σ) {x y : Int32} (hx : RgZ g σ x) (hy : RgW g σ y) {L : Nat → Int32} (h1 : L 1 = x) (h2 : L 2 = y) : Tm (fun k => x_compareWholes k 0 L σ) (fun r => r.2 = σ) := by
  rcases hx with hx | hx
  · exact RgW_cmp hS hx hy h1 h2
  obtain ⟨u, m, f, gu, q1, q2, q3, q4, q5⟩ := hy
  have h1 : L 1 = nI 0 := h1.trans hx
  have h2 : L 2 = nI u := h2.trans f
  by_cases e : σ.2.2 28 1 = nI m
  · exact s_compareWholes (a := 0) hS e q1 (by omega) (by omega) (by omega) q4 q2 q2 h1 h2
  have b3 : ∀ N : Nat → Int32, N 1 = nI 0 → Tm (fun k => x_compareWholes k 3 N σ) (fun r => r.2 = σ) := by
    intro N n1
    refine Tm_suc (fun k => by rw [x_compareWholes]) ?_
    refine Tm_ob (s_signOf hS (m := 0) (by decide) (by exact n1)) (fun r hr => ?_)
    rw [hr]
    refine Tm_ite (fun _ => ?_) (fun _ => ?_)
    · refine Tm_suc (fun k => by rw [x_compareWholes]) ?_
      refine Tm_suc (fun k => by rw [x_compareWholes]) ?_
      exact Tm_some rfl
    · refine Tm_suc (fun k => by rw [x_compareWholes]) ?_
      exact Tm_some rfl
  refine Tm_suc (fun k => by rw [x_compareWholes]) ?_
  refine Tm_ob (s_signOf hS (m := 0) (by decide) (by exact h1)) (fun r hr => ?_)
  rw [hr]
  refine Tm_ob (s_signOf hS (m := u) (by omega) (by exact h2)) (fun r hr => ?_)
  rw [hr]
  refine Tm_ite (fun _ => ?_) (fun _ => ?_)
  · refine Tm_suc (fun k => by rw [x_compareWholes]) ?_
    rw [h1, h2, show nI 0 + 1 = nI 1 from rfl, n_add1]
    refine Tm_chk (n_in (by omega) (by omega)) ?_
    refine Tm_chk (n_in (by omega) (by omega)) ?_
    rw [n_cl (p := 1) (by omega), n_cl (p := u + 1) (by omega), q1]
    refine Tm_suc (fun k => by rw [x_compareWholes]) ?_
    refine Tm_ite (fun _ => b3 _ h1) (fun _ => ?_)
    refine Tm_ite (fun w => absurd (sub0 w) e) (fun _ => b3 _ h1)
  · refine Tm_ob (s_signOf hS (m := 0) (by decide) (by exact h1)) (fun r hr => ?_)
    rw [hr]
    refine Tm_ob (s_signOf hS (m := u) (by omega) (by exact h2)) (fun r hr => ?_)
    rw [hr]
    exact Tm_some rfl
/-- the state goes on while values lie upon the pile -/
theorem PuH_st {n : Nat} {τ υ : MS} {g1 g2 : Nat → Prop} {l1 l2 : List Nat} {h1 h2 : Nat} (hU : PuH g B h t n σ τ g1 l1 h1) (a : HG g1 B h1 τ υ g2 l2 h2) (hF : FW (t + n) τ υ) (h59 : υ.1 59 = nI (t + n)) (hE : ErB υ) (he : ¬ σ.1 56 = 0 → ¬ υ.1 56 = 0) : PuH g B h t n σ υ g2 l2 h2 := by
  obtain ⟨a1, a2, a3, a4, a5, a6⟩ := hU
  refine ⟨HG_tr a1 a, FW_tr a2 (FW_mo hF (by omega)), h59, fun i hi => ?_, hE, he⟩
  rw [hF.2.2 (t + i) (by omega)]
  obtain ⟨m, m1, m2⟩ := a4 i hi
  exact ⟨m, m1, m2.imp id (a.2.1 m)⟩
theorem s_rng15 (h56 : σ.1 56 = 0) (ht : t ≤ 175990) : ∀ (q p : Nat) (N : Nat → Int32) (τ : MS) (g1 : Nat → Prop) (l1 : List Nat) (h1 : Nat), 1001 ≤ q + p → p ≤ 1000 → PuH g B h t p σ τ g1 l1 h1 → RgW g1 τ (N 3) → N 9 = nI t → (¬ N 11 = 0 → RgZ g1 τ (N 10) ∧ (N 7 = 0 → RgW g1 τ (N 10))) → ((N 7 = 0 ∧ RgW g1 τ (N 6)) ∨ (¬ N 7 = 0 ∧ RgZ g1 τ (N 4))) → Tm (fun k => x_range k 15 N τ) (VQ g B h t 1001 σ) := by
  have b24 : ∀ (p : Nat) (N : Nat → Int32) (τ : MS) (g1 : Nat → Prop) (l1 : List Nat) (h1 : Nat), p ≤ 1001 → PuH g B h t p σ τ g1 l1 h1 → N 9 = nI t → Tm (fun k => x_range k 24 N τ) (VQ g B h t 1001 σ) := by
    intro p N τ g1 l1 h1 hp hU n9
    have b27 : ∀ (M : Nat → Int32) (r : Int32 × MS), M 100 = r.1 → VO g B h t σ r → Tm (fun k => x_range k 27 M r.2) (VQ g B h t 1001 σ) := fun M r hM hr => by
      refine Tm_suc (fun k => by rw [x_range]) ?_
      rw [hM]; exact Tm_some (VQ_of hr)
    refine Tm_suc (fun k => by rw [x_range]) ?_
    refine Tm_ite (fun _ => ?_) (fun w => Tm_some (PuH_er hU hp (fun e => w (by rw [e]; decide))))
    refine Tm_suc (fun k => by rw [x_range]) ?_
    refine Tm_ite (fun _ => ?_) (fun _ => ?_)
    · refine Tm_suc (fun k => by rw [x_range]) ?_
      obtain ⟨a1, a2, a3, a4, a5, a6⟩ := hU
      exact Tm_ob (s_tupleOf a1.1 a5 a3 (by omega) a4 (by exact n9)) (fun r hr => b27 _ r rfl (VO_tr a1 a2 a6 hr))
    · exact Tm_ob (PuH_set hU (by omega) (by omega) (by exact n9)) (fun r hr => b27 _ r rfl hr)
  intro q
  induction q with
  | zero => intro p N τ g1 l1 h1 hq hp; omega
  | succ q ih =>
    intro p N τ g1 l1 h1 hq hp hU r3 n9 r10 r67
    have b17 : RgZ g1 τ (N 10) ∧ (N 7 = 0 → RgW g1 τ (N 10)) → Tm (fun k => x_range k 17 N τ) (VQ g B h t 1001 σ) := by
      intro r10
      refine Tm_suc (fun k => by rw [x_range]) ?_
      refine Tm_ob (s_push hU.2.2.1 (by omega) _) (fun r hr => ?_)
      rw [hr]
      obtain ⟨g2, l2, h2, hW, hsub⟩ := PuH_VO (r := (N 10, τ)) hU ⟨g1, l1, h1, HG_rf hU.1.1, FW_rf, hU.2.2.1, hU.2.2.2.2.1, fun z => z, RgZ_Vd r10.1⟩
      show Tm (fun k => if nI (t + p + 1) - N 9 ≤ 1000 then x_range k 18 N (mPu τ (t + p) (N 10)) else ob (x_fail k 0 (upd (fun _ => 0) 1 5) (mPu τ (t + p) (N 10))) (fun r3 => x_range k 15 N r3.2)) _
      have hW : PuH g B h t (p + 1) σ (mPu τ (t + p) (N 10)) g2 l2 h2 := hW
      have tr : ∀ x, RgW g1 τ x → RgW g2 (mPu τ (t + p) (N 10)) x := fun x hx => RgW_c hx hsub (mPu_o (by decide))
      have s3 := tr _ r3
      have s10 := fun z => tr _ (r10.2 z)
      have s67 : (N 7 = 0 ∧ RgW g2 (mPu τ (t + p) (N 10)) (N 6)) ∨ (¬ N 7 = 0 ∧ RgZ g2 (mPu τ (t + p) (N 10)) (N 4)) := r67.imp (fun z => ⟨z.1, tr _ z.2⟩) (fun z => ⟨z.1, z.2.imp (tr _) id⟩)
      generalize mPu τ (t + p) (N 10) = υ at hW s3 s10 s67
      rw [n9, n_sub (by omega) (by omega), show t + p + 1 - t = p + 1 by omega]
      refine Tm_ite (fun w => ?_) (fun _ => ?_)
      case refine_2 =>
        refine Tm_ob (s_fail _ υ) (fun r hr => ?_)
        rw [hr]
        refine Tm_suc (fun k => by rw [x_range]) ?_
        refine Tm_ite (fun w => absurd w (mEr_e (by decide))) (fun _ => ?_)
        refine b24 (p + 1) N _ g2 l2 h2 (by omega) ?_ n9
        exact PuH_st hW ⟨HS_er hW.1.1 5, fun _ z => z, Nat.le_refl _, fun _ _ _ => rfl⟩ FW_er ((mEr_s (by decide)).trans hW.2.2.1) (ErB_er (e := 5) hW.2.2.2.2.1 (by decide)) (fun z => absurd h56 z)
      have hp1 := (n_le (q := 1000) (by omega) (by decide)).mp w
      refine Tm_suc (fun k => by rw [x_range]) ?_
      refine Tm_ite (fun z7 => ?_) (fun z7 => ?_)
      · -- one step on
        have s6 : RgW g2 υ (N 6) := by
          rcases s67 with z | z
          · exact z.2
          · exact absurd z7 z.1
        obtain ⟨va, na, ea, ga, wa⟩ := s10 z7
        obtain ⟨vb, nb, eb, gb, wb⟩ := s6
        have hPu : VP g2 l2 B h2 (t + (p + 1)) υ := ⟨hW.1.1, hW.2.2.1, by omega, hW.2.2.2.2.1⟩
        refine Tm_suc (fun k => by rw [x_range]) ?_
        refine Tm_ob (s_addW hPu wa wb (by exact ea) (by exact eb) (Or.inl rfl)) (fun s hs => ?_)
        obtain ⟨g3, l3, h3, c1, c2, c3, c4, c5, c6, c7, c8⟩ := hs
        have tr3 : ∀ x, RgW g2 υ x → RgW g3 s.2 x := fun x hx => RgW_HG hW.1.1 c1 hx
        have b23 : ∀ M : Nat → Int32, M 3 = N 3 → M 9 = nI t → M 10 = s.1 → M 6 = N 6 → M 7 = 0 → (¬ M 100 = 0 → s.2.1 56 = 0) → Tm (fun k => x_range k 23 M s.2) (VQ g B h t 1001 σ) := by
          intro M m3 m9 m10 m6 m7 m100
          refine Tm_suc (fun k => by rw [x_range]) ?_
          show Tm (fun k => x_range k 15 (upd M 11 (M 100)) (mSc s.2 56 0)) _
          have d28 : (mSc s.2 56 0).2.2 28 = s.2.2.2 28 := rfl
          refine ih (p + 1) _ _ g3 l3 h3 (by omega) hp1 ?_ ?_ m9 ?_ (Or.inl ⟨m7, ?_⟩)
          · refine PuH_st hW ⟨HS_c c1.1 rfl rfl rfl, c1.2.1, c1.2.2.1, c1.2.2.2⟩ (FW_tr c2 (FW_sc (Or.inr (Or.inl rfl)))) c3 ⟨0, rfl, by decide⟩ (fun z => absurd h56 z)
          · show RgW g3 (mSc s.2 56 0) (M 3)
            rw [m3]; exact RgW_c (tr3 _ s3) (fun _ z => z) d28
          · intro z
            have z : ¬ M 100 = 0 := z
            have y : RgW g3 (mSc s.2 56 0) (M 10) := by
              rw [m10]
              exact RgW_c (c7 (m100 z)) (fun _ z => z) d28
            exact ⟨Or.inl y, fun _ => y⟩
          · show RgW g3 (mSc s.2 56 0) (M 6)
            rw [m6]; exact RgW_c (tr3 _ ⟨vb, nb, eb, gb, wb⟩) (fun _ z => z) d28
        refine Tm_ite (fun w0 => b23 _ rfl n9 rfl rfl z7 (fun _ => w0)) (fun _ => ?_)
        refine Tm_suc (fun k => by rw [x_range]) ?_
        exact b23 _ rfl n9 rfl rfl z7 (fun z => absurd rfl z)
      · have s4 : RgZ g2 υ (N 4) := by
          rcases s67 with z | z
          · exact absurd z.1 z7
          · exact z.2
        have b20 : ∀ M : Nat → Int32, M 3 = N 3 → M 9 = nI t → M 4 = N 4 → M 7 = N 7 → Tm (fun k => x_range k 20 M υ) (VQ g B h t 1001 σ) := by
          intro M m3 m9 m4 m7
          refine Tm_suc (fun k => by rw [x_range]) ?_
          refine ih (p + 1) _ _ g2 l2 h2 (by omega) hp1 hW ?_ m9 (fun _ => ?_) (Or.inr ⟨?_, ?_⟩)
          · show RgW g2 υ (M 3)
            rw [m3]; exact s3
          · refine ⟨?_, fun z => absurd (m7.symm.trans z) z7⟩
            show RgZ g2 υ (M 4)
            rw [m4]; exact s4
          · show ¬ M 7 = 0
            rw [m7]; exact z7
          · show RgZ g2 υ (M 4)
            rw [m4]; exact s4
        refine Tm_ite (fun _ => ?_) (fun _ => b20 _ rfl n9 rfl rfl)
        refine Tm_suc (fun k => by rw [x_range]) ?_
        exact b20 _ rfl n9 rfl rfl
    have e24 := b24 p N τ g1 l1 h1 (by omega) hU n9
    refine Tm_suc (fun k => by rw [x_range]) ?_
    refine Tm_ite (fun _ => ?_) (fun _ => e24)
    refine Tm_ite (fun _ => e24) (fun z11 => ?_)
    have s10 := r10 z11
    refine Tm_ite (fun _ => ?_) (fun _ => ?_)
    · refine Tm_suc (fun k => by rw [x_range]) ?_
      refine Tm_ob (RgZ_cmp hU.1.1 s10.1 r3 rfl rfl) (fun r hr => ?_)
      rw [hr]
      exact Tm_ite (fun _ => e24) (fun _ => b17 s10)
    · refine Tm_ob (RgZ_cmp hU.1.1 s10.1 r3 rfl rfl) (fun r hr => ?_)
      rw [hr]
      exact Tm_ite (fun _ => e24) (fun _ => b17 s10)
end RNG
end JnS131
section JnS132
/-! Ranges, from their start (reference). -/
section RNS
variable {g : Nat → Prop} {l : List Nat} {B h t : Nat} {σ : MS}
theorem s_rng9 (h56 : σ.1 56 = 0) (ht : t ≤ 175990) (N : Nat → Int32) (τ : MS) (g1 : Nat → Prop) (l1 : List Nat) (h1 : Nat) (hU : PuH g B h t 0 σ τ g1 l1 h1) (r3 : RgW g1 τ (N 3)) (r5 : RgW g1 τ (N 5)) (r67 : (N 7 = 0 ∧ RgW g1 τ (N 6)) ∨ (¬ N 7 = 0 ∧ RgZ g1 τ (N 4))) : Tm (fun k => x_range k 9 N τ) (VQ g B h t 1001 σ) := by
  have b14 : ∀ M : Nat → Int32, M 3 = N 3 → M 10 = N 5 → M 7 = N 7 → M 6 = N 6 → M 4 = N 4 → M 9 = nI t → Tm (fun k => x_range k 14 M τ) (VQ g B h t 1001 σ) := by
    intro M m3 m10 m7 m6 m4 m9
    refine Tm_suc (fun k => by rw [x_range]) ?_
    refine s_rng15 h56 ht 1001 0 _ τ g1 l1 h1 (by omega) (by omega) hU ?_ m9 (fun _ => ?_) ?_
    · show RgW g1 τ (M 3)
      rw [m3]; exact r3
    · have y : RgW g1 τ (M 10) := by rw [m10]; exact r5
      exact ⟨Or.inl y, fun _ => y⟩
    · show (M 7 = 0 ∧ RgW g1 τ (M 6)) ∨ (¬ M 7 = 0 ∧ RgZ g1 τ (M 4))
      rw [m7, m6, m4]; exact r67
  have b12 : ∀ M : Nat → Int32, M 3 = N 3 → M 5 = N 5 → M 7 = N 7 → M 6 = N 6 → M 4 = N 4 → Tm (fun k => x_range k 12 M τ) (VQ g B h t 1001 σ) := by
    intro M m3 m5 m7 m6 m4
    have h59 : τ.1 59 = nI t := hU.2.2.1
    refine Tm_suc (fun k => by rw [x_range]) ?_
    refine Tm_ite (fun _ => ?_) (fun _ => b14 _ m3 m5 m7 m6 m4 h59)
    refine Tm_suc (fun k => by rw [x_range]) ?_
    exact b14 _ m3 m5 m7 m6 m4 h59
  refine Tm_suc (fun k => by rw [x_range]) ?_
  refine Tm_ite (fun z => ?_) (fun z => ?_)
  · rcases r67 with r67 | r67
    · obtain ⟨v, n, e, gv, w1, w2, w3, w4, w5⟩ := r67.2
      refine Tm_suc (fun k => by rw [x_range]) ?_
      refine Tm_ob (s_signOf hU.1.1 (m := v) (by omega) (by exact e)) (fun r hr => ?_)
      rw [hr]
      exact b12 _ rfl rfl rfl rfl rfl
    · exact absurd z r67.1
  · rcases r67 with r67 | r67
    · exact absurd r67.1 z
    · refine Tm_ob (RgZ_cmp hU.1.1 r67.2 r5 rfl rfl) (fun r hr => ?_)
      rw [hr]
      refine Tm_ite (fun _ => ?_) (fun _ => b12 _ rfl rfl rfl rfl rfl)
      refine Tm_suc (fun k => by rw [x_range]) ?_
      exact b12 _ rfl rfl rfl rfl rfl
theorem s_rng4 (hP : VP g l B h t σ) (h56 : σ.1 56 = 0) (ht : t ≤ 175990) (N : Nat → Int32) (r3 : RgW g σ (N 3)) (r5 : RgW g σ (N 5)) (r4 : ¬ N 2 = 0 → RgW g σ (N 4)) (r40 : N 2 = 0 → N 4 = 0) : Tm (fun k => x_range k 4 N σ) (VQ g B h t 1001 σ) := by
  have hS := hP.1
  have hU0 := PuH_0 hS hP.2.1 hP.2.2.2
  -- the step is known, or it is too large
  have b6 : ∀ (ok : Prop) (M : Nat → Int32) (r : Int32 × MS), VW ok g B h t σ r → (ok ∨ ¬ N 2 = 0) → M 100 = r.1 → M 3 = N 3 → M 5 = N 5 → M 4 = N 4 → Tm (fun k => x_range k 6 M r.2) (VQ g B h t 1001 σ) := by
    intro ok M r hr hor m100 m3 m5 m4
    obtain ⟨g1, l1, h1, c1, c2, c3, c4, c5, c6, c7, c8⟩ := hr
    have tr : ∀ x, RgW g σ x → RgW g1 r.2 x := fun x hx => RgW_HG hS c1 hx
    have d28 : (mSc r.2 56 0).2.2 28 = r.2.2.2 28 := rfl
    have hU : PuH g B h t 0 σ (mSc r.2 56 0) g1 l1 h1 := PuH_st hU0 ⟨HS_c c1.1 rfl rfl rfl, c1.2.1, c1.2.2.1, c1.2.2.2⟩ (FW_tr c2 (FW_sc (Or.inr (Or.inl rfl)))) c3 ⟨0, rfl, by decide⟩ (fun z => absurd h56 z)
    have b8 : ∀ O : Nat → Int32, O 3 = N 3 → O 5 = N 5 → ((O 100 = 0 ∧ RgW g1 r.2 (O 6)) ∨ (¬ O 100 = 0 ∧ RgZ g1 r.2 (O 4))) → Tm (fun k => x_range k 8 O r.2) (VQ g B h t 1001 σ) := by
      intro O o3 o5 oo
      refine Tm_suc (fun k => by rw [x_range]) ?_
      show Tm (fun k => x_range k 9 (upd O 7 (O 100)) (mSc r.2 56 0)) _
      refine s_rng9 h56 ht _ _ g1 l1 h1 hU ?_ ?_ ?_
      · show RgW g1 (mSc r.2 56 0) (O 3)
        rw [o3]; exact RgW_c (tr _ r3) (fun _ z => z) d28
      · show RgW g1 (mSc r.2 56 0) (O 5)
        rw [o5]; exact RgW_c (tr _ r5) (fun _ z => z) d28
      · show (O 100 = 0 ∧ RgW g1 (mSc r.2 56 0) (O 6)) ∨ (¬ O 100 = 0 ∧ RgZ g1 (mSc r.2 56 0) (O 4))
        exact oo.imp (fun z => ⟨z.1, RgW_c z.2 (fun _ z => z) d28⟩) (fun z => ⟨z.1, z.2.imp (fun y => RgW_c y (fun _ z => z) d28) id⟩)
    refine Tm_suc (fun k => by rw [x_range]) ?_
    refine Tm_ite (fun w => ?_) (fun w => ?_)
    · have e0 := er_le0 c4 w
      refine Tm_suc (fun k => by rw [x_range]) ?_
      refine b8 _ m3 m5 (Or.inl ⟨rfl, ?_⟩)
      show RgW g1 r.2 (M 100)
      rw [m100]; exact c7 e0
    · refine b8 _ m3 m5 (Or.inr ⟨show ¬ (1 : Int32) = 0 by decide, ?_⟩)
      show RgZ g1 r.2 (M 4)
      rw [m4]
      by_cases h2 : N 2 = 0
      · exact Or.inr (r40 h2)
      · exact Or.inl (tr _ (r4 h2))
  refine Tm_suc (fun k => by rw [x_range]) ?_
  refine Tm_ite (fun _ => ?_) (fun z => ?_)
  · refine Tm_suc (fun k => by rw [x_range]) ?_
    exact Tm_ob (s_smallW hP _) (fun r hr => b6 True _ r hr (Or.inl trivial) rfl rfl rfl rfl)
  · obtain ⟨va, na, ea, ga, wa⟩ := r4 z
    obtain ⟨vb, nb, eb, gb, wb⟩ := r5
    exact Tm_ob (s_addW hP wa wb (by exact ea) (by exact eb) (Or.inr rfl)) (fun r hr => b6 False _ r hr (Or.inr z) rfl rfl rfl rfl)
/-- what was popped -/
theorem VQ_59 {w : Nat} {τ : MS} {r : Int32 × MS} (hS : HS g l B h σ) (e1 : ∀ j, j ≠ 59 → τ.1 j = σ.1 j) (e2 : τ.2.2 = σ.2.2) (b : VQ g B h t w τ r) : VQ g B h t w σ r := by
  obtain ⟨g', l', h', a1, a2, a3, a4, a5, a6⟩ := b
  refine ⟨g', l', h', ⟨a1.1, a1.2.1, a1.2.2.1, fun i h1 h2 => ?_⟩, FW_tr ⟨fun j hj => e1 j (by omega), fun j _ => by rw [e2], fun i _ => by rw [e2]⟩ a2, a3, a4, fun z => a5 (by rw [e1 56 (by decide)]; exact z), a6⟩
  rw [a1.2.2.2 i h1 h2, e2]
theorem s_range {c : Nat} (hS : HS g l B h σ) (h56 : σ.1 56 = 0) (ht : t ≤ 175990) {L : Nat → Int32} (hc : (L 2 = 0 ∧ c = 2) ∨ (¬ L 2 = 0 ∧ c = 3)) (h59 : σ.1 59 = nI (t + c)) (hV : PLv g (σ.2.2 29) t c) : Tm (fun k => x_range k 0 L σ) (VQ g B h t 1001 σ) := by
  have b2 : ∀ (d : Nat) (N : Nat → Int32) (τ : MS), (∀ j, j ≠ 59 → τ.1 j = σ.1 j) → τ.2.2 = σ.2.2 → τ.1 59 = nI (t + 1) → (d < 3 ∨ g d) → N 2 = L 2 → N 3 = nI d → (¬ L 2 = 0 → Vd g (N 100)) → (L 2 = 0 → N 100 = 0) → Tm (fun k => x_range k 2 N τ) (VQ g B h t 1001 σ) := by
    intro d N τ e1 e2 e59 hd n2 n3 n100 n1z
    obtain ⟨a, a1, a2⟩ := hV 0 (by omega)
    have a1 : τ.2.2 29 t = nI a := by rw [e2]; exact a1
    refine Tm_suc (fun k => by rw [x_range]) ?_
    refine Tm_ob (s_pop e59 (by omega) _) (fun r hr => ?_)
    rw [hr, a1]
    have hP1 : VP g l B h t (mSc τ 59 (nI t)) := ⟨HS_c hS (show τ.1 54 = _ from e1 54 (by decide)) (show τ.1 55 = _ from e1 55 (by decide)) (by show τ.2.2 28 = _; rw [e2]), rfl, by omega, ⟨0, (show τ.1 56 = σ.1 56 from e1 56 (by decide)).trans h56, by decide⟩⟩
    have q56 : (mSc τ 59 (nI t)).1 56 = 0 := (show τ.1 56 = σ.1 56 from e1 56 (by decide)).trans h56
    have e3 : ∀ j, j ≠ 59 → (mSc τ 59 (nI t)).1 j = σ.1 j := fun j hj => (upd_other hj).trans (e1 j hj)
    have e4 : (mSc τ 59 (nI t)).2.2 = σ.2.2 := e2
    refine Tm_mono (Q := VQ g B h t 1001 (mSc τ 59 (nI t))) ?_ (fun r hr => VQ_59 hS e3 e4 hr)
    generalize mSc τ 59 (nI t) = ρ at hP1 q56 e3 e4
    have hS1 := hP1.1
    have b3 : ∀ M : Nat → Int32, Tm (fun k => x_range k 3 M ρ) (VQ g B h t 1001 ρ) := fun M => by
      refine Tm_suc (fun k => by rw [x_range]) ?_
      exact Tm_ob (s_wrongKind _) (fun r hr => Tm_some (VQ_of (VO_wk hP1 hr)))
    have ka := kdN_6 hS1 a2
    have kd := kdN_6 hS1 hd
    refine Tm_ob (s_kind hS1 a2 rfl) (fun r hr => ?_)
    rw [hr]
    refine Tm_ite (fun w => ?_) (fun _ => b3 _)
    have w := (n_eq (q := 2) (by omega) (by decide)).mp w
    refine Tm_ob (s_kind hS1 hd (by exact n3)) (fun r hr => ?_)
    rw [hr]
    refine Tm_ite (fun w2 => ?_) (fun _ => b3 _)
    have w2 := (n_eq (q := 2) (by omega) (by decide)).mp w2
    have R3 : RgW g ρ (N 3) := by rw [n3]; exact RgW_of hS1 hd w2
    refine Tm_ite (fun z => ?_) (fun z => ?_)
    · exact s_rng4 hP1 q56 ht _ R3 (RgW_of hS1 a2 w) (fun q => absurd z q) (fun _ => n1z (n2.symm.trans z))
    · obtain ⟨b, bb1, bb2⟩ := n100 (by rw [← n2]; exact z)
      have kb := kdN_6 hS1 bb2
      refine Tm_ob (s_kind hS1 bb2 (by exact bb1)) (fun r hr => ?_)
      rw [hr]
      refine Tm_ite (fun w3 => ?_) (fun _ => b3 _)
      have w3 := (n_eq (q := 2) (by omega) (by decide)).mp w3
      refine s_rng4 hP1 q56 ht _ R3 (RgW_of hS1 a2 w) (fun _ => ?_) (fun q => absurd q z)
      show RgW g ρ (N 100)
      rw [bb1]; exact RgW_of hS1 bb2 w3
  refine Tm_suc (fun k => by rw [x_range]) ?_
  rcases hc with ⟨z, rfl⟩ | ⟨z, rfl⟩
  · obtain ⟨d, d1, d2⟩ := hV 1 (by omega)
    refine Tm_ob (s_pop (u := t + 1) h59 (by omega) _) (fun r hr => ?_)
    rw [hr, d1]
    refine Tm_ite (fun _ => ?_) (fun w => absurd z w)
    refine Tm_suc (fun k => by rw [x_range]) ?_
    exact b2 d _ _ (fun j hj => upd_other hj) rfl rfl d2 rfl rfl (fun q => absurd z q) (fun _ => rfl)
  · obtain ⟨d, d1, d2⟩ := hV 2 (by omega)
    obtain ⟨b, bb1, bb2⟩ := hV 1 (by omega)
    refine Tm_ob (s_pop (u := t + 2) h59 (by omega) _) (fun r hr => ?_)
    rw [hr, d1]
    refine Tm_ite (fun w => absurd w z) (fun _ => ?_)
    refine Tm_ob (s_pop (σ := mSc σ 59 (nI (t + 2))) (u := t + 1) rfl (by omega) _) (fun r hr => ?_)
    rw [hr]
    exact b2 d _ _ (fun j hj => (upd_other hj).trans (upd_other hj)) rfl rfl d2 rfl rfl (fun _ => ⟨b, bb1, bb2⟩) (fun q => absurd q z)
end RNS
end JnS132
section JnS133
/-! Work is counted (reference). -/
section WRK
variable {g : Nat → Prop} {l : List Nat} {B h t : Nat} {σ : MS}
/-- n more of work: within 60000, or error 11 -/
def WkO (σ : MS) (w n : Nat) (τ : MS) : Prop := (w + n ≤ 60000 ∧ τ = mSc σ 57 (nI (w + n))) ∨ (60000 < w + n ∧ τ = mEr (mSc σ 57 (nI (w + n))) (nI 11))
theorem s_worked {w n : Nat} (h57 : σ.1 57 = nI w) (hw : w + n < 2147483648) {L : Nat → Int32} (hL : L 1 = nI n) : Tm (fun k => x_worked k 0 L σ) (fun r => r.1 = 0 ∧ WkO σ w n r.2) := by
  refine Tm_suc (fun k => by rw [x_worked]) ?_
  rw [h57, hL, n_add hw]
  show Tm (fun k => x_worked k 1 L (mSc σ 57 (nI (w + n)))) _
  have e57 : (mSc σ 57 (nI (w + n))).1 57 = nI (w + n) := rfl
  refine Tm_suc (fun k => by rw [x_worked]) ?_
  rw [e57]
  refine Tm_ite (fun z => ?_) (fun z => ?_)
  · refine Tm_suc (fun k => by rw [x_worked]) ?_
    exact Tm_some ⟨rfl, Or.inl ⟨(n_le (q := 60000) hw (by decide)).mp z, rfl⟩⟩
  · have z : 60000 < w + n := by
      by_cases e : w + n ≤ 60000
      · exact absurd ((n_le (q := 60000) hw (by decide)).mpr e) z
      · omega
    refine Tm_ob (s_fail _ _) (fun r hr => ?_)
    rw [hr]
    refine Tm_suc (fun k => by rw [x_worked]) ?_
    exact Tm_some ⟨rfl, Or.inr ⟨z, rfl⟩⟩
/-- an answer counts by its size -/
theorem s_answer (hS : HS g l B h σ) {v w : Nat} (hv : v < 3 ∨ g v) (h57 : σ.1 57 = nI w) (hw : w ≤ 2000000000) {L : Nat → Int32} (hL : L 1 = nI v) : Tm (fun k => x_answer k 0 L σ) (fun r => r.1 = nI v ∧ ((¬ σ.1 56 = 0 ∧ r.2 = σ) ∨ (σ.1 56 = 0 ∧ WkO σ w (szN (σ.2.2 28) v) r.2))) := by
  have sz := szN_b hS hv
  refine Tm_suc (fun k => by rw [x_answer]) ?_
  refine Tm_ite (fun z => ?_) (fun z => ?_)
  · refine Tm_ob (s_size hS hv (by exact hL)) (fun r hr => ?_)
    rw [hr]
    refine Tm_ob (s_worked h57 (n := szN (σ.2.2 28) v) (by omega) rfl) (fun r hr => ?_)
    refine Tm_suc (fun k => by rw [x_answer]) ?_
    exact Tm_some ⟨hL, Or.inr ⟨z, hr.2⟩⟩
  · refine Tm_suc (fun k => by rw [x_answer]) ?_
    exact Tm_some ⟨hL, Or.inl ⟨z, rfl⟩⟩
theorem WkO_HS {w n : Nat} {τ : MS} (hW : WkO σ w n τ) (hS : HS g l B h σ) : HS g l B h τ := by
  rcases hW with ⟨_, e⟩ | ⟨_, e⟩
  · rw [e]; exact HS_c hS rfl rfl rfl
  · rw [e]; exact HS_er (HS_c hS rfl rfl rfl) _
theorem WkO_E {w n : Nat} {τ : MS} (hW : WkO σ w n τ) (hE : ErB σ) : ErB τ := by
  rcases hW with ⟨_, e⟩ | ⟨_, e⟩
  · rw [e]; exact ErB_c rfl hE
  · rw [e]; exact ErB_er (ErB_c rfl hE) (by decide)
theorem WkO_s {w n j : Nat} {τ : MS} (hW : WkO σ w n τ) (h1 : j ≠ 56) (h2 : j ≠ 57) : τ.1 j = σ.1 j := by
  rcases hW with ⟨_, e⟩ | ⟨_, e⟩
  · rw [e]; exact upd_other h2
  · rw [e, mEr_s h1]; exact upd_other h2
theorem WkO_a {w n : Nat} {τ : MS} (hW : WkO σ w n τ) : τ.2.2 = σ.2.2 := by
  rcases hW with ⟨_, e⟩ | ⟨_, e⟩ <;> rw [e] <;> rfl
theorem WkO_57 {w n : Nat} {τ : MS} (hW : WkO σ w n τ) : τ.1 57 = nI (w + n) := by
  rcases hW with ⟨_, e⟩ | ⟨_, e⟩
  · rw [e]; rfl
  · rw [e, mEr_s (by decide)]; rfl
/-- no error stands behind it: then the work is within its bound -/
theorem WkO_le {w n : Nat} {τ : MS} (hW : WkO σ w n τ) (h : τ.1 56 = 0) : w + n ≤ 60000 ∧ σ.1 56 = 0 := by
  rcases hW with ⟨z, e⟩ | ⟨_, e⟩
  · rw [e] at h; exact ⟨z, h⟩
  · rw [e] at h; exact absurd h (mEr_e (by decide))
end WRK
end JnS133
section JnS134
/-! The sweep: what is not moved yet (reference). -/
/-- cells of the objects that are not moved -/
def rmS (H : Nat → Int32) (mv : Nat → Bool) : List Nat → Nat
  | [] => 0
  | v :: l => (if mv v then 0 else 4 + (H (v + 1)).toNatClampNeg) + rmS H mv l
def mvA (mv : Nat → Bool) (v : Nat) : Nat → Bool := fun w => if w = v then true else mv w
section SWP
variable {H : Nat → Int32} {mv : Nat → Bool}
theorem rmS_all {b : Nat} (hb : b < 2147483648) : ∀ (l : List Nat) (a : Nat), Til H b a l → a + rmS H (fun _ => false) l = b
  | [], a, h => by
    have h : a = b := h
    rw [h]; rfl
  | v :: l, a, h => by
    obtain ⟨e, n, n1, n2, n3⟩ := h
    have ih := rmS_all hb l _ n3
    have e1 : rmS H (fun _ => false) (v :: l) = (4 + (H (v + 1)).toNatClampNeg) + rmS H (fun _ => false) l := rfl
    rw [e1, n1, n_cl (by omega)]
    omega
/-- what lies behind isn't touched -/
theorem rmS_out {v : Nat} : ∀ (l : List Nat), ¬ v ∈ l → rmS H (mvA mv v) l = rmS H mv l
  | [], _ => rfl
  | w :: l, h => by
    have h1 : ¬ w = v := fun e => h (by rw [e]; exact List.mem_cons_self)
    have ih := rmS_out l (fun z => h (List.mem_cons_of_mem w z))
    show (if mvA mv v w then 0 else _) + rmS H (mvA mv v) l = (if mv w then 0 else _) + rmS H mv l
    rw [ih, show mvA mv v w = mv w from if_neg h1]
/-- one more is moved -/
theorem rmS_mv {b v : Nat} : ∀ (l : List Nat) (a : Nat), Til H b a l → v ∈ l → mv v = false → rmS H mv l = (4 + (H (v + 1)).toNatClampNeg) + rmS H (mvA mv v) l
  | [], _, _, h, _ => absurd h (List.not_mem_nil)
  | w :: l, a, hT, hv, hm => by
    obtain ⟨e, n, n1, n2, n3⟩ := hT
    have e1 : rmS H mv (w :: l) = (if mv w then 0 else 4 + (H (w + 1)).toNatClampNeg) + rmS H mv l := rfl
    have e2 : rmS H (mvA mv v) (w :: l) = (if mvA mv v w then 0 else 4 + (H (w + 1)).toNatClampNeg) + rmS H (mvA mv v) l := rfl
    by_cases ew : w = v
    · subst ew
      have hout : ¬ w ∈ l := fun z => by
        have := (Til_mem l _ n3 w z).1
        omega
      rw [e1, e2, rmS_out l hout, hm, show mvA mv w w = true from if_pos rfl]
      simp
    · have hl : v ∈ l := by
        rcases List.mem_cons.mp hv with z | z
        · exact absurd z.symm ew
        · exact z
      rw [e1, e2, rmS_mv l _ n3 hl hm, show mvA mv v w = mv w from if_neg ew]
      omega
end SWP
end JnS134
section JnS135
/-! The sweep: one object is copied (reference). -/
/-- a cell that has been scanned -/
def SwC (H0 : Nat → Int32) (mv : Nat → Bool) (φ : Nat → Nat) (v i : Nat) (x : Int32) : Prop :=
  ((H0 v = nI 5 ∨ H0 v = nI 6) ∧ ∃ m, H0 (v + 4 + i) = nI m ∧ ((m < 3 ∧ x = nI m) ∨ (mv m = true ∧ x = nI (φ m)))) ∨ (¬ (H0 v = nI 5 ∨ H0 v = nI 6) ∧ x = H0 (v + 4 + i))
/-- midway in a sweep -/
def SwI (H0 : Nat → Int32) (g : Nat → Prop) (l : List Nat) (B h B' h' s : Nat) (H : Nat → Int32) (mv : Nat → Bool) (φ : Nat → Nat) (l' : List Nat) : Prop :=
  Til H h' (B' + 4) l' ∧ (h' + rmS H0 mv l ≤ B' + (h - B)) ∧ (∀ v, mv v = true → g v ∧ φ v ∈ l') ∧
  (∀ v n, g v → mv v = false → H0 (v + 1) = nI n → n ≤ 3996 → ∀ i, i < 4 + n → H (v + i) = H0 (v + i)) ∧
  (∀ v, mv v = true → H v = -1 ∧ H (v + 1) = nI (φ v)) ∧
  (∀ w, w ∈ l' → ∃ v n, mv v = true ∧ φ v = w ∧ H0 (v + 1) = nI n ∧ n ≤ 3996 ∧ w + 4 + n ≤ h' ∧ (∀ i, i < 4 → H (w + i) = H0 (v + i)) ∧ ∀ i, i < n → (s ≤ w + 4 + i ∧ H (w + 4 + i) = H0 (v + 4 + i)) ∨ (w + 4 + i < s ∧ SwC H0 mv φ v i (H (w + 4 + i)))) ∧
  (∀ u v, mv u = true → mv v = true → φ u = φ v → u = v)
section SWC
variable {H0 H : Nat → Int32} {g : Nat → Prop} {l l' : List Nat} {B h B' h' s : Nat} {mv : Nat → Bool} {φ : Nat → Nat}
theorem Til_disj {b : Nat} : ∀ (l : List Nat) (a : Nat), Til H b a l → ∀ v w n, v ∈ l → w ∈ l → v < w → H (v + 1) = nI n → n ≤ 3996 → v + 4 + n ≤ w
  | [], _, _, _, _, _, h, _, _, _, _ => absurd h (List.not_mem_nil)
  | u :: l, a, hT, v, w, n, hv, hw, hlt, hn, hn2 => by
    obtain ⟨e, m, m1, m2, m3⟩ := hT
    rcases List.mem_cons.mp hv with z | z
    · rcases List.mem_cons.mp hw with y | y
      · omega
      · have q := (Til_mem l _ m3 w y).1
        subst z
        by_cases hm : m < 2147483648
        · have : m = n := (n_eq hm (by omega)).mp (m1.symm.trans hn)
          omega
        · omega
    · rcases List.mem_cons.mp hw with y | y
      · have q := (Til_mem l _ m3 v z).1
        omega
      · exact Til_disj l _ m3 v w n z y hlt hn hn2
theorem SwC_mo {mv2 : Nat → Bool} {φ2 : Nat → Nat} {v i : Nat} {x : Int32} (hm : ∀ m, mv m = true → mv2 m = true ∧ φ2 m = φ m) (hx : SwC H0 mv φ v i x) : SwC H0 mv2 φ2 v i x := by
  rcases hx with ⟨k, m, m1, m2⟩ | hx
  · refine Or.inl ⟨k, m, m1, ?_⟩
    rcases m2 with m2 | m2
    · exact Or.inl m2
    · exact Or.inr ⟨(hm m m2.1).1, by rw [(hm m m2.1).2]; exact m2.2⟩
  · exact Or.inr hx
/-- the ghost of one more copy -/
theorem SwI_add {H2 : Nat → Int32} {v n : Nat} (hO : HO H0 g l (B + 4) h) (hh : h ≤ B + 870000) (hBB : (B = 0 ∧ B' = 870000) ∨ (B = 870000 ∧ B' = 0)) (hs : s ≤ h') (hI : SwI H0 g l B h B' h' s H mv φ l') (hv : g v) (hm : mv v = false) (hn : H0 (v + 1) = nI n) (hn2 : n ≤ 3996) (hvl : B + 4 ≤ v) (hvh : v + 4 + n ≤ h)
    (e1 : ∀ j, j ≠ v → j ≠ v + 1 → ¬ (h' ≤ j ∧ j < h' + (4 + n)) → H2 j = H j) (e2 : ∀ j, j < 4 + n → H2 (h' + j) = H (v + j)) (e3 : H2 v = -1) (e4 : H2 (v + 1) = nI h') : SwI H0 g l B h B' (h' + 4 + n) s H2 (mvA mv v) (fun x => if x = v then h' else φ x) (l' ++ [h']) := by
  obtain ⟨i1, i2, i3, i4, i5, i6, i7⟩ := hI
  have hh' := Til_le _ _ i1
  have hrm := rmS_mv l _ hO.1 (hO.2 v hv).1 hm
  rw [hn, n_cl (by omega)] at hrm
  have hcell := i4 v n hv hm hn hn2
  have hmo : ∀ m, mv m = true → mvA mv v m = true ∧ (if m = v then h' else φ m) = φ m := fun m hmm => by
    have : m ≠ v := fun e => by rw [e, hm] at hmm; exact absurd hmm (by decide)
    exact ⟨(if_neg this).trans hmm, if_neg this⟩
  have hold : ∀ j, B' + 4 ≤ j → j < h' → H2 j = H j := fun j q1 q2 => e1 j (by omega) (by omega) (by omega)
  refine ⟨?_, by omega, fun u hu => ?_, fun u m gu hu hmu hm2 i hi => ?_, fun u hu => ?_, fun w hw => ?_, fun u w hu hw he => ?_⟩
  · refine Til_snoc l' _ n (Til_ext l' _ hold i1) ?_
    rw [e2 1 (by omega), hcell 1 (by omega)]; exact hn
  · by_cases e : u = v
    · rw [e]
      refine ⟨hv, ?_⟩
      show (if v = v then h' else φ v) ∈ _
      rw [if_pos rfl]; exact List.mem_append.mpr (Or.inr List.mem_cons_self)
    · have hu : mv u = true := by rw [← hu]; exact (if_neg e).symm
      refine ⟨(i3 u hu).1, ?_⟩
      show (if u = v then h' else φ u) ∈ _
      rw [if_neg e]; exact List.mem_append.mpr (Or.inl (i3 u hu).2)
  · have e : u ≠ v := fun e => by
      rw [e, show mvA mv v v = true from if_pos rfl] at hu; exact absurd hu (by decide)
    have hu : mv u = false := by rw [← hu]; exact (if_neg e).symm
    have ul := (hO.2 u gu).1
    have vl := (hO.2 v hv).1
    obtain ⟨uT, uM⟩ := Til_mem l _ hO.1 u ul
    obtain ⟨n', un1, un2⟩ := uM
    have hb : u + 4 + m ≤ h := by
      obtain ⟨k, n3, s3, t3, q1, q2, q3⟩ := HO_at hO (by omega) gu
      have : n3 = m := (n_eq (by omega) (by omega)).mp (q1.2.1.symm.trans hmu)
      omega
    have d : u + 4 + m ≤ v ∨ v + 4 + n ≤ u := by
      by_cases q : u < v
      · exact Or.inl (Til_disj l _ hO.1 u v m ul vl q hmu hm2)
      · exact Or.inr (Til_disj l _ hO.1 v u n vl ul (by omega) hn hn2)
    rw [e1 (u + i) (by omega) (by omega) (by omega)]
    exact i4 u m gu hu hmu hm2 i hi
  · by_cases e : u = v
    · rw [e]
      refine ⟨e3, ?_⟩
      show H2 (v + 1) = nI (if v = v then h' else φ v)
      rw [if_pos rfl]; exact e4
    · have hu : mv u = true := by rw [← hu]; exact (if_neg e).symm
      have gu := (i3 u hu).1
      have ul := (hO.2 u gu).1
      have vl := (hO.2 v hv).1
      obtain ⟨k, m, s3, t3, q1, q2, q3⟩ := HO_at hO (by omega) gu
      have d : u + 4 + m ≤ v ∨ v + 4 + n ≤ u := by
        by_cases q : u < v
        · exact Or.inl (Til_disj l _ hO.1 u v m ul vl q q1.2.1 q1.2.2.2.2.2.2.2.1)
        · exact Or.inr (Til_disj l _ hO.1 v u n vl ul (by omega) hn hn2)
      refine ⟨?_, ?_⟩
      · rw [e1 u (by omega) (by omega) (by omega)]; exact (i5 u hu).1
      · show H2 (u + 1) = nI (if u = v then h' else φ u)
        rw [if_neg e, e1 (u + 1) (by omega) (by omega) (by omega)]; exact (i5 u hu).2
  · rcases List.mem_append.mp hw with hw | hw
    · obtain ⟨u, m, u1, u2, u3, u4, u5, u6, u7⟩ := i6 w hw
      have wT := (Til_mem l' _ i1 w hw).1
      refine ⟨u, m, (hmo u u1).1, ((hmo u u1).2).trans u2, u3, u4, by omega, fun i hi => ?_, fun i hi => ?_⟩
      · rw [hold (w + i) (by omega) (by omega)]; exact u6 i hi
      · rw [hold (w + 4 + i) (by omega) (by omega)]
        exact (u7 i hi).imp id (fun z => ⟨z.1, SwC_mo hmo z.2⟩)
    · have hw : w = h' := by
        rcases List.mem_cons.mp hw with z | z
        · exact z
        · exact absurd z (List.not_mem_nil)
      subst hw
      refine ⟨v, n, if_pos rfl, if_pos rfl, hn, hn2, Nat.le_refl _, fun i hi => ?_, fun i hi => Or.inl ⟨by omega, ?_⟩⟩
      · rw [e2 i (by omega), hcell i (by omega)]
      · rw [Nat.add_assoc, e2 (4 + i) (by omega), hcell (4 + i) (by omega), Nat.add_assoc]
  · have lt : ∀ x, mv x = true → φ x < h' := fun x hx => by
      obtain ⟨_, k, _, q⟩ := Til_mem l' _ i1 (φ x) (i3 x hx).2
      omega
    have he : (if u = v then h' else φ u) = (if w = v then h' else φ w) := he
    by_cases eu : u = v
    · by_cases ew : w = v
      · rw [eu, ew]
      · have hw : mv w = true := by rw [← hw]; exact (if_neg ew).symm
        rw [if_pos eu, if_neg ew] at he
        have := lt w hw
        omega
    · have hu : mv u = true := by rw [← hu]; exact (if_neg eu).symm
      by_cases ew : w = v
      · rw [if_neg eu, if_pos ew] at he
        have := lt u hu
        omega
      · have hw : mv w = true := by rw [← hw]; exact (if_neg ew).symm
        rw [if_neg eu, if_neg ew] at he
        exact i7 u w hu hw he
end SWC
end JnS135
section JnS136
/-! The sweep: copied (reference). -/
/-- the state midway in a sweep -/
def SWS (H0 : Nat → Int32) (g : Nat → Prop) (l : List Nat) (B h B' s : Nat) (τ : MS) (h' : Nat) (mv : Nat → Bool) (φ : Nat → Nat) (l' : List Nat) : Prop :=
  HO H0 g l (B + 4) h ∧ h ≤ B + 870000 ∧ ((B = 0 ∧ B' = 870000) ∨ (B = 870000 ∧ B' = 0)) ∧ s ≤ h' ∧ τ.1 55 = nI h' ∧ SwI H0 g l B h B' h' s (τ.2.2 28) mv φ l'
/-- more is moved; what was moved stays -/
def SWG (mv mv2 : Nat → Bool) (φ φ2 : Nat → Nat) : Prop := ∀ x, mv x = true → mv2 x = true ∧ φ2 x = φ x
/-- a value and what it has become -/
def SWV (mv : Nat → Bool) (φ : Nat → Nat) (m : Nat) (x : Int32) : Prop := (m < 3 ∧ x = nI m) ∨ (mv m = true ∧ x = nI (φ m))
def CpO (H0 : Nat → Int32) (g : Nat → Prop) (l : List Nat) (B h B' s : Nat) (τ : MS) (h' : Nat) (mv : Nat → Bool) (φ : Nat → Nat) (m : Nat) (r : Int32 × MS) : Prop :=
  ∃ h2 mv2 φ2 l2, SWS H0 g l B h B' s r.2 h2 mv2 φ2 l2 ∧ h' ≤ h2 ∧ SWG mv mv2 φ φ2 ∧ SWV mv2 φ2 m r.1 ∧ (∀ j, j ≠ 55 → r.2.1 j = τ.1 j) ∧ (∀ j, j ≠ 28 → r.2.2.2 j = τ.2.2 j)
section CPD
variable {H0 : Nat → Int32} {g : Nat → Prop} {l l' : List Nat} {B h B' h' s : Nat} {mv : Nat → Bool} {φ : Nat → Nat} {τ : MS}
theorem SWS_b (hW : SWS H0 g l B h B' s τ h' mv φ l') : B' + 4 ≤ h' ∧ h' ≤ B' + 870000 ∧ h' + rmS H0 mv l ≤ B' + (h - B) := by
  obtain ⟨w1, w2, w3, w4, w5, i1, i2, _⟩ := hW
  have := Til_le _ _ i1
  exact ⟨this, by omega, i2⟩
theorem n_nm1 {k : Nat} (hk : k ≤ 6) : ¬ nI k = -1 := by
  have : k = 0 ∨ k = 1 ∨ k = 2 ∨ k = 3 ∨ k = 4 ∨ k = 5 ∨ k = 6 := by omega
  rcases this with rfl | rfl | rfl | rfl | rfl | rfl | rfl <;> decide
theorem s_copied (hW : SWS H0 g l B h B' s τ h' mv φ l') {m : Nat} (hm : m < 3 ∨ g m) {L : Nat → Int32} (hL : L 1 = nI m) : Tm (fun k => x_copied k 0 L τ) (CpO H0 g l B h B' s τ h' mv φ m) := by
  have hb := SWS_b hW
  have hW0 := hW
  obtain ⟨w1, w2, w3, w4, w5, hI⟩ := hW
  have hI0 := hI
  obtain ⟨i1, i2, i3, i4, i5, i6⟩ := hI
  have hG0 : SWG mv mv φ φ := fun x hx => ⟨hx, rfl⟩
  have hold : 3 ≤ m → g m := fun q => by
    rcases hm with z | z
    · omega
    · exact z
  have hmb : m < 1740000 := by
    rcases hm with z | z
    · omega
    · obtain ⟨_, n, _, _, _, _, q⟩ := HO_at w1 (by omega) z
      omega
  refine Tm_suc (fun k => by rw [x_copied]) ?_
  rw [hL]
  refine Tm_ite (fun z => ?_) (fun z => ?_)
  case refine_2 =>
    have hm3 : m < 3 := by
      by_cases e : 3 ≤ m
      · exact absurd ((n_le (p := 3) (by decide) (by omega)).mpr e) z
      · omega
    exact Tm_some ⟨h', mv, φ, l', hW0, Nat.le_refl _, hG0, Or.inl ⟨hm3, rfl⟩, fun _ _ => rfl, fun _ _ => rfl⟩
  have gm := hold ((n_le (p := 3) (by decide) (by omega)).mp z)
  obtain ⟨k0, n, s0, t0, q1, q2, q3⟩ := HO_at w1 (by omega) gm
  have hn := q1.2.1
  have hn2 := q1.2.2.2.2.2.2.2.1
  have hk6 := q1.2.2.2.2.1
  refine Tm_suc (fun k => by rw [x_copied]) ?_
  rw [hL, show nI m + 1 = nI (m + 1) from n_add1 m]
  refine Tm_chk (n_in (by omega) (by omega)) ?_
  rw [n_cl (p := m) (by omega)]
  cases hmv : mv m with
  | true =>
    obtain ⟨c1, c2⟩ := i5 m hmv
    refine Tm_ite (fun _ => ?_) (fun w => absurd c1 w)
    refine Tm_chk (n_in (by omega) (by omega)) ?_
    rw [n_cl (p := m + 1) (by omega), c2]
    exact Tm_some ⟨h', mv, φ, l', hW0, Nat.le_refl _, hG0, Or.inr ⟨hmv, rfl⟩, fun _ _ => rfl, fun _ _ => rfl⟩
  | false =>
    have hcell := i4 m n gm hmv hn hn2
    have hrm := rmS_mv l _ w1.1 (w1.2 m gm).1 hmv
    rw [hn, n_cl (by omega)] at hrm
    have c0 : τ.2.2 28 m = H0 m := hcell 0 (by omega)
    have c1 : τ.2.2 28 (m + 1) = nI n := (hcell 1 (by omega)).trans hn
    refine Tm_ite (fun w => absurd (by rw [← q1.1, ← c0]; exact w) (n_nm1 hk6.2)) (fun _ => ?_)
    refine Tm_suc (fun k => by rw [x_copied]) ?_
    rw [hL, show nI m + 1 = nI (m + 1) from n_add1 m]
    refine Tm_chk (n_in (by omega) (by omega)) ?_
    rw [n_cl (p := m + 1) (by omega), c1, w5, show (4 : Int32) + nI n = nI (4 + n) from n_add (p := 4) (by omega), n_add (by omega)]
    show Tm (fun k => x_copied k 3 (upd (upd L 2 (nI (4 + n))) 3 (nI h')) (mSc τ 55 (nI (h' + (4 + n))))) _
    refine Tm_suc (fun k => by rw [x_copied]) ?_
    have l4 : ∀ (q i : Nat) (N : Nat → Int32) (υ : MS), q + i = 4 + n → N 1 = nI m → N 2 = nI (4 + n) → N 3 = nI h' → N 4 = nI i → (∀ j, j ≠ 55 → υ.1 j = τ.1 j) → υ.1 55 = nI (h' + (4 + n)) → (∀ j, j ≠ 28 → υ.2.2 j = τ.2.2 j) → (∀ j, ¬ (h' ≤ j ∧ j < h' + i) → υ.2.2 28 j = τ.2.2 28 j) → (∀ j, j < i → υ.2.2 28 (h' + j) = τ.2.2 28 (m + j)) → Tm (fun k => x_copied k 4 N υ) (CpO H0 g l B h B' s τ h' mv φ m) := by
      intro q
      induction q with
      | zero =>
        intro i N υ hi n1 n2 n3 n4 u1 u55 u2 u3 u4
        have hi : i = 4 + n := by omega
        subst hi
        refine Tm_suc (fun k => by rw [x_copied]) ?_
        rw [n2, n4]
        refine Tm_ite (fun _ => ?_) (fun w => absurd ((n_le (by omega) (by omega)).mpr (by omega)) w)
        refine Tm_suc (fun k => by rw [x_copied]) ?_
        rw [n1]
        refine Tm_chk (n_in (by omega) (by omega)) ?_
        rw [n_cl (p := m) (by omega)]
        show Tm (fun k => x_copied k 7 N (mAr υ 28 m (-1))) _
        refine Tm_suc (fun k => by rw [x_copied]) ?_
        rw [n1, show nI m + 1 = nI (m + 1) from n_add1 m]
        refine Tm_chk (n_in (by omega) (by omega)) ?_
        rw [n_cl (p := m + 1) (by omega), n3]
        show Tm (fun k => x_copied k 8 N (mAr (mAr υ 28 m (-1)) 28 (m + 1) (nI h'))) _
        refine Tm_suc (fun k => by rw [x_copied]) ?_
        rw [n3]
        have e28 : (mAr (mAr υ 28 m (-1)) 28 (m + 1) (nI h')).2.2 28 = upd (upd (υ.2.2 28) m (-1)) (m + 1) (nI h') := by rw [mAr_s, mAr_s]
        refine Tm_some ⟨h' + 4 + n, mvA mv m, fun x => if x = m then h' else φ x, l' ++ [h'], ⟨w1, w2, w3, by omega, ?_, ?_⟩, by omega, fun x hx => ?_, Or.inr ⟨if_pos rfl, ?_⟩, fun j hj => u1 j hj, fun j hj => ?_⟩
        · show υ.1 55 = _
          rw [u55, Nat.add_assoc]
        · refine SwI_add (H := τ.2.2 28) w1 w2 w3 w4 hI0 gm hmv hn hn2 q2 q3 (fun j a1 a2 a3 => ?_) (fun j hj => ?_) ?_ ?_
          · rw [e28, upd_other a2, upd_other a1]; exact u3 j a3
          · rw [e28, upd_other (by omega), upd_other (by omega)]; exact u4 j hj
          · rw [e28, upd_other (by omega), upd_same]
          · rw [e28, upd_same]
        · have : x ≠ m := fun e => by rw [e, hmv] at hx; exact absurd hx (by decide)
          exact ⟨(if_neg this).trans hx, if_neg this⟩
        · show nI h' = nI (if m = m then h' else φ m)
          rw [if_pos rfl]
        · rw [mAr_o hj, mAr_o hj]; exact u2 j hj
      | succ q ih =>
        intro i N υ hi n1 n2 n3 n4 u1 u55 u2 u3 u4
        refine Tm_suc (fun k => by rw [x_copied]) ?_
        rw [n2, n4, n1, n3, n_add (by omega), n_add (by omega)]
        refine Tm_ite (fun w => absurd ((n_le (by omega) (by omega)).mp w) (by omega)) (fun _ => ?_)
        refine Tm_chk (n_in (by omega) (by omega)) ?_
        refine Tm_chk (n_in (by omega) (by omega)) ?_
        rw [n_cl (p := m + i) (by omega), n_cl (p := h' + i) (by omega), u3 (m + i) (by omega)]
        show Tm (fun k => x_copied k 5 N (mAr υ 28 (h' + i) (τ.2.2 28 (m + i)))) _
        refine Tm_suc (fun k => by rw [x_copied]) ?_
        refine ih (i + 1) _ _ (by omega) n1 n2 n3 (by show N 4 + 1 = _; rw [n4, n_add1]) u1 u55 (fun j hj => (mAr_o hj).trans (u2 j hj)) (fun j hj => ?_) (fun j hj => ?_)
        · rw [mAr_s, upd_other (by omega)]; exact u3 j (by omega)
        · by_cases e : j = i
          · rw [e, mAr_s, upd_same]
          · rw [mAr_s, upd_other (by omega)]; exact u4 j (by omega)
    exact l4 (4 + n) 0 _ _ (by omega) hL rfl rfl rfl (fun j hj => upd_other hj) rfl (fun _ _ => rfl) (fun _ _ => rfl) (fun j hj => absurd hj (Nat.not_lt_zero j))
end CPD
end JnS136

/-! work, whole (reference). -/
section WKW
variable {T : Nat → Nat → Int32} {FN : Nat → Nat → Prop} {S : Nat → Nat → Nat → Nat → Prop} {gl : List Gn} {pr : Nat → Nat} {b : BT} {ns n f : Nat} {Tp : Nat → Int32} {σ υ ω : MS} {C K : Nat → Int32} {e0 z0 x66 : Int32} {sd : Int64} {m : Nat} {t X B h : Nat} {g : Nat → Prop} {l : List Nat}
/-- values, with two others shown -/
theorem MI_sh (hM : MI t X g l B h υ) (h54 : ω.1 54 = υ.1 54) (h55 : ω.1 55 = υ.1 55) (h63 : ω.1 63 = υ.1 63) (h72 : ω.1 72 = υ.1 72) (hr : ∀ a, 28 ≤ a → a ≤ 38 → ω.2.2 a = υ.2.2 a) (v0 : Vd g (ω.2.2 40 0)) (v1 : Vd g (ω.2.2 40 1)) : MI 0 870000 g l B h ω := by
  obtain ⟨m1, m2, m3, m4⟩ := hM
  have rp : ∀ a i, RtP 0 ω a i ↔ RtP 0 υ a i := RtP_x h63 h72 (hr 30 (by omega) (by omega)) (hr 31 (by omega) (by omega))
  refine MI_any (HS_c m1 h54 h55 (hr 28 (by omega) (by omega))) (RtQ_c h63 h72 (hr 30 (by omega) (by omega)) (hr 31 (by omega) (by omega)) m2) (fun a i z => ?_)
  have c := RtP_r z
  by_cases e : a = 40
  · subst e
    have hi : i < 2 := by
      rcases z with z | z | z | z | z | z | z | z | z
      · omega
      · omega
      · omega
      · omega
      · omega
      · omega
      · omega
      · omega
      · exact z.2
    by_cases i0 : i = 0
    · rw [i0]; exact v0
    · rw [show i = 1 by omega]; exact v1
  · rw [hr a (by omega) (by omega)]
    exact m3 a i (RtP_mo (Nat.zero_le _) ((rp a i).mp z))
theorem s_work (pi : PrI T FN S gl pr b ns) (hP : PSt T FN S C K e0 z0 x66 0 sd m σ) (hg : PG gl pr b σ) (hTp : TpO Tp n σ) (h112 : ¬ σ.1 112 = 0) {L : Nat → Int32} {J : Nat → Int64} : Tm (fun k => x_work k 0 L J σ) (fun r => PSt T FN S C K e0 z0 x66 0 sd m r.2 ∧ OF σ r.2 ∧ r.2.1 4 = 0 ∧ (r.2.1 120 = σ.1 120 ∨ ∃ q, r.2.1 120 = nI q ∧ q ≤ 12000)) := by
  obtain ⟨⟨n1, n2⟩, tp3, tpb⟩ := hTp
  have pi0 := pi
  obtain ⟨_, _, ⟨eN, eP, e1, e2, e3⟩, _⟩ := pi0
  have h68 : σ.1 68 = 0 := hP.1.2.2.2.2.2.2.2.2.1
  have b12 : ∀ (N : Nat → Int32) (J' : Nat → Int64) (χ : MS), N 1 = σ.1 22 → N 2 = σ.1 24 → Tm (fun k => x_work k 12 N J' χ) (fun r => r.2 = mSc (mSc χ 22 (σ.1 22)) 24 (σ.1 24)) := fun N J' χ q1 q2 => by
    refine Tm_suc (fun k => by rw [x_work]) ?_
    rw [q1]
    refine Tm_suc (fun k => by rw [x_work]) ?_
    rw [q2]
    refine Tm_suc (fun k => by rw [x_work]) ?_
    exact Tm_some rfl
  have b11 : ∀ (N : Nat → Int32) (J' : Nat → Int64) (χ : MS), N 1 = σ.1 22 → N 2 = σ.1 24 → Tm (fun k => x_work k 11 N J' χ) (fun r => r.2 = mSc (mSc (mSc χ 56 0) 22 (σ.1 22)) 24 (σ.1 24)) := fun N J' χ q1 q2 => by
    refine Tm_suc (fun k => by rw [x_work]) ?_
    exact b12 _ _ (mSc χ 56 0) q1 q2
  refine Tm_suc (fun k => by rw [x_work]) ?_
  refine Tm_ite (fun z => absurd z h112) (fun _ => ?_)
  refine Tm_suc (fun k => by rw [x_work]) ?_
  refine Tm_ob (s_good _ _) (fun r hr => ?_)
  rw [hr]
  refine Tm_ite (fun z => absurd (show (1 : Int32) = 0 from z) (by decide)) (fun _ => ?_)
  show Tm (fun k => x_work k 3 (upd L 100 0) J (mSc σ 2 0)) _
  refine Tm_suc (fun k => by rw [x_work]) ?_
  show Tm (fun k => x_work k 4 (upd (upd (upd L 100 0) 1 (σ.1 22)) 2 (σ.1 24)) J (mSc (mSc σ 2 0) 11 0)) _
  refine Tm_suc (fun k => by rw [x_work]) ?_
  obtain ⟨x, hx⟩ := gX_tot (T := Tp) (n := n) (gl, [], [], 42, false, decide (1 = 1), pr) b e1
  have hgA : PG gl pr b (mSc (mSc σ 2 0) 11 0) := ⟨hg.1, PB_c (σ := σ) rfl rfl (fun _ _ => rfl) hg.2.1, hg.2.2.1, hg.2.2.2⟩
  have ha : ∀ j, ¬ (j = 2 ∨ j = 11) → (mSc (mSc σ 2 0) 11 0).1 j = σ.1 j := fun j hj => by
    show upd (upd σ.1 2 0) 11 0 j = _
    rw [upd_other (by omega), upd_other (by omega)]
  refine Tm_ob (p_readExp (dr := 1) (σ := mSc (mSc σ 2 0) 11 0) hx ⟨n1, n2⟩ tp3 hgA (by omega) rfl (by omega) (by omega)) (fun r1 hr1 => ?_)
  obtain ⟨fx, _, hx2⟩ := hr1
  show Tm (fun k => x_work k 5 (upd (upd (upd (upd L 100 0) 1 (σ.1 22)) 2 (σ.1 24)) 3 r1.1) J (mSc r1.2 4 0)) _
  refine Tm_suc (fun k => by rw [x_work]) ?_
  show Tm (fun k => x_work k 6 (upd (upd (upd (upd L 100 0) 1 (σ.1 22)) 2 (σ.1 24)) 3 r1.1) J (mSc (mSc r1.2 4 0) 109 0)) _
  -- the state before it is worked
  obtain ⟨ρ1, hρ⟩ : ∃ ρ1, ρ1 = mSc (mSc r1.2 4 0) 109 0 := ⟨_, rfl⟩
  rw [← hρ]
  have hs : ∀ j, ¬ (j = 2 ∨ j = 4 ∨ j = 11 ∨ j = 109) → ρ1.1 j = r1.2.1 j := fun j hj => by
    rw [hρ]
    show upd (upd r1.2.1 4 0) 109 0 j = _
    rw [upd_other (by omega), upd_other (by omega)]
  have hr2 : ρ1.2 = r1.2.2 := by rw [hρ]; rfl
  have s4 : ρ1.1 4 = 0 := by rw [hρ]; rfl
  have nn : ∀ j, ¬ ((2 ≤ j ∧ j ≤ 13) ∨ j = 22 ∨ j = 24 ∨ j = 37 ∨ j = 38 ∨ j = 42 ∨ j = 43 ∨ (45 ≤ j ∧ j ≤ 48) ∨ j = 52 ∨ j = 109) → ρ1.1 j = σ.1 j := fun j hj => (hs j (by omega)).trans ((fx.1 j (by omega)).trans (ha j (by omega)))
  have ll : ρ1.2.1 = σ.2.1 := by rw [hr2, fx.2.1]; rfl
  refine Tm_suc (fun k => by rw [x_work]) ?_
  cases x with
  | none =>
    have z10 : ¬ ρ1.1 10 = 0 := by rw [hs 10 (by omega)]; exact hx2
    refine Tm_ite (fun z => absurd z z10) (fun _ => ?_)
    refine Tm_mono (b12 _ _ ρ1 rfl rfl) (fun r hr => ?_)
    obtain ⟨hU, _⟩ := PSt_UT hP
    have hU1 : UT ρ1 := UT_k hU (nn 63 (by decide)) (nn 64 (by decide)) (nn 65 (by decide)) (by rw [hr2]; exact fx.2.2.1 28 (by decide)) (fun a h1 h2 => by rw [hr2]; exact fx.2.2.1 a (by omega)) (kC_d (fun i hi => by rw [hr2]; exact fx.2.2.2.2.2.2 i (Or.inl hi)) (fun i hi => by rw [hr2]; exact fx.2.2.2.2.2.1 i (by omega)) (nn 30 (by decide)))
    obtain ⟨g, l, B, h, X, hM⟩ := hP.1.1
    have w : ∀ j, ¬ (j = 22 ∨ j = 24) → r.2.1 j = ρ1.1 j := fun j hj => by
      rw [hr]
      show upd (upd ρ1.1 22 _) 24 _ j = _
      rw [upd_other (by omega), upd_other (by omega)]
    have w2 : r.2.2 = ρ1.2 := by rw [hr]; rfl
    have key := wk_end (σa := mSc (mSc σ 2 0) 11 0) (ρ := r1.2) (ρ1 := ρ1) (υ := zA ρ1) (ω := r.2) pi hP hg ha rfl fx hs hr2 FE_rf (UT_zA hU1) rfl (zA_s (by omega)) (fun j hj => by
      by_cases c : j = 68
      · rw [c, w 68 (by omega), nn 68 (by decide), h68]; rfl
      · rw [w j (by omega), zA_s (by omega)]) (fun a _ => by rw [w2]; rfl) (by rw [w2]; rfl) (by rw [hr]; rfl) (by rw [hr]; rfl) (by rw [w2, ll]) ⟨g, l, B, h, X, MI_x hM ((w 54 (by omega)).trans (nn 54 (by decide))) ((w 55 (by omega)).trans (nn 55 (by decide))) ((w 63 (by omega)).trans (nn 63 (by decide))) ((w 72 (by omega)).trans (nn 72 (by decide))) (fun a h1 h2 => by rw [w2, hr2]; exact fx.2.2.1 a (by omega))⟩
    exact ⟨key.1, key.2, by rw [w 4 (by omega)]; exact s4, Or.inl (by rw [w 120 (by omega), nn 120 (by decide)])⟩
  | some t =>
    obtain ⟨k10, k1, kB, k4, k5, k6⟩ := hx2
    refine Tm_ite (fun _ => ?_) (fun z => absurd ((hs 10 (by omega)).trans k10) z)
    obtain ⟨tr, l1, l2, l3, l4⟩ := rd_tree pi n2 tpb hx
    refine Tm_suc (fun k => by rw [x_work]) ?_
    refine Tm_ob (rd_go (σa := mSc (mSc σ 2 0) 11 0) (ρ := r1.2) (ρ1 := ρ1) pi hP ha rfl fx kB tr l1 l2 l3 l4 hs hr2 (L := upd (fun _ => 0) 1 r1.1) k1) (fun r2 hr2' => ?_)
    obtain ⟨υ, q0, q1, q2, q3, q4, q5⟩ := hr2'
    rw [q0]
    show Tm (fun k => x_work k 8 _ (updW J 5 (ρ1.2.1 96)) (mSc (mSc υ 69 0) 109 (υ.1 57))) _
    refine Tm_suc (fun k => by rw [x_work]) ?_
    -- the seed is put back
    obtain ⟨χ, hχ⟩ : ∃ χ : MS, χ = ((mSc (mSc υ 69 0) 109 (υ.1 57)).1, updW υ.2.1 96 (ρ1.2.1 96), υ.2.2) := ⟨_, rfl⟩
    show Tm (fun k => x_work k 9 _ (updW J 5 (ρ1.2.1 96)) ((mSc (mSc υ 69 0) 109 (υ.1 57)).1, updW υ.2.1 96 (ρ1.2.1 96), υ.2.2)) _
    rw [← hχ]
    have cs : ∀ j, ¬ (j = 69 ∨ j = 109) → χ.1 j = υ.1 j := fun j hj => by
      rw [hχ]
      show upd (upd υ.1 69 0) 109 _ j = _
      rw [upd_other (by omega), upd_other (by omega)]
    have cr : χ.2.2 = υ.2.2 := by rw [hχ]
    have c96 : χ.2.1 96 = σ.2.1 96 := by
      rw [hχ, ← ll]
      show updW υ.2.1 96 (ρ1.2.1 96) 96 = _
      unfold updW
      exact if_pos rfl
    have c113 : χ.2.1 113 = υ.2.1 113 := by
      rw [hχ]
      show updW υ.2.1 96 (ρ1.2.1 96) 113 = _
      unfold updW
      exact if_neg (by decide)
    have kv4 : υ.1 4 = 0 := ((kv_m q5).1 4 (by omega)).trans s4
    refine Tm_suc (fun k => by rw [x_work]) ?_
    rcases q3 with ⟨w', q3⟩ | q3
    · -- no error: it is shown
      obtain ⟨g1, l1', B1, h1, X1, _, _, _, _, _, m1, _, _, _, _, t1, er, _⟩ := q3
      refine Tm_ite (fun _ => ?_) (fun z => absurd (by rw [cs 56 (by omega), er]; decide) z)
      refine Tm_suc (fun k => by rw [x_work]) ?_
      refine Tm_ob (s_pop (u := 0) ((cs 59 (by omega)).trans t1) (by omega) _) (fun r3 hr3 => ?_)
      rw [hr3]
      obtain ⟨a, a1, a2⟩ := m1.2.2.1 29 0 (Or.inl ⟨rfl, by omega⟩)
      have hS1 : HS g1 l1' B1 h1 (mSc χ 59 (nI 0)) := HS_c m1.1 ((show (mSc χ 59 (nI 0)).1 54 = χ.1 54 from rfl).trans (cs 54 (by omega))) ((show (mSc χ 59 (nI 0)).1 55 = χ.1 55 from rfl).trans (cs 55 (by omega))) (by show χ.2.2 28 = _; rw [cr])
      refine Tm_ob (s_show hS1 a2 (show (upd (fun _ => 0) 1 (χ.2.2 29 0) : Nat → Int32) 1 = nI a from by rw [show (upd (fun _ => 0) 1 (χ.2.2 29 0) : Nat → Int32) 1 = χ.2.2 29 0 from rfl, cr]; exact a1)) (fun r4 hr4 => ?_)
      obtain ⟨f1, f2, f3, f4, f5, ⟨qq, f6, f6'⟩, f7⟩ := hr4
      refine Tm_mono (b11 _ _ r4.2 rfl rfl) (fun r hr => ?_)
      have w : ∀ j, ¬ (j = 22 ∨ j = 24 ∨ j = 56 ∨ j = 59 ∨ j = 69 ∨ j = 79 ∨ j = 84 ∨ j = 93 ∨ j = 109 ∨ j = 120) → r.2.1 j = υ.1 j := fun j hj => by
        rw [hr]
        show upd (upd (upd r4.2.1 56 0) 22 _) 24 _ j = _
        rw [upd_other (by omega), upd_other (by omega), upd_other (by omega), f1 j (by omega)]
        show upd χ.1 59 (nI 0) j = _
        rw [upd_other (by omega)]
        exact cs j (by omega)
      have w2 : ∀ a, ¬ (a = 40 ∨ a = 42 ∨ a = 48 ∨ a = 49 ∨ a = 57) → r.2.2.2 a = υ.2.2 a := fun a ha => by
        rw [hr]
        show r4.2.2.2 a = _
        rw [f3 a ha]
        show χ.2.2 a = _
        rw [cr]
      have wl : r.2.2.1 = χ.2.1 := by rw [hr]; exact f2
      have v1 : Vd g1 (r.2.2.2 40 1) := by
        rw [hr]
        show Vd g1 (r4.2.2.2 40 1)
        rw [f5]
        show Vd g1 (χ.2.2 40 0)
        rw [cr]
        exact m1.2.2.1 40 0 (Or.inr (Or.inr (Or.inr (Or.inr (Or.inr (Or.inr (Or.inr (Or.inr ⟨rfl, by omega⟩))))))))
      have v0 : Vd g1 (r.2.2.2 40 0) := by
        rw [hr]
        show Vd g1 (r4.2.2.2 40 0)
        rw [f4]; exact ⟨a, rfl, a2⟩
      have key := wk_end (σa := mSc (mSc σ 2 0) 11 0) (ρ := r1.2) (ρ1 := ρ1) (υ := υ) (ω := r.2) pi hP hg ha rfl fx hs hr2 q1 q2 q5 q4.2 (fun j hj => w j (by omega)) (fun a h => w2 a (by omega)) (by rw [wl, c113]) (by rw [hr]; rfl) (by rw [hr]; rfl) (by rw [wl, c96]) ⟨g1, l1', B1, h1, 870000, MI_sh m1 (w 54 (by omega)) (w 55 (by omega)) (w 63 (by omega)) (w 72 (by omega)) (fun a h1 h2 => w2 a (by omega)) v0 v1⟩
      exact ⟨key.1, key.2, by rw [w 4 (by omega)]; exact kv4, Or.inr ⟨qq, by rw [hr]; exact f6, f6'⟩⟩
    · -- an error
      obtain ⟨g1, l1', B1, h1, t', m1, t1, _, _, ne, ⟨e, ee, e11⟩, _⟩ := q3
      refine Tm_ite (fun z => absurd z ?_) (fun _ => ?_)
      · rw [cs 56 (by omega), ee]
        intro z
        have := (n_le (p := e) (q := 0) (by omega) (by decide)).mp z
        exact ne (by rw [ee, show e = 0 by omega]; rfl)
      refine Tm_mono (b11 _ _ χ rfl rfl) (fun r hr => ?_)
      have w : ∀ j, ¬ (j = 22 ∨ j = 24 ∨ j = 56 ∨ j = 69 ∨ j = 109) → r.2.1 j = υ.1 j := fun j hj => by
        rw [hr]
        show upd (upd (upd χ.1 56 0) 22 _) 24 _ j = _
        rw [upd_other (by omega), upd_other (by omega), upd_other (by omega)]
        exact cs j (by omega)
      have w2 : ∀ a, r.2.2.2 a = υ.2.2 a := fun a => by
        rw [hr]
        show χ.2.2 a = _
        rw [cr]
      have wl : r.2.2.1 = χ.2.1 := by rw [hr]; rfl
      have k120 : υ.1 120 = σ.1 120 := ((kv_m q5).1 120 (by omega)).trans (nn 120 (by decide))
      have key := wk_end (σa := mSc (mSc σ 2 0) 11 0) (ρ := r1.2) (ρ1 := ρ1) (υ := υ) (ω := r.2) pi hP hg ha rfl fx hs hr2 q1 q2 q5 q4.2 (fun j hj => w j (by omega)) (fun a h => w2 a) (by rw [wl, c113]) (by rw [hr]; rfl) (by rw [hr]; rfl) (by rw [wl, c96]) ⟨g1, l1', B1, h1, 870000, MI_x (MI_mo m1 (Nat.zero_le _)) (w 54 (by omega)) (w 55 (by omega)) (w 63 (by omega)) (w 72 (by omega)) (fun a h1 h2 => w2 a)⟩
      exact ⟨key.1, key.2, by rw [w 4 (by omega)]; exact kv4, Or.inl (by rw [w 120 (by omega), k120])⟩
end WKW

/-! A func or proc of the reference, from its first word on. -/
section CAC
variable {T : Nat → Int32} {n : Nat}
/-- the unit is entered -/
theorem ca_8 {c pc : Nat} {pr : Bool} {τ : MS} {N : Nat → Int32} {R : Int32 × MS → Prop} (hc : c < 40) (hpc : pc ≤ c) (h30 : τ.1 30 = nI c) (h31 : τ.1 31 = nI pc) (n1 : N 1 = nI (if pr = true then 1 else 0)) (n2 : N 2 = nI c) (H : ∀ N' : Nat → Int32, N' 1 = N 1 → N' 2 = N 2 → Tm (fun k => x_declareCallable k 18 N' (mUn τ c (nI (if pr = true then pc + 1 else pc)) (N 1))) R) : Tm (fun k => x_declareCallable k 8 N τ) R := by
  have l01 : N 1 = 0 ∨ N 1 = 1 := by
    rw [n1]
    by_cases e : pr = true
    · rw [if_pos e]; exact Or.inr rfl
    · rw [if_neg e]; exact Or.inl rfl
  have t11 : ∀ (N' : Nat → Int32) (y : Int32), N' 1 = N 1 → N' 2 = N 2 → N' 101 + N' 100 = y → Tm (fun k => x_declareCallable k 18 N' (mUn τ c y (N 1))) R → Tm (fun k => x_declareCallable k 11 N' (upd τ.1 30 (nI (c + 1)), τ.2.1, τ.2.2)) R := by
    intro N' y m1 m2 m3 hR
    refine Tm_suc (fun k => by rw [x_declareCallable]) ?_
    rw [m3]
    refine Tm_suc (fun k => by rw [x_declareCallable]) ?_
    have e37 : (1 : Int32) + N' 2 = nI (c + 1) := by
      rw [m2, n2]
      have := n_add (p := 1) (q := c) (by omega)
      rw [show nI (c + 1) = nI (1 + c) by rw [Nat.add_comm]]
      exact this
    rw [e37]
    refine Tm_suc (fun k => by rw [x_declareCallable]) ?_
    show Tm (fun k => if ¬ (nI (c + 1) < 0 ∨ 43 ≤ (nI (c + 1)).toNatClampNeg) then x_declareCallable k 14 N' (upd (upd (upd τ.1 30 (nI (c + 1))) 31 y) 37 (nI (c + 1)), τ.2.1, updG τ.2.2 21 (upd (τ.2.2 21) (nI (c + 1)).toNatClampNeg 0)) else none) R
    refine Tm_chk (n_in (by omega) (by omega)) ?_
    rw [n_cl (p := c + 1) (by omega)]
    refine Tm_suc (fun k => by rw [x_declareCallable]) ?_
    refine Tm_suc (fun k => by rw [x_declareCallable]) ?_
    rw [m2, n2]
    refine Tm_chk (n_in (by omega) (by omega)) ?_
    rw [n_cl (p := c) (by omega)]
    refine Tm_suc (fun k => by rw [x_declareCallable]) ?_
    rw [m1]
    refine Tm_chk l01 ?_
    refine Tm_suc (fun k => by rw [x_declareCallable]) ?_
    rw [m1]
    refine Tm_chk l01 ?_
    exact hR
  refine Tm_suc (fun k => by rw [x_declareCallable]) ?_
  rw [h30, n_add1]
  refine Tm_suc (fun k => by rw [x_declareCallable]) ?_
  show Tm (fun k => if N 1 = 0 then x_declareCallable k 10 (upd N 100 (upd τ.1 30 (nI (c + 1)) 31)) (upd τ.1 30 (nI (c + 1)), τ.2.1, τ.2.2) else x_declareCallable k 11 (upd (upd N 100 1) 101 (upd τ.1 30 (nI (c + 1)) 31)) (upd τ.1 30 (nI (c + 1)), τ.2.1, τ.2.2)) R
  rw [upd_other (by decide), h31]
  refine Tm_ite (fun z => ?_) (fun z => ?_)
  · have e : ¬ pr = true := fun e => by rw [n1, if_pos e] at z; exact absurd z (by decide)
    refine Tm_suc (fun k => by rw [x_declareCallable]) ?_
    refine t11 _ (nI pc) ?_ ?_ ?_ ?_
    · rw [upd_other (by decide), upd_other (by decide), upd_other (by decide)]
    · rw [upd_other (by decide), upd_other (by decide), upd_other (by decide)]
    · show nI pc + 0 = nI pc
      exact n_add (p := pc) (q := 0) (by omega)
    · have := H (upd (upd (upd N 100 (nI pc)) 100 0) 101 (upd N 100 (nI pc) 100)) (by rw [upd_other (by decide), upd_other (by decide), upd_other (by decide)]) (by rw [upd_other (by decide), upd_other (by decide), upd_other (by decide)])
      rw [if_neg e] at this
      exact this
  · have e : pr = true := by
      by_cases e : pr = true
      · exact e
      · rw [n1, if_neg e] at z; exact absurd rfl z
    refine t11 _ (nI (pc + 1)) ?_ ?_ ?_ ?_
    · rw [upd_other (by decide), upd_other (by decide)]
    · rw [upd_other (by decide), upd_other (by decide)]
    · rw [upd_same, upd_other (by decide), upd_same, n_add1]
    · have := H (upd (upd N 100 1) 101 (nI pc)) (by rw [upd_other (by decide), upd_other (by decide)]) (by rw [upd_other (by decide), upd_other (by decide)])
      rw [if_pos e] at this
      exact this
theorem p_callable {pr : Bool} {E : En} {MD : Nat → Nat → Nat} {c pc v q : Nat} {b : BT} {s : SB} {F : Nat → Int32} {x : Option PRG} {σ : MS} {L : Nat → Int32} (hG : gCal T n pr E MD c pc v b s F q = some x) (hD : PD T n (q, E, MD, c, pc, v, b, s, F) σ) (hn : b.1 + (n + 1 - q) + 1067 ≤ 70000) (hp : b.2.1 + (n - q) ≤ 70000) (hL : L 1 = nI (if pr = true then 1 else 0)) : Tm (fun k => x_declareCallable k 0 L σ) (PoP T n σ x) := by
  obtain ⟨h, hZ, ⟨h30, hc, h31, hpc⟩, ⟨hE1, hE2, hE3⟩, hl, hk, h17, hA⟩ := hD
  have h : PS T n E 0 q v b σ := h
  have hZ : ZZ MD E s σ := hZ
  have h30 : σ.1 30 = nI c := h30
  have hc : c ≤ 40 := hc
  have h31 : σ.1 31 = nI pc := h31
  have hpc : pc ≤ c := hpc
  have hE1 : E.2.1 = [] := hE1
  have hE2 : E.2.2.1 = [] := hE2
  have hE3 : E.2.2.2.1 = 0 := hE3
  have hl : E.1.length = v + c := hl
  have hk : ∀ x ∈ E.1, ¬ x.2.2.1 = 1 → x.2.2.2 < c := hk
  have h17 : ∀ i, i < c → σ.2.2 17 i = F i ∧ UnO σ F i ∧ MoO σ E MD i := h17
  have hN := tkN_b T n q (PS_q h).1
  have hv := PS_v h
  unfold gCal at hG
  have bad : ∀ (m : Nat) (τ : MS), x = none → Bb m τ → FrV 0 σ τ → ∀ a : Int32, PoP T n σ x (a, τ) := fun m τ hx hB hV a => by rw [hx]; exact ⟨⟨m, hB⟩, FrP_V hV⟩
  refine Tm_suc (fun k => by rw [x_declareCallable]) ?_
  refine Tm_ob (v_take (w := 0) h _) (fun r1 hr1 => ?_)
  rcases pT_any hG with ⟨z, hx⟩ | ⟨z, hG⟩
  · rcases hr1.2 with ⟨_, hB⟩ | ⟨y, _⟩
    · refine Tm_ob (b_wantName hB.1 _) (fun r2 hr2 => ?_)
      rw [hr2]
      exact Tm_ite (fun z => absurd z hB.1) (fun _ => Tm_some (bad _ _ hx hB hr1.1 _))
    · exact absurd z y
  rcases hr1.2 with ⟨y, _⟩ | ⟨_, hS1⟩
  · exact absurd y z
  have hN1 := tkN_b T n (tkN T n q) hN.2.1
  have hE1b := tkE_b T n (tkN T n q) hN.2.1
  refine Tm_ob (v_wantName (w := 0) hS1 _) (fun r2 hr2 => ?_)
  rcases hr2 with ⟨x1, x2, x3⟩ | ⟨x1, x2⟩
  · have hx : x = none := by rw [if_neg (fun w => x1 w.1)] at hG; exact (Option.some.inj hG).symm
    exact Tm_ite (fun z => absurd z x2.1) (fun _ => Tm_some (bad _ _ hx x2 (FrV_tr hr1.1 x3) _))
  rw [x2]
  refine Tm_ite (fun _ => ?_) (fun z => absurd (PS_ok hS1) z)
  refine Tm_suc (fun k => by rw [x_declareCallable]) ?_
  refine Tm_ob (v_find (w := 0) hS1 (by omega) _) (fun r3 hr3 => ?_)
  obtain ⟨hS3, hV3, h46, hle⟩ := hr3
  have hV3 := FrV_tr hr1.1 hV3
  rw [h46]
  -- a fault behind the name
  have flt : ∀ (a : Int32) (p : Int32), x = none → Tm (fun k => x_declareCallable k 3 L (mFlt r3.2 a p)) (PoP T n σ x) := fun a p hx => by
    have hB := flt_b (M := 0) (P := 0) (w := 0) (PS_ok hS3) (PS_m hS3) a p
    refine Tm_suc (fun k => by rw [x_declareCallable]) ?_
    exact Tm_ite (fun z => absurd z hB.1.1) (fun _ => Tm_some (bad _ _ hx hB.1 (FrV_tr hV3 (FrV_flt _ _)) _))
  refine Tm_ite (fun z => ?_) (fun z => ?_)
  case refine_2 =>
    have z0 : ¬ (fd E (tkS T n (tkN T n q))).1 = 0 := fun y => z ((n_le0 (by omega)).mpr y)
    refine Tm_ob (s_fault _ r3.2) (fun r4 hr4 => ?_)
    have hr4 : r4 = (0, mFlt r3.2 4 (r3.2.1 8)) := hr4
    subst hr4
    exact flt _ _ (by rw [if_neg (fun w => z0 w.2.1)] at hG; exact (Option.some.inj hG).symm)
  have z0 : (fd E (tkS T n (tkN T n q))).1 = 0 := (n_le0 (by omega)).mp z
  have t30 : r3.2.1 30 = nI c := (hV3.1 30 (by decide)).trans h30
  refine Tm_suc (fun k => by rw [x_declareCallable]) ?_
  rw [t30]
  by_cases c40 : c = 40
  · refine Tm_ite (fun _ => ?_) (fun z => absurd (by rw [c40]; rfl) z)
    refine Tm_ob (s_fault _ r3.2) (fun r4 hr4 => ?_)
    have hr4 : r4 = (0, mFlt r3.2 8 (r3.2.1 8)) := hr4
    subst hr4
    exact flt _ _ (by rw [if_neg (fun w => w.2.2 c40)] at hG; exact (Option.some.inj hG).symm)
  refine Tm_ite (fun z => absurd ((n_eq (q := 40) (by omega) (by decide)).mp z) c40) (fun _ => ?_)
  rw [if_pos ⟨x1, z0, c40⟩] at hG
  refine Tm_suc (fun k => by rw [x_declareCallable]) ?_
  refine Tm_ite (fun _ => ?_) (fun z => absurd (PS_ok hS3) z)
  -- the name is told
  have l6 : ∀ N : Nat → Int32, N 1 = L 1 → N 2 = nI c → N 100 = nI (if pr = true then 3 else 2) → Tm (fun k => x_declareCallable k 6 N r3.2) (PoP T n σ x) := by
    intro N n1 n2 n100
    obtain ⟨k0, hk0, hk18⟩ := hA c (by omega)
    have hS3s : PS T n (sP E c k0) 0 (tkN T n q) v b r3.2 := PS_sp hS3 hk
    refine Tm_suc (fun k => by rw [x_declareCallable]) ?_
    have hkk : 1 ≤ (if pr = true then 3 else 2) ∧ (if pr = true then 3 else 2) ≤ 3 := by
      by_cases e : pr = true
      · rw [if_pos e]; decide
      · rw [if_neg e]; decide
    refine Tm_ob (p_tellEntity (w := 0) (k := if pr = true then 3 else 2) (m := c) hS3s (by show E.1.length < 200; omega) (by omega) hkk (by omega) (fun _ => ⟨by omega, ?_, ?_⟩) (by rw [upd_other (by decide), upd_same]; exact n100) (by rw [upd_same]; exact n2)) (fun r4 hr4 => ?_)
    · show r3.2.2.2 18 c = nI (updN E.2.2.2.2.2.2 c k0 c)
      rw [updN_s, hV3.2.2.1 18 (by decide)]; exact hk18
    · show updN E.2.2.2.2.2.2 c k0 c ≤ 8
      rw [updN_s]; exact hk0
    have hV4 := FrV_tr hV3 hr4.1
    refine Tm_ob (v_take (w := 0) hr4.2 _) (fun r5 hr5 => ?_)
    have hV5 := FrV_tr hV4 hr5.1
    have l7 : ∀ τ : MS, ¬ τ.1 10 = 0 → ∀ m, Bb m τ → FrV 0 σ τ → x = none → Tm (fun k => x_declareCallable k 7 N τ) (PoP T n σ x) := fun τ hb m hB hV hx => by
      refine Tm_suc (fun k => by rw [x_declareCallable]) ?_
      exact Tm_ite (fun z => absurd z hb) (fun _ => Tm_some (bad _ _ hx hB hV _))
    rcases pT_any hG with ⟨z, hx⟩ | ⟨z, hG⟩
    · rcases hr5.2 with ⟨_, hB⟩ | ⟨y, _⟩
      · exact Tm_ite (fun z => absurd z hB.1) (fun _ => l7 _ hB.1 _ hB hV5 hx)
      · exact absurd z y
    rcases hr5.2 with ⟨y, _⟩ | ⟨_, hS5⟩
    · exact absurd y z
    refine Tm_ite (fun _ => ?_) (fun z => absurd (PS_ok hS5) z)
    refine Tm_ob (p_sign hS5 (s := 6) (by decide) (by decide) upd_same) (fun r6 hr6 => ?_)
    obtain ⟨a6, τ⟩ := r6
    obtain ⟨rfl, hr6⟩ := hr6
    refine Tm_ite (fun y => ?_) (fun y => ?_)
    · rw [if_neg (fun w => hr6.mpr w y)] at hG
      refine Tm_ob (s_cannot _ r5.2) (fun r7 hr7 => ?_)
      subst hr7
      have hB := flt_b (M := 0) (P := 0) (w := 0) (PS_ok hS5) (PS_m hS5) 2 (r5.2.1 8)
      exact l7 _ hB.1.1 _ hB.1 (FrV_tr hV5 (FrV_flt _ _)) (Option.some.inj hG).symm
    rw [if_pos (hr6.mp y)] at hG
    refine Tm_suc (fun k => by rw [x_declareCallable]) ?_
    refine Tm_ite (fun _ => ?_) (fun z => absurd (PS_ok hS5) z)
    have n1' : N 1 = nI (if pr = true then 1 else 0) := n1.trans hL
    have n10 : N 1 = 0 ↔ pr = false := by
      rw [n1']
      cases pr with
      | true => exact ⟨fun z => absurd z (by decide), fun z => absurd z (by decide)⟩
      | false => exact ⟨fun _ => rfl, fun _ => rfl⟩
    refine ca_8 (pr := pr) (by omega) hpc ((hV5.1 30 (by decide)).trans h30) ((hV5.1 31 (by decide)).trans h31) n1' n2 (fun N' m1 m2 => ?_)
    have hN2 := tkN_b T n _ hN1.2.1
    have hS6 := PS_un (c := c) (x := nI (if pr = true then pc + 1 else pc)) hS5 (by omega) n10 hE2
    have hup : updN (updN E.2.2.2.2.2.2 c k0) c 0 = updN E.2.2.2.2.2.2 c 0 := by
      funext i
      by_cases e : i = c
      · rw [e, updN_s, updN_s]
      · rw [updN_o e, updN_o e, updN_o e]
    have hS6 : PS T n (eC1 T n pr E c (tkN T n q) b) 0 (tkN T n (tkN T n q)) 0 (bKeep b T (tkN T n q) (tkE T n (tkN T n q) - tkN T n q)) (mUn r5.2 c (nI (if pr = true then pc + 1 else pc)) (N 1)) := by
      have h6 : PS T n (E.1 ++ [(tkS T n (tkN T n q), b.2.1, (if pr = true then 3 else 2), c)], [], [], c + 1, pr, pr, updN (updN E.2.2.2.2.2.2 c k0) c 0) 0 (tkN T n (tkN T n q)) 0 (bKeep b T (tkN T n q) (tkE T n (tkN T n q) - tkN T n q)) (mUn r5.2 c (nI (if pr = true then pc + 1 else pc)) (N 1)) := hS6
      rw [hup] at h6
      exact h6
    have r19 : (mUn r5.2 c (nI (if pr = true then pc + 1 else pc)) (N 1)).2.2 19 = σ.2.2 19 := (mUn_o (by decide)).trans (hV5.2.2.1 19 (by decide))
    refine Tm_mono (ca_18 (E0 := E) hG hS6 rfl rfl updN_s (fun y hy hk3 i hi => ?_) (fun y hy hk3 => ?_) hk (fun i hi => updN_o hi) ?_ ?_ hZ.2.2.2.1 (fun i => ?_) (by omega) ?_ ?_ (by rw [m1]; exact n10) (m2.trans n2) rfl ?_ hpc ?_ hv (fun i hi => ?_) ?_ (fun y hy hny => ?_) (fun i hi => ?_) ?_ ?_) (fun r hr => ?_)
    · rw [r19]; exact hZ.1 y hy hk3 i hi
    · rcases List.mem_append.mp (show y ∈ E.1 ++ [(tkS T n (tkN T n q), b.2.1, (if pr = true then 3 else 2), c)] from hy) with hy | hy
      · exact Or.inl hy
      · rw [List.mem_singleton.mp hy]; exact Or.inr rfl
    · exact (mUn_s (by decide)).trans ((hV5.1 45 (by decide)).trans hZ.2.1)
    · exact (mUn_s (by decide)).trans ((hV5.1 44 (by decide)).trans hZ.2.2.1)
    · rw [mUn_o (by decide), mUn_o (by decide), hV5.2.2.1 10 (by decide), hV5.2.2.1 11 (by decide)]; exact hZ.2.2.2.2 i
    · show b.1 + (n + 1 - tkN T n (tkN T n q)) + 1067 ≤ 70000
      omega
    · show b.2.1 + (tkE T n (tkN T n q) - tkN T n q) + (n - tkN T n (tkN T n q)) ≤ 70000
      omega
    · show (mUn r5.2 c (nI (if pr = true then pc + 1 else pc)) (N 1)).1 31 = _
      rfl
    · rw [mUn_21, upd_other (by omega)]
      have := hS5.2.2.2.1.2.2.1
      have w0 : (glA (sP E c k0) (tkS T n (tkN T n q), b.2.1, (if pr = true then 3 else 2), c)).2.2.2.1 = 0 := hE3
      rw [w0] at this; exact this
    · rw [mUn_o (by decide)]
      have := hS5.2.2.2.1.2.2.2.2 i hi
      have w0 : (glA (sP E c k0) (tkS T n (tkN T n q), b.2.1, (if pr = true then 3 else 2), c)).2.2.2.1 = 0 := hE3
      rw [w0, Nat.mul_zero, Nat.zero_add] at this; exact this
    · show (E.1 ++ [(tkS T n (tkN T n q), b.2.1, (if pr = true then 3 else 2), c)]).length = v + (c + 1)
      rw [List.length_append]; show E.1.length + 1 = _; omega
    · rcases List.mem_append.mp (show y ∈ E.1 ++ [(tkS T n (tkN T n q), b.2.1, (if pr = true then 3 else 2), c)] from hy) with hy | hy
      · have := hk y hy hny; omega
      · rw [List.mem_singleton.mp hy]; show c < c + 1; omega
    · refine ⟨by rw [mUn_o (by decide), hV5.2.2.1 17 (by decide)]; exact (h17 i hi).1, UnO_fr (h17 i hi).2.1 ?_ (fun s hs => ?_) rfl (fun _ _ => rfl), MoO_fr (h17 i hi).2.2 (fun j _ => by rw [r19]) rfl rfl⟩
      · rw [mUn_21, upd_other (by omega)]; exact hV5.2.2.2.1 _ (by omega)
      · rw [mUn_o (by decide)]; exact hV5.2.2.2.2 _ (by omega)
    · exact FrP_un.2.2.2 ((FrP_V hV5).2.2.2 hA)
    · refine ⟨_, List.mem_append_right _ (List.mem_singleton.mpr rfl), ?_, rfl⟩
      show ¬ (if pr = true then 3 else 2) = 1
      by_cases e : pr = true
      · rw [if_pos e]; decide
      · rw [if_neg e]; decide
    · have hFF : FrP σ (mUn r5.2 c (nI (if pr = true then pc + 1 else pc)) (N 1)) := FrP_tr (FrP_V hV5) FrP_un
      cases x with
      | none => exact ⟨hr.1, FrP_tr hFF hr.2⟩
      | some g => exact ⟨hr.1, FrP_tr hFF hr.2⟩
  refine Tm_suc (fun k => by rw [x_declareCallable]) ?_
  rw [t30]
  refine Tm_ite (fun y => ?_) (fun y => ?_)
  · have e : ¬ pr = true := fun e => by rw [hL, if_pos e] at y; exact absurd y (by decide)
    refine Tm_suc (fun k => by rw [x_declareCallable]) ?_
    refine l6 _ ?_ ?_ ?_
    · rw [upd_other (by decide), upd_other (by decide), upd_other (by decide)]
    · rw [upd_other (by decide), upd_other (by decide), upd_same]
    · rw [upd_same, if_neg e]; rfl
  · have e : pr = true := by
      by_cases e : pr = true
      · exact e
      · rw [hL, if_neg e] at y; exact absurd rfl y
    refine l6 _ ?_ ?_ ?_
    · rw [upd_other (by decide), upd_other (by decide), upd_other (by decide)]
    · rw [upd_other (by decide), upd_other (by decide), upd_same]
    · rw [upd_same, if_pos e]; rfl
end CAC

/-! Patterns. -/
theorem g_ns18 (T : Nat → Int32) (n : Nat) : ∀ (f : Nat) (E : En) (o q v e c g : Nat) (b : BT) (r : RT), G T n f 18 E o q v 0 e c g b = some (some r) → v + r.2.2.2.2.2.length ≤ r.2.1
  | 0 => fun E o q v e c g b r hG => by simp only [G] at hG; cases hG
  | f + 1 => fun E o q v e c g b r hG => by
    rw [G_18] at hG
    by_cases c1 : tkK T n q = 12
    · rw [if_pos c1] at hG
      obtain ⟨_, hG⟩ := gT_s hG
      obtain ⟨_, _, hG⟩ := gN_s hG
      obtain ⟨s, h1, hG⟩ := gb_s hG
      have := g_ns18 T n f _ _ _ _ _ _ _ _ _ h1
      cases hG
      show v + (s.2.2.2.2.2 ++ [_]).length ≤ s.2.1
      rw [List.length_append]
      show v + (s.2.2.2.2.2.length + 1) ≤ _
      omega
    · rw [if_neg c1] at hG
      cases hG
      exact Nat.le_refl v
section PAT
variable {T : Nat → Int32} {n : Nat} {o M P c g : Nat}
theorem b_wantName {σ : MS} (h : ¬ σ.1 10 = 0) (L : Nat → Int32) : Tm (fun k => x_wantName k 0 L σ) (fun r => r.2 = σ) := by
  refine Tm_suc (fun k => by rw [x_wantName]) ?_
  refine Tm_ite (fun c => absurd c h) (fun _ => ?_)
  refine Tm_suc (fun k => by rw [x_wantName]) ?_
  exact Tm_some rfl
theorem b_tellName {σ : MS} (h : ¬ σ.1 10 = 0) (L : Nat → Int32) : Tm (fun k => x_tellName k 0 L σ) (fun r => r = (0, σ)) := by
  refine Tm_suc (fun k => by rw [x_tellName]) ?_
  refine Tm_ob (b_wantName h _) (fun r hr => ?_)
  obtain ⟨u, τ⟩ := r
  have hr : τ = σ := hr
  subst hr
  exact Tm_ite (fun c => absurd c h) (fun _ => Tm_some rfl)
theorem rowN_rowN {E : En} {a d : List Nm} : rowN (rowN E a) d = rowN E (d ++ a) := by
  unfold rowN; rw [List.append_assoc]
theorem rowN_nil {E : En} : rowN E [] = E := rfl
theorem seeN_nil {E : En} : seeN E [] = E := rfl
/-- names of a pattern behind the first -/
theorem pat_loop : ∀ (f : Nat) (E : En) (q v e : Nat) (b : BT) (y : Option RT), G T n f 18 E o q v 0 e c g b = some y → ∀ (σ : MS) (N : Nat → Int32) (Q : Int32 × MS → Prop), PS T n E o q v b σ → 1 ≤ M → M ≤ b.1 → P ≤ b.2.1 → b.1 + (n + 1 - q) + 3 ≤ 70000 → b.2.1 + (n - q) ≤ 70000 → c ≤ E.2.2.1.length → g ≤ 1 → N 1 = nI c → N 2 = nI g → N 4 = nI e → M ≤ e → e < b.1 →
    (∀ (ρ : MS) (N' : Nat → Int32), N' 3 = N 3 → FrM M P E.2.2.2.1 σ ρ → (match y with
      | none => ∃ m, Bb m ρ ∧ M ≤ m ∧ m ≤ b.1 + (n + 1 - q) + 1
      | some s => PS T n (rowN E s.2.2.2.2.2) o s.1 s.2.1 s.2.2.2.2.1 ρ) → Tm (fun k => x_pattern k 5 N' ρ) Q) → Tm (fun k => x_pattern k 2 N σ) Q
  | 0 => fun E q v e b y hG => by simp only [G] at hG; cases hG
  | f + 1 => fun E q v e b y hG σ N Q hS h1 hM hP hn hp hc hg hN1 hN2 hN4 he1 he2 hout => by
    rw [G_18] at hG
    have hq := PS_q hS
    have hv := PS_v hS
    have hu := tkN_b T n q hq.1
    refine Tm_suc (fun k => by rw [x_pattern]) ?_
    refine Tm_ite (fun _ => ?_) (fun z => absurd (PS_ok hS) z)
    refine Tm_ob (p_sign hS (s := 12) (by decide) (by decide) rfl) (fun r2 hr2 => ?_)
    obtain ⟨u, τ⟩ := r2
    obtain ⟨h3, hr2⟩ := hr2
    have h3 : τ = σ := h3
    subst h3
    refine Tm_ite (fun z => ?_) (fun z => ?_)
    · rw [if_neg (fun y => hr2.mpr y z)] at hG
      cases hG
      exact hout τ N rfl FrM_rf (by show PS T n (rowN E []) o q v b τ; rw [rowN_nil]; exact hS)
    have hK := hr2.mp z
    rw [if_pos hK] at hG
    have hu4 := hu.2.2.2 (by omega)
    -- a fault: out of the loop
    have out : ∀ (ρ : MS) (N' : Nat → Int32) (m : Nat), y = none → N' 3 = N 3 → Bb m ρ → M ≤ m → m ≤ b.1 + (n + 1 - q) + 1 → FrM M P E.2.2.2.1 τ ρ → Tm (fun k => x_pattern k 4 N' ρ) Q := fun ρ N' m hy hN' hB hMm hm hF => by
      subst hy
      refine Tm_suc (fun k => by rw [x_pattern]) ?_
      refine Tm_suc (fun k => by rw [x_pattern]) ?_
      refine Tm_ite (fun z => absurd z hB.1) (fun _ => ?_)
      exact hout ρ N' hN' hF ⟨m, hB, hMm, hm⟩
    refine Tm_ob (p_take (M := M) (P := P) (w := E.2.2.2.1) hS _) (fun r4 hr4 => ?_)
    rcases gT_any hG with ⟨t1, hy⟩ | ⟨t1, hG⟩
    · rcases hr4.2 with ⟨_, hB⟩ | ⟨z, _⟩
      · refine Tm_ob (b_tellName hB.1 _) (fun r5 hr5 => ?_)
        subst hr5
        refine Tm_ite (fun z => absurd z hB.1) (fun _ => ?_)
        exact out r4.2 _ _ hy (upd_other (by decide)) hB hM (by omega) hr4.1
      · exact absurd t1 z
    rcases hr4.2 with ⟨z, _⟩ | ⟨_, hS4⟩
    · exact absurd z t1
    have hw := tkN_b T n (tkN T n q) hu.2.1
    have hwE := tkE_b T n (tkN T n q) hu.2.1
    refine Tm_ob (p_tellName (M := M) (P := P) hS4 hP hM (by omega) (by omega) hc hg (by rw [upd_other (by decide), upd_same]; exact hN1) (by rw [upd_same]; exact hN2)) (fun r5 hr5 => ?_)
    rcases gN_any hG with ⟨t2, hy⟩ | ⟨t2, hG⟩
    · rcases hr5.2 with ⟨_, m, hB, hm1, hm2⟩ | ⟨z, _⟩
      · refine Tm_ite (fun z => absurd z hB.1) (fun _ => ?_)
        exact out r5.2 _ m hy (upd_other (by decide)) hB (by omega) (by omega) (FrM_tr hr4.1 hr5.1)
      · exact absurd z t2
    rcases hr5.2 with ⟨z, _⟩ | ⟨_, hr51, hS5⟩
    · exact absurd t2 z
    have hwu := hw.2.2.2 (by have := t2.1; omega)
    refine Tm_ite (fun _ => ?_) (fun z => absurd (PS_ok hS5) z)
    rw [hN4, hr51]
    refine Tm_chk (n_in (by omega) (by omega)) ?_
    rw [n_cl (p := e) (by omega)]
    refine Tm_suc (fun k => by rw [x_pattern]) ?_
    refine Tm_suc (fun k => by rw [x_pattern]) ?_
    have hS6 := PS_set (l := e) hS5 (j := 9) (by decide) (by decide) (nI b.1)
    have hF6 : FrM M P E.2.2.2.1 τ (mSet r5.2 9 e (nI b.1)) := FrM_tr hr4.1 (FrM_tr hr5.1 (FrM_set (by decide) (by decide) (Or.inr he1) _))
    have hb1 : (bSet (bNode (bKeep (bSlot b (60 * E.2.2.2.1 + v) (nI g)) T (tkN T n q) (tkE T n (tkN T n q) - tkN T n q)) 31 (if E.2.2.2.1 = 0 then 0 else 1) (nI v) 0) 9 e (nI b.1)).1 = b.1 + 1 := rfl
    have hbp : (bSet (bNode (bKeep (bSlot b (60 * E.2.2.2.1 + v) (nI g)) T (tkN T n q) (tkE T n (tkN T n q) - tkN T n q)) 31 (if E.2.2.2.1 = 0 then 0 else 1) (nI v) 0) 9 e (nI b.1)).2.1 = b.2.1 + (tkE T n (tkN T n q) - tkN T n q) := rfl
    have fin : ∀ (y' : Option RT), G T n f 18 (rowN E [(tkS T n (tkN T n q), b.2.1, v)]) o (tkN T n (tkN T n q)) (v + 1) 0 b.1 c g (bSet (bNode (bKeep (bSlot b (60 * E.2.2.2.1 + v) (nI g)) T (tkN T n q) (tkE T n (tkN T n q) - tkN T n q)) 31 (if E.2.2.2.1 = 0 then 0 else 1) (nI v) 0) 9 e (nI b.1)) = some y' → (match y' with | none => y = none | some r => y = some (r.1, r.2.1, 0, 0, r.2.2.2.2.1, r.2.2.2.2.2 ++ [(tkS T n (tkN T n q), b.2.1, v)])) → Tm (fun k => x_pattern k 2 (upd (upd N 5 (nI b.1)) 4 (upd N 5 (nI b.1) 5)) (mSet r5.2 9 e (nI b.1))) Q := fun y' hy' hyy => by
      refine pat_loop f _ _ _ _ _ y' hy' _ _ Q hS6 h1 (by rw [hb1]; omega) (by rw [hbp]; omega) (by rw [hb1]; omega) (by rw [hbp]; omega) (by show c ≤ E.2.2.1.length + 1; omega) hg ?_ ?_ ?_ (by omega) (by rw [hb1]; omega) (fun ρ N' hN' hF hm => ?_)
      · rw [upd_other (by decide), upd_other (by decide)]; exact hN1
      · rw [upd_other (by decide), upd_other (by decide)]; exact hN2
      · rw [upd_same, upd_same]
      refine hout ρ N' (hN'.trans (by rw [upd_other (by decide), upd_other (by decide)])) (FrM_tr hF6 hF) ?_
      cases y' with
      | none =>
        have hyy : y = none := hyy
        subst hyy
        obtain ⟨m, k1, k2, k3⟩ := hm
        exact ⟨m, k1, k2, by rw [hb1] at k3; omega⟩
      | some r =>
        have hyy : y = some (r.1, r.2.1, 0, 0, r.2.2.2.2.1, r.2.2.2.2.2 ++ [(tkS T n (tkN T n q), b.2.1, v)]) := hyy
        subst hyy
        have hm : PS T n (rowN (rowN E [(tkS T n (tkN T n q), b.2.1, v)]) r.2.2.2.2.2) o r.1 r.2.1 r.2.2.2.2.1 ρ := hm
        rw [rowN_rowN] at hm
        exact hm
    rcases gb_any hG with ⟨h7, hy⟩ | ⟨s, h7, hG⟩
    · exact fin none h7 hy
    · exact fin (some s) h7 (Option.some.inj hG).symm
/-- a pattern, from its [ on; behind it K -/
theorem p_pattern {f q v : Nat} {E : En} {b : BT} {x : Option RT} {σ : MS} {K : Nat → RT → Nat → Nm → RG}
    (hG : gO o (gT T n q (fun q1 => gN T n E c g q1 v b (fun q2 v2 e2 b2 nm => gb (G T n f 18 (rowN E [nm]) (o + 1) q2 v2 0 e2 c g b2) (fun r => gW T n 11 r.1 (fun q3 => K q3 r e2 nm))))) = some x)
    (hK : tkK T n q = 10) (hS : PS T n E o q v b σ) (h1 : 1 ≤ M) (hM : M ≤ b.1) (hP : P ≤ b.2.1) (hn : b.1 + (n + 1 - q) + 4 ≤ 70000) (hp : b.2.1 + (n - q) ≤ 70000) (hc : c ≤ E.2.2.1.length) (hg : g ≤ 1) {L : Nat → Int32} (hL1 : L 1 = nI c) (hL2 : L 2 = nI g) :
    Tm (fun k => x_pattern k 0 L σ) (fun r => FrM M P E.2.2.2.1 σ r.2 ∧ ((x = none ∧ ∃ m, Bb m r.2 ∧ M ≤ m ∧ m ≤ b.1 + (n + 1 - q) + 1) ∨ ∃ (q3 : Nat) (s : RT) (e2 : Nat) (nm : Nm), K q3 s e2 nm = some x ∧ PS T n (rowN E (s.2.2.2.2.2 ++ [nm])) o q3 s.2.1 s.2.2.2.2.1 r.2 ∧ r.1 = nI e2 ∧ M ≤ e2 ∧ e2 < s.2.2.2.2.1.1 ∧ q < q3 ∧ b.1 ≤ s.2.2.2.2.1.1 ∧ s.2.2.2.2.1.1 + q + 1 ≤ b.1 + q3 ∧ b.2.1 ≤ s.2.2.2.2.1.2.1 ∧ s.2.2.2.2.1.2.1 + q ≤ b.2.1 + q3 ∧ v + (s.2.2.2.2.2 ++ [nm]).length ≤ s.2.1)) := by
  have hq := PS_q hS
  have hv := PS_v hS
  have hu := tkN_b T n q hq.1
  have hu4 := hu.2.2.2 (by omega)
  have hw := tkN_b T n (tkN T n q) hu.2.1
  have hwE := tkE_b T n (tkN T n q) hu.2.1
  -- behind a fault
  have bend : ∀ (ρ : MS) (m : Nat) (N : Nat → Int32), x = none → Bb m ρ → M ≤ m → m ≤ b.1 + (n + 1 - q) + 1 → FrM M P E.2.2.2.1 σ ρ → Tm (fun k => x_pattern k 5 N ρ) (fun r => FrM M P E.2.2.2.1 σ r.2 ∧ ((x = none ∧ ∃ m, Bb m r.2 ∧ M ≤ m ∧ m ≤ b.1 + (n + 1 - q) + 1) ∨ ∃ (q3 : Nat) (s : RT) (e2 : Nat) (nm : Nm), K q3 s e2 nm = some x ∧ PS T n (rowN E (s.2.2.2.2.2 ++ [nm])) o q3 s.2.1 s.2.2.2.2.1 r.2 ∧ r.1 = nI e2 ∧ M ≤ e2 ∧ e2 < s.2.2.2.2.1.1 ∧ q < q3 ∧ b.1 ≤ s.2.2.2.2.1.1 ∧ s.2.2.2.2.1.1 + q + 1 ≤ b.1 + q3 ∧ b.2.1 ≤ s.2.2.2.2.1.2.1 ∧ s.2.2.2.2.1.2.1 + q ≤ b.2.1 + q3 ∧ v + (s.2.2.2.2.2 ++ [nm]).length ≤ s.2.1)) := fun ρ m N hx hB hMm hm hF => by
    refine Tm_suc (fun k => by rw [x_pattern]) ?_
    refine Tm_ob (b_want hB.1 _) (fun r1 hr1 => ?_)
    obtain ⟨u, τ⟩ := r1
    have hr1 : τ = ρ := hr1
    subst hr1
    refine Tm_suc (fun k => by rw [x_pattern]) ?_
    exact Tm_some ⟨FrM_tr hF (FrM_opn _), Or.inl ⟨hx, m, Bb_opn hB _, hMm, hm⟩⟩
  have bone : ∀ (ρ : MS) (N : Nat → Int32), x = none → Bb b.1 ρ → FrM M P E.2.2.2.1 σ ρ → Tm (fun k => x_pattern k 1 N ρ) (fun r => FrM M P E.2.2.2.1 σ r.2 ∧ ((x = none ∧ ∃ m, Bb m r.2 ∧ M ≤ m ∧ m ≤ b.1 + (n + 1 - q) + 1) ∨ ∃ (q3 : Nat) (s : RT) (e2 : Nat) (nm : Nm), K q3 s e2 nm = some x ∧ PS T n (rowN E (s.2.2.2.2.2 ++ [nm])) o q3 s.2.1 s.2.2.2.2.1 r.2 ∧ r.1 = nI e2 ∧ M ≤ e2 ∧ e2 < s.2.2.2.2.1.1 ∧ q < q3 ∧ b.1 ≤ s.2.2.2.2.1.1 ∧ s.2.2.2.2.1.1 + q + 1 ≤ b.1 + q3 ∧ b.2.1 ≤ s.2.2.2.2.1.2.1 ∧ s.2.2.2.2.1.2.1 + q ≤ b.2.1 + q3 ∧ v + (s.2.2.2.2.2 ++ [nm]).length ≤ s.2.1)) := fun ρ N hx hB hF => by
    refine Tm_suc (fun k => by rw [x_pattern]) ?_
    refine Tm_ob (b_tellName hB.1 _) (fun r5 hr5 => ?_)
    subst hr5
    refine Tm_suc (fun k => by rw [x_pattern]) ?_
    refine Tm_ite (fun z => absurd z hB.1) (fun _ => ?_)
    exact bend ρ _ _ hx hB hM (by omega) hF
  refine Tm_suc (fun k => by rw [x_pattern]) ?_
  refine Tm_ob (p_open (M := M) (P := P) (w := E.2.2.2.1) hS _) (fun r1 hr1 => ?_)
  rcases gO_any hG with ⟨t0, hx⟩ | ⟨t0, hG⟩
  · rcases hr1.2 with ⟨_, hB⟩ | ⟨z, _⟩
    · exact Tm_ite (fun c => absurd c hB.1) (fun _ => bone r1.2 _ hx hB hr1.1)
    · omega
  rcases hr1.2 with ⟨z, _⟩ | ⟨ho2, hS1, _⟩
  · exact absurd z t0
  refine Tm_ite (fun _ => ?_) (fun c => absurd (PS_ok hS1) c)
  refine Tm_ob (p_take (M := M) (P := P) (w := E.2.2.2.1) hS1 _) (fun r3 hr3 => ?_)
  rcases gT_any hG with ⟨t1, hx⟩ | ⟨t1, hG⟩
  · rcases hr3.2 with ⟨_, hB⟩ | ⟨z, _⟩
    · exact bone r3.2 _ hx hB (FrM_tr hr1.1 hr3.1)
    · exact absurd t1 z
  rcases hr3.2 with ⟨z, _⟩ | ⟨_, hS3⟩
  · exact absurd z t1
  refine Tm_suc (fun k => by rw [x_pattern]) ?_
  refine Tm_ob (p_tellName (M := M) (P := P) hS3 hP hM (by omega) (by omega) hc hg (by rw [upd_other (by decide), upd_same]; exact hL1) (by rw [upd_same]; exact hL2)) (fun r5 hr5 => ?_)
  have hF5 := FrM_tr hr1.1 (FrM_tr hr3.1 hr5.1)
  rcases gN_any hG with ⟨t2, hx⟩ | ⟨t2, hG⟩
  · rcases hr5.2 with ⟨_, m, hB, hm1, hm2⟩ | ⟨z, _⟩
    · refine Tm_suc (fun k => by rw [x_pattern]) ?_
      refine Tm_ite (fun z => absurd z hB.1) (fun _ => ?_)
      exact bend r5.2 m _ hx hB (by omega) (by omega) hF5
    · exact absurd z t2
  rcases hr5.2 with ⟨z, _⟩ | ⟨_, hr51, hS5⟩
  · exact absurd t2 z
  have hwu := hw.2.2.2 (by have := t2.1; omega)
  have hb1 : (bNode (bKeep (bSlot b (60 * E.2.2.2.1 + v) (nI g)) T (tkN T n q) (tkE T n (tkN T n q) - tkN T n q)) 31 (if E.2.2.2.1 = 0 then 0 else 1) (nI v) 0).1 = b.1 + 1 := rfl
  have hbp : (bNode (bKeep (bSlot b (60 * E.2.2.2.1 + v) (nI g)) T (tkN T n q) (tkE T n (tkN T n q) - tkN T n q)) 31 (if E.2.2.2.1 = 0 then 0 else 1) (nI v) 0).2.1 = b.2.1 + (tkE T n (tkN T n q) - tkN T n q) := rfl
  -- the loop gives a fault or a row
  obtain ⟨y, h7, hy⟩ : ∃ y, G T n f 18 (rowN E [(tkS T n (tkN T n q), b.2.1, v)]) (o + 1) (tkN T n (tkN T n q)) (v + 1) 0 b.1 c g (bNode (bKeep (bSlot b (60 * E.2.2.2.1 + v) (nI g)) T (tkN T n q) (tkE T n (tkN T n q) - tkN T n q)) 31 (if E.2.2.2.1 = 0 then 0 else 1) (nI v) 0) = some y ∧ (match y with | none => x = none | some r => gW T n 11 r.1 (fun q3 => K q3 r b.1 (tkS T n (tkN T n q), b.2.1, v)) = some x) := by
    rcases gb_any hG with ⟨h7, hy⟩ | ⟨s, h7, hG⟩
    · exact ⟨none, h7, hy⟩
    · exact ⟨some s, h7, hG⟩
  refine pat_loop (M := M) (P := P) f _ _ _ _ _ y h7 r5.2 _ _ hS5 h1 (by rw [hb1]; omega) (by rw [hbp]; omega) (by rw [hb1]; omega) (by rw [hbp]; omega) (by show c ≤ E.2.2.1.length + 1; omega) hg ?_ ?_ ?_ hM (by rw [hb1]; omega) (fun ρ N' hN' hF hm => ?_)
  · rw [upd_other (by decide), upd_other (by decide)]; exact hL1
  · rw [upd_other (by decide), upd_other (by decide)]; exact hL2
  · rw [upd_same]; exact hr51
  cases y with
  | none =>
    have hx : x = none := hy
    obtain ⟨m, k1, k2, k3⟩ := hm
    exact bend ρ m N' hx k1 k2 (by rw [hb1] at k3; omega) (FrM_tr hF5 hF)
  | some s =>
    have hG : gW T n 11 s.1 (fun q3 => K q3 s b.1 (tkS T n (tkN T n q), b.2.1, v)) = some x := hy
    have hm : PS T n (rowN (rowN E [(tkS T n (tkN T n q), b.2.1, v)]) s.2.2.2.2.2) (o + 1) s.1 s.2.1 s.2.2.2.2.1 ρ := hm
    rw [rowN_rowN] at hm
    obtain ⟨x1, _⟩ := g_mono T n f 18 _ _ _ _ _ _ _ _ _ s hw.2.1 (PS_v hS5) h7 M (by rw [hb1]; omega) h1 trivial
    obtain ⟨a1, a2, a3, a4, a5, a6, a7, a8⟩ := (x1 : Mo n _ _ _ s)
    rw [hb1] at a5 a6
    rw [hbp] at a7 a8
    have hws := tkN_b T n s.1 a2
    clear hr5
    have z1 : M ≤ s.2.2.2.2.1.1 := by omega
    have z2 : s.2.2.2.2.1.1 ≤ b.1 + (n + 1 - q) + 1 := by omega
    refine Tm_suc (fun k => by rw [x_pattern]) ?_
    refine Tm_ob (p_want (M := M) (P := P) (w := E.2.2.2.1) hm (s := 11) (by decide) (by decide) rfl) (fun r6 hr6 => ?_)
    refine Tm_suc (fun k => by rw [x_pattern]) ?_
    have hF6 : FrM M P E.2.2.2.1 σ (mOpn r6.2 (r6.2.1 13 - 1)) := FrM_tr hF5 (FrM_tr hF (FrM_tr hr6.1 (FrM_opn _)))
    rcases gW_any hG with ⟨t6, hx⟩ | ⟨t6, hG⟩
    · rcases hr6.2 with ⟨_, hB⟩ | ⟨z, _⟩
      · exact Tm_some ⟨hF6, Or.inl ⟨hx, s.2.2.2.2.1.1, Bb_opn hB _, z1, z2⟩⟩
      · exact absurd z t6
    rcases hr6.2 with ⟨z, _⟩ | ⟨_, hS6⟩
    · exact absurd t6 z
    have hws4 := hws.2.2.2 (by rw [t6.1]; decide)
    refine Tm_some ⟨hF6, Or.inr ⟨_, s, b.1, _, hG, PS_clo hS6, ?_, hM, by omega, by omega, by omega, by omega, by omega, by omega, ?_⟩⟩
    rotate_left
    · have := g_ns18 T n f _ _ _ _ _ _ _ _ _ h7
      rw [List.length_append]
      show v + (s.2.2.2.2.2.length + 1) ≤ s.2.1
      omega
    show N' 3 = nI b.1
    rw [hN', upd_other (by decide), upd_same]; exact hr51
end PAT

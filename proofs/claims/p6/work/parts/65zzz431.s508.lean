/-! The class: one statement is read. -/
section CXX
variable {σ σ' σ0 τ τ' τ0 : CS} {L : LV} {b : Bool} {T : Nat → Int32} {n q q' u al o v mk mk' p sz sz' szB szE nc nc0 sz0 mk0 a1 a2 m kk f e s0 ow a t0 g D w st w' st' M nm deep vv np lp N Bd ns nb k d P h st0 b0 it : Nat} {y qh qh' y0 y1 wd x0 x1 x3 : Int32} {l l' cs cs' cs2 ll lt lt0 co bo : List Int32} {tb : List Ent} {E : En} {gl : Nat × (Nat → Nat → Prop)} {Vm : Nat → Prop} {Pc : Nat → Nat → Prop} {MD : Nat → Nat → Nat} {md : Nat → Nat} {bt : BT} {ks qs qs' qa qb js es qsI : List Nat} {lo lo' : Option Nat} {s : SB}
/-- a statement and its ; -/
def seZ (T : Nat → Int32) (n : Nat) (z : Option (Nat × Nat × Nat)) : Option (Nat × Nat × Nat) := match z with
  | none => none
  | some r => if tkK T n r.1 = 13 ∧ ¬ tkK T n (tkN T n r.1) = 0 then some (tkN T n r.1, r.2.1, r.2.2) else none
def SeT (y : Option ST) (z : Option (Nat × Nat × Nat)) : Prop := (z = none ∧ y = none) ∨ ∃ (r : Nat × Nat × Nat) (nd : Nat) (bb : BT) (ss : SB), z = some r ∧ y = some (r.1, r.2.1, 0, nd, bb, ss) ∧ ss.1 = r.2.2
theorem SeT_of {y : Option ST} {z : Option (Nat × Nat × Nat)} (h : SemS T n y z) : SeT y (seZ T n z) := by
  rcases h with ⟨e1, e2⟩ | ⟨r, nd, bb, ss, e1, e2, e3⟩
  · rw [e1]; exact Or.inl ⟨rfl, e2⟩
  · rw [e1]
    show SeT y (if tkK T n r.1 = 13 ∧ ¬ tkK T n (tkN T n r.1) = 0 then some (tkN T n r.1, r.2.1, r.2.2) else none)
    rcases hW_any e2 with ⟨w1, w2⟩ | ⟨w1, w2⟩
    · rw [if_neg w1]; exact Or.inl ⟨rfl, w2⟩
    · rw [if_pos w1]; exact Or.inr ⟨_, nd, bb, ss, rfl, (Option.some.inj w2).symm, e3⟩
theorem Sem_S {x : Option RT} {z : Option (Nat × Nat)} {y : Option ST} (h : Sem T n x z) (hl : lb (some x) (lif s) = some y) : SemS T n y (z.map (fun r => (r.1, r.2, s.1))) := by
  rcases h with ⟨e1, e2⟩ | ⟨r, e, bb, e1, e2⟩
  · rw [e1]; rw [e2] at hl
    exact Or.inl ⟨rfl, (Option.some.inj hl).symm⟩
  · rw [e1]
    refine Or.inr ⟨(r.1, r.2, s.1), e, bb, s, rfl, ?_, rfl⟩
    show hW T n 13 r.1 (fun q3 => some (some (q3, r.2, 0, e, bb, s))) = some y
    rcases gW_any e2 with ⟨w1, w2⟩ | ⟨w1, w2⟩
    · rw [w2] at hl
      rw [← hl]
      unfold hW hT
      by_cases c : tkK T n r.1 = 13
      · rw [if_pos c, if_pos (Classical.byContradiction fun z => w1 ⟨c, z⟩)]; rfl
      · rw [if_neg c]; rfl
    · rw [← Option.some.inj w2] at hl
      unfold hW hT
      rw [if_pos w1.1, if_neg w1.2, ← hl]
      rfl
theorem lb_S {x0 : RG} {y : Option ST} (hl : lb x0 (lif s) = some y) : ∃ x, x0 = some x ∧ lb (some x) (lif s) = some y := by
  rcases lb_any hl with ⟨y1, _⟩ | ⟨_, y1, _⟩
  · exact ⟨_, y1, by rw [y1] at hl; exact hl⟩
  · exact ⟨_, y1, by rw [y1] at hl; exact hl⟩
/-- behind a statement and its ; -/
def S1T (T : Nat → Int32) (n : Nat) (b : Bool) (u al : Nat) (gl : Nat × (Nat → Nat → Prop)) (Pc : Nat → Nat → Prop) (Vm : Nat → Prop) (tb : List Ent) (o mk N q v w st : Nat) (lo : Option Nat) (qh : Int32) (Bd : Nat) (r : Nat × Nat × Nat) (τ : CS) : Prop := ∃ (cs : List Int32) (qs : List Nat) (ns : Nat), QS T n b u al tb o r.1 r.2.1 mk 0 (N + cs.length) τ ∧ (∀ i, i < cs.length → cdr b τ (N + i) = cs.getD i 0) ∧ ZF b u w r.2.2 lo (hdQ N qh qs) τ ∧ Stm u gl Pc Vm w N lo Bd ns qs cs ∧ JsT N cs qh qs ∧ (2 * cs.length ≤ 7 * (r.1 - q) ∧ ns + st ≤ r.2.2 + 1 ∧ qs.length ≤ lqN lo ns) ∧ q < r.1 ∧ v ≤ r.2.1
theorem ZPo_m {α β : Type} {S : α → Int32 → CS → Prop} {z : Option β} {R : β → Int32 → CS → Prop} {g : β → α} {r : RS} (h : ZPo b u nc sz mk z R σ a1 a2 r) (hs : sz' ≤ sz) (hm : ∀ t y τ, R t y τ → ZK b u nc sz mk σ τ → S (g t) y τ) : ZPo b u nc sz' mk (z.map g) S σ a1 a2 r := by
  refine ⟨fun t e => ?_, fun e => ?_, h.2.2.1, h.2.2.2.1, ZK_w h.2.2.2.2 hs⟩
  · cases z with
    | none => cases e
    | some t0 =>
      have e' : g t0 = t := Option.some.inj e
      have y := h.1 t0 rfl
      rw [← e']
      exact ⟨y.1, hm _ _ _ y.2 h.2.2.2.2⟩
  · cases z with
    | none => exact h.2.1 rfl
    | some t0 => cases e
theorem st_0 (k d : Nat) (L : LV) (σ : CS) : f_F3 (k + 1) d 4 0 L σ = (if ((σ.1 3702)) = (2 : Int32) then (f_F3 k d 4 1 L σ) else (if ((σ.1 3702)) = (14 : Int32) then (f_F3 k d 4 2 L σ) else (if ((σ.1 3702)) = (39 : Int32) then (f_F3 k d 4 3 L σ) else (if ((σ.1 3702)) = (43 : Int32) then (f_F3 k d 4 4 L σ) else (if ((σ.1 3702)) = (45 : Int32) then (f_F3 k d 4 5 L σ) else (if ((σ.1 3702)) = (52 : Int32) then (f_F3 k d 4 6 L σ) else (f_F3 k d 4 7 L σ))))))) := rfl
theorem st_1 (k d : Nat) (L : LV) (σ : CS) : f_F3 (k + 1) d 4 1 L σ = (ox (f_X5_nameStatement k 0 lZ σ) (fun r1 => f_F3 k d 4 8 L r1.2.1)) := rfl
theorem st_2 (k d : Nat) (L : LV) (σ : CS) : f_F3 (k + 1) d 4 2 L σ = (ox (f_X5_holesStatement k 0 lZ σ) (fun r1 => f_F3 k d 4 8 L r1.2.1)) := rfl
theorem st_3 (k d : Nat) (L : LV) (σ : CS) : f_F3 (k + 1) d 4 3 L σ = (of d (fun e1 => ox (f_F3 k e1 2 0 lZ σ) (fun r1 => f_F3 k d 4 8 L r1.2.1))) := rfl
theorem st_4 (k d : Nat) (L : LV) (σ : CS) : f_F3 (k + 1) d 4 4 L σ = (of d (fun e1 => ox (f_F3 k e1 5 0 (lI lZ 1 ((L.1 1))) σ) (fun r1 => f_F3 k d 4 8 L r1.2.1))) := rfl
theorem st_5 (k d : Nat) (L : LV) (σ : CS) : f_F3 (k + 1) d 4 5 L σ = (of d (fun e1 => ox (f_F3 k e1 1 0 lZ σ) (fun r1 => f_F3 k d 4 8 L r1.2.1))) := rfl
theorem st_6 (k d : Nat) (L : LV) (σ : CS) : f_F3 (k + 1) d 4 6 L σ = (ox (f_X2_advance k 0 lZ σ) (fun r1 => ox (f_X5_want k 0 (lI lZ 1 10) r1.2.1) (fun r2 => ox (f_X5_opens k 0 lZ r2.2.1) (fun r3 => oP (sPp r3.2.1) (fun b4 => ox (f_X5_exps k 0 lZ r3.2.1) (fun r5 => ox (f_X7_emit__P k 0 (lI (lI (lB lZ 0 b4) 1 208) 2 r5.1.2) r5.2.1) (fun r6 => ox (f_X5_closes k 0 (lI lZ 1 11) r6.2.1) (fun r7 => f_F3 k d 4 8 L r7.2.1)))))))) := rfl
theorem st_7 (k d : Nat) (L : LV) (σ : CS) : f_F3 (k + 1) d 4 7 L σ = (ox (f_X5_plainStatement k 0 lZ σ) (fun r1 => f_F3 k d 4 8 L r1.2.1)) := rfl
theorem st_8 (k d : Nat) (L : LV) (σ : CS) : f_F3 (k + 1) d 4 8 L σ = (ox (f_X5_expect k 0 (lI lZ 1 17) σ) (fun r1 => some ((0, 0), r1.2.1, (0, 0)))) := rfl
theorem st_fin {g : Nat → Option RS} {z : Option (Nat × Nat × Nat)} (t : Tm g (ZPo b u tb.length N mk z (fun r _ τ => S1W T n b u al gl Pc Vm tb o mk N q v w st lo qh Bd r τ) σ 0 0)) : Tm (fun k => ox (g k) (fun r1 => f_F3 k d 4 8 L r1.2.1)) (ZPo b u tb.length N mk (seZ T n z) (fun r _ τ => S1T T n b u al gl Pc Vm tb o mk N q v w st lo qh Bd r τ) σ 0 0) := by
  refine zt_callO (C := True) t ?_
  cases z with
  | none => exact Or.inl ⟨rfl, rfl⟩
  | some r =>
    refine Or.inr ⟨r, rfl, trivial, fun τ2 ret2 n1 n2 hr zk hc => ?_⟩
    obtain ⟨cs, qs, ns, r1, r2, r3, r4, r5, ⟨r6, r6', r6''⟩, r7, r8⟩ := hr
    have s2 : Zy T n b u al σ tb.length N mk (0 + n1) (0 + n2) tb o r.1 r.2.1 mk w r.2.2 lo (hdQ N qh qs) N cs τ2 := ⟨⟨r1, zk, hc, Nat.le_refl _, Nat.le_add_right _ _, Nat.le_refl _⟩, r2, r3⟩
    have go := tk_go r1
    show Tm (fun k => f_F3 k d 4 8 L τ2) (ZPo b u tb.length N mk (if tkK T n r.1 = 13 ∧ ¬ tkK T n (tkN T n r.1) = 0 then some (tkN T n r.1, r.2.1, r.2.2) else none) (fun r _ τ => S1T T n b u al gl Pc Vm tb o mk N q v w st lo qh Bd r τ) σ (0 + n1) (0 + n2))
    refine Tm_suc (fun k => st_8 k _ _ _) ?_
    by_cases k13 : tkK T n r.1 = 13 ∧ ¬ tkK T n (tkN T n r.1) = 0
    · rw [if_pos k13]
      have g2 := go.2.2 (by omega)
      refine zt_expect (kk := 13) (C := True) s2 (by decide) rfl (Or.inr ⟨k13, trivial⟩) (fun τ3 ret3 n3 n4 _ s3 xk3 => ?_)
      exact Tm_some (Zfin s3 ⟨cs, qs, ns, s3.1.1, s3.2.1, s3.2.2, r4, r5, ⟨by show 2 * cs.length ≤ 7 * (tkN T n r.1 - q); omega, r6', r6''⟩, by show q < tkN T n r.1; omega, r8⟩)
    · rw [if_neg k13]
      exact zt_expect (kk := 13) (C := False) s2 (by decide) rfl (Or.inl ⟨k13, rfl⟩) (fun _ _ _ _ c _ _ => c.elim)
/-- a statement that is whole in itself -/
theorem st_one {g : Nat → Option RS} {z : Option (Nat × Nat)} (hb : cdr b σ N = em 0 (nI q)) (hp : q < 8388608) (t : Tm g (ZPo b u tb.length (N + 1) mk z (fun r _ τ => SzR T n b u al gl Pc Vm tb o mk (N + 1) q v w st lo qh r τ) σ 0 0)) : Tm g (ZPo b u tb.length N mk (z.map (fun r => (r.1, r.2, st))) (fun r _ τ => S1W T n b u al gl Pc Vm tb o mk N q v w st lo qh Bd r τ) σ 0 0) := by
  refine Tm_mono t (fun r hr => ZPo_m hr (Nat.le_add_right _ _) (fun t y τ ht zk => ?_))
  obtain ⟨⟨ll, x, r1, r2, ⟨r3, r3'⟩, r4, r5, r6⟩, zf⟩ := ht
  refine S1W_of ⟨ll, [], 1, r1, r2, zf, Stm_s r3 r3' hp, trivial, ⟨by show 2 * ll.length ≤ 7 * (t.1 - q) + 0; omega, by show 1 + st ≤ st + 1; omega, Nat.zero_le _⟩, r5, r6⟩ ?_
  rw [(zk.2.2.2.2.2.1 N (by omega)).1]
  exact hb
end CXX

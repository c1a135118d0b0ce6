/-! Funcs and procs: the grammar; units are entered and left. -/
def fu (n : Nat) : Nat := 40 * n + 40
/-- rows of variables of a proc -/
def GVs (T : Nat → Int32) (n : Nat) : Nat → En → Nat → Nat → BT → Option (Option DV)
  | 0, _, _, _, _ => none
  | f + 1, E, q, v, b => if tkK T n q = 32 then pb (pT T n q (fun q1 => GVr T n (fu n) E q1 v b)) (fun r => GVs T n f r.2.1 r.1 r.2.2.1 r.2.2.2) else some (some (q, E, v, b))
/-- next token, the first node and how many slots, what is laid, statements -/
abbrev BD := Nat × (Int32 × Nat) × BT × SB
def gBod (T : Nat → Int32) (n : Nat) (pr : Bool) (MD : Nat → Nat → Nat) (E : En) (q v : Nat) (b : BT) (s : SB) : Option (Option BD) :=
  if pr = true then pW T n 13 q (fun q1 => pb (GVs T n (fu n) E q1 v b) (fun r => pb (GS T n MD (fu n) 0 r.2.1 0 0 r.1 r.2.2.1 (-1) 0 0 r.2.2.2 s) (fun t => pW T n 38 t.1 (fun q2 => pW T n 13 q2 (fun q3 => some (some (q3, (hd t.2.2.2.1, t.2.1), t.2.2.2.2.1, t.2.2.2.2.2)))))))
  else pW T n 17 q (fun q1 => pb (G T n (fu n) 0 E 0 q1 v 0 0 0 0 b) (fun t => pW T n 13 t.1 (fun q2 => some (some (q2, (nI t.2.2.2.1, t.2.1), t.2.2.2.2.1, s)))))
/-- next token, what is around, modes, callables, procs, variables, what is laid, statements, first nodes -/
abbrev PRG := Nat × En × (Nat → Nat → Nat) × Nat × Nat × Nat × BT × SB × (Nat → Int32)
def bRes (cn : Nat → Int32) (b : BT) : BT := (b.1, b.2.1, b.2.2.1, b.2.2.2.1, fun i => if i < 60 then cn i else b.2.2.2.2 i)
abbrev eC1 (T : Nat → Int32) (n : Nat) (pr : Bool) (E : En) (c q : Nat) (b : BT) : En := (E.1 ++ [(tkS T n q, b.2.1, (if pr = true then 3 else 2), c)], [], [], c + 1, pr, pr, updN E.2.2.2.2.2.2 c 0)
abbrev nmC (T : Nat → Int32) (n : Nat) (E : En) (c q : Nat) : Prop := tkK T n q = 26 ∧ (fd E (tkS T n q)).1 = 0 ∧ ¬ c = 40
/-- of each func or proc: its first node, how many slots (from 100 on), which of them count (from 1000 on) -/
def upF (F : Nat → Int32) (c : Nat) (e : Int32 × Nat) (fl : Nat → Int32) (j : Nat) : Int32 := if j = c then e.1 else if j = 100 + c then nI e.2 else if 1060 + 60 * c ≤ j ∧ j < 1120 + 60 * c then fl (j - 1000) else F j
theorem upF_c {F : Nat → Int32} {c : Nat} {e : Int32 × Nat} {fl : Nat → Int32} : upF F c e fl c = e.1 := if_pos rfl
theorem upF_h {F : Nat → Int32} {c : Nat} {e : Int32 × Nat} {fl : Nat → Int32} : upF F c e fl (100 + c) = nI e.2 := by
  unfold upF; rw [if_neg (by omega), if_pos rfl]
theorem upF_s {F : Nat → Int32} {c s : Nat} {e : Int32 × Nat} {fl : Nat → Int32} (hc : c < 40) (hs : s < 60) : upF F c e fl (1000 + (60 * (1 + c) + s)) = fl (60 * (1 + c) + s) := by
  unfold upF; rw [if_neg (by omega), if_neg (by omega), if_pos (by omega), Nat.add_sub_cancel_left]
theorem upF_o {F : Nat → Int32} {c j : Nat} {e : Int32 × Nat} {fl : Nat → Int32} (h : ¬ (j = c ∨ j = 100 + c ∨ (1060 + 60 * c ≤ j ∧ j < 1120 + 60 * c))) : upF F c e fl j = F j := by
  unfold upF; rw [if_neg (by omega), if_neg (by omega), if_neg (by omega)]
/-- the unit of the i-th func or proc: slots, and which count -/
def UnO (σ : MS) (F : Nat → Int32) (i : Nat) : Prop := ∃ h, h ≤ 60 ∧ F (100 + i) = nI h ∧ σ.2.2 21 (1 + i) = nI h ∧ ∀ s, s < h → σ.2.2 20 (60 * (1 + i) + s) = F (1000 + (60 * (1 + i) + s))
theorem UnO_fr {σ τ : MS} {F F' : Nat → Int32} {i : Nat} (h : UnO σ F i) (h21 : τ.2.2 21 (1 + i) = σ.2.2 21 (1 + i)) (h20 : ∀ s, s < 60 → τ.2.2 20 (60 * (1 + i) + s) = σ.2.2 20 (60 * (1 + i) + s)) (hF : F' (100 + i) = F (100 + i)) (hG : ∀ s, s < 60 → F' (1000 + (60 * (1 + i) + s)) = F (1000 + (60 * (1 + i) + s))) : UnO τ F' i := by
  obtain ⟨h, a1, a2, a3, a4⟩ := h
  exact ⟨h, a1, hF.trans a2, h21.trans a3, fun s hs => by rw [h20 s (by omega), hG s (by omega)]; exact a4 s hs⟩
/-- the modes of the i-th func or proc -/
def MoO (σ : MS) (E : En) (MD : Nat → Nat → Nat) (i : Nat) : Prop := E.2.2.2.2.2.2 i ≤ 8 ∧ ∀ j, j < E.2.2.2.2.2.2 i → σ.2.2 19 (8 * i + j) = nI (MD i j) ∧ MD i j ≤ 2
theorem MoO_fr {σ τ : MS} {E E' : En} {MD MD' : Nat → Nat → Nat} {i : Nat} (h : MoO σ E MD i) (hr : ∀ j, j < 8 → τ.2.2 19 (8 * i + j) = σ.2.2 19 (8 * i + j)) (hE : E'.2.2.2.2.2.2 i = E.2.2.2.2.2.2 i) (hM : MD' i = MD i) : MoO τ E' MD' i := by
  obtain ⟨h1, h2⟩ := h
  unfold MoO
  rw [hE, hM]
  exact ⟨h1, fun j hj => by rw [hr j (by omega)]; exact h2 j hj⟩
/-- from the ( on -/
def gCb (T : Nat → Int32) (n : Nat) (pr : Bool) (E : En) (MD : Nat → Nat → Nat) (c pc v : Nat) (b b1 : BT) (s : SB) (F : Nat → Int32) (E1 : En) (q : Nat) : Option (Option PRG) :=
  pT T n q (fun q3 => pb (GPm T n pr c (fu n) E1 0 (fun _ => 0) q3 0 b1) (fun a => pT T n a.1 (fun q5 => pb (gBod T n pr (fun p => if p = c then a.2.2.2.1 else MD p) a.2.1 q5 a.2.2.2.2.1 a.2.2.2.2.2 s) (fun z =>
    some (some (z.1, (a.2.1.1, [], [], 0, true, true, a.2.1.2.2.2.2.2.2), (fun p => if p = c then a.2.2.2.1 else MD p), c + 1, (if pr = true then pc + 1 else pc), v, bRes b.2.2.2.2 z.2.2.1, z.2.2.2, upF F c z.2.1 z.2.2.1.2.2.2.2))))))
def gCal (T : Nat → Int32) (n : Nat) (pr : Bool) (E : En) (MD : Nat → Nat → Nat) (c pc v : Nat) (b : BT) (s : SB) (F : Nat → Int32) (q : Nat) : Option (Option PRG) :=
  pT T n q (fun q1 => if nmC T n E c q1 then pT T n q1 (fun q2 => if tkK T n q2 = 6 then gCb T n pr E MD c pc v b (bKeep b T q1 (tkE T n q1 - q1)) s F (eC1 T n pr E c q1 b) q2 else some none) else some none)
/-- what the reading of a func or proc leaves as it is -/
def FrU (c : Nat) (σ σ' : MS) : Prop :=
  (∀ j, ¬ ((5 ≤ j ∧ j ≤ 13) ∨ j = 22 ∨ j = 24 ∨ j = 25 ∨ j = 38 ∨ (44 ≤ j ∧ j ≤ 48) ∨ j = 52) → σ'.1 j = σ.1 j) ∧ σ'.2.1 = σ.2.1 ∧
  (∀ j, ¬ ((4 ≤ j ∧ j ≤ 16) ∨ (18 ≤ j ∧ j ≤ 27)) → σ'.2.2 j = σ.2.2 j) ∧
  (∀ i, i ≠ c → σ'.2.2 18 i = σ.2.2 18 i) ∧ (∀ i, i < 8 * c ∨ 8 * c + 8 ≤ i → σ'.2.2 19 i = σ.2.2 19 i) ∧ (∀ i, i ≠ c + 1 → σ'.2.2 21 i = σ.2.2 21 i) ∧ (∀ i, i < 60 * (c + 1) ∨ 60 * (c + 1) + 60 ≤ i → σ'.2.2 20 i = σ.2.2 20 i) ∧ ((∃ k, k ≤ 8 ∧ σ.2.2 18 c = nI k) → ∃ k, k ≤ 8 ∧ σ'.2.2 18 c = nI k)
section FRU
variable {c M P : Nat} {σ τ υ : MS}
theorem FrU_rf : FrU c σ σ := ⟨fun _ _ => rfl, rfl, fun _ _ => rfl, fun _ _ => rfl, fun _ _ => rfl, fun _ _ => rfl, fun _ _ => rfl, fun z => z⟩
theorem FrU_tr (h : FrU c σ τ) (g : FrU c τ υ) : FrU c σ υ := ⟨fun j hj => (g.1 j hj).trans (h.1 j hj), g.2.1.trans h.2.1, fun j hj => (g.2.2.1 j hj).trans (h.2.2.1 j hj), fun j hj => (g.2.2.2.1 j hj).trans (h.2.2.2.1 j hj), fun j hj => (g.2.2.2.2.1 j hj).trans (h.2.2.2.2.1 j hj), fun j hj => (g.2.2.2.2.2.1 j hj).trans (h.2.2.2.2.2.1 j hj), fun j hj => (g.2.2.2.2.2.2.1 j hj).trans (h.2.2.2.2.2.2.1 j hj), fun z => g.2.2.2.2.2.2.2 (h.2.2.2.2.2.2.2 z)⟩
theorem FrU_A (h : FrA c σ τ) : FrU c σ τ := ⟨fun j hj => h.1 j (by omega), h.2.1, fun j hj => h.2.2.1 j (by omega), h.2.2.2.1, h.2.2.2.2.1, h.2.2.2.2.2.1, h.2.2.2.2.2.2.1, h.2.2.2.2.2.2.2⟩
theorem FrU_V (h : FrV (c + 1) σ τ) : FrU c σ τ := FrU_A (FrA_of h)
theorem FrU_Z (h : FrZ M P (c + 1) σ τ) : FrU c σ τ := ⟨fun j hj => h.1 j (by omega), h.2.1, fun j hj => h.2.2.1 j (by omega), fun i _ => by rw [h.2.2.1 18 (by decide)], fun i _ => by rw [h.2.2.1 19 (by decide)], h.2.2.2.2.2.1, h.2.2.2.2.2.2, fun z => by rw [h.2.2.1 18 (by decide)]; exact z⟩
theorem FrU_M (h : FrM M P (c + 1) σ τ) : FrU c σ τ := FrU_Z (FrZ_of h)
theorem FrU_opn (x : Int32) : FrU c σ (mOpn σ x) := FrU_M (M := 0) (P := 0) (FrM_opn x)
/-- the unit of a func or proc is entered -/
def mUn (σ : MS) (c : Nat) (x y : Int32) : MS := (upd (upd (upd (upd (upd (upd σ.1 30 (nI (c + 1))) 31 x) 37 (nI (c + 1))) 38 0) 42 y) 43 y, σ.2.1, updG (updG σ.2.2 21 (upd (σ.2.2 21) (c + 1) 0)) 18 (upd (σ.2.2 18) c 0))
theorem mUn_s {x y : Int32} {j : Nat} (h : ¬ (j = 30 ∨ j = 31 ∨ j = 37 ∨ j = 38 ∨ j = 42 ∨ j = 43)) : (mUn σ c x y).1 j = σ.1 j := by
  show upd (upd (upd (upd (upd (upd σ.1 30 _) 31 x) 37 _) 38 0) 42 y) 43 y j = _
  rw [upd_other (by omega), upd_other (by omega), upd_other (by omega), upd_other (by omega), upd_other (by omega), upd_other (by omega)]
theorem mUn_o {x y : Int32} {j : Nat} (h : ¬ (j = 18 ∨ j = 21)) : (mUn σ c x y).2.2 j = σ.2.2 j := by
  show updG (updG σ.2.2 21 _) 18 _ j = _
  rw [updG_other (by omega), updG_other (by omega)]
theorem mUn_18 {x y : Int32} : (mUn σ c x y).2.2 18 = upd (σ.2.2 18) c 0 := rfl
theorem mUn_21 {x y : Int32} : (mUn σ c x y).2.2 21 = upd (σ.2.2 21) (c + 1) 0 := rfl
theorem PS_un {T : Nat → Int32} {n : Nat} {E : En} {o q v : Nat} {b : BT} {pr : Bool} {x y : Int32} (h : PS T n E o q v b σ) (hc : c ≤ 40) (hy : y = 0 ↔ pr = false) (hr : E.2.2.1 = []) : PS T n (E.1, [], [], c + 1, pr, pr, updN E.2.2.2.2.2.2 c 0) o q 0 b (mUn σ c x y) := by
  obtain ⟨s1, s2, s3, s4, ⟨⟨g1, g2, g3⟩, ⟨g4, g5, g6⟩, ⟨g7, g8, g9⟩⟩, s6⟩ := h
  refine ⟨PT_c (σ := σ) (fun j _ _ => mUn_s (by omega)) (mUn_o (by decide)) (mUn_o (by decide)) s1, ⟨(mUn_s (by decide)).trans s2.1, s2.2⟩, PB_c (σ := σ) (mUn_s (by decide)) (mUn_s (by decide)) (fun j hj => mUn_o (by omega)) s3, ⟨rfl, by show c + 1 ≤ 42; omega, ?_, by decide, fun i hi => absurd hi (Nat.not_lt_zero i)⟩, ⟨⟨rfl, Nat.le_refl _, trivial⟩, ⟨?_, Nat.le_refl _, trivial⟩, ⟨(mUn_s (by decide)).trans g7, g8, ?_⟩⟩, ⟨hy, hy, fun z hz hn => ?_⟩⟩
  · show (mUn σ c x y).2.2 21 (c + 1) = nI 0
    rw [mUn_21, upd_same]; rfl
  · refine (mUn_s (by decide)).trans (g4.trans ?_)
    rw [hr]
  · rw [mUn_o (by decide), mUn_o (by decide), mUn_o (by decide), mUn_o (by decide)]; exact g9
  · obtain ⟨a1, a2, a3⟩ := s6.2.2 z hz hn
    show z.2.2.2 < 41 ∧ (mUn σ c x y).2.2 18 z.2.2.2 = nI (updN E.2.2.2.2.2.2 c 0 z.2.2.2) ∧ updN E.2.2.2.2.2.2 c 0 z.2.2.2 ≤ 8
    rw [mUn_18]
    by_cases e : z.2.2.2 = c
    · rw [e, upd_same, updN_s]; exact ⟨by omega, rfl, by decide⟩
    · rw [upd_other e, updN_o e]; exact ⟨a1, a2, a3⟩
/-- it is left -/
def mOut (σ : MS) : MS := (upd (upd (upd (upd σ.1 37 0) 38 0) 42 1) 43 1, σ.2.1, σ.2.2)
theorem mOut_s {j : Nat} (h : ¬ (j = 37 ∨ j = 38 ∨ j = 42 ∨ j = 43)) : (mOut σ).1 j = σ.1 j := by
  show upd (upd (upd (upd σ.1 37 0) 38 0) 42 1) 43 1 j = _
  rw [upd_other (by omega), upd_other (by omega), upd_other (by omega), upd_other (by omega)]
theorem PS_out {T : Nat → Int32} {n : Nat} {E : En} {o q v v0 : Nat} {b : BT} {cn : Nat → Int32} (h : PS T n E o q v b σ) (hr : E.2.2.1 = []) (h21 : σ.2.2 21 0 = nI v0) (hv : v0 ≤ 60) (h20 : ∀ i, i < v0 → σ.2.2 20 i = cn i) : PS T n (E.1, [], [], 0, true, true, E.2.2.2.2.2.2) o q v0 (bRes cn b) (mOut σ) := by
  obtain ⟨s1, s2, s3, s4, ⟨⟨g1, g2, g3⟩, ⟨g4, g5, g6⟩, ⟨g7, g8, g9⟩⟩, s6⟩ := h
  refine ⟨PT_c (σ := σ) (fun j _ _ => mOut_s (by omega)) rfl rfl s1, ⟨(mOut_s (by decide)).trans s2.1, s2.2⟩, ⟨(mOut_s (by decide)).trans s3.1, s3.2.1, (mOut_s (by decide)).trans s3.2.2.1, s3.2.2.2⟩, ⟨rfl, Nat.zero_le _, h21, hv, fun i hi => ?_⟩, ⟨⟨rfl, Nat.zero_le _, trivial⟩, ⟨?_, Nat.zero_le _, trivial⟩, ⟨(mOut_s (by decide)).trans g7, g8, g9⟩⟩, ⟨⟨fun z => absurd (show (1 : Int32) = 0 from z) (by decide), fun z => absurd (show true = false from z) (by decide)⟩, ⟨fun z => absurd (show (1 : Int32) = 0 from z) (by decide), fun z => absurd (show true = false from z) (by decide)⟩, s6.2.2⟩⟩
  · show σ.2.2 20 (60 * 0 + i) = (if 60 * 0 + i < 60 then cn (60 * 0 + i) else _)
    rw [Nat.mul_zero, Nat.zero_add, if_pos (by omega)]; exact h20 i hi
  · refine (mOut_s (by decide)).trans (g4.trans ?_)
    rw [hr]
end FRU

/-! What begins with a name: a call, an assignment. -/
def gE13 (T : Nat → Int32) (n f : Nat) (E : En) (o q v : Nat) (b : BT) (a c z : Int32) : RG := gb (G T n f 0 E o q v 0 0 0 0 b) (fun s => gW T n 13 s.1 (fun q4 => some (some (q4, s.2.1, 0, s.2.2.2.2.1.1, bNode s.2.2.2.2.1 a c (nI s.2.2.2.1) z, []))))
def gCa (T : Nat → Int32) (n f : Nat) (MD : Nat → Nat → Nat) (tg : Int32) (E : En) (o q v : Nat) (b : BT) : RG := gCl T n f (MD (fd E (tkS T n q)).2.1) (E.2.2.2.2.2.2 (fd E (tkS T n q)).2.1) (fd E (tkS T n q)).2.1 tg E o q v b
/-- behind a target and := -/
def gAs (T : Nat → Int32) (n f : Nat) (MD : Nat → Nat → Nat) (E : En) (o i e q v : Nat) (b : BT) : RG :=
  if tkK T n q = 63 then (if i = 1 then gT T n q (fun q2 => gW T n 13 q2 (fun q3 => some (some (q3, v, 0, b.1, bNode b 44 (nI e) 0 0, [])))) else some none)
  else if tkK T n q = 26 ∧ (fd E (tkS T n q)).1 = 3 then gCa T n f MD (nI e) E o q v b
  else gE13 T n f E o q v b 40 (nI e) 0
def gBh (T : Nat → Int32) (n f : Nat) (MD : Nat → Nat → Nat) (E : En) (o i e q v : Nat) (b : BT) : RG :=
  if tkK T n q = 2 ∨ tkK T n q = 3 ∨ tkK T n q = 4 then gT T n q (fun q1 => gW T n 1 q1 (fun q2 => gE13 T n f E o q2 v b 41 (nI e) (opr (tkK T n q))))
  else if tkK T n q = 57 ∨ tkK T n q = 58 ∨ tkK T n q = 59 then gT T n q (fun q1 => gb (gTg T n f E o q1 v b) (fun s => gW T n 13 s.1 (fun q2 => some (some (q2, s.2.1, 0, s.2.2.2.2.1.1, bNode s.2.2.2.2.1 43 (nI e) (nI s.2.2.2.1) (nI (tkK T n q - 32)), [])))))
  else gW T n 1 q (fun q1 => gAs T n f MD E o i e q1 v b)
def gBg (T : Nat → Int32) (n f : Nat) (MD : Nat → Nat → Nat) (E : En) (o q v : Nat) (b : BT) : RG :=
  if (fd E (tkS T n q)).1 = 3 then gCa T n f MD (-1) E o q v b else gb (gTg T n f E o q v b) (fun r => gBh T n f MD E o r.2.2.1 r.2.2.2.1 r.1 r.2.1 r.2.2.2.2.1)
/-- the modes of the procs that are told -/
def PMs (σ : MS) (E : En) (MD : Nat → Nat → Nat) : Prop := ∀ x ∈ E.1, x.2.2.1 = 3 → ∀ i, i < E.2.2.2.2.2.2 x.2.2.2 → σ.2.2 19 (8 * x.2.2.2 + i) = nI (MD x.2.2.2 i) ∧ MD x.2.2.2 i ≤ 2
theorem fd_3 {E : En} {s : List Int32} (h : (fd E s).1 = 3) : ∃ x ∈ E.1, x.2.2.1 = 3 ∧ x.2.2.2 = (fd E s).2.1 := by
  unfold fd at h ⊢
  cases hS : E.2.1.find? (fun x => decide (x.1 = s)) with
  | some x => rw [hS] at h; exact absurd (show (1 : Nat) = 3 from h) (by decide)
  | none =>
    rw [hS] at h
    cases hG : E.1.find? (fun x => decide (x.1 = s)) with
    | some x => rw [hG] at h; exact ⟨x, List.mem_of_find?_eq_some hG, h, rfl⟩
    | none => rw [hG] at h; exact absurd (show (0 : Nat) = 3 from h) (by decide)
section BEG
variable {T : Nat → Int32} {n : Nat} {E : En} {o M P : Nat}
theorem PMs_fr {σ τ : MS} {MD : Nat → Nat → Nat} {w : Nat} (h : PMs σ E MD) (hF : FrM M P w σ τ) : PMs τ E MD := by
  unfold PMs
  rw [hF.2.2.1 19 (by decide)]; exact h
/-- ; and a node, after a fault -/
theorem wnb {m K : Nat} {σ ρ : MS} {N L : Nat → Int32} (hB : Bb m ρ) (hF : FrM M P E.2.2.2.1 σ ρ) (hm : m < 70000) (hK : m + 1 ≤ K) (hM : M ≤ m) : Tm (fun k => ob (x_want k 0 N ρ) (fun r3 => ob (x_node k 0 L r3.2) (fun r4 => some (r4.1, r4.2)))) (Po T n E o M P K σ none) := by
  refine Tm_ob (b_want hB.1 _) (fun r hr => ?_)
  obtain ⟨u, τ⟩ := r
  have hr : τ = ρ := hr
  subst hr
  refine Tm_ob (b_node (M := M) (P := P) (w := E.2.2.2.1) hB hm hM _) (fun r hr => ?_)
  exact Tm_some ⟨⟨_, hr.2.1, hK, by omega⟩, ⟨_, hr.1, by omega, Or.inr hM⟩, FrM_tr hF hr.2.2⟩
theorem wn {q v K : Nat} {b : BT} {x : Option RT} {a c d z : Int32} {σ ρ : MS} (hG : gW T n 13 q (fun q4 => some (some (q4, v, 0, b.1, bNode b a c d z, []))) = some x) (hS : PS T n E o q v b ρ) (hF : FrM M P E.2.2.2.1 σ ρ) (hm : b.1 < 70000) (hK : b.1 + 1 ≤ K) (hM : M ≤ b.1) : Tm (fun k => ob (x_want k 0 (upd (fun _ => 0) 1 13) ρ) (fun r3 => ob (x_node k 0 (upd (upd (upd (upd (fun _ => 0) 1 a) 2 c) 3 d) 4 z) r3.2) (fun r4 => some (r4.1, r4.2)))) (Po T n E o M P K σ x) := by
  refine Tm_ob (p_want (M := M) (P := P) (w := E.2.2.2.1) hS (s := 13) (by decide) (by decide) rfl) (fun r3 hr3 => ?_)
  rcases gW_any hG with ⟨t3, rfl⟩ | ⟨t3, hG⟩
  · rcases hr3.2 with ⟨_, hB⟩ | ⟨y, _⟩
    · refine Tm_ob (b_node (M := M) (P := P) (w := E.2.2.2.1) hB hm hM _) (fun r hr => ?_)
      exact Tm_some ⟨⟨_, hr.2.1, hK, by omega⟩, ⟨_, hr.1, by omega, Or.inr hM⟩, FrM_tr hF (FrM_tr hr3.1 hr.2.2)⟩
    · exact absurd y t3
  rcases hr3.2 with ⟨y, _⟩ | ⟨_, hS3⟩
  · exact absurd t3 y
  refine Tm_ob (p_nd (M := M) (P := P) (w := E.2.2.2.1) hS3 hm hM) (fun r hr => ?_)
  cases hG
  exact Tm_some ⟨hr.2.1, hr.1, FrM_tr hF (FrM_tr hr3.1 hr.2.2)⟩
theorem ewnb {m K : Nat} {σ ρ : MS} {N N' : Nat → Int32} {g : Int32 → Nat → Int32} (hB : Bb m ρ) (hF : FrM M P E.2.2.2.1 σ ρ) (hm : m < 70000) (hK : m + 1 ≤ K) (hM : M ≤ m) : Tm (fun k => ob (x_exp k 0 N' ρ) (fun r2 => ob (x_want k 0 N r2.2) (fun r3 => ob (x_node k 0 (g r2.1) r3.2) (fun r4 => some (r4.1, r4.2))))) (Po T n E o M P K σ none) := by
  refine Tm_ob (b_xexp hB.1 _) (fun r hr => ?_)
  subst hr
  exact wnb hB hF hm hK hM
theorem ewn {f q v K : Nat} {b : BT} {x : Option RT} {a c z : Int32} {σ ρ : MS} (hG : gE13 T n f E o q v b a c z = some x) (hS : PS T n E o q v b ρ) (hF : FrM M P E.2.2.2.1 σ ρ) (h1 : 1 ≤ M) (hM : M ≤ b.1) (hP : P ≤ b.2.1) (hn : b.1 + (n + 1 - q) + 967 ≤ 70000) (hp : b.2.1 + (n - q) ≤ 70000) (hK : b.1 + (n + 1 - q) + 964 ≤ K) : Tm (fun k => ob (x_exp k 0 (fun _ => 0) ρ) (fun r2 => ob (x_want k 0 (upd (fun _ => 0) 1 13) r2.2) (fun r3 => ob (x_node k 0 (upd (upd (upd (upd (fun _ => 0) 1 a) 2 c) 3 r2.1) 4 z) r3.2) (fun r4 => some (r4.1, r4.2))))) (Po T n E o M P K σ x) := by
  have hq := PS_q hS
  have hv := PS_v hS
  unfold gE13 at hG
  rcases gb_any hG with ⟨h7, hy⟩ | ⟨s, h7, hG⟩
  · subst hy
    refine Tm_ob (p_exp (M := M) (P := P) h7 hS h1 hM hP (by omega) (by omega)) (fun r2 hr2 => ?_)
    obtain ⟨⟨m1, hm, hmk, hMm⟩, _, hF2⟩ := hr2
    exact wnb hm (FrM_tr hF hF2) (by omega) (by omega) hMm
  obtain ⟨⟨a1, a2, a3, a4, a5, a6, a7, a8⟩, a9⟩ := mo_of (M := M) hq.1 hv h7 hM h1 trivial (fun h => h) (fun h => h)
  refine Tm_ob (p_exp (M := M) (P := P) h7 hS h1 hM hP (by omega) (by omega)) (fun r2 hr2 => ?_)
  obtain ⟨hS2, hr21, hF2⟩ := hr2
  rw [hr21]
  exact wn hG hS2 (FrM_tr hF hF2) (by omega) (by omega) (by omega)
/-- x op := exp ; -/
theorem bg3 {f q v e K : Nat} {b : BT} {x : Option RT} {σ ρ : MS} {N : Nat → Int32} (hG : gT T n q (fun q1 => gW T n 1 q1 (fun q2 => gE13 T n f E o q2 v b 41 (nI e) (opr (tkK T n q)))) = some x) (hKq : 1 ≤ tkK T n q ∧ tkK T n q ≤ 24) (hN : N 1 = nI e) (hS : PS T n E o q v b ρ) (hF : FrM M P E.2.2.2.1 σ ρ) (h1 : 1 ≤ M) (hM : M ≤ b.1) (hP : P ≤ b.2.1) (hn : b.1 + (n + 1 - q) + 967 ≤ 70000) (hp : b.2.1 + (n - q) ≤ 70000) (hK : b.1 + (n + 1 - q) + 964 ≤ K) : Tm (fun k => x_begun k 3 N ρ) (Po T n E o M P K σ x) := by
  have hq := PS_q hS
  have hu := tkN_b T n q hq.1
  refine Tm_suc (fun k => by rw [x_begun]) ?_
  refine Tm_ob (p_operator hS (Or.inl hKq) _) (fun r1 hr1 => ?_)
  subst hr1
  rw [hN]
  refine Tm_ob (p_take (M := M) (P := P) (w := E.2.2.2.1) hS _) (fun r2 hr2 => ?_)
  rcases gT_any hG with ⟨t2, rfl⟩ | ⟨t2, hG⟩
  · rcases hr2.2 with ⟨_, hB⟩ | ⟨z, _⟩
    · refine Tm_ob (b_want hB.1 _) (fun r hr => ?_)
      obtain ⟨u, τ⟩ := r
      have hr : τ = r2.2 := hr
      subst hr
      exact ewnb (g := fun y => upd (upd (upd (upd (fun _ => 0) 1 41) 2 (nI e)) 3 y) 4 (opr (tkK T n q))) hB (FrM_tr hF hr2.1) (by omega) (by omega) hM
    · exact absurd t2 z
  rcases hr2.2 with ⟨z, _⟩ | ⟨_, hS2⟩
  · exact absurd z t2
  have hu2 := tkN_b T n (tkN T n q) hu.2.1
  refine Tm_ob (p_want (M := M) (P := P) (w := E.2.2.2.1) hS2 (s := 1) (by decide) (by decide) rfl) (fun r3 hr3 => ?_)
  have hF3 := FrM_tr hF (FrM_tr hr2.1 hr3.1)
  rcases gW_any hG with ⟨t3, rfl⟩ | ⟨t3, hG⟩
  · rcases hr3.2 with ⟨_, hB⟩ | ⟨y, _⟩
    · exact ewnb (g := fun y => upd (upd (upd (upd (fun _ => 0) 1 41) 2 (nI e)) 3 y) 4 (opr (tkK T n q))) hB hF3 (by omega) (by omega) hM
    · exact absurd y t3
  rcases hr3.2 with ⟨y, _⟩ | ⟨_, hS3⟩
  · exact absurd t3 y
  exact ewn hG hS3 hF3 h1 hM hP (by omega) (by omega) (by omega)
/-- x from y ; and its like -/
theorem bg5 {f q v e K : Nat} {b : BT} {x : Option RT} {σ ρ : MS} {N : Nat → Int32} (hG : gT T n q (fun q1 => gb (gTg T n f E o q1 v b) (fun s => gW T n 13 s.1 (fun q2 => some (some (q2, s.2.1, 0, s.2.2.2.2.1.1, bNode s.2.2.2.2.1 43 (nI e) (nI s.2.2.2.1) (nI (tkK T n q - 32)), []))))) = some x) (hKq : 32 ≤ tkK T n q) (hN : N 1 = nI e) (hS : PS T n E o q v b ρ) (hF : FrM M P E.2.2.2.1 σ ρ) (h1 : 1 ≤ M) (hM : M ≤ b.1) (hP : P ≤ b.2.1) (hn : b.1 + (n + 1 - q) + 967 ≤ 70000) (hp : b.2.1 + (n - q) ≤ 70000) (hK : b.1 + (n + 1 - q) + 964 ≤ K) : Tm (fun k => x_begun k 5 N ρ) (Po T n E o M P K σ x) := by
  have hq := PS_q hS
  have hv := PS_v hS
  have hu := tkN_b T n q hq.1
  have h7 : ρ.1 7 = nI (tkK T n q - 32) := (cur_what (PS_cur hS)).2.1 hKq
  refine Tm_suc (fun k => by rw [x_begun]) ?_
  rw [hN, h7]
  refine Tm_ob (p_take (M := M) (P := P) (w := E.2.2.2.1) hS _) (fun r2 hr2 => ?_)
  rcases gT_any hG with ⟨t2, rfl⟩ | ⟨t2, hG⟩
  · rcases hr2.2 with ⟨_, hB⟩ | ⟨z, _⟩
    · refine Tm_ob (b_target hB.1 _) (fun r hr => ?_)
      subst hr
      exact wnb hB (FrM_tr hF hr2.1) (by omega) (by omega) hM
    · exact absurd t2 z
  rcases hr2.2 with ⟨z, _⟩ | ⟨_, hS2⟩
  · exact absurd z t2
  have hF2 := FrM_tr hF hr2.1
  rcases gb_any hG with ⟨h7, hy⟩ | ⟨s, h7, hG⟩
  · subst hy
    refine Tm_ob (p_target (M := M) (P := P) h7 hS2 h1 hM hP (by omega) (by omega)) (fun r3 hr3 => ?_)
    obtain ⟨⟨m1, hm, hmk, hMm⟩, _, hF3⟩ := hr3
    exact wnb hm (FrM_tr hF2 hF3) (by omega) (by omega) hMm
  obtain ⟨⟨a1, a2, a3, a4, a5, a6, a7, a8⟩, a9, a10, a11⟩ := gTg_mo (M := M) hu.2.1 hv hM h1 h7
  refine Tm_ob (p_target (M := M) (P := P) h7 hS2 h1 hM hP (by omega) (by omega)) (fun r3 hr3 => ?_)
  obtain ⟨hS3, hr31, hF3⟩ := hr3
  rw [hr31]
  exact wn hG hS3 (FrM_tr hF2 hF3) (by omega) (by omega) (by omega)
/-- a call -/
theorem bg_call {f q v K : Nat} {b : BT} {x : Option RT} {MD : Nat → Nat → Nat} {tg : Int32} {σ ρ : MS} {L : Nat → Int32} (hG : gCa T n f MD tg E o q v b = some x) (hKq : tkK T n q = 26) (h3 : (fd E (tkS T n q)).1 = 3) (hL : L 1 = tg) (hS : PS T n E o q v b ρ) (h47 : ρ.1 47 = nI (fd E (tkS T n q)).2.1) (hc : (fd E (tkS T n q)).2.1 < 41 ∧ ρ.2.2 18 (fd E (tkS T n q)).2.1 = nI (E.2.2.2.2.2.2 (fd E (tkS T n q)).2.1) ∧ E.2.2.2.2.2.2 (fd E (tkS T n q)).2.1 ≤ 8) (hMD : PMs ρ E MD) (hF : FrM M P E.2.2.2.1 σ ρ) (h1 : 1 ≤ M) (hM : M ≤ b.1) (hP : P ≤ b.2.1) (hn : b.1 + (n + 1 - q) + 967 ≤ 70000) (hp : b.2.1 + (n - q) ≤ 70000) (hK : b.1 + (n + 1 - q) + 964 ≤ K) : Tm (fun k => ob (x_call k 0 L ρ) (fun r3 => some (r3.1, r3.2))) (Po T n E o M P K σ x) := by
  obtain ⟨y, y1, y2, y3⟩ := fd_3 h3
  have hPM : PM ρ (MD (fd E (tkS T n q)).2.1) (E.2.2.2.2.2.2 (fd E (tkS T n q)).2.1) (fd E (tkS T n q)).2.1 := ⟨hc.1, hc.2.2, hc.2.1, fun i hi => by
    have := hMD y y1 y2 i (by rw [y3]; exact hi)
    rw [y3] at this; exact this⟩
  refine Tm_ob (p_call (M := M) (P := P) hG hKq h47 hPM hL hS h1 hM hP hn hp) (fun r hr => ?_)
  exact Tm_some (Po_tr hF hK hr)
end BEG

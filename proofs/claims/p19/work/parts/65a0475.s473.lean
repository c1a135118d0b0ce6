section JnS473
/-! The class: instructions of statements, typed. -/
section CWG
variable {c c' c1 c2 : Ct} {O O' H H' : Nat → Prop} {u nu nu' pc ln R R' re p d rk k op w n m m' q t x y x1 x2 g s D : Nat} {r pre ms ms' : List Nat} {x0 v : Int32} {Vm : Nat → Prop} {Pc : Nat → Nat → Prop} {cs ins a b tl o : List Int32} {gl : Nat × (Nat → Nat → Prop)} {C : Nat → Int32} {ks : List Nat}
/-- what a statement is laid in -/
def StC (O : Nat → Prop) (u : Nat) (gl : Nat × (Nat → Nat → Prop)) (Pc : Nat → Nat → Prop) (Vm : Nat → Prop) (nu : Nat) (c : Ct) (w : Nat) (ms : List Nat) : Prop := CnC O u 0 gl Vm nu c w ms ∧ (tcS c u ∧ u < 41 ∧ w ≤ 200) ∧ ((∀ s, s < 500000 → Vm (500000 + s) → ¬ s ∈ ms) ∧ ∀ i, i ∈ ms → i % 500000 < w) ∧ (¬ u = 0 → ∀ i, i < tcP c u → i < 500000 ∧ Vm (500000 + i)) ∧ ∀ v n, Pc v n → (1 ≤ v ∧ v ≤ nu ∧ v < 41) ∧ tcS c v ∧ tcP c v = n ∧ (tcP c v ≤ tcF c v ∧ tcF c v ≤ 1000) ∧ ¬ O (tcE c v) ∧ ∃ rk, rk ≤ 2 ∧ tcD c (tcE c v) = some (v, 0, (bsl + tcF c v) :: Vl (tcF c v), rk)
theorem StC_k {C : Nat → Int32} {N : Nat} {D : Nat → Option (Nat × Nat × List Nat × Nat)} (h : StC O u gl Pc Vm nu c w ms) (hD : ∀ q y, tcD c q = some y → D q = some y) : StC O u gl Pc Vm nu (mkc c C N D) w ms := by
  obtain ⟨h1, h2, h3, h4, h5⟩ := h
  refine ⟨CnC_k h1 hD, h2, h3, h4, fun v n z => ?_⟩
  obtain ⟨z1, z2, z3, z4, z5, rk, z6, z7⟩ := h5 v n z
  exact ⟨z1, z2, z3, z4, z5, rk, z6, hD _ _ z7⟩
theorem StC_o {O' : Nat → Prop} (h : StC O u gl Pc Vm nu c w ms) (ho : ∀ q y, tcD c q = some y → O' q → O q) : StC O' u gl Pc Vm nu c w ms := by
  obtain ⟨h1, h2, h3, h4, h5⟩ := h
  refine ⟨⟨h1.1, h1.2.1, h1.2.2.1, h1.2.2.2.1, h1.2.2.2.2.1, h1.2.2.2.2.2.1, h1.2.2.2.2.2.2.1, Unt_o h1.2.2.2.2.2.2.2 ho⟩, h2, h3, h4, fun v n z => ?_⟩
  obtain ⟨z1, z2, z3, z4, z5, rk, z6, z7⟩ := h5 v n z
  exact ⟨z1, z2, z3, z4, fun y => z5 (ho _ _ z7 y), rk, z6, z7⟩
theorem nilp : ∀ e : Nat, e ∈ ([] : List Nat) → e < bsl := fun e h => absurd h List.not_mem_nil
theorem sx_N (a : CtG O u nu c c') (cn : StC O u gl Pc Vm nu c w ms) (hp : ∀ e, e ∈ pre → e < bsl) (hD : tcD c q = some (u, d, sh pre w ms, R')) (no : ¬ O q) (hR : R' < k) : Nx c' q u d (sh pre w ms) k := it_N a cn.1 hp hD no hR
theorem sx_S (a : CtG O u nu c c') (cn : StC O u gl Pc Vm nu c w ms) (hp : ∀ e, e ∈ pre → e < bsl) (hD : tcD c q = some (u, d, sh pre w ms, R')) (no : ¬ O q) (hR : R' ≤ RK) : NxS c' q u d (sh pre w ms) := it_S a cn.1 hp hD no hR
theorem st_bs (cn : StC O u gl Pc Vm nu c w ms) : ∀ i, i ∈ ms → i < bsl := fun i hi => by
  rcases Nat.lt_or_ge i bsl with z | z
  · exact z
  · have := cn.1.2.2.2.2.2.1 i hi z; omega
/-- one instruction of a statement, without jumps: from m values to n; x: what it takes of ranks besides its ints -/
def Isc (u : Nat) (gl : Nat × (Nat → Nat → Prop)) (Pc : Nat → Nat → Prop) (Vm : Nat → Prop) (pre : List Nat) (x m n : Nat) (ins : List Int32) : Prop := ∀ (O : Nat → Prop) (nu R re : Nat) (c : Ct) (pc w : Nat) (ms : List Nat), (∀ i, i < ins.length → tcC c (pc + i) = ins.getD i 0) → pc + ins.length ≤ tcN c → ¬ O pc → ¬ O (pc + ins.length) → tcD c pc = some (u, m, sh pre w ms, R) → tcD c (pc + ins.length) = some (u, n, sh pre w ms, re) → re + ins.length + x ≤ R → StC O u gl Pc Vm nu c w ms → (∀ e, e ∈ pre → e < bsl) → 1000 ≤ R → R ≤ RK → m ≤ 100000 ∧ n ≤ 100000 ∧ tcN c ≤ 36864 → OKq O (u % 100) nu c pc ins.length R
theorem Is_g (ho : op < 256) (hx : Sm3 x0) (ok : ∀ (O : Nat → Prop) (nu R re : Nat) (c c' : Ct) (pc w : Nat) (ms : List Nat), (∀ i, i < tl.length → tcC c' (pc + 1 + i) = tl.getD i 0) → pc + (tl.length + 1) ≤ tcN c → ¬ O (pc + (tl.length + 1)) → tcD c (pc + (tl.length + 1)) = some (u, n, sh pre w ms, re) → re + (tl.length + 1) + x ≤ R → StC O u gl Pc Vm nu c w ms → (∀ e, e ∈ pre → e < bsl) → 1000 ≤ R → R ≤ RK → m ≤ 100000 ∧ n ≤ 100000 ∧ tcN c ≤ 36864 → CtG O u nu c c' → OKI c' pc u m (sh pre w ms) R op x0) : Isc u gl Pc Vm pre x m n (em op x0 :: tl) := by
  intro O nu R re c pc w ms hc hN no no2 hD hD2 hr cn hp hR1 hR2 hd
  have el : (em op x0 :: tl).length = tl.length + 1 := rfl
  rw [el] at hc hN no2 hD2 hr ⊢
  have e0 : tcC c pc = em op x0 := hc 0 (by omega)
  have rk40 : RK = 40000 := rfl
  exact OKq_of (x := x0) hD no cn.1.2.1 (by omega) (by omega) ho (by omega) (by rw [e0]; exact em_lo ho) (by rw [e0]; exact em_hi ho hx) (fun c' a hc' _ => ok O nu R re c c' pc w ms (fun i hi => by
    rw [hc' (pc + 1 + i) (by omega) (by omega), Nat.add_assoc, hc (1 + i) (by omega), Nat.add_comm 1 i]; rfl) hN no2 hD2 hr cn hp hR1 hR2 hd a)
theorem Is_1 (ho : op < 256) (hx : Sm3 x0) (ok : ∀ (O : Nat → Prop) (nu R re : Nat) (c c' : Ct) (pc w : Nat) (ms : List Nat), pc + 1 ≤ tcN c → ¬ O (pc + 1) → tcD c (pc + 1) = some (u, n, sh pre w ms, re) → re + 1 + x ≤ R → StC O u gl Pc Vm nu c w ms → (∀ e, e ∈ pre → e < bsl) → 1000 ≤ R → R ≤ RK → m ≤ 100000 ∧ n ≤ 100000 ∧ tcN c ≤ 36864 → CtG O u nu c c' → OKI c' pc u m (sh pre w ms) R op x0) : Isc u gl Pc Vm pre x m n [em op x0] := Is_g ho hx (fun O nu R re c c' pc w ms _ hN no2 hD2 hr cn hp hR1 hR2 hd a => ok O nu R re c c' pc w ms hN no2 hD2 hr cn hp hR1 hR2 hd a)
theorem Is_dr (hk : k < 8388608) : Isc u gl Pc Vm pre 0 (n + k) n [em 37 (nI k)] := Is_1 (by decide) (Sm3_n hk) (fun O nu R re c c' pc w ms hN no2 hD2 hr cn hp hR1 hR2 hd a => OKI_2 (by decide) ⟨fun z => absurd z (by decide), fun z => absurd z (by decide), fun z => absurd z (by decide), fun z => absurd z (by decide), fun z => absurd z (by decide), fun _ => ⟨n, _, by rw [u_n (by omega)]; exact Drp_pl _, sx_N a cn hp hD2 no2 (by omega)⟩, fun z => absurd z (by decide), fun z => absurd z (by decide), fun z => absurd z (by decide), fun z => absurd z (by decide), fun z => absurd z (by omega)⟩)
theorem Is_pk (hk : k < m) (h8 : k < 8388608) : Isc u gl Pc Vm pre 0 m (m + 1) [em 38 (nI k)] := Is_1 (by decide) (Sm3_n h8) (fun O nu R re c c' pc w ms hN no2 hD2 hr cn hp hR1 hR2 hd a => OKI_2 (by decide) ⟨fun z => absurd z (by decide), fun z => absurd z (by decide), fun z => absurd z (by decide), fun z => absurd z (by decide), fun z => absurd z (by decide), fun z => absurd z (by decide), fun _ => ⟨by rw [u_n (by omega)]; exact hk, sx_N a cn hp hD2 no2 (by omega)⟩, fun z => absurd z (by decide), fun z => absurd z (by decide), fun z => absurd z (by decide), fun z => absurd z (by omega)⟩)
theorem Is_sw (hm : 2 ≤ m) : Isc u gl Pc Vm pre 0 m m [em 39 0] := Is_1 (by decide) Sm3_0 (fun O nu R re c c' pc w ms hN no2 hD2 hr cn hp hR1 hR2 hd a => OKI_2 (by decide) ⟨fun z => absurd z (by decide), fun z => absurd z (by decide), fun z => absurd z (by decide), fun z => absurd z (by decide), fun z => absurd z (by decide), fun z => absurd z (by decide), fun z => absurd z (by decide), fun _ => ⟨hm, sx_N a cn hp hD2 no2 (by omega)⟩, fun z => absurd z (by decide), fun z => absurd z (by decide), fun z => absurd z (by omega)⟩)
theorem Is_po : Isc u gl Pc Vm [] 0 0 1 [em 21 0] := Is_1 (by decide) Sm3_0 (fun O nu R re c c' pc w ms hN no2 hD2 hr cn hp hR1 hR2 hd a => OKI_7 (by decide) ⟨fun z => absurd z (by decide), fun z => absurd z (by decide), fun z => absurd z (by decide), fun z => absurd z (by decide), fun z => absurd z (by decide), fun z => absurd z (by decide), fun _ => ⟨w, ms, st_bs cn, rfl, rfl, tS_of a cn.1.1 cn.2.1.1, cn.2.1.2.1, cn.2.1.2.2, sx_N a cn hp hD2 no2 (by omega), nxR_of a cn.1.1 hD2 no2 (by rw [show bt 1 (sh [] w ms) = w from sh_bt (w := w) (ms := ms) [] 1 nilp]; exact cn.1.2.2.1) (by omega)⟩, fun z => absurd z (by decide), fun z => absurd z (by omega), fun z => absurd z (by decide)⟩)
theorem Is_su : Isc u gl Pc Vm pre 0 m m [em 23 0] := Is_1 (by decide) Sm3_0 (fun O nu R re c c' pc w ms hN no2 hD2 hr cn hp hR1 hR2 hd a => OKI_7 (by decide) ⟨fun z => absurd z (by decide), fun z => absurd z (by decide), fun z => absurd z (by decide), fun z => absurd z (by decide), fun z => absurd z (by decide), fun z => absurd z (by decide), fun z => absurd z (by decide), fun z => absurd z (by decide), fun _ => ⟨tS_of a cn.1.1 cn.2.1.1, sx_N a cn hp hD2 no2 (by omega)⟩, fun z => absurd z (by decide)⟩)
theorem Is_as : Isc u gl Pc Vm pre 0 (n + 1) n [em 24 0] := Is_1 (by decide) Sm3_0 (fun O nu R re c c' pc w ms hN no2 hD2 hr cn hp hR1 hR2 hd a => OKI_7 (by decide) ⟨fun z => absurd z (by decide), fun z => absurd z (by decide), fun z => absurd z (by decide), fun z => absurd z (by decide), fun z => absurd z (by decide), fun z => absurd z (by decide), fun z => absurd z (by decide), fun z => absurd z (by decide), fun z => absurd z (by omega), fun _ => ⟨n, rfl, sx_N a cn hp hD2 no2 (by omega)⟩⟩)
theorem Is_pt (hk : k < 8388608) : Isc u gl Pc Vm pre 0 (n + k) n [em 208 (nI k)] := Is_1 (by decide) (Sm3_n hk) (fun O nu R re c c' pc w ms hN no2 hD2 hr cn hp hR1 hR2 hd a => OKI_p (by decide) ⟨n, by rw [u_n (by omega)], tS_of a cn.1.1 cn.2.1.1, sx_N a cn hp hD2 no2 (by omega)⟩)
/-- how many values the parts of a target have -/
def Wkk (ks : List Nat) : Nat → Nat
  | 0 => 0
  | n + 1 => Wkk ks n + (if ks.getD n 0 = 97 then 2 else 1)
def wdN (ks : List Nat) : Nat := Wkk ks ks.length
theorem Wkk_le (ks : List Nat) : ∀ n, n ≤ Wkk ks n ∧ Wkk ks n ≤ 2 * n
  | 0 => ⟨Nat.le_refl _, Nat.le_refl _⟩
  | n + 1 => by
    have := Wkk_le ks n
    show n + 1 ≤ Wkk ks n + (if ks.getD n 0 = 97 then 2 else 1) ∧ Wkk ks n + (if ks.getD n 0 = 97 then 2 else 1) ≤ 2 * (n + 1)
    by_cases z : ks.getD n 0 = 97
    · rw [if_pos z]; omega
    · rw [if_neg z]; omega
theorem Wkk_ap (l : List Nat) : ∀ n, n ≤ ks.length → Wkk (ks ++ l) n = Wkk ks n
  | 0, _ => rfl
  | n + 1, h => by
    show Wkk (ks ++ l) n + (if (ks ++ l).getD n 0 = 97 then 2 else 1) = Wkk ks n + (if ks.getD n 0 = 97 then 2 else 1)
    rw [Wkk_ap l n (by omega), List.getD_eq_getElem?_getD, List.getElem?_append_left (by omega), ← List.getD_eq_getElem?_getD]
theorem wdN_ap : wdN (ks ++ [k]) = wdN ks + (if k = 97 then 2 else 1) := by
  unfold wdN
  rw [List.length_append]
  show Wkk (ks ++ [k]) ks.length + (if (ks ++ [k]).getD ks.length 0 = 97 then 2 else 1) = _
  rw [Wkk_ap _ _ (Nat.le_refl _), List.getD_eq_getElem?_getD, List.getElem?_append_right (Nat.le_refl _), Nat.sub_self]
  rfl
theorem Wd_k (hk : ∀ i, i < ks.length → ks.getD i 0 < 256) (hC : ∀ i, i < ks.length → C (q + i) = nI (ks.getD i 0)) : ∀ n, n ≤ ks.length → Wd C q n = Wkk ks n
  | 0, _ => rfl
  | n + 1, h => by
    rw [Wd_s]
    show Wd C q n + (if C (q + n) = 97 then 2 else 1) = Wkk ks n + (if ks.getD n 0 = 97 then 2 else 1)
    rw [Wd_k hk hC n (by omega), hC n (by omega)]
    have e : nI (ks.getD n 0) = 97 ↔ ks.getD n 0 = 97 := n_eq (q := 97) (by have := hk n (by omega); omega) (by decide)
    by_cases z : ks.getD n 0 = 97
    · rw [if_pos z, if_pos (e.2 z)]
    · rw [if_neg z, if_neg (fun y => z (e.1 y))]
/-- a variable that may be written: of the frame, or of the program -/
def TgO (gl : Nat × (Nat → Nat → Prop)) (Vm : Nat → Prop) (g s : Nat) : Prop := (g = 0 ∧ s < 200 ∧ Vm (500000 + s)) ∨ (g = 1 ∧ s < gl.1 ∧ gl.1 ≤ 1000)
def kdL (ks : List Nat) : List Int32 := ks.map nI
theorem kdL_l : (kdL ks).length = ks.length := List.length_map _
theorem kdL_g : ∀ (ks : List Nat) (i : Nat), i < ks.length → (kdL ks).getD i 0 = nI (ks.getD i 0)
  | [], i, h => absurd h (Nat.not_lt_zero _)
  | k :: ks, 0, _ => rfl
  | k :: ks, i + 1, h => kdL_g ks i (Nat.lt_of_succ_lt_succ h)
/-- READ or WRITE -/
def rwL (op s D : Nat) (ks : List Nat) : List Int32 := em op (nI s) :: nI D :: nI ks.length :: kdL ks
theorem rwL_l : (rwL op s D ks).length = ks.length + 3 := by show (kdL ks).length + 1 + 1 + 1 = _; rw [kdL_l]
theorem Is_rd (ht : TgO gl Vm g s) (hk : ∀ i, i < ks.length → ks.getD i 0 < 256) (h1 : wdN ks ≤ D) (h2 : ∀ w ms, TpV m (sh pre w ms) D) (h3 : D ≤ 200000) : Isc u gl Pc Vm pre 0 m (m + 1) (rwL (176 + g) s D ks) := by
  have g1 : g ≤ 1 := by rcases ht with z | z <;> omega
  have s1 : s < 1000 := by rcases ht with z | z <;> omega
  refine Is_g (by omega) (Sm3_n (by omega)) (fun O nu R re c c' pc w ms hc hN no2 hD2 hr cn hp hR1 hR2 hd a => OKI_8 (by omega) ?_)
  have el : (nI D :: nI ks.length :: kdL ks).length = ks.length + 2 := by show (kdL ks).length + 1 + 1 = _; rw [kdL_l]
  rw [el] at hc hN no2 hD2 hr
  have c1 : tcC c' (pc + 1) = nI D := hc 0 (by omega)
  have c2 : tcC c' (pc + 2) = nI ks.length := hc 1 (by omega)
  have c3 : ∀ i, i < ks.length → tcC c' (pc + 3 + i) = nI (ks.getD i 0) := fun i hi => by
    have z := hc (i + 2) (by omega)
    rw [show pc + 3 + i = pc + 1 + (i + 2) by omega, z]
    exact kdL_g ks i hi
  have rk40 : RK = 40000 := rfl
  refine ⟨ks.length, D, ⟨by rw [c2, u_n (by omega)], by rw [c1, u_n (by omega)], by have := a.1; omega⟩, ?_, h2 w ms, fun z => ?_, fun z => ?_, ?_⟩
  · rw [Wd_k hk c3 _ (Nat.le_refl _)]; exact h1
  · rcases ht with y | y
    · rw [u_n (by omega)]; exact ⟨by omega, sh_has (w := w) (ms := ms) pre hp (cn.1.2.2.2.2.2.2.1 _ y.2.2)⟩
    · omega
  · rcases ht with y | y
    · omega
    · rw [u_n (by omega)]
      exact Nat.lt_of_lt_of_le y.2.1 (Nat.le_trans cn.1.2.2.2.1.1 a.2.2.2.1.1)
  · rw [show pc + 3 + ks.length = pc + (ks.length + 2 + 1) by omega]
    exact sx_N a cn hp hD2 no2 (by omega)
theorem Is_wr (ht : TgO gl Vm g s) (hk : ∀ i, i < ks.length → ks.getD i 0 < 256) (h1 : wdN ks + 1 ≤ D) (h2 : ∀ w ms, TpV m (sh pre w ms) D) (h3 : D ≤ 200000) (h4 : 1 ≤ m) : Isc u gl Pc Vm pre 0 m m (rwL (192 + g) s D ks) := by
  have g1 : g ≤ 1 := by rcases ht with z | z <;> omega
  have s1 : s < 1000 := by rcases ht with z | z <;> omega
  refine Is_g (by omega) (Sm3_n (by omega)) (fun O nu R re c c' pc w ms hc hN no2 hD2 hr cn hp hR1 hR2 hd a => OKI_9 (by omega) ?_)
  have el : (nI D :: nI ks.length :: kdL ks).length = ks.length + 2 := by show (kdL ks).length + 1 + 1 = _; rw [kdL_l]
  rw [el] at hc hN no2 hD2 hr
  have c1 : tcC c' (pc + 1) = nI D := hc 0 (by omega)
  have c2 : tcC c' (pc + 2) = nI ks.length := hc 1 (by omega)
  have c3 : ∀ i, i < ks.length → tcC c' (pc + 3 + i) = nI (ks.getD i 0) := fun i hi => by
    have z := hc (i + 2) (by omega)
    rw [show pc + 3 + i = pc + 1 + (i + 2) by omega, z]
    exact kdL_g ks i hi
  have rk40 : RK = 40000 := rfl
  refine ⟨ks.length, D, ⟨by rw [c2, u_n (by omega)], by rw [c1, u_n (by omega)], by have := a.1; omega⟩, ?_, h2 w ms, ⟨h4, tS_of a cn.1.1 cn.2.1.1⟩, fun z => ?_, fun z => ?_, ?_⟩
  · rw [Wd_k hk c3 _ (Nat.le_refl _)]; exact h1
  · rcases ht with y | y
    · rw [u_n (by omega)]
      exact ⟨by omega, sh_has (w := w) (ms := ms) pre hp (cn.1.2.2.2.2.2.2.1 _ y.2.2), sh_slb (w := w) (ms := ms) pre, shAll (w := w) (P := fun i => ¬ i = s) (ms := ms) pre hp (fun i hi e => cn.2.2.1.1 s (by omega) y.2.2 (e ▸ hi))⟩
    · omega
  · rcases ht with y | y
    · omega
    · rw [u_n (by omega)]
      exact Nat.lt_of_lt_of_le y.2.1 (Nat.le_trans cn.1.2.2.2.1.1 a.2.2.2.1.1)
  · rw [show pc + 3 + ks.length = pc + (ks.length + 2 + 1) by omega]
    exact sx_N a cn hp hD2 no2 (by omega)
/-- a piece of a statement: from m values to n -/
def Sst (u : Nat) (gl : Nat × (Nat → Nat → Prop)) (Pc : Nat → Nat → Prop) (Vm : Nat → Prop) (pre : List Nat) (x m n : Nat) (cs : List Int32) : Prop := ∀ (O H : Nat → Prop) (nu R : Nat) (c : Ct) (w : Nat) (ms : List Nat) (C : Nat → Int32), TI O H nu R c → (∀ q, tcN c ≤ q → ¬ O q) → tcD c (tcN c) = some (u, m, sh pre w ms, R) → StC O u gl Pc Vm nu c w ms → (∀ e, e ∈ pre → e < bsl) → 1000 + cs.length + x ≤ R → R ≤ RK → m + cs.length ≤ 100000 → tcN c + cs.length ≤ 36864 → (∀ i, i < tcN c → C i = tcC c i) → (∀ i, i < cs.length → C (tcN c + i) = cs.getD i 0) → ∃ D, TI O H nu (R - cs.length - x) (mkc c C (tcN c + cs.length) D) ∧ (∀ q, q ≤ tcN c → D q = tcD c q) ∧ D (tcN c + cs.length) = some (u, n, sh pre w ms, R - cs.length - x)
/-- its end: the rank behind it is as one likes -/
def Sse (u : Nat) (gl : Nat × (Nat → Nat → Prop)) (Pc : Nat → Nat → Prop) (Vm : Nat → Prop) (pre : List Nat) (x m n : Nat) (cs : List Int32) : Prop := ∀ (O H : Nat → Prop) (nu R re : Nat) (c : Ct) (w : Nat) (ms : List Nat) (C : Nat → Int32), TI O H nu R c → (∀ q, tcN c ≤ q → ¬ O q) → tcD c (tcN c) = some (u, m, sh pre w ms, R) → StC O u gl Pc Vm nu c w ms → (∀ e, e ∈ pre → e < bsl) → 1000 + cs.length + x ≤ R → R ≤ RK → re + cs.length + x ≤ R → m + cs.length ≤ 100000 → tcN c + cs.length ≤ 36864 → (∀ i, i < tcN c → C i = tcC c i) → (∀ i, i < cs.length → C (tcN c + i) = cs.getD i 0) → ∃ D, TI O H nu (R - cs.length - x) (mkc c C (tcN c + cs.length) D) ∧ (∀ q, q ≤ tcN c → D q = tcD c q) ∧ D (tcN c + cs.length) = some (u, n, sh pre w ms, re)
theorem Sse_t (h : Sse u gl Pc Vm pre x m n cs) : Sst u gl Pc Vm pre x m n cs := fun O H nu R c w ms C ti no hD cn hp hR1 hR2 hd hN hC1 hC2 => h O H nu R (R - cs.length - x) c w ms C ti no hD cn hp hR1 hR2 (by omega) hd hN hC1 hC2
theorem Sst_sg (h : Sgm u 0 gl Vm n o) (m : Nat) : Sst u gl Pc Vm pre 0 m (m + n) o := by
  intro O H nu R c w ms C ti no hD cn hp hR1 hR2 hd hN hC1 hC2
  exact h.2 O H nu R c m pre w ms C ti (no _ (Nat.le_refl _)) hD hp cn.1 (by omega) hR2 hd hN hC1 hC2
theorem Sst_s2 (h : Sg2 u 0 gl Vm m' n o) (m : Nat) : Sst u gl Pc Vm pre 0 (m + m') (m + n) o := by
  intro O H nu R c w ms C ti no hD cn hp hR1 hR2 hd hN hC1 hC2
  exact h O H nu R c m pre w ms C ti (no _ (Nat.le_refl _)) hD hp cn.1 (by omega) hR2 hd hN hC1 hC2
theorem Sst_seq (h1 : Sst u gl Pc Vm pre x1 m k a) (h2 : Sst u gl Pc Vm pre x2 k n b) (hk : k ≤ m + a.length) : Sst u gl Pc Vm pre (x1 + x2) m n (a ++ b) := by
  intro O H nu R c w ms C ti no hD cn hp hR1 hR2 hd hN hC1 hC2
  have la : (a ++ b).length = a.length + b.length := List.length_append
  rw [la] at hR1 hd hN hC2 ⊢
  obtain ⟨D1, t1, e1, f1⟩ := h1 O H nu R c w ms C ti no hD cn hp (by omega) hR2 (by omega) (by omega) hC1 (fun i hi => by rw [hC2 i (by omega), gd_l hi])
  obtain ⟨D2, t2, e2, f2⟩ := h2 O H nu (R - a.length - x1) (mkc c C (tcN c + a.length) D1) w ms C t1 (fun q hq => no q (by have : tcN c + a.length ≤ q := hq; omega)) f1 (StC_k cn (dd_of ti e1)) hp (by omega) (by omega) (by omega) (by show tcN c + a.length + b.length ≤ _; omega) (fun _ _ => rfl) (fun i hi => by
    show C (tcN c + a.length + i) = _
    rw [Nat.add_assoc, hC2 _ (by omega), gd_r])
  have er : R - a.length - x1 - b.length - x2 = R - (a.length + b.length) - (x1 + x2) := by omega
  rw [er] at t2 f2
  refine ⟨D2, ?_, fun q hq => ?_, ?_⟩
  · rw [← Nat.add_assoc]; exact t2
  · rw [e2 q (by show q ≤ tcN c + a.length; omega), ← e1 q hq]
  · rw [← Nat.add_assoc]; exact f2
theorem Sse_seq (h1 : Sst u gl Pc Vm pre x1 m k a) (h2 : Sse u gl Pc Vm pre x2 k n b) (hk : k ≤ m + a.length) : Sse u gl Pc Vm pre (x1 + x2) m n (a ++ b) := by
  intro O H nu R re c w ms C ti no hD cn hp hR1 hR2 hre hd hN hC1 hC2
  have la : (a ++ b).length = a.length + b.length := List.length_append
  rw [la] at hR1 hre hd hN hC2 ⊢
  obtain ⟨D1, t1, e1, f1⟩ := h1 O H nu R c w ms C ti no hD cn hp (by omega) hR2 (by omega) (by omega) hC1 (fun i hi => by rw [hC2 i (by omega), gd_l hi])
  obtain ⟨D2, t2, e2, f2⟩ := h2 O H nu (R - a.length - x1) re (mkc c C (tcN c + a.length) D1) w ms C t1 (fun q hq => no q (by have : tcN c + a.length ≤ q := hq; omega)) f1 (StC_k cn (dd_of ti e1)) hp (by omega) (by omega) (by omega) (by omega) (by show tcN c + a.length + b.length ≤ _; omega) (fun _ _ => rfl) (fun i hi => by
    show C (tcN c + a.length + i) = _
    rw [Nat.add_assoc, hC2 _ (by omega), gd_r])
  have er : R - a.length - x1 - b.length - x2 = R - (a.length + b.length) - (x1 + x2) := by omega
  rw [er] at t2
  refine ⟨D2, ?_, fun q hq => ?_, ?_⟩
  · rw [← Nat.add_assoc]; exact t2
  · rw [e2 q (by show q ≤ tcN c + a.length; omega), ← e1 q hq]
  · rw [← Nat.add_assoc]; exact f2
theorem Sse_i (h : Isc u gl Pc Vm pre x m n ins) (hl : 1 ≤ ins.length) (hn : n ≤ m + ins.length) : Sse u gl Pc Vm pre x m n ins := by
  intro O H nu R re c w ms C ti no hD cn hp hR1 hR2 hre hd hN hC1 hC2
  have hk : ∀ q y', tcD c q = some y' → up1 c ins.length (u, n, sh pre w ms, re) q = some y' := fun q y' e => up1_d ti hl e
  refine ⟨up1 c ins.length (u, n, sh pre w ms, re), TI_s1 ti (no _ (Nat.le_refl _)) hl hN hC1 (fun y ey => ?_) (by omega), fun q hq => up1_o (by omega), up1_e⟩
  rw [hD] at ey
  cases ey
  exact h O nu R re (mkc c C (tcN c + ins.length) (up1 c ins.length (u, n, sh pre w ms, re))) (tcN c) w ms hC2 (Nat.le_refl _) (no _ (Nat.le_refl _)) (no _ (by omega)) (hk _ _ hD) up1_e hre (StC_k cn hk) hp (by omega) hR2 ⟨by omega, by omega, hN⟩
theorem Sst_i (h : Isc u gl Pc Vm pre x m n ins) (hl : 1 ≤ ins.length) (hn : n ≤ m + ins.length) : Sst u gl Pc Vm pre x m n ins := Sse_t (Sse_i h hl hn)
end CWG
end JnS473
section JnS474
/-! The class: calls of procs, takings, holes, typed. -/
section CWH
variable {c c' c1 c2 : Ct} {O O' H H' : Nat → Prop} {u nu nu' pc ln R R' re p d rk k op w n m m' q t x y x1 x2 g s D np vv way i : Nat} {r pre ms ms' : List Nat} {x0 v : Int32} {Vm : Nat → Prop} {Pc : Nat → Nat → Prop} {cs ins a b tl o as W : List Int32} {gl : Nat × (Nat → Nat → Prop)} {C : Nat → Int32} {ks : List Nat}
/-- a call of a proc: behind it its value and its params -/
theorem Sst_cp (hP : Pc vv np) (h : Sgm u 0 gl Vm np as) : Sst u gl Pc Vm [] 2 0 (1 + np) (em 16 0 :: (as ++ [em 19 (nI vv)])) := by
  obtain ⟨l1, h1⟩ := h
  have el : (em 16 0 :: (as ++ [em 19 (nI vv)])).length = as.length + 2 := by rw [List.length_cons, List.length_append]; rfl
  intro O H nu R c w ms C ti no hD cn hp hR1 hR2 hd hN hC1 hC2
  rw [el] at hR1 hd hN hC2 ⊢
  have rk40 : RK = 40000 := rfl
  have bs : bsl = 1000000 := rfl
  obtain ⟨⟨f1, f2, f3⟩, f4, f5, f6, f7, rkE, f8, f9⟩ := cn.2.2.2.2 vv np hP
  have c0 : C (tcN c) = em 16 0 := hC2 0 (by omega)
  have cA : ∀ i, i < as.length → C (tcN c + 1 + i) = as.getD i 0 := fun i hi => by
    have z := hC2 (i + 1) (by omega)
    rw [show tcN c + 1 + i = tcN c + (i + 1) from by omega, z]
    exact gd_l hi
  have cB : C (tcN c + 1 + as.length) = em 19 (nI vv) := by
    have z := hC2 (as.length + 0 + 1) (by omega)
    rw [show tcN c + 1 + as.length = tcN c + (as.length + 0 + 1) from by omega, z]
    exact gd_r 0
  have hp1 : ∀ e, e ∈ [250000 + 0] → e < bsl := pre_c (e0 := 250000 + 0) nilp (by omega)
  have dU1 : ∀ q y', tcD c q = some y' → up1 c 1 (u, 0, sh [250000 + 0] w ms, R - 1) q = some y' := fun q y' e => up1_d ti (Nat.le_refl _) e
  have t1 : TI O H nu (R - 1) (mkc c C (tcN c + 1) (up1 c 1 (u, 0, sh [250000 + 0] w ms, R - 1))) := TI_s1 ti (no _ (Nat.le_refl _)) (Nat.le_refl _) (by omega) hC1 (fun y ey => by
    rw [hD] at ey
    cases ey
    exact OKq_of (op := 16) (x := 0) (dU1 _ _ hD) (no _ (Nat.le_refl _)) cn.1.2.1 (Nat.le_refl _) (by omega) (by decide) (Nat.le_refl _) (by show C (tcN c) &&& 255 = _; rw [c0]; exact em_lo (by decide)) (by show C (tcN c) >>> ((8 : Int32) &&& 31) = _; rw [c0]; exact em_hi (by decide) Sm3_0) (fun c' a hc ro => OKI_7 (by decide) ⟨fun z => absurd z (by decide), ⟨fun _ => ⟨bsl + w, ms, rfl, by omega, it_N (pre := [250000 + 0]) a (CnC_k cn.1 dU1) hp1 up1_e (no _ (by omega)) (by omega)⟩, fun z => absurd z (by decide), fun z => absurd z (by decide), fun z => absurd z (by decide), fun z => absurd z (by decide), fun z => absurd z (by decide), fun z => absurd z (by decide), fun z => absurd z (by omega), fun z => absurd z (by decide)⟩⟩)) (by omega)
  obtain ⟨D2, t2, e2, k2⟩ := h1 O H nu (R - 1) (mkc c C (tcN c + 1) (up1 c 1 (u, 0, sh [250000 + 0] w ms, R - 1))) 0 [250000 + 0] w ms C t1 (no _ (by show tcN c ≤ tcN c + 1; omega)) up1_e hp1 (CnC_k cn.1 dU1) (by omega) (by omega) (by omega) (by show tcN c + 1 + as.length ≤ _; omega) (fun _ _ => rfl) (fun i hi => cA i hi)
  have k2' : D2 (tcN c + 1 + as.length) = some (u, 0 + np, sh [250000 + 0] w ms, R - 1 - as.length) := k2
  have t2' : TI O H nu (R - 1 - as.length) (mkc c C (tcN c + 1 + as.length) D2) := t2
  have dU2 : ∀ q y', tcD c q = some y' → D2 q = some y' := fun q y' e => dd_of t1 e2 q y' (dU1 q y' e)
  have dU3 : ∀ q y', D2 q = some y' → up1 (mkc c C (tcN c + 1 + as.length) D2) 1 (u, 1 + np, sh [] w ms, R - (as.length + 2) - 2) q = some y' := fun q y' e => up1_d t2' (Nat.le_refl _) e
  have cn3 : StC O u gl Pc Vm nu (mkc c C (tcN c + 1 + as.length + 1) (up1 (mkc c C (tcN c + 1 + as.length) D2) 1 (u, 1 + np, sh [] w ms, R - (as.length + 2) - 2))) w ms := StC_k cn (fun q y' e => dU3 q y' (dU2 q y' e))
  have t3 : TI O H nu (R - (as.length + 2) - 2) (mkc c C (tcN c + 1 + as.length + 1) (up1 (mkc c C (tcN c + 1 + as.length) D2) 1 (u, 1 + np, sh [] w ms, R - (as.length + 2) - 2))) := TI_s1 (c := mkc c C (tcN c + 1 + as.length) D2) t2' (no _ (by show tcN c ≤ tcN c + 1 + as.length; omega)) (Nat.le_refl _) (by show tcN c + 1 + as.length + 1 ≤ _; omega) (fun _ _ => rfl) (fun y ey => by
    have ey' : D2 (tcN c + 1 + as.length) = some y := ey
    rw [k2'] at ey'
    cases ey'
    exact OKq_of (op := 19) (x := nI vv) (dU3 _ _ k2') (no _ (by show tcN c ≤ tcN c + 1 + as.length; omega)) cn.1.2.1 (Nat.le_refl _) (by omega) (by decide) (Nat.le_refl _) (by show C (tcN c + 1 + as.length) &&& 255 = _; rw [cB]; exact em_lo (by decide)) (by show C (tcN c + 1 + as.length) >>> ((8 : Int32) &&& 31) = _; rw [cB]; exact em_hi (by decide) (Sm3_n (by omega))) (fun c' a hc ro => OKI_7 (by decide) ⟨fun z => absurd z (by decide), ⟨fun z => absurd z (by decide), fun z => absurd z (by decide), fun z => absurd z (by decide), fun _ => by
      obtain ⟨b1, b2, b3⟩ := a.2.1 vv (Or.inl ⟨f1, f2⟩)
      have b1' : tcE c' vv = tcE c vv := b1
      have b2' : tcP c' vv = tcP c vv := b2
      have b3' : tcF c' vv = tcF c vv := b3
      have ub : up1 (mkc c C (tcN c + 1 + as.length) D2) 1 (u, 1 + np, sh [] w ms, R - (as.length + 2) - 2) (tcN c + 1 + as.length + 1) = some (u, 1 + np, sh [] w ms, R - (as.length + 2) - 2) := up1_e (c := mkc c C (tcN c + 1 + as.length) D2)
      have eb := (a.2.2.2.2 (tcN c + 1 + as.length + 1) _ ub).1 (no _ (by omega))
      have ee := (a.2.2.2.2 (tcE c vv) _ (dU3 _ _ (dU2 _ _ f9))).1 f7
      refine ⟨vv, w, ms, ⟨rfl, ⟨f1, f3⟩, fun k => f4.1 ((a.2.2.1 vv (Or.inl f2)).1 k), f4.2⟩, st_bs cn, ⟨rfl, ?_⟩, tS_of a cn.1.1 cn.2.1.1, cn.2.1.2.2, ?_, ?_, R - (as.length + 2) - 2, ?_, by omega, rkE, ?_, by omega⟩
      · rw [b2', f5]; exact Nat.zero_add _
      · rw [tF_of a cn.1.1]; exact cn.1.2.2.1
      · rw [b2', b3']; exact f6
      · rw [b2', f5, eb, show 0 + 1 + np = 1 + np by omega]; rfl
      · rw [b1', b3']; exact ee, fun z => absurd z (by decide), fun z => absurd z (by decide), fun z => absurd z (by decide), fun z => absurd z (by omega), fun z => absurd z (by decide)⟩⟩)) (by omega)
  refine ⟨_, by rw [show tcN c + (as.length + 2) = tcN c + 1 + as.length + 1 by omega]; exact t3, fun q hq => ?_, ?_⟩
  · rw [up1_o (by show ¬ q = tcN c + 1 + as.length + 1; omega)]
    show D2 q = _
    rw [e2 q (by show q ≤ tcN c + 1; omega)]
    exact up1_o (by omega)
  · rw [show tcN c + (as.length + 2) = tcN c + 1 + as.length + 1 by omega]
    exact up1_e (c := mkc c C (tcN c + 1 + as.length) D2)
/-- what is taken from a target: where there is nothing, it isn't written -/
theorem Sst_tk (hm : 1 ≤ m) (hw : way < 1000) (h : Sst u gl Pc Vm [] x (m + 1) (m + 1) W) (hW : 1 ≤ W.length) : Sst u gl Pc Vm [] x m (m + 1) (em 101 (nI way) :: nI (2 + W.length) :: W) := by
  have el : (em 101 (nI way) :: nI (2 + W.length) :: W).length = W.length + 2 := rfl
  intro O H nu R c w ms C ti no hD cn hp hR1 hR2 hd hN hC1 hC2
  rw [el] at hR1 hd hN hC2 ⊢
  have rk40 : RK = 40000 := rfl
  have c0 : C (tcN c) = em 101 (nI way) := hC2 0 (by omega)
  have c1 : C (tcN c + 1) = nI (2 + W.length) := hC2 1 (by omega)
  have cA : ∀ i, i < W.length → C (tcN c + 2 + i) = W.getD i 0 := fun i hi => by
    have z := hC2 (i + 2) (by omega)
    rw [show tcN c + 2 + i = tcN c + (i + 2) from by omega, z]; rfl
  have dU1 : ∀ q y', tcD c q = some y' → up1 c 2 (u, m + 1, sh [] w ms, R - 2) q = some y' := fun q y' e => up1_d ti (by decide) e
  have t1 : TI O (fun q => H q ∨ q = tcN c) nu (R - 2) (mkc c C (tcN c + 2) (up1 c 2 (u, m + 1, sh [] w ms, R - 2))) := TI_em (ln := 2) (y := some (u, m + 1, sh [] w ms, R - 2)) (Hn := True) (On := False) ti (by decide) (by omega) hC1 rfl ⟨⟨rfl, rfl⟩, rfl, rfl⟩ (fun q => rfl) (fun q => ⟨Or.inl, fun z => z.elim id (fun w => w.2.elim)⟩) (fun z => z.elim) (fun q => ⟨fun z => z.elim Or.inl (fun y => Or.inr ⟨y, trivial⟩), fun z => z.elim Or.inl (fun y => Or.inr y.1)⟩) (fun o => trivial) (fun z => absurd trivial z) (by omega)
  obtain ⟨D2, t2, e2, k2⟩ := h O (fun q => H q ∨ q = tcN c) nu (R - 2) (mkc c C (tcN c + 2) (up1 c 2 (u, m + 1, sh [] w ms, R - 2))) w ms C t1 (fun q hq => no q (by have : tcN c + 2 ≤ q := hq; omega)) up1_e (StC_k cn dU1) nilp (by omega) (by omega) (by omega) (by show tcN c + 2 + W.length ≤ _; omega) (fun _ _ => rfl) (fun i hi => cA i hi)
  have k2' : D2 (tcN c + 2 + W.length) = some (u, m + 1, sh [] w ms, R - 2 - W.length - x) := k2
  have dU2 : ∀ q y', tcD c q = some y' → D2 q = some y' := fun q y' e => dd_of t1 e2 q y' (dU1 q y' e)
  have m2 : D2 (tcN c + 2) = some (u, m + 1, sh [] w ms, R - 2) := (e2 _ (Nat.le_refl _)).trans up1_e
  have d1 : ∀ y, ¬ D2 (tcN c + 1) = some y := fun y e => by
    have e' : up1 c 2 (u, m + 1, sh [] w ms, R - 2) (tcN c + 1) = some y := (e2 _ (by show tcN c + 1 ≤ tcN c + 2; omega)).symm.trans e
    rw [up1_o (by omega), ti.2.2.2.1 _ (by omega)] at e'
    cases e'
  have cn2 : StC O u gl Pc Vm nu (mkc c C (tcN c + 2 + W.length) D2) w ms := StC_k cn dU2
  have hz : ∀ q, H q → q < tcN c := ti.2.2.1
  have t3 : TI O H nu (R - 2 - W.length - x) (mkc c C (tcN c + 2 + W.length) D2) := by
    refine TI_fi (h := tcN c) (ln := 2) t2 (by decide) (Or.inr rfl) (no _ (Nat.le_refl _)) (by show tcN c + 2 ≤ tcN c + 2 + W.length; omega) (fun _ _ => rfl) rfl (dU2 _ _ hD) (fun i y i1 i2 => ?_) (fun h' hh' => ?_) (fun q => ⟨fun z => ⟨Or.inl z, fun e => by have := hz q z; omega⟩, fun z => z.1.elim id (fun e => absurd e z.2)⟩) ?_
    · rw [show i = tcN c + 1 by omega]; exact d1 y
    · rcases hh' with z | z
      · have := hz h' z; omega
      · omega
    · have ok := OKq_of (O := O) (nu := nu) (c := mkc c C (tcN c + 2 + W.length) D2) (pc := tcN c) (ln := 2) (R := R - 2 - W.length - x) (x := nI way) (op := 101) (dU2 _ _ hD) (no _ (Nat.le_refl _)) cn.1.2.1 (by show tcN c + 1 ≤ tcN c + 2 + W.length; omega) (by omega) (by decide) (by decide) (by show C (tcN c) &&& 255 = _; rw [c0]; exact em_lo (by decide)) (by show C (tcN c) >>> ((8 : Int32) &&& 31) = _; rw [c0]; exact em_hi (by decide) (Sm3_n (by omega))) (fun c' a hc ro => OKI_6 (by decide) (by
        have c1' : tcC c' (tcN c + 1) = nI (2 + W.length) := (hc (tcN c + 1) (by omega) (by omega)).trans c1
        have tg : uN (nI (tcN c) + nI (2 + W.length)) = tcN c + 2 + W.length := by
          rw [u_add (by rw [u_n (by omega), u_n (by omega)]; omega), u_n (by omega), u_n (by omega)]
          omega
        refine ⟨fun z => absurd z (by omega), fun z => absurd z (by decide), fun z => absurd z (by decide), fun z => absurd z (by decide), fun _ => ⟨hm, by have := a.1; have : tcN c + 2 + W.length ≤ tcN c' := a.1; omega, ?_, ?_⟩⟩
        · rw [c1', tg]
          exact sx_N (pre := []) a cn2 nilp k2' (no _ (by omega)) (by omega)
        · exact sx_S (pre := []) a cn2 nilp m2 (no _ (by omega)) (by omega)))
      exact ok
  refine ⟨D2, ?_, fun q hq => ?_, ?_⟩
  · rw [show R - (W.length + 2) - x = R - 2 - W.length - x by omega, show tcN c + (W.length + 2) = tcN c + 2 + W.length by omega]; exact t3
  · rw [e2 q (by show q ≤ tcN c + 2; omega)]; exact up1_o (by omega)
  · rw [show R - (W.length + 2) - x = R - 2 - W.length - x by omega, show tcN c + (W.length + 2) = tcN c + 2 + W.length by omega]; exact k2'
/-- what a tuple's members are written into: member after member -/
def hoC : Nat → Nat → List (Option (Nat × Nat × List Nat)) → List Int32
  | _, _, [] => []
  | i, bl, none :: r => hoC (i + 1) bl r
  | i, bl, some (g, s, ks) :: r => [em 99 (nI i)] ++ (rwL (192 + g) s (bl + 2) ks ++ ([em 37 (nI 1)] ++ hoC (i + 1) (bl - wdN ks) r))
def hoO (gl : Nat × (Nat → Nat → Prop)) (Vm : Nat → Prop) : Nat → List (Option (Nat × Nat × List Nat)) → Prop
  | _, [] => True
  | bl, none :: r => hoO gl Vm bl r
  | bl, some (g, s, ks) :: r => (TgO gl Vm g s ∧ (∀ i, i < ks.length → ks.getD i 0 < 256) ∧ wdN ks ≤ bl) ∧ hoO gl Vm (bl - wdN ks) r
theorem Sst_nil : Sst u gl Pc Vm pre 0 m m [] := by
  intro O H nu R c w ms C ti no hD cn hp hR1 hR2 hd hN hC1 hC2
  exact (Sgm_nil u 0 gl Vm).2 O H nu R c m pre w ms C ti (no _ (Nat.le_refl _)) hD hp cn.1 hR1 hR2 hd hN hC1 hC2
theorem Is_mb {vt : Nat} (hv : vt < 250000) (hi : i < 8388608) : Isc u gl Pc Vm [500000 + vt] 0 0 1 [em 99 (nI i)] := Is_1 (by decide) (Sm3_n hi) (fun O nu R re c c' pc w ms hN no2 hD2 hr cn hp hR1 hR2 hd a => OKI_6 (by decide) ⟨fun z => absurd z (by omega), fun z => absurd z (by decide), fun _ => ⟨vt, _, rfl, rfl, hv, sx_N a cn hp hD2 no2 (by omega)⟩, fun z => absurd z (by decide), fun z => absurd z (by decide)⟩)
theorem Sst_hs {vt : Nat} (hv : vt < 90000) : ∀ (hs : List (Option (Nat × Nat × List Nat))) (i bl : Nat), i + hs.length < 8388608 → bl ≤ vt → hoO gl Vm bl hs → Sst u gl Pc Vm [500000 + vt] 0 0 0 (hoC i bl hs)
  | [], i, bl, _, _, _ => Sst_nil
  | none :: r, i, bl, h1, h2, h3 => Sst_hs hv r (i + 1) bl (by have : (none :: r : List (Option (Nat × Nat × List Nat))).length = r.length + 1 := rfl; omega) h2 h3
  | some (g, s, ks) :: r, i, bl, h1, h2, h3 => by
    obtain ⟨⟨z1, z2, z3⟩, z4⟩ := h3
    have el : (some (g, s, ks) :: r : List (Option (Nat × Nat × List Nat))).length = r.length + 1 := rfl
    have ih := Sst_hs hv r (i + 1) (bl - wdN ks) (by omega) (by omega) z4
    have w1 : Sst u gl Pc Vm [500000 + vt] 0 1 1 (rwL (192 + g) s (bl + 2) ks) := Sst_i (Is_wr z1 z2 (by omega) (fun w ms => Or.inr ⟨by show 500000 ≤ 500000 + vt; omega, by show 500000 + vt < 750000; omega, Or.inl (by show bl + 2 - (1 + 1) ≤ 500000 + vt - 500000; omega)⟩) (by omega) (Nat.le_refl _)) (by rw [rwL_l]; omega) (by omega)
    have d1 : Sst u gl Pc Vm [500000 + vt] 0 1 0 [em 37 (nI 1)] := Sst_i (Is_dr (n := 0) (k := 1) (by decide)) (by decide) (by omega)
    exact Sst_seq (x1 := 0) (x2 := 0) (k := 1) (Sst_i (Is_mb (by omega) (by omega)) (Nat.le_refl 1) (by show 1 ≤ 0 + 1; decide)) (Sst_seq (x1 := 0) (x2 := 0) (k := 1) w1 (Sst_seq (x1 := 0) (x2 := 0) (k := 0) d1 ih (by omega)) (by omega)) (by show 1 ≤ 0 + 1; decide)
/-- [ .. ] := -/
theorem Sse_ho {vt : Nat} {hs : List (Option (Nat × Nat × List Nat))} (hv : vt < 90000) (hl : hs.length < 8388608) (ho : hoO gl Vm vt hs) : Sse u gl Pc Vm [] 0 (vt + 1) 0 (em 100 0 :: (hoC 0 vt hs ++ [em 37 (nI (vt + 1))])) := by
  have h := Sst_hs (u := u) (Pc := Pc) (vt := vt) hv hs 0 vt (by omega) (Nat.le_refl _) ho
  generalize hoC 0 vt hs = W at h ⊢
  have el : (em 100 0 :: (W ++ [em 37 (nI (vt + 1))])).length = W.length + 2 := by rw [List.length_cons, List.length_append]; rfl
  intro O H nu R re c w ms C ti no hD cn hp hR1 hR2 hre hd hN hC1 hC2
  rw [el] at hR1 hre hd hN hC2 ⊢
  have rk40 : RK = 40000 := rfl
  have bs : bsl = 1000000 := rfl
  have c0 : C (tcN c) = em 100 0 := hC2 0 (by omega)
  have cA : ∀ i, i < W.length → C (tcN c + 1 + i) = W.getD i 0 := fun i hi => by
    have z := hC2 (i + 1) (by omega)
    rw [show tcN c + 1 + i = tcN c + (i + 1) from by omega, z]
    exact gd_l hi
  have cB : C (tcN c + 1 + W.length) = em 37 (nI (vt + 1)) := by
    have z := hC2 (W.length + 0 + 1) (by omega)
    rw [show tcN c + 1 + W.length = tcN c + (W.length + 0 + 1) from by omega, z]
    exact gd_r 0
  have hp1 : ∀ e, e ∈ [500000 + vt] → e < bsl := pre_c (e0 := 500000 + vt) nilp (by omega)
  have dU1 : ∀ q y', tcD c q = some y' → up1 c 1 (u, 0, sh [500000 + vt] w ms, R - 1) q = some y' := fun q y' e => up1_d ti (Nat.le_refl _) e
  have t1 : TI O H nu (R - 1) (mkc c C (tcN c + 1) (up1 c 1 (u, 0, sh [500000 + vt] w ms, R - 1))) := TI_s1 ti (no _ (Nat.le_refl _)) (Nat.le_refl _) (by omega) hC1 (fun y ey => by
    rw [hD] at ey
    cases ey
    exact OKq_of (op := 100) (x := 0) (dU1 _ _ hD) (no _ (Nat.le_refl _)) cn.1.2.1 (Nat.le_refl _) (by omega) (by decide) (Nat.le_refl _) (by show C (tcN c) &&& 255 = _; rw [c0]; exact em_lo (by decide)) (by show C (tcN c) >>> ((8 : Int32) &&& 31) = _; rw [c0]; exact em_hi (by decide) Sm3_0) (fun c' a hc ro => OKI_6 (by decide) ⟨fun z => absurd z (by omega), fun z => absurd z (by decide), fun z => absurd z (by decide), fun _ => ⟨vt, w, ms, rfl, rfl, by omega, by rw [tF_of a cn.1.1]; exact cn.1.2.2.1, it_N (pre := [500000 + vt]) a (CnC_k cn.1 dU1) hp1 up1_e (no _ (by omega)) (by omega)⟩, fun z => absurd z (by decide)⟩)) (by omega)
  obtain ⟨D2, t2, e2, k2⟩ := h O H nu (R - 1) (mkc c C (tcN c + 1) (up1 c 1 (u, 0, sh [500000 + vt] w ms, R - 1))) w ms C t1 (fun q hq => no q (by have : tcN c + 1 ≤ q := hq; omega)) up1_e (StC_k cn dU1) hp1 (by omega) (by omega) (by omega) (by show tcN c + 1 + W.length ≤ _; omega) (fun _ _ => rfl) (fun i hi => cA i hi)
  have k2' : D2 (tcN c + 1 + W.length) = some (u, 0, sh [500000 + vt] w ms, R - 1 - W.length - 0) := k2
  have t2' : TI O H nu (R - 1 - W.length - 0) (mkc c C (tcN c + 1 + W.length) D2) := t2
  have dU2 : ∀ q y', tcD c q = some y' → D2 q = some y' := fun q y' e => dd_of t1 e2 q y' (dU1 q y' e)
  have dU3 : ∀ q y', D2 q = some y' → up1 (mkc c C (tcN c + 1 + W.length) D2) 1 (u, 0, sh [] w ms, re) q = some y' := fun q y' e => up1_d t2' (Nat.le_refl _) e
  have cn3 : StC O u gl Pc Vm nu (mkc c C (tcN c + 1 + W.length + 1) (up1 (mkc c C (tcN c + 1 + W.length) D2) 1 (u, 0, sh [] w ms, re))) w ms := StC_k cn (fun q y' e => dU3 q y' (dU2 q y' e))
  have t3 : TI O H nu (R - (W.length + 2) - 0) (mkc c C (tcN c + 1 + W.length + 1) (up1 (mkc c C (tcN c + 1 + W.length) D2) 1 (u, 0, sh [] w ms, re))) := TI_s1 (c := mkc c C (tcN c + 1 + W.length) D2) t2' (no _ (by show tcN c ≤ tcN c + 1 + W.length; omega)) (Nat.le_refl _) (by show tcN c + 1 + W.length + 1 ≤ _; omega) (fun _ _ => rfl) (fun y ey => by
    have ey' : D2 (tcN c + 1 + W.length) = some y := ey
    rw [k2'] at ey'
    cases ey'
    exact OKq_of (op := 37) (x := nI (vt + 1)) (dU3 _ _ k2') (no _ (by show tcN c ≤ tcN c + 1 + W.length; omega)) cn.1.2.1 (Nat.le_refl _) (by omega) (by decide) (Nat.le_refl _) (by show C (tcN c + 1 + W.length) &&& 255 = _; rw [cB]; exact em_lo (by decide)) (by show C (tcN c + 1 + W.length) >>> ((8 : Int32) &&& 31) = _; rw [cB]; exact em_hi (by decide) (Sm3_n (by omega))) (fun c' a hc ro => OKI_2 (by decide) ⟨fun z => absurd z (by decide), fun z => absurd z (by decide), fun z => absurd z (by decide), fun z => absurd z (by decide), fun z => absurd z (by decide), fun _ => ⟨0, sh [] w ms, by
      rw [u_n (by omega), show vt + 1 = 0 + 1 + vt by omega]; exact Drp_dt (by omega), sx_N (pre := []) a cn3 nilp up1_e (no _ (by show tcN c ≤ tcN c + 1 + W.length + 1; omega)) (by omega)⟩, fun z => absurd z (by decide), fun z => absurd z (by decide), fun z => absurd z (by decide), fun z => absurd z (by decide), fun z => absurd z (by omega)⟩)) (by omega)
  refine ⟨_, by rw [show tcN c + (W.length + 2) = tcN c + 1 + W.length + 1 by omega]; exact t3, fun q hq => ?_, ?_⟩
  · rw [up1_o (by show ¬ q = tcN c + 1 + W.length + 1; omega)]
    show D2 q = _
    rw [e2 q (by show q ≤ tcN c + 1; omega)]
    exact up1_o (by omega)
  · rw [show tcN c + (W.length + 2) = tcN c + 1 + W.length + 1 by omega]
    exact up1_e (c := mkc c C (tcN c + 1 + W.length) D2)
end CWH
end JnS474
section JnS475
/-! The class: statements, typed. -/
section CWI
variable {c c' c1 c2 : Ct} {O O' H H' : Nat → Prop} {u nu nu' pc ln R R' re p d rk k op w n m m' q t x y x1 x2 g s N Bd Bd' ns na nb pl ρ : Nat} {r pre ms ms' : List Nat} {x0 v : Int32} {Vm : Nat → Prop} {Pc : Nat → Nat → Prop} {cs ins a b tl o : List Int32} {gl : Nat × (Nat → Nat → Prop)} {C : Nat → Int32} {qs qa qb : List Nat} {lo : Option Nat}
/-- the loop around: where its next turn begins -/
def LpC (O : Nat → Prop) (c : Ct) (u w : Nat) (ms : List Nat) (lo : Option Nat) : Prop := ∀ P0, lo = some P0 → P0 < tcN c ∧ ¬ O P0 ∧ ∃ ms0 r0, (∀ i, i ∈ ms0 → i ∈ ms) ∧ r0 ≤ 999 ∧ tcD c P0 = some (u, 0, (bsl + w) :: ms0, r0)
theorem LpC_k {C : Nat → Int32} {N' : Nat} {D : Nat → Option (Nat × Nat × List Nat × Nat)} (h : LpC O c u w ms lo) (hN : tcN c ≤ N') (hD : ∀ q y, tcD c q = some y → D q = some y) : LpC O (mkc c C N' D) u w ms lo := fun P0 e => by
  obtain ⟨z1, z2, ms0, r0, z3, z4, z5⟩ := h P0 e
  exact ⟨by show P0 < N'; omega, z2, ms0, r0, z3, z4, hD _ _ z5⟩
/-- statements laid at N: they begin and end at a rank below the others; quits wait -/
def Stm (u : Nat) (gl : Nat × (Nat → Nat → Prop)) (Pc : Nat → Nat → Prop) (Vm : Nat → Prop) (w N : Nat) (lo : Option Nat) (Bd ns : Nat) (qs : List Nat) (cs : List Int32) : Prop := ((∀ h, h ∈ qs → h < cs.length) ∧ qs.Pairwise (fun a b => ¬ a = b)) ∧ ∀ (O H : Nat → Prop) (nu R ρ : Nat) (c : Ct) (ms : List Nat) (C : Nat → Int32), TI O H nu R c → tcN c = N → (∀ q, N ≤ q → ¬ O q) → tcD c N = some (u, 0, (bsl + w) :: ms, ρ) → StC O u gl Pc Vm nu c w ms → LpC O c u w ms lo → 1000 + cs.length + ns ≤ R → R ≤ RK → 2 ≤ ρ → ρ + Bd ≤ 999 → N + cs.length ≤ 36864 → (∀ i, i < N → C i = tcC c i) → (∀ i, i < cs.length → ¬ i ∈ qs → C (N + i) = cs.getD i 0) → ∃ D, TI O (fun q => H q ∨ ∃ h, h ∈ qs ∧ q = N + h) nu (R - cs.length - ns) (mkc c C (N + cs.length) D) ∧ (∀ q, q ≤ N → D q = tcD c q) ∧ D (N + cs.length) = some (u, 0, (bsl + w) :: ms, ρ) ∧ ∀ h, h ∈ qs → ∃ rk, 1000 ≤ rk ∧ rk ≤ RK ∧ D (N + h) = some (u, 0, (bsl + w) :: ms, rk)
theorem Stm_nil : Stm u gl Pc Vm w N lo Bd 0 [] [] := by
  refine ⟨⟨fun h z => absurd z List.not_mem_nil, List.Pairwise.nil⟩, fun O H nu R ρ c ms C ti eN no hD cn lp hR1 hR2 h2 hB hN hC1 hC2 => ⟨tcD c, ?_, fun _ _ => rfl, hD, fun h z => absurd z List.not_mem_nil⟩⟩
  subst eN
  refine TI_h ?_ (H := H) (fun q => ⟨fun z => z.elim id (fun ⟨h, y, _⟩ => absurd y List.not_mem_nil), Or.inl⟩)
  exact TI_tb (y := tcD c (tcN c)) (On := False) (nu' := nu) ti hC1 rfl (fun u => Or.inl (CtG_r O u nu c)) (Nat.le_refl _) (Or.inr rfl) (fun q => by
    show tcD c q = _
    by_cases z : q = tcN c
    · rw [if_pos z, z]
    · rw [if_neg z]) (fun q => ⟨Or.inl, fun z => z.elim id (fun w => w.2.elim)⟩) (fun z => z.elim) (Nat.le_refl _)
/-- one behind another -/
theorem Stm_seq (h1 : Stm u gl Pc Vm w N lo Bd na qa a) (h2 : Stm u gl Pc Vm w (N + a.length) lo Bd nb qb b) : Stm u gl Pc Vm w N lo Bd (na + nb) (qa ++ qb.map (fun i => a.length + i)) (a ++ b) := by
  obtain ⟨⟨p1, p2⟩, h1⟩ := h1
  obtain ⟨⟨p3, p4⟩, h2⟩ := h2
  have la : (a ++ b).length = a.length + b.length := List.length_append
  have mm : ∀ h, h ∈ qb.map (fun i => a.length + i) ↔ ∃ i, i ∈ qb ∧ h = a.length + i := fun h => by
    rw [List.mem_map]
    exact ⟨fun ⟨i, z1, z2⟩ => ⟨i, z1, z2.symm⟩, fun ⟨i, z1, z2⟩ => ⟨i, z1, z2.symm⟩⟩
  refine ⟨⟨fun h z => ?_, ?_⟩, fun O H nu R ρ c ms C ti eN no hD cn lp hR1 hR2 h2' hB hN hC1 hC2 => ?_⟩
  · rw [la]
    rcases List.mem_append.1 z with y | y
    · have := p1 h y; omega
    · obtain ⟨i, y1, y2⟩ := (mm h).1 y
      have := p3 i y1; omega
  · rw [List.pairwise_append]
    refine ⟨p2, ?_, fun i hi j hj e => ?_⟩
    · rw [List.pairwise_map]
      exact List.Pairwise.imp (fun z y => z (by omega)) p4
    · obtain ⟨k, y1, y2⟩ := (mm j).1 hj
      have := p1 i hi
      omega
  rw [la] at hR1 hN hC2 ⊢
  obtain ⟨D1, t1, e1, f1, g1⟩ := h1 O H nu R ρ c ms C ti eN no hD cn lp (by omega) hR2 h2' hB (by omega) hC1 (fun i hi hn => by
    rw [hC2 i (by omega) (fun z => ?_), gd_l hi]
    rcases List.mem_append.1 z with y | y
    · exact hn y
    · obtain ⟨k, _, y2⟩ := (mm i).1 y; omega)
  have e1' : ∀ q, q ≤ tcN c → D1 q = tcD c q := fun q hq => e1 q (by omega)
  have dd := dd_of ti e1'
  obtain ⟨D2, t2, e2, f2, g2⟩ := h2 O (fun q => H q ∨ ∃ h, h ∈ qa ∧ q = N + h) nu (R - a.length - na) ρ (mkc c C (N + a.length) D1) ms C t1 rfl (fun q hq => no q (by omega)) f1 (StC_k cn dd) (LpC_k lp (by omega) dd) (by omega) (by omega) h2' hB (by omega) (fun _ _ => rfl) (fun i hi hn => by
    rw [Nat.add_assoc, hC2 (a.length + i) (by omega) (fun z => ?_), gd_r]
    rcases List.mem_append.1 z with y | y
    · have := p1 _ y; omega
    · obtain ⟨k, y1, y2⟩ := (mm _).1 y
      exact hn (by rw [show i = k by omega]; exact y1))
  have er : R - a.length - na - b.length - nb = R - (a.length + b.length) - (na + nb) := by omega
  rw [er] at t2
  refine ⟨D2, ?_, fun q hq => ?_, ?_, fun h hh => ?_⟩
  · rw [← Nat.add_assoc]
    refine TI_h t2 (fun q => ?_)
    constructor
    · rintro (z | ⟨h, hh, hq⟩)
      · exact Or.inl (Or.inl z)
      · rcases List.mem_append.1 hh with y | y
        · exact Or.inl (Or.inr ⟨h, y, hq⟩)
        · obtain ⟨k, y1, y2⟩ := (mm h).1 y
          exact Or.inr ⟨k, y1, by omega⟩
    · rintro ((z | ⟨h, hh, hq⟩) | ⟨h, hh, hq⟩)
      · exact Or.inl z
      · exact Or.inr ⟨h, List.mem_append_left _ hh, hq⟩
      · exact Or.inr ⟨a.length + h, List.mem_append_right _ ((mm _).2 ⟨h, hh, rfl⟩), by omega⟩
  · rw [e2 q (by omega), ← e1 q hq]
  · rw [← Nat.add_assoc]; exact f2
  · rcases List.mem_append.1 hh with y | y
    · obtain ⟨rk, z1, z2, z3⟩ := g1 h y
      have := p1 h y
      exact ⟨rk, z1, z2, by rw [e2 _ (by omega)]; exact z3⟩
    · obtain ⟨k, y1, y2⟩ := (mm h).1 y
      obtain ⟨rk, z1, z2, z3⟩ := g2 k y1
      exact ⟨rk, z1, z2, by rw [y2, ← Nat.add_assoc]; exact z3⟩
/-- more room for ranks, more statements told -/
theorem Stm_w (h : Stm u gl Pc Vm w N lo Bd ns qs cs) (hB : Bd ≤ Bd') (hn : ns ≤ n) : Stm u gl Pc Vm w N lo Bd' n qs cs := by
  refine ⟨h.1, fun O H nu R ρ c ms C ti eN no hD cn lp hR1 hR2 h2 hB' hN hC1 hC2 => ?_⟩
  obtain ⟨D, z1, z2⟩ := h.2 O H nu R ρ c ms C ti eN no hD cn lp (by omega) hR2 h2 (by omega) hN hC1 hC2
  exact ⟨D, TI_R z1 (by omega), z2⟩
/-- BEGIN -/
theorem TI_bg (ti : TI O H nu R c) (no : ∀ q, tcN c ≤ q → ¬ O q) (hD : tcD c (tcN c) = some (u, 0, (bsl + w) :: ms, ρ)) (cn : StC O u gl Pc Vm nu c w ms) (hR : R ≤ RK) (h1 : k ≤ 72 * (RK + 1)) (hρ : ρ ≤ RK) (hN : tcN c + 1 ≤ 36864) (hC1 : ∀ i, i < tcN c → C i = tcC c i) (hC0 : ∃ y, Sm3 y ∧ C (tcN c) = em 0 y) : TI O H nu R (mkc c C (tcN c + 1) (up1 c 1 (u, 0, (bsl + w) :: ms, k))) := by
  obtain ⟨y0, hy, hC0⟩ := hC0
  have dU1 : ∀ q y', tcD c q = some y' → up1 c 1 (u, 0, (bsl + w) :: ms, k) q = some y' := fun q y' e => up1_d ti (Nat.le_refl _) e
  have rk40 : RK = 40000 := rfl
  refine TI_s1 ti (no _ (Nat.le_refl _)) (Nat.le_refl _) hN hC1 (fun y ey => ?_) (Nat.le_refl _)
  rw [hD] at ey
  cases ey
  have cn1 : StC O u gl Pc Vm nu (mkc c C (tcN c + 1) (up1 c 1 (u, 0, (bsl + w) :: ms, k))) w ms := StC_k cn dU1
  exact OKq_of (op := 0) (x := y0) (dU1 _ _ hD) (no _ (Nat.le_refl _)) cn.1.2.1 (Nat.le_refl _) (by omega) (by decide) (Nat.le_refl _) (by show C (tcN c) &&& 255 = _; rw [hC0]; exact em_lo (by decide)) (by show C (tcN c) >>> ((8 : Int32) &&& 31) = _; rw [hC0]; exact em_hi (by decide) hy) (fun c' a hc ro => OKI_0 rfl ⟨rfl, w, ms, rfl, st_bs cn, cn.2.1.2.2, cn.2.1.2.1, tS_of a cn.1.1 cn.2.1.1, hρ, nxS_of a cn.1.1 up1_e (no _ (by omega)) (Rsh_r _ _) (by rw [show bt 0 ((bsl + w) :: ms) = w from sh_bt (w := w) (ms := ms) [] 0 nilp]; exact cn.1.2.2.1) (by rw [show bt 0 ((bsl + w) :: ms) = w from sh_bt (w := w) (ms := ms) [] 0 nilp]; exact cn.1.2.2.1) h1⟩)
/-- a simple statement -/
theorem Stm_s (h : Sse u gl Pc Vm [] x 0 0 cs) (hx : x ≤ 2) (hp : pl < 8388608) : Stm u gl Pc Vm w N lo Bd 1 [] (em 0 (nI pl) :: cs) := by
  have el : (em 0 (nI pl) :: cs).length = cs.length + 1 := rfl
  refine ⟨⟨fun h z => absurd z List.not_mem_nil, List.Pairwise.nil⟩, fun O H nu R ρ c ms C ti eN no hD cn lp hR1 hR2 h2 hB hN hC1 hC2 => ?_⟩
  subst eN
  rw [el] at hR1 hN hC2 ⊢
  have rk40 : RK = 40000 := rfl
  have c0 : C (tcN c) = em 0 (nI pl) := hC2 0 (by omega) List.not_mem_nil
  have t1 := TI_bg (k := R) ti no hD cn hR2 (by omega) (by omega) (by omega) hC1 ⟨nI pl, Sm3_n hp, c0⟩
  have dU1 : ∀ q y', tcD c q = some y' → up1 c 1 (u, 0, (bsl + w) :: ms, R) q = some y' := fun q y' e => up1_d ti (Nat.le_refl _) e
  obtain ⟨D2, t2, e2, f2⟩ := h O H nu R ρ (mkc c C (tcN c + 1) (up1 c 1 (u, 0, (bsl + w) :: ms, R))) w ms C t1 (fun q hq => no q (by have : tcN c + 1 ≤ q := hq; omega)) up1_e (StC_k cn dU1) nilp (by omega) hR2 (by omega) (by omega) (by show tcN c + 1 + cs.length ≤ _; omega) (fun _ _ => rfl) (fun i hi => by
    show C (tcN c + 1 + i) = _
    rw [show tcN c + 1 + i = tcN c + (i + 1) by omega]
    exact hC2 (i + 1) (by omega) List.not_mem_nil)
  refine ⟨D2, ?_, fun q hq => ?_, ?_, fun h z => absurd z List.not_mem_nil⟩
  · rw [show tcN c + (cs.length + 1) = tcN c + 1 + cs.length by omega]
    exact TI_h (TI_R t2 (by omega)) (fun q => ⟨fun z => z.elim id (fun ⟨h, y, _⟩ => absurd y List.not_mem_nil), Or.inl⟩)
  · rw [e2 q (by show q ≤ tcN c + 1; omega)]; exact up1_o (by omega)
  · rw [show tcN c + (cs.length + 1) = tcN c + 1 + cs.length by omega]; exact f2
theorem Is_st : Isc u gl Pc Vm [] 0 0 0 [em 2 0] := Is_1 (by decide) Sm3_0 (fun O nu R re c c' pc w ms hN no2 hD2 hr cn hp hR1 hR2 hd a => OKI_1 (by decide) ⟨fun _ => ⟨tS_of a cn.1.1 cn.2.1.1, w, ms, rfl, rfl, cn.2.1.2.2⟩, fun z => absurd z (by decide), fun z => absurd z (by omega), fun z => absurd z (by omega), fun z => absurd z (by omega)⟩)
theorem Is_ep (hm : 1 ≤ m) (hu : ¬ u = 0) : Isc u gl Pc Vm [] 0 m 0 [em 20 0] := Is_1 (by decide) Sm3_0 (fun O nu R re c c' pc w ms hN no2 hD2 hr cn hp hR1 hR2 hd a => OKI_7 (by decide) ⟨fun z => absurd z (by decide), fun z => absurd z (by decide), fun z => absurd z (by decide), fun z => absurd z (by decide), fun z => absurd z (by decide), fun _ => ⟨hm, tS_of a cn.1.1 cn.2.1.1, hu, by omega, fun i hi => by
  have u2 : tcP c' u = tcP c u := by
    rcases cn.1.1 with z | z
    · exact (a.2.1 u (Or.inl ⟨by omega, z⟩)).2.1
    · exact absurd z cn.2.1.1.2
  rw [u2] at hi
  have y := cn.2.2.2.1 hu i hi
  exact ⟨y.1, sh_has (w := w) (ms := ms) [] nilp (cn.1.2.2.2.2.2.2.1 _ y.2)⟩⟩, fun z => absurd z (by decide), fun z => absurd z (by decide), fun z => absurd z (by omega), fun z => absurd z (by decide)⟩)
end CWI
end JnS475
section JnS476
/-! The class: jumps of statements are aimed; whiles. -/
section CWJ
variable {c c' c1 c2 : Ct} {O O' H H' : Nat → Prop} {u nu nu' pc ln R R' re p d d' rk k op w n m m' q t x y x1 x2 g s N N0 X h0 Bd Bd' ns na nb pl ρ ρt : Nat} {r r' pre ms ms' mse : List Nat} {x0 v : Int32} {Vm : Nat → Prop} {Pc : Nat → Nat → Prop} {cs ins a b tl o co bo : List Int32} {gl : Nat × (Nat → Nat → Prop)} {C : Nat → Int32} {qs qa qb : List Nat} {lo : Option Nat}
theorem bt_s (d w : Nat) (ms : List Nat) : bt d ((bsl + w) :: ms) = w := sh_bt (w := w) (ms := ms) [] d nilp
theorem tg_f (h1 : h0 ≤ X) (h2 : X ≤ 1000000) : uN (nI h0 + nI (X - h0)) = X := by
  rw [u_add (by rw [u_n (by omega), u_n (by omega)]; omega), u_n (by omega), u_n (by omega)]
  omega
/-- a jump that waited comes to X -/
theorem TI_q1 (ti : TI O (fun q => H q ∨ q = h0) nu R c) (hn : ¬ H h0) (hu : (u ≤ nu ∨ u = 41) ∧ u < 42) (hF : tcF c u ≤ w) (no : ¬ O h0) (noX : ¬ O X) (hX : tcD c X = some (u, 0, (bsl + w) :: mse, ρt)) (hD : tcD c h0 = some (u, 0, (bsl + w) :: ms, rk)) (hm : ∀ i, i ∈ mse → i ∈ ms) (hc : tcC c h0 = em 3 (nI (X - h0))) (h1 : h0 < X) (h2 : X ≤ tcN c) (h3 : ρt < rk) (h4 : rk ≤ RK) : TI O H nu R c := by
  have t36 := ti.1
  have rk40 : RK = 40000 := rfl
  refine TI_fi (h := h0) (ln := 1) ti (Nat.le_refl _) (Or.inr rfl) no (by omega) (fun _ _ => rfl) rfl hD (fun i y i1 i2 => absurd i1 (by omega)) (fun h' _ => by omega) (fun q => ⟨fun z => ⟨Or.inl z, fun e => hn (e ▸ z)⟩, fun z => z.1.elim id (fun e => absurd e z.2)⟩) ?_
  exact OKq_of (op := 3) (x := nI (X - h0)) hD no hu.2 (by omega) (by omega) (by decide) (Nat.le_refl _) (by rw [hc]; exact em_lo (by decide)) (by rw [hc]; exact em_hi (by decide) (Sm3_n (by omega))) (fun c' a _ _ => OKI_1 (by decide) ⟨fun z => absurd z (by omega), fun _ => by
    rw [tg_f (by omega) (by omega)]
    exact nx_of a hu.1 hX noX (Rsh_m0 hm) (by rw [bt_s]; exact hF) (by rw [bt_s]; exact hF) h3, fun z => absurd z (by omega), fun z => absurd z (by omega), fun z => absurd z (by omega)⟩)
/-- one that looks at a truth -/
theorem TI_f1 (ti : TI O (fun q => H q ∨ q = h0) nu R c) (hn : ¬ H h0) (hu : (u ≤ nu ∨ u = 41) ∧ u < 42) (hF : tcF c u ≤ w) (no : ¬ O h0) (no1 : ¬ O (h0 + 1)) (noX : ¬ O X) (hX : tcD c X = some (u, 0, (bsl + w) :: mse, ρt)) (hD : tcD c h0 = some (u, 1, (bsl + w) :: ms, rk)) (hD1 : tcD c (h0 + 1) = some (u, 0, (bsl + w) :: ms, k)) (hm : ∀ i, i ∈ mse → i ∈ ms) (hc : tcC c h0 = em 4 (nI (X - h0))) (h1 : h0 < X) (h2 : X ≤ tcN c) (h3 : ρt < rk) (h5 : k < rk) (h4 : rk ≤ RK) : TI O H nu R c := by
  have t36 := ti.1
  have rk40 : RK = 40000 := rfl
  refine TI_fi (h := h0) (ln := 1) ti (Nat.le_refl _) (Or.inr rfl) no (by omega) (fun _ _ => rfl) rfl hD (fun i y i1 i2 => absurd i1 (by omega)) (fun h' _ => by omega) (fun q => ⟨fun z => ⟨Or.inl z, fun e => hn (e ▸ z)⟩, fun z => z.1.elim id (fun e => absurd e z.2)⟩) ?_
  exact OKq_of (op := 4) (x := nI (X - h0)) hD no hu.2 (by omega) (by omega) (by decide) (Nat.le_refl _) (by rw [hc]; exact em_lo (by decide)) (by rw [hc]; exact em_hi (by decide) (Sm3_n (by omega))) (fun c' a _ _ => OKI_1 (by decide) ⟨fun z => absurd z (by omega), fun z => absurd z (by omega), fun _ => ⟨0, rfl, nx_of a hu.1 hD1 no1 (Rsh_r _ _) (by rw [bt_s]; exact hF) (by rw [bt_s]; exact hF) h5, by
    rw [tg_f (by omega) (by omega)]
    exact nx_of a hu.1 hX noX (Rsh_m0 hm) (by rw [bt_s]; exact hF) (by rw [bt_s]; exact hF) h3⟩, fun z => absurd z (by omega), fun z => absurd z (by omega)⟩)
/-- all quits come to X -/
theorem TI_qs (hu : (u ≤ nu ∨ u = 41) ∧ u < 42) (hF : tcF c u ≤ w) (noX : ¬ O X) (hX : tcD c X = some (u, 0, (bsl + w) :: mse, ρt)) (hm : ∀ i, i ∈ mse → i ∈ ms) (h2 : X ≤ tcN c) : ∀ (qs : List Nat) (H : Nat → Prop), TI O (fun q => H q ∨ ∃ h, h ∈ qs ∧ q = N0 + h) nu R c → (∀ h, h ∈ qs → ¬ H (N0 + h) ∧ ¬ O (N0 + h) ∧ N0 + h < X ∧ tcC c (N0 + h) = em 3 (nI (X - (N0 + h))) ∧ ∃ rk, ρt < rk ∧ rk ≤ RK ∧ tcD c (N0 + h) = some (u, 0, (bsl + w) :: ms, rk)) → qs.Pairwise (fun a b => ¬ a = b) → TI O H nu R c
  | [], H, ti, _, _ => TI_h ti (fun q => ⟨Or.inl, fun z => z.elim id (fun ⟨h, y, _⟩ => absurd y List.not_mem_nil)⟩)
  | h0 :: qs, H, ti, hq, pw => by
    rw [List.pairwise_cons] at pw
    obtain ⟨z1, z2, z3, z4, rk, z5, z6, z7⟩ := hq h0 List.mem_cons_self
    refine TI_qs hu hF noX hX hm h2 qs H (TI_q1 (h0 := N0 + h0) (H := fun q => H q ∨ ∃ h, h ∈ qs ∧ q = N0 + h) (TI_h ti (fun q => ?_)) (fun y => ?_) hu hF z2 noX hX z7 hm z4 z3 h2 z5 z6) (fun h hh => hq h (List.mem_cons_of_mem _ hh)) pw.2
    · constructor
      · rintro ((y | ⟨h, hh, y⟩) | y)
        · exact Or.inl y
        · exact Or.inr ⟨h, List.mem_cons_of_mem _ hh, y⟩
        · exact Or.inr ⟨h0, List.mem_cons_self, y⟩
      · rintro (y | ⟨h, hh, y⟩)
        · exact Or.inl (Or.inl y)
        · rcases List.mem_cons.1 hh with w' | w'
          · rw [w'] at y; exact Or.inr y
          · exact Or.inl (Or.inr ⟨h, w', y⟩)
    · rcases y with y | ⟨h, hh, y⟩
      · exact z1 y
      · exact pw.1 h hh (by omega)
/-- an instruction whose end is as one likes, as a hole -/
theorem TI_ho {y0 : Nat × Nat × List Nat × Nat} (ti : TI O H nu R c) (hN : tcN c + 1 ≤ 36864) (hC1 : ∀ i, i < tcN c → C i = tcC c i) (hR : R' ≤ R) : TI O (fun q => H q ∨ q = tcN c) nu R' (mkc c C (tcN c + 1) (up1 c 1 y0)) := TI_em (ln := 1) (y := some y0) (Hn := True) (On := False) ti (Nat.le_refl _) hN hC1 rfl ⟨⟨rfl, rfl⟩, rfl, rfl⟩ (fun q => rfl) (fun q => ⟨Or.inl, fun z => z.elim id (fun w => w.2.elim)⟩) (fun z => z.elim) (fun q => ⟨fun z => z.elim Or.inl (fun y => Or.inr ⟨y, trivial⟩), fun z => z.elim Or.inl (fun y => Or.inr y.1)⟩) (fun _ => trivial) (fun z => absurd trivial z) hR
/-- quit -/
theorem Stm_qu (hp : pl < 8388608) : Stm u gl Pc Vm w N lo Bd 1 [1] [em 0 (nI pl), x0] := by
  refine ⟨⟨fun h z => by rw [List.mem_singleton.1 z]; exact Nat.lt_succ_self 1, List.pairwise_singleton _ _⟩, fun O H nu R ρ c ms C ti eN no hD cn lp hR1 hR2 h2 hB hN hC1 hC2 => ?_⟩
  subst eN
  have rk40 : RK = 40000 := rfl
  have el : [em 0 (nI pl), x0].length = 2 := rfl
  rw [el] at hR1 hN hC2 ⊢
  have c0 : C (tcN c) = em 0 (nI pl) := hC2 0 (by omega) (by decide)
  have t1 := TI_bg (k := R) ti no hD cn hR2 (by omega) (by omega) (by omega) hC1 ⟨nI pl, Sm3_n hp, c0⟩
  have t2 := TI_ho (C := C) (y0 := (u, 0, (bsl + w) :: ms, ρ)) (R' := R - 2 - 1) t1 (by show tcN c + 1 + 1 ≤ _; omega) (fun _ _ => rfl) (by omega)
  refine ⟨_, TI_h t2 (fun q => ⟨fun z => z.elim Or.inl (fun ⟨h, y, e⟩ => Or.inr (by rw [List.mem_singleton.1 y] at e; exact e)), fun z => z.elim Or.inl (fun e => Or.inr ⟨1, List.mem_singleton.2 rfl, e⟩)⟩), fun q hq => ?_, up1_e (c := mkc c C (tcN c + 1) (up1 c 1 (u, 0, (bsl + w) :: ms, R))), fun h hh => ⟨R, by omega, hR2, ?_⟩⟩
  · rw [up1_o (by show ¬ q = tcN c + 1 + 1; omega)]; exact up1_o (by omega)
  · rw [List.mem_singleton.1 hh, up1_o (by show ¬ tcN c + 1 = tcN c + 1 + 1; omega)]
    exact up1_e
/-- continue -/
theorem Stm_co {P0 : Nat} (hl : lo = some P0) (hp : pl < 8388608) : Stm u gl Pc Vm w N lo Bd 1 [] [em 0 (nI pl), em 3 (nI P0 - nI (N + 1))] := by
  refine ⟨⟨fun h z => absurd z List.not_mem_nil, List.Pairwise.nil⟩, fun O H nu R ρ c ms C ti eN no hD cn lp hR1 hR2 h2 hB hN hC1 hC2 => ?_⟩
  subst eN
  have rk40 : RK = 40000 := rfl
  have el : [em 0 (nI pl), em 3 (nI P0 - nI (tcN c + 1))].length = 2 := rfl
  rw [el] at hR1 hN hC2 ⊢
  have c0 : C (tcN c) = em 0 (nI pl) := hC2 0 (by omega) List.not_mem_nil
  have c1 : C (tcN c + 1) = em 3 (nI P0 - nI (tcN c + 1)) := hC2 1 (by omega) List.not_mem_nil
  have t1 := TI_bg (k := R) ti no hD cn hR2 (by omega) (by omega) (by omega) hC1 ⟨nI pl, Sm3_n hp, c0⟩
  have dU1 : ∀ q y', tcD c q = some y' → up1 c 1 (u, 0, (bsl + w) :: ms, R) q = some y' := fun q y' e => up1_d ti (Nat.le_refl _) e
  obtain ⟨l1, l2, ms0, r0, l3, l4, l5⟩ := lp P0 hl
  have dU2 : ∀ q y', up1 c 1 (u, 0, (bsl + w) :: ms, R) q = some y' → up1 (mkc c C (tcN c + 1) (up1 c 1 (u, 0, (bsl + w) :: ms, R))) 1 (u, 0, (bsl + w) :: ms, ρ) q = some y' := fun q y' e => up1_d t1 (Nat.le_refl _) e
  have t2 : TI O H nu (R - 2 - 1) (mkc c C (tcN c + 1 + 1) (up1 (mkc c C (tcN c + 1) (up1 c 1 (u, 0, (bsl + w) :: ms, R))) 1 (u, 0, (bsl + w) :: ms, ρ))) := TI_s1 (c := mkc c C (tcN c + 1) (up1 c 1 (u, 0, (bsl + w) :: ms, R))) t1 (no _ (by show tcN c ≤ tcN c + 1; omega)) (Nat.le_refl _) (by show tcN c + 1 + 1 ≤ _; omega) (fun _ _ => rfl) (fun y ey => by
    have ey' : up1 c 1 (u, 0, (bsl + w) :: ms, R) (tcN c + 1) = some y := ey
    rw [up1_e] at ey'
    cases ey'
    refine OKq_of (op := 3) (x := nI P0 - nI (tcN c + 1)) (dU2 _ _ up1_e) (no _ (by show tcN c ≤ tcN c + 1; omega)) cn.1.2.1 (Nat.le_refl _) (by omega) (by decide) (Nat.le_refl _) (by show C (tcN c + 1) &&& 255 = _; rw [c1]; exact em_lo (by decide)) (by show C (tcN c + 1) >>> ((8 : Int32) &&& 31) = _; rw [c1]; exact em_hi (by decide) (Sm3_s (by omega) (by omega))) (fun c' a _ _ => OKI_1 (by decide) ⟨fun z => absurd z (by omega), fun _ => ?_, fun z => absurd z (by omega), fun z => absurd z (by omega), fun z => absurd z (by omega)⟩)
    have tg := tg_b (N := 0) (a := P0) (b := tcN c + 1) (by omega) (by omega)
    rw [Nat.zero_add, Nat.zero_add] at tg
    rw [tg]
    exact nx_of a cn.1.1 (dU2 _ _ (dU1 _ _ l5)) l2 (Rsh_m0 l3) (by rw [bt_s]; exact cn.1.2.2.1) (by rw [bt_s]; exact cn.1.2.2.1) (by omega)) (by omega)
  refine ⟨_, TI_h t2 (fun q => ⟨fun z => z.elim id (fun ⟨h, y, _⟩ => absurd y List.not_mem_nil), Or.inl⟩), fun q hq => ?_, up1_e (c := mkc c C (tcN c + 1) (up1 c 1 (u, 0, (bsl + w) :: ms, R))), fun h z => absurd z List.not_mem_nil⟩
  rw [up1_o (by show ¬ q = tcN c + 1 + 1; omega)]; exact up1_o (by omega)
/-- fail -/
theorem Stm_fa (hp : pl < 8388608) : Stm u gl Pc Vm w N lo Bd 1 [] [em 0 (nI pl), em 22 0] := by
  refine ⟨⟨fun h z => absurd z List.not_mem_nil, List.Pairwise.nil⟩, fun O H nu R ρ c ms C ti eN no hD cn lp hR1 hR2 h2 hB hN hC1 hC2 => ?_⟩
  subst eN
  have rk40 : RK = 40000 := rfl
  have el : [em 0 (nI pl), em 22 0].length = 2 := rfl
  rw [el] at hR1 hN hC2 ⊢
  have c0 : C (tcN c) = em 0 (nI pl) := hC2 0 (by omega) List.not_mem_nil
  have c1 : C (tcN c + 1) = em 22 0 := hC2 1 (by omega) List.not_mem_nil
  have t1 := TI_bg (k := 72 * (RK + 1)) ti no hD cn hR2 (Nat.le_refl _) (by omega) (by omega) hC1 ⟨nI pl, Sm3_n hp, c0⟩
  have dU2 : ∀ q y', up1 c 1 (u, 0, (bsl + w) :: ms, 72 * (RK + 1)) q = some y' → up1 (mkc c C (tcN c + 1) (up1 c 1 (u, 0, (bsl + w) :: ms, 72 * (RK + 1)))) 1 (u, 0, (bsl + w) :: ms, ρ) q = some y' := fun q y' e => up1_d t1 (Nat.le_refl _) e
  have t2 : TI O H nu (R - 2 - 1) (mkc c C (tcN c + 1 + 1) (up1 (mkc c C (tcN c + 1) (up1 c 1 (u, 0, (bsl + w) :: ms, 72 * (RK + 1)))) 1 (u, 0, (bsl + w) :: ms, ρ))) := TI_s1 (c := mkc c C (tcN c + 1) (up1 c 1 (u, 0, (bsl + w) :: ms, 72 * (RK + 1)))) t1 (no _ (by show tcN c ≤ tcN c + 1; omega)) (Nat.le_refl _) (by show tcN c + 1 + 1 ≤ _; omega) (fun _ _ => rfl) (fun y ey => by
    have ey' : up1 c 1 (u, 0, (bsl + w) :: ms, 72 * (RK + 1)) (tcN c + 1) = some y := ey
    rw [up1_e] at ey'
    cases ey'
    exact OKq_of (op := 22) (x := 0) (dU2 _ _ up1_e) (no _ (by show tcN c ≤ tcN c + 1; omega)) cn.1.2.1 (Nat.le_refl _) (Nat.le_refl _) (by decide) (Nat.le_refl _) (by show C (tcN c + 1) &&& 255 = _; rw [c1]; exact em_lo (by decide)) (by show C (tcN c + 1) >>> ((8 : Int32) &&& 31) = _; rw [c1]; exact em_hi (by decide) Sm3_0) (fun c' a _ _ => OKI_7 (by decide) ⟨fun z => absurd z (by decide), fun z => absurd z (by decide), fun z => absurd z (by decide), fun z => absurd z (by decide), fun z => absurd z (by decide), fun z => absurd z (by decide), fun z => absurd z (by decide), fun _ => ⟨tS_of a cn.1.1 cn.2.1.1, Nat.le_refl _⟩, fun z => absurd z (by omega), fun z => absurd z (by decide)⟩)) (by omega)
  refine ⟨_, TI_h t2 (fun q => ⟨fun z => z.elim id (fun ⟨h, y, _⟩ => absurd y List.not_mem_nil), Or.inl⟩), fun q hq => ?_, up1_e (c := mkc c C (tcN c + 1) (up1 c 1 (u, 0, (bsl + w) :: ms, 72 * (RK + 1)))), fun h z => absurd z List.not_mem_nil⟩
  rw [up1_o (by show ¬ q = tcN c + 1 + 1; omega)]; exact up1_o (by omega)
end CWJ
end JnS476
section JnS477
/-! The class: whiles, typed. -/
section CWK
variable {c c' c1 c2 : Ct} {O O' H H' : Nat → Prop} {u nu nu' pc ln R R' re p d d' rk k op w n m m' q t x y x1 x2 g s N N0 X h0 Bd Bd' ns na nb pl ρ ρt : Nat} {r r' pre ms ms' mse : List Nat} {x0 v : Int32} {Vm : Nat → Prop} {Pc : Nat → Nat → Prop} {cs ins a b tl o co bo : List Int32} {gl : Nat × (Nat → Nat → Prop)} {C : Nat → Int32} {qs qa qb : List Nat} {lo : Option Nat}
theorem Stm_wh (hc : Sgm u 0 gl Vm 1 co) (hb : Stm u gl Pc Vm w (N + (co.length + 2)) (some N) Bd' nb qb bo) (hB : Bd' + 1 ≤ Bd) (hp : pl < 8388608) (l : cs.length = co.length + bo.length + 3) (k0 : cs.getD 0 0 = em 0 (nI pl)) (k1 : ∀ i, i < co.length → cs.getD (1 + i) 0 = co.getD i 0) (k2 : cs.getD (co.length + 1) 0 = em 4 (nI (bo.length + 2))) (k3 : ∀ i, i < bo.length → ¬ i ∈ qb → cs.getD (co.length + 2 + i) 0 = bo.getD i 0) (k4 : ∀ h, h ∈ qb → cs.getD (co.length + 2 + h) 0 = em 3 (nI (bo.length + 1 - h))) (k5 : cs.getD (co.length + 2 + bo.length) 0 = em 3 (nI 0 - nI (co.length + bo.length + 2))) : Stm u gl Pc Vm w N lo Bd (nb + 1) [] cs := by
  obtain ⟨hc1, hc2⟩ := hc
  obtain ⟨⟨p1, p2⟩, hb⟩ := hb
  refine ⟨⟨fun h z => absurd z List.not_mem_nil, List.Pairwise.nil⟩, fun O H nu R ρ c ms C ti eN no hD cn lp hR1 hR2 h2 hB' hN hC1 hC2 => ?_⟩
  subst eN
  rw [l] at hR1 hN hC2 ⊢
  have rk40 : RK = 40000 := rfl
  have hu : (u ≤ nu ∨ u = 41) ∧ u < 42 := ⟨cn.1.1, cn.1.2.1⟩
  have hz : ∀ q, H q → q < tcN c := ti.2.2.1
  have cc : ∀ i, i < co.length + bo.length + 3 → C (tcN c + i) = cs.getD i 0 := fun i hi => hC2 i hi List.not_mem_nil
  -- BEGIN
  have t1 := TI_bg (k := R) ti no hD cn hR2 (by omega) (by omega) (by omega) hC1 ⟨nI pl, Sm3_n hp, (cc 0 (by omega)).trans k0⟩
  have dU1 : ∀ q y', tcD c q = some y' → up1 c 1 (u, 0, (bsl + w) :: ms, R) q = some y' := fun q y' e => up1_d ti (Nat.le_refl _) e
  -- the condition
  obtain ⟨D2, t2, e2, f2⟩ := hc2 O H nu R (mkc c C (tcN c + 1) (up1 c 1 (u, 0, (bsl + w) :: ms, R))) 0 [] w ms C t1 (no _ (by show tcN c ≤ tcN c + 1; omega)) up1_e nilp (CnC_k cn.1 dU1) (by omega) hR2 (by omega) (by show tcN c + 1 + co.length ≤ _; omega) (fun _ _ => rfl) (fun i hi => by
    show C (tcN c + 1 + i) = _
    rw [Nat.add_assoc, cc (1 + i) (by omega)]; exact k1 i hi)
  have f2' : D2 (tcN c + 1 + co.length) = some (u, 1, (bsl + w) :: ms, R - co.length) := f2
  have t2' : TI O H nu (R - co.length) (mkc c C (tcN c + 1 + co.length) D2) := t2
  have dU2 : ∀ q y', tcD c q = some y' → D2 q = some y' := fun q y' e => dd_of t1 e2 q y' (dU1 q y' e)
  -- its jump
  have t3 := TI_ho (C := C) (y0 := (u, 0, (bsl + w) :: ms, ρ + 1)) (R' := R - co.length - 1) t2' (by show tcN c + 1 + co.length + 1 ≤ _; omega) (fun _ _ => rfl) (by omega)
  generalize hD3 : up1 (mkc c C (tcN c + 1 + co.length) D2) 1 (u, 0, (bsl + w) :: ms, ρ + 1) = D3 at t3
  have dU3 : ∀ q y', D2 q = some y' → D3 q = some y' := fun q y' e => by rw [← hD3]; exact up1_d t2' (Nat.le_refl _) e
  have m3 : D3 (tcN c + 1 + co.length + 1) = some (u, 0, (bsl + w) :: ms, ρ + 1) := by rw [← hD3]; exact up1_e (c := mkc c C (tcN c + 1 + co.length) D2)
  have o3 : ∀ q, q ≤ tcN c + 1 + co.length → D3 q = D2 q := fun q hq => by rw [← hD3]; exact up1_o (by show ¬ q = tcN c + 1 + co.length + 1; omega)
  have t3' : TI O (fun q => H q ∨ q = tcN c + 1 + co.length) nu (R - co.length - 1) (mkc c C (tcN c + (co.length + 2)) D3) := by
    rw [show tcN c + (co.length + 2) = tcN c + 1 + co.length + 1 by omega]; exact t3
  have m3' : D3 (tcN c + (co.length + 2)) = some (u, 0, (bsl + w) :: ms, ρ + 1) := by
    rw [show tcN c + (co.length + 2) = tcN c + 1 + co.length + 1 by omega]; exact m3
  have dU13 : ∀ q y', tcD c q = some y' → D3 q = some y' := fun q y' e => dU3 q y' (dU2 q y' e)
  -- the body
  obtain ⟨D4, t4, e4, f4, g4⟩ := hb O (fun q => H q ∨ q = tcN c + 1 + co.length) nu (R - co.length - 1) (ρ + 1) (mkc c C (tcN c + (co.length + 2)) D3) ms C t3' rfl (fun q hq => no q (by omega)) m3' (StC_k cn dU13) (fun P0 e => by
    cases e
    exact ⟨by show tcN c < tcN c + (co.length + 2); omega, no _ (Nat.le_refl _), ms, ρ, fun i hi => hi, by omega, dU13 _ _ hD⟩) (by omega) (by omega) (by omega) (by omega) (by omega) (fun _ _ => rfl) (fun i hi hn => by
    rw [show tcN c + (co.length + 2) + i = tcN c + (co.length + 2 + i) by omega, cc _ (by omega)]
    exact k3 i hi hn)
  have dU4 : ∀ q y', tcD c q = some y' → D4 q = some y' := fun q y' e => dd_of t3' e4 q y' (dU13 q y' e)
  have eX : tcN c + (co.length + 2) + bo.length + 1 = tcN c + (co.length + bo.length + 3) := by omega
  -- the jump back
  have dU5 : ∀ q y', D4 q = some y' → up1 (mkc c C (tcN c + (co.length + 2) + bo.length) D4) 1 (u, 0, (bsl + w) :: ms, ρ) q = some y' := fun q y' e => up1_d t4 (Nat.le_refl _) e
  have cB : C (tcN c + (co.length + 2) + bo.length) = em 3 (nI 0 - nI (co.length + bo.length + 2)) := by
    rw [show tcN c + (co.length + 2) + bo.length = tcN c + (co.length + 2 + bo.length) by omega, cc _ (by omega)]; exact k5
  have t5 : TI O (fun q => (H q ∨ q = tcN c + 1 + co.length) ∨ ∃ h, h ∈ qb ∧ q = tcN c + (co.length + 2) + h) nu (R - (co.length + bo.length + 3) - (nb + 1)) (mkc c C (tcN c + (co.length + 2) + bo.length + 1) (up1 (mkc c C (tcN c + (co.length + 2) + bo.length) D4) 1 (u, 0, (bsl + w) :: ms, ρ))) := TI_s1 (c := mkc c C (tcN c + (co.length + 2) + bo.length) D4) t4 (no _ (by show tcN c ≤ tcN c + (co.length + 2) + bo.length; omega)) (Nat.le_refl _) (by show tcN c + (co.length + 2) + bo.length + 1 ≤ _; omega) (fun _ _ => rfl) (fun y ey => by
    have ey' : D4 (tcN c + (co.length + 2) + bo.length) = some y := ey
    rw [f4] at ey'
    cases ey'
    refine OKq_of (op := 3) (x := nI 0 - nI (co.length + bo.length + 2)) (dU5 _ _ f4) (no _ (by show tcN c ≤ tcN c + (co.length + 2) + bo.length; omega)) cn.1.2.1 (Nat.le_refl _) (by omega) (by decide) (Nat.le_refl _) (by show C (tcN c + (co.length + 2) + bo.length) &&& 255 = _; rw [cB]; exact em_lo (by decide)) (by show C (tcN c + (co.length + 2) + bo.length) >>> ((8 : Int32) &&& 31) = _; rw [cB]; exact em_hi (by decide) (Sm3_s (by omega) (by omega))) (fun c' a _ _ => OKI_1 (by decide) ⟨fun z => absurd z (by omega), fun _ => ?_, fun z => absurd z (by omega), fun z => absurd z (by omega), fun z => absurd z (by omega)⟩)
    have tg := tg_b (N := tcN c) (a := 0) (b := co.length + bo.length + 2) (by omega) (by omega)
    rw [show tcN c + (co.length + 2) + bo.length = tcN c + (co.length + bo.length + 2) by omega, tg]
    exact nx_of a cn.1.1 (dU5 _ _ (dU4 _ _ hD)) (no _ (Nat.le_refl _)) (Rsh_r _ _) (by rw [bt_s]; exact cn.1.2.2.1) (by rw [bt_s]; exact cn.1.2.2.1) (by omega)) (by omega)
  generalize hD5 : up1 (mkc c C (tcN c + (co.length + 2) + bo.length) D4) 1 (u, 0, (bsl + w) :: ms, ρ) = D5 at t5 dU5
  have m5 : D5 (tcN c + (co.length + bo.length + 3)) = some (u, 0, (bsl + w) :: ms, ρ) := by
    rw [← eX, ← hD5]; exact up1_e (c := mkc c C (tcN c + (co.length + 2) + bo.length) D4)
  rw [eX] at t5
  have j1 : D5 (tcN c + 1 + co.length) = some (u, 1, (bsl + w) :: ms, R - co.length) := dU5 _ _ ((e4 _ (by omega)).trans ((o3 _ (Nat.le_refl _)).trans f2'))
  have j2 : D5 (tcN c + 1 + co.length + 1) = some (u, 0, (bsl + w) :: ms, ρ + 1) := dU5 _ _ ((e4 _ (by omega)).trans m3)
  have t6 := TI_qs (c := mkc c C (tcN c + (co.length + bo.length + 3)) D5) (N0 := tcN c + (co.length + 2)) (X := tcN c + (co.length + bo.length + 3)) (mse := ms) (ms := ms) (w := w) (u := u) (ρt := ρ) hu cn.1.2.2.1 (no _ (by omega)) m5 (fun i hi => hi) (Nat.le_refl _) qb (fun q => H q ∨ q = tcN c + 1 + co.length) t5 (fun h hh => by
    have hl := p1 h hh
    obtain ⟨rk, z1, z2, z3⟩ := g4 h hh
    refine ⟨fun y => ?_, no _ (by omega), by omega, ?_, rk, by omega, z2, dU5 _ _ z3⟩
    · rcases y with y | y
      · have := hz _ y; omega
      · omega
    · show C (tcN c + (co.length + 2) + h) = _
      rw [show tcN c + (co.length + 2) + h = tcN c + (co.length + 2 + h) by omega, cc _ (by omega), k4 h hh]
      exact congrArg (fun z => em 3 (nI z)) (by omega)) p2
  have t7 := TI_f1 (c := mkc c C (tcN c + (co.length + bo.length + 3)) D5) (h0 := tcN c + 1 + co.length) (X := tcN c + (co.length + bo.length + 3)) (mse := ms) (ms := ms) (w := w) (u := u) (ρt := ρ) (k := ρ + 1) (rk := R - co.length) t6 (fun y => by have := hz _ y; omega) hu cn.1.2.2.1 (no _ (by omega)) (no _ (by omega)) (no _ (by omega)) m5 j1 j2 (fun i hi => hi) (by
    show C (tcN c + 1 + co.length) = _
    rw [show tcN c + 1 + co.length = tcN c + (co.length + 1) by omega, cc _ (by omega), k2]
    exact congrArg (fun z => em 4 (nI z)) (by omega)) (by omega) (Nat.le_refl _) (by omega) (by omega) (by omega)
  refine ⟨D5, TI_h t7 (fun q => ⟨fun z => z.elim id (fun ⟨h, y, _⟩ => absurd y List.not_mem_nil), Or.inl⟩), fun q hq => ?_, m5, fun h z => absurd z List.not_mem_nil⟩
  rw [← hD5, up1_o (by show ¬ q = tcN c + (co.length + 2) + bo.length + 1; omega)]
  show D4 q = _
  refine (e4 q (by omega)).trans ((o3 q (by omega)).trans ((e2 q (by show q ≤ tcN c + 1; omega)).trans ?_))
  exact up1_o (by omega)
end CWK
end JnS477
section JnS478
/-! The class: ifs, typed. -/
section CWL
variable {c c' c1 c2 : Ct} {O O' H H' : Nat → Prop} {u nu nu' pc ln R R' re p d d' rk k op w n m m' q t x y x1 x2 g s N N0 X h0 Bd Bd' ns na nb pl ρ ρt : Nat} {r r' pre ms ms' mse : List Nat} {x0 v y0 y1 : Int32} {Vm : Nat → Prop} {Pc : Nat → Nat → Prop} {cs ins a b tl o co bo : List Int32} {gl : Nat × (Nat → Nat → Prop)} {C : Nat → Int32} {qs qa qb es : List Nat} {lo ow : Option Nat}
/-- places that wait -/
def hlI (qs es : List Nat) (ow : Option Nat) (h : Nat) : Prop := (h ∈ qs ∨ h ∈ es) ∨ ow = some h
/-- an if, so far: es go to its end, ow to the next branch; it stands behind a branch -/
def IfK (u : Nat) (gl : Nat × (Nat → Nat → Prop)) (Pc : Nat → Nat → Prop) (Vm : Nat → Prop) (w N : Nat) (lo : Option Nat) (Bd ns : Nat) (qs es : List Nat) (ow : Option Nat) (cs : List Int32) : Prop := ((∀ h, hlI qs es ow h → h < cs.length) ∧ (qs.Pairwise (fun a b => ¬ a = b) ∧ es.Pairwise (fun a b => ¬ a = b)) ∧ (∀ h, h ∈ qs → ¬ h ∈ es) ∧ ∀ h, ow = some h → ¬ h ∈ qs ∧ ¬ h ∈ es) ∧ ∀ (O H : Nat → Prop) (nu R ρ ρb : Nat) (c : Ct) (ms : List Nat) (C : Nat → Int32), TI O H nu R c → tcN c = N → (∀ q, N ≤ q → ¬ O q) → tcD c N = some (u, 0, (bsl + w) :: ms, ρ) → StC O u gl Pc Vm nu c w ms → LpC O c u w ms lo → 1000 + cs.length + ns ≤ R → R ≤ RK → 2 ≤ ρ → (ρ ≤ ρb ∧ ρb ≤ ρ + 1) → ρ + 1 + Bd ≤ 999 → N + cs.length ≤ 36864 → (∀ i, i < N → C i = tcC c i) → (∀ i, i < cs.length → ¬ hlI qs es ow i → C (N + i) = cs.getD i 0) → ∃ D, TI O (fun q => H q ∨ ∃ h, hlI qs es ow h ∧ q = N + h) nu (R - cs.length - ns) (mkc c C (N + cs.length) D) ∧ (∀ q, q ≤ N → D q = tcD c q) ∧ D (N + cs.length) = some (u, 0, (bsl + w) :: ms, ρb) ∧ (∀ h, h ∈ qs → ∃ rk, 1000 ≤ rk ∧ rk ≤ RK ∧ D (N + h) = some (u, 0, (bsl + w) :: ms, rk)) ∧ (∀ h, h ∈ es → D (N + h) = some (u, 0, (bsl + w) :: ms, ρ + 1)) ∧ ∀ h, ow = some h → ∃ rk k, (R - cs.length - ns < rk ∧ rk ≤ RK ∧ k < rk) ∧ D (N + h) = some (u, 1, (bsl + w) :: ms, rk) ∧ D (N + h + 1) = some (u, 0, (bsl + w) :: ms, k)
def shQ (k : Nat) (qs : List Nat) : List Nat := qs.map (fun i => k + i)
theorem shQ_m {k h : Nat} : h ∈ shQ k qs ↔ ∃ i, i ∈ qs ∧ h = k + i := by
  unfold shQ
  rw [List.mem_map]
  exact ⟨fun ⟨i, z1, z2⟩ => ⟨i, z1, z2.symm⟩, fun ⟨i, z1, z2⟩ => ⟨i, z1, z2.symm⟩⟩
theorem shQ_p {k : Nat} (h : qs.Pairwise (fun a b => ¬ a = b)) : (shQ k qs).Pairwise (fun a b => ¬ a = b) := by
  unfold shQ
  rw [List.pairwise_map]
  exact List.Pairwise.imp (fun z y => z (by omega)) h
/-- the condition, its jump, its branch: from any place on -/
theorem Ifb (hc : Sst u gl Pc Vm [] 0 0 1 co) (hb : Stm u gl Pc Vm w (N + (co.length + 1)) lo Bd nb qb bo) (ti : TI O H nu R c) (eN : tcN c = N) (no : ∀ q, N ≤ q → ¬ O q) (hD : tcD c N = some (u, 0, (bsl + w) :: ms, R)) (cn : StC O u gl Pc Vm nu c w ms) (lp : LpC O c u w ms lo) (hR1 : 1000 + (co.length + 1 + bo.length) + nb ≤ R) (hR2 : R ≤ RK) (h2 : 2 ≤ ρ) (hB : ρ + Bd ≤ 999) (hN : N + (co.length + 1 + bo.length) ≤ 36864) (hC1 : ∀ i, i < N → C i = tcC c i) (k1 : ∀ i, i < co.length → C (N + i) = co.getD i 0) (k3 : ∀ i, i < bo.length → ¬ i ∈ qb → C (N + (co.length + 1) + i) = bo.getD i 0) : ∃ D, TI O (fun q => H q ∨ ∃ h, hlI (shQ (co.length + 1) qb) [] (some co.length) h ∧ q = N + h) nu (R - (co.length + 1 + bo.length) - nb) (mkc c C (N + (co.length + 1 + bo.length)) D) ∧ (∀ q, q ≤ N → D q = tcD c q) ∧ D (N + (co.length + 1 + bo.length)) = some (u, 0, (bsl + w) :: ms, ρ) ∧ (∀ h, h ∈ qb → ∃ rk, 1000 ≤ rk ∧ rk ≤ RK ∧ D (N + (co.length + 1) + h) = some (u, 0, (bsl + w) :: ms, rk)) ∧ D (N + co.length) = some (u, 1, (bsl + w) :: ms, R - co.length) ∧ D (N + co.length + 1) = some (u, 0, (bsl + w) :: ms, ρ) := by
  obtain ⟨⟨p1, p2⟩, hb⟩ := hb
  subst eN
  obtain ⟨D2, t2, e2, f2⟩ := hc O H nu R c w ms C ti no hD cn nilp (by omega) hR2 (by omega) (by omega) hC1 k1
  have f2' : D2 (tcN c + co.length) = some (u, 1, (bsl + w) :: ms, R - co.length) := f2
  have t2' : TI O H nu (R - co.length) (mkc c C (tcN c + co.length) D2) := t2
  have dU2 : ∀ q y', tcD c q = some y' → D2 q = some y' := fun q y' e => dd_of ti e2 q y' e
  have t3 := TI_ho (C := C) (y0 := (u, 0, (bsl + w) :: ms, ρ)) (R' := R - co.length - 1) t2' (by show tcN c + co.length + 1 ≤ _; omega) (fun _ _ => rfl) (by omega)
  generalize hD3 : up1 (mkc c C (tcN c + co.length) D2) 1 (u, 0, (bsl + w) :: ms, ρ) = D3 at t3
  have dU3 : ∀ q y', D2 q = some y' → D3 q = some y' := fun q y' e => by rw [← hD3]; exact up1_d t2' (Nat.le_refl _) e
  have m3 : D3 (tcN c + co.length + 1) = some (u, 0, (bsl + w) :: ms, ρ) := by rw [← hD3]; exact up1_e (c := mkc c C (tcN c + co.length) D2)
  have o3 : ∀ q, q ≤ tcN c + co.length → D3 q = D2 q := fun q hq => by rw [← hD3]; exact up1_o (by show ¬ q = tcN c + co.length + 1; omega)
  have dU13 : ∀ q y', tcD c q = some y' → D3 q = some y' := fun q y' e => dU3 q y' (dU2 q y' e)
  obtain ⟨D4, t4, e4, f4, g4⟩ := hb O (fun q => H q ∨ q = tcN c + co.length) nu (R - co.length - 1) ρ (mkc c C (tcN c + (co.length + 1)) D3) ms C t3 rfl (fun q hq => no q (by omega)) m3 (StC_k cn dU13) (LpC_k lp (by omega) dU13) (by omega) (by omega) h2 hB (by omega) (fun _ _ => rfl) k3
  refine ⟨D4, ?_, fun q hq => ?_, ?_, g4, ?_, ?_⟩
  · rw [show R - (co.length + 1 + bo.length) - nb = R - co.length - 1 - bo.length - nb by omega, show tcN c + (co.length + 1 + bo.length) = tcN c + (co.length + 1) + bo.length by omega]
    refine TI_h t4 (fun q => ?_)
    constructor
    · rintro (z | ⟨h, (z | z) | z, e⟩)
      · exact Or.inl (Or.inl z)
      · obtain ⟨i, y1, y2⟩ := shQ_m.1 z
        exact Or.inr ⟨i, y1, by omega⟩
      · exact absurd z List.not_mem_nil
      · cases z; exact Or.inl (Or.inr e)
    · rintro ((z | z) | ⟨h, hh, e⟩)
      · exact Or.inl z
      · exact Or.inr ⟨co.length, Or.inr rfl, z⟩
      · exact Or.inr ⟨co.length + 1 + h, Or.inl (Or.inl (shQ_m.2 ⟨h, hh, rfl⟩)), by omega⟩
  · exact (e4 q (by omega)).trans ((o3 q (by omega)).trans (e2 q hq))
  · rw [show tcN c + (co.length + 1 + bo.length) = tcN c + (co.length + 1) + bo.length by omega]; exact f4
  · exact (e4 _ (by omega)).trans ((o3 _ (Nat.le_refl _)).trans f2')
  · exact (e4 _ (by omega)).trans m3
/-- if .. then .. -/
theorem IfK_0 (hc : Sst u gl Pc Vm [] 0 0 1 co) (hb : Stm u gl Pc Vm w (N + (co.length + 2)) lo Bd nb qb bo) (hp : pl < 8388608) : IfK u gl Pc Vm w N lo Bd (nb + 1) (shQ (co.length + 2) qb) [] (some (co.length + 1)) (em 0 (nI pl) :: (co ++ (y0 :: bo))) := by
  have el : (em 0 (nI pl) :: (co ++ (y0 :: bo))).length = co.length + 2 + bo.length := by
    rw [List.length_cons, List.length_append, List.length_cons]; omega
  have hb' := hb
  obtain ⟨⟨p1, p2⟩, _⟩ := hb
  refine ⟨⟨fun h z => ?_, ⟨shQ_p p2, List.Pairwise.nil⟩, fun h _ => List.not_mem_nil, fun h e => ⟨fun z => ?_, List.not_mem_nil⟩⟩, fun O H nu R ρ ρb c ms C ti eN no hD cn lp hR1 hR2 h2 hρ hB hN hC1 hC2 => ?_⟩
  · rw [el]
    rcases z with (z | z) | z
    · obtain ⟨i, y1, y2⟩ := shQ_m.1 z
      have := p1 i y1; omega
    · exact absurd z List.not_mem_nil
    · cases z; omega
  · cases e
    obtain ⟨i, y1, y2⟩ := shQ_m.1 z
    omega
  subst eN
  rw [el] at hR1 hN hC2 ⊢
  have rk40 : RK = 40000 := rfl
  have nh : ∀ i, i ≤ co.length → ¬ hlI (shQ (co.length + 2) qb) [] (some (co.length + 1)) i := fun i hi z => by
    rcases z with (z | z) | z
    · obtain ⟨i', y1, y2⟩ := shQ_m.1 z; omega
    · exact absurd z List.not_mem_nil
    · cases z; omega
  have c0 : C (tcN c) = em 0 (nI pl) := hC2 0 (by omega) (nh 0 (by omega))
  have t1 := TI_bg (k := R) ti no hD cn hR2 (by omega) (by omega) (by omega) hC1 ⟨nI pl, Sm3_n hp, c0⟩
  have dU1 : ∀ q y', tcD c q = some y' → up1 c 1 (u, 0, (bsl + w) :: ms, R) q = some y' := fun q y' e => up1_d ti (Nat.le_refl _) e
  have gl1 : ∀ i, i < co.length → (em 0 (nI pl) :: (co ++ (y0 :: bo))).getD (1 + i) 0 = co.getD i 0 := fun i hi => by
    rw [Nat.add_comm]; exact gd_l hi
  have gl2 : ∀ i, (em 0 (nI pl) :: (co ++ (y0 :: bo))).getD (co.length + 2 + i) 0 = bo.getD i 0 := fun i => by
    rw [show co.length + 2 + i = co.length + (1 + i) + 1 by omega]
    show (co ++ (y0 :: bo)).getD (co.length + (1 + i)) 0 = _
    rw [gd_r, Nat.add_comm]; rfl
  obtain ⟨D, z1, z2, z3, z4, z5, z6⟩ := Ifb (N := tcN c + 1) (ρ := ρb) (Bd := Bd) (C := C) hc (by rw [show tcN c + 1 + (co.length + 1) = tcN c + (co.length + 2) by omega]; exact hb') t1 rfl (fun q hq => no q (by omega)) up1_e (StC_k cn dU1) (LpC_k lp (by omega) dU1) (by omega) hR2 (by omega) (by omega) (by omega) (fun _ _ => rfl) (fun i hi => by
    rw [Nat.add_assoc, hC2 (1 + i) (by omega) (nh _ (by omega))]; exact gl1 i hi) (fun i hi hn => by
    rw [show tcN c + 1 + (co.length + 1) + i = tcN c + (co.length + 2 + i) by omega, hC2 _ (by omega) (fun z => ?_)]
    · exact gl2 i
    · rcases z with (z | z) | z
      · obtain ⟨i', y1, y2⟩ := shQ_m.1 z
        exact hn (by rw [show i = i' by omega]; exact y1)
      · exact absurd z List.not_mem_nil
      · have := Option.some.inj z; omega)
  have eN1 : tcN c + 1 + (co.length + 1 + bo.length) = tcN c + (co.length + 2 + bo.length) := by omega
  rw [eN1] at z1 z3
  refine ⟨D, TI_h (TI_R z1 (by omega)) (fun q => ?_), fun q hq => ?_, z3, fun h hh => ?_, fun h z => absurd z List.not_mem_nil, fun h e => ?_⟩
  · constructor
    · rintro (z | ⟨h, (z | z) | z, e⟩)
      · exact Or.inl z
      · obtain ⟨i, y1, y2⟩ := shQ_m.1 z
        exact Or.inr ⟨co.length + 1 + i, Or.inl (Or.inl (shQ_m.2 ⟨i, y1, rfl⟩)), by omega⟩
      · exact absurd z List.not_mem_nil
      · cases z; exact Or.inr ⟨co.length, Or.inr rfl, by omega⟩
    · rintro (z | ⟨h, (z | z) | z, e⟩)
      · exact Or.inl z
      · obtain ⟨i, y1, y2⟩ := shQ_m.1 z
        exact Or.inr ⟨co.length + 2 + i, Or.inl (Or.inl (shQ_m.2 ⟨i, y1, rfl⟩)), by omega⟩
      · exact absurd z List.not_mem_nil
      · cases z; exact Or.inr ⟨co.length + 1, Or.inr rfl, by omega⟩
  · exact (z2 q (by omega)).trans (up1_o (by omega))
  · obtain ⟨i, y1, y2⟩ := shQ_m.1 hh
    obtain ⟨rk, w1, w2, w3⟩ := z4 i y1
    exact ⟨rk, w1, w2, by rw [y2, show tcN c + (co.length + 2 + i) = tcN c + 1 + (co.length + 1) + i by omega]; exact w3⟩
  · cases e
    refine ⟨R - co.length, ρb, ⟨by omega, by omega, by omega⟩, ?_, ?_⟩
    · rw [show tcN c + (co.length + 1) = tcN c + 1 + co.length by omega]; exact z5
    · rw [show tcN c + (co.length + 1) + 1 = tcN c + 1 + co.length + 1 by omega]; exact z6
end CWL
end JnS478
section JnS479
/-! The class: ifs go on and end, typed. -/
section CWM
variable {c c' c1 c2 : Ct} {O O' H H' : Nat → Prop} {u nu nu' pc ln R R' re p d d' rk k op w n m m' q t x y x1 x2 g s N N0 X h h0 Bd Bd' ns na nb pl ρ ρt : Nat} {r r' pre ms ms' mse : List Nat} {x0 v y0 y1 : Int32} {Vm : Nat → Prop} {Pc : Nat → Nat → Prop} {cs cs2 ins a b tl o co bo : List Int32} {gl : Nat × (Nat → Nat → Prop)} {C : Nat → Int32} {qs qa qb es : List Nat} {lo ow : Option Nat}
theorem gd_o {l : List Int32} {h i : Nat} (y : Int32) (hi : i < l.length) (n : ¬ i = h) : (l.set h y ++ o).getD i 0 = l.getD i 0 := by
  rw [gd_l (by rw [List.length_set]; exact hi), gd_set, if_neg (fun z => n z.1)]
theorem gd_h {l : List Int32} {h : Nat} (y : Int32) (hi : h < l.length) : (l.set h y ++ o).getD h 0 = y := by
  rw [gd_l (by rw [List.length_set]; exact hi), gd_set, if_pos ⟨rfl, hi⟩]
theorem gd_b {l : List Int32} {h i : Nat} (y : Int32) : (l.set h y ++ o).getD (l.length + i) 0 = o.getD i 0 := by
  have e : (l.set h y).length = l.length := List.length_set
  rw [← e, gd_r]
/-- the jump to the end; what waited for the next branch comes behind it -/
theorem IfJ (k : IfK u gl Pc Vm w N lo Bd ns qs es (some h) cs) (ti : TI O H nu R c) (eN : tcN c = N) (no : ∀ q, N ≤ q → ¬ O q) (hD : tcD c N = some (u, 0, (bsl + w) :: ms, ρ)) (cn : StC O u gl Pc Vm nu c w ms) (lp : LpC O c u w ms lo) (hR1 : 1000 + (cs.length + 1) + ns ≤ R) (hR2 : R ≤ RK) (h2 : 2 ≤ ρ) (hB : ρ + 1 + Bd ≤ 999) (hN : N + (cs.length + 1) ≤ 36864) (hC1 : ∀ i, i < N → C i = tcC c i) (hC2 : ∀ i, i < cs.length → ¬ hlI qs es (some h) i → C (N + i) = cs.getD i 0) (hC3 : C (N + h) = em 4 (nI (cs.length + 1 - h))) {rs : Nat} (hrs : rs ≤ R - cs.length - ns - 1) : ∃ D, TI O (fun q => H q ∨ ∃ h, hlI qs (cs.length :: es) none h ∧ q = N + h) nu (R - cs.length - ns - 1) (mkc c C (N + (cs.length + 1)) D) ∧ (∀ q, q ≤ N → D q = tcD c q) ∧ D (N + (cs.length + 1)) = some (u, 0, (bsl + w) :: ms, rs) ∧ (∀ h, h ∈ qs → ∃ rk, 1000 ≤ rk ∧ rk ≤ RK ∧ D (N + h) = some (u, 0, (bsl + w) :: ms, rk)) ∧ (∀ h, h ∈ cs.length :: es → D (N + h) = some (u, 0, (bsl + w) :: ms, ρ + 1)) := by
  obtain ⟨⟨a1, ⟨a2, a3⟩, a4, a5⟩, kk⟩ := k
  have h1 := a1 h (Or.inr rfl)
  obtain ⟨h5, h6⟩ := a5 h rfl
  have hu : (u ≤ nu ∨ u = 41) ∧ u < 42 := ⟨cn.1.1, cn.1.2.1⟩
  have hz : ∀ q, H q → q < N := fun q z => by have := ti.2.2.1 q z; omega
  obtain ⟨D1, t1, e1, f1, q1, s1, w1⟩ := kk O H nu R ρ (ρ + 1) c ms C ti eN no hD cn lp (by omega) hR2 h2 ⟨by omega, Nat.le_refl _⟩ hB (by omega) hC1 hC2
  obtain ⟨rk, k1, ⟨w2, w3, w4⟩, w5, w6⟩ := w1 h rfl
  have e1' : ∀ q, q ≤ tcN c → D1 q = tcD c q := fun q hq => e1 q (by omega)
  have t2 := TI_ho (C := C) (y0 := (u, 0, (bsl + w) :: ms, rs)) (R' := R - cs.length - ns - 1) t1 (by show N + cs.length + 1 ≤ _; omega) (fun _ _ => rfl) (by omega)
  generalize hD2 : up1 (mkc c C (N + cs.length) D1) 1 (u, 0, (bsl + w) :: ms, rs) = D2 at t2
  have dU2 : ∀ q y', D1 q = some y' → D2 q = some y' := fun q y' e => by rw [← hD2]; exact up1_d t1 (Nat.le_refl _) e
  have o2 : ∀ q, q ≤ N + cs.length → D2 q = D1 q := fun q hq => by rw [← hD2]; exact up1_o (by show ¬ q = N + cs.length + 1; omega)
  have m2 : D2 (N + (cs.length + 1)) = some (u, 0, (bsl + w) :: ms, rs) := by rw [← hD2]; exact up1_e (c := mkc c C (N + cs.length) D1)
  have t3 : TI O (fun q => (H q ∨ ∃ h, hlI qs (cs.length :: es) none h ∧ q = N + h) ∨ q = N + h) nu (R - cs.length - ns - 1) (mkc c C (N + (cs.length + 1)) D2) := by
    refine TI_h t2 (fun q => ?_)
    constructor
    · rintro ((z | ⟨i, (z | z) | z, e⟩) | z)
      · exact Or.inl (Or.inl z)
      · exact Or.inl (Or.inr ⟨i, Or.inl (Or.inl z), e⟩)
      · rcases List.mem_cons.1 z with y | y
        · rw [y] at e; exact Or.inr e
        · exact Or.inl (Or.inr ⟨i, Or.inl (Or.inr y), e⟩)
      · cases z
      · exact Or.inl (Or.inr ⟨h, Or.inr rfl, z⟩)
    · rintro ((z | ⟨i, (z | z) | z, e⟩) | z)
      · exact Or.inl (Or.inl z)
      · exact Or.inl (Or.inr ⟨i, Or.inl (Or.inl z), e⟩)
      · exact Or.inl (Or.inr ⟨i, Or.inl (Or.inr (List.mem_cons_of_mem _ z)), e⟩)
      · cases z; exact Or.inr e
      · exact Or.inl (Or.inr ⟨cs.length, Or.inl (Or.inr List.mem_cons_self), z⟩)
  have t4 := TI_f1 (c := mkc c C (N + (cs.length + 1)) D2) (h0 := N + h) (X := N + (cs.length + 1)) (mse := ms) (ms := ms) (w := w) (u := u) (ρt := rs) (k := k1) (rk := rk) t3 (fun y => by
    rcases y with y | ⟨i, (z | z) | z, e⟩
    · have := hz _ y; omega
    · exact h5 (by rw [show h = i by omega]; exact z)
    · rcases List.mem_cons.1 z with y | y
      · omega
      · exact h6 (by rw [show h = i by omega]; exact y)
    · cases z) hu cn.1.2.2.1 (no _ (by omega)) (no _ (by omega)) (no _ (by omega)) m2 (dU2 _ _ w5) (dU2 _ _ w6) (fun i hi => hi) (by
    show C (N + h) = _
    rw [hC3]; exact congrArg (fun z => em 4 (nI z)) (by omega)) (by omega) (Nat.le_refl _) (by omega) w4 w3
  refine ⟨D2, t4, fun q hq => (o2 q (by omega)).trans (e1 q hq), m2, fun i hi => ?_, fun i hi => ?_⟩
  · obtain ⟨r1, z1, z2, z3⟩ := q1 i hi
    exact ⟨r1, z1, z2, dU2 _ _ z3⟩
  · rcases List.mem_cons.1 hi with y | y
    · rw [y]; exact dU2 _ _ f1
    · exact dU2 _ _ (s1 i y)
theorem pw_ap {k : Nat} (h1 : qs.Pairwise (fun a b => ¬ a = b)) (h2 : ∀ i, i ∈ qs → i < k) (h3 : qb.Pairwise (fun a b => ¬ a = b)) : (qs ++ shQ k qb).Pairwise (fun a b => ¬ a = b) := by
  rw [List.pairwise_append]
  refine ⟨h1, shQ_p h3, fun i hi j hj e => ?_⟩
  obtain ⟨j', y1, y2⟩ := shQ_m.1 hj
  have := h2 i hi
  omega
/-- elseif .. then .. -/
theorem IfK_e (k : IfK u gl Pc Vm w N lo Bd ns qs es (some h) cs) (hc : Sst u gl Pc Vm [] 0 0 1 co) (hb : Stm u gl Pc Vm w (N + (cs.length + 1 + (co.length + 1))) lo Bd nb qb bo) : IfK u gl Pc Vm w N lo Bd (ns + nb) (qs ++ shQ (cs.length + 1 + (co.length + 1)) qb) (cs.length :: es) (some (cs.length + 1 + co.length)) (cs.set h (em 4 (nI (cs.length + 1 - h))) ++ (y1 :: (co ++ (y0 :: bo)))) := by
  have k' := k
  obtain ⟨⟨a1, ⟨a2, a3⟩, a4, a5⟩, kk⟩ := k'
  have h1 := a1 h (Or.inr rfl)
  obtain ⟨h5, h6⟩ := a5 h rfl
  obtain ⟨⟨p1, p2⟩, _⟩ := id hb
  have el : (cs.set h (em 4 (nI (cs.length + 1 - h))) ++ (y1 :: (co ++ (y0 :: bo)))).length = cs.length + 1 + (co.length + 1) + bo.length := by
    rw [List.length_append, List.length_set, List.length_cons, List.length_append, List.length_cons]; omega
  have nq : ∀ i, i ∈ qs ++ shQ (cs.length + 1 + (co.length + 1)) qb → (i ∈ qs ∧ i < cs.length) ∨ ∃ j, j ∈ qb ∧ i = cs.length + 1 + (co.length + 1) + j := fun i hi => by
    rcases List.mem_append.1 hi with z | z
    · exact Or.inl ⟨z, a1 i (Or.inl (Or.inl z))⟩
    · exact Or.inr (shQ_m.1 z)
  have ne : ∀ i, i ∈ cs.length :: es → i = cs.length ∨ (i ∈ es ∧ i < cs.length) := fun i hi => by
    rcases List.mem_cons.1 hi with z | z
    · exact Or.inl z
    · exact Or.inr ⟨z, a1 i (Or.inl (Or.inr z))⟩
  refine ⟨⟨fun i z => ?_, ⟨pw_ap a2 (fun i hi => by have := a1 i (Or.inl (Or.inl hi)); omega) p2, List.pairwise_cons.2 ⟨fun i hi e => by have := a1 i (Or.inl (Or.inr hi)); omega, a3⟩⟩, fun i hi hj => ?_, fun i e => ?_⟩, fun O H nu R ρ ρb c ms C ti eN no hD cn lp hR1 hR2 h2 hρ hB hN hC1 hC2 => ?_⟩
  · rw [el]
    rcases z with (z | z) | z
    · rcases nq i z with y | ⟨j, y1, y2⟩
      · omega
      · have := p1 j y1; omega
    · rcases ne i z with y | y <;> omega
    · have := Option.some.inj z; omega
  · rcases nq i hi with y | ⟨j, y1, y2⟩
    · rcases ne i hj with z | z
      · omega
      · exact a4 i y.1 z.1
    · rcases ne i hj with z | z <;> omega
  · have e' := Option.some.inj e
    refine ⟨fun z => ?_, fun z => ?_⟩
    · rcases nq i z with y | ⟨j, y1, y2⟩ <;> omega
    · rcases ne i z with y | y <;> omega
  rw [el] at hR1 hN hC2 ⊢
  have nh : ∀ i, i < cs.length → ¬ (i ∈ qs ∨ i ∈ es) → ¬ hlI (qs ++ shQ (cs.length + 1 + (co.length + 1)) qb) (cs.length :: es) (some (cs.length + 1 + co.length)) i := fun i hi hn z => by
    rcases z with (z | z) | z
    · rcases nq i z with y | ⟨j, y1, y2⟩
      · exact hn (Or.inl y.1)
      · omega
    · rcases ne i z with y | y
      · omega
      · exact hn (Or.inr y.1)
    · have := Option.some.inj z; omega
  obtain ⟨D1, t1, e1, f1, q1, s1⟩ := IfJ (C := C) (rs := R - cs.length - ns - 1) k ti eN no hD cn lp (by omega) hR2 h2 hB (by omega) hC1 (fun i hi hn => by
    rw [hC2 i (by omega) (nh i hi (fun z => hn (Or.inl z)))]
    exact gd_o _ hi (fun e => hn (Or.inr (congrArg some e.symm)))) (by
    rw [hC2 h (by omega) (nh h h1 (fun z => z.elim h5 h6))]
    exact gd_h _ h1) (Nat.le_refl _)
  have dU1 : ∀ q y', tcD c q = some y' → D1 q = some y' := fun q y' e => by
    have := dd_of ti (fun q hq => e1 q (by omega)) q y' e
    exact this
  have cc : ∀ i, ¬ hlI (qs ++ shQ (cs.length + 1 + (co.length + 1)) qb) (cs.length :: es) (some (cs.length + 1 + co.length)) (cs.length + 1 + i) → i < co.length + 1 + bo.length → C (N + (cs.length + 1) + i) = (co ++ (y0 :: bo)).getD i 0 := fun i hn hi => by
    rw [Nat.add_assoc, hC2 (cs.length + 1 + i) (by omega) hn, show cs.length + 1 + i = cs.length + (i + 1) by omega, gd_b]; rfl
  obtain ⟨D, z1, z2, z3, z4, z5, z6⟩ := Ifb (N := N + (cs.length + 1)) (ρ := ρb) (Bd := Bd) (C := C) (c := mkc c C (N + (cs.length + 1)) D1) hc (by rw [Nat.add_assoc]; exact hb) t1 rfl (fun q hq => no q (by omega)) f1 (StC_k cn dU1) (LpC_k lp (by omega) dU1) (by omega) (by omega) (by omega) (by omega) (by omega) (fun _ _ => rfl) (fun i hi => by
    rw [cc i (fun z => ?_) (by omega)]
    · exact gd_l hi
    · rcases z with (z | z) | z
      · rcases nq _ z with y | ⟨j, y1, y2⟩ <;> omega
      · rcases ne _ z with y | y <;> omega
      · have := Option.some.inj z; omega) (fun i hi hn => by
    rw [Nat.add_assoc, cc (co.length + 1 + i) (fun z => ?_) (by omega), show co.length + 1 + i = co.length + (i + 1) by omega, gd_r]
    · rfl
    · rcases z with (z | z) | z
      · rcases nq _ z with y | ⟨j, y1, y2⟩
        · omega
        · exact hn (by rw [show i = j by omega]; exact y1)
      · rcases ne _ z with y | y <;> omega
      · have := Option.some.inj z; omega)
  have eT : N + (cs.length + 1) + (co.length + 1 + bo.length) = N + (cs.length + 1 + (co.length + 1) + bo.length) := by omega
  rw [eT] at z1 z3
  have o4 : ∀ q, q ≤ N + (cs.length + 1) → D q = D1 q := fun q hq => z2 q hq
  refine ⟨D, TI_h (TI_R z1 (by omega)) (fun q => ?_), fun q hq => (o4 q (by omega)).trans (e1 q hq), z3, fun i hi => ?_, fun i hi => ?_, fun i e => ?_⟩
  · constructor
    · rintro (z | ⟨i, (z | z) | z, e⟩)
      · exact Or.inl (Or.inl z)
      · rcases nq i z with y | ⟨j, y1, y2⟩
        · exact Or.inl (Or.inr ⟨i, Or.inl (Or.inl y.1), e⟩)
        · exact Or.inr ⟨co.length + 1 + j, Or.inl (Or.inl (shQ_m.2 ⟨j, y1, rfl⟩)), by omega⟩
      · exact Or.inl (Or.inr ⟨i, Or.inl (Or.inr z), e⟩)
      · have := Option.some.inj z
        exact Or.inr ⟨co.length, Or.inr rfl, by omega⟩
    · rintro ((z | ⟨i, (z | z) | z, e⟩) | ⟨i, (z | z) | z, e⟩)
      · exact Or.inl z
      · exact Or.inr ⟨i, Or.inl (Or.inl (List.mem_append_left _ z)), e⟩
      · exact Or.inr ⟨i, Or.inl (Or.inr z), e⟩
      · cases z
      · obtain ⟨j, y1, y2⟩ := shQ_m.1 z
        exact Or.inr ⟨cs.length + 1 + (co.length + 1) + j, Or.inl (Or.inl (List.mem_append_right _ (shQ_m.2 ⟨j, y1, rfl⟩))), by omega⟩
      · exact absurd z List.not_mem_nil
      · have := Option.some.inj z
        exact Or.inr ⟨cs.length + 1 + co.length, Or.inr rfl, by omega⟩
  · rcases nq i hi with y | ⟨j, y1, y2⟩
    · obtain ⟨r1, v1, v2, v3⟩ := q1 i y.1
      exact ⟨r1, v1, v2, (o4 _ (by omega)).trans v3⟩
    · obtain ⟨r1, v1, v2, v3⟩ := z4 j y1
      exact ⟨r1, v1, v2, by rw [y2, show N + (cs.length + 1 + (co.length + 1) + j) = N + (cs.length + 1) + (co.length + 1) + j by omega]; exact v3⟩
  · have := ne i hi
    exact (o4 _ (by omega)).trans (s1 i hi)
  · have e' := Option.some.inj e
    refine ⟨R - cs.length - ns - 1 - co.length, ρb, ⟨by omega, by omega, by omega⟩, ?_, ?_⟩
    · rw [← e', show N + (cs.length + 1 + co.length) = N + (cs.length + 1) + co.length by omega]; exact z5
    · rw [← e', show N + (cs.length + 1 + co.length) + 1 = N + (cs.length + 1) + co.length + 1 by omega]; exact z6
end CWM
end JnS479
section JnS480
/-! The class: else, and the end of an if, typed. -/
section CWN
variable {c c' c1 c2 : Ct} {O O' H H' : Nat → Prop} {u nu nu' pc ln R R' re p d d' rk k op w n m m' q t x y x1 x2 g s N N0 X h h0 Bd Bd' ns na nb pl ρ ρt : Nat} {r r' pre ms ms' mse : List Nat} {x0 v y0 y1 : Int32} {Vm : Nat → Prop} {Pc : Nat → Nat → Prop} {cs cs2 ins a b tl o co bo : List Int32} {gl : Nat × (Nat → Nat → Prop)} {C : Nat → Int32} {qs qa qb es : List Nat} {lo ow : Option Nat}
/-- else -/
theorem IfK_l (k : IfK u gl Pc Vm w N lo Bd ns qs es (some h) cs) (hb : Stm u gl Pc Vm w (N + (cs.length + 1)) lo Bd nb qb bo) : IfK u gl Pc Vm w N lo Bd (ns + nb) (qs ++ shQ (cs.length + 1) qb) (cs.length :: es) none (cs.set h (em 4 (nI (cs.length + 1 - h))) ++ (y1 :: bo)) := by
  have k' := k
  obtain ⟨⟨a1, ⟨a2, a3⟩, a4, a5⟩, kk⟩ := k'
  have h1 := a1 h (Or.inr rfl)
  obtain ⟨h5, h6⟩ := a5 h rfl
  obtain ⟨⟨p1, p2⟩, hb2⟩ := hb
  have el : (cs.set h (em 4 (nI (cs.length + 1 - h))) ++ (y1 :: bo)).length = cs.length + 1 + bo.length := by
    rw [List.length_append, List.length_set, List.length_cons]; omega
  have nq : ∀ i, i ∈ qs ++ shQ (cs.length + 1) qb → (i ∈ qs ∧ i < cs.length) ∨ ∃ j, j ∈ qb ∧ i = cs.length + 1 + j := fun i hi => by
    rcases List.mem_append.1 hi with z | z
    · exact Or.inl ⟨z, a1 i (Or.inl (Or.inl z))⟩
    · exact Or.inr (shQ_m.1 z)
  have ne : ∀ i, i ∈ cs.length :: es → i = cs.length ∨ (i ∈ es ∧ i < cs.length) := fun i hi => by
    rcases List.mem_cons.1 hi with z | z
    · exact Or.inl z
    · exact Or.inr ⟨z, a1 i (Or.inl (Or.inr z))⟩
  refine ⟨⟨fun i z => ?_, ⟨pw_ap a2 (fun i hi => by have := a1 i (Or.inl (Or.inl hi)); omega) p2, List.pairwise_cons.2 ⟨fun i hi e => by have := a1 i (Or.inl (Or.inr hi)); omega, a3⟩⟩, fun i hi hj => ?_, fun i e => by cases e⟩, fun O H nu R ρ ρb c ms C ti eN no hD cn lp hR1 hR2 h2 hρ hB hN hC1 hC2 => ?_⟩
  · rw [el]
    rcases z with (z | z) | z
    · rcases nq i z with y | ⟨j, y1, y2⟩
      · omega
      · have := p1 j y1; omega
    · rcases ne i z with y | y <;> omega
    · cases z
  · rcases nq i hi with y | ⟨j, y1, y2⟩
    · rcases ne i hj with z | z
      · omega
      · exact a4 i y.1 z.1
    · rcases ne i hj with z | z <;> omega
  rw [el] at hR1 hN hC2 ⊢
  have nh : ∀ i, i < cs.length → ¬ (i ∈ qs ∨ i ∈ es) → ¬ hlI (qs ++ shQ (cs.length + 1) qb) (cs.length :: es) none i := fun i hi hn z => by
    rcases z with (z | z) | z
    · rcases nq i z with y | ⟨j, y1, y2⟩
      · exact hn (Or.inl y.1)
      · omega
    · rcases ne i z with y | y
      · omega
      · exact hn (Or.inr y.1)
    · cases z
  obtain ⟨D1, t1, e1, f1, q1, s1⟩ := IfJ (C := C) (rs := ρb) k ti eN no hD cn lp (by omega) hR2 h2 hB (by omega) hC1 (fun i hi hn => by
    rw [hC2 i (by omega) (nh i hi (fun z => hn (Or.inl z)))]
    exact gd_o _ hi (fun e => hn (Or.inr (congrArg some e.symm)))) (by
    rw [hC2 h (by omega) (nh h h1 (fun z => z.elim h5 h6))]
    exact gd_h _ h1) (by omega)
  have dU1 : ∀ q y', tcD c q = some y' → D1 q = some y' := fun q y' e => by
    have := dd_of ti (fun q hq => e1 q (by omega)) q y' e
    exact this
  obtain ⟨D, z1, z2, z3, z4⟩ := hb2 O (fun q => H q ∨ ∃ h, hlI qs (cs.length :: es) none h ∧ q = N + h) nu (R - cs.length - ns - 1) ρb (mkc c C (N + (cs.length + 1)) D1) ms C t1 rfl (fun q hq => no q (by omega)) f1 (StC_k cn dU1) (LpC_k lp (by omega) dU1) (by omega) (by omega) (by omega) (by omega) (by omega) (fun _ _ => rfl) (fun i hi hn => by
    rw [Nat.add_assoc, hC2 (cs.length + 1 + i) (by omega) (fun z => ?_), show cs.length + 1 + i = cs.length + (i + 1) by omega, gd_b]
    · rfl
    · rcases z with (z | z) | z
      · rcases nq _ z with y | ⟨j, y1, y2⟩
        · omega
        · exact hn (by rw [show i = j by omega]; exact y1)
      · rcases ne _ z with y | y <;> omega
      · cases z)
  have eT : N + (cs.length + 1) + bo.length = N + (cs.length + 1 + bo.length) := by omega
  rw [eT] at z1 z3
  have o4 : ∀ q, q ≤ N + (cs.length + 1) → D q = D1 q := fun q hq => z2 q hq
  refine ⟨D, TI_h (TI_R z1 (by omega)) (fun q => ?_), fun q hq => (o4 q (by omega)).trans (e1 q hq), z3, fun i hi => ?_, fun i hi => ?_, fun i e => by cases e⟩
  · constructor
    · rintro (z | ⟨i, (z | z) | z, e⟩)
      · exact Or.inl (Or.inl z)
      · rcases nq i z with y | ⟨j, y1, y2⟩
        · exact Or.inl (Or.inr ⟨i, Or.inl (Or.inl y.1), e⟩)
        · exact Or.inr ⟨j, y1, by omega⟩
      · exact Or.inl (Or.inr ⟨i, Or.inl (Or.inr z), e⟩)
      · cases z
    · rintro ((z | ⟨i, (z | z) | z, e⟩) | ⟨i, z, e⟩)
      · exact Or.inl z
      · exact Or.inr ⟨i, Or.inl (Or.inl (List.mem_append_left _ z)), e⟩
      · exact Or.inr ⟨i, Or.inl (Or.inr z), e⟩
      · cases z
      · exact Or.inr ⟨cs.length + 1 + i, Or.inl (Or.inl (List.mem_append_right _ (shQ_m.2 ⟨i, z, rfl⟩))), by omega⟩
  · rcases nq i hi with y | ⟨j, y1, y2⟩
    · obtain ⟨r1, v1, v2, v3⟩ := q1 i y.1
      exact ⟨r1, v1, v2, (o4 _ (by omega)).trans v3⟩
    · obtain ⟨r1, v1, v2, v3⟩ := z4 j y1
      exact ⟨r1, v1, v2, by rw [y2, ← Nat.add_assoc]; exact v3⟩
  · have := ne i hi
    exact (o4 _ (by omega)).trans (s1 i hi)
/-- end -/
theorem IfK_end (k : IfK u gl Pc Vm w N lo Bd ns qs es ow cs) (l : cs2.length = cs.length) (c1 : ∀ i, i < cs.length → ¬ hlI [] es ow i → cs2.getD i 0 = cs.getD i 0) (c2 : ∀ i, i ∈ es → cs2.getD i 0 = em 3 (nI (cs.length - i))) (c3 : ∀ i, ow = some i → cs2.getD i 0 = em 4 (nI (cs.length - i))) : Stm u gl Pc Vm w N lo (Bd + 1) ns qs cs2 := by
  obtain ⟨⟨a1, ⟨a2, a3⟩, a4, a5⟩, kk⟩ := k
  refine ⟨⟨fun i hi => by rw [l]; exact a1 i (Or.inl (Or.inl hi)), a2⟩, fun O H nu R ρ c ms C ti eN no hD cn lp hR1 hR2 h2 hB hN hC1 hC2 => ?_⟩
  rw [l] at hR1 hN hC2 ⊢
  have hu : (u ≤ nu ∨ u = 41) ∧ u < 42 := ⟨cn.1.1, cn.1.2.1⟩
  have hz : ∀ q, H q → q < N := fun q z => by have := ti.2.2.1 q z; omega
  obtain ⟨D, t1, e1, f1, q1, s1, w1⟩ := kk O H nu R ρ ρ c ms C ti eN no hD cn lp (by omega) hR2 h2 ⟨Nat.le_refl _, by omega⟩ (by omega) hN hC1 (fun i hi hn => by
    rw [hC2 i hi (fun z => hn (Or.inl (Or.inl z)))]
    exact c1 i hi (fun z => hn (by
      rcases z with (z | z) | z
      · exact absurd z List.not_mem_nil
      · exact Or.inl (Or.inr z)
      · exact Or.inr z)))
  have rk40 : RK = 40000 := rfl
  -- those to the end
  have t2 := TI_qs (c := mkc c C (N + cs.length) D) (N0 := N) (X := N + cs.length) (mse := ms) (ms := ms) (w := w) (u := u) (ρt := ρ) hu cn.1.2.2.1 (no _ (by omega)) f1 (fun i hi => hi) (Nat.le_refl _) es (fun q => (H q ∨ ∃ h, h ∈ qs ∧ q = N + h) ∨ ∃ h, ow = some h ∧ q = N + h) (TI_h t1 (fun q => by
    constructor
    · rintro (((z | ⟨i, z, e⟩) | ⟨i, z, e⟩) | ⟨i, z, e⟩)
      · exact Or.inl z
      · exact Or.inr ⟨i, Or.inl (Or.inl z), e⟩
      · exact Or.inr ⟨i, Or.inr z, e⟩
      · exact Or.inr ⟨i, Or.inl (Or.inr z), e⟩
    · rintro (z | ⟨i, (z | z) | z, e⟩)
      · exact Or.inl (Or.inl (Or.inl z))
      · exact Or.inl (Or.inl (Or.inr ⟨i, z, e⟩))
      · exact Or.inr ⟨i, z, e⟩
      · exact Or.inl (Or.inr ⟨i, z, e⟩))) (fun i hi => by
    have hl := a1 i (Or.inl (Or.inr hi))
    refine ⟨fun y => ?_, no _ (by omega), by omega, ?_, ρ + 1, by omega, by omega, s1 i hi⟩
    · rcases y with (y | ⟨j, y, e⟩) | ⟨j, y, e⟩
      · have := hz _ y; omega
      · exact a4 j y (by rw [show j = i by omega]; exact hi)
      · exact (a5 j y).2 (by rw [show j = i by omega]; exact hi)
    · show C (N + i) = _
      rw [hC2 i hl (fun y => a4 i y hi), c2 i hi]
      exact congrArg (fun z => em 3 (nI z)) (by omega)) a3
  rcases ow with _ | h
  · refine ⟨D, TI_h t2 (fun q => ⟨fun z => Or.inl z, fun z => z.elim id (fun ⟨i, y, _⟩ => by cases y)⟩), e1, f1, q1⟩
  · obtain ⟨rk, k1, ⟨w2, w3, w4⟩, w5, w6⟩ := w1 h rfl
    obtain ⟨h5, h6⟩ := a5 h rfl
    have hl := a1 h (Or.inr rfl)
    have t3 := TI_f1 (c := mkc c C (N + cs.length) D) (H := fun q => H q ∨ ∃ h, h ∈ qs ∧ q = N + h) (h0 := N + h) (X := N + cs.length) (mse := ms) (ms := ms) (w := w) (u := u) (ρt := ρ) (k := k1) (rk := rk) (TI_h t2 (fun q => ⟨fun z => z.elim Or.inl (fun e => Or.inr ⟨h, rfl, e⟩), fun z => z.elim Or.inl (fun ⟨i, y, e⟩ => Or.inr (by cases y; exact e))⟩)) (fun y => by
      rcases y with y | ⟨j, y, e⟩
      · have := hz _ y; omega
      · exact h5 (by rw [show h = j by omega]; exact y)) hu cn.1.2.2.1 (no _ (by omega)) (no _ (by omega)) (no _ (by omega)) f1 w5 w6 (fun i hi => hi) (by
      show C (N + h) = _
      rw [hC2 h hl h5, c3 h rfl]
      exact congrArg (fun z => em 4 (nI z)) (by omega)) (by omega) (Nat.le_refl _) (by omega) w4 w3
    exact ⟨D, t3, e1, f1, q1⟩
end CWN
end JnS480

/-! The class: instructions of statements, typed. -/
section CWG
variable {c c' c1 c2 : Ct} {O O' H H' : Nat → Prop} {u nu nu' pc ln R R' re p d rk k op w n m m' q t x y x1 x2 g s D : Nat} {r pre ms ms' : List Nat} {x0 v : Int32} {Vm : Nat → Prop} {Pc : Nat → Nat → Prop} {cs ins a b tl o : List Int32} {gl : Nat × (Nat → Nat → Prop)} {C : Nat → Int32} {ks : List Nat}
/-- what a statement is laid in -/
def StC (O : Nat → Prop) (u : Nat) (gl : Nat × (Nat → Nat → Prop)) (Pc : Nat → Nat → Prop) (Vm : Nat → Prop) (nu : Nat) (c : Ct) (w : Nat) (ms : List Nat) : Prop := CnC O u 0 gl Vm nu c w ms ∧ (tcS c u ∧ u < 41 ∧ w ≤ 200) ∧ ((∀ s, s < 500000 → Vm (500000 + s) → ¬ s ∈ ms) ∧ ∀ i, i ∈ ms → i % 500000 < w) ∧ (¬ u = 0 → ∀ i, i < tcP c u → i < 500000 ∧ Vm (500000 + i)) ∧ ∀ v n, Pc v n → (1 ≤ v ∧ v ≤ nu ∧ v < 41) ∧ tcS c v ∧ tcP c v = n ∧ (tcP c v ≤ tcF c v ∧ tcF c v ≤ 1000) ∧ ¬ O (tcE c v) ∧ ∃ rk, rk ≤ 2 ∧ tcD c (tcE c v) = some (v, 0, (bsl + tcF c v) :: Vl (tcF c v), rk)
theorem StC_k {C : Nat → Int32} {N : Nat} {D : Nat → Option (Nat × Nat × List Nat × Nat)} (h : StC O u gl Pc Vm nu c w ms) (hD : ∀ q y, tcD c q = some y → D q = some y) : StC O u gl Pc Vm nu (mkc c C N D) w ms := by
  obtain ⟨h1, h2, h3, h4, h5⟩ := h
  refine ⟨CnC_k h1 hD, h2, h3, h4, fun v n z => ?_⟩
  obtain ⟨z1, z2, z3, z4, z5, rk, z6, z7⟩ := h5 v n z
  exact ⟨z1, z2, z3, z4, z5, rk, z6, hD _ _ z7⟩
theorem StC_o {O' : Nat → Prop} (h : StC O u gl Pc Vm nu c w ms) (ho : ∀ q y, tcD c q = some y → O' q → O q) : StC O' u gl Pc Vm nu c w ms := by
  obtain ⟨h1, h2, h3, h4, h5⟩ := h
  refine ⟨⟨h1.1, h1.2.1, h1.2.2.1, h1.2.2.2.1, h1.2.2.2.2.1, h1.2.2.2.2.2.1, h1.2.2.2.2.2.2.1, Unt_o h1.2.2.2.2.2.2.2 ho⟩, h2, h3, h4, fun v n z => ?_⟩
  obtain ⟨z1, z2, z3, z4, z5, rk, z6, z7⟩ := h5 v n z
  exact ⟨z1, z2, z3, z4, fun y => z5 (ho _ _ z7 y), rk, z6, z7⟩
theorem nilp : ∀ e : Nat, e ∈ ([] : List Nat) → e < bsl := fun e h => absurd h List.not_mem_nil
theorem sx_N (a : CtG O u nu c c') (cn : StC O u gl Pc Vm nu c w ms) (hp : ∀ e, e ∈ pre → e < bsl) (hD : tcD c q = some (u, d, sh pre w ms, R')) (no : ¬ O q) (hR : R' < k) : Nx c' q u d (sh pre w ms) k := it_N a cn.1 hp hD no hR
theorem sx_S (a : CtG O u nu c c') (cn : StC O u gl Pc Vm nu c w ms) (hp : ∀ e, e ∈ pre → e < bsl) (hD : tcD c q = some (u, d, sh pre w ms, R')) (no : ¬ O q) (hR : R' ≤ RK) : NxS c' q u d (sh pre w ms) := it_S a cn.1 hp hD no hR
theorem st_bs (cn : StC O u gl Pc Vm nu c w ms) : ∀ i, i ∈ ms → i < bsl := fun i hi => by
  rcases Nat.lt_or_ge i bsl with z | z
  · exact z
  · have := cn.1.2.2.2.2.2.1 i hi z; omega
/-- one instruction of a statement, without jumps: from m values to n; x: what it takes of ranks besides its ints -/
def Isc (u : Nat) (gl : Nat × (Nat → Nat → Prop)) (Pc : Nat → Nat → Prop) (Vm : Nat → Prop) (pre : List Nat) (x m n : Nat) (ins : List Int32) : Prop := ∀ (O : Nat → Prop) (nu R re : Nat) (c : Ct) (pc w : Nat) (ms : List Nat), (∀ i, i < ins.length → tcC c (pc + i) = ins.getD i 0) → pc + ins.length ≤ tcN c → ¬ O pc → ¬ O (pc + ins.length) → tcD c pc = some (u, m, sh pre w ms, R) → tcD c (pc + ins.length) = some (u, n, sh pre w ms, re) → re + ins.length + x ≤ R → StC O u gl Pc Vm nu c w ms → (∀ e, e ∈ pre → e < bsl) → 1000 ≤ R → R ≤ RK → m ≤ 100000 ∧ n ≤ 100000 ∧ tcN c ≤ 36864 → OKq O (u % 100) nu c pc ins.length R
theorem Is_g (ho : op < 256) (hx : Sm3 x0) (ok : ∀ (O : Nat → Prop) (nu R re : Nat) (c c' : Ct) (pc w : Nat) (ms : List Nat), (∀ i, i < tl.length → tcC c' (pc + 1 + i) = tl.getD i 0) → pc + (tl.length + 1) ≤ tcN c → ¬ O (pc + (tl.length + 1)) → tcD c (pc + (tl.length + 1)) = some (u, n, sh pre w ms, re) → re + (tl.length + 1) + x ≤ R → StC O u gl Pc Vm nu c w ms → (∀ e, e ∈ pre → e < bsl) → 1000 ≤ R → R ≤ RK → m ≤ 100000 ∧ n ≤ 100000 ∧ tcN c ≤ 36864 → CtG O u nu c c' → OKI c' pc u m (sh pre w ms) R op x0) : Isc u gl Pc Vm pre x m n (em op x0 :: tl) := by
  intro O nu R re c pc w ms hc hN no no2 hD hD2 hr cn hp hR1 hR2 hd
  have el : (em op x0 :: tl).length = tl.length + 1 := rfl
  rw [el] at hc hN no2 hD2 hr ⊢
  have e0 : tcC c pc = em op x0 := hc 0 (by omega)
  have rk40 : RK = 40000 := rfl
  exact OKq_of (x := x0) hD no cn.1.2.1 (by omega) (by omega) ho (by omega) (by rw [e0]; exact em_lo ho) (by rw [e0]; exact em_hi ho hx) (fun c' a hc' _ => ok O nu R re c c' pc w ms (fun i hi => by
    rw [hc' (pc + 1 + i) (by omega) (by omega), Nat.add_assoc, hc (1 + i) (by omega), Nat.add_comm 1 i]; rfl) hN no2 hD2 hr cn hp hR1 hR2 hd a)
theorem Is_1 (ho : op < 256) (hx : Sm3 x0) (ok : ∀ (O : Nat → Prop) (nu R re : Nat) (c c' : Ct) (pc w : Nat) (ms : List Nat), pc + 1 ≤ tcN c → ¬ O (pc + 1) → tcD c (pc + 1) = some (u, n, sh pre w ms, re) → re + 1 + x ≤ R → StC O u gl Pc Vm nu c w ms → (∀ e, e ∈ pre → e < bsl) → 1000 ≤ R → R ≤ RK → m ≤ 100000 ∧ n ≤ 100000 ∧ tcN c ≤ 36864 → CtG O u nu c c' → OKI c' pc u m (sh pre w ms) R op x0) : Isc u gl Pc Vm pre x m n [em op x0] := Is_g ho hx (fun O nu R re c c' pc w ms _ hN no2 hD2 hr cn hp hR1 hR2 hd a => ok O nu R re c c' pc w ms hN no2 hD2 hr cn hp hR1 hR2 hd a)
theorem Is_dr (hk : k < 8388608) : Isc u gl Pc Vm pre 0 (n + k) n [em 37 (nI k)] := Is_1 (by decide) (Sm3_n hk) (fun O nu R re c c' pc w ms hN no2 hD2 hr cn hp hR1 hR2 hd a => OKI_2 (by decide) ⟨fun z => absurd z (by decide), fun z => absurd z (by decide), fun z => absurd z (by decide), fun z => absurd z (by decide), fun z => absurd z (by decide), fun _ => ⟨n, _, by rw [u_n (by omega)]; exact Drp_pl _, sx_N a cn hp hD2 no2 (by omega)⟩, fun z => absurd z (by decide), fun z => absurd z (by decide), fun z => absurd z (by decide), fun z => absurd z (by decide), fun z => absurd z (by omega)⟩)
theorem Is_pk (hk : k < m) (h8 : k < 8388608) : Isc u gl Pc Vm pre 0 m (m + 1) [em 38 (nI k)] := Is_1 (by decide) (Sm3_n h8) (fun O nu R re c c' pc w ms hN no2 hD2 hr cn hp hR1 hR2 hd a => OKI_2 (by decide) ⟨fun z => absurd z (by decide), fun z => absurd z (by decide), fun z => absurd z (by decide), fun z => absurd z (by decide), fun z => absurd z (by decide), fun z => absurd z (by decide), fun _ => ⟨by rw [u_n (by omega)]; exact hk, sx_N a cn hp hD2 no2 (by omega)⟩, fun z => absurd z (by decide), fun z => absurd z (by decide), fun z => absurd z (by decide), fun z => absurd z (by omega)⟩)
theorem Is_sw (hm : 2 ≤ m) : Isc u gl Pc Vm pre 0 m m [em 39 0] := Is_1 (by decide) Sm3_0 (fun O nu R re c c' pc w ms hN no2 hD2 hr cn hp hR1 hR2 hd a => OKI_2 (by decide) ⟨fun z => absurd z (by decide), fun z => absurd z (by decide), fun z => absurd z (by decide), fun z => absurd z (by decide), fun z => absurd z (by decide), fun z => absurd z (by decide), fun z => absurd z (by decide), fun _ => ⟨hm, sx_N a cn hp hD2 no2 (by omega)⟩, fun z => absurd z (by decide), fun z => absurd z (by decide), fun z => absurd z (by omega)⟩)
theorem Is_po : Isc u gl Pc Vm [] 0 0 1 [em 21 0] := Is_1 (by decide) Sm3_0 (fun O nu R re c c' pc w ms hN no2 hD2 hr cn hp hR1 hR2 hd a => OKI_7 (by decide) ⟨fun z => absurd z (by decide), fun z => absurd z (by decide), fun z => absurd z (by decide), fun z => absurd z (by decide), fun z => absurd z (by decide), fun z => absurd z (by decide), fun _ => ⟨w, ms, st_bs cn, rfl, rfl, tS_of a cn.1.1 cn.2.1.1, cn.2.1.2.1, cn.2.1.2.2, sx_N a cn hp hD2 no2 (by omega), nxR_of a cn.1.1 hD2 no2 (by rw [show bt 1 (sh [] w ms) = w from sh_bt (w := w) (ms := ms) [] 1 nilp]; exact cn.1.2.2.1) (by omega)⟩, fun z => absurd z (by decide), fun z => absurd z (by omega), fun z => absurd z (by decide)⟩)
theorem Is_su : Isc u gl Pc Vm pre 0 m m [em 23 0] := Is_1 (by decide) Sm3_0 (fun O nu R re c c' pc w ms hN no2 hD2 hr cn hp hR1 hR2 hd a => OKI_7 (by decide) ⟨fun z => absurd z (by decide), fun z => absurd z (by decide), fun z => absurd z (by decide), fun z => absurd z (by decide), fun z => absurd z (by decide), fun z => absurd z (by decide), fun z => absurd z (by decide), fun z => absurd z (by decide), fun _ => ⟨tS_of a cn.1.1 cn.2.1.1, sx_N a cn hp hD2 no2 (by omega)⟩, fun z => absurd z (by decide)⟩)
theorem Is_as : Isc u gl Pc Vm pre 0 (n + 1) n [em 24 0] := Is_1 (by decide) Sm3_0 (fun O nu R re c c' pc w ms hN no2 hD2 hr cn hp hR1 hR2 hd a => OKI_7 (by decide) ⟨fun z => absurd z (by decide), fun z => absurd z (by decide), fun z => absurd z (by decide), fun z => absurd z (by decide), fun z => absurd z (by decide), fun z => absurd z (by decide), fun z => absurd z (by decide), fun z => absurd z (by decide), fun z => absurd z (by omega), fun _ => ⟨n, rfl, sx_N a cn hp hD2 no2 (by omega)⟩⟩)
theorem Is_pt (hk : k < 8388608) : Isc u gl Pc Vm pre 0 (n + k) n [em 208 (nI k)] := Is_1 (by decide) (Sm3_n hk) (fun O nu R re c c' pc w ms hN no2 hD2 hr cn hp hR1 hR2 hd a => OKI_p (by decide) ⟨n, by rw [u_n (by omega)], tS_of a cn.1.1 cn.2.1.1, sx_N a cn hp hD2 no2 (by omega)⟩)
/-- how many values the parts of a target have -/
def Wkk (ks : List Nat) : Nat → Nat
  | 0 => 0
  | n + 1 => Wkk ks n + (if ks.getD n 0 = 97 then 2 else 1)
def wdN (ks : List Nat) : Nat := Wkk ks ks.length
theorem Wkk_le (ks : List Nat) : ∀ n, n ≤ Wkk ks n ∧ Wkk ks n ≤ 2 * n
  | 0 => ⟨Nat.le_refl _, Nat.le_refl _⟩
  | n + 1 => by
    have := Wkk_le ks n
    show n + 1 ≤ Wkk ks n + (if ks.getD n 0 = 97 then 2 else 1) ∧ Wkk ks n + (if ks.getD n 0 = 97 then 2 else 1) ≤ 2 * (n + 1)
    by_cases z : ks.getD n 0 = 97
    · rw [if_pos z]; omega
    · rw [if_neg z]; omega
theorem Wkk_ap (l : List Nat) : ∀ n, n ≤ ks.length → Wkk (ks ++ l) n = Wkk ks n
  | 0, _ => rfl
  | n + 1, h => by
    show Wkk (ks ++ l) n + (if (ks ++ l).getD n 0 = 97 then 2 else 1) = Wkk ks n + (if ks.getD n 0 = 97 then 2 else 1)
    rw [Wkk_ap l n (by omega), List.getD_eq_getElem?_getD, List.getElem?_append_left (by omega), ← List.getD_eq_getElem?_getD]
theorem wdN_ap : wdN (ks ++ [k]) = wdN ks + (if k = 97 then 2 else 1) := by
  unfold wdN
  rw [List.length_append]
  show Wkk (ks ++ [k]) ks.length + (if (ks ++ [k]).getD ks.length 0 = 97 then 2 else 1) = _
  rw [Wkk_ap _ _ (Nat.le_refl _), List.getD_eq_getElem?_getD, List.getElem?_append_right (Nat.le_refl _), Nat.sub_self]
  rfl
theorem Wd_k (hk : ∀ i, i < ks.length → ks.getD i 0 < 256) (hC : ∀ i, i < ks.length → C (q + i) = nI (ks.getD i 0)) : ∀ n, n ≤ ks.length → Wd C q n = Wkk ks n
  | 0, _ => rfl
  | n + 1, h => by
    rw [Wd_s]
    show Wd C q n + (if C (q + n) = 97 then 2 else 1) = Wkk ks n + (if ks.getD n 0 = 97 then 2 else 1)
    rw [Wd_k hk hC n (by omega), hC n (by omega)]
    have e : nI (ks.getD n 0) = 97 ↔ ks.getD n 0 = 97 := n_eq (q := 97) (by have := hk n (by omega); omega) (by decide)
    by_cases z : ks.getD n 0 = 97
    · rw [if_pos z, if_pos (e.2 z)]
    · rw [if_neg z, if_neg (fun y => z (e.1 y))]
/-- a variable that may be written: of the frame, or of the program -/
def TgO (gl : Nat × (Nat → Nat → Prop)) (Vm : Nat → Prop) (g s : Nat) : Prop := (g = 0 ∧ s < 200 ∧ Vm (500000 + s)) ∨ (g = 1 ∧ s < gl.1 ∧ gl.1 ≤ 1000)
def kdL (ks : List Nat) : List Int32 := ks.map nI
theorem kdL_l : (kdL ks).length = ks.length := List.length_map _
theorem kdL_g : ∀ (ks : List Nat) (i : Nat), i < ks.length → (kdL ks).getD i 0 = nI (ks.getD i 0)
  | [], i, h => absurd h (Nat.not_lt_zero _)
  | k :: ks, 0, _ => rfl
  | k :: ks, i + 1, h => kdL_g ks i (Nat.lt_of_succ_lt_succ h)
/-- READ or WRITE -/
def rwL (op s D : Nat) (ks : List Nat) : List Int32 := em op (nI s) :: nI D :: nI ks.length :: kdL ks
theorem rwL_l : (rwL op s D ks).length = ks.length + 3 := by show (kdL ks).length + 1 + 1 + 1 = _; rw [kdL_l]
theorem Is_rd (ht : TgO gl Vm g s) (hk : ∀ i, i < ks.length → ks.getD i 0 < 256) (h1 : wdN ks ≤ D) (h2 : ∀ w ms, TpV m (sh pre w ms) D) (h3 : D ≤ 200000) : Isc u gl Pc Vm pre 0 m (m + 1) (rwL (176 + g) s D ks) := by
  have g1 : g ≤ 1 := by rcases ht with z | z <;> omega
  have s1 : s < 1000 := by rcases ht with z | z <;> omega
  refine Is_g (by omega) (Sm3_n (by omega)) (fun O nu R re c c' pc w ms hc hN no2 hD2 hr cn hp hR1 hR2 hd a => OKI_8 (by omega) ?_)
  have el : (nI D :: nI ks.length :: kdL ks).length = ks.length + 2 := by show (kdL ks).length + 1 + 1 = _; rw [kdL_l]
  rw [el] at hc hN no2 hD2 hr
  have c1 : tcC c' (pc + 1) = nI D := hc 0 (by omega)
  have c2 : tcC c' (pc + 2) = nI ks.length := hc 1 (by omega)
  have c3 : ∀ i, i < ks.length → tcC c' (pc + 3 + i) = nI (ks.getD i 0) := fun i hi => by
    have z := hc (i + 2) (by omega)
    rw [show pc + 3 + i = pc + 1 + (i + 2) by omega, z]
    exact kdL_g ks i hi
  have rk40 : RK = 40000 := rfl
  refine ⟨ks.length, D, ⟨by rw [c2, u_n (by omega)], by rw [c1, u_n (by omega)], by have := a.1; omega⟩, ?_, h2 w ms, fun z => ?_, fun z => ?_, ?_⟩
  · rw [Wd_k hk c3 _ (Nat.le_refl _)]; exact h1
  · rcases ht with y | y
    · rw [u_n (by omega)]; exact ⟨by omega, sh_has (w := w) (ms := ms) pre hp (cn.1.2.2.2.2.2.2.1 _ y.2.2)⟩
    · omega
  · rcases ht with y | y
    · omega
    · rw [u_n (by omega)]
      exact Nat.lt_of_lt_of_le y.2.1 (Nat.le_trans cn.1.2.2.2.1.1 a.2.2.2.1.1)
  · rw [show pc + 3 + ks.length = pc + (ks.length + 2 + 1) by omega]
    exact sx_N a cn hp hD2 no2 (by omega)
theorem Is_wr (ht : TgO gl Vm g s) (hk : ∀ i, i < ks.length → ks.getD i 0 < 256) (h1 : wdN ks + 1 ≤ D) (h2 : ∀ w ms, TpV m (sh pre w ms) D) (h3 : D ≤ 200000) (h4 : 1 ≤ m) : Isc u gl Pc Vm pre 0 m m (rwL (192 + g) s D ks) := by
  have g1 : g ≤ 1 := by rcases ht with z | z <;> omega
  have s1 : s < 1000 := by rcases ht with z | z <;> omega
  refine Is_g (by omega) (Sm3_n (by omega)) (fun O nu R re c c' pc w ms hc hN no2 hD2 hr cn hp hR1 hR2 hd a => OKI_9 (by omega) ?_)
  have el : (nI D :: nI ks.length :: kdL ks).length = ks.length + 2 := by show (kdL ks).length + 1 + 1 = _; rw [kdL_l]
  rw [el] at hc hN no2 hD2 hr
  have c1 : tcC c' (pc + 1) = nI D := hc 0 (by omega)
  have c2 : tcC c' (pc + 2) = nI ks.length := hc 1 (by omega)
  have c3 : ∀ i, i < ks.length → tcC c' (pc + 3 + i) = nI (ks.getD i 0) := fun i hi => by
    have z := hc (i + 2) (by omega)
    rw [show pc + 3 + i = pc + 1 + (i + 2) by omega, z]
    exact kdL_g ks i hi
  have rk40 : RK = 40000 := rfl
  refine ⟨ks.length, D, ⟨by rw [c2, u_n (by omega)], by rw [c1, u_n (by omega)], by have := a.1; omega⟩, ?_, h2 w ms, ⟨h4, tS_of a cn.1.1 cn.2.1.1⟩, fun z => ?_, fun z => ?_, ?_⟩
  · rw [Wd_k hk c3 _ (Nat.le_refl _)]; exact h1
  · rcases ht with y | y
    · rw [u_n (by omega)]
      exact ⟨by omega, sh_has (w := w) (ms := ms) pre hp (cn.1.2.2.2.2.2.2.1 _ y.2.2), sh_slb (w := w) (ms := ms) pre, shAll (w := w) (P := fun i => ¬ i = s) (ms := ms) pre hp (fun i hi e => cn.2.2.1.1 s (by omega) y.2.2 (e ▸ hi))⟩
    · omega
  · rcases ht with y | y
    · omega
    · rw [u_n (by omega)]
      exact Nat.lt_of_lt_of_le y.2.1 (Nat.le_trans cn.1.2.2.2.1.1 a.2.2.2.1.1)
  · rw [show pc + 3 + ks.length = pc + (ks.length + 2 + 1) by omega]
    exact sx_N a cn hp hD2 no2 (by omega)
/-- a piece of a statement: from m values to n -/
def Sst (u : Nat) (gl : Nat × (Nat → Nat → Prop)) (Pc : Nat → Nat → Prop) (Vm : Nat → Prop) (pre : List Nat) (x m n : Nat) (cs : List Int32) : Prop := ∀ (O H : Nat → Prop) (nu R : Nat) (c : Ct) (w : Nat) (ms : List Nat) (C : Nat → Int32), TI O H nu R c → (∀ q, tcN c ≤ q → ¬ O q) → tcD c (tcN c) = some (u, m, sh pre w ms, R) → StC O u gl Pc Vm nu c w ms → (∀ e, e ∈ pre → e < bsl) → 1000 + cs.length + x ≤ R → R ≤ RK → m + cs.length ≤ 100000 → tcN c + cs.length ≤ 36864 → (∀ i, i < tcN c → C i = tcC c i) → (∀ i, i < cs.length → C (tcN c + i) = cs.getD i 0) → ∃ D, TI O H nu (R - cs.length - x) (mkc c C (tcN c + cs.length) D) ∧ (∀ q, q ≤ tcN c → D q = tcD c q) ∧ D (tcN c + cs.length) = some (u, n, sh pre w ms, R - cs.length - x)
/-- its end: the rank behind it is as one likes -/
def Sse (u : Nat) (gl : Nat × (Nat → Nat → Prop)) (Pc : Nat → Nat → Prop) (Vm : Nat → Prop) (pre : List Nat) (x m n : Nat) (cs : List Int32) : Prop := ∀ (O H : Nat → Prop) (nu R re : Nat) (c : Ct) (w : Nat) (ms : List Nat) (C : Nat → Int32), TI O H nu R c → (∀ q, tcN c ≤ q → ¬ O q) → tcD c (tcN c) = some (u, m, sh pre w ms, R) → StC O u gl Pc Vm nu c w ms → (∀ e, e ∈ pre → e < bsl) → 1000 + cs.length + x ≤ R → R ≤ RK → re + cs.length + x ≤ R → m + cs.length ≤ 100000 → tcN c + cs.length ≤ 36864 → (∀ i, i < tcN c → C i = tcC c i) → (∀ i, i < cs.length → C (tcN c + i) = cs.getD i 0) → ∃ D, TI O H nu (R - cs.length - x) (mkc c C (tcN c + cs.length) D) ∧ (∀ q, q ≤ tcN c → D q = tcD c q) ∧ D (tcN c + cs.length) = some (u, n, sh pre w ms, re)
theorem Sse_t (h : Sse u gl Pc Vm pre x m n cs) : Sst u gl Pc Vm pre x m n cs := fun O H nu R c w ms C ti no hD cn hp hR1 hR2 hd hN hC1 hC2 => h O H nu R (R - cs.length - x) c w ms C ti no hD cn hp hR1 hR2 (by omega) hd hN hC1 hC2
theorem Sst_sg (h : Sgm u 0 gl Vm n o) (m : Nat) : Sst u gl Pc Vm pre 0 m (m + n) o := by
  intro O H nu R c w ms C ti no hD cn hp hR1 hR2 hd hN hC1 hC2
  exact h.2 O H nu R c m pre w ms C ti (no _ (Nat.le_refl _)) hD hp cn.1 (by omega) hR2 hd hN hC1 hC2
theorem Sst_s2 (h : Sg2 u 0 gl Vm m' n o) (m : Nat) : Sst u gl Pc Vm pre 0 (m + m') (m + n) o := by
  intro O H nu R c w ms C ti no hD cn hp hR1 hR2 hd hN hC1 hC2
  exact h O H nu R c m pre w ms C ti (no _ (Nat.le_refl _)) hD hp cn.1 (by omega) hR2 hd hN hC1 hC2
theorem Sst_seq (h1 : Sst u gl Pc Vm pre x1 m k a) (h2 : Sst u gl Pc Vm pre x2 k n b) (hk : k ≤ m + a.length) : Sst u gl Pc Vm pre (x1 + x2) m n (a ++ b) := by
  intro O H nu R c w ms C ti no hD cn hp hR1 hR2 hd hN hC1 hC2
  have la : (a ++ b).length = a.length + b.length := List.length_append
  rw [la] at hR1 hd hN hC2 ⊢
  obtain ⟨D1, t1, e1, f1⟩ := h1 O H nu R c w ms C ti no hD cn hp (by omega) hR2 (by omega) (by omega) hC1 (fun i hi => by rw [hC2 i (by omega), gd_l hi])
  obtain ⟨D2, t2, e2, f2⟩ := h2 O H nu (R - a.length - x1) (mkc c C (tcN c + a.length) D1) w ms C t1 (fun q hq => no q (by have : tcN c + a.length ≤ q := hq; omega)) f1 (StC_k cn (dd_of ti e1)) hp (by omega) (by omega) (by omega) (by show tcN c + a.length + b.length ≤ _; omega) (fun _ _ => rfl) (fun i hi => by
    show C (tcN c + a.length + i) = _
    rw [Nat.add_assoc, hC2 _ (by omega), gd_r])
  have er : R - a.length - x1 - b.length - x2 = R - (a.length + b.length) - (x1 + x2) := by omega
  rw [er] at t2 f2
  refine ⟨D2, ?_, fun q hq => ?_, ?_⟩
  · rw [← Nat.add_assoc]; exact t2
  · rw [e2 q (by show q ≤ tcN c + a.length; omega), ← e1 q hq]
  · rw [← Nat.add_assoc]; exact f2
theorem Sse_seq (h1 : Sst u gl Pc Vm pre x1 m k a) (h2 : Sse u gl Pc Vm pre x2 k n b) (hk : k ≤ m + a.length) : Sse u gl Pc Vm pre (x1 + x2) m n (a ++ b) := by
  intro O H nu R re c w ms C ti no hD cn hp hR1 hR2 hre hd hN hC1 hC2
  have la : (a ++ b).length = a.length + b.length := List.length_append
  rw [la] at hR1 hre hd hN hC2 ⊢
  obtain ⟨D1, t1, e1, f1⟩ := h1 O H nu R c w ms C ti no hD cn hp (by omega) hR2 (by omega) (by omega) hC1 (fun i hi => by rw [hC2 i (by omega), gd_l hi])
  obtain ⟨D2, t2, e2, f2⟩ := h2 O H nu (R - a.length - x1) re (mkc c C (tcN c + a.length) D1) w ms C t1 (fun q hq => no q (by have : tcN c + a.length ≤ q := hq; omega)) f1 (StC_k cn (dd_of ti e1)) hp (by omega) (by omega) (by omega) (by omega) (by show tcN c + a.length + b.length ≤ _; omega) (fun _ _ => rfl) (fun i hi => by
    show C (tcN c + a.length + i) = _
    rw [Nat.add_assoc, hC2 _ (by omega), gd_r])
  have er : R - a.length - x1 - b.length - x2 = R - (a.length + b.length) - (x1 + x2) := by omega
  rw [er] at t2
  refine ⟨D2, ?_, fun q hq => ?_, ?_⟩
  · rw [← Nat.add_assoc]; exact t2
  · rw [e2 q (by show q ≤ tcN c + a.length; omega), ← e1 q hq]
  · rw [← Nat.add_assoc]; exact f2
theorem Sse_i (h : Isc u gl Pc Vm pre x m n ins) (hl : 1 ≤ ins.length) (hn : n ≤ m + ins.length) : Sse u gl Pc Vm pre x m n ins := by
  intro O H nu R re c w ms C ti no hD cn hp hR1 hR2 hre hd hN hC1 hC2
  have hk : ∀ q y', tcD c q = some y' → up1 c ins.length (u, n, sh pre w ms, re) q = some y' := fun q y' e => up1_d ti hl e
  refine ⟨up1 c ins.length (u, n, sh pre w ms, re), TI_s1 ti (no _ (Nat.le_refl _)) hl hN hC1 (fun y ey => ?_) (by omega), fun q hq => up1_o (by omega), up1_e⟩
  rw [hD] at ey
  cases ey
  exact h O nu R re (mkc c C (tcN c + ins.length) (up1 c ins.length (u, n, sh pre w ms, re))) (tcN c) w ms hC2 (Nat.le_refl _) (no _ (Nat.le_refl _)) (no _ (by omega)) (hk _ _ hD) up1_e hre (StC_k cn hk) hp (by omega) hR2 ⟨by omega, by omega, hN⟩
theorem Sst_i (h : Isc u gl Pc Vm pre x m n ins) (hl : 1 ≤ ins.length) (hn : n ≤ m + ins.length) : Sst u gl Pc Vm pre x m n ins := Sse_t (Sse_i h hl hn)
end CWG

/-! The class: segments of code, typed wherever they are laid. -/
section CUR
variable {c c' c1 c2 : Ct} {O O' H H' : Nat → Prop} {u nu nu' pc ln R R' p d rk k op w n m m' : Nat} {r pre ms ms' : List Nat} {x : Int32} {Vm : Nat → Prop} {cs ins a b : List Int32} {gl : Nat × (Nat → Nat → Prop)}
theorem u_shl8 (x : Int32) : uN (x <<< ((8 : Int32) &&& 31)) = uN x * 256 % 4294967296 := by
  show (x.toBitVec <<< (((8 : Int32) &&& 31).toBitVec.smod 32)).toNat = _
  rw [BitVec.shiftLeft_eq', show (((8 : Int32) &&& 31).toBitVec.smod 32).toNat = 8 from by decide, BitVec.toNat_shiftLeft, Nat.shiftLeft_eq]
  rfl
/-- an instruction with its number -/
def em (op : Nat) (x : Int32) : Int32 := nI op ||| (x <<< ((8 : Int32) &&& 31))
theorem em_u (ho : op < 256) : uN (em op x) = op + 256 * (uN x % 16777216) := by
  have e8 := u_shl8 x
  have e : uN (x <<< ((8 : Int32) &&& 31)) = (uN x % 16777216) * 2 ^ 8 := by rw [e8]; omega
  unfold em
  rw [u_orA (k := 8) (a := uN x % 16777216) (by rw [u_n (by omega)]; omega) e, u_n (by omega), e]
  omega
theorem em_lo (ho : op < 256) : em op x &&& 255 = nI op := by
  rw [u_of (em op x &&& 255), u_and]
  refine congrArg nI ((Nat.and_two_pow_sub_one_eq_mod (uN (em op x)) 8).trans ?_)
  rw [em_u ho]
  omega
/-- a number of three bytes, with its sign -/
def Sm3 (x : Int32) : Prop := uN x < 8388608 ∨ 4286578688 ≤ uN x
theorem em_hi (ho : op < 256) (hx : Sm3 x) : em op x >>> ((8 : Int32) &&& 31) = x := by
  have lt := u_lt x
  have e := em_u (x := x) ho
  rw [u_of (em op x >>> ((8 : Int32) &&& 31)), u_of x]
  refine congrArg nI ?_
  rw [← u_of x]
  show ((em op x).toBitVec.sshiftRight' (((8 : Int32) &&& 31).toBitVec.smod 32)).toNat = uN x
  rw [BitVec.sshiftRight_eq', show (((8 : Int32) &&& 31).toBitVec.smod 32).toNat = 8 from by decide]
  rcases hx with h | h
  · rw [BitVec.sshiftRight_eq_of_msb_false (by rw [BitVec.msb_eq_decide]; exact decide_eq_false (by show ¬ 2 ^ 31 ≤ uN (em op x); omega)), BitVec.toNat_ushiftRight, Nat.shiftRight_eq_div_pow]
    show uN (em op x) / 2 ^ 8 = _
    omega
  · rw [BitVec.sshiftRight_eq_of_msb_true (by rw [BitVec.msb_eq_decide]; exact decide_eq_true (by show 2 ^ 31 ≤ uN (em op x); omega)), BitVec.toNat_not, BitVec.toNat_ushiftRight, BitVec.toNat_not, Nat.shiftRight_eq_div_pow]
    show 2 ^ 32 - 1 - (2 ^ 32 - 1 - uN (em op x)) / 2 ^ 8 = uN x
    omega
theorem Sm3_n {k : Nat} (h : k < 8388608) : Sm3 (nI k) := Or.inl (by rw [u_n (by omega)]; exact h)
theorem Sm3_0 : Sm3 0 := Or.inl (by decide)
/-- a shape over the frame's slots -/
abbrev sh (pre : List Nat) (w : Nat) (ms : List Nat) : List Nat := pre ++ (bsl + w) :: ms
theorem sh_bt : ∀ (pre : List Nat) (d : Nat), (∀ e, e ∈ pre → e < bsl) → bt d (sh pre w ms) = w
  | [], d, _ => by
    show (if bsl ≤ bsl + w then bsl + w - bsl else bt ((bsl + w) / 2) ms) = w
    rw [if_pos (Nat.le_add_right _ _)]; omega
  | e :: pre, d, h => by
    show (if bsl ≤ e then e - bsl else bt (e / 2) (sh pre w ms)) = w
    have := h e List.mem_cons_self
    rw [if_neg (by omega)]
    exact sh_bt pre _ (fun i hi => h i (List.mem_cons_of_mem _ hi))
theorem sh_has {y : Nat} : ∀ pre : List Nat, (∀ e, e ∈ pre → e < bsl) → y ∈ ms → HasM y (sh pre w ms)
  | [], _, h => ⟨fun _ => h, fun z => absurd (Nat.le_add_right _ _) z⟩
  | e :: pre, hp, h => ⟨fun z => absurd z (by have := hp e List.mem_cons_self; omega), fun _ => sh_has pre (fun i hi => hp i (List.mem_cons_of_mem _ hi)) h⟩
theorem shAll {P : Nat → Prop} : ∀ pre : List Nat, (∀ e, e ∈ pre → e < bsl) → (∀ i, i ∈ ms → P i) → AllM P (sh pre w ms)
  | [], _, h => ⟨fun _ => h, fun z => absurd (Nat.le_add_right _ _) z⟩
  | e :: pre, hp, h => ⟨fun z => absurd z (by have := hp e List.mem_cons_self; omega), fun _ => shAll pre (fun i hi => hp i (List.mem_cons_of_mem _ hi)) h⟩
theorem sh_mrl {Q : Nat → List Nat → Prop} : ∀ pre : List Nat, (∀ e, e ∈ pre → e < bsl) → (∀ i, i ∈ ms' → Q i ms) → Mrl Q (sh pre w ms') (sh pre w ms)
  | [], _, h => ⟨ms, rfl, fun _ => h, fun z => absurd (Nat.le_add_right _ _) z⟩
  | e :: pre, hp, h => ⟨sh pre w ms, rfl, fun z => absurd z (by have := hp e List.mem_cons_self; omega), fun _ => sh_mrl pre (fun i hi => hp i (List.mem_cons_of_mem _ hi)) h⟩
theorem sh_slb : ∀ pre : List Nat, SlB (sh pre w ms)
  | [] => fun z => absurd (Nat.le_add_right _ _) z
  | e :: pre => fun _ => sh_slb pre
theorem sh_ne : ∀ pre : List Nat, ∃ e s, sh pre w ms = e :: s
  | [] => ⟨_, _, rfl⟩
  | e :: pre => ⟨_, _, rfl⟩
/-- funcs that are told may be called -/
def Unt (O : Nat → Prop) (nu : Nat) (c : Ct) : Prop := ∀ v, 1 ≤ v → v ≤ nu → tcK c v → v < 41 ∧ tcP c v ≤ tcF c v ∧ tcF c v ≤ 1000 ∧ ¬ O (tcE c v) ∧ ∃ rk, rk ≤ RK ∧ tcD c (tcE c v) = some (v, 0, (bsl + tcF c v) :: Vl (tcF c v), rk)
/-- what a segment is laid in: the unit, slots of iters in use, globals, marks wanted -/
def CnC (O : Nat → Prop) (u p : Nat) (gl : Nat × (Nat → Nat → Prop)) (Vm : Nat → Prop) (nu : Nat) (c : Ct) (w : Nat) (ms : List Nat) : Prop := (u ≤ nu ∨ u = 41) ∧ u < 42 ∧ tcF c u ≤ w ∧ (gl.1 ≤ tcF c 0 ∧ ∀ v n, gl.2 v n → 1 ≤ v ∧ v ≤ nu ∧ tcK c v ∧ tcP c v = n) ∧ p ≤ 180 ∧ (∀ i, i ∈ ms → bsl ≤ i → (i - bsl) % 500000 < p) ∧ (∀ i, Vm i → i ∈ ms) ∧ Unt O nu c
/-- the code, so far, and how it goes on -/
abbrev mkc (c : Ct) (C : Nat → Int32) (N : Nat) (D : Nat → Option (Nat × Nat × List Nat × Nat)) : Ct := (C, N, tcE c, tcP c, tcF c, tcK c, D)
theorem Unt_k {C : Nat → Int32} {N : Nat} {D : Nat → Option (Nat × Nat × List Nat × Nat)} (h : Unt O nu c) (hD : ∀ q y, tcD c q = some y → D q = some y) : Unt O nu (mkc c C N D) := by
  intro v h1 h2 k
  obtain ⟨a1, a2, a3, a4, rk, a5, a6⟩ := h v h1 h2 k
  exact ⟨a1, a2, a3, a4, rk, a5, hD _ _ a6⟩
theorem CnC_k {C : Nat → Int32} {N : Nat} {D : Nat → Option (Nat × Nat × List Nat × Nat)} (h : CnC O u p gl Vm nu c w ms) (hD : ∀ q y, tcD c q = some y → D q = some y) : CnC O u p gl Vm nu (mkc c C N D) w ms := ⟨h.1, h.2.1, h.2.2.1, h.2.2.2.1, h.2.2.2.2.1, h.2.2.2.2.2.1, h.2.2.2.2.2.2.1, Unt_k h.2.2.2.2.2.2.2 hD⟩
theorem Unt_o {O' : Nat → Prop} (h : Unt O nu c) (ho : ∀ q y, tcD c q = some y → O' q → O q) : Unt O' nu c := by
  intro v h1 h2 k
  obtain ⟨a1, a2, a3, a4, rk, a5, a6⟩ := h v h1 h2 k
  exact ⟨a1, a2, a3, fun z => a4 (ho _ _ a6 z), rk, a5, a6⟩
/-- one instruction, without jumps: from m values on top to m' -/
def Itc (u p : Nat) (gl : Nat × (Nat → Nat → Prop)) (Vm : Nat → Prop) (m m' : Nat) (ins : List Int32) : Prop := ∀ (O : Nat → Prop) (nu R : Nat) (c : Ct) (pc d : Nat) (pre : List Nat) (w : Nat) (ms : List Nat), (∀ i, i < ins.length → tcC c (pc + i) = ins.getD i 0) → pc + ins.length ≤ tcN c → ¬ O pc → ¬ O (pc + ins.length) → tcD c pc = some (u, d + m, sh pre w ms, R) → tcD c (pc + ins.length) = some (u, d + m', sh pre w ms, R - ins.length) → (∀ e, e ∈ pre → e < bsl) → CnC O u p gl Vm nu c w ms → 1000 + ins.length ≤ R → R ≤ RK → d + m ≤ 100000 ∧ d + m' ≤ 100000 → OKq O (u % 100) nu c pc ins.length R
/-- a segment: it lays n values upon the stack -/
def Sgm (u p : Nat) (gl : Nat × (Nat → Nat → Prop)) (Vm : Nat → Prop) (n : Nat) (cs : List Int32) : Prop := n ≤ cs.length ∧ ∀ (O H : Nat → Prop) (nu R : Nat) (c : Ct) (d : Nat) (pre : List Nat) (w : Nat) (ms : List Nat) (C : Nat → Int32), TI O H nu R c → ¬ O (tcN c) → tcD c (tcN c) = some (u, d, sh pre w ms, R) → (∀ e, e ∈ pre → e < bsl) → CnC O u p gl Vm nu c w ms → 1000 + cs.length ≤ R → R ≤ RK → d + cs.length ≤ 100000 → tcN c + cs.length ≤ 36864 → (∀ i, i < tcN c → C i = tcC c i) → (∀ i, i < cs.length → C (tcN c + i) = cs.getD i 0) → ∃ D, TI O H nu (R - cs.length) (mkc c C (tcN c + cs.length) D) ∧ (∀ q, q ≤ tcN c → D q = tcD c q) ∧ D (tcN c + cs.length) = some (u, d + n, sh pre w ms, R - cs.length)
/-- a segment that makes n values of m -/
def Sg2 (u p : Nat) (gl : Nat × (Nat → Nat → Prop)) (Vm : Nat → Prop) (m n : Nat) (cs : List Int32) : Prop := ∀ (O H : Nat → Prop) (nu R : Nat) (c : Ct) (d : Nat) (pre : List Nat) (w : Nat) (ms : List Nat) (C : Nat → Int32), TI O H nu R c → ¬ O (tcN c) → tcD c (tcN c) = some (u, d + m, sh pre w ms, R) → (∀ e, e ∈ pre → e < bsl) → CnC O u p gl Vm nu c w ms → 1000 + cs.length ≤ R → R ≤ RK → d + m + cs.length ≤ 100000 → tcN c + cs.length ≤ 36864 → (∀ i, i < tcN c → C i = tcC c i) → (∀ i, i < cs.length → C (tcN c + i) = cs.getD i 0) → ∃ D, TI O H nu (R - cs.length) (mkc c C (tcN c + cs.length) D) ∧ (∀ q, q ≤ tcN c → D q = tcD c q) ∧ D (tcN c + cs.length) = some (u, d + n, sh pre w ms, R - cs.length)
theorem gd_l {i : Nat} (h : i < a.length) : (a ++ b).getD i 0 = a.getD i 0 := by
  rw [List.getD_eq_getElem?_getD, List.getD_eq_getElem?_getD, List.getElem?_append_left h]
theorem gd_r (i : Nat) : (a ++ b).getD (a.length + i) 0 = b.getD i 0 := by
  rw [List.getD_eq_getElem?_getD, List.getD_eq_getElem?_getD, List.getElem?_append_right (Nat.le_add_right _ _), Nat.add_sub_cancel_left]
/-- entries stay, since none lies beyond -/
theorem dd_of {D : Nat → Option (Nat × Nat × List Nat × Nat)} (t : TI O H nu R c) (e : ∀ q, q ≤ tcN c → D q = tcD c q) : ∀ q y, tcD c q = some y → D q = some y := by
  intro q y h
  rcases Nat.lt_or_ge (tcN c) q with z | z
  · rw [t.2.2.2.1 q z] at h; cases h
  · rw [e q z]; exact h
theorem Sgm_nil (u p : Nat) (gl : Nat × (Nat → Nat → Prop)) (Vm : Nat → Prop) : Sgm u p gl Vm 0 [] := by
  refine ⟨Nat.le_refl _, fun O H nu R c d pre w ms C t no hD hp cn hR1 hR2 hd hN hC1 hC2 => ⟨tcD c, ?_, fun _ _ => rfl, hD⟩⟩
  exact TI_tb (y := tcD c (tcN c)) (On := False) (nu' := nu) t hC1 rfl (fun u => Or.inl (CtG_r O u nu c)) (Nat.le_refl _) (Or.inr rfl) (fun q => by
    show tcD c q = _
    by_cases z : q = tcN c
    · rw [if_pos z, z]
    · rw [if_neg z]) (fun q => ⟨Or.inl, fun z => z.elim id (fun w => w.2.elim)⟩) (fun z => z.elim) (Nat.le_refl _)
theorem Sgm_seq {n1 n2 : Nat} (h1 : Sgm u p gl Vm n1 a) (h2 : Sgm u p gl Vm n2 b) : Sgm u p gl Vm (n1 + n2) (a ++ b) := by
  obtain ⟨l1, h1⟩ := h1
  obtain ⟨l2, h2⟩ := h2
  refine ⟨by rw [List.length_append]; omega, fun O H nu R c d pre w ms C t no hD hp cn hR1 hR2 hd hN hC1 hC2 => ?_⟩
  rw [List.length_append] at hR1 hd hN hC2 ⊢
  obtain ⟨D1, t1, e1, f1⟩ := h1 O H nu R c d pre w ms C t no hD hp cn (by omega) hR2 (by omega) (by omega) hC1 (fun i hi => by rw [hC2 i (by omega), gd_l hi])
  have dd := dd_of t e1
  have no1 : ¬ O (tcN c + a.length) := fun o => by
    by_cases z : a.length = 0
    · rw [z] at o; exact no o
    · obtain ⟨y, ey⟩ := (t.2.1 _ o).2
      rw [t.2.2.2.1 _ (by omega)] at ey
      cases ey
  obtain ⟨D2, t2, e2, f2⟩ := h2 O H nu (R - a.length) (mkc c C (tcN c + a.length) D1) (d + n1) pre w ms C t1 no1 f1 hp (CnC_k cn dd) (by omega) (by omega) (by omega) (by show tcN c + a.length + b.length ≤ _; omega) (fun _ _ => rfl) (fun i hi => by
    show C (tcN c + a.length + i) = _
    rw [Nat.add_assoc, hC2 _ (by omega), gd_r])
  refine ⟨D2, ?_, fun q hq => ?_, ?_⟩
  · rw [← Nat.sub_sub, ← Nat.add_assoc]; exact t2
  · rw [e2 q (by show q ≤ tcN c + a.length; omega), ← e1 q hq]
  · rw [← Nat.sub_sub, ← Nat.add_assoc, ← Nat.add_assoc]; exact f2
theorem Sgm_ap (h : Sgm u p gl Vm m cs) (hl : 1 ≤ ins.length) (hm : m' ≤ cs.length + ins.length) (it : Itc u p gl Vm m m' ins) : Sgm u p gl Vm m' (cs ++ ins) := by
  obtain ⟨l1, h1⟩ := h
  refine ⟨by rw [List.length_append]; omega, fun O H nu R c d pre w ms C t no hD hp cn hR1 hR2 hd hN hC1 hC2 => ?_⟩
  rw [List.length_append] at hR1 hd hN hC2 ⊢
  obtain ⟨D1, t1, e1, f1⟩ := h1 O H nu R c d pre w ms C t no hD hp cn (by omega) hR2 (by omega) (by omega) hC1 (fun i hi => by rw [hC2 i (by omega), gd_l hi])
  have dd := dd_of t e1
  have noO : ∀ q, tcN c < q → ¬ O q := fun q hq o => by
    obtain ⟨y, ey⟩ := (t.2.1 _ o).2
    rw [t.2.2.2.1 _ hq] at ey
    cases ey
  have no1 : ¬ O (tcN c + cs.length) := fun o => by
    by_cases z : cs.length = 0
    · rw [z] at o; exact no o
    · exact noO _ (by omega) o
  let D2 : Nat → Option (Nat × Nat × List Nat × Nat) := fun q => if q = tcN c + cs.length + ins.length then some (u, d + m', sh pre w ms, R - cs.length - ins.length) else D1 q
  have d2 : ∀ q, ¬ q = tcN c + cs.length + ins.length → D2 q = D1 q := fun q hq => if_neg hq
  have d2e : D2 (tcN c + cs.length + ins.length) = some (u, d + m', sh pre w ms, R - cs.length - ins.length) := if_pos rfl
  have nb : D1 (tcN c + cs.length + ins.length) = none := t1.2.2.2.1 _ (by show tcN c + cs.length < _; omega)
  have dd2 : ∀ q y, D1 q = some y → D2 q = some y := fun q y e => by
    rw [d2 q (fun z => by rw [z, nb] at e; cases e)]; exact e
  have t2 : TI O H nu (R - cs.length - ins.length) (mkc c C (tcN c + cs.length + ins.length) D2) := by
    refine TI_em (ln := ins.length) (y := some (u, d + m', sh pre w ms, R - cs.length - ins.length)) (Hn := False) (On := False) t1 hl (by show tcN c + cs.length + ins.length ≤ _; omega) (fun _ _ => rfl) rfl ⟨⟨rfl, rfl⟩, rfl, rfl⟩ (fun q => rfl) (fun q => ⟨Or.inl, fun z => z.elim id (fun w => w.2.elim)⟩) (fun z => z.elim) (fun q => ⟨Or.inl, fun z => z.elim id (fun w => w.2.elim)⟩) (fun o => no1 o) (fun _ y ey => ?_) (Nat.sub_le _ _)
    have ey' : D1 (tcN c + cs.length) = some y := ey
    rw [f1] at ey'
    cases ey'
    exact it O nu (R - cs.length) (mkc c C (tcN c + cs.length + ins.length) D2) (tcN c + cs.length) d pre w ms (fun i hi => by
      show C (tcN c + cs.length + i) = _
      rw [Nat.add_assoc, hC2 _ (by omega), gd_r]) (Nat.le_refl _) no1 (noO _ (by omega)) (dd2 _ _ f1) d2e hp (CnC_k cn (fun q y e => dd2 q y (dd q y e))) (by omega) (by omega) ⟨by omega, by omega⟩
  refine ⟨D2, ?_, fun q hq => ?_, ?_⟩
  · rw [← Nat.sub_sub, ← Nat.add_assoc]; exact t2
  · rw [d2 q (by omega), ← e1 q hq]
  · rw [← Nat.sub_sub, ← Nat.add_assoc]; exact d2e
theorem Sgm_1 (hl : 1 ≤ ins.length) (hm : m' ≤ ins.length) (it : Itc u p gl Vm 0 m' ins) : Sgm u p gl Vm m' ins := Sgm_ap (Sgm_nil u p gl Vm) hl (by rw [List.length_nil]; omega) it
end CUR

/-! What a method gives that makes or throws: (0 or its exception's number, its answer), the state, cells and slots made. -/
abbrev RS := (Nat × Int32) × CS × (Nat × Nat)
def zk (W : List Nat) (z u : Nat → Nat) : Prop := ∀ q : Nat, q ∉ W → u q = z q
theorem zk_rf (W : List Nat) (z : Nat → Nat) : zk W z z := fun _ _ => rfl
theorem zk_nil {z u : Nat → Nat} (h : zk [] z u) : u = z := funext fun q => h q List.not_mem_nil
theorem zk_tr {W1 W : List Nat} {z0 z u : Nat → Nat} (h0 : zk W z0 z) (h1 : zk W1 z u) (hs : ∀ x ∈ W1, x ∈ W) : zk W z0 u := fun q hq => (h1 q (fun h => hq (hs q h))).trans (h0 q hq)
def exN (n : Nat) : String := match n with
  | 1 => "java/lang/IllegalArgumentException"
  | 2 => "java/lang/IllegalStateException"
  | 3 => "java/lang/IndexOutOfBoundsException"
  | _ => "java/lang/UnsupportedOperationException"
/-- what one call has made is added to what the rest makes -/
def adR (c : Nat × Nat) (y : Option RS) : Option RS := match y with
  | none => none
  | some q => some (q.1, q.2.1, (c.1 + q.2.2.1, c.2 + q.2.2.2))
/-- a call that may throw: what it throws goes on -/
def ox (x : Option RS) (f : RS → Option RS) : Option RS := match x with
  | none => none
  | some q => if q.1.1 = 0 then adR q.2.2 (f q) else some q
theorem adR_ex {c : Nat × Nat} {y : Option RS} {r : RS} (h : adR c y = some r) : ∃ q : RS, y = some q ∧ r = (q.1, q.2.1, (c.1 + q.2.2.1, c.2 + q.2.2.2)) := by
  cases y with
  | none => cases h
  | some q => exact ⟨q, rfl, (Option.some.inj h).symm⟩
theorem ox_ex {x : Option RS} {f : RS → Option RS} {r : RS} (h : ox x f = some r) : ∃ q : RS, x = some q ∧ (q.2.2.1 ≤ r.2.2.1 ∧ q.2.2.2 ≤ r.2.2.2) ∧ ((q.1.1 = 0 ∧ ∃ y : RS, f q = some y ∧ r = (y.1, y.2.1, (q.2.2.1 + y.2.2.1, q.2.2.2 + y.2.2.2))) ∨ (¬ q.1.1 = 0 ∧ r = q)) := by
  cases x with
  | none => cases h
  | some q =>
    refine ⟨q, rfl, ?_⟩
    unfold ox at h
    by_cases h0 : q.1.1 = 0
    · simp only [if_pos h0] at h
      obtain ⟨y, hy, rfl⟩ := adR_ex h
      exact ⟨⟨Nat.le_add_right _ _, Nat.le_add_right _ _⟩, Or.inl ⟨h0, y, hy, rfl⟩⟩
    · simp only [if_neg h0] at h
      obtain rfl := Option.some.inj h
      exact ⟨⟨Nat.le_refl _, Nat.le_refl _⟩, Or.inr ⟨h0, rfl⟩⟩
/-- a call that makes and throws nothing -/
def op (x : Option (Int32 × CS)) (f : Int32 × CS → Option RS) : Option RS := match x with
  | none => none
  | some q => f q
theorem op_ex {x : Option (Int32 × CS)} {f : Int32 × CS → Option RS} {r : RS} (h : op x f = some r) : ∃ q : Int32 × CS, x = some q ∧ f q = some r := by
  cases x with
  | none => cases h
  | some q => exact ⟨q, rfl, h⟩
def of (d : Nat) (f : Nat → Option RS) : Option RS := match d with
  | 0 => none
  | e + 1 => f e
theorem of_ex {d : Nat} {f : Nat → Option RS} {r : RS} (h : of d f = some r) : ∃ e : Nat, d = e + 1 ∧ f e = some r := by
  cases d with
  | zero => cases h
  | succ e => exact ⟨e, rfl, h⟩
def oP (x : Option Bool) (f : Bool → Option RS) : Option RS := match x with
  | none => none
  | some b => f b
theorem oP_ex {x : Option Bool} {f : Bool → Option RS} {r : RS} (h : oP x f = some r) : ∃ b : Bool, x = some b ∧ f b = some r := by
  cases x with
  | none => cases h
  | some b => exact ⟨b, rfl, h⟩
def oN (x : Option Bool) (u v : Option RS) : Option RS := match x with
  | none => u
  | some _ => v
theorem oN_none {x : Option Bool} {u v : Option RS} (h : x = none) : oN x u v = u := by rw [h]; rfl
theorem oN_some {x : Option Bool} {b : Bool} {u v : Option RS} (h : x = some b) : oN x u v = v := by rw [h]; rfl
theorem kr_ite1 {P : Prop} {_ : Decidable P} {x : Option RS} {r : RS} (h : (if P then x else none) = some r) : P ∧ x = some r := by
  by_cases q : P
  · rw [if_pos q] at h; exact ⟨q, h⟩
  · rw [if_neg q] at h; cases h
theorem kr_ite0 {P : Prop} {_ : Decidable P} {x : Option RS} {r : RS} (h : (if P then none else x) = some r) : ¬ P ∧ x = some r := by
  by_cases q : P
  · rw [if_pos q] at h; cases h
  · rw [if_neg q] at h; exact ⟨q, h⟩
abbrev xX (dC : Nat → ClassId) (dI : Nat → Nat → Nat) (cy : Nat → ClassId) (a : Nat → Nat) (A : Nat → Prop) (W : List Nat) (z : Nat → Nat) (r : RS) : String → State → State → Prop := vx_X (fun u : Nat → Nat => ¬ r.1.1 = 0 ∧ zk W z u) (fun E u t => E = exN r.1.1 ∧ nOut (dC, dI) cy A (vC cy a u r.2.1) t) A
abbrev xI (dC : Nat → ClassId) (dI : Nat → Nat → Nat) (cy : Nat → ClassId) (a : Nat → Nat) (A : Nat → Prop) (W : List Nat) (z : Nat → Nat) (r : RS) : Array Value → State → Outcome → State → Prop := va_Qi (fun (x : Int32) (u : Nat → Nat) => (r.1.1 = 0 ∧ x = r.1.2) ∧ zk W z u) (fun u t => nOut (dC, dI) cy A (vC cy a u r.2.1) t) A
abbrev xV (dC : Nat → ClassId) (dI : Nat → Nat → Nat) (cy : Nat → ClassId) (a : Nat → Nat) (A : Nat → Prop) (W : List Nat) (z : Nat → Nat) (r : RS) : Array Value → State → Outcome → State → Prop := va_Qv (fun (u : Nat → Nat) => r.1.1 = 0 ∧ zk W z u) (fun u t => nOut (dC, dI) cy A (vC cy a u r.2.1) t) A
def bX (p : Program) (l : Launch) (e : Env) (R : Room) (s : State) (m : MethodId) (args : Array Value) (below : List Frame) (meth : Method) (c : Code) (dC : Nat → ClassId) (dI : Nat → Nat → Nat) (cy : Nat → ClassId) (a : Nat → Nat) (A : Nat → Prop) (Qr : RS → State → Prop) (Wl : List Nat) (z0 : Nat → Nat) (mc ms nL : Nat) (X : LV → CS → Option RS) (LL : (Nat → Nat) → LV → List (Nat × Value)) (pc : Nat) (ST : (Nat → Nat) → LV → List Value) : Prop := ∀ (z : Nat → Nat) (cells slots : Nat) (L : LV) (σ : CS) (r : RS), X L σ = some r → zk Wl z0 z → cells + r.2.2.1 = mc → slots + r.2.2.2 = ms → ∀ (H : Heap) (locs : List Loc) (ls : Array Slot), va_P (dC, dI) nCl (vC cy a z σ) H → va_D A (vC cy a z σ) → va_S A s.heap H locs → lv_has ls nL (LL z L) → W p l e R s m args below meth c H locs cells slots (Qr r) (F0 m pc ls (ST z L))
section NBF
variable {p : Program} {l : Launch} {e : Env} {R : Room} {s : State} {m : MethodId} {args : Array Value} {below : List Frame} {meth : Method} {c : Code} {H : Heap} {locs : List Loc} {cells slots mc ms : Nat} {Q : State → Prop}
variable {cc : ByteArray} {pc : Nat} {ls : Array Slot} {rest : List Value} {dC : Nat → ClassId} {dI : Nat → Nat → Nat} {cy : Nat → ClassId} {a z z0 k : Nat → Nat} {σ : CS} {A : Nat → Prop} {W1 Wl : List Nat} {Qc : Array Value → State → Outcome → State → Prop} {XC : String → State → State → Prop}
theorem kx_pre {av : List Value} (hK : va_K (dC, dI) nCl (nTy cy) s) (hG : nG s) (hE : nE k A s s.heap) (hT : nT A s s.heap) (hA : ∀ q : Nat, s.heap.size ≤ q → A q) (hP : va_P (dC, dI) nCl (vC cy a z σ) H) (hD : va_D A (vC cy a z σ)) (hS : va_S A s.heap H locs) : ∀ U : State, U.heap = H → s.WarmedH U.vm → va_Pc av (nInF (dC, dI) cy k H.size (vC cy a z σ)) av.toArray U := fun U hU hW => ⟨rfl, ⟨⟨by rw [hU], by rw [hU]; exact hP, va_K.moved hW.alike hK, hD.weaken (fun _ _ _ _ => trivial), hG.warm hW⟩, nE.to hE hS hW hU (kb_free hD hS hA)⟩, nT.to hT hS hW hU (kb_free hD hS hA)⟩
theorem xr_i {v : Int32} (hexec : p.tables.exec = Jvm.exec) (hb : c.code = cc) (hr : meth.sig.returnType = some .int) (hK : va_K (dC, dI) nCl (nTy cy) s) (hzk : zk Wl z0 z) (hP : va_P (dC, dI) nCl (vC cy a z σ) H) (hD : va_D A (vC cy a z σ)) (hS : va_S A s.heap H locs) (hlocks : meth.locks = false) (hdg : decode cc pc = .ok (.ireturn, 1)) : W p l e R s m args below meth c H locs cells slots (vx_MQ below (xI dC dI cy a A Wl z0 ((0, v), σ, (0, 0))) XC args s cells slots A) (F0 m pc ls [.int v]) :=
  vx_ret (W.iret (Qc := xI dC dI cy a A Wl z0 ((0, v), σ, (0, 0))) (v := v) hexec hb hr (fun t ht hW => ⟨⟨v, z, rfl, ⟨⟨rfl, rfl⟩, hzk⟩, by rw [ht]; exact hP, va_K.moved hW.alike hK, hD⟩, hS.F ht⟩) hS.2.2 hdg hlocks)
theorem xr_z {v : Int32} (hv : v = 0 ∨ v = 1) (hexec : p.tables.exec = Jvm.exec) (hb : c.code = cc) (hr : meth.sig.returnType = some .boolean) (hK : va_K (dC, dI) nCl (nTy cy) s) (hzk : zk Wl z0 z) (hP : va_P (dC, dI) nCl (vC cy a z σ) H) (hD : va_D A (vC cy a z σ)) (hS : va_S A s.heap H locs) (hlocks : meth.locks = false) (hdg : decode cc pc = .ok (.ireturn, 1)) : W p l e R s m args below meth c H locs cells slots (vx_MQ below (xI dC dI cy a A Wl z0 ((0, v), σ, (0, 0))) XC args s cells slots A) (F0 m pc ls [.int v]) :=
  vx_ret (W.zret (Qc := xI dC dI cy a A Wl z0 ((0, v), σ, (0, 0))) (v := v) hexec hb hr (nb_bz hv) (fun t ht hW => ⟨⟨v, z, rfl, ⟨⟨rfl, rfl⟩, hzk⟩, by rw [ht]; exact hP, va_K.moved hW.alike hK, hD⟩, hS.F ht⟩) hS.2.2 hdg hlocks)
theorem xr_v (hexec : p.tables.exec = Jvm.exec) (hb : c.code = cc) (hr : meth.sig.returnType = none) (hK : va_K (dC, dI) nCl (nTy cy) s) (hzk : zk Wl z0 z) (hP : va_P (dC, dI) nCl (vC cy a z σ) H) (hD : va_D A (vC cy a z σ)) (hS : va_S A s.heap H locs) (hlocks : meth.locks = false) (hdg : decode cc pc = .ok (.return_, 1)) : W p l e R s m args below meth c H locs cells slots (vx_MQ below (xV dC dI cy a A Wl z0 ((0, 0), σ, (0, 0))) XC args s cells slots A) (F0 m pc ls []) :=
  vx_ret (W.vret (Qc := xV dC dI cy a A Wl z0 ((0, 0), σ, (0, 0))) hexec hb hr (fun t ht hW => ⟨⟨z, rfl, ⟨rfl, hzk⟩, by rw [ht]; exact hP, va_K.moved hW.alike hK, hD⟩, hS.F ht⟩) hS.2.2 hdg hlocks)
theorem kx_i {q r : RS} {av : Array Value} {st : List Value} (hr : vx_Run p l e R s m args below meth c H locs cells slots q.2.2.1 q.2.2.2 (F0 m pc ls st) rest (xI dC dI cy a (va_A (vC cy a z σ) H.size) W1 z q av) (xX dC dI cy a (va_A (vC cy a z σ) H.size) W1 z q) (va_A (vC cy a z σ) H.size)) (hK : va_K (dC, dI) nCl (nTy cy) s) (hA : ∀ q : Nat, s.heap.size ≤ q → A q) (hzk : zk Wl z0 z) (hP : va_P (dC, dI) nCl (vC cy a z σ) H) (hD : va_D A (vC cy a z σ)) (hS : va_S A s.heap H locs) (hsub : ∀ x ∈ W1, x ∈ Wl) (hno : ∀ x ∈ c.exceptionTable.toList, False) (hlocks : meth.locks = false)
    (hh : (q.1.1 = 0 ∧ ∀ (u : Nat → Nat) (H1 : Heap) (locs1 : List Loc), zk W1 z u → zk Wl z0 u → va_P (dC, dI) nCl (vC cy a u q.2.1) H1 → va_D A (vC cy a u q.2.1) → va_S A s.heap H1 locs1 → W p l e R s m args below meth c H1 locs1 (cells + q.2.2.1) (slots + q.2.2.2) (vx_MQ below Qc (xX dC dI cy a A Wl z0 r) args s mc ms A) (F0 m (pc + 3) ls (.int q.1.2 :: rest))) ∨ (¬ q.1.1 = 0 ∧ r = q ∧ cells + q.2.2.1 = mc ∧ slots + q.2.2.2 = ms)) : W p l e R s m args below meth c H locs cells slots (vx_MQ below Qc (xX dC dI cy a A Wl z0 r) args s mc ms A) (F0 m pc ls st) := by
  have hFc := kb_free hD hS hA
  refine vx_calli hr hS (fun q' _ h => hFc q' h) hFc (fun q' _ h => hFc q' h) (fun E ce q9 u t H1 locs1 ht hvm hp hB hz1 hk1 hS1 hce hcv hcl => ?_) (fun x u t H1 locs1 ht hvm hw hB hz1 hk1 hS1 => ?_)
  · obtain ⟨hne, hz⟩ := hp
    obtain ⟨hE, hP1, hK1, hD1⟩ := hB
    subst hE
    rcases hh with ⟨h0, _⟩ | ⟨_, hq, hc, hs⟩
    · exact absurd h0 hne
    · subst hq
      rw [ht] at hP1
      obtain ⟨hP2, hD2⟩ := kb_join hP hD hk1 hFc hP1 hD1
      exact vx_out (fun x h => (hno x h).elim) hlocks hce hcv hcl (fun t' ht' hv' => ⟨u, ⟨hne, zk_tr hzk hz hsub⟩, ⟨rfl, by rw [ht']; exact hP2, va_K.moved hv' hK, hD2⟩, hS1.F ht'⟩) hS1.2.2 (Nat.le_of_eq hc) (Nat.le_of_eq hs)
  · obtain ⟨⟨h0, hx⟩, hz⟩ := hw
    subst hx
    obtain ⟨hP1, hK1, hD1⟩ := hB
    rcases hh with ⟨_, kk⟩ | ⟨hne, _⟩
    · rw [ht] at hP1
      obtain ⟨hP2, hD2⟩ := kb_join hP hD hk1 hFc hP1 hD1
      exact kk u H1 locs1 hz (zk_tr hzk hz hsub) hP2 hD2 hS1
    · exact absurd h0 hne
theorem kx_v {q r : RS} {av : Array Value} {st : List Value} (hr : vx_Run p l e R s m args below meth c H locs cells slots q.2.2.1 q.2.2.2 (F0 m pc ls st) rest (xV dC dI cy a (va_A (vC cy a z σ) H.size) W1 z q av) (xX dC dI cy a (va_A (vC cy a z σ) H.size) W1 z q) (va_A (vC cy a z σ) H.size)) (hK : va_K (dC, dI) nCl (nTy cy) s) (hA : ∀ q : Nat, s.heap.size ≤ q → A q) (hzk : zk Wl z0 z) (hP : va_P (dC, dI) nCl (vC cy a z σ) H) (hD : va_D A (vC cy a z σ)) (hS : va_S A s.heap H locs) (hsub : ∀ x ∈ W1, x ∈ Wl) (hno : ∀ x ∈ c.exceptionTable.toList, False) (hlocks : meth.locks = false)
    (hh : (q.1.1 = 0 ∧ ∀ (u : Nat → Nat) (H1 : Heap) (locs1 : List Loc), zk W1 z u → zk Wl z0 u → va_P (dC, dI) nCl (vC cy a u q.2.1) H1 → va_D A (vC cy a u q.2.1) → va_S A s.heap H1 locs1 → W p l e R s m args below meth c H1 locs1 (cells + q.2.2.1) (slots + q.2.2.2) (vx_MQ below Qc (xX dC dI cy a A Wl z0 r) args s mc ms A) (F0 m (pc + 3) ls rest)) ∨ (¬ q.1.1 = 0 ∧ r = q ∧ cells + q.2.2.1 = mc ∧ slots + q.2.2.2 = ms)) : W p l e R s m args below meth c H locs cells slots (vx_MQ below Qc (xX dC dI cy a A Wl z0 r) args s mc ms A) (F0 m pc ls st) := by
  have hFc := kb_free hD hS hA
  refine vx_callv hr hS (fun q' _ h => hFc q' h) hFc (fun q' _ h => hFc q' h) (fun E ce q9 u t H1 locs1 ht hvm hp hB hz1 hk1 hS1 hce hcv hcl => ?_) (fun u t H1 locs1 ht hvm hw hB hz1 hk1 hS1 => ?_)
  · obtain ⟨hne, hz⟩ := hp
    obtain ⟨hE, hP1, hK1, hD1⟩ := hB
    subst hE
    rcases hh with ⟨h0, _⟩ | ⟨_, hq, hc, hs⟩
    · exact absurd h0 hne
    · subst hq
      rw [ht] at hP1
      obtain ⟨hP2, hD2⟩ := kb_join hP hD hk1 hFc hP1 hD1
      exact vx_out (fun x h => (hno x h).elim) hlocks hce hcv hcl (fun t' ht' hv' => ⟨u, ⟨hne, zk_tr hzk hz hsub⟩, ⟨rfl, by rw [ht']; exact hP2, va_K.moved hv' hK, hD2⟩, hS1.F ht'⟩) hS1.2.2 (Nat.le_of_eq hc) (Nat.le_of_eq hs)
  · obtain ⟨h0, hz⟩ := hw
    obtain ⟨hP1, hK1, hD1⟩ := hB
    rcases hh with ⟨_, kk⟩ | ⟨hne, _⟩
    · rw [ht] at hP1
      obtain ⟨hP2, hD2⟩ := kb_join hP hD hk1 hFc hP1 hD1
      exact kk u H1 locs1 hz (zk_tr hzk hz hsub) hP2 hD2 hS1
    · exact absurd h0 hne
theorem xt_x {n : Nat} (hn : ¬ n = 0) (hK : va_K (dC, dI) nCl (nTy cy) s) (hzk : zk Wl z0 z) (hP : va_P (dC, dI) nCl (vC cy a z σ) H) (hD : va_D A (vC cy a z σ)) (hS : va_S A s.heap H locs) : ∀ t : State, s.vm.Alike t.vm → H.size ≤ t.heap.size → (∀ q : Nat, q < H.size → t.heap[q]? = H[q]?) → xX dC dI cy a A Wl z0 ((n, 0), σ, (1, 6)) (exN n) s t := fun t hv hz hk => ⟨z, ⟨hn, hzk⟩, ⟨rfl, hP.kept (fun j q hq => hk q.1 ((hP j q hq).lt)), va_K.moved hv hK, hD⟩, Nat.le_trans hS.1 hz, fun q hq hn => (hk q (Nat.lt_of_lt_of_le hq hS.1)).trans (hS.2.1 q hq hn)⟩
end NBF

/-! A call within a try: what it throws is caught. -/
def oh (x : Option RS) (f g : RS → Option RS) : Option RS := match x with
  | none => none
  | some q => if q.1.1 = 0 then adR q.2.2 (f q) else if q.1.1 = 1 then adR q.2.2 (g q) else none
theorem oh_ex {x : Option RS} {f g : RS → Option RS} {r : RS} (h : oh x f g = some r) : ∃ q : RS, x = some q ∧ (q.2.2.1 ≤ r.2.2.1 ∧ q.2.2.2 ≤ r.2.2.2) ∧ ((q.1.1 = 0 ∧ ∃ y : RS, f q = some y ∧ r = (y.1, y.2.1, (q.2.2.1 + y.2.2.1, q.2.2.2 + y.2.2.2))) ∨ (q.1.1 = 1 ∧ ∃ y : RS, g q = some y ∧ r = (y.1, y.2.1, (q.2.2.1 + y.2.2.1, q.2.2.2 + y.2.2.2)))) := by
  cases x with
  | none => cases h
  | some q =>
    refine ⟨q, rfl, ?_⟩
    unfold oh at h
    by_cases h0 : q.1.1 = 0
    · simp only [if_pos h0] at h
      obtain ⟨y, hy, rfl⟩ := adR_ex h
      exact ⟨⟨Nat.le_add_right _ _, Nat.le_add_right _ _⟩, Or.inl ⟨h0, y, hy, rfl⟩⟩
    · by_cases h1 : q.1.1 = 1
      · simp only [if_neg h0, if_pos h1] at h
        obtain ⟨y, hy, rfl⟩ := adR_ex h
        exact ⟨⟨Nat.le_add_right _ _, Nat.le_add_right _ _⟩, Or.inr ⟨h1, y, hy, rfl⟩⟩
      · simp only [if_neg h0, if_neg h1] at h
        cases h
section NBT
variable {p : Program} {l : Launch} {e : Env} {R : Room} {s : State} {m : MethodId} {args : Array Value} {below : List Frame} {meth : Method} {c : Code} {H : Heap} {locs : List Loc} {cells slots mc ms : Nat} {Q : State → Prop}
variable {cc : ByteArray} {pc : Nat} {ls : Array Slot} {rest : List Value} {dC : Nat → ClassId} {dI : Nat → Nat → Nat} {cy : Nat → ClassId} {a z z0 k : Nat → Nat} {σ : CS} {A : Nat → Prop} {W1 Wl : List Nat} {Qc : Array Value → State → Outcome → State → Prop}
theorem kt_i {q : RS} {av : Array Value} {st : List Value} (hr : vx_Run p l e R s m args below meth c H locs cells slots q.2.2.1 q.2.2.2 (F0 m pc ls st) rest (xI dC dI cy a (va_A (vC cy a z σ) H.size) W1 z q av) (xX dC dI cy a (va_A (vC cy a z σ) H.size) W1 z q) (va_A (vC cy a z σ) H.size)) (hA : ∀ q : Nat, s.heap.size ≤ q → A q) (hP : va_P (dC, dI) nCl (vC cy a z σ) H) (hD : va_D A (vC cy a z σ)) (hS : va_S A s.heap H locs)
    (kk : q.1.1 = 0 → ∀ (u : Nat → Nat) (H1 : Heap) (locs1 : List Loc), zk W1 z u → va_P (dC, dI) nCl (vC cy a u q.2.1) H1 → va_D A (vC cy a u q.2.1) → va_S A s.heap H1 locs1 → W p l e R s m args below meth c H1 locs1 (cells + q.2.2.1) (slots + q.2.2.2) Q (F0 m (pc + 3) ls (.int q.1.2 :: rest)))
    (kx : ¬ q.1.1 = 0 → ∀ (u : Nat → Nat) (H1 : Heap) (locs1 : List Loc) (q9 : Addr) (ce : Cell), zk W1 z u → va_P (dC, dI) nCl (vC cy a u q.2.1) H1 → va_D A (vC cy a u q.2.1) → va_S A s.heap H1 locs1 → H1[q9]? = some ce → ce.vm = .none → s.vm.findClass (exN q.1.1) = some ce.cls → vx_W p l e R s m args below meth c H1 locs1 (cells + q.2.2.1) (slots + q.2.2.2) Q (F0 m pc ls rest) q9) : W p l e R s m args below meth c H locs cells slots Q (F0 m pc ls st) := by
  have hFc := kb_free hD hS hA
  refine vx_calli hr hS (fun q' _ h => hFc q' h) hFc (fun q' _ h => hFc q' h) (fun E ce q9 u t H1 locs1 ht hvm hp hB hz1 hk1 hS1 hce hcv hcl => ?_) (fun x u t H1 locs1 ht hvm hw hB hz1 hk1 hS1 => ?_)
  · obtain ⟨hne, hz⟩ := hp
    obtain ⟨hE, hP1, hK1, hD1⟩ := hB
    subst hE
    rw [ht] at hP1
    obtain ⟨hP2, hD2⟩ := kb_join hP hD hk1 hFc hP1 hD1
    exact kx hne u H1 locs1 q9 ce hz hP2 hD2 hS1 hce hcv hcl
  · obtain ⟨⟨h0, hx⟩, hz⟩ := hw
    subst hx
    obtain ⟨hP1, hK1, hD1⟩ := hB
    rw [ht] at hP1
    obtain ⟨hP2, hD2⟩ := kb_join hP hD hk1 hFc hP1 hD1
    exact kk h0 u H1 locs1 hz hP2 hD2 hS1
theorem kt_v {q : RS} {av : Array Value} {st : List Value} (hr : vx_Run p l e R s m args below meth c H locs cells slots q.2.2.1 q.2.2.2 (F0 m pc ls st) rest (xV dC dI cy a (va_A (vC cy a z σ) H.size) W1 z q av) (xX dC dI cy a (va_A (vC cy a z σ) H.size) W1 z q) (va_A (vC cy a z σ) H.size)) (hA : ∀ q : Nat, s.heap.size ≤ q → A q) (hP : va_P (dC, dI) nCl (vC cy a z σ) H) (hD : va_D A (vC cy a z σ)) (hS : va_S A s.heap H locs)
    (kk : q.1.1 = 0 → ∀ (u : Nat → Nat) (H1 : Heap) (locs1 : List Loc), zk W1 z u → va_P (dC, dI) nCl (vC cy a u q.2.1) H1 → va_D A (vC cy a u q.2.1) → va_S A s.heap H1 locs1 → W p l e R s m args below meth c H1 locs1 (cells + q.2.2.1) (slots + q.2.2.2) Q (F0 m (pc + 3) ls rest))
    (kx : ¬ q.1.1 = 0 → ∀ (u : Nat → Nat) (H1 : Heap) (locs1 : List Loc) (q9 : Addr) (ce : Cell), zk W1 z u → va_P (dC, dI) nCl (vC cy a u q.2.1) H1 → va_D A (vC cy a u q.2.1) → va_S A s.heap H1 locs1 → H1[q9]? = some ce → ce.vm = .none → s.vm.findClass (exN q.1.1) = some ce.cls → vx_W p l e R s m args below meth c H1 locs1 (cells + q.2.2.1) (slots + q.2.2.2) Q (F0 m pc ls rest) q9) : W p l e R s m args below meth c H locs cells slots Q (F0 m pc ls st) := by
  have hFc := kb_free hD hS hA
  refine vx_callv hr hS (fun q' _ h => hFc q' h) hFc (fun q' _ h => hFc q' h) (fun E ce q9 u t H1 locs1 ht hvm hp hB hz1 hk1 hS1 hce hcv hcl => ?_) (fun u t H1 locs1 ht hvm hw hB hz1 hk1 hS1 => ?_)
  · obtain ⟨hne, hz⟩ := hp
    obtain ⟨hE, hP1, hK1, hD1⟩ := hB
    subst hE
    rw [ht] at hP1
    obtain ⟨hP2, hD2⟩ := kb_join hP hD hk1 hFc hP1 hD1
    exact kx hne u H1 locs1 q9 ce hz hP2 hD2 hS1 hce hcv hcl
  · obtain ⟨h0, hz⟩ := hw
    obtain ⟨hP1, hK1, hD1⟩ := hB
    rw [ht] at hP1
    obtain ⟨hP2, hD2⟩ := kb_join hP hD hk1 hFc hP1 hD1
    exact kk h0 u H1 locs1 hz hP2 hD2 hS1
theorem ko_x {q : RS} {u : Nat → Nat} {q9 : Addr} {ce : Cell} (hout : ∀ x ∈ c.exceptionTable.toList, covers x pc = false) (hlocks : meth.locks = false) (hne : ¬ q.1.1 = 0) (hK : va_K (dC, dI) nCl (nTy cy) s) (hzk : zk Wl z0 u) (hP : va_P (dC, dI) nCl (vC cy a u q.2.1) H) (hD : va_D A (vC cy a u q.2.1)) (hS : va_S A s.heap H locs) (hce : H[q9]? = some ce) (hcv : ce.vm = .none) (hcl : s.vm.findClass (exN q.1.1) = some ce.cls) (hc : cells = mc) (hs : slots = ms) : vx_W p l e R s m args below meth c H locs cells slots (vx_MQ below Qc (xX dC dI cy a A Wl z0 q) args s mc ms A) (F0 m pc ls rest) q9 :=
  vx_out hout hlocks hce hcv hcl (fun t' ht' hv' => ⟨u, ⟨hne, hzk⟩, ⟨rfl, by rw [ht']; exact hP, va_K.moved hv' hK, hD⟩, hS.F ht'⟩) hS.2.2 (Nat.le_of_eq hc) (Nat.le_of_eq hs)
end NBT

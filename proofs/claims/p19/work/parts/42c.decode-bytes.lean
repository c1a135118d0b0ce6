/-! decode rows by their bytes -/
noncomputable def bPre (l : List UInt8) (r : List Nat) : Bool := List.rec (motive := fun _ => List UInt8 → Bool) (fun _ => true) (fun x _ ih l => List.rec (motive := fun _ => Bool) false (fun a l' _ => (Nat.beq a.toNat x).rec false (ih l')) l) r l
noncomputable def bDr (l : List UInt8) (n : Nat) : List UInt8 := Nat.rec (motive := fun _ => List UInt8) l (fun _ t => List.rec (motive := fun _ => List UInt8) [] (fun _ t' _ => t') t) n
noncomputable def bChk (c : ByteArray) (p : Nat) (r : List Nat) : Bool := bPre (bDr c.data.toList p) r
theorem bDr_d (l : List UInt8) : ∀ n, bDr l n = l.drop n
  | 0 => by rw [List.drop_zero]; rfl
  | n + 1 => by
    have e : bDr l (n + 1) = (bDr l n).tail := by
      show List.rec (motive := fun _ => List UInt8) [] (fun _ t' _ => t') (bDr l n) = _
      cases bDr l n <;> rfl
    rw [e, bDr_d l n, List.tail_drop]
theorem bPre_c {a : UInt8} {l : List UInt8} {x : Nat} {r : List Nat} (h : bPre (a :: l) (x :: r) = true) : a.toNat = x ∧ bPre l r = true := by
  have h' : (Nat.beq a.toNat x).rec false (bPre l r) = true := h
  cases e : Nat.beq a.toNat x with
  | false => rw [e] at h'; cases h'
  | true => rw [e] at h'; exact ⟨Nat.eq_of_beq_eq_true e, h'⟩
theorem b_u1 {c : ByteArray} {p x : Nat} {r : List Nat} (h : bChk c p (x :: r) = true) : (ReaderT.run (Reader.u1 : Decoder Nat) c).run p = .ok (x, p + 1) ∧ bChk c (p + 1) r = true := by
  unfold bChk at h ⊢
  rw [bDr_d] at h ⊢
  cases e : c.data.toList.drop p with
  | nil => rw [e] at h; cases h
  | cons a l =>
    rw [e] at h
    obtain ⟨h1, h2⟩ := bPre_c h
    have hp : p < c.data.toList.length := by
      rcases Nat.lt_or_ge p c.data.toList.length with z | z
      · exact z
      · rw [List.drop_eq_nil_of_le z] at e; cases e
    have e2 : c.data.toList.drop (p + 1) = l := by
      rw [← List.drop_drop, e]; rfl
    have e3 : c.data.toList[p] = a := by
      have := List.drop_eq_getElem_cons hp
      rw [e] at this
      exact (List.cons.inj this).1.symm
    have hs : p < c.size := by
      show p < c.data.size
      rw [← Array.length_toList]
      exact hp
    refine ⟨?_, by rw [e2]; exact h2⟩
    have e4 : c[p].toNat = x := by
      rw [← h1, ← e3]
      rfl
    unfold Reader.u1
    show (ReaderT.run (if h : p < c.size then (do set (p + 1); pure c[p].toNat : Decoder Nat) else throw (HasTruncated.truncated p)) c).run p = _
    rw [dif_pos hs]
    show Except.ok (c[p].toNat, p + 1) = _
    rw [e4]
theorem run_b {α β : Type} {x : Decoder α} {f : α → Decoder β} {c : ByteArray} {p q : Nat} {a : α} (h : (ReaderT.run x c).run p = .ok (a, q)) : (ReaderT.run (x >>= f) c).run p = (ReaderT.run (f a) c).run q := by
  show Except.bind ((ReaderT.run x c).run p) (fun z => (ReaderT.run (f z.1) c).run z.2) = _
  rw [h]
  rfl
theorem run_m {α β : Type} {x : Decoder α} {f : α → β} {c : ByteArray} {p q : Nat} {a : α} (h : (ReaderT.run x c).run p = .ok (a, q)) : (ReaderT.run (f <$> x) c).run p = .ok (f a, q) := by
  show Except.map (fun z : α × Nat => (f z.1, z.2)) ((ReaderT.run x c).run p) = _
  rw [h]
  rfl
theorem b_s1 {c : ByteArray} {p x : Nat} {r : List Nat} (h : bChk c p (x :: r) = true) : (ReaderT.run (Reader.s1 : Decoder Int) c).run p = .ok (Reader.signed 8 x, p + 1) ∧ bChk c (p + 1) r = true := by
  obtain ⟨h1, h2⟩ := b_u1 h
  exact ⟨run_m h1, h2⟩
theorem b_u2 {c : ByteArray} {p x y : Nat} {r : List Nat} (h : bChk c p (x :: y :: r) = true) : (ReaderT.run (Reader.u2 : Decoder Nat) c).run p = .ok (x * 256 + y, p + 1 + 1) ∧ bChk c (p + 1 + 1) r = true := by
  obtain ⟨h1, h2⟩ := b_u1 h
  obtain ⟨h3, h4⟩ := b_u1 h2
  refine ⟨?_, h4⟩
  unfold Reader.u2
  rw [run_b h1, run_b h3]
  rfl
theorem b_s2 {c : ByteArray} {p x y : Nat} {r : List Nat} (h : bChk c p (x :: y :: r) = true) : (ReaderT.run (Reader.s2 : Decoder Int) c).run p = .ok (Reader.signed 16 (x * 256 + y), p + 1 + 1) ∧ bChk c (p + 1 + 1) r = true := by
  obtain ⟨h1, h2⟩ := b_u2 h
  exact ⟨run_m h1, h2⟩
theorem b_and {a : Bool} {P : Prop} {_ : Decidable P} (h : (a && decide P) = true) : a = true ∧ P := by
  rw [Bool.and_eq_true] at h
  exact ⟨h.1, of_decide_eq_true h.2⟩
theorem dk_2 {c : ByteArray} {pc : Nat} (h : bChk c pc [2] = true) : decode c pc = .ok (.iconst (-1), 1) := by
  obtain ⟨h1, _⟩ := b_u1 h
  unfold decode Reader.runAt Decoder.instr
  rw [run_b h1]
  show Except.ok ((.iconst (-1) : Instr), pc + 1 - pc) = _
  rw [Nat.add_sub_cancel_left]
theorem dk_3 {c : ByteArray} {pc : Nat} (h : bChk c pc [3] = true) : decode c pc = .ok (.iconst 0, 1) := by
  obtain ⟨h1, _⟩ := b_u1 h
  unfold decode Reader.runAt Decoder.instr
  rw [run_b h1]
  show Except.ok ((.iconst 0 : Instr), pc + 1 - pc) = _
  rw [Nat.add_sub_cancel_left]
theorem dk_4 {c : ByteArray} {pc : Nat} (h : bChk c pc [4] = true) : decode c pc = .ok (.iconst 1, 1) := by
  obtain ⟨h1, _⟩ := b_u1 h
  unfold decode Reader.runAt Decoder.instr
  rw [run_b h1]
  show Except.ok ((.iconst 1 : Instr), pc + 1 - pc) = _
  rw [Nat.add_sub_cancel_left]
theorem dk_5 {c : ByteArray} {pc : Nat} (h : bChk c pc [5] = true) : decode c pc = .ok (.iconst 2, 1) := by
  obtain ⟨h1, _⟩ := b_u1 h
  unfold decode Reader.runAt Decoder.instr
  rw [run_b h1]
  show Except.ok ((.iconst 2 : Instr), pc + 1 - pc) = _
  rw [Nat.add_sub_cancel_left]
theorem dk_6 {c : ByteArray} {pc : Nat} (h : bChk c pc [6] = true) : decode c pc = .ok (.iconst 3, 1) := by
  obtain ⟨h1, _⟩ := b_u1 h
  unfold decode Reader.runAt Decoder.instr
  rw [run_b h1]
  show Except.ok ((.iconst 3 : Instr), pc + 1 - pc) = _
  rw [Nat.add_sub_cancel_left]
theorem dk_7 {c : ByteArray} {pc : Nat} (h : bChk c pc [7] = true) : decode c pc = .ok (.iconst 4, 1) := by
  obtain ⟨h1, _⟩ := b_u1 h
  unfold decode Reader.runAt Decoder.instr
  rw [run_b h1]
  show Except.ok ((.iconst 4 : Instr), pc + 1 - pc) = _
  rw [Nat.add_sub_cancel_left]
theorem dk_8 {c : ByteArray} {pc : Nat} (h : bChk c pc [8] = true) : decode c pc = .ok (.iconst 5, 1) := by
  obtain ⟨h1, _⟩ := b_u1 h
  unfold decode Reader.runAt Decoder.instr
  rw [run_b h1]
  show Except.ok ((.iconst 5 : Instr), pc + 1 - pc) = _
  rw [Nat.add_sub_cancel_left]
theorem dk_9 {c : ByteArray} {pc : Nat} (h : bChk c pc [9] = true) : decode c pc = .ok (.lconst 0, 1) := by
  obtain ⟨h1, _⟩ := b_u1 h
  unfold decode Reader.runAt Decoder.instr
  rw [run_b h1]
  show Except.ok ((.lconst 0 : Instr), pc + 1 - pc) = _
  rw [Nat.add_sub_cancel_left]
theorem dk_10 {c : ByteArray} {pc : Nat} (h : bChk c pc [10] = true) : decode c pc = .ok (.lconst 1, 1) := by
  obtain ⟨h1, _⟩ := b_u1 h
  unfold decode Reader.runAt Decoder.instr
  rw [run_b h1]
  show Except.ok ((.lconst 1 : Instr), pc + 1 - pc) = _
  rw [Nat.add_sub_cancel_left]
theorem dk_16 {c : ByteArray} {pc x : Nat} {v : Int} (h : (bChk c pc [16, x] && decide (Reader.signed 8 x = v)) = true) : decode c pc = .ok (.bipush v, 2) := by
  obtain ⟨h0, hv⟩ := b_and h
  obtain ⟨h1, h2⟩ := b_u1 h0
  obtain ⟨h3, _⟩ := b_s1 h2
  unfold decode Reader.runAt Decoder.instr
  rw [run_b h1]
  show Except.bind ((ReaderT.run ((Reader.s1 : Decoder Int) >>= fun a => pure (.bipush a : Instr)) c).run (pc + 1)) (fun z => pure (z.1, z.2 - pc)) = _
  rw [run_b h3, hv]
  show Except.ok ((.bipush v : Instr), pc + 1 + 1 - pc) = _
  rw [show pc + 1 + 1 - pc = 2 by omega]
theorem dk_17 {c : ByteArray} {pc x y : Nat} {v : Int} (h : (bChk c pc [17, x, y] && decide (Reader.signed 16 (x * 256 + y) = v)) = true) : decode c pc = .ok (.sipush v, 3) := by
  obtain ⟨h0, hv⟩ := b_and h
  obtain ⟨h1, h2⟩ := b_u1 h0
  obtain ⟨h3, _⟩ := b_s2 h2
  unfold decode Reader.runAt Decoder.instr
  rw [run_b h1]
  show Except.bind ((ReaderT.run ((Reader.s2 : Decoder Int) >>= fun a => pure (.sipush a : Instr)) c).run (pc + 1)) (fun z => pure (z.1, z.2 - pc)) = _
  rw [run_b h3, hv]
  show Except.ok ((.sipush v : Instr), pc + 1 + 1 + 1 - pc) = _
  rw [show pc + 1 + 1 + 1 - pc = 3 by omega]
theorem dk_18 {c : ByteArray} {pc x : Nat} {v : Nat} (h : (bChk c pc [18, x] && decide (x = v)) = true) : decode c pc = .ok (.ldc v, 2) := by
  obtain ⟨h0, hv⟩ := b_and h
  obtain ⟨h1, h2⟩ := b_u1 h0
  obtain ⟨h3, _⟩ := b_u1 h2
  unfold decode Reader.runAt Decoder.instr
  rw [run_b h1]
  show Except.bind ((ReaderT.run ((Reader.u1 : Decoder Nat) >>= fun a => pure (.ldc a : Instr)) c).run (pc + 1)) (fun z => pure (z.1, z.2 - pc)) = _
  rw [run_b h3, hv]
  show Except.ok ((.ldc v : Instr), pc + 1 + 1 - pc) = _
  rw [show pc + 1 + 1 - pc = 2 by omega]
theorem dk_19 {c : ByteArray} {pc x y : Nat} {v : Nat} (h : (bChk c pc [19, x, y] && decide (x * 256 + y = v)) = true) : decode c pc = .ok (.ldc_w v, 3) := by
  obtain ⟨h0, hv⟩ := b_and h
  obtain ⟨h1, h2⟩ := b_u1 h0
  obtain ⟨h3, _⟩ := b_u2 h2
  unfold decode Reader.runAt Decoder.instr
  rw [run_b h1]
  show Except.bind ((ReaderT.run ((Reader.u2 : Decoder Nat) >>= fun a => pure (.ldc_w a : Instr)) c).run (pc + 1)) (fun z => pure (z.1, z.2 - pc)) = _
  rw [run_b h3, hv]
  show Except.ok ((.ldc_w v : Instr), pc + 1 + 1 + 1 - pc) = _
  rw [show pc + 1 + 1 + 1 - pc = 3 by omega]
theorem dk_20 {c : ByteArray} {pc x y : Nat} {v : Nat} (h : (bChk c pc [20, x, y] && decide (x * 256 + y = v)) = true) : decode c pc = .ok (.ldc2_w v, 3) := by
  obtain ⟨h0, hv⟩ := b_and h
  obtain ⟨h1, h2⟩ := b_u1 h0
  obtain ⟨h3, _⟩ := b_u2 h2
  unfold decode Reader.runAt Decoder.instr
  rw [run_b h1]
  show Except.bind ((ReaderT.run ((Reader.u2 : Decoder Nat) >>= fun a => pure (.ldc2_w a : Instr)) c).run (pc + 1)) (fun z => pure (z.1, z.2 - pc)) = _
  rw [run_b h3, hv]
  show Except.ok ((.ldc2_w v : Instr), pc + 1 + 1 + 1 - pc) = _
  rw [show pc + 1 + 1 + 1 - pc = 3 by omega]
theorem dk_21 {c : ByteArray} {pc x : Nat} {v : Nat} (h : (bChk c pc [21, x] && decide (x = v)) = true) : decode c pc = .ok (.iload v, 2) := by
  obtain ⟨h0, hv⟩ := b_and h
  obtain ⟨h1, h2⟩ := b_u1 h0
  obtain ⟨h3, _⟩ := b_u1 h2
  unfold decode Reader.runAt Decoder.instr
  rw [run_b h1]
  show Except.bind ((ReaderT.run ((Reader.u1 : Decoder Nat) >>= fun a => pure (.iload a : Instr)) c).run (pc + 1)) (fun z => pure (z.1, z.2 - pc)) = _
  rw [run_b h3, hv]
  show Except.ok ((.iload v : Instr), pc + 1 + 1 - pc) = _
  rw [show pc + 1 + 1 - pc = 2 by omega]
theorem dk_22 {c : ByteArray} {pc x : Nat} {v : Nat} (h : (bChk c pc [22, x] && decide (x = v)) = true) : decode c pc = .ok (.lload v, 2) := by
  obtain ⟨h0, hv⟩ := b_and h
  obtain ⟨h1, h2⟩ := b_u1 h0
  obtain ⟨h3, _⟩ := b_u1 h2
  unfold decode Reader.runAt Decoder.instr
  rw [run_b h1]
  show Except.bind ((ReaderT.run ((Reader.u1 : Decoder Nat) >>= fun a => pure (.lload a : Instr)) c).run (pc + 1)) (fun z => pure (z.1, z.2 - pc)) = _
  rw [run_b h3, hv]
  show Except.ok ((.lload v : Instr), pc + 1 + 1 - pc) = _
  rw [show pc + 1 + 1 - pc = 2 by omega]
theorem dk_25 {c : ByteArray} {pc x : Nat} {v : Nat} (h : (bChk c pc [25, x] && decide (x = v)) = true) : decode c pc = .ok (.aload v, 2) := by
  obtain ⟨h0, hv⟩ := b_and h
  obtain ⟨h1, h2⟩ := b_u1 h0
  obtain ⟨h3, _⟩ := b_u1 h2
  unfold decode Reader.runAt Decoder.instr
  rw [run_b h1]
  show Except.bind ((ReaderT.run ((Reader.u1 : Decoder Nat) >>= fun a => pure (.aload a : Instr)) c).run (pc + 1)) (fun z => pure (z.1, z.2 - pc)) = _
  rw [run_b h3, hv]
  show Except.ok ((.aload v : Instr), pc + 1 + 1 - pc) = _
  rw [show pc + 1 + 1 - pc = 2 by omega]
theorem dk_26 {c : ByteArray} {pc : Nat} (h : bChk c pc [26] = true) : decode c pc = .ok (.iload_n 0, 1) := by
  obtain ⟨h1, _⟩ := b_u1 h
  unfold decode Reader.runAt Decoder.instr
  rw [run_b h1]
  show Except.ok ((.iload_n 0 : Instr), pc + 1 - pc) = _
  rw [Nat.add_sub_cancel_left]
theorem dk_27 {c : ByteArray} {pc : Nat} (h : bChk c pc [27] = true) : decode c pc = .ok (.iload_n 1, 1) := by
  obtain ⟨h1, _⟩ := b_u1 h
  unfold decode Reader.runAt Decoder.instr
  rw [run_b h1]
  show Except.ok ((.iload_n 1 : Instr), pc + 1 - pc) = _
  rw [Nat.add_sub_cancel_left]
theorem dk_28 {c : ByteArray} {pc : Nat} (h : bChk c pc [28] = true) : decode c pc = .ok (.iload_n 2, 1) := by
  obtain ⟨h1, _⟩ := b_u1 h
  unfold decode Reader.runAt Decoder.instr
  rw [run_b h1]
  show Except.ok ((.iload_n 2 : Instr), pc + 1 - pc) = _
  rw [Nat.add_sub_cancel_left]
theorem dk_29 {c : ByteArray} {pc : Nat} (h : bChk c pc [29] = true) : decode c pc = .ok (.iload_n 3, 1) := by
  obtain ⟨h1, _⟩ := b_u1 h
  unfold decode Reader.runAt Decoder.instr
  rw [run_b h1]
  show Except.ok ((.iload_n 3 : Instr), pc + 1 - pc) = _
  rw [Nat.add_sub_cancel_left]
theorem dk_31 {c : ByteArray} {pc : Nat} (h : bChk c pc [31] = true) : decode c pc = .ok (.lload_n 1, 1) := by
  obtain ⟨h1, _⟩ := b_u1 h
  unfold decode Reader.runAt Decoder.instr
  rw [run_b h1]
  show Except.ok ((.lload_n 1 : Instr), pc + 1 - pc) = _
  rw [Nat.add_sub_cancel_left]
theorem dk_32 {c : ByteArray} {pc : Nat} (h : bChk c pc [32] = true) : decode c pc = .ok (.lload_n 2, 1) := by
  obtain ⟨h1, _⟩ := b_u1 h
  unfold decode Reader.runAt Decoder.instr
  rw [run_b h1]
  show Except.ok ((.lload_n 2 : Instr), pc + 1 - pc) = _
  rw [Nat.add_sub_cancel_left]
theorem dk_33 {c : ByteArray} {pc : Nat} (h : bChk c pc [33] = true) : decode c pc = .ok (.lload_n 3, 1) := by
  obtain ⟨h1, _⟩ := b_u1 h
  unfold decode Reader.runAt Decoder.instr
  rw [run_b h1]
  show Except.ok ((.lload_n 3 : Instr), pc + 1 - pc) = _
  rw [Nat.add_sub_cancel_left]
theorem dk_42 {c : ByteArray} {pc : Nat} (h : bChk c pc [42] = true) : decode c pc = .ok (.aload_n 0, 1) := by
  obtain ⟨h1, _⟩ := b_u1 h
  unfold decode Reader.runAt Decoder.instr
  rw [run_b h1]
  show Except.ok ((.aload_n 0 : Instr), pc + 1 - pc) = _
  rw [Nat.add_sub_cancel_left]
theorem dk_43 {c : ByteArray} {pc : Nat} (h : bChk c pc [43] = true) : decode c pc = .ok (.aload_n 1, 1) := by
  obtain ⟨h1, _⟩ := b_u1 h
  unfold decode Reader.runAt Decoder.instr
  rw [run_b h1]
  show Except.ok ((.aload_n 1 : Instr), pc + 1 - pc) = _
  rw [Nat.add_sub_cancel_left]
theorem dk_44 {c : ByteArray} {pc : Nat} (h : bChk c pc [44] = true) : decode c pc = .ok (.aload_n 2, 1) := by
  obtain ⟨h1, _⟩ := b_u1 h
  unfold decode Reader.runAt Decoder.instr
  rw [run_b h1]
  show Except.ok ((.aload_n 2 : Instr), pc + 1 - pc) = _
  rw [Nat.add_sub_cancel_left]
theorem dk_45 {c : ByteArray} {pc : Nat} (h : bChk c pc [45] = true) : decode c pc = .ok (.aload_n 3, 1) := by
  obtain ⟨h1, _⟩ := b_u1 h
  unfold decode Reader.runAt Decoder.instr
  rw [run_b h1]
  show Except.ok ((.aload_n 3 : Instr), pc + 1 - pc) = _
  rw [Nat.add_sub_cancel_left]
theorem dk_46 {c : ByteArray} {pc : Nat} (h : bChk c pc [46] = true) : decode c pc = .ok (.iaload, 1) := by
  obtain ⟨h1, _⟩ := b_u1 h
  unfold decode Reader.runAt Decoder.instr
  rw [run_b h1]
  show Except.ok ((.iaload : Instr), pc + 1 - pc) = _
  rw [Nat.add_sub_cancel_left]
theorem dk_47 {c : ByteArray} {pc : Nat} (h : bChk c pc [47] = true) : decode c pc = .ok (.laload, 1) := by
  obtain ⟨h1, _⟩ := b_u1 h
  unfold decode Reader.runAt Decoder.instr
  rw [run_b h1]
  show Except.ok ((.laload : Instr), pc + 1 - pc) = _
  rw [Nat.add_sub_cancel_left]
theorem dk_50 {c : ByteArray} {pc : Nat} (h : bChk c pc [50] = true) : decode c pc = .ok (.aaload, 1) := by
  obtain ⟨h1, _⟩ := b_u1 h
  unfold decode Reader.runAt Decoder.instr
  rw [run_b h1]
  show Except.ok ((.aaload : Instr), pc + 1 - pc) = _
  rw [Nat.add_sub_cancel_left]
theorem dk_51 {c : ByteArray} {pc : Nat} (h : bChk c pc [51] = true) : decode c pc = .ok (.baload, 1) := by
  obtain ⟨h1, _⟩ := b_u1 h
  unfold decode Reader.runAt Decoder.instr
  rw [run_b h1]
  show Except.ok ((.baload : Instr), pc + 1 - pc) = _
  rw [Nat.add_sub_cancel_left]
theorem dk_54 {c : ByteArray} {pc x : Nat} {v : Nat} (h : (bChk c pc [54, x] && decide (x = v)) = true) : decode c pc = .ok (.istore v, 2) := by
  obtain ⟨h0, hv⟩ := b_and h
  obtain ⟨h1, h2⟩ := b_u1 h0
  obtain ⟨h3, _⟩ := b_u1 h2
  unfold decode Reader.runAt Decoder.instr
  rw [run_b h1]
  show Except.bind ((ReaderT.run ((Reader.u1 : Decoder Nat) >>= fun a => pure (.istore a : Instr)) c).run (pc + 1)) (fun z => pure (z.1, z.2 - pc)) = _
  rw [run_b h3, hv]
  show Except.ok ((.istore v : Instr), pc + 1 + 1 - pc) = _
  rw [show pc + 1 + 1 - pc = 2 by omega]
theorem dk_55 {c : ByteArray} {pc x : Nat} {v : Nat} (h : (bChk c pc [55, x] && decide (x = v)) = true) : decode c pc = .ok (.lstore v, 2) := by
  obtain ⟨h0, hv⟩ := b_and h
  obtain ⟨h1, h2⟩ := b_u1 h0
  obtain ⟨h3, _⟩ := b_u1 h2
  unfold decode Reader.runAt Decoder.instr
  rw [run_b h1]
  show Except.bind ((ReaderT.run ((Reader.u1 : Decoder Nat) >>= fun a => pure (.lstore a : Instr)) c).run (pc + 1)) (fun z => pure (z.1, z.2 - pc)) = _
  rw [run_b h3, hv]
  show Except.ok ((.lstore v : Instr), pc + 1 + 1 - pc) = _
  rw [show pc + 1 + 1 - pc = 2 by omega]
theorem dk_58 {c : ByteArray} {pc x : Nat} {v : Nat} (h : (bChk c pc [58, x] && decide (x = v)) = true) : decode c pc = .ok (.astore v, 2) := by
  obtain ⟨h0, hv⟩ := b_and h
  obtain ⟨h1, h2⟩ := b_u1 h0
  obtain ⟨h3, _⟩ := b_u1 h2
  unfold decode Reader.runAt Decoder.instr
  rw [run_b h1]
  show Except.bind ((ReaderT.run ((Reader.u1 : Decoder Nat) >>= fun a => pure (.astore a : Instr)) c).run (pc + 1)) (fun z => pure (z.1, z.2 - pc)) = _
  rw [run_b h3, hv]
  show Except.ok ((.astore v : Instr), pc + 1 + 1 - pc) = _
  rw [show pc + 1 + 1 - pc = 2 by omega]
theorem dk_59 {c : ByteArray} {pc : Nat} (h : bChk c pc [59] = true) : decode c pc = .ok (.istore_n 0, 1) := by
  obtain ⟨h1, _⟩ := b_u1 h
  unfold decode Reader.runAt Decoder.instr
  rw [run_b h1]
  show Except.ok ((.istore_n 0 : Instr), pc + 1 - pc) = _
  rw [Nat.add_sub_cancel_left]
theorem dk_60 {c : ByteArray} {pc : Nat} (h : bChk c pc [60] = true) : decode c pc = .ok (.istore_n 1, 1) := by
  obtain ⟨h1, _⟩ := b_u1 h
  unfold decode Reader.runAt Decoder.instr
  rw [run_b h1]
  show Except.ok ((.istore_n 1 : Instr), pc + 1 - pc) = _
  rw [Nat.add_sub_cancel_left]
theorem dk_61 {c : ByteArray} {pc : Nat} (h : bChk c pc [61] = true) : decode c pc = .ok (.istore_n 2, 1) := by
  obtain ⟨h1, _⟩ := b_u1 h
  unfold decode Reader.runAt Decoder.instr
  rw [run_b h1]
  show Except.ok ((.istore_n 2 : Instr), pc + 1 - pc) = _
  rw [Nat.add_sub_cancel_left]
theorem dk_62 {c : ByteArray} {pc : Nat} (h : bChk c pc [62] = true) : decode c pc = .ok (.istore_n 3, 1) := by
  obtain ⟨h1, _⟩ := b_u1 h
  unfold decode Reader.runAt Decoder.instr
  rw [run_b h1]
  show Except.ok ((.istore_n 3 : Instr), pc + 1 - pc) = _
  rw [Nat.add_sub_cancel_left]
theorem dk_64 {c : ByteArray} {pc : Nat} (h : bChk c pc [64] = true) : decode c pc = .ok (.lstore_n 1, 1) := by
  obtain ⟨h1, _⟩ := b_u1 h
  unfold decode Reader.runAt Decoder.instr
  rw [run_b h1]
  show Except.ok ((.lstore_n 1 : Instr), pc + 1 - pc) = _
  rw [Nat.add_sub_cancel_left]
theorem dk_65 {c : ByteArray} {pc : Nat} (h : bChk c pc [65] = true) : decode c pc = .ok (.lstore_n 2, 1) := by
  obtain ⟨h1, _⟩ := b_u1 h
  unfold decode Reader.runAt Decoder.instr
  rw [run_b h1]
  show Except.ok ((.lstore_n 2 : Instr), pc + 1 - pc) = _
  rw [Nat.add_sub_cancel_left]
theorem dk_66 {c : ByteArray} {pc : Nat} (h : bChk c pc [66] = true) : decode c pc = .ok (.lstore_n 3, 1) := by
  obtain ⟨h1, _⟩ := b_u1 h
  unfold decode Reader.runAt Decoder.instr
  rw [run_b h1]
  show Except.ok ((.lstore_n 3 : Instr), pc + 1 - pc) = _
  rw [Nat.add_sub_cancel_left]
theorem dk_76 {c : ByteArray} {pc : Nat} (h : bChk c pc [76] = true) : decode c pc = .ok (.astore_n 1, 1) := by
  obtain ⟨h1, _⟩ := b_u1 h
  unfold decode Reader.runAt Decoder.instr
  rw [run_b h1]
  show Except.ok ((.astore_n 1 : Instr), pc + 1 - pc) = _
  rw [Nat.add_sub_cancel_left]
theorem dk_77 {c : ByteArray} {pc : Nat} (h : bChk c pc [77] = true) : decode c pc = .ok (.astore_n 2, 1) := by
  obtain ⟨h1, _⟩ := b_u1 h
  unfold decode Reader.runAt Decoder.instr
  rw [run_b h1]
  show Except.ok ((.astore_n 2 : Instr), pc + 1 - pc) = _
  rw [Nat.add_sub_cancel_left]
theorem dk_78 {c : ByteArray} {pc : Nat} (h : bChk c pc [78] = true) : decode c pc = .ok (.astore_n 3, 1) := by
  obtain ⟨h1, _⟩ := b_u1 h
  unfold decode Reader.runAt Decoder.instr
  rw [run_b h1]
  show Except.ok ((.astore_n 3 : Instr), pc + 1 - pc) = _
  rw [Nat.add_sub_cancel_left]
theorem dk_79 {c : ByteArray} {pc : Nat} (h : bChk c pc [79] = true) : decode c pc = .ok (.iastore, 1) := by
  obtain ⟨h1, _⟩ := b_u1 h
  unfold decode Reader.runAt Decoder.instr
  rw [run_b h1]
  show Except.ok ((.iastore : Instr), pc + 1 - pc) = _
  rw [Nat.add_sub_cancel_left]
theorem dk_80 {c : ByteArray} {pc : Nat} (h : bChk c pc [80] = true) : decode c pc = .ok (.lastore, 1) := by
  obtain ⟨h1, _⟩ := b_u1 h
  unfold decode Reader.runAt Decoder.instr
  rw [run_b h1]
  show Except.ok ((.lastore : Instr), pc + 1 - pc) = _
  rw [Nat.add_sub_cancel_left]
theorem dk_83 {c : ByteArray} {pc : Nat} (h : bChk c pc [83] = true) : decode c pc = .ok (.aastore, 1) := by
  obtain ⟨h1, _⟩ := b_u1 h
  unfold decode Reader.runAt Decoder.instr
  rw [run_b h1]
  show Except.ok ((.aastore : Instr), pc + 1 - pc) = _
  rw [Nat.add_sub_cancel_left]
theorem dk_84 {c : ByteArray} {pc : Nat} (h : bChk c pc [84] = true) : decode c pc = .ok (.bastore, 1) := by
  obtain ⟨h1, _⟩ := b_u1 h
  unfold decode Reader.runAt Decoder.instr
  rw [run_b h1]
  show Except.ok ((.bastore : Instr), pc + 1 - pc) = _
  rw [Nat.add_sub_cancel_left]
theorem dk_87 {c : ByteArray} {pc : Nat} (h : bChk c pc [87] = true) : decode c pc = .ok (.pop, 1) := by
  obtain ⟨h1, _⟩ := b_u1 h
  unfold decode Reader.runAt Decoder.instr
  rw [run_b h1]
  show Except.ok ((.pop : Instr), pc + 1 - pc) = _
  rw [Nat.add_sub_cancel_left]
theorem dk_89 {c : ByteArray} {pc : Nat} (h : bChk c pc [89] = true) : decode c pc = .ok (.dup, 1) := by
  obtain ⟨h1, _⟩ := b_u1 h
  unfold decode Reader.runAt Decoder.instr
  rw [run_b h1]
  show Except.ok ((.dup : Instr), pc + 1 - pc) = _
  rw [Nat.add_sub_cancel_left]
theorem dk_92 {c : ByteArray} {pc : Nat} (h : bChk c pc [92] = true) : decode c pc = .ok (.dup2, 1) := by
  obtain ⟨h1, _⟩ := b_u1 h
  unfold decode Reader.runAt Decoder.instr
  rw [run_b h1]
  show Except.ok ((.dup2 : Instr), pc + 1 - pc) = _
  rw [Nat.add_sub_cancel_left]
theorem dk_96 {c : ByteArray} {pc : Nat} (h : bChk c pc [96] = true) : decode c pc = .ok (.iadd, 1) := by
  obtain ⟨h1, _⟩ := b_u1 h
  unfold decode Reader.runAt Decoder.instr
  rw [run_b h1]
  show Except.ok ((.iadd : Instr), pc + 1 - pc) = _
  rw [Nat.add_sub_cancel_left]
theorem dk_97 {c : ByteArray} {pc : Nat} (h : bChk c pc [97] = true) : decode c pc = .ok (.ladd, 1) := by
  obtain ⟨h1, _⟩ := b_u1 h
  unfold decode Reader.runAt Decoder.instr
  rw [run_b h1]
  show Except.ok ((.ladd : Instr), pc + 1 - pc) = _
  rw [Nat.add_sub_cancel_left]
theorem dk_100 {c : ByteArray} {pc : Nat} (h : bChk c pc [100] = true) : decode c pc = .ok (.isub, 1) := by
  obtain ⟨h1, _⟩ := b_u1 h
  unfold decode Reader.runAt Decoder.instr
  rw [run_b h1]
  show Except.ok ((.isub : Instr), pc + 1 - pc) = _
  rw [Nat.add_sub_cancel_left]
theorem dk_101 {c : ByteArray} {pc : Nat} (h : bChk c pc [101] = true) : decode c pc = .ok (.lsub, 1) := by
  obtain ⟨h1, _⟩ := b_u1 h
  unfold decode Reader.runAt Decoder.instr
  rw [run_b h1]
  show Except.ok ((.lsub : Instr), pc + 1 - pc) = _
  rw [Nat.add_sub_cancel_left]
theorem dk_104 {c : ByteArray} {pc : Nat} (h : bChk c pc [104] = true) : decode c pc = .ok (.imul, 1) := by
  obtain ⟨h1, _⟩ := b_u1 h
  unfold decode Reader.runAt Decoder.instr
  rw [run_b h1]
  show Except.ok ((.imul : Instr), pc + 1 - pc) = _
  rw [Nat.add_sub_cancel_left]
theorem dk_105 {c : ByteArray} {pc : Nat} (h : bChk c pc [105] = true) : decode c pc = .ok (.lmul, 1) := by
  obtain ⟨h1, _⟩ := b_u1 h
  unfold decode Reader.runAt Decoder.instr
  rw [run_b h1]
  show Except.ok ((.lmul : Instr), pc + 1 - pc) = _
  rw [Nat.add_sub_cancel_left]
theorem dk_108 {c : ByteArray} {pc : Nat} (h : bChk c pc [108] = true) : decode c pc = .ok (.idiv, 1) := by
  obtain ⟨h1, _⟩ := b_u1 h
  unfold decode Reader.runAt Decoder.instr
  rw [run_b h1]
  show Except.ok ((.idiv : Instr), pc + 1 - pc) = _
  rw [Nat.add_sub_cancel_left]
theorem dk_109 {c : ByteArray} {pc : Nat} (h : bChk c pc [109] = true) : decode c pc = .ok (.ldiv, 1) := by
  obtain ⟨h1, _⟩ := b_u1 h
  unfold decode Reader.runAt Decoder.instr
  rw [run_b h1]
  show Except.ok ((.ldiv : Instr), pc + 1 - pc) = _
  rw [Nat.add_sub_cancel_left]
theorem dk_112 {c : ByteArray} {pc : Nat} (h : bChk c pc [112] = true) : decode c pc = .ok (.irem, 1) := by
  obtain ⟨h1, _⟩ := b_u1 h
  unfold decode Reader.runAt Decoder.instr
  rw [run_b h1]
  show Except.ok ((.irem : Instr), pc + 1 - pc) = _
  rw [Nat.add_sub_cancel_left]
theorem dk_113 {c : ByteArray} {pc : Nat} (h : bChk c pc [113] = true) : decode c pc = .ok (.lrem, 1) := by
  obtain ⟨h1, _⟩ := b_u1 h
  unfold decode Reader.runAt Decoder.instr
  rw [run_b h1]
  show Except.ok ((.lrem : Instr), pc + 1 - pc) = _
  rw [Nat.add_sub_cancel_left]
theorem dk_116 {c : ByteArray} {pc : Nat} (h : bChk c pc [116] = true) : decode c pc = .ok (.ineg, 1) := by
  obtain ⟨h1, _⟩ := b_u1 h
  unfold decode Reader.runAt Decoder.instr
  rw [run_b h1]
  show Except.ok ((.ineg : Instr), pc + 1 - pc) = _
  rw [Nat.add_sub_cancel_left]
theorem dk_117 {c : ByteArray} {pc : Nat} (h : bChk c pc [117] = true) : decode c pc = .ok (.lneg, 1) := by
  obtain ⟨h1, _⟩ := b_u1 h
  unfold decode Reader.runAt Decoder.instr
  rw [run_b h1]
  show Except.ok ((.lneg : Instr), pc + 1 - pc) = _
  rw [Nat.add_sub_cancel_left]
theorem dk_120 {c : ByteArray} {pc : Nat} (h : bChk c pc [120] = true) : decode c pc = .ok (.ishl, 1) := by
  obtain ⟨h1, _⟩ := b_u1 h
  unfold decode Reader.runAt Decoder.instr
  rw [run_b h1]
  show Except.ok ((.ishl : Instr), pc + 1 - pc) = _
  rw [Nat.add_sub_cancel_left]
theorem dk_121 {c : ByteArray} {pc : Nat} (h : bChk c pc [121] = true) : decode c pc = .ok (.lshl, 1) := by
  obtain ⟨h1, _⟩ := b_u1 h
  unfold decode Reader.runAt Decoder.instr
  rw [run_b h1]
  show Except.ok ((.lshl : Instr), pc + 1 - pc) = _
  rw [Nat.add_sub_cancel_left]
theorem dk_122 {c : ByteArray} {pc : Nat} (h : bChk c pc [122] = true) : decode c pc = .ok (.ishr, 1) := by
  obtain ⟨h1, _⟩ := b_u1 h
  unfold decode Reader.runAt Decoder.instr
  rw [run_b h1]
  show Except.ok ((.ishr : Instr), pc + 1 - pc) = _
  rw [Nat.add_sub_cancel_left]
theorem dk_123 {c : ByteArray} {pc : Nat} (h : bChk c pc [123] = true) : decode c pc = .ok (.lshr, 1) := by
  obtain ⟨h1, _⟩ := b_u1 h
  unfold decode Reader.runAt Decoder.instr
  rw [run_b h1]
  show Except.ok ((.lshr : Instr), pc + 1 - pc) = _
  rw [Nat.add_sub_cancel_left]
theorem dk_124 {c : ByteArray} {pc : Nat} (h : bChk c pc [124] = true) : decode c pc = .ok (.iushr, 1) := by
  obtain ⟨h1, _⟩ := b_u1 h
  unfold decode Reader.runAt Decoder.instr
  rw [run_b h1]
  show Except.ok ((.iushr : Instr), pc + 1 - pc) = _
  rw [Nat.add_sub_cancel_left]
theorem dk_125 {c : ByteArray} {pc : Nat} (h : bChk c pc [125] = true) : decode c pc = .ok (.lushr, 1) := by
  obtain ⟨h1, _⟩ := b_u1 h
  unfold decode Reader.runAt Decoder.instr
  rw [run_b h1]
  show Except.ok ((.lushr : Instr), pc + 1 - pc) = _
  rw [Nat.add_sub_cancel_left]
theorem dk_126 {c : ByteArray} {pc : Nat} (h : bChk c pc [126] = true) : decode c pc = .ok (.iand, 1) := by
  obtain ⟨h1, _⟩ := b_u1 h
  unfold decode Reader.runAt Decoder.instr
  rw [run_b h1]
  show Except.ok ((.iand : Instr), pc + 1 - pc) = _
  rw [Nat.add_sub_cancel_left]
theorem dk_127 {c : ByteArray} {pc : Nat} (h : bChk c pc [127] = true) : decode c pc = .ok (.land, 1) := by
  obtain ⟨h1, _⟩ := b_u1 h
  unfold decode Reader.runAt Decoder.instr
  rw [run_b h1]
  show Except.ok ((.land : Instr), pc + 1 - pc) = _
  rw [Nat.add_sub_cancel_left]
theorem dk_128 {c : ByteArray} {pc : Nat} (h : bChk c pc [128] = true) : decode c pc = .ok (.ior, 1) := by
  obtain ⟨h1, _⟩ := b_u1 h
  unfold decode Reader.runAt Decoder.instr
  rw [run_b h1]
  show Except.ok ((.ior : Instr), pc + 1 - pc) = _
  rw [Nat.add_sub_cancel_left]
theorem dk_129 {c : ByteArray} {pc : Nat} (h : bChk c pc [129] = true) : decode c pc = .ok (.lor, 1) := by
  obtain ⟨h1, _⟩ := b_u1 h
  unfold decode Reader.runAt Decoder.instr
  rw [run_b h1]
  show Except.ok ((.lor : Instr), pc + 1 - pc) = _
  rw [Nat.add_sub_cancel_left]
theorem dk_130 {c : ByteArray} {pc : Nat} (h : bChk c pc [130] = true) : decode c pc = .ok (.ixor, 1) := by
  obtain ⟨h1, _⟩ := b_u1 h
  unfold decode Reader.runAt Decoder.instr
  rw [run_b h1]
  show Except.ok ((.ixor : Instr), pc + 1 - pc) = _
  rw [Nat.add_sub_cancel_left]
theorem dk_132 {c : ByteArray} {pc x y u : Nat} {v : Int} (h : (bChk c pc [132, x, y] && decide (x = u ∧ Reader.signed 8 y = v)) = true) : decode c pc = .ok (.iinc u v, 3) := by
  obtain ⟨h0, hu, hv⟩ := b_and h
  obtain ⟨h1, h2⟩ := b_u1 h0
  obtain ⟨h3, h4⟩ := b_u1 h2
  obtain ⟨h5, _⟩ := b_s1 h4
  unfold decode Reader.runAt Decoder.instr
  rw [run_b h1]
  show Except.bind ((ReaderT.run ((Reader.u1 : Decoder Nat) >>= fun a => (Reader.s1 : Decoder Int) >>= fun d => pure (.iinc a d : Instr)) c).run (pc + 1)) (fun z => pure (z.1, z.2 - pc)) = _
  rw [run_b h3, run_b h5, hu, hv]
  show Except.ok ((.iinc u v : Instr), pc + 1 + 1 + 1 - pc) = _
  rw [show pc + 1 + 1 + 1 - pc = 3 by omega]
theorem dk_133 {c : ByteArray} {pc : Nat} (h : bChk c pc [133] = true) : decode c pc = .ok (.i2l, 1) := by
  obtain ⟨h1, _⟩ := b_u1 h
  unfold decode Reader.runAt Decoder.instr
  rw [run_b h1]
  show Except.ok ((.i2l : Instr), pc + 1 - pc) = _
  rw [Nat.add_sub_cancel_left]
theorem dk_136 {c : ByteArray} {pc : Nat} (h : bChk c pc [136] = true) : decode c pc = .ok (.l2i, 1) := by
  obtain ⟨h1, _⟩ := b_u1 h
  unfold decode Reader.runAt Decoder.instr
  rw [run_b h1]
  show Except.ok ((.l2i : Instr), pc + 1 - pc) = _
  rw [Nat.add_sub_cancel_left]
theorem dk_145 {c : ByteArray} {pc : Nat} (h : bChk c pc [145] = true) : decode c pc = .ok (.i2b, 1) := by
  obtain ⟨h1, _⟩ := b_u1 h
  unfold decode Reader.runAt Decoder.instr
  rw [run_b h1]
  show Except.ok ((.i2b : Instr), pc + 1 - pc) = _
  rw [Nat.add_sub_cancel_left]
theorem dk_146 {c : ByteArray} {pc : Nat} (h : bChk c pc [146] = true) : decode c pc = .ok (.i2c, 1) := by
  obtain ⟨h1, _⟩ := b_u1 h
  unfold decode Reader.runAt Decoder.instr
  rw [run_b h1]
  show Except.ok ((.i2c : Instr), pc + 1 - pc) = _
  rw [Nat.add_sub_cancel_left]
theorem dk_148 {c : ByteArray} {pc : Nat} (h : bChk c pc [148] = true) : decode c pc = .ok (.lcmp, 1) := by
  obtain ⟨h1, _⟩ := b_u1 h
  unfold decode Reader.runAt Decoder.instr
  rw [run_b h1]
  show Except.ok ((.lcmp : Instr), pc + 1 - pc) = _
  rw [Nat.add_sub_cancel_left]
theorem dk_153 {c : ByteArray} {pc x y : Nat} {v : Int} (h : (bChk c pc [153, x, y] && decide (Reader.signed 16 (x * 256 + y) = v)) = true) : decode c pc = .ok (.ifCond .eq v, 3) := by
  obtain ⟨h0, hv⟩ := b_and h
  obtain ⟨h1, h2⟩ := b_u1 h0
  obtain ⟨h3, _⟩ := b_s2 h2
  unfold decode Reader.runAt Decoder.instr
  rw [run_b h1]
  show Except.bind ((ReaderT.run ((Reader.s2 : Decoder Int) >>= fun a => pure (.ifCond .eq a : Instr)) c).run (pc + 1)) (fun z => pure (z.1, z.2 - pc)) = _
  rw [run_b h3, hv]
  show Except.ok ((.ifCond .eq v : Instr), pc + 1 + 1 + 1 - pc) = _
  rw [show pc + 1 + 1 + 1 - pc = 3 by omega]
theorem dk_154 {c : ByteArray} {pc x y : Nat} {v : Int} (h : (bChk c pc [154, x, y] && decide (Reader.signed 16 (x * 256 + y) = v)) = true) : decode c pc = .ok (.ifCond .ne v, 3) := by
  obtain ⟨h0, hv⟩ := b_and h
  obtain ⟨h1, h2⟩ := b_u1 h0
  obtain ⟨h3, _⟩ := b_s2 h2
  unfold decode Reader.runAt Decoder.instr
  rw [run_b h1]
  show Except.bind ((ReaderT.run ((Reader.s2 : Decoder Int) >>= fun a => pure (.ifCond .ne a : Instr)) c).run (pc + 1)) (fun z => pure (z.1, z.2 - pc)) = _
  rw [run_b h3, hv]
  show Except.ok ((.ifCond .ne v : Instr), pc + 1 + 1 + 1 - pc) = _
  rw [show pc + 1 + 1 + 1 - pc = 3 by omega]
theorem dk_155 {c : ByteArray} {pc x y : Nat} {v : Int} (h : (bChk c pc [155, x, y] && decide (Reader.signed 16 (x * 256 + y) = v)) = true) : decode c pc = .ok (.ifCond .lt v, 3) := by
  obtain ⟨h0, hv⟩ := b_and h
  obtain ⟨h1, h2⟩ := b_u1 h0
  obtain ⟨h3, _⟩ := b_s2 h2
  unfold decode Reader.runAt Decoder.instr
  rw [run_b h1]
  show Except.bind ((ReaderT.run ((Reader.s2 : Decoder Int) >>= fun a => pure (.ifCond .lt a : Instr)) c).run (pc + 1)) (fun z => pure (z.1, z.2 - pc)) = _
  rw [run_b h3, hv]
  show Except.ok ((.ifCond .lt v : Instr), pc + 1 + 1 + 1 - pc) = _
  rw [show pc + 1 + 1 + 1 - pc = 3 by omega]
theorem dk_156 {c : ByteArray} {pc x y : Nat} {v : Int} (h : (bChk c pc [156, x, y] && decide (Reader.signed 16 (x * 256 + y) = v)) = true) : decode c pc = .ok (.ifCond .ge v, 3) := by
  obtain ⟨h0, hv⟩ := b_and h
  obtain ⟨h1, h2⟩ := b_u1 h0
  obtain ⟨h3, _⟩ := b_s2 h2
  unfold decode Reader.runAt Decoder.instr
  rw [run_b h1]
  show Except.bind ((ReaderT.run ((Reader.s2 : Decoder Int) >>= fun a => pure (.ifCond .ge a : Instr)) c).run (pc + 1)) (fun z => pure (z.1, z.2 - pc)) = _
  rw [run_b h3, hv]
  show Except.ok ((.ifCond .ge v : Instr), pc + 1 + 1 + 1 - pc) = _
  rw [show pc + 1 + 1 + 1 - pc = 3 by omega]
theorem dk_157 {c : ByteArray} {pc x y : Nat} {v : Int} (h : (bChk c pc [157, x, y] && decide (Reader.signed 16 (x * 256 + y) = v)) = true) : decode c pc = .ok (.ifCond .gt v, 3) := by
  obtain ⟨h0, hv⟩ := b_and h
  obtain ⟨h1, h2⟩ := b_u1 h0
  obtain ⟨h3, _⟩ := b_s2 h2
  unfold decode Reader.runAt Decoder.instr
  rw [run_b h1]
  show Except.bind ((ReaderT.run ((Reader.s2 : Decoder Int) >>= fun a => pure (.ifCond .gt a : Instr)) c).run (pc + 1)) (fun z => pure (z.1, z.2 - pc)) = _
  rw [run_b h3, hv]
  show Except.ok ((.ifCond .gt v : Instr), pc + 1 + 1 + 1 - pc) = _
  rw [show pc + 1 + 1 + 1 - pc = 3 by omega]
theorem dk_158 {c : ByteArray} {pc x y : Nat} {v : Int} (h : (bChk c pc [158, x, y] && decide (Reader.signed 16 (x * 256 + y) = v)) = true) : decode c pc = .ok (.ifCond .le v, 3) := by
  obtain ⟨h0, hv⟩ := b_and h
  obtain ⟨h1, h2⟩ := b_u1 h0
  obtain ⟨h3, _⟩ := b_s2 h2
  unfold decode Reader.runAt Decoder.instr
  rw [run_b h1]
  show Except.bind ((ReaderT.run ((Reader.s2 : Decoder Int) >>= fun a => pure (.ifCond .le a : Instr)) c).run (pc + 1)) (fun z => pure (z.1, z.2 - pc)) = _
  rw [run_b h3, hv]
  show Except.ok ((.ifCond .le v : Instr), pc + 1 + 1 + 1 - pc) = _
  rw [show pc + 1 + 1 + 1 - pc = 3 by omega]
theorem dk_159 {c : ByteArray} {pc x y : Nat} {v : Int} (h : (bChk c pc [159, x, y] && decide (Reader.signed 16 (x * 256 + y) = v)) = true) : decode c pc = .ok (.if_icmp .eq v, 3) := by
  obtain ⟨h0, hv⟩ := b_and h
  obtain ⟨h1, h2⟩ := b_u1 h0
  obtain ⟨h3, _⟩ := b_s2 h2
  unfold decode Reader.runAt Decoder.instr
  rw [run_b h1]
  show Except.bind ((ReaderT.run ((Reader.s2 : Decoder Int) >>= fun a => pure (.if_icmp .eq a : Instr)) c).run (pc + 1)) (fun z => pure (z.1, z.2 - pc)) = _
  rw [run_b h3, hv]
  show Except.ok ((.if_icmp .eq v : Instr), pc + 1 + 1 + 1 - pc) = _
  rw [show pc + 1 + 1 + 1 - pc = 3 by omega]
theorem dk_160 {c : ByteArray} {pc x y : Nat} {v : Int} (h : (bChk c pc [160, x, y] && decide (Reader.signed 16 (x * 256 + y) = v)) = true) : decode c pc = .ok (.if_icmp .ne v, 3) := by
  obtain ⟨h0, hv⟩ := b_and h
  obtain ⟨h1, h2⟩ := b_u1 h0
  obtain ⟨h3, _⟩ := b_s2 h2
  unfold decode Reader.runAt Decoder.instr
  rw [run_b h1]
  show Except.bind ((ReaderT.run ((Reader.s2 : Decoder Int) >>= fun a => pure (.if_icmp .ne a : Instr)) c).run (pc + 1)) (fun z => pure (z.1, z.2 - pc)) = _
  rw [run_b h3, hv]
  show Except.ok ((.if_icmp .ne v : Instr), pc + 1 + 1 + 1 - pc) = _
  rw [show pc + 1 + 1 + 1 - pc = 3 by omega]
theorem dk_161 {c : ByteArray} {pc x y : Nat} {v : Int} (h : (bChk c pc [161, x, y] && decide (Reader.signed 16 (x * 256 + y) = v)) = true) : decode c pc = .ok (.if_icmp .lt v, 3) := by
  obtain ⟨h0, hv⟩ := b_and h
  obtain ⟨h1, h2⟩ := b_u1 h0
  obtain ⟨h3, _⟩ := b_s2 h2
  unfold decode Reader.runAt Decoder.instr
  rw [run_b h1]
  show Except.bind ((ReaderT.run ((Reader.s2 : Decoder Int) >>= fun a => pure (.if_icmp .lt a : Instr)) c).run (pc + 1)) (fun z => pure (z.1, z.2 - pc)) = _
  rw [run_b h3, hv]
  show Except.ok ((.if_icmp .lt v : Instr), pc + 1 + 1 + 1 - pc) = _
  rw [show pc + 1 + 1 + 1 - pc = 3 by omega]
theorem dk_162 {c : ByteArray} {pc x y : Nat} {v : Int} (h : (bChk c pc [162, x, y] && decide (Reader.signed 16 (x * 256 + y) = v)) = true) : decode c pc = .ok (.if_icmp .ge v, 3) := by
  obtain ⟨h0, hv⟩ := b_and h
  obtain ⟨h1, h2⟩ := b_u1 h0
  obtain ⟨h3, _⟩ := b_s2 h2
  unfold decode Reader.runAt Decoder.instr
  rw [run_b h1]
  show Except.bind ((ReaderT.run ((Reader.s2 : Decoder Int) >>= fun a => pure (.if_icmp .ge a : Instr)) c).run (pc + 1)) (fun z => pure (z.1, z.2 - pc)) = _
  rw [run_b h3, hv]
  show Except.ok ((.if_icmp .ge v : Instr), pc + 1 + 1 + 1 - pc) = _
  rw [show pc + 1 + 1 + 1 - pc = 3 by omega]
theorem dk_163 {c : ByteArray} {pc x y : Nat} {v : Int} (h : (bChk c pc [163, x, y] && decide (Reader.signed 16 (x * 256 + y) = v)) = true) : decode c pc = .ok (.if_icmp .gt v, 3) := by
  obtain ⟨h0, hv⟩ := b_and h
  obtain ⟨h1, h2⟩ := b_u1 h0
  obtain ⟨h3, _⟩ := b_s2 h2
  unfold decode Reader.runAt Decoder.instr
  rw [run_b h1]
  show Except.bind ((ReaderT.run ((Reader.s2 : Decoder Int) >>= fun a => pure (.if_icmp .gt a : Instr)) c).run (pc + 1)) (fun z => pure (z.1, z.2 - pc)) = _
  rw [run_b h3, hv]
  show Except.ok ((.if_icmp .gt v : Instr), pc + 1 + 1 + 1 - pc) = _
  rw [show pc + 1 + 1 + 1 - pc = 3 by omega]
theorem dk_164 {c : ByteArray} {pc x y : Nat} {v : Int} (h : (bChk c pc [164, x, y] && decide (Reader.signed 16 (x * 256 + y) = v)) = true) : decode c pc = .ok (.if_icmp .le v, 3) := by
  obtain ⟨h0, hv⟩ := b_and h
  obtain ⟨h1, h2⟩ := b_u1 h0
  obtain ⟨h3, _⟩ := b_s2 h2
  unfold decode Reader.runAt Decoder.instr
  rw [run_b h1]
  show Except.bind ((ReaderT.run ((Reader.s2 : Decoder Int) >>= fun a => pure (.if_icmp .le a : Instr)) c).run (pc + 1)) (fun z => pure (z.1, z.2 - pc)) = _
  rw [run_b h3, hv]
  show Except.ok ((.if_icmp .le v : Instr), pc + 1 + 1 + 1 - pc) = _
  rw [show pc + 1 + 1 + 1 - pc = 3 by omega]
theorem dk_167 {c : ByteArray} {pc x y : Nat} {v : Int} (h : (bChk c pc [167, x, y] && decide (Reader.signed 16 (x * 256 + y) = v)) = true) : decode c pc = .ok (.goto v, 3) := by
  obtain ⟨h0, hv⟩ := b_and h
  obtain ⟨h1, h2⟩ := b_u1 h0
  obtain ⟨h3, _⟩ := b_s2 h2
  unfold decode Reader.runAt Decoder.instr
  rw [run_b h1]
  show Except.bind ((ReaderT.run ((Reader.s2 : Decoder Int) >>= fun a => pure (.goto a : Instr)) c).run (pc + 1)) (fun z => pure (z.1, z.2 - pc)) = _
  rw [run_b h3, hv]
  show Except.ok ((.goto v : Instr), pc + 1 + 1 + 1 - pc) = _
  rw [show pc + 1 + 1 + 1 - pc = 3 by omega]
theorem dk_172 {c : ByteArray} {pc : Nat} (h : bChk c pc [172] = true) : decode c pc = .ok (.ireturn, 1) := by
  obtain ⟨h1, _⟩ := b_u1 h
  unfold decode Reader.runAt Decoder.instr
  rw [run_b h1]
  show Except.ok ((.ireturn : Instr), pc + 1 - pc) = _
  rw [Nat.add_sub_cancel_left]
theorem dk_176 {c : ByteArray} {pc : Nat} (h : bChk c pc [176] = true) : decode c pc = .ok (.areturn, 1) := by
  obtain ⟨h1, _⟩ := b_u1 h
  unfold decode Reader.runAt Decoder.instr
  rw [run_b h1]
  show Except.ok ((.areturn : Instr), pc + 1 - pc) = _
  rw [Nat.add_sub_cancel_left]
theorem dk_177 {c : ByteArray} {pc : Nat} (h : bChk c pc [177] = true) : decode c pc = .ok (.return_, 1) := by
  obtain ⟨h1, _⟩ := b_u1 h
  unfold decode Reader.runAt Decoder.instr
  rw [run_b h1]
  show Except.ok ((.return_ : Instr), pc + 1 - pc) = _
  rw [Nat.add_sub_cancel_left]
theorem dk_178 {c : ByteArray} {pc x y : Nat} {v : Nat} (h : (bChk c pc [178, x, y] && decide (x * 256 + y = v)) = true) : decode c pc = .ok (.getstatic v, 3) := by
  obtain ⟨h0, hv⟩ := b_and h
  obtain ⟨h1, h2⟩ := b_u1 h0
  obtain ⟨h3, _⟩ := b_u2 h2
  unfold decode Reader.runAt Decoder.instr
  rw [run_b h1]
  show Except.bind ((ReaderT.run ((Reader.u2 : Decoder Nat) >>= fun a => pure (.getstatic a : Instr)) c).run (pc + 1)) (fun z => pure (z.1, z.2 - pc)) = _
  rw [run_b h3, hv]
  show Except.ok ((.getstatic v : Instr), pc + 1 + 1 + 1 - pc) = _
  rw [show pc + 1 + 1 + 1 - pc = 3 by omega]
theorem dk_180 {c : ByteArray} {pc x y : Nat} {v : Nat} (h : (bChk c pc [180, x, y] && decide (x * 256 + y = v)) = true) : decode c pc = .ok (.getfield v, 3) := by
  obtain ⟨h0, hv⟩ := b_and h
  obtain ⟨h1, h2⟩ := b_u1 h0
  obtain ⟨h3, _⟩ := b_u2 h2
  unfold decode Reader.runAt Decoder.instr
  rw [run_b h1]
  show Except.bind ((ReaderT.run ((Reader.u2 : Decoder Nat) >>= fun a => pure (.getfield a : Instr)) c).run (pc + 1)) (fun z => pure (z.1, z.2 - pc)) = _
  rw [run_b h3, hv]
  show Except.ok ((.getfield v : Instr), pc + 1 + 1 + 1 - pc) = _
  rw [show pc + 1 + 1 + 1 - pc = 3 by omega]
theorem dk_181 {c : ByteArray} {pc x y : Nat} {v : Nat} (h : (bChk c pc [181, x, y] && decide (x * 256 + y = v)) = true) : decode c pc = .ok (.putfield v, 3) := by
  obtain ⟨h0, hv⟩ := b_and h
  obtain ⟨h1, h2⟩ := b_u1 h0
  obtain ⟨h3, _⟩ := b_u2 h2
  unfold decode Reader.runAt Decoder.instr
  rw [run_b h1]
  show Except.bind ((ReaderT.run ((Reader.u2 : Decoder Nat) >>= fun a => pure (.putfield a : Instr)) c).run (pc + 1)) (fun z => pure (z.1, z.2 - pc)) = _
  rw [run_b h3, hv]
  show Except.ok ((.putfield v : Instr), pc + 1 + 1 + 1 - pc) = _
  rw [show pc + 1 + 1 + 1 - pc = 3 by omega]
theorem dk_182 {c : ByteArray} {pc x y : Nat} {v : Nat} (h : (bChk c pc [182, x, y] && decide (x * 256 + y = v)) = true) : decode c pc = .ok (.invokevirtual v, 3) := by
  obtain ⟨h0, hv⟩ := b_and h
  obtain ⟨h1, h2⟩ := b_u1 h0
  obtain ⟨h3, _⟩ := b_u2 h2
  unfold decode Reader.runAt Decoder.instr
  rw [run_b h1]
  show Except.bind ((ReaderT.run ((Reader.u2 : Decoder Nat) >>= fun a => pure (.invokevirtual a : Instr)) c).run (pc + 1)) (fun z => pure (z.1, z.2 - pc)) = _
  rw [run_b h3, hv]
  show Except.ok ((.invokevirtual v : Instr), pc + 1 + 1 + 1 - pc) = _
  rw [show pc + 1 + 1 + 1 - pc = 3 by omega]
theorem dk_183 {c : ByteArray} {pc x y : Nat} {v : Nat} (h : (bChk c pc [183, x, y] && decide (x * 256 + y = v)) = true) : decode c pc = .ok (.invokespecial v, 3) := by
  obtain ⟨h0, hv⟩ := b_and h
  obtain ⟨h1, h2⟩ := b_u1 h0
  obtain ⟨h3, _⟩ := b_u2 h2
  unfold decode Reader.runAt Decoder.instr
  rw [run_b h1]
  show Except.bind ((ReaderT.run ((Reader.u2 : Decoder Nat) >>= fun a => pure (.invokespecial a : Instr)) c).run (pc + 1)) (fun z => pure (z.1, z.2 - pc)) = _
  rw [run_b h3, hv]
  show Except.ok ((.invokespecial v : Instr), pc + 1 + 1 + 1 - pc) = _
  rw [show pc + 1 + 1 + 1 - pc = 3 by omega]
theorem dk_184 {c : ByteArray} {pc x y : Nat} {v : Nat} (h : (bChk c pc [184, x, y] && decide (x * 256 + y = v)) = true) : decode c pc = .ok (.invokestatic v, 3) := by
  obtain ⟨h0, hv⟩ := b_and h
  obtain ⟨h1, h2⟩ := b_u1 h0
  obtain ⟨h3, _⟩ := b_u2 h2
  unfold decode Reader.runAt Decoder.instr
  rw [run_b h1]
  show Except.bind ((ReaderT.run ((Reader.u2 : Decoder Nat) >>= fun a => pure (.invokestatic a : Instr)) c).run (pc + 1)) (fun z => pure (z.1, z.2 - pc)) = _
  rw [run_b h3, hv]
  show Except.ok ((.invokestatic v : Instr), pc + 1 + 1 + 1 - pc) = _
  rw [show pc + 1 + 1 + 1 - pc = 3 by omega]
theorem dk_187 {c : ByteArray} {pc x y : Nat} {v : Nat} (h : (bChk c pc [187, x, y] && decide (x * 256 + y = v)) = true) : decode c pc = .ok (.new v, 3) := by
  obtain ⟨h0, hv⟩ := b_and h
  obtain ⟨h1, h2⟩ := b_u1 h0
  obtain ⟨h3, _⟩ := b_u2 h2
  unfold decode Reader.runAt Decoder.instr
  rw [run_b h1]
  show Except.bind ((ReaderT.run ((Reader.u2 : Decoder Nat) >>= fun a => pure (.new a : Instr)) c).run (pc + 1)) (fun z => pure (z.1, z.2 - pc)) = _
  rw [run_b h3, hv]
  show Except.ok ((.new v : Instr), pc + 1 + 1 + 1 - pc) = _
  rw [show pc + 1 + 1 + 1 - pc = 3 by omega]
theorem dk_190 {c : ByteArray} {pc : Nat} (h : bChk c pc [190] = true) : decode c pc = .ok (.arraylength, 1) := by
  obtain ⟨h1, _⟩ := b_u1 h
  unfold decode Reader.runAt Decoder.instr
  rw [run_b h1]
  show Except.ok ((.arraylength : Instr), pc + 1 - pc) = _
  rw [Nat.add_sub_cancel_left]
theorem dk_191 {c : ByteArray} {pc : Nat} (h : bChk c pc [191] = true) : decode c pc = .ok (.athrow, 1) := by
  obtain ⟨h1, _⟩ := b_u1 h
  unfold decode Reader.runAt Decoder.instr
  rw [run_b h1]
  show Except.ok ((.athrow : Instr), pc + 1 - pc) = _
  rw [Nat.add_sub_cancel_left]
theorem dk_192 {c : ByteArray} {pc x y : Nat} {v : Nat} (h : (bChk c pc [192, x, y] && decide (x * 256 + y = v)) = true) : decode c pc = .ok (.checkcast v, 3) := by
  obtain ⟨h0, hv⟩ := b_and h
  obtain ⟨h1, h2⟩ := b_u1 h0
  obtain ⟨h3, _⟩ := b_u2 h2
  unfold decode Reader.runAt Decoder.instr
  rw [run_b h1]
  show Except.bind ((ReaderT.run ((Reader.u2 : Decoder Nat) >>= fun a => pure (.checkcast a : Instr)) c).run (pc + 1)) (fun z => pure (z.1, z.2 - pc)) = _
  rw [run_b h3, hv]
  show Except.ok ((.checkcast v : Instr), pc + 1 + 1 + 1 - pc) = _
  rw [show pc + 1 + 1 + 1 - pc = 3 by omega]
theorem dk_198 {c : ByteArray} {pc x y : Nat} {v : Int} (h : (bChk c pc [198, x, y] && decide (Reader.signed 16 (x * 256 + y) = v)) = true) : decode c pc = .ok (.ifnull v, 3) := by
  obtain ⟨h0, hv⟩ := b_and h
  obtain ⟨h1, h2⟩ := b_u1 h0
  obtain ⟨h3, _⟩ := b_s2 h2
  unfold decode Reader.runAt Decoder.instr
  rw [run_b h1]
  show Except.bind ((ReaderT.run ((Reader.s2 : Decoder Int) >>= fun a => pure (.ifnull a : Instr)) c).run (pc + 1)) (fun z => pure (z.1, z.2 - pc)) = _
  rw [run_b h3, hv]
  show Except.ok ((.ifnull v : Instr), pc + 1 + 1 + 1 - pc) = _
  rw [show pc + 1 + 1 + 1 - pc = 3 by omega]

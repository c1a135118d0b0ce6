/-! Rows over all states: the reference's byteAt, skip. -/
def fM : List Cond := wsX120
theorem fM_good : fM.all goodWord = true := by decide +kernel
theorem nb_all2 {x z : List Cond} (h1 : x.all goodWord = true) (h2 : z.all goodWord = true) : (x ++ z).all goodWord = true := by rw [List.all_append, h1, h2]; rfl
theorem nb_allc {x : Cond} {z : List Cond} (h1 : goodWord x = true) (h2 : z.all goodWord = true) : (x :: z).all goodWord = true := by rw [List.all_cons, h1, h2]; rfl
theorem nb_g4 {big : List Cond} {x1 x2 x3 x4 : Cond} (h1 : x1 ∈ big) (h2 : x2 ∈ big) (h3 : x3 ∈ big) (h4 : x4 ∈ big) (h : [x1, x2, x3, x4].all goodWord = true) : GoodIn big [x1, x2, x3, x4] := goodIn_sub (List.forall_mem_cons.mpr ⟨h1, List.forall_mem_cons.mpr ⟨h2, List.forall_mem_cons.mpr ⟨h3, List.forall_mem_cons.mpr ⟨h4, fun _ h => absurd h List.not_mem_nil⟩⟩⟩⟩) h
/-- fields of the reference's object: n bytes on the tape, the reader at x, all else whatever it is -/
def gL (a : Nat → Nat) (u : Nat → Int32) (w : Nat → Int64) (n x : Int32) : List Value := [.ref (a 1), .ref (a 2), .int (u 2), .ref (a 3), .int n, .int x, .int (u 6), .int (u 7), .int (u 8), .int (u 9), .int (u 10), .int (u 11), .int (u 12), .int (u 13), .ref (a 4), .ref (a 5), .ref (a 6), .ref (a 7), .ref (a 8), .ref (a 9), .ref (a 10), .ref (a 11), .int (u 22), .ref (a 12), .int (u 24), .int (u 25), .ref (a 13), .ref (a 14), .ref (a 15), .ref (a 16), .int (u 30), .int (u 31), .ref (a 17), .ref (a 18), .ref (a 19), .ref (a 20), .ref (a 21), .int (u 37), .int (u 38), .ref (a 22), .ref (a 23), .ref (a 24), .int (u 42), .int (u 43), .int (u 44), .int (u 45), .int (u 46), .int (u 47), .int (u 48), .ref (a 25), .ref (a 26), .ref (a 27), .int (u 52), .ref (a 28), .int (u 54), .int (u 55), .int (u 56), .int (u 57), .ref (a 29), .int (u 59), .ref (a 30), .ref (a 31), .ref (a 32), .int (u 63), .int (u 64), .int (u 65), .ref (a 33), .int (u 67), .int (u 68), .int (u 69), .ref (a 34), .ref (a 35), .int (u 72), .int (u 73), .ref (a 36), .ref (a 37), .ref (a 38), .ref (a 39), .ref (a 40), .int (u 79), .ref (a 41), .ref (a 42), .ref (a 43), .ref (a 44), .int (u 84), .int (u 85), .int (u 86), .ref (a 45), .ref (a 46), .int (u 89), .int (u 90), .ref (a 47), .ref (a 48), .int (u 93), .ref (a 49), .int (u 95), .long (w 96), .int (u 97), .ref (a 50), .ref (a 51), .int (u 100), .int (u 101), .int (u 102), .int (u 103), .int (u 104), .int (u 105), .int (u 106), .ref (a 52), .int (u 108), .int (u 109), .int (u 110), .int (u 111), .int (u 112), .long (w 113), .ref (a 53), .int (u 115), .ref (a 54), .ref (a 55), .ref (a 56), .ref (a 57), .int (u 120)]
def vL (cy : Nat → ClassId) (a : Nat → Nat) (u : Nat → Int32) (w : Nat → Int64) (f : Nat → Int32) (n x : Int32) : va_W := [((a 0), .inr (11, gL a u w n x)), ((a 3), .inl (cy 1, 32768, .inl f))]
/-- a byte of the tape, 0 behind it -/
def spB (f : Nat → Int32) (n k : Nat) : Int32 := if k < n then f k else 0
/-- where a note ends -/
def noteEnd (f : Nat → Int32) (n : Nat) : Nat → Nat → Nat
  | 0, i => i
  | k + 1, i => if i < n ∧ f i ≠ 10 then noteEnd f n k (i + 1) else i
abbrev isBl (c : Int32) : Prop := c = 9 ∨ c = 10 ∨ c = 13 ∨ c = 32
/-- where the next token begins -/
def skipTo (f : Nat → Int32) (n : Nat) : Nat → Nat → Nat
  | 0, i => i
  | k + 1, i => if i < n ∧ isBl (spB f n i) then skipTo f n k (i + 1) else if spB f n i = 45 ∧ spB f n (i + 1) = 45 then skipTo f n k (noteEnd f n (n - i) i) else i
theorem noteEnd_le (f : Nat → Int32) (n : Nat) : ∀ k i, i ≤ n → i ≤ noteEnd f n k i ∧ noteEnd f n k i ≤ n := by
  intro k
  induction k with
  | zero => intro i h; exact ⟨Nat.le_refl _, h⟩
  | succ k ih =>
    intro i h
    unfold noteEnd
    by_cases c : i < n ∧ f i ≠ 10
    · rw [if_pos c]; have := ih (i + 1) c.1; omega
    · rw [if_neg c]; exact ⟨Nat.le_refl _, h⟩
theorem noteEnd_lt {f : Nat → Int32} {n i : Nat} (h : i < n) (h2 : f i ≠ 10) : i < noteEnd f n (n - i) i := by
  obtain ⟨k, hk⟩ : ∃ k, n - i = k + 1 := ⟨n - i - 1, by omega⟩
  rw [hk]
  unfold noteEnd
  rw [if_pos ⟨h, h2⟩]
  exact (noteEnd_le f n k (i + 1) h).1
theorem nI_lt_of {a b : Nat} (ha : a < 2 ^ 31) (h : ¬ nI b ≤ nI a) : a < b := by
  rcases Nat.lt_or_ge a b with q | q
  · exact q
  · exact absurd (nI_le q ha) h
theorem nI_le_of {a b : Nat} (hb : b < 2 ^ 31) (h : nI b ≤ nI a) : b ≤ a := by
  rcases Nat.lt_or_ge a b with q | q
  · exact absurd h (nI_ge q hb)
  · exact q
def o_a_byteAt : List Cond := [.fieldLink RX12 1 "SetHouseModel" "taped" "I", .fieldLink RX12 7 "SetHouseModel" "tape" "[I"]
theorem o_a_byteAt_good : o_a_byteAt.all goodWord = true := by decide +kernel
def p_a_byteAt : List Cond := o_a_byteAt ++ []
theorem p_a_byteAt_good : p_a_byteAt.all goodWord = true := nb_all2 o_a_byteAt_good rfl
def w_a_byteAt : List Cond := .code yX12_byteAt cX12_byteAt 2 (some .int) :: (p_a_byteAt ++ fM)
theorem w_a_byteAt_good : w_a_byteAt.all goodWord = true := nb_allc (by decide +kernel) (nb_all2 p_a_byteAt_good fM_good)
theorem in_a_byteAt_X12 : ∀ w ∈ wsX120, w ∈ w_a_byteAt := fun _ h => List.mem_cons_of_mem _ (List.mem_append_right _ h)
set_option maxHeartbeats 4000000 in
/-- byteAt(k), in every state -/
theorem a_byteAt (l : Launch) (dC : Nat → ClassId) (dI : Nat → Nat → Nat) (cy : Nat → ClassId) (a : Nat → Nat) (u : Nat → Int32) (w : Nat → Int64) (f : Nat → Int32) (n k : Nat) (x : Int32) (hn : n ≤ 32768) (hk : k < 2 ^ 31) (sz : Nat) : Met l yX12_byteAt w_a_byteAt ({ frames := 0, cells := 0, slots := 0, locals := 0 }) (va_Pc [.ref (a 0), .int (nI k)] (nIn (dC, dI) cy sz (vL cy a u w f (nI n) x))) (va_Qi (fun (z : Int32) (_ : Unit) => z = spB f n k) (fun _ t => nOut (dC, dI) cy (va_A (vL cy a u w f (nI n) x) sz) (vL cy a u w f (nI n) x) t) (va_A (vL cy a u w f (nI n) x) sz)) 0 0 (va_A (vL cy a u w f (nI n) x) sz) := by
  refine Met.ofW (cc := cX12_byteAt) (maxL := 2) (ret := (some .int)) (by decide) rfl ?_
  intro p e s m args below meth c s₁ B hml hv
  obtain ⟨rfl, hsz, hP, hK, hD0, hG⟩ := hv
  have hx := B.exec
  have hb := B.bytes
  have hr := B.returns
  have hts := atoms_spec (ws := w_a_byteAt) B.pre
  have hown : s.vm.findClass RX12 = some m.cls := findClass_of_methodNamed B.named
  have hlocks := B.notSynchronized
  subst hsz
  have hD := hD0.self (sz := s.heap.size)
  generalize hAe : va_A (vL cy a u w f (nI n) x) s.heap.size = A at hD ⊢
  have hA : ∀ q : Nat, s.heap.size ≤ q → A q := fun q h => by rw [← hAe]; exact Or.inr h
  have hS : va_S A s.heap s.heap [] := va_S.rf
  have hl := lv_entry ([.ref (a 0), .int (nI k)]) (n := 2) (Nat.le_of_ble_eq_true rfl)
  rw [lg_entry_eq]
  generalize (lg_sl ([.ref (a 0), .int (nI k)]) ++ List.replicate (2 - (lg_sl ([.ref (a 0), .int (nI k)])).length) Slot.unset).toArray = ls at hl ⊢
  have hP : va_P (dC, dI) nCl [((a 0), .inr (11, gL a u w (nI n) x)), ((a 3), .inl (cy 1, 32768, .inl f))] s.heap := hP
  have hD : va_D A [((a 0), .inr (11, gL a u w (nI n) x)), ((a 3), .inl (cy 1, 32768, .inl f))] := hD
  have hl : lv_has ls 2 [(0, .ref (a 0)), (1, .int (nI k))] := hl
  refine lv_iload_n hx hb dX12_byteAt_0 rfl (lv_at hl 1 rfl) ?_
  refine lv_aload_n hx hb dX12_byteAt_1 rfl (lv_at hl 0 rfl) ?_
  refine va_get (D := (dC, dI)) (ci := 11) (v := .int (nI n)) (C := RX12) (T := TX12) (N := 121) hx hb hts in_a_byteAt_X12 hown hK hP 0 rfl rfl 4 (by decide) (hts _ (List.mem_cons_of_mem _ (List.mem_append_left _ (List.mem_append_left _ (List.mem_of_getElem? (i := 0) rfl))))) (fun _ h9 => h9) rfl dX12_byteAt_2 ?_
  refine lv_icmp_ge (tgt := 17) hx hb dX12_byteAt_5 (by decide) (fun c1 => ?_) (fun c1 => ?_)
  · have c2 : n ≤ k := nI_le_of (by omega) c1
    refine lv_iconst (v := 0) hx hb dX12_byteAt_17 (by decide) ?_
    exact W.iret (v := 0) hx hb hr (fun t ht hW => ⟨⟨0, (), rfl, by unfold spB; rw [if_neg (by omega)], by rw [ht]; exact hP, va_K.moved hW.alike hK, hD⟩, hS.F ht⟩) hS.2.2 dX12_byteAt_18
  · have c2 : k < n := nI_lt_of hk c1
    refine lv_aload_n hx hb dX12_byteAt_8 rfl (lv_at hl 0 rfl) ?_
    refine va_get (D := (dC, dI)) (ci := 11) (v := .ref (a 3)) (C := RX12) (T := TX12) (N := 121) hx hb hts in_a_byteAt_X12 hown hK hP 0 rfl rfl 3 (by decide) (hts _ (List.mem_cons_of_mem _ (List.mem_append_left _ (List.mem_append_left _ (List.mem_of_getElem? (i := 1) rfl))))) (fun _ h9 => h9) rfl dX12_byteAt_9 ?_
    refine lv_iload_n hx hb dX12_byteAt_12 rfl (lv_at hl 1 rfl) ?_
    refine va_iald hx hb hK hP 1 1 rfl rfl (vp_in_nI (by omega) (by omega)) dX12_byteAt_13 ?_
    rw [nI_clamp hk]
    refine lv_goto (tgt := 18) hx hb dX12_byteAt_14 (by decide) ?_
    exact W.iret (v := f k) hx hb hr (fun t ht hW => ⟨⟨f k, (), rfl, by unfold spB; rw [if_pos c2], by rw [ht]; exact hP, va_K.moved hW.alike hK, hD⟩, hS.F ht⟩) hS.2.2 dX12_byteAt_18
def o_a_skip : List Cond := [.fieldLink RX12 21 "SetHouseModel" "at" "I", .fieldLink RX12 1 "SetHouseModel" "taped" "I", .fieldLink RX12 7 "SetHouseModel" "tape" "[I", .methodLink RX12 24 yX12_byteAt, .instanceMethod yX12_byteAt, .selects RX12 yX12_byteAt yX12_byteAt, .initialized RX12]
theorem o_a_skip_good : o_a_skip.all goodWord = true := by decide +kernel
def p_a_skip : List Cond := o_a_skip ++ ((.code yX12_byteAt cX12_byteAt 2 (some .int) :: p_a_byteAt) ++ [])
theorem p_a_skip_good : p_a_skip.all goodWord = true := nb_all2 o_a_skip_good (nb_all2 (nb_allc (by decide +kernel) p_a_byteAt_good) rfl)
def w_a_skip : List Cond := .code yX12_skip cX12_skip 3 none :: (p_a_skip ++ fM)
theorem w_a_skip_good : w_a_skip.all goodWord = true := nb_allc (by decide +kernel) (nb_all2 p_a_skip_good fM_good)
theorem in_a_skip_X12 : ∀ w ∈ wsX120, w ∈ w_a_skip := fun _ h => List.mem_cons_of_mem _ (List.mem_append_right _ h)
theorem gg_a_skip_byteAt : GoodIn w_a_skip w_a_byteAt := goodIn_sub (fun w h => (List.mem_cons.mp h).elim (fun e => (List.mem_cons_of_mem _ (List.mem_append_left _ (List.mem_append_right _ (List.mem_append_left _ (List.mem_cons.mpr (Or.inl e))))))) (fun h => (List.mem_append.mp h).elim (fun h => (List.mem_cons_of_mem _ (List.mem_append_left _ (List.mem_append_right _ (List.mem_append_left _ (List.mem_cons_of_mem _ h)))))) (fun h => List.mem_cons_of_mem _ (List.mem_append_right _ h)))) w_a_byteAt_good
theorem g_a_skip_byteAt : GoodIn w_a_skip (wsV RX12 24 RX12 yX12_byteAt w_a_byteAt) := goodIn_app (nb_g4 (List.mem_cons_of_mem _ (List.mem_append_left _ (List.mem_append_left _ (List.mem_of_getElem? (i := 3) rfl)))) (List.mem_cons_of_mem _ (List.mem_append_left _ (List.mem_append_left _ (List.mem_of_getElem? (i := 4) rfl)))) (List.mem_cons_of_mem _ (List.mem_append_left _ (List.mem_append_left _ (List.mem_of_getElem? (i := 5) rfl)))) (List.mem_cons_of_mem _ (List.mem_append_left _ (List.mem_append_left _ (List.mem_of_getElem? (i := 6) rfl)))) (by decide +kernel)) gg_a_skip_byteAt
set_option maxHeartbeats 8000000 in
/-- skip(), in every state -/
theorem a_skip (l : Launch) (dC : Nat → ClassId) (dI : Nat → Nat → Nat) (cy : Nat → ClassId) (a : Nat → Nat) (u : Nat → Int32) (w : Nat → Int64) (f : Nat → Int32) (n i : Nat) (hn : n ≤ 32768) (hi : i ≤ n) (sz : Nat) : Met l yX12_skip w_a_skip ({ frames := 1, cells := 0, slots := 0, locals := 21 }) (va_Pc [.ref (a 0)] (nIn (dC, dI) cy sz (vL cy a u w f (nI n) (nI i)))) (va_Qv (fun _ : Unit => True) (fun _ t => nOut (dC, dI) cy (va_A (vL cy a u w f (nI n) (nI i)) sz) (vL cy a u w f (nI n) (nI (skipTo f n (n - i + 1) i))) t) (va_A (vL cy a u w f (nI n) (nI i)) sz)) 0 0 (va_A (vL cy a u w f (nI n) (nI i)) sz) := by
  refine Met.ofW (cc := cX12_skip) (maxL := 3) (ret := none) (by decide) rfl ?_
  intro p e s m args below meth c s₁ B hml hv
  obtain ⟨rfl, hsz, hP, hK, hD0, hG⟩ := hv
  have hx := B.exec
  have hb := B.bytes
  have hr := B.returns
  have hts := atoms_spec (ws := w_a_skip) B.pre
  have hown : s.vm.findClass RX12 = some m.cls := findClass_of_methodNamed B.named
  have hlocks := B.notSynchronized
  subst hsz
  have hD := hD0.self (sz := s.heap.size)
  generalize hAe : va_A (vL cy a u w f (nI n) (nI i)) s.heap.size = A at hD ⊢
  have hA : ∀ q : Nat, s.heap.size ≤ q → A q := fun q h => by rw [← hAe]; exact Or.inr h
  have hS : va_S A s.heap s.heap [] := va_S.rf
  have hl := lv_entry ([.ref (a 0)]) (n := 3) (Nat.le_of_ble_eq_true rfl)
  rw [lg_entry_eq]
  generalize (lg_sl ([.ref (a 0)]) ++ List.replicate (3 - (lg_sl ([.ref (a 0)])).length) Slot.unset).toArray = ls at hl ⊢
  have hP : va_P (dC, dI) nCl [((a 0), .inr (11, gL a u w (nI n) (nI i))), ((a 3), .inl (cy 1, 32768, .inl f))] s.heap := hP
  have hD : va_D A [((a 0), .inr (11, gL a u w (nI n) (nI i))), ((a 3), .inl (cy 1, 32768, .inl f))] := hD
  have hl : lv_has ls 3 [(0, .ref (a 0))] := hl
  have fin : ∀ (j : Nat), j = skipTo f n (n - i + 1) i → ∀ (H : Heap) (locs : List Loc) (ls : Array Slot), va_P (dC, dI) nCl [((a 0), .inr (11, gL a u w (nI n) (nI j))), ((a 3), .inl (cy 1, 32768, .inl f))] H → va_D A [((a 0), .inr (11, gL a u w (nI n) (nI j))), ((a 3), .inl (cy 1, 32768, .inl f))] → va_S A s.heap H locs → lv_has ls 3 [(0, .ref (a 0))] → W p l e (headSpec w_a_skip ({ frames := 1, cells := 0, slots := 0, locals := 21 })).room s m #[.ref (a 0)] below meth c H locs 0 0 (MQ below (va_Qv (fun _ : Unit => True) (fun _ t => nOut (dC, dI) cy A (vL cy a u w f (nI n) (nI (skipTo f n (n - i + 1) i))) t) A) #[.ref (a 0)] s 0 0 A) (F0 m 122 ls []) := by
    intro j hj H locs ls hP hD hS hl
    refine lv_iconst (v := 0) hx hb dX12_skip_122 (by decide) ?_
    refine lv_istore_n (lv' := [(1, .int 0), (0, .ref (a 0))]) hx hb dX12_skip_123 rfl hl (by decide) rfl (fun ls hl => ?_)
    refine lv_goto (tgt := 2) hx hb dX12_skip_124 (by decide) ?_
    refine lv_iload_n hx hb dX12_skip_2 rfl (lv_at hl 0 rfl) ?_
    refine lv_if_eq (tgt := 127) hx hb dX12_skip_3 (by decide) (fun _ => ?_) (fun c1 => False.elim (by revert c1; decide))
    rw [hj] at hP hD
    exact W.vret hx hb hr (fun t ht hW => ⟨⟨(), rfl, trivial, by rw [ht]; exact hP, va_K.moved hW.alike hK, hD⟩, hS.F ht⟩) hS.2.2 dX12_skip_127
  have note : ∀ (k j : Nat), j ≤ n → n - j ≤ k → ∀ (H : Heap) (locs : List Loc) (ls : Array Slot), va_P (dC, dI) nCl [((a 0), .inr (11, gL a u w (nI n) (nI j))), ((a 3), .inl (cy 1, 32768, .inl f))] H → va_D A [((a 0), .inr (11, gL a u w (nI n) (nI j))), ((a 3), .inl (cy 1, 32768, .inl f))] → va_S A s.heap H locs → lv_has ls 3 [(1, .int 1), (0, .ref (a 0))] → (∀ (H : Heap) (locs : List Loc) (ls : Array Slot), va_P (dC, dI) nCl [((a 0), .inr (11, gL a u w (nI n) (nI (noteEnd f n k j)))), ((a 3), .inl (cy 1, 32768, .inl f))] H → va_D A [((a 0), .inr (11, gL a u w (nI n) (nI (noteEnd f n k j)))), ((a 3), .inl (cy 1, 32768, .inl f))] → va_S A s.heap H locs → lv_has ls 3 [(1, .int 1), (0, .ref (a 0))] → W p l e (headSpec w_a_skip ({ frames := 1, cells := 0, slots := 0, locals := 21 })).room s m #[.ref (a 0)] below meth c H locs 0 0 (MQ below (va_Qv (fun _ : Unit => True) (fun _ t => nOut (dC, dI) cy A (vL cy a u w f (nI n) (nI (skipTo f n (n - i + 1) i))) t) A) #[.ref (a 0)] s 0 0 A) (F0 m 124 ls [])) → W p l e (headSpec w_a_skip ({ frames := 1, cells := 0, slots := 0, locals := 21 })).room s m #[.ref (a 0)] below meth c H locs 0 0 (MQ below (va_Qv (fun _ : Unit => True) (fun _ t => nOut (dC, dI) cy A (vL cy a u w f (nI n) (nI (skipTo f n (n - i + 1) i))) t) A) #[.ref (a 0)] s 0 0 A) (F0 m 84 ls []) := by
    intro k
    induction k with
    | zero =>
      intro j h1 h2 H locs ls hP hD hS hl kk
      refine lv_aload_n hx hb dX12_skip_84 rfl (lv_at hl 1 rfl) ?_
      refine va_get (D := (dC, dI)) (ci := 11) (v := .int (nI j)) (C := RX12) (T := TX12) (N := 121) hx hb hts in_a_skip_X12 hown hK hP 0 rfl rfl 5 (by decide) (hts _ (List.mem_cons_of_mem _ (List.mem_append_left _ (List.mem_append_left _ (List.mem_of_getElem? (i := 0) rfl))))) (fun _ h9 => h9) rfl dX12_skip_85 ?_
      refine lv_aload_n hx hb dX12_skip_88 rfl (lv_at hl 1 rfl) ?_
      refine va_get (D := (dC, dI)) (ci := 11) (v := .int (nI n)) (C := RX12) (T := TX12) (N := 121) hx hb hts in_a_skip_X12 hown hK hP 0 rfl rfl 4 (by decide) (hts _ (List.mem_cons_of_mem _ (List.mem_append_left _ (List.mem_append_left _ (List.mem_of_getElem? (i := 1) rfl))))) (fun _ h9 => h9) rfl dX12_skip_89 ?_
      refine lv_icmp_ge (tgt := 124) hx hb dX12_skip_92 (by decide) (fun _ => kk H locs ls hP hD hS hl) (fun c1 => absurd (nI_le (by omega) (by omega)) c1)
    | succ k ih =>
      intro j h1 h2 H locs ls hP hD hS hl kk
      unfold noteEnd at kk
      refine lv_aload_n hx hb dX12_skip_84 rfl (lv_at hl 1 rfl) ?_
      refine va_get (D := (dC, dI)) (ci := 11) (v := .int (nI j)) (C := RX12) (T := TX12) (N := 121) hx hb hts in_a_skip_X12 hown hK hP 0 rfl rfl 5 (by decide) (hts _ (List.mem_cons_of_mem _ (List.mem_append_left _ (List.mem_append_left _ (List.mem_of_getElem? (i := 0) rfl))))) (fun _ h9 => h9) rfl dX12_skip_85 ?_
      refine lv_aload_n hx hb dX12_skip_88 rfl (lv_at hl 1 rfl) ?_
      refine va_get (D := (dC, dI)) (ci := 11) (v := .int (nI n)) (C := RX12) (T := TX12) (N := 121) hx hb hts in_a_skip_X12 hown hK hP 0 rfl rfl 4 (by decide) (hts _ (List.mem_cons_of_mem _ (List.mem_append_left _ (List.mem_append_left _ (List.mem_of_getElem? (i := 1) rfl))))) (fun _ h9 => h9) rfl dX12_skip_89 ?_
      refine lv_icmp_ge (tgt := 124) hx hb dX12_skip_92 (by decide) (fun c1 => ?_) (fun c1 => ?_)
      · have c2 : n ≤ j := nI_le_of (by omega) c1
        rw [if_neg (by omega)] at kk
        exact kk H locs ls hP hD hS hl
      · have c2 : j < n := nI_lt_of (by omega) c1
        refine lv_aload_n hx hb dX12_skip_95 rfl (lv_at hl 1 rfl) ?_
        refine va_get (D := (dC, dI)) (ci := 11) (v := .ref (a 3)) (C := RX12) (T := TX12) (N := 121) hx hb hts in_a_skip_X12 hown hK hP 0 rfl rfl 3 (by decide) (hts _ (List.mem_cons_of_mem _ (List.mem_append_left _ (List.mem_append_left _ (List.mem_of_getElem? (i := 2) rfl))))) (fun _ h9 => h9) rfl dX12_skip_96 ?_
        refine lv_aload_n hx hb dX12_skip_99 rfl (lv_at hl 1 rfl) ?_
        refine va_get (D := (dC, dI)) (ci := 11) (v := .int (nI j)) (C := RX12) (T := TX12) (N := 121) hx hb hts in_a_skip_X12 hown hK hP 0 rfl rfl 5 (by decide) (hts _ (List.mem_cons_of_mem _ (List.mem_append_left _ (List.mem_append_left _ (List.mem_of_getElem? (i := 0) rfl))))) (fun _ h9 => h9) rfl dX12_skip_100 ?_
        refine va_iald hx hb hK hP 1 1 rfl rfl (vp_in_nI (by omega) (by omega)) dX12_skip_103 ?_
        rw [nI_clamp (by omega)]
        refine lv_bipush (v := 10) hx hb dX12_skip_104 (by decide) ?_
        refine lv_icmp_eq (tgt := 124) hx hb dX12_skip_106 (by decide) (fun c3 => ?_) (fun c3 => ?_)
        · rw [if_neg (fun q => q.2 c3)] at kk
          exact kk H locs ls hP hD hS hl
        · rw [if_pos ⟨c2, c3⟩] at kk
          refine lv_aload_n hx hb dX12_skip_109 rfl (lv_at hl 1 rfl) ?_
          refine lv_dup hx hb dX12_skip_110 rfl ?_
          refine va_get (D := (dC, dI)) (ci := 11) (v := .int (nI j)) (C := RX12) (T := TX12) (N := 121) hx hb hts in_a_skip_X12 hown hK hP 0 rfl rfl 5 (by decide) (hts _ (List.mem_cons_of_mem _ (List.mem_append_left _ (List.mem_append_left _ (List.mem_of_getElem? (i := 0) rfl))))) (fun _ h9 => h9) rfl dX12_skip_111 ?_
          refine lv_iconst (v := 1) hx hb dX12_skip_114 (by decide) ?_
          refine lv_iadd hx hb dX12_skip_115 ?_
          rw [← nI_succ]
          refine va_put (D := (dC, dI)) (ci := 11) (v := .int (nI (j + 1))) (ty := .int) (C := RX12) (T := TX12) (N := 121) hx hb hts in_a_skip_X12 tyX12 tyX12_ok nmX12 hown hK hP hD hS 0 rfl rfl 5 (by decide) (hts _ (List.mem_cons_of_mem _ (List.mem_append_left _ (List.mem_append_left _ (List.mem_of_getElem? (i := 0) rfl))))) (fun _ h9 => h9) rfl (by decide +kernel) rfl rfl (Nat.le_of_ble_eq_true rfl) dX12_skip_116 (fun H locs hP hD hS => ?_)
          have hP : va_P (dC, dI) nCl [((a 0), .inr (11, gL a u w (nI n) (nI (j + 1)))), ((a 3), .inl (cy 1, 32768, .inl f))] H := hP
          have hD : va_D A [((a 0), .inr (11, gL a u w (nI n) (nI (j + 1)))), ((a 3), .inl (cy 1, 32768, .inl f))] := hD
          refine lv_goto (tgt := 84) hx hb dX12_skip_119 (by decide) ?_
          exact ih (j + 1) c2 (by omega) H locs ls hP hD hS hl kk
  have loop : ∀ (k j : Nat), j ≤ n → n - j < k → skipTo f n k j = skipTo f n (n - i + 1) i → ∀ (H : Heap) (locs : List Loc) (ls : Array Slot), va_P (dC, dI) nCl [((a 0), .inr (11, gL a u w (nI n) (nI j))), ((a 3), .inl (cy 1, 32768, .inl f))] H → va_D A [((a 0), .inr (11, gL a u w (nI n) (nI j))), ((a 3), .inl (cy 1, 32768, .inl f))] → va_S A s.heap H locs → lv_has ls 3 [(1, .int 1), (0, .ref (a 0))] → W p l e (headSpec w_a_skip ({ frames := 1, cells := 0, slots := 0, locals := 21 })).room s m #[.ref (a 0)] below meth c H locs 0 0 (MQ below (va_Qv (fun _ : Unit => True) (fun _ t => nOut (dC, dI) cy A (vL cy a u w f (nI n) (nI (skipTo f n (n - i + 1) i))) t) A) #[.ref (a 0)] s 0 0 A) (F0 m 2 ls []) := by
    intro k
    induction k with
    | zero => intro j h1 h2; omega
    | succ k ih =>
      intro j h1 h2 hk2 H locs ls hP hD hS hl
      unfold skipTo at hk2
      refine lv_iload_n hx hb dX12_skip_2 rfl (lv_at hl 0 rfl) ?_
      refine lv_if_eq (tgt := 127) hx hb dX12_skip_3 (by decide) (fun c1 => False.elim (by revert c1; decide)) (fun _ => ?_)
      refine lv_aload_n hx hb dX12_skip_6 rfl (lv_at hl 1 rfl) ?_
      refine lv_aload_n hx hb dX12_skip_7 rfl (lv_at hl 1 rfl) ?_
      refine va_get (D := (dC, dI)) (ci := 11) (v := .int (nI j)) (C := RX12) (T := TX12) (N := 121) hx hb hts in_a_skip_X12 hown hK hP 0 rfl rfl 5 (by decide) (hts _ (List.mem_cons_of_mem _ (List.mem_append_left _ (List.mem_append_left _ (List.mem_of_getElem? (i := 0) rfl))))) (fun _ h9 => h9) rfl dX12_skip_8 ?_
      have hFc := va_free (wc := [((a 0), .inr (11, gL a u w (nI n) (nI j))), ((a 3), .inl (cy 1, 32768, .inl f))]) hD hS hA [0, 1] rfl
      refine va_calli (va_runV (As := [.int (nI j)]) (rest := []) ⟨hx, hb, hml, hown, hts⟩ (a_byteAt l dC dI cy a u w f n j (nI j) hn (by omega) H.size) (cwV 1 hts g_a_skip_byteAt rfl rfl rfl (by decide +kernel) ⟨Nat.le_of_ble_eq_true rfl, Nat.le_of_ble_eq_true rfl⟩) ⟨nb_blind, va_recv hK hP (ci := 11) (q0 := 0) rfl rfl, fun U hU hW => ⟨rfl, by rw [hU], by rw [hU]; exact hP, va_K.moved hW.alike hK, hD.weaken (fun _ _ _ _ => trivial), hG.warm hW⟩⟩ rfl rfl hl.1 rfl (lv_room (Nat.le_of_ble_eq_true rfl)) dX12_skip_11 ⟨Nat.le_of_ble_eq_true rfl, Nat.le_of_ble_eq_true rfl⟩) hS (fun q _ h => hFc q h) hFc (fun r_1 _ t H1 locs ht hvm hw hB hz1 hk1 hS => ?_)
      subst hw
      obtain ⟨hP1, hK1, hD1⟩ := hB
      rw [ht] at hP1
      obtain ⟨hP, hD⟩ := va_join (wr := []) (w1 := vL cy a u w f (nI n) (nI j)) hP hD [0, 1] [] rfl rfl (by decide) (by decide) hk1 hFc hP1 hD1
      generalize H1 = H at hP hS ⊢
      have hP : va_P (dC, dI) nCl [((a 0), .inr (11, gL a u w (nI n) (nI j))), ((a 3), .inl (cy 1, 32768, .inl f))] H := hP
      have hD : va_D A [((a 0), .inr (11, gL a u w (nI n) (nI j))), ((a 3), .inl (cy 1, 32768, .inl f))] := hD
      refine lv_istore_n (lv' := [(2, .int (spB f n j)), (1, .int 1), (0, .ref (a 0))]) hx hb dX12_skip_14 rfl hl (by decide) rfl (fun ls hl => ?_)
      refine lv_aload_n hx hb dX12_skip_15 rfl (lv_at hl 2 rfl) ?_
      refine va_get (D := (dC, dI)) (ci := 11) (v := .int (nI j)) (C := RX12) (T := TX12) (N := 121) hx hb hts in_a_skip_X12 hown hK hP 0 rfl rfl 5 (by decide) (hts _ (List.mem_cons_of_mem _ (List.mem_append_left _ (List.mem_append_left _ (List.mem_of_getElem? (i := 0) rfl))))) (fun _ h9 => h9) rfl dX12_skip_16 ?_
      refine lv_aload_n hx hb dX12_skip_19 rfl (lv_at hl 2 rfl) ?_
      refine va_get (D := (dC, dI)) (ci := 11) (v := .int (nI n)) (C := RX12) (T := TX12) (N := 121) hx hb hts in_a_skip_X12 hown hK hP 0 rfl rfl 4 (by decide) (hts _ (List.mem_cons_of_mem _ (List.mem_append_left _ (List.mem_append_left _ (List.mem_of_getElem? (i := 1) rfl))))) (fun _ h9 => h9) rfl dX12_skip_20 ?_
      have blank : j < n ∧ isBl (spB f n j) → W p l e (headSpec w_a_skip ({ frames := 1, cells := 0, slots := 0, locals := 21 })).room s m #[.ref (a 0)] below meth c H locs 0 0 (MQ below (va_Qv (fun _ : Unit => True) (fun _ t => nOut (dC, dI) cy A (vL cy a u w f (nI n) (nI (skipTo f n (n - i + 1) i))) t) A) #[.ref (a 0)] s 0 0 A) (F0 m 50 ls []) := by
        intro q
        rw [if_pos q] at hk2
        refine lv_aload_n hx hb dX12_skip_50 rfl (lv_at hl 2 rfl) ?_
        refine lv_dup hx hb dX12_skip_51 rfl ?_
        refine va_get (D := (dC, dI)) (ci := 11) (v := .int (nI j)) (C := RX12) (T := TX12) (N := 121) hx hb hts in_a_skip_X12 hown hK hP 0 rfl rfl 5 (by decide) (hts _ (List.mem_cons_of_mem _ (List.mem_append_left _ (List.mem_append_left _ (List.mem_of_getElem? (i := 0) rfl))))) (fun _ h9 => h9) rfl dX12_skip_52 ?_
        refine lv_iconst (v := 1) hx hb dX12_skip_55 (by decide) ?_
        refine lv_iadd hx hb dX12_skip_56 ?_
        rw [← nI_succ]
        refine va_put (D := (dC, dI)) (ci := 11) (v := .int (nI (j + 1))) (ty := .int) (C := RX12) (T := TX12) (N := 121) hx hb hts in_a_skip_X12 tyX12 tyX12_ok nmX12 hown hK hP hD hS 0 rfl rfl 5 (by decide) (hts _ (List.mem_cons_of_mem _ (List.mem_append_left _ (List.mem_append_left _ (List.mem_of_getElem? (i := 0) rfl))))) (fun _ h9 => h9) rfl (by decide +kernel) rfl rfl (Nat.le_of_ble_eq_true rfl) dX12_skip_57 (fun H locs hP hD hS => ?_)
        have hP : va_P (dC, dI) nCl [((a 0), .inr (11, gL a u w (nI n) (nI (j + 1)))), ((a 3), .inl (cy 1, 32768, .inl f))] H := hP
        have hD : va_D A [((a 0), .inr (11, gL a u w (nI n) (nI (j + 1)))), ((a 3), .inl (cy 1, 32768, .inl f))] := hD
        refine lv_goto (tgt := 124) hx hb dX12_skip_60 (by decide) ?_
        refine lv_goto (tgt := 2) hx hb dX12_skip_124 (by decide) ?_
        exact ih (j + 1) q.1 (by omega) hk2 H locs ls hP hD hS (lv_sub hl [1, 2] rfl)
      have other : ¬ (j < n ∧ isBl (spB f n j)) → W p l e (headSpec w_a_skip ({ frames := 1, cells := 0, slots := 0, locals := 21 })).room s m #[.ref (a 0)] below meth c H locs 0 0 (MQ below (va_Qv (fun _ : Unit => True) (fun _ t => nOut (dC, dI) cy A (vL cy a u w f (nI n) (nI (skipTo f n (n - i + 1) i))) t) A) #[.ref (a 0)] s 0 0 A) (F0 m 63 ls []) := by
        intro q
        rw [if_neg q] at hk2
        refine lv_iload_n hx hb dX12_skip_63 rfl (lv_at hl 0 rfl) ?_
        refine lv_bipush (v := 45) hx hb dX12_skip_64 (by decide) ?_
        refine lv_icmp_ne (tgt := 122) hx hb dX12_skip_66 (by decide) (fun c3 => ?_) (fun c3 => ?_)
        · rw [if_neg (fun q => c3 q.1)] at hk2
          exact fin j hk2 H locs ls hP hD hS (lv_sub hl [2] rfl)
        · have c3 : spB f n j = 45 := by simpa using c3
          refine lv_aload_n hx hb dX12_skip_69 rfl (lv_at hl 2 rfl) ?_
          refine lv_aload_n hx hb dX12_skip_70 rfl (lv_at hl 2 rfl) ?_
          refine va_get (D := (dC, dI)) (ci := 11) (v := .int (nI j)) (C := RX12) (T := TX12) (N := 121) hx hb hts in_a_skip_X12 hown hK hP 0 rfl rfl 5 (by decide) (hts _ (List.mem_cons_of_mem _ (List.mem_append_left _ (List.mem_append_left _ (List.mem_of_getElem? (i := 0) rfl))))) (fun _ h9 => h9) rfl dX12_skip_71 ?_
          refine lv_iconst (v := 1) hx hb dX12_skip_74 (by decide) ?_
          refine lv_iadd hx hb dX12_skip_75 ?_
          rw [← nI_succ]
          have hFc := va_free (wc := [((a 0), .inr (11, gL a u w (nI n) (nI j))), ((a 3), .inl (cy 1, 32768, .inl f))]) hD hS hA [0, 1] rfl
          refine va_calli (va_runV (As := [.int (nI (j + 1))]) (rest := []) ⟨hx, hb, hml, hown, hts⟩ (a_byteAt l dC dI cy a u w f n (j + 1) (nI j) hn (by omega) H.size) (cwV 1 hts g_a_skip_byteAt rfl rfl rfl (by decide +kernel) ⟨Nat.le_of_ble_eq_true rfl, Nat.le_of_ble_eq_true rfl⟩) ⟨nb_blind, va_recv hK hP (ci := 11) (q0 := 0) rfl rfl, fun U hU hW => ⟨rfl, by rw [hU], by rw [hU]; exact hP, va_K.moved hW.alike hK, hD.weaken (fun _ _ _ _ => trivial), hG.warm hW⟩⟩ rfl rfl hl.1 rfl (lv_room (Nat.le_of_ble_eq_true rfl)) dX12_skip_76 ⟨Nat.le_of_ble_eq_true rfl, Nat.le_of_ble_eq_true rfl⟩) hS (fun q _ h => hFc q h) hFc (fun r_2 _ t H1 locs ht hvm hw hB hz1 hk1 hS => ?_)
          subst hw
          obtain ⟨hP1, hK1, hD1⟩ := hB
          rw [ht] at hP1
          obtain ⟨hP, hD⟩ := va_join (wr := []) (w1 := vL cy a u w f (nI n) (nI j)) hP hD [0, 1] [] rfl rfl (by decide) (by decide) hk1 hFc hP1 hD1
          generalize H1 = H at hP hS ⊢
          have hP : va_P (dC, dI) nCl [((a 0), .inr (11, gL a u w (nI n) (nI j))), ((a 3), .inl (cy 1, 32768, .inl f))] H := hP
          have hD : va_D A [((a 0), .inr (11, gL a u w (nI n) (nI j))), ((a 3), .inl (cy 1, 32768, .inl f))] := hD
          refine lv_bipush (v := 45) hx hb dX12_skip_79 (by decide) ?_
          refine lv_icmp_ne (tgt := 122) hx hb dX12_skip_81 (by decide) (fun c4 => ?_) (fun c4 => ?_)
          · rw [if_neg (fun q => c4 q.2)] at hk2
            exact fin j hk2 H locs ls hP hD hS (lv_sub hl [2] rfl)
          · have c4 : spB f n (j + 1) = 45 := by simpa using c4
            rw [if_pos ⟨c3, c4⟩] at hk2
            have hj : j < n := by
              rcases Nat.lt_or_ge j n with q | q
              · exact q
              · unfold spB at c3; rw [if_neg (by omega)] at c3; exact absurd c3 (by decide)
            have hf : f j ≠ 10 := by
              intro q5; unfold spB at c3; rw [if_pos hj, q5] at c3; exact absurd c3 (by decide)
            have hb1 := noteEnd_lt hj hf
            have hb2 := (noteEnd_le f n (n - j) j h1).2
            refine note (n - j) j h1 (Nat.le_refl _) H locs ls hP hD hS (lv_sub hl [1, 2] rfl) (fun H locs ls hP hD hS hl => ?_)
            refine lv_goto (tgt := 2) hx hb dX12_skip_124 (by decide) ?_
            exact ih _ hb2 (by omega) hk2 H locs ls hP hD hS hl
      refine lv_icmp_ge (tgt := 63) hx hb dX12_skip_23 (by decide) (fun c1 => ?_) (fun c1 => ?_)
      · have c2 : n ≤ j := nI_le_of (by omega) c1
        exact other (fun q => absurd q.1 (by omega))
      · have c2 : j < n := nI_lt_of (by omega) c1
        refine lv_iload_n hx hb dX12_skip_26 rfl (lv_at hl 0 rfl) ?_
        refine lv_bipush (v := 9) hx hb dX12_skip_27 (by decide) ?_
        refine lv_icmp_eq (tgt := 50) hx hb dX12_skip_29 (by decide) (fun e9 => blank ⟨c2, Or.inl e9⟩) (fun e9 => ?_)
        refine lv_iload_n hx hb dX12_skip_32 rfl (lv_at hl 0 rfl) ?_
        refine lv_bipush (v := 10) hx hb dX12_skip_33 (by decide) ?_
        refine lv_icmp_eq (tgt := 50) hx hb dX12_skip_35 (by decide) (fun e10 => blank ⟨c2, Or.inr (Or.inl e10)⟩) (fun e10 => ?_)
        refine lv_iload_n hx hb dX12_skip_38 rfl (lv_at hl 0 rfl) ?_
        refine lv_bipush (v := 13) hx hb dX12_skip_39 (by decide) ?_
        refine lv_icmp_eq (tgt := 50) hx hb dX12_skip_41 (by decide) (fun e13 => blank ⟨c2, Or.inr (Or.inr (Or.inl e13))⟩) (fun e13 => ?_)
        refine lv_iload_n hx hb dX12_skip_44 rfl (lv_at hl 0 rfl) ?_
        refine lv_bipush (v := 32) hx hb dX12_skip_45 (by decide) ?_
        refine lv_icmp_ne (tgt := 63) hx hb dX12_skip_47 (by decide) (fun e32 => ?_) (fun e32 => ?_)
        · exact other (fun q => q.2.elim e9 (fun h => h.elim e10 (fun h => h.elim e13 e32)))
        · exact blank ⟨c2, Or.inr (Or.inr (Or.inr (by simpa using e32)))⟩
  refine lv_iconst (v := 1) hx hb dX12_skip_0 (by decide) ?_
  refine lv_istore_n (lv' := [(1, .int 1), (0, .ref (a 0))]) hx hb dX12_skip_1 rfl hl (by decide) rfl (fun ls hl => ?_)
  exact loop (n - i + 1) i hi (by omega) rfl _ _ ls hP hD hS hl

/-! What does not change: statics, texts; k: where they lie. -/
def sx0 : List Int32 := [118, 97, 114, 32, 112, 114, 111, 99, 32, 102, 117, 110, 99, 32, 114, 100, 32, 119, 114, 32, 114, 119, 32, 101, 110, 100, 32, 105, 102, 32, 116, 104, 101, 110, 32, 101, 108, 115, 101, 105, 102, 32, 101, 108, 115, 101, 32, 119, 104, 105, 108, 101, 32, 100, 111, 32, 102, 111, 114, 32, 105, 110, 32, 110, 111, 116, 105, 110, 32, 115, 117, 98, 115, 101, 116, 32, 113, 117, 105, 116, 32, 99, 111, 110, 116, 105, 110, 117, 101, 32, 114, 101, 116, 117, 114, 110, 32, 112, 114, 105, 110, 116, 32, 97, 115, 115, 101, 114, 116, 32, 115, 116, 111, 112, 32, 115, 117, 99, 99, 101, 101, 100, 32, 102, 97, 105, 108, 32, 102, 114, 111, 109, 32, 102, 114, 111, 109, 98, 32, 102, 114, 111, 109, 101, 32, 111, 109, 32, 116, 114, 117, 101, 32, 102, 97, 108, 115, 101, 32, 111, 107, 32, 97, 110, 100, 32, 111, 114, 32, 110, 111, 116, 32, 100, 105, 118, 32, 109, 111, 100, 32, 101, 120, 105, 115, 116, 115, 32, 102, 111, 114, 97, 108, 108, 32, 97, 98, 115, 32, 97, 114, 98, 32, 100, 111, 109, 97, 105, 110, 32, 114, 97, 110, 103, 101, 32, 112, 111, 119, 32, 116, 121, 112, 101, 32, 115, 116, 114, 32, 99, 104, 97, 114, 32, 99, 111, 100, 101, 32, 109, 105, 110, 32, 109, 97, 120, 32, 114, 101, 118, 32, 110, 101, 119, 97, 116, 32, 114, 97, 110, 100, 111, 109, 32]
def sx1 : List Int32 := [116, 114, 117, 116, 104]
def sx2 : List Int32 := [119, 104, 111, 108, 101]
def sx3 : List Int32 := [97, 116, 111, 109]
def sx4 : List Int32 := [115, 116, 114, 105, 110, 103]
def sx5 : List Int32 := [116, 117, 112, 108, 101]
def sx6 : List Int32 := [115, 101, 116]
def sx7 : List Int32 := [111, 109]
def sx8 : List Int32 := [116, 114, 117, 101]
def sx9 : List Int32 := [102, 97, 108, 115, 101]
def sxL : List Nat := [264, 5, 5, 4, 6, 5, 3, 2, 4, 5]
def sxB : List (List Int32) := [sx0, sx1, sx2, sx3, sx4, sx5, sx6, sx7, sx8, sx9]
def sxR : List (String × Nat × String × Nat) := [("SetHouse$Lexer", 19, "var proc func rd wr rw end if then elseif else while do for in notin subset quit continue return print assert stop succeed fail from fromb frome om true false ok and or not div mod exists forall abs arb domain range pow type str char code min max rev newat random ", 0), ("SetHouse$Algebra", 230, "truth", 1), ("SetHouse$Algebra", 231, "whole", 2), ("SetHouse$Algebra", 233, "atom", 3), ("SetHouse$Algebra", 235, "string", 4), ("SetHouse$Algebra", 237, "tuple", 5), ("SetHouse$Algebra", 239, "set", 6), ("SetHouse$Algebra", 241, "om", 7), ("SetHouse$Printer", 41, "true", 8), ("SetHouse$Printer", 43, "false", 9), ("SetHouse$Printer", 66, "om", 7)]
def lxC : List Int32 := [0, 0, 0, 0, 0, 0, 0, 0, 0, 31, 31, 0, 0, 31, 0, 0, 0, 0, 0, 0, 0, 0, 0, 0, 0, 0, 0, 0, 0, 0, 0, 0, 31, 0, 4, 26, 0, 0, 0, 0, 10, 11, 8, 6, 16, 7, 29, 27, 3, 3, 3, 3, 3, 3, 3, 3, 3, 3, 18, 17, 22, 20, 24, 0, 0, 2, 2, 2, 2, 2, 2, 2, 2, 2, 2, 2, 2, 2, 2, 2, 2, 2, 2, 2, 2, 2, 2, 2, 2, 2, 2, 14, 0, 15, 0, 30, 0, 2, 2, 2, 2, 2, 2, 2, 2, 2, 2, 2, 2, 2, 2, 2, 2, 2, 2, 2, 2, 2, 2, 2, 2, 2, 2, 12, 19, 13, 0, 0]
def nE (k : Nat → Nat) (A : Nat → Prop) (U : State) (H : Heap) : Prop :=
  va_Z "java/lang/String" "COMPACT_STRINGS" "Z" (.int 1) A U H ∧ va_Zq "jdk/internal/util/Preconditions" "SIOOBE_FORMATTER" "Ljava/util/function/BiFunction;" A U H ∧ vk_S 10 sxL sxB (fun i => k (2 * i)) (fun i => k (2 * i + 1)) A U H ∧ (∀ q ∈ sxR, vk_R q.1 q.2.1 q.2.2.1 (k (2 * q.2.2.2)) U) ∧ va_Z "SetHouse$Lexer" "CLASSES" "[B" (.ref (k 20)) A U H ∧ va_T .byte (k 20) 128 (fun j => .int (lxC.getD j 0)) A U H
theorem nE.to {k : Nat → Nat} {A B : Nat → Prop} {s U : State} {H : Heap} {locs : List Loc} (h : nE k A s s.heap) (hS : va_S A s.heap H locs) (hW : s.WarmedH U.vm) (hU : U.heap = H) (hAB : ∀ q, B q → A q) : nE k B U U.heap := by
  obtain ⟨h1, h2, h3, h4, h5, h6⟩ := h
  rw [hU]
  exact ⟨((h1.kept hS.2.1).moved hW.alike).narrow hAB, ((h2.kept hS.2.1).moved hW.alike).narrow hAB, ((h3.kept hS.2.1).moved hW.alike).narrow hAB, fun q hq => (h4 q hq).warm hW, ((h5.kept hS.2.1).moved hW.alike).narrow hAB, ((h6.kept hS.2.1).moved hW.alike).narrow hAB⟩
theorem nE.same {k : Nat → Nat} {A : Nat → Prop} {u U : State} (h : nE k A u u.heap) (e : u.vm = U.vm) (e2 : u.heap = U.heap) : nE k A U U.heap := by
  obtain ⟨h1, h2, h3, h4, h5, h6⟩ := h
  have ha : u.vm.Alike U.vm := e ▸ Vm.Alike.refl u.vm
  rw [← e2]
  exact ⟨h1.moved ha, h2.moved ha, h3.moved ha, fun q hq => (h4 q hq).same e.symm, h5.moved ha, h6.moved ha⟩
abbrev nInE (D : va_G) (cy : Nat → ClassId) (k : Nat → Nat) (sz : Nat) (ws : va_W) : State → Prop := fun U => nIn D cy sz ws U ∧ nE k (va_A ws sz) U U.heap
theorem nb_blindE {D : va_G} {cy : Nat → ClassId} {k : Nat → Nat} {sz : Nat} {ws : va_W} {av : List Value} : FrameBlind (va_Pc av (nInE D cy k sz ws)) := fun a U g mk q => by
  obtain ⟨q0, ⟨q1, qP, qK, qD, qG⟩, qE⟩ := q
  exact ⟨q0, ⟨q1, qP, va_K.moved (u := U) (U := U.calling g mk a) (Vm.Alike.refl U.vm) qK, qD, nG.same (U := U.calling g mk a) qG rfl⟩, nE.same (U := U.calling g mk a) qE rfl rfl⟩
def nThrW : List Cond := [.castable "java/lang/IllegalStateException" "java/lang/IllegalStateException", .castable "java/lang/IllegalArgumentException" "java/lang/IllegalArgumentException", .castable "java/lang/IndexOutOfBoundsException" "java/lang/IndexOutOfBoundsException", .castable "java/lang/UnsupportedOperationException" "java/lang/UnsupportedOperationException", .declares (Bundle.init0 "java/lang/RuntimeException"), .declares (Bundle.init0 "java/lang/Exception"), .declares (Bundle.init0 Bundle.tN)]
/-- what throws rest on -/
def nT (A : Nat → Prop) (U : State) (H : Heap) : Prop := vx_Zq Bundle.tN "UNASSIGNED_STACK" Bundle.steD A U H ∧ vx_Zq Bundle.tN "SUPPRESSED_SENTINEL" Bundle.listD A U H ∧ (∀ w ∈ nThrW, va_Nw w U) ∧ va_Nc "java/lang/IllegalStateException" "java/lang/IndexOutOfBoundsException" U
theorem nThr_tab : ∀ w ∈ nThrW, w.onTables = true := by decide +kernel
theorem nThr_warm {w : Cond} (h : w ∈ nThrW) {s U : State} (hW : s.WarmedH U.vm) (hZ : va_Nw w s) : va_Nw w U := by
  simp only [nThrW, List.mem_cons, List.not_mem_nil, or_false] at h
  rcases h with rfl | rfl | rfl | rfl | rfl | rfl | rfl <;> first | exact va_Nw.warmC hW hZ | exact va_Nw.warmD hW hZ
theorem nT.to {A B : Nat → Prop} {s U : State} {H : Heap} {locs : List Loc} (h : nT A s s.heap) (hS : va_S A s.heap H locs) (hW : s.WarmedH U.vm) (hU : U.heap = H) (hAB : ∀ q, B q → A q) : nT B U U.heap := by
  obtain ⟨h1, h2, h3, h4⟩ := h
  rw [hU]
  exact ⟨((h1.kept hS.2.1).moved hW.alike).narrow hAB, ((h2.kept hS.2.1).moved hW.alike).narrow hAB, fun w hw => nThr_warm hw hW (h3 w hw), h4.moved hW.alike⟩
theorem nT.same {A : Nat → Prop} {u U : State} (h : nT A u u.heap) (e : u.vm = U.vm) (e2 : u.heap = U.heap) : nT A U U.heap := by
  obtain ⟨h1, h2, h3, h4⟩ := h
  have ha : u.vm.Alike U.vm := e ▸ Vm.Alike.refl u.vm
  rw [← e2]
  exact ⟨h1.moved ha, h2.moved ha, fun w hw => va_Nw.same (nThr_tab w hw) e (h3 w hw), h4.moved ha⟩
abbrev nInF (D : va_G) (cy : Nat → ClassId) (k : Nat → Nat) (sz : Nat) (ws : va_W) : State → Prop := fun U => nInE D cy k sz ws U ∧ nT (va_A ws sz) U U.heap
theorem nb_blindF {D : va_G} {cy : Nat → ClassId} {k : Nat → Nat} {sz : Nat} {ws : va_W} {av : List Value} : FrameBlind (va_Pc av (nInF D cy k sz ws)) := fun a U g mk q => by
  obtain ⟨q0, ⟨⟨q1, qP, qK, qD, qG⟩, qE⟩, qT⟩ := q
  exact ⟨q0, ⟨⟨q1, qP, va_K.moved (u := U) (U := U.calling g mk a) (Vm.Alike.refl U.vm) qK, qD, nG.same (U := U.calling g mk a) qG rfl⟩, nE.same (U := U.calling g mk a) qE rfl rfl⟩, nT.same (U := U.calling g mk a) qT rfl rfl⟩
theorem nb_fg (x : List Cond) : (x.filter goodWord).all goodWord = true := by
  rw [List.all_eq_true]
  intro w hw
  exact (List.mem_filter.mp hw).2
theorem nb_nil {D : va_G} {cl : List vw_C} {H : Heap} : va_P D cl [] H := fun k q h => by simp at h
theorem nb_nilD {A : Nat → Prop} : va_D A [] := ⟨fun i j p q h => by simp at h, fun k q h => by simp at h⟩

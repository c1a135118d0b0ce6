/-! newAtom -/
def x_newAtom : Nat → Nat → (Nat → Int32) → MS → Option (Int32 × MS)
  | 0, _, _, _ => none
  | k + 1, 0, L, σ => if ((σ.1 95)) = 1000000 then (ob (x_fail k 0 (upd (fun _ => 0) 1 6) σ) (fun r2 => some (0, r2.2))) else (x_newAtom k 1 L σ)
  | k + 1, 1, L, σ => x_newAtom k 2 L (upd σ.1 95 ((((σ.1 95)) + 1)), σ.2.1, σ.2.2)
  | k + 1, 2, L, σ => ob (x_make k 0 (upd (upd (fun _ => 0) 1 3) 2 1) σ) (fun r1 => if ((r1.2.1 56)) ≤ 0 then (x_newAtom k 3 (upd L 1 r1.1) r1.2) else (some (0, r1.2)))
  | k + 1, 3, L, σ => if ¬ (((((L 1)) + 4)) < 0 ∨ 1740000 ≤ ((((L 1)) + 4)).toNatClampNeg) then (x_newAtom k 4 L (σ.1, σ.2.1, updG σ.2.2 28 (upd (σ.2.2 28) ((((L 1)) + 4)).toNatClampNeg ((σ.1 95))))) else none
  | k + 1, 4, L, σ => some ((L 1), σ)
  | _ + 1, _ + 5, _, _ => none
def o_x_newAtom : List Cond := [.fieldLink RX12 681 "SetHouseModel" "atoms" "I", .constant RX12 684 (1000000), .methodLink RX12 369 yX12_fail, .instanceMethod yX12_fail, .selects RX12 yX12_fail yX12_fail, .initialized RX12, .methodLink RX12 429 yX12_make, .instanceMethod yX12_make, .selects RX12 yX12_make yX12_make, .fieldLink RX12 362 "SetHouseModel" "err" "I", .fieldLink RX12 372 "SetHouseModel" "heap" "[I"]
theorem o_x_newAtom_good : o_x_newAtom.all goodWord = true := by decide +kernel
def p_x_newAtom : List Cond := o_x_newAtom ++ ((.code yX12_fail cX12_fail 2 none :: p_x_fail) ++ ((.code yX12_make cX12_make 4 (some .int) :: p_x_make) ++ []))
theorem p_x_newAtom_good : p_x_newAtom.all goodWord = true := nb_all2 o_x_newAtom_good (nb_all2 (nb_allc (by decide +kernel) p_x_fail_good) (nb_all2 (nb_allc (by decide +kernel) p_x_make_good) rfl))
def w_x_newAtom : List Cond := .code yX12_newAtom cX12_newAtom 2 (some .int) :: (p_x_newAtom ++ fM)
theorem w_x_newAtom_good : w_x_newAtom.all goodWord = true := nb_allc (by decide +kernel) (nb_all2 p_x_newAtom_good fM_good)
theorem in_x_newAtom : ∀ w ∈ wsX120, w ∈ w_x_newAtom := fun _ h => List.mem_cons_of_mem _ (List.mem_append_right _ h)
theorem gg_x_newAtom_fail : GoodIn w_x_newAtom w_x_fail := goodIn_sub (fun w h => (List.mem_cons.mp h).elim (fun e => (List.mem_cons_of_mem _ (List.mem_append_left _ (List.mem_append_right _ (List.mem_append_left _ (List.mem_cons.mpr (Or.inl e))))))) (fun h => (List.mem_append.mp h).elim (fun h => (List.mem_cons_of_mem _ (List.mem_append_left _ (List.mem_append_right _ (List.mem_append_left _ (List.mem_cons_of_mem _ h)))))) (fun h => List.mem_cons_of_mem _ (List.mem_append_right _ h)))) w_x_fail_good
theorem gg_x_newAtom_make : GoodIn w_x_newAtom w_x_make := goodIn_sub (fun w h => (List.mem_cons.mp h).elim (fun e => (List.mem_cons_of_mem _ (List.mem_append_left _ (List.mem_append_right _ (List.mem_append_right _ (List.mem_append_left _ (List.mem_cons.mpr (Or.inl e)))))))) (fun h => (List.mem_append.mp h).elim (fun h => (List.mem_cons_of_mem _ (List.mem_append_left _ (List.mem_append_right _ (List.mem_append_right _ (List.mem_append_left _ (List.mem_cons_of_mem _ h))))))) (fun h => List.mem_cons_of_mem _ (List.mem_append_right _ h)))) w_x_make_good
theorem g_x_newAtom_fail_369 : GoodIn w_x_newAtom (wsV RX12 369 RX12 yX12_fail w_x_fail) := goodIn_app (nb_g4 (List.mem_cons_of_mem _ (List.mem_append_left _ (List.mem_append_left _ (List.mem_of_getElem? (i := 2) rfl)))) (List.mem_cons_of_mem _ (List.mem_append_left _ (List.mem_append_left _ (List.mem_of_getElem? (i := 3) rfl)))) (List.mem_cons_of_mem _ (List.mem_append_left _ (List.mem_append_left _ (List.mem_of_getElem? (i := 4) rfl)))) (List.mem_cons_of_mem _ (List.mem_append_left _ (List.mem_append_left _ (List.mem_of_getElem? (i := 5) rfl)))) (by decide +kernel)) gg_x_newAtom_fail
theorem g_x_newAtom_make_429 : GoodIn w_x_newAtom (wsV RX12 429 RX12 yX12_make w_x_make) := goodIn_app (nb_g4 (List.mem_cons_of_mem _ (List.mem_append_left _ (List.mem_append_left _ (List.mem_of_getElem? (i := 6) rfl)))) (List.mem_cons_of_mem _ (List.mem_append_left _ (List.mem_append_left _ (List.mem_of_getElem? (i := 7) rfl)))) (List.mem_cons_of_mem _ (List.mem_append_left _ (List.mem_append_left _ (List.mem_of_getElem? (i := 8) rfl)))) (List.mem_cons_of_mem _ (List.mem_append_left _ (List.mem_append_left _ (List.mem_of_getElem? (i := 5) rfl)))) (by decide +kernel)) gg_x_newAtom_make
set_option maxHeartbeats 40000000 in
set_option maxRecDepth 100000 in
theorem c_x_newAtom (l : Launch) (dC : Nat → ClassId) (dI : Nat → Nat → Nat) (cy : Nat → ClassId) (a : Nat → Nat) (k0 : Nat) (L0 : Nat → Int32) (σ0 : MS) (r0 : Int32 × MS) (h0 : x_newAtom k0 0 L0 σ0 = some r0) (sz : Nat) : Met l yX12_newAtom w_x_newAtom ({ frames := 2, cells := 0, slots := 0, locals := 44 }) (va_Pc [.ref (a 0)] (nIn (dC, dI) cy sz (vM cy a σ0))) (va_Qi (fun (z : Int32) (_ : Unit) => z = r0.1) (fun _ t => nOut (dC, dI) cy (va_A (vM cy a σ0) sz) (vM cy a r0.2) t) (va_A (vM cy a σ0) sz)) 0 0 (va_A (vM cy a σ0) sz) := by
  refine Met.ofW (cc := cX12_newAtom) (maxL := 2) (ret := (some .int)) (by decide) rfl ?_
  intro p e s m args below meth c s₁ B hml hv
  obtain ⟨rfl, hsz, hP, hK, hD0, hG⟩ := hv
  have hx := B.exec
  have hb := B.bytes
  have hr := B.returns
  have hts := atoms_spec (ws := w_x_newAtom) B.pre
  have hown : s.vm.findClass RX12 = some m.cls := findClass_of_methodNamed B.named
  have hlocks := B.notSynchronized
  subst hsz
  have hD := hD0.self (sz := s.heap.size)
  generalize hAe : va_A (vM cy a σ0) s.heap.size = A at hD ⊢
  have hA : ∀ q : Nat, s.heap.size ≤ q → A q := fun q h => by rw [← hAe]; exact Or.inr h
  have hS : va_S A s.heap s.heap [] := va_S.rf
  have hl := lv_entry ([.ref (a 0)]) (n := 2) (Nat.le_of_ble_eq_true rfl)
  rw [lg_entry_eq]
  generalize (lg_sl ([.ref (a 0)]) ++ List.replicate (2 - (lg_sl ([.ref (a 0)])).length) Slot.unset).toArray = ls at hl ⊢
  have hl : lv_has ls 2 [(0, .ref (a 0))] := hl
  have blk : ∀ k : Nat, (∀ (L : Nat → Int32) (σ : MS) (r : Int32 × MS), x_newAtom k 0 L σ = some r → ∀ (H : Heap) (locs : List Loc) (ls : Array Slot), va_P (dC, dI) nCl (vM cy a σ) H → va_D A (vM cy a σ) → va_S A s.heap H locs → lv_has ls 2 [(0, .ref (a 0))] → W p l e (headSpec w_x_newAtom ({ frames := 2, cells := 0, slots := 0, locals := 44 })).room s m #[.ref (a 0)] below meth c H locs 0 0 (MQ below (va_Qi (fun (z : Int32) (_ : Unit) => z = r.1) (fun _ t => nOut (dC, dI) cy A (vM cy a r.2) t) A) #[.ref (a 0)] s 0 0 A) (F0 m 0 ls [])) ∧ (∀ (L : Nat → Int32) (σ : MS) (r : Int32 × MS), x_newAtom k 1 L σ = some r → ∀ (H : Heap) (locs : List Loc) (ls : Array Slot), va_P (dC, dI) nCl (vM cy a σ) H → va_D A (vM cy a σ) → va_S A s.heap H locs → lv_has ls 2 [(0, .ref (a 0))] → W p l e (headSpec w_x_newAtom ({ frames := 2, cells := 0, slots := 0, locals := 44 })).room s m #[.ref (a 0)] below meth c H locs 0 0 (MQ below (va_Qi (fun (z : Int32) (_ : Unit) => z = r.1) (fun _ t => nOut (dC, dI) cy A (vM cy a r.2) t) A) #[.ref (a 0)] s 0 0 A) (F0 m 18 ls [])) ∧ (∀ (L : Nat → Int32) (σ : MS) (r : Int32 × MS), x_newAtom k 2 L σ = some r → ∀ (H : Heap) (locs : List Loc) (ls : Array Slot), va_P (dC, dI) nCl (vM cy a σ) H → va_D A (vM cy a σ) → va_S A s.heap H locs → lv_has ls 2 [(0, .ref (a 0))] → W p l e (headSpec w_x_newAtom ({ frames := 2, cells := 0, slots := 0, locals := 44 })).room s m #[.ref (a 0)] below meth c H locs 0 0 (MQ below (va_Qi (fun (z : Int32) (_ : Unit) => z = r.1) (fun _ t => nOut (dC, dI) cy A (vM cy a r.2) t) A) #[.ref (a 0)] s 0 0 A) (F0 m 28 ls [])) ∧ (∀ (L : Nat → Int32) (σ : MS) (r : Int32 × MS), x_newAtom k 3 L σ = some r → ∀ (H : Heap) (locs : List Loc) (ls : Array Slot), va_P (dC, dI) nCl (vM cy a σ) H → va_D A (vM cy a σ) → va_S A s.heap H locs → lv_has ls 2 [(0, .ref (a 0)), (1, .int (L 1))] → W p l e (headSpec w_x_newAtom ({ frames := 2, cells := 0, slots := 0, locals := 44 })).room s m #[.ref (a 0)] below meth c H locs 0 0 (MQ below (va_Qi (fun (z : Int32) (_ : Unit) => z = r.1) (fun _ t => nOut (dC, dI) cy A (vM cy a r.2) t) A) #[.ref (a 0)] s 0 0 A) (F0 m 44 ls [])) ∧ (∀ (L : Nat → Int32) (σ : MS) (r : Int32 × MS), x_newAtom k 4 L σ = some r → ∀ (H : Heap) (locs : List Loc) (ls : Array Slot), va_P (dC, dI) nCl (vM cy a σ) H → va_D A (vM cy a σ) → va_S A s.heap H locs → lv_has ls 2 [(0, .ref (a 0)), (1, .int (L 1))] → W p l e (headSpec w_x_newAtom ({ frames := 2, cells := 0, slots := 0, locals := 44 })).room s m #[.ref (a 0)] below meth c H locs 0 0 (MQ below (va_Qi (fun (z : Int32) (_ : Unit) => z = r.1) (fun _ t => nOut (dC, dI) cy A (vM cy a r.2) t) A) #[.ref (a 0)] s 0 0 A) (F0 m 56 ls [])) := by
    intro k
    induction k with
    | zero => exact ⟨fun L σ r h => (by cases h), fun L σ r h => (by cases h), fun L σ r h => (by cases h), fun L σ r h => (by cases h), fun L σ r h => (by cases h)⟩
    | succ k ih =>
      refine ⟨?_, ?_, ?_, ?_, ?_⟩
      · intro L σ r h H locs ls hP hD hS hl
        rw [x_newAtom] at h
        refine lv_aload_n hx hb dX12_newAtom_0 rfl (lv_at hl 0 rfl) ?_
        refine va_get (D := (dC, dI)) (ci := 11) (v := .int (σ.1 95)) (C := RX12) (T := TX12) (N := 121) hx hb hts in_x_newAtom hown hK hP 0 rfl rfl 95 (by decide) (hts _ (List.mem_cons_of_mem _ (List.mem_append_left _ (List.mem_append_left _ (List.mem_of_getElem? (i := 0) rfl))))) (fun _ h9 => h9) rfl dX12_newAtom_1 ?_
        refine lv_ldcw (v := 1000000) hx hb hown (hts _ (List.mem_cons_of_mem _ (List.mem_append_left _ (List.mem_append_left _ (List.mem_of_getElem? (i := 1) rfl))))) dX12_newAtom_4 ?_
        refine lv_icmp_ne (tgt := 18) hx hb dX12_newAtom_7 (by decide) (fun c1 => ?_) (fun c1 => ?_)
        · rw [if_neg c1] at h
          exact ih.2.1 L σ r h H locs ls hP hD hS (lv_sub hl [0] rfl)
        · rw [if_pos c1] at h
          refine lv_aload_n hx hb dX12_newAtom_10 rfl (lv_at hl 0 rfl) ?_
          refine lv_bipush (v := 6) hx hb dX12_newAtom_11 (by decide) ?_
          cases hc2 : x_fail k 0 (upd (fun _ => 0) 1 6) σ with
          | none => rw [hc2, ob_none] at h; cases h
          | some r2 =>
            rw [hc2, ob_some] at h
            have hFc := va_free (wc := vM cy a σ) hD hS hA [0, 1, 2, 3, 4, 5, 6, 7, 8, 9, 10, 11, 12, 13, 14, 15, 16, 17, 18, 19, 20, 21, 22, 23, 24, 25, 26, 27, 28, 29, 30, 31, 32, 33, 34, 35, 36, 37, 38, 39, 40, 41, 42, 43, 44, 45, 46, 47, 48, 49, 50, 51, 52, 53, 54, 55, 56, 57] rfl
            refine va_callv (va_runV (As := [.int 6]) (rest := []) ⟨hx, hb, hml, hown, hts⟩ (c_x_fail l dC dI cy a k (upd (fun _ => 0) 1 6) σ r2 hc2 H.size) (cwV 1 hts g_x_newAtom_fail_369 rfl rfl rfl (by decide +kernel) ⟨Nat.le_of_ble_eq_true rfl, Nat.le_of_ble_eq_true rfl⟩) ⟨nb_blind, va_recv hK hP (ci := 11) (q0 := 0) rfl rfl, fun U hU hW => ⟨rfl, by rw [hU], by rw [hU]; exact hP, va_K.moved hW.alike hK, hD.weaken (fun _ _ _ _ => trivial), hG.warm hW⟩⟩ rfl rfl hl.1 rfl (lv_room (Nat.le_of_ble_eq_true rfl)) dX12_newAtom_13 ⟨Nat.le_of_ble_eq_true rfl, Nat.le_of_ble_eq_true rfl⟩) hS (fun q _ h => hFc q h) hFc (fun _ t H1 locs ht hvm hw hB hz1 hk1 hS => ?_)
            obtain ⟨hP1, hK1, hD1⟩ := hB
            rw [ht] at hP1
            obtain ⟨hP, hD⟩ := va_join (wr := []) (w1 := vM cy a r2.2) hP hD [0, 1, 2, 3, 4, 5, 6, 7, 8, 9, 10, 11, 12, 13, 14, 15, 16, 17, 18, 19, 20, 21, 22, 23, 24, 25, 26, 27, 28, 29, 30, 31, 32, 33, 34, 35, 36, 37, 38, 39, 40, 41, 42, 43, 44, 45, 46, 47, 48, 49, 50, 51, 52, 53, 54, 55, 56, 57] [] rfl rfl (by decide) (by decide) hk1 hFc hP1 hD1
            generalize H1 = H at hP hS ⊢
            have hP : va_P (dC, dI) nCl (vM cy a r2.2) H := hP
            have hD : va_D A (vM cy a r2.2) := hD
            refine lv_iconst (v := 0) hx hb dX12_newAtom_16 (by decide) ?_
            cases h
            exact W.iret (v := 0) hx hb hr (fun t ht hW => ⟨⟨0, (), rfl, rfl, by rw [ht]; exact hP, va_K.moved hW.alike hK, hD⟩, hS.F ht⟩) hS.2.2 dX12_newAtom_17
      · intro L σ r h H locs ls hP hD hS hl
        rw [x_newAtom] at h
        refine lv_aload_n hx hb dX12_newAtom_18 rfl (lv_at hl 0 rfl) ?_
        refine lv_dup hx hb dX12_newAtom_19 rfl ?_
        refine va_get (D := (dC, dI)) (ci := 11) (v := .int (σ.1 95)) (C := RX12) (T := TX12) (N := 121) hx hb hts in_x_newAtom hown hK hP 0 rfl rfl 95 (by decide) (hts _ (List.mem_cons_of_mem _ (List.mem_append_left _ (List.mem_append_left _ (List.mem_of_getElem? (i := 0) rfl))))) (fun _ h9 => h9) rfl dX12_newAtom_20 ?_
        refine lv_iconst (v := 1) hx hb dX12_newAtom_23 (by decide) ?_
        refine lv_iadd hx hb dX12_newAtom_24 ?_
        refine va_put (D := (dC, dI)) (ci := 11) (v := .int (((σ.1 95)) + 1)) (ty := .int) (C := RX12) (T := TX12) (N := 121) hx hb hts in_x_newAtom tyX12 tyX12_ok nmX12 hown hK hP hD hS 0 rfl rfl 95 (by decide) (hts _ (List.mem_cons_of_mem _ (List.mem_append_left _ (List.mem_append_left _ (List.mem_of_getElem? (i := 0) rfl))))) (fun _ h9 => h9) rfl (by decide +kernel) rfl rfl (Nat.le_of_ble_eq_true rfl) dX12_newAtom_25 (fun H locs hP hD hS => ?_)
        have hP : va_P (dC, dI) nCl (vM cy a (upd σ.1 95 ((((σ.1 95)) + 1)), σ.2.1, σ.2.2)) H := hP
        have hD : va_D A (vM cy a (upd σ.1 95 ((((σ.1 95)) + 1)), σ.2.1, σ.2.2)) := hD
        exact ih.2.2.1 L (upd σ.1 95 ((((σ.1 95)) + 1)), σ.2.1, σ.2.2) r h H locs ls hP hD hS (lv_sub hl [0] rfl)
      · intro L σ r h H locs ls hP hD hS hl
        rw [x_newAtom] at h
        refine lv_aload_n hx hb dX12_newAtom_28 rfl (lv_at hl 0 rfl) ?_
        refine lv_iconst (v := 3) hx hb dX12_newAtom_29 (by decide) ?_
        refine lv_iconst (v := 1) hx hb dX12_newAtom_30 (by decide) ?_
        cases hc1 : x_make k 0 (upd (upd (fun _ => 0) 1 3) 2 1) σ with
        | none => rw [hc1, ob_none] at h; cases h
        | some r1 =>
          rw [hc1, ob_some] at h
          have hFc := va_free (wc := vM cy a σ) hD hS hA [0, 1, 2, 3, 4, 5, 6, 7, 8, 9, 10, 11, 12, 13, 14, 15, 16, 17, 18, 19, 20, 21, 22, 23, 24, 25, 26, 27, 28, 29, 30, 31, 32, 33, 34, 35, 36, 37, 38, 39, 40, 41, 42, 43, 44, 45, 46, 47, 48, 49, 50, 51, 52, 53, 54, 55, 56, 57] rfl
          refine va_calli (va_runV (As := [.int 3, .int 1]) (rest := []) ⟨hx, hb, hml, hown, hts⟩ (c_x_make l dC dI cy a k (upd (upd (fun _ => 0) 1 3) 2 1) σ r1 hc1 H.size) (cwV 2 hts g_x_newAtom_make_429 rfl rfl rfl (by decide +kernel) ⟨Nat.le_of_ble_eq_true rfl, Nat.le_of_ble_eq_true rfl⟩) ⟨nb_blind, va_recv hK hP (ci := 11) (q0 := 0) rfl rfl, fun U hU hW => ⟨rfl, by rw [hU], by rw [hU]; exact hP, va_K.moved hW.alike hK, hD.weaken (fun _ _ _ _ => trivial), hG.warm hW⟩⟩ rfl rfl hl.1 rfl (lv_room (Nat.le_of_ble_eq_true rfl)) dX12_newAtom_31 ⟨Nat.le_of_ble_eq_true rfl, Nat.le_of_ble_eq_true rfl⟩) hS (fun q _ h => hFc q h) hFc (fun z9 _ t H1 locs ht hvm hw hB hz1 hk1 hS => ?_)
          subst hw
          obtain ⟨hP1, hK1, hD1⟩ := hB
          rw [ht] at hP1
          obtain ⟨hP, hD⟩ := va_join (wr := []) (w1 := vM cy a r1.2) hP hD [0, 1, 2, 3, 4, 5, 6, 7, 8, 9, 10, 11, 12, 13, 14, 15, 16, 17, 18, 19, 20, 21, 22, 23, 24, 25, 26, 27, 28, 29, 30, 31, 32, 33, 34, 35, 36, 37, 38, 39, 40, 41, 42, 43, 44, 45, 46, 47, 48, 49, 50, 51, 52, 53, 54, 55, 56, 57] [] rfl rfl (by decide) (by decide) hk1 hFc hP1 hD1
          generalize H1 = H at hP hS ⊢
          have hP : va_P (dC, dI) nCl (vM cy a r1.2) H := hP
          have hD : va_D A (vM cy a r1.2) := hD
          refine lv_istore_n (lv' := [(1, .int r1.1), (0, .ref (a 0))]) hx hb dX12_newAtom_34 rfl hl (by decide) rfl (fun ls hl => ?_)
          refine lv_aload_n hx hb dX12_newAtom_35 rfl (lv_at hl 1 rfl) ?_
          refine va_get (D := (dC, dI)) (ci := 11) (v := .int (r1.2.1 56)) (C := RX12) (T := TX12) (N := 121) hx hb hts in_x_newAtom hown hK hP 0 rfl rfl 56 (by decide) (hts _ (List.mem_cons_of_mem _ (List.mem_append_left _ (List.mem_append_left _ (List.mem_of_getElem? (i := 9) rfl))))) (fun _ h9 => h9) rfl dX12_newAtom_36 ?_
          refine lv_if_le (tgt := 44) hx hb dX12_newAtom_39 (by decide) (fun c2 => ?_) (fun c2 => ?_)
          · rw [if_pos c2] at h
            exact ih.2.2.2.1 (upd L 1 r1.1) r1.2 r h H locs ls hP hD hS (lv_sub hl [1, 0] rfl)
          · rw [if_neg c2] at h
            refine lv_iconst (v := 0) hx hb dX12_newAtom_42 (by decide) ?_
            cases h
            exact W.iret (v := 0) hx hb hr (fun t ht hW => ⟨⟨0, (), rfl, rfl, by rw [ht]; exact hP, va_K.moved hW.alike hK, hD⟩, hS.F ht⟩) hS.2.2 dX12_newAtom_43
      · intro L σ r h H locs ls hP hD hS hl
        rw [x_newAtom] at h
        refine lv_aload_n hx hb dX12_newAtom_44 rfl (lv_at hl 0 rfl) ?_
        refine va_get (D := (dC, dI)) (ci := 11) (v := .ref (a 28)) (C := RX12) (T := TX12) (N := 121) hx hb hts in_x_newAtom hown hK hP 0 rfl rfl 53 (by decide) (hts _ (List.mem_cons_of_mem _ (List.mem_append_left _ (List.mem_append_left _ (List.mem_of_getElem? (i := 10) rfl))))) (fun _ h9 => h9) rfl dX12_newAtom_45 ?_
        refine lv_iload_n hx hb dX12_newAtom_48 rfl (lv_at hl 1 rfl) ?_
        refine lv_iconst (v := 4) hx hb dX12_newAtom_49 (by decide) ?_
        refine lv_iadd hx hb dX12_newAtom_50 ?_
        refine lv_aload_n hx hb dX12_newAtom_51 rfl (lv_at hl 0 rfl) ?_
        refine va_get (D := (dC, dI)) (ci := 11) (v := .int (σ.1 95)) (C := RX12) (T := TX12) (N := 121) hx hb hts in_x_newAtom hown hK hP 0 rfl rfl 95 (by decide) (hts _ (List.mem_cons_of_mem _ (List.mem_append_left _ (List.mem_append_left _ (List.mem_of_getElem? (i := 0) rfl))))) (fun _ h9 => h9) rfl dX12_newAtom_52 ?_
        by_cases q1 : ¬ (((((L 1)) + 4)) < 0 ∨ 1740000 ≤ ((((L 1)) + 4)).toNatClampNeg)
        · rw [if_pos q1] at h
          refine va_iast hx hb hK hP hD hS 28 1 rfl rfl (nb_inp q1) dX12_newAtom_55 (fun H locs hP hD hS => ?_)
          have hP : va_P (dC, dI) nCl (vM cy a (σ.1, σ.2.1, updG σ.2.2 28 (upd (σ.2.2 28) ((((L 1)) + 4)).toNatClampNeg ((σ.1 95))))) H := hP
          have hD : va_D A (vM cy a (σ.1, σ.2.1, updG σ.2.2 28 (upd (σ.2.2 28) ((((L 1)) + 4)).toNatClampNeg ((σ.1 95))))) := hD
          exact ih.2.2.2.2 L (σ.1, σ.2.1, updG σ.2.2 28 (upd (σ.2.2 28) ((((L 1)) + 4)).toNatClampNeg ((σ.1 95)))) r h H locs ls hP hD hS (lv_sub hl [0, 1] rfl)
        · rw [if_neg q1] at h; cases h
      · intro L σ r h H locs ls hP hD hS hl
        rw [x_newAtom] at h
        refine lv_iload_n hx hb dX12_newAtom_56 rfl (lv_at hl 1 rfl) ?_
        cases h
        exact W.iret (v := (L 1)) hx hb hr (fun t ht hW => ⟨⟨(L 1), (), rfl, rfl, by rw [ht]; exact hP, va_K.moved hW.alike hK, hD⟩, hS.F ht⟩) hS.2.2 dX12_newAtom_57
  exact (blk k0).1 L0 σ0 r0 h0 s.heap [] ls hP hD hS hl
/-! other -/
def x_other : Nat → Nat → (Nat → Int32) → MS → Option (Int32 × MS)
  | 0, _, _, _ => none
  | k + 1, 0, L, σ => ob (x_loadA k 0 (upd (fun _ => 0) 1 ((L 1))) σ) (fun r1 => x_other k 1 L (upd r1.2.1 86 ((r1.2.1 84)), r1.2.2.1, r1.2.2.2))
  | k + 1, 1, L, σ => x_other k 2 (upd L 2 0) σ
  | k + 1, 2, L, σ => if ((σ.1 84)) ≤ ((L 2)) then (x_other k 4 L σ) else (if ¬ (((L 2)) < 0 ∨ 140 ≤ ((L 2)).toNatClampNeg) then (if ¬ (((L 2)) < 0 ∨ 300 ≤ ((L 2)).toNatClampNeg) then (x_other k 3 L (σ.1, σ.2.1, updG σ.2.2 44 (upd (σ.2.2 44) ((L 2)).toNatClampNeg ((σ.2.2 42 ((L 2)).toNatClampNeg))))) else none) else none)
  | k + 1, 3, L, σ => x_other k 2 (upd L 2 (((L 2)) + 1)) σ
  | k + 1, 4, L, σ => ob (x_signOf k 0 (upd (fun _ => 0) 1 ((L 1))) σ) (fun r1 => ob (x_wholeOf k 0 (upd (fun _ => 0) 1 ((- r1.1))) r1.2) (fun r2 => some (r2.1, r2.2)))
  | _ + 1, _ + 5, _, _ => none
def o_x_other : List Cond := [.methodLink RX12 488 yX12_loadA, .instanceMethod yX12_loadA, .selects RX12 yX12_loadA yX12_loadA, .initialized RX12, .fieldLink RX12 466 "SetHouseModel" "na" "I", .fieldLink RX12 478 "SetHouseModel" "nc" "I", .fieldLink RX12 481 "SetHouseModel" "rc" "[I", .fieldLink RX12 469 "SetHouseModel" "ra" "[I", .methodLink RX12 463 yX12_signOf, .instanceMethod yX12_signOf, .selects RX12 yX12_signOf yX12_signOf, .methodLink RX12 485 yX12_wholeOf, .instanceMethod yX12_wholeOf, .selects RX12 yX12_wholeOf yX12_wholeOf]
theorem o_x_other_good : o_x_other.all goodWord = true := by decide +kernel
def p_x_other : List Cond := o_x_other ++ ((.code yX12_loadA cX12_loadA 3 none :: p_x_loadA) ++ ((.code yX12_signOf cX12_signOf 2 (some .int) :: p_x_signOf) ++ ((.code yX12_wholeOf cX12_wholeOf 4 (some .int) :: p_x_wholeOf) ++ [])))
theorem p_x_other_good : p_x_other.all goodWord = true := nb_all2 o_x_other_good (nb_all2 (nb_allc (by decide +kernel) p_x_loadA_good) (nb_all2 (nb_allc (by decide +kernel) p_x_signOf_good) (nb_all2 (nb_allc (by decide +kernel) p_x_wholeOf_good) rfl)))
def w_x_other : List Cond := .code yX12_other cX12_other 3 (some .int) :: (p_x_other ++ fM)
theorem w_x_other_good : w_x_other.all goodWord = true := nb_allc (by decide +kernel) (nb_all2 p_x_other_good fM_good)
theorem in_x_other : ∀ w ∈ wsX120, w ∈ w_x_other := fun _ h => List.mem_cons_of_mem _ (List.mem_append_right _ h)
theorem gg_x_other_loadA : GoodIn w_x_other w_x_loadA := goodIn_sub (fun w h => (List.mem_cons.mp h).elim (fun e => (List.mem_cons_of_mem _ (List.mem_append_left _ (List.mem_append_right _ (List.mem_append_left _ (List.mem_cons.mpr (Or.inl e))))))) (fun h => (List.mem_append.mp h).elim (fun h => (List.mem_cons_of_mem _ (List.mem_append_left _ (List.mem_append_right _ (List.mem_append_left _ (List.mem_cons_of_mem _ h)))))) (fun h => List.mem_cons_of_mem _ (List.mem_append_right _ h)))) w_x_loadA_good
theorem gg_x_other_signOf : GoodIn w_x_other w_x_signOf := goodIn_sub (fun w h => (List.mem_cons.mp h).elim (fun e => (List.mem_cons_of_mem _ (List.mem_append_left _ (List.mem_append_right _ (List.mem_append_right _ (List.mem_append_left _ (List.mem_cons.mpr (Or.inl e)))))))) (fun h => (List.mem_append.mp h).elim (fun h => (List.mem_cons_of_mem _ (List.mem_append_left _ (List.mem_append_right _ (List.mem_append_right _ (List.mem_append_left _ (List.mem_cons_of_mem _ h))))))) (fun h => List.mem_cons_of_mem _ (List.mem_append_right _ h)))) w_x_signOf_good
theorem gg_x_other_wholeOf : GoodIn w_x_other w_x_wholeOf := goodIn_sub (fun w h => (List.mem_cons.mp h).elim (fun e => (List.mem_cons_of_mem _ (List.mem_append_left _ (List.mem_append_right _ (List.mem_append_right _ (List.mem_append_right _ (List.mem_append_left _ (List.mem_cons.mpr (Or.inl e))))))))) (fun h => (List.mem_append.mp h).elim (fun h => (List.mem_cons_of_mem _ (List.mem_append_left _ (List.mem_append_right _ (List.mem_append_right _ (List.mem_append_right _ (List.mem_append_left _ (List.mem_cons_of_mem _ h)))))))) (fun h => List.mem_cons_of_mem _ (List.mem_append_right _ h)))) w_x_wholeOf_good
theorem g_x_other_loadA_488 : GoodIn w_x_other (wsV RX12 488 RX12 yX12_loadA w_x_loadA) := goodIn_app (nb_g4 (List.mem_cons_of_mem _ (List.mem_append_left _ (List.mem_append_left _ (List.mem_of_getElem? (i := 0) rfl)))) (List.mem_cons_of_mem _ (List.mem_append_left _ (List.mem_append_left _ (List.mem_of_getElem? (i := 1) rfl)))) (List.mem_cons_of_mem _ (List.mem_append_left _ (List.mem_append_left _ (List.mem_of_getElem? (i := 2) rfl)))) (List.mem_cons_of_mem _ (List.mem_append_left _ (List.mem_append_left _ (List.mem_of_getElem? (i := 3) rfl)))) (by decide +kernel)) gg_x_other_loadA
theorem g_x_other_signOf_463 : GoodIn w_x_other (wsV RX12 463 RX12 yX12_signOf w_x_signOf) := goodIn_app (nb_g4 (List.mem_cons_of_mem _ (List.mem_append_left _ (List.mem_append_left _ (List.mem_of_getElem? (i := 8) rfl)))) (List.mem_cons_of_mem _ (List.mem_append_left _ (List.mem_append_left _ (List.mem_of_getElem? (i := 9) rfl)))) (List.mem_cons_of_mem _ (List.mem_append_left _ (List.mem_append_left _ (List.mem_of_getElem? (i := 10) rfl)))) (List.mem_cons_of_mem _ (List.mem_append_left _ (List.mem_append_left _ (List.mem_of_getElem? (i := 3) rfl)))) (by decide +kernel)) gg_x_other_signOf
theorem g_x_other_wholeOf_485 : GoodIn w_x_other (wsV RX12 485 RX12 yX12_wholeOf w_x_wholeOf) := goodIn_app (nb_g4 (List.mem_cons_of_mem _ (List.mem_append_left _ (List.mem_append_left _ (List.mem_of_getElem? (i := 11) rfl)))) (List.mem_cons_of_mem _ (List.mem_append_left _ (List.mem_append_left _ (List.mem_of_getElem? (i := 12) rfl)))) (List.mem_cons_of_mem _ (List.mem_append_left _ (List.mem_append_left _ (List.mem_of_getElem? (i := 13) rfl)))) (List.mem_cons_of_mem _ (List.mem_append_left _ (List.mem_append_left _ (List.mem_of_getElem? (i := 3) rfl)))) (by decide +kernel)) gg_x_other_wholeOf
set_option maxHeartbeats 40000000 in
set_option maxRecDepth 100000 in
theorem c_x_other (l : Launch) (dC : Nat → ClassId) (dI : Nat → Nat → Nat) (cy : Nat → ClassId) (a : Nat → Nat) (k0 : Nat) (L0 : Nat → Int32) (σ0 : MS) (r0 : Int32 × MS) (h0 : x_other k0 0 L0 σ0 = some r0) (sz : Nat) : Met l yX12_other w_x_other ({ frames := 3, cells := 0, slots := 0, locals := 67 }) (va_Pc [.ref (a 0), .int (L0 1)] (nIn (dC, dI) cy sz (vM cy a σ0))) (va_Qi (fun (z : Int32) (_ : Unit) => z = r0.1) (fun _ t => nOut (dC, dI) cy (va_A (vM cy a σ0) sz) (vM cy a r0.2) t) (va_A (vM cy a σ0) sz)) 0 0 (va_A (vM cy a σ0) sz) := by
  refine Met.ofW (cc := cX12_other) (maxL := 3) (ret := (some .int)) (by decide) rfl ?_
  intro p e s m args below meth c s₁ B hml hv
  obtain ⟨rfl, hsz, hP, hK, hD0, hG⟩ := hv
  have hx := B.exec
  have hb := B.bytes
  have hr := B.returns
  have hts := atoms_spec (ws := w_x_other) B.pre
  have hown : s.vm.findClass RX12 = some m.cls := findClass_of_methodNamed B.named
  have hlocks := B.notSynchronized
  subst hsz
  have hD := hD0.self (sz := s.heap.size)
  generalize hAe : va_A (vM cy a σ0) s.heap.size = A at hD ⊢
  have hA : ∀ q : Nat, s.heap.size ≤ q → A q := fun q h => by rw [← hAe]; exact Or.inr h
  have hS : va_S A s.heap s.heap [] := va_S.rf
  have hl := lv_entry ([.ref (a 0), .int (L0 1)]) (n := 3) (Nat.le_of_ble_eq_true rfl)
  rw [lg_entry_eq]
  generalize (lg_sl ([.ref (a 0), .int (L0 1)]) ++ List.replicate (3 - (lg_sl ([.ref (a 0), .int (L0 1)])).length) Slot.unset).toArray = ls at hl ⊢
  have hl : lv_has ls 3 [(0, .ref (a 0)), (1, .int (L0 1))] := hl
  have blk : ∀ k : Nat, (∀ (L : Nat → Int32) (σ : MS) (r : Int32 × MS), x_other k 0 L σ = some r → ∀ (H : Heap) (locs : List Loc) (ls : Array Slot), va_P (dC, dI) nCl (vM cy a σ) H → va_D A (vM cy a σ) → va_S A s.heap H locs → lv_has ls 3 [(0, .ref (a 0)), (1, .int (L 1))] → W p l e (headSpec w_x_other ({ frames := 3, cells := 0, slots := 0, locals := 67 })).room s m #[.ref (a 0), .int (L0 1)] below meth c H locs 0 0 (MQ below (va_Qi (fun (z : Int32) (_ : Unit) => z = r.1) (fun _ t => nOut (dC, dI) cy A (vM cy a r.2) t) A) #[.ref (a 0), .int (L0 1)] s 0 0 A) (F0 m 0 ls [])) ∧ (∀ (L : Nat → Int32) (σ : MS) (r : Int32 × MS), x_other k 1 L σ = some r → ∀ (H : Heap) (locs : List Loc) (ls : Array Slot), va_P (dC, dI) nCl (vM cy a σ) H → va_D A (vM cy a σ) → va_S A s.heap H locs → lv_has ls 3 [(0, .ref (a 0)), (1, .int (L 1))] → W p l e (headSpec w_x_other ({ frames := 3, cells := 0, slots := 0, locals := 67 })).room s m #[.ref (a 0), .int (L0 1)] below meth c H locs 0 0 (MQ below (va_Qi (fun (z : Int32) (_ : Unit) => z = r.1) (fun _ t => nOut (dC, dI) cy A (vM cy a r.2) t) A) #[.ref (a 0), .int (L0 1)] s 0 0 A) (F0 m 13 ls [])) ∧ (∀ (L : Nat → Int32) (σ : MS) (r : Int32 × MS), x_other k 2 L σ = some r → ∀ (H : Heap) (locs : List Loc) (ls : Array Slot), va_P (dC, dI) nCl (vM cy a σ) H → va_D A (vM cy a σ) → va_S A s.heap H locs → lv_has ls 3 [(0, .ref (a 0)), (1, .int (L 1)), (2, .int (L 2))] → W p l e (headSpec w_x_other ({ frames := 3, cells := 0, slots := 0, locals := 67 })).room s m #[.ref (a 0), .int (L0 1)] below meth c H locs 0 0 (MQ below (va_Qi (fun (z : Int32) (_ : Unit) => z = r.1) (fun _ t => nOut (dC, dI) cy A (vM cy a r.2) t) A) #[.ref (a 0), .int (L0 1)] s 0 0 A) (F0 m 15 ls [])) ∧ (∀ (L : Nat → Int32) (σ : MS) (r : Int32 × MS), x_other k 3 L σ = some r → ∀ (H : Heap) (locs : List Loc) (ls : Array Slot), va_P (dC, dI) nCl (vM cy a σ) H → va_D A (vM cy a σ) → va_S A s.heap H locs → lv_has ls 3 [(0, .ref (a 0)), (1, .int (L 1)), (2, .int (L 2))] → W p l e (headSpec w_x_other ({ frames := 3, cells := 0, slots := 0, locals := 67 })).room s m #[.ref (a 0), .int (L0 1)] below meth c H locs 0 0 (MQ below (va_Qi (fun (z : Int32) (_ : Unit) => z = r.1) (fun _ t => nOut (dC, dI) cy A (vM cy a r.2) t) A) #[.ref (a 0), .int (L0 1)] s 0 0 A) (F0 m 35 ls [])) ∧ (∀ (L : Nat → Int32) (σ : MS) (r : Int32 × MS), x_other k 4 L σ = some r → ∀ (H : Heap) (locs : List Loc) (ls : Array Slot), va_P (dC, dI) nCl (vM cy a σ) H → va_D A (vM cy a σ) → va_S A s.heap H locs → lv_has ls 3 [(0, .ref (a 0)), (1, .int (L 1)), (2, .int (L 2))] → W p l e (headSpec w_x_other ({ frames := 3, cells := 0, slots := 0, locals := 67 })).room s m #[.ref (a 0), .int (L0 1)] below meth c H locs 0 0 (MQ below (va_Qi (fun (z : Int32) (_ : Unit) => z = r.1) (fun _ t => nOut (dC, dI) cy A (vM cy a r.2) t) A) #[.ref (a 0), .int (L0 1)] s 0 0 A) (F0 m 41 ls [])) := by
    intro k
    induction k with
    | zero => exact ⟨fun L σ r h => (by cases h), fun L σ r h => (by cases h), fun L σ r h => (by cases h), fun L σ r h => (by cases h), fun L σ r h => (by cases h)⟩
    | succ k ih =>
      refine ⟨?_, ?_, ?_, ?_, ?_⟩
      · intro L σ r h H locs ls hP hD hS hl
        rw [x_other] at h
        refine lv_aload_n hx hb dX12_other_0 rfl (lv_at hl 0 rfl) ?_
        refine lv_iload_n hx hb dX12_other_1 rfl (lv_at hl 1 rfl) ?_
        cases hc1 : x_loadA k 0 (upd (fun _ => 0) 1 ((L 1))) σ with
        | none => rw [hc1, ob_none] at h; cases h
        | some r1 =>
          rw [hc1, ob_some] at h
          have hFc := va_free (wc := vM cy a σ) hD hS hA [0, 1, 2, 3, 4, 5, 6, 7, 8, 9, 10, 11, 12, 13, 14, 15, 16, 17, 18, 19, 20, 21, 22, 23, 24, 25, 26, 27, 28, 29, 30, 31, 32, 33, 34, 35, 36, 37, 38, 39, 40, 41, 42, 43, 44, 45, 46, 47, 48, 49, 50, 51, 52, 53, 54, 55, 56, 57] rfl
          refine va_callv (va_runV (As := [.int (L 1)]) (rest := []) ⟨hx, hb, hml, hown, hts⟩ (c_x_loadA l dC dI cy a k (upd (fun _ => 0) 1 ((L 1))) σ r1 hc1 H.size) (cwV 1 hts g_x_other_loadA_488 rfl rfl rfl (by decide +kernel) ⟨Nat.le_of_ble_eq_true rfl, Nat.le_of_ble_eq_true rfl⟩) ⟨nb_blind, va_recv hK hP (ci := 11) (q0 := 0) rfl rfl, fun U hU hW => ⟨rfl, by rw [hU], by rw [hU]; exact hP, va_K.moved hW.alike hK, hD.weaken (fun _ _ _ _ => trivial), hG.warm hW⟩⟩ rfl rfl hl.1 rfl (lv_room (Nat.le_of_ble_eq_true rfl)) dX12_other_2 ⟨Nat.le_of_ble_eq_true rfl, Nat.le_of_ble_eq_true rfl⟩) hS (fun q _ h => hFc q h) hFc (fun _ t H1 locs ht hvm hw hB hz1 hk1 hS => ?_)
          obtain ⟨hP1, hK1, hD1⟩ := hB
          rw [ht] at hP1
          obtain ⟨hP, hD⟩ := va_join (wr := []) (w1 := vM cy a r1.2) hP hD [0, 1, 2, 3, 4, 5, 6, 7, 8, 9, 10, 11, 12, 13, 14, 15, 16, 17, 18, 19, 20, 21, 22, 23, 24, 25, 26, 27, 28, 29, 30, 31, 32, 33, 34, 35, 36, 37, 38, 39, 40, 41, 42, 43, 44, 45, 46, 47, 48, 49, 50, 51, 52, 53, 54, 55, 56, 57] [] rfl rfl (by decide) (by decide) hk1 hFc hP1 hD1
          generalize H1 = H at hP hS ⊢
          have hP : va_P (dC, dI) nCl (vM cy a r1.2) H := hP
          have hD : va_D A (vM cy a r1.2) := hD
          refine lv_aload_n hx hb dX12_other_5 rfl (lv_at hl 0 rfl) ?_
          refine lv_aload_n hx hb dX12_other_6 rfl (lv_at hl 0 rfl) ?_
          refine va_get (D := (dC, dI)) (ci := 11) (v := .int (r1.2.1 84)) (C := RX12) (T := TX12) (N := 121) hx hb hts in_x_other hown hK hP 0 rfl rfl 84 (by decide) (hts _ (List.mem_cons_of_mem _ (List.mem_append_left _ (List.mem_append_left _ (List.mem_of_getElem? (i := 4) rfl))))) (fun _ h9 => h9) rfl dX12_other_7 ?_
          refine va_put (D := (dC, dI)) (ci := 11) (v := .int (r1.2.1 84)) (ty := .int) (C := RX12) (T := TX12) (N := 121) hx hb hts in_x_other tyX12 tyX12_ok nmX12 hown hK hP hD hS 0 rfl rfl 86 (by decide) (hts _ (List.mem_cons_of_mem _ (List.mem_append_left _ (List.mem_append_left _ (List.mem_of_getElem? (i := 5) rfl))))) (fun _ h9 => h9) rfl (by decide +kernel) rfl rfl (Nat.le_of_ble_eq_true rfl) dX12_other_10 (fun H locs hP hD hS => ?_)
          have hP : va_P (dC, dI) nCl (vM cy a (upd r1.2.1 86 ((r1.2.1 84)), r1.2.2.1, r1.2.2.2)) H := hP
          have hD : va_D A (vM cy a (upd r1.2.1 86 ((r1.2.1 84)), r1.2.2.1, r1.2.2.2)) := hD
          exact ih.2.1 L (upd r1.2.1 86 ((r1.2.1 84)), r1.2.2.1, r1.2.2.2) r h H locs ls hP hD hS (lv_sub hl [0, 1] rfl)
      · intro L σ r h H locs ls hP hD hS hl
        rw [x_other] at h
        refine lv_iconst (v := 0) hx hb dX12_other_13 (by decide) ?_
        refine lv_istore_n (lv' := [(2, .int 0), (0, .ref (a 0)), (1, .int (L 1))]) hx hb dX12_other_14 rfl hl (by decide) rfl (fun ls hl => ?_)
        exact ih.2.2.1 (upd L 2 0) σ r h H locs ls hP hD hS (lv_sub hl [1, 2, 0] rfl)
      · intro L σ r h H locs ls hP hD hS hl
        rw [x_other] at h
        refine lv_iload_n hx hb dX12_other_15 rfl (lv_at hl 2 rfl) ?_
        refine lv_aload_n hx hb dX12_other_16 rfl (lv_at hl 0 rfl) ?_
        refine va_get (D := (dC, dI)) (ci := 11) (v := .int (σ.1 84)) (C := RX12) (T := TX12) (N := 121) hx hb hts in_x_other hown hK hP 0 rfl rfl 84 (by decide) (hts _ (List.mem_cons_of_mem _ (List.mem_append_left _ (List.mem_append_left _ (List.mem_of_getElem? (i := 4) rfl))))) (fun _ h9 => h9) rfl dX12_other_17 ?_
        refine lv_icmp_ge (tgt := 41) hx hb dX12_other_20 (by decide) (fun c1 => ?_) (fun c1 => ?_)
        · rw [if_pos c1] at h
          exact ih.2.2.2.2 L σ r h H locs ls hP hD hS (lv_sub hl [0, 1, 2] rfl)
        · rw [if_neg c1] at h
          refine lv_aload_n hx hb dX12_other_23 rfl (lv_at hl 0 rfl) ?_
          refine va_get (D := (dC, dI)) (ci := 11) (v := .ref (a 44)) (C := RX12) (T := TX12) (N := 121) hx hb hts in_x_other hown hK hP 0 rfl rfl 83 (by decide) (hts _ (List.mem_cons_of_mem _ (List.mem_append_left _ (List.mem_append_left _ (List.mem_of_getElem? (i := 6) rfl))))) (fun _ h9 => h9) rfl dX12_other_24 ?_
          refine lv_iload_n hx hb dX12_other_27 rfl (lv_at hl 2 rfl) ?_
          refine lv_aload_n hx hb dX12_other_28 rfl (lv_at hl 0 rfl) ?_
          refine va_get (D := (dC, dI)) (ci := 11) (v := .ref (a 42)) (C := RX12) (T := TX12) (N := 121) hx hb hts in_x_other hown hK hP 0 rfl rfl 81 (by decide) (hts _ (List.mem_cons_of_mem _ (List.mem_append_left _ (List.mem_append_left _ (List.mem_of_getElem? (i := 7) rfl))))) (fun _ h9 => h9) rfl dX12_other_29 ?_
          refine lv_iload_n hx hb dX12_other_32 rfl (lv_at hl 2 rfl) ?_
          by_cases q2 : ¬ (((L 2)) < 0 ∨ 140 ≤ ((L 2)).toNatClampNeg)
          · rw [if_pos q2] at h
            refine va_iald hx hb hK hP 42 1 rfl rfl (nb_inp q2) dX12_other_33 ?_
            by_cases q3 : ¬ (((L 2)) < 0 ∨ 300 ≤ ((L 2)).toNatClampNeg)
            · rw [if_pos q3] at h
              refine va_iast hx hb hK hP hD hS 44 1 rfl rfl (nb_inp q3) dX12_other_34 (fun H locs hP hD hS => ?_)
              have hP : va_P (dC, dI) nCl (vM cy a (σ.1, σ.2.1, updG σ.2.2 44 (upd (σ.2.2 44) ((L 2)).toNatClampNeg ((σ.2.2 42 ((L 2)).toNatClampNeg))))) H := hP
              have hD : va_D A (vM cy a (σ.1, σ.2.1, updG σ.2.2 44 (upd (σ.2.2 44) ((L 2)).toNatClampNeg ((σ.2.2 42 ((L 2)).toNatClampNeg))))) := hD
              exact ih.2.2.2.1 L (σ.1, σ.2.1, updG σ.2.2 44 (upd (σ.2.2 44) ((L 2)).toNatClampNeg ((σ.2.2 42 ((L 2)).toNatClampNeg)))) r h H locs ls hP hD hS (lv_sub hl [0, 1, 2] rfl)
            · rw [if_neg q3] at h; cases h
          · rw [if_neg q2] at h; cases h
      · intro L σ r h H locs ls hP hD hS hl
        rw [x_other] at h
        refine lv_iinc (v := ((L 2)) + 1) (lv' := [(2, .int (((L 2)) + 1)), (0, .ref (a 0)), (1, .int (L 1))]) hx hb dX12_other_35 hl (k := 2) rfl rfl (by decide) rfl (fun ls hl => ?_)
        refine lv_goto (tgt := 15) hx hb dX12_other_38 (by decide) ?_
        exact ih.2.2.1 (upd L 2 (((L 2)) + 1)) σ r h H locs ls hP hD hS (lv_sub hl [1, 2, 0] rfl)
      · intro L σ r h H locs ls hP hD hS hl
        rw [x_other] at h
        refine lv_aload_n hx hb dX12_other_41 rfl (lv_at hl 0 rfl) ?_
        refine lv_aload_n hx hb dX12_other_42 rfl (lv_at hl 0 rfl) ?_
        refine lv_iload_n hx hb dX12_other_43 rfl (lv_at hl 1 rfl) ?_
        cases hc1 : x_signOf k 0 (upd (fun _ => 0) 1 ((L 1))) σ with
        | none => rw [hc1, ob_none] at h; cases h
        | some r1 =>
          rw [hc1, ob_some] at h
          have hFc := va_free (wc := vM cy a σ) hD hS hA [0, 1, 2, 3, 4, 5, 6, 7, 8, 9, 10, 11, 12, 13, 14, 15, 16, 17, 18, 19, 20, 21, 22, 23, 24, 25, 26, 27, 28, 29, 30, 31, 32, 33, 34, 35, 36, 37, 38, 39, 40, 41, 42, 43, 44, 45, 46, 47, 48, 49, 50, 51, 52, 53, 54, 55, 56, 57] rfl
          refine va_calli (va_runV (As := [.int (L 1)]) (rest := [.ref (a 0)]) ⟨hx, hb, hml, hown, hts⟩ (c_x_signOf l dC dI cy a k (upd (fun _ => 0) 1 ((L 1))) σ r1 hc1 H.size) (cwV 1 hts g_x_other_signOf_463 rfl rfl rfl (by decide +kernel) ⟨Nat.le_of_ble_eq_true rfl, Nat.le_of_ble_eq_true rfl⟩) ⟨nb_blind, va_recv hK hP (ci := 11) (q0 := 0) rfl rfl, fun U hU hW => ⟨rfl, by rw [hU], by rw [hU]; exact hP, va_K.moved hW.alike hK, hD.weaken (fun _ _ _ _ => trivial), hG.warm hW⟩⟩ rfl rfl hl.1 rfl (lv_room (Nat.le_of_ble_eq_true rfl)) dX12_other_44 ⟨Nat.le_of_ble_eq_true rfl, Nat.le_of_ble_eq_true rfl⟩) hS (fun q _ h => hFc q h) hFc (fun z9 _ t H1 locs ht hvm hw hB hz1 hk1 hS => ?_)
          subst hw
          obtain ⟨hP1, hK1, hD1⟩ := hB
          rw [ht] at hP1
          obtain ⟨hP, hD⟩ := va_join (wr := []) (w1 := vM cy a r1.2) hP hD [0, 1, 2, 3, 4, 5, 6, 7, 8, 9, 10, 11, 12, 13, 14, 15, 16, 17, 18, 19, 20, 21, 22, 23, 24, 25, 26, 27, 28, 29, 30, 31, 32, 33, 34, 35, 36, 37, 38, 39, 40, 41, 42, 43, 44, 45, 46, 47, 48, 49, 50, 51, 52, 53, 54, 55, 56, 57] [] rfl rfl (by decide) (by decide) hk1 hFc hP1 hD1
          generalize H1 = H at hP hS ⊢
          have hP : va_P (dC, dI) nCl (vM cy a r1.2) H := hP
          have hD : va_D A (vM cy a r1.2) := hD
          refine lv_ineg hx hb dX12_other_47 ?_
          cases hc2 : x_wholeOf k 0 (upd (fun _ => 0) 1 ((- r1.1))) r1.2 with
          | none => rw [hc2, ob_none] at h; cases h
          | some r2 =>
            rw [hc2, ob_some] at h
            have hFc := va_free (wc := vM cy a r1.2) hD hS hA [0, 1, 2, 3, 4, 5, 6, 7, 8, 9, 10, 11, 12, 13, 14, 15, 16, 17, 18, 19, 20, 21, 22, 23, 24, 25, 26, 27, 28, 29, 30, 31, 32, 33, 34, 35, 36, 37, 38, 39, 40, 41, 42, 43, 44, 45, 46, 47, 48, 49, 50, 51, 52, 53, 54, 55, 56, 57] rfl
            refine va_calli (va_runV (As := [.int (- r1.1)]) (rest := []) ⟨hx, hb, hml, hown, hts⟩ (c_x_wholeOf l dC dI cy a k (upd (fun _ => 0) 1 ((- r1.1))) r1.2 r2 hc2 H.size) (cwV 1 hts g_x_other_wholeOf_485 rfl rfl rfl (by decide +kernel) ⟨Nat.le_of_ble_eq_true rfl, Nat.le_of_ble_eq_true rfl⟩) ⟨nb_blind, va_recv hK hP (ci := 11) (q0 := 0) rfl rfl, fun U hU hW => ⟨rfl, by rw [hU], by rw [hU]; exact hP, va_K.moved hW.alike hK, hD.weaken (fun _ _ _ _ => trivial), hG.warm hW⟩⟩ rfl rfl hl.1 rfl (lv_room (Nat.le_of_ble_eq_true rfl)) dX12_other_48 ⟨Nat.le_of_ble_eq_true rfl, Nat.le_of_ble_eq_true rfl⟩) hS (fun q _ h => hFc q h) hFc (fun z9 _ t H1 locs ht hvm hw hB hz1 hk1 hS => ?_)
            subst hw
            obtain ⟨hP1, hK1, hD1⟩ := hB
            rw [ht] at hP1
            obtain ⟨hP, hD⟩ := va_join (wr := []) (w1 := vM cy a r2.2) hP hD [0, 1, 2, 3, 4, 5, 6, 7, 8, 9, 10, 11, 12, 13, 14, 15, 16, 17, 18, 19, 20, 21, 22, 23, 24, 25, 26, 27, 28, 29, 30, 31, 32, 33, 34, 35, 36, 37, 38, 39, 40, 41, 42, 43, 44, 45, 46, 47, 48, 49, 50, 51, 52, 53, 54, 55, 56, 57] [] rfl rfl (by decide) (by decide) hk1 hFc hP1 hD1
            generalize H1 = H at hP hS ⊢
            have hP : va_P (dC, dI) nCl (vM cy a r2.2) H := hP
            have hD : va_D A (vM cy a r2.2) := hD
            cases h
            exact W.iret (v := r2.1) hx hb hr (fun t ht hW => ⟨⟨r2.1, (), rfl, rfl, by rw [ht]; exact hP, va_K.moved hW.alike hK, hD⟩, hS.F ht⟩) hS.2.2 dX12_other_51
  exact (blk k0).1 L0 σ0 r0 h0 s.heap [] ls hP hD hS hl
/-! isMap -/
def x_isMap : Nat → Nat → (Nat → Int32) → MS → Option (Int32 × MS)
  | 0, _, _, _ => none
  | k + 1, 0, L, σ => ob (x_kind k 0 (upd (fun _ => 0) 1 ((L 1))) σ) (fun r1 => if r1.1 = 6 then (x_isMap k 2 (upd L 100 1) r1.2) else (x_isMap k 1 L r1.2))
  | k + 1, 1, L, σ => x_isMap k 2 (upd L 100 0) σ
  | k + 1, 2, L, σ => x_isMap k 3 (upd (upd L 2 ((L 100))) 3 0) σ
  | k + 1, 3, L, σ => if ((L 2)) = 0 then (x_isMap k 6 L σ) else (if ¬ (((((L 1)) + 1)) < 0 ∨ 1740000 ≤ ((((L 1)) + 1)).toNatClampNeg) then (if ((σ.2.2 28 ((((L 1)) + 1)).toNatClampNeg)) ≤ ((L 3)) then (x_isMap k 6 L σ) else (if ¬ (((((((L 1)) + 4)) + ((L 3)))) < 0 ∨ 1740000 ≤ ((((((L 1)) + 4)) + ((L 3)))).toNatClampNeg) then (ob (x_kind k 0 (upd (fun _ => 0) 1 ((σ.2.2 28 ((((((L 1)) + 4)) + ((L 3)))).toNatClampNeg))) σ) (fun r5 => if r5.1 = 5 then (if ¬ (((((σ.2.2 28 ((((((L 1)) + 4)) + ((L 3)))).toNatClampNeg)) + 1)) < 0 ∨ 1740000 ≤ ((((σ.2.2 28 ((((((L 1)) + 4)) + ((L 3)))).toNatClampNeg)) + 1)).toNatClampNeg) then (if ((r5.2.2.2 28 ((((σ.2.2 28 ((((((L 1)) + 4)) + ((L 3)))).toNatClampNeg)) + 1)).toNatClampNeg)) = 2 then (x_isMap k 5 (upd (upd L 4 ((σ.2.2 28 ((((((L 1)) + 4)) + ((L 3)))).toNatClampNeg))) 100 1) r5.2) else (x_isMap k 4 (upd L 4 ((σ.2.2 28 ((((((L 1)) + 4)) + ((L 3)))).toNatClampNeg))) r5.2)) else none) else (x_isMap k 4 (upd L 4 ((σ.2.2 28 ((((((L 1)) + 4)) + ((L 3)))).toNatClampNeg))) r5.2))) else none)) else none)
  | k + 1, 4, L, σ => x_isMap k 5 (upd L 100 0) σ
  | k + 1, 5, L, σ => x_isMap k 3 (upd (upd L 2 ((L 100))) 3 (((L 3)) + 1)) σ
  | k + 1, 6, L, σ => if ((L 2)) = 0 ∨ ((L 2)) = 1 then some ((L 2), σ) else none
  | _ + 1, _ + 7, _, _ => none
def o_x_isMap : List Cond := [.methodLink RX12 545 yX12_kind, .instanceMethod yX12_kind, .selects RX12 yX12_kind yX12_kind, .initialized RX12, .fieldLink RX12 372 "SetHouseModel" "heap" "[I"]
theorem o_x_isMap_good : o_x_isMap.all goodWord = true := by decide +kernel
def p_x_isMap : List Cond := o_x_isMap ++ ((.code yX12_kind cX12_kind 2 (some .int) :: p_x_kind) ++ [])
theorem p_x_isMap_good : p_x_isMap.all goodWord = true := nb_all2 o_x_isMap_good (nb_all2 (nb_allc (by decide +kernel) p_x_kind_good) rfl)
def w_x_isMap : List Cond := .code yX12_isMap cX12_isMap 5 (some .boolean) :: (p_x_isMap ++ fM)
theorem w_x_isMap_good : w_x_isMap.all goodWord = true := nb_allc (by decide +kernel) (nb_all2 p_x_isMap_good fM_good)
theorem in_x_isMap : ∀ w ∈ wsX120, w ∈ w_x_isMap := fun _ h => List.mem_cons_of_mem _ (List.mem_append_right _ h)
theorem gg_x_isMap_kind : GoodIn w_x_isMap w_x_kind := goodIn_sub (fun w h => (List.mem_cons.mp h).elim (fun e => (List.mem_cons_of_mem _ (List.mem_append_left _ (List.mem_append_right _ (List.mem_append_left _ (List.mem_cons.mpr (Or.inl e))))))) (fun h => (List.mem_append.mp h).elim (fun h => (List.mem_cons_of_mem _ (List.mem_append_left _ (List.mem_append_right _ (List.mem_append_left _ (List.mem_cons_of_mem _ h)))))) (fun h => List.mem_cons_of_mem _ (List.mem_append_right _ h)))) w_x_kind_good
theorem g_x_isMap_kind_545 : GoodIn w_x_isMap (wsV RX12 545 RX12 yX12_kind w_x_kind) := goodIn_app (nb_g4 (List.mem_cons_of_mem _ (List.mem_append_left _ (List.mem_append_left _ (List.mem_of_getElem? (i := 0) rfl)))) (List.mem_cons_of_mem _ (List.mem_append_left _ (List.mem_append_left _ (List.mem_of_getElem? (i := 1) rfl)))) (List.mem_cons_of_mem _ (List.mem_append_left _ (List.mem_append_left _ (List.mem_of_getElem? (i := 2) rfl)))) (List.mem_cons_of_mem _ (List.mem_append_left _ (List.mem_append_left _ (List.mem_of_getElem? (i := 3) rfl)))) (by decide +kernel)) gg_x_isMap_kind
set_option maxHeartbeats 40000000 in
set_option maxRecDepth 100000 in
theorem c_x_isMap (l : Launch) (dC : Nat → ClassId) (dI : Nat → Nat → Nat) (cy : Nat → ClassId) (a : Nat → Nat) (k0 : Nat) (L0 : Nat → Int32) (σ0 : MS) (r0 : Int32 × MS) (h0 : x_isMap k0 0 L0 σ0 = some r0) (sz : Nat) : Met l yX12_isMap w_x_isMap ({ frames := 1, cells := 0, slots := 0, locals := 21 }) (va_Pc [.ref (a 0), .int (L0 1)] (nIn (dC, dI) cy sz (vM cy a σ0))) (va_Qi (fun (z : Int32) (_ : Unit) => z = r0.1) (fun _ t => nOut (dC, dI) cy (va_A (vM cy a σ0) sz) (vM cy a r0.2) t) (va_A (vM cy a σ0) sz)) 0 0 (va_A (vM cy a σ0) sz) := by
  refine Met.ofW (cc := cX12_isMap) (maxL := 5) (ret := (some .boolean)) (by decide) rfl ?_
  intro p e s m args below meth c s₁ B hml hv
  obtain ⟨rfl, hsz, hP, hK, hD0, hG⟩ := hv
  have hx := B.exec
  have hb := B.bytes
  have hr := B.returns
  have hts := atoms_spec (ws := w_x_isMap) B.pre
  have hown : s.vm.findClass RX12 = some m.cls := findClass_of_methodNamed B.named
  have hlocks := B.notSynchronized
  subst hsz
  have hD := hD0.self (sz := s.heap.size)
  generalize hAe : va_A (vM cy a σ0) s.heap.size = A at hD ⊢
  have hA : ∀ q : Nat, s.heap.size ≤ q → A q := fun q h => by rw [← hAe]; exact Or.inr h
  have hS : va_S A s.heap s.heap [] := va_S.rf
  have hl := lv_entry ([.ref (a 0), .int (L0 1)]) (n := 5) (Nat.le_of_ble_eq_true rfl)
  rw [lg_entry_eq]
  generalize (lg_sl ([.ref (a 0), .int (L0 1)]) ++ List.replicate (5 - (lg_sl ([.ref (a 0), .int (L0 1)])).length) Slot.unset).toArray = ls at hl ⊢
  have hl : lv_has ls 5 [(0, .ref (a 0)), (1, .int (L0 1))] := hl
  have blk : ∀ k : Nat, (∀ (L : Nat → Int32) (σ : MS) (r : Int32 × MS), x_isMap k 0 L σ = some r → ∀ (H : Heap) (locs : List Loc) (ls : Array Slot), va_P (dC, dI) nCl (vM cy a σ) H → va_D A (vM cy a σ) → va_S A s.heap H locs → lv_has ls 5 [(0, .ref (a 0)), (1, .int (L 1))] → W p l e (headSpec w_x_isMap ({ frames := 1, cells := 0, slots := 0, locals := 21 })).room s m #[.ref (a 0), .int (L0 1)] below meth c H locs 0 0 (MQ below (va_Qi (fun (z : Int32) (_ : Unit) => z = r.1) (fun _ t => nOut (dC, dI) cy A (vM cy a r.2) t) A) #[.ref (a 0), .int (L0 1)] s 0 0 A) (F0 m 0 ls [])) ∧ (∀ (L : Nat → Int32) (σ : MS) (r : Int32 × MS), x_isMap k 1 L σ = some r → ∀ (H : Heap) (locs : List Loc) (ls : Array Slot), va_P (dC, dI) nCl (vM cy a σ) H → va_D A (vM cy a σ) → va_S A s.heap H locs → lv_has ls 5 [(0, .ref (a 0)), (1, .int (L 1))] → W p l e (headSpec w_x_isMap ({ frames := 1, cells := 0, slots := 0, locals := 21 })).room s m #[.ref (a 0), .int (L0 1)] below meth c H locs 0 0 (MQ below (va_Qi (fun (z : Int32) (_ : Unit) => z = r.1) (fun _ t => nOut (dC, dI) cy A (vM cy a r.2) t) A) #[.ref (a 0), .int (L0 1)] s 0 0 A) (F0 m 14 ls [])) ∧ (∀ (L : Nat → Int32) (σ : MS) (r : Int32 × MS), x_isMap k 2 L σ = some r → ∀ (H : Heap) (locs : List Loc) (ls : Array Slot), va_P (dC, dI) nCl (vM cy a σ) H → va_D A (vM cy a σ) → va_S A s.heap H locs → lv_has ls 5 [(0, .ref (a 0)), (1, .int (L 1))] → W p l e (headSpec w_x_isMap ({ frames := 1, cells := 0, slots := 0, locals := 21 })).room s m #[.ref (a 0), .int (L0 1)] below meth c H locs 0 0 (MQ below (va_Qi (fun (z : Int32) (_ : Unit) => z = r.1) (fun _ t => nOut (dC, dI) cy A (vM cy a r.2) t) A) #[.ref (a 0), .int (L0 1)] s 0 0 A) (F0 m 15 ls [.int (L 100)])) ∧ (∀ (L : Nat → Int32) (σ : MS) (r : Int32 × MS), x_isMap k 3 L σ = some r → ∀ (H : Heap) (locs : List Loc) (ls : Array Slot), va_P (dC, dI) nCl (vM cy a σ) H → va_D A (vM cy a σ) → va_S A s.heap H locs → lv_has ls 5 [(0, .ref (a 0)), (1, .int (L 1)), (2, .int (L 2)), (3, .int (L 3))] → W p l e (headSpec w_x_isMap ({ frames := 1, cells := 0, slots := 0, locals := 21 })).room s m #[.ref (a 0), .int (L0 1)] below meth c H locs 0 0 (MQ below (va_Qi (fun (z : Int32) (_ : Unit) => z = r.1) (fun _ t => nOut (dC, dI) cy A (vM cy a r.2) t) A) #[.ref (a 0), .int (L0 1)] s 0 0 A) (F0 m 18 ls [])) ∧ (∀ (L : Nat → Int32) (σ : MS) (r : Int32 × MS), x_isMap k 4 L σ = some r → ∀ (H : Heap) (locs : List Loc) (ls : Array Slot), va_P (dC, dI) nCl (vM cy a σ) H → va_D A (vM cy a σ) → va_S A s.heap H locs → lv_has ls 5 [(0, .ref (a 0)), (1, .int (L 1)), (2, .int (L 2)), (3, .int (L 3)), (4, .int (L 4))] → W p l e (headSpec w_x_isMap ({ frames := 1, cells := 0, slots := 0, locals := 21 })).room s m #[.ref (a 0), .int (L0 1)] below meth c H locs 0 0 (MQ below (va_Qi (fun (z : Int32) (_ : Unit) => z = r.1) (fun _ t => nOut (dC, dI) cy A (vM cy a r.2) t) A) #[.ref (a 0), .int (L0 1)] s 0 0 A) (F0 m 73 ls [])) ∧ (∀ (L : Nat → Int32) (σ : MS) (r : Int32 × MS), x_isMap k 5 L σ = some r → ∀ (H : Heap) (locs : List Loc) (ls : Array Slot), va_P (dC, dI) nCl (vM cy a σ) H → va_D A (vM cy a σ) → va_S A s.heap H locs → lv_has ls 5 [(0, .ref (a 0)), (1, .int (L 1)), (2, .int (L 2)), (3, .int (L 3)), (4, .int (L 4))] → W p l e (headSpec w_x_isMap ({ frames := 1, cells := 0, slots := 0, locals := 21 })).room s m #[.ref (a 0), .int (L0 1)] below meth c H locs 0 0 (MQ below (va_Qi (fun (z : Int32) (_ : Unit) => z = r.1) (fun _ t => nOut (dC, dI) cy A (vM cy a r.2) t) A) #[.ref (a 0), .int (L0 1)] s 0 0 A) (F0 m 74 ls [.int (L 100)])) ∧ (∀ (L : Nat → Int32) (σ : MS) (r : Int32 × MS), x_isMap k 6 L σ = some r → ∀ (H : Heap) (locs : List Loc) (ls : Array Slot), va_P (dC, dI) nCl (vM cy a σ) H → va_D A (vM cy a σ) → va_S A s.heap H locs → lv_has ls 5 [(0, .ref (a 0)), (1, .int (L 1)), (2, .int (L 2)), (3, .int (L 3))] → W p l e (headSpec w_x_isMap ({ frames := 1, cells := 0, slots := 0, locals := 21 })).room s m #[.ref (a 0), .int (L0 1)] below meth c H locs 0 0 (MQ below (va_Qi (fun (z : Int32) (_ : Unit) => z = r.1) (fun _ t => nOut (dC, dI) cy A (vM cy a r.2) t) A) #[.ref (a 0), .int (L0 1)] s 0 0 A) (F0 m 81 ls [])) := by
    intro k
    induction k with
    | zero => exact ⟨fun L σ r h => (by cases h), fun L σ r h => (by cases h), fun L σ r h => (by cases h), fun L σ r h => (by cases h), fun L σ r h => (by cases h), fun L σ r h => (by cases h), fun L σ r h => (by cases h)⟩
    | succ k ih =>
      refine ⟨?_, ?_, ?_, ?_, ?_, ?_, ?_⟩
      · intro L σ r h H locs ls hP hD hS hl
        rw [x_isMap] at h
        refine lv_aload_n hx hb dX12_isMap_0 rfl (lv_at hl 0 rfl) ?_
        refine lv_iload_n hx hb dX12_isMap_1 rfl (lv_at hl 1 rfl) ?_
        cases hc1 : x_kind k 0 (upd (fun _ => 0) 1 ((L 1))) σ with
        | none => rw [hc1, ob_none] at h; cases h
        | some r1 =>
          rw [hc1, ob_some] at h
          have hFc := va_free (wc := vM cy a σ) hD hS hA [0, 1, 2, 3, 4, 5, 6, 7, 8, 9, 10, 11, 12, 13, 14, 15, 16, 17, 18, 19, 20, 21, 22, 23, 24, 25, 26, 27, 28, 29, 30, 31, 32, 33, 34, 35, 36, 37, 38, 39, 40, 41, 42, 43, 44, 45, 46, 47, 48, 49, 50, 51, 52, 53, 54, 55, 56, 57] rfl
          refine va_calli (va_runV (As := [.int (L 1)]) (rest := []) ⟨hx, hb, hml, hown, hts⟩ (c_x_kind l dC dI cy a k (upd (fun _ => 0) 1 ((L 1))) σ r1 hc1 H.size) (cwV 1 hts g_x_isMap_kind_545 rfl rfl rfl (by decide +kernel) ⟨Nat.le_of_ble_eq_true rfl, Nat.le_of_ble_eq_true rfl⟩) ⟨nb_blind, va_recv hK hP (ci := 11) (q0 := 0) rfl rfl, fun U hU hW => ⟨rfl, by rw [hU], by rw [hU]; exact hP, va_K.moved hW.alike hK, hD.weaken (fun _ _ _ _ => trivial), hG.warm hW⟩⟩ rfl rfl hl.1 rfl (lv_room (Nat.le_of_ble_eq_true rfl)) dX12_isMap_2 ⟨Nat.le_of_ble_eq_true rfl, Nat.le_of_ble_eq_true rfl⟩) hS (fun q _ h => hFc q h) hFc (fun z9 _ t H1 locs ht hvm hw hB hz1 hk1 hS => ?_)
          subst hw
          obtain ⟨hP1, hK1, hD1⟩ := hB
          rw [ht] at hP1
          obtain ⟨hP, hD⟩ := va_join (wr := []) (w1 := vM cy a r1.2) hP hD [0, 1, 2, 3, 4, 5, 6, 7, 8, 9, 10, 11, 12, 13, 14, 15, 16, 17, 18, 19, 20, 21, 22, 23, 24, 25, 26, 27, 28, 29, 30, 31, 32, 33, 34, 35, 36, 37, 38, 39, 40, 41, 42, 43, 44, 45, 46, 47, 48, 49, 50, 51, 52, 53, 54, 55, 56, 57] [] rfl rfl (by decide) (by decide) hk1 hFc hP1 hD1
          generalize H1 = H at hP hS ⊢
          have hP : va_P (dC, dI) nCl (vM cy a r1.2) H := hP
          have hD : va_D A (vM cy a r1.2) := hD
          refine lv_bipush (v := 6) hx hb dX12_isMap_5 (by decide) ?_
          refine lv_icmp_ne (tgt := 14) hx hb dX12_isMap_7 (by decide) (fun c2 => ?_) (fun c2 => ?_)
          · rw [if_neg c2] at h
            exact ih.2.1 L r1.2 r h H locs ls hP hD hS (lv_sub hl [0, 1] rfl)
          · rw [if_pos c2] at h
            refine lv_iconst (v := 1) hx hb dX12_isMap_10 (by decide) ?_
            refine lv_goto (tgt := 15) hx hb dX12_isMap_11 (by decide) ?_
            exact ih.2.2.1 (upd L 100 1) r1.2 r h H locs ls hP hD hS (lv_sub hl [0, 1] rfl)
      · intro L σ r h H locs ls hP hD hS hl
        rw [x_isMap] at h
        refine lv_iconst (v := 0) hx hb dX12_isMap_14 (by decide) ?_
        exact ih.2.2.1 (upd L 100 0) σ r h H locs ls hP hD hS (lv_sub hl [0, 1] rfl)
      · intro L σ r h H locs ls hP hD hS hl
        rw [x_isMap] at h
        refine lv_istore_n (lv' := [(2, .int (L 100)), (0, .ref (a 0)), (1, .int (L 1))]) hx hb dX12_isMap_15 rfl hl (by decide) rfl (fun ls hl => ?_)
        refine lv_iconst (v := 0) hx hb dX12_isMap_16 (by decide) ?_
        refine lv_istore_n (lv' := [(3, .int 0), (2, .int (L 100)), (0, .ref (a 0)), (1, .int (L 1))]) hx hb dX12_isMap_17 rfl hl (by decide) rfl (fun ls hl => ?_)
        exact ih.2.2.2.1 (upd (upd L 2 ((L 100))) 3 0) σ r h H locs ls hP hD hS (lv_sub hl [2, 3, 1, 0] rfl)
      · intro L σ r h H locs ls hP hD hS hl
        rw [x_isMap] at h
        refine lv_iload_n hx hb dX12_isMap_18 rfl (lv_at hl 2 rfl) ?_
        refine lv_if_eq (tgt := 81) hx hb dX12_isMap_19 (by decide) (fun c1 => ?_) (fun c1 => ?_)
        · rw [if_pos c1] at h
          exact ih.2.2.2.2.2.2 L σ r h H locs ls hP hD hS (lv_sub hl [0, 1, 2, 3] rfl)
        · rw [if_neg c1] at h
          refine lv_iload_n hx hb dX12_isMap_22 rfl (lv_at hl 3 rfl) ?_
          refine lv_aload_n hx hb dX12_isMap_23 rfl (lv_at hl 0 rfl) ?_
          refine va_get (D := (dC, dI)) (ci := 11) (v := .ref (a 28)) (C := RX12) (T := TX12) (N := 121) hx hb hts in_x_isMap hown hK hP 0 rfl rfl 53 (by decide) (hts _ (List.mem_cons_of_mem _ (List.mem_append_left _ (List.mem_append_left _ (List.mem_of_getElem? (i := 4) rfl))))) (fun _ h9 => h9) rfl dX12_isMap_24 ?_
          refine lv_iload_n hx hb dX12_isMap_27 rfl (lv_at hl 1 rfl) ?_
          refine lv_iconst (v := 1) hx hb dX12_isMap_28 (by decide) ?_
          refine lv_iadd hx hb dX12_isMap_29 ?_
          by_cases q2 : ¬ (((((L 1)) + 1)) < 0 ∨ 1740000 ≤ ((((L 1)) + 1)).toNatClampNeg)
          · rw [if_pos q2] at h
            refine va_iald hx hb hK hP 28 1 rfl rfl (nb_inp q2) dX12_isMap_30 ?_
            refine lv_icmp_ge (tgt := 81) hx hb dX12_isMap_31 (by decide) (fun c3 => ?_) (fun c3 => ?_)
            · rw [if_pos c3] at h
              exact ih.2.2.2.2.2.2 L σ r h H locs ls hP hD hS (lv_sub hl [0, 1, 2, 3] rfl)
            · rw [if_neg c3] at h
              refine lv_aload_n hx hb dX12_isMap_34 rfl (lv_at hl 0 rfl) ?_
              refine va_get (D := (dC, dI)) (ci := 11) (v := .ref (a 28)) (C := RX12) (T := TX12) (N := 121) hx hb hts in_x_isMap hown hK hP 0 rfl rfl 53 (by decide) (hts _ (List.mem_cons_of_mem _ (List.mem_append_left _ (List.mem_append_left _ (List.mem_of_getElem? (i := 4) rfl))))) (fun _ h9 => h9) rfl dX12_isMap_35 ?_
              refine lv_iload_n hx hb dX12_isMap_38 rfl (lv_at hl 1 rfl) ?_
              refine lv_iconst (v := 4) hx hb dX12_isMap_39 (by decide) ?_
              refine lv_iadd hx hb dX12_isMap_40 ?_
              refine lv_iload_n hx hb dX12_isMap_41 rfl (lv_at hl 3 rfl) ?_
              refine lv_iadd hx hb dX12_isMap_42 ?_
              by_cases q4 : ¬ (((((((L 1)) + 4)) + ((L 3)))) < 0 ∨ 1740000 ≤ ((((((L 1)) + 4)) + ((L 3)))).toNatClampNeg)
              · rw [if_pos q4] at h
                refine va_iald hx hb hK hP 28 1 rfl rfl (nb_inp q4) dX12_isMap_43 ?_
                refine lv_istore (lv' := [(4, .int (σ.2.2 28 ((((((L 1)) + 4)) + ((L 3)))).toNatClampNeg)), (0, .ref (a 0)), (1, .int (L 1)), (2, .int (L 2)), (3, .int (L 3))]) hx hb dX12_isMap_44 hl (by decide) rfl (fun ls hl => ?_)
                refine lv_aload_n hx hb dX12_isMap_46 rfl (lv_at hl 1 rfl) ?_
                refine lv_iload hx hb dX12_isMap_47 (lv_at hl 0 rfl) ?_
                cases hc5 : x_kind k 0 (upd (fun _ => 0) 1 ((σ.2.2 28 ((((((L 1)) + 4)) + ((L 3)))).toNatClampNeg))) σ with
                | none => rw [hc5, ob_none] at h; cases h
                | some r5 =>
                  rw [hc5, ob_some] at h
                  have hFc := va_free (wc := vM cy a σ) hD hS hA [0, 1, 2, 3, 4, 5, 6, 7, 8, 9, 10, 11, 12, 13, 14, 15, 16, 17, 18, 19, 20, 21, 22, 23, 24, 25, 26, 27, 28, 29, 30, 31, 32, 33, 34, 35, 36, 37, 38, 39, 40, 41, 42, 43, 44, 45, 46, 47, 48, 49, 50, 51, 52, 53, 54, 55, 56, 57] rfl
                  refine va_calli (va_runV (As := [.int (σ.2.2 28 ((((((L 1)) + 4)) + ((L 3)))).toNatClampNeg)]) (rest := []) ⟨hx, hb, hml, hown, hts⟩ (c_x_kind l dC dI cy a k (upd (fun _ => 0) 1 ((σ.2.2 28 ((((((L 1)) + 4)) + ((L 3)))).toNatClampNeg))) σ r5 hc5 H.size) (cwV 1 hts g_x_isMap_kind_545 rfl rfl rfl (by decide +kernel) ⟨Nat.le_of_ble_eq_true rfl, Nat.le_of_ble_eq_true rfl⟩) ⟨nb_blind, va_recv hK hP (ci := 11) (q0 := 0) rfl rfl, fun U hU hW => ⟨rfl, by rw [hU], by rw [hU]; exact hP, va_K.moved hW.alike hK, hD.weaken (fun _ _ _ _ => trivial), hG.warm hW⟩⟩ rfl rfl hl.1 rfl (lv_room (Nat.le_of_ble_eq_true rfl)) dX12_isMap_49 ⟨Nat.le_of_ble_eq_true rfl, Nat.le_of_ble_eq_true rfl⟩) hS (fun q _ h => hFc q h) hFc (fun z9 _ t H1 locs ht hvm hw hB hz1 hk1 hS => ?_)
                  subst hw
                  obtain ⟨hP1, hK1, hD1⟩ := hB
                  rw [ht] at hP1
                  obtain ⟨hP, hD⟩ := va_join (wr := []) (w1 := vM cy a r5.2) hP hD [0, 1, 2, 3, 4, 5, 6, 7, 8, 9, 10, 11, 12, 13, 14, 15, 16, 17, 18, 19, 20, 21, 22, 23, 24, 25, 26, 27, 28, 29, 30, 31, 32, 33, 34, 35, 36, 37, 38, 39, 40, 41, 42, 43, 44, 45, 46, 47, 48, 49, 50, 51, 52, 53, 54, 55, 56, 57] [] rfl rfl (by decide) (by decide) hk1 hFc hP1 hD1
                  generalize H1 = H at hP hS ⊢
                  have hP : va_P (dC, dI) nCl (vM cy a r5.2) H := hP
                  have hD : va_D A (vM cy a r5.2) := hD
                  refine lv_iconst (v := 5) hx hb dX12_isMap_52 (by decide) ?_
                  refine lv_icmp_ne (tgt := 73) hx hb dX12_isMap_53 (by decide) (fun c6 => ?_) (fun c6 => ?_)
                  · rw [if_neg c6] at h
                    exact ih.2.2.2.2.1 (upd L 4 ((σ.2.2 28 ((((((L 1)) + 4)) + ((L 3)))).toNatClampNeg))) r5.2 r h H locs ls hP hD hS (lv_sub hl [1, 2, 3, 4, 0] rfl)
                  · rw [if_pos c6] at h
                    refine lv_aload_n hx hb dX12_isMap_56 rfl (lv_at hl 1 rfl) ?_
                    refine va_get (D := (dC, dI)) (ci := 11) (v := .ref (a 28)) (C := RX12) (T := TX12) (N := 121) hx hb hts in_x_isMap hown hK hP 0 rfl rfl 53 (by decide) (hts _ (List.mem_cons_of_mem _ (List.mem_append_left _ (List.mem_append_left _ (List.mem_of_getElem? (i := 4) rfl))))) (fun _ h9 => h9) rfl dX12_isMap_57 ?_
                    refine lv_iload hx hb dX12_isMap_60 (lv_at hl 0 rfl) ?_
                    refine lv_iconst (v := 1) hx hb dX12_isMap_62 (by decide) ?_
                    refine lv_iadd hx hb dX12_isMap_63 ?_
                    by_cases q7 : ¬ (((((σ.2.2 28 ((((((L 1)) + 4)) + ((L 3)))).toNatClampNeg)) + 1)) < 0 ∨ 1740000 ≤ ((((σ.2.2 28 ((((((L 1)) + 4)) + ((L 3)))).toNatClampNeg)) + 1)).toNatClampNeg)
                    · rw [if_pos q7] at h
                      refine va_iald hx hb hK hP 28 1 rfl rfl (nb_inp q7) dX12_isMap_64 ?_
                      refine lv_iconst (v := 2) hx hb dX12_isMap_65 (by decide) ?_
                      refine lv_icmp_ne (tgt := 73) hx hb dX12_isMap_66 (by decide) (fun c8 => ?_) (fun c8 => ?_)
                      · rw [if_neg c8] at h
                        exact ih.2.2.2.2.1 (upd L 4 ((σ.2.2 28 ((((((L 1)) + 4)) + ((L 3)))).toNatClampNeg))) r5.2 r h H locs ls hP hD hS (lv_sub hl [1, 2, 3, 4, 0] rfl)
                      · rw [if_pos c8] at h
                        refine lv_iconst (v := 1) hx hb dX12_isMap_69 (by decide) ?_
                        refine lv_goto (tgt := 74) hx hb dX12_isMap_70 (by decide) ?_
                        exact ih.2.2.2.2.2.1 (upd (upd L 4 ((σ.2.2 28 ((((((L 1)) + 4)) + ((L 3)))).toNatClampNeg))) 100 1) r5.2 r h H locs ls hP hD hS (lv_sub hl [1, 2, 3, 4, 0] rfl)
                    · rw [if_neg q7] at h; cases h
              · rw [if_neg q4] at h; cases h
          · rw [if_neg q2] at h; cases h
      · intro L σ r h H locs ls hP hD hS hl
        rw [x_isMap] at h
        refine lv_iconst (v := 0) hx hb dX12_isMap_73 (by decide) ?_
        exact ih.2.2.2.2.2.1 (upd L 100 0) σ r h H locs ls hP hD hS (lv_sub hl [0, 1, 2, 3, 4] rfl)
      · intro L σ r h H locs ls hP hD hS hl
        rw [x_isMap] at h
        refine lv_istore_n (lv' := [(2, .int (L 100)), (0, .ref (a 0)), (1, .int (L 1)), (3, .int (L 3)), (4, .int (L 4))]) hx hb dX12_isMap_74 rfl hl (by decide) rfl (fun ls hl => ?_)
        refine lv_iinc (v := ((L 3)) + 1) (lv' := [(3, .int (((L 3)) + 1)), (2, .int (L 100)), (0, .ref (a 0)), (1, .int (L 1)), (4, .int (L 4))]) hx hb dX12_isMap_75 hl (k := 3) rfl rfl (by decide) rfl (fun ls hl => ?_)
        refine lv_goto (tgt := 18) hx hb dX12_isMap_78 (by decide) ?_
        exact ih.2.2.2.1 (upd (upd L 2 ((L 100))) 3 (((L 3)) + 1)) σ r h H locs ls hP hD hS (lv_sub hl [2, 3, 1, 0] rfl)
      · intro L σ r h H locs ls hP hD hS hl
        rw [x_isMap] at h
        refine lv_iload_n hx hb dX12_isMap_81 rfl (lv_at hl 2 rfl) ?_
        by_cases q1 : ((L 2)) = 0 ∨ ((L 2)) = 1
        · rw [if_pos q1] at h
          cases h
          exact W.zret (v := (L 2)) hx hb hr (nb_bz q1) (fun t ht hW => ⟨⟨(L 2), (), rfl, rfl, by rw [ht]; exact hP, va_K.moved hW.alike hK, hD⟩, hS.F ht⟩) hS.2.2 dX12_isMap_82
        · rw [if_neg q1] at h; cases h
  exact (blk k0).1 L0 σ0 r0 h0 s.heap [] ls hP hD hS hl
/-! negative -/
def x_negative : Nat → Nat → (Nat → Int32) → MS → Option (Int32 × MS)
  | 0, _, _, _ => none
  | k + 1, 0, L, σ => ob (x_kind k 0 (upd (fun _ => 0) 1 ((L 1))) σ) (fun r1 => if r1.1 = 2 then (x_negative k 1 L r1.2) else (ob (x_wrongKind k 0 (fun _ => 0) r1.2) (fun r3 => x_negative k 2 (upd L 100 r3.1) r3.2)))
  | k + 1, 1, L, σ => ob (x_other k 0 (upd (fun _ => 0) 1 ((L 1))) σ) (fun r1 => x_negative k 2 (upd L 100 r1.1) r1.2)
  | k + 1, 2, L, σ => some ((L 100), σ)
  | _ + 1, _ + 3, _, _ => none
def o_x_negative : List Cond := [.methodLink RX12 545 yX12_kind, .instanceMethod yX12_kind, .selects RX12 yX12_kind yX12_kind, .initialized RX12, .methodLink RX12 666 yX12_wrongKind, .instanceMethod yX12_wrongKind, .selects RX12 yX12_wrongKind yX12_wrongKind, .methodLink RX12 669 yX12_other, .instanceMethod yX12_other, .selects RX12 yX12_other yX12_other]
theorem o_x_negative_good : o_x_negative.all goodWord = true := by decide +kernel
def p_x_negative : List Cond := o_x_negative ++ ((.code yX12_kind cX12_kind 2 (some .int) :: p_x_kind) ++ ((.code yX12_wrongKind cX12_wrongKind 1 (some .int) :: p_x_wrongKind) ++ ((.code yX12_other cX12_other 3 (some .int) :: p_x_other) ++ [])))
theorem p_x_negative_good : p_x_negative.all goodWord = true := nb_all2 o_x_negative_good (nb_all2 (nb_allc (by decide +kernel) p_x_kind_good) (nb_all2 (nb_allc (by decide +kernel) p_x_wrongKind_good) (nb_all2 (nb_allc (by decide +kernel) p_x_other_good) rfl)))
def w_x_negative : List Cond := .code yX12_negative cX12_negative 2 (some .int) :: (p_x_negative ++ fM)
theorem w_x_negative_good : w_x_negative.all goodWord = true := nb_allc (by decide +kernel) (nb_all2 p_x_negative_good fM_good)
theorem in_x_negative : ∀ w ∈ wsX120, w ∈ w_x_negative := fun _ h => List.mem_cons_of_mem _ (List.mem_append_right _ h)
theorem gg_x_negative_kind : GoodIn w_x_negative w_x_kind := goodIn_sub (fun w h => (List.mem_cons.mp h).elim (fun e => (List.mem_cons_of_mem _ (List.mem_append_left _ (List.mem_append_right _ (List.mem_append_left _ (List.mem_cons.mpr (Or.inl e))))))) (fun h => (List.mem_append.mp h).elim (fun h => (List.mem_cons_of_mem _ (List.mem_append_left _ (List.mem_append_right _ (List.mem_append_left _ (List.mem_cons_of_mem _ h)))))) (fun h => List.mem_cons_of_mem _ (List.mem_append_right _ h)))) w_x_kind_good
theorem gg_x_negative_wrongKind : GoodIn w_x_negative w_x_wrongKind := goodIn_sub (fun w h => (List.mem_cons.mp h).elim (fun e => (List.mem_cons_of_mem _ (List.mem_append_left _ (List.mem_append_right _ (List.mem_append_right _ (List.mem_append_left _ (List.mem_cons.mpr (Or.inl e)))))))) (fun h => (List.mem_append.mp h).elim (fun h => (List.mem_cons_of_mem _ (List.mem_append_left _ (List.mem_append_right _ (List.mem_append_right _ (List.mem_append_left _ (List.mem_cons_of_mem _ h))))))) (fun h => List.mem_cons_of_mem _ (List.mem_append_right _ h)))) w_x_wrongKind_good
theorem gg_x_negative_other : GoodIn w_x_negative w_x_other := goodIn_sub (fun w h => (List.mem_cons.mp h).elim (fun e => (List.mem_cons_of_mem _ (List.mem_append_left _ (List.mem_append_right _ (List.mem_append_right _ (List.mem_append_right _ (List.mem_append_left _ (List.mem_cons.mpr (Or.inl e))))))))) (fun h => (List.mem_append.mp h).elim (fun h => (List.mem_cons_of_mem _ (List.mem_append_left _ (List.mem_append_right _ (List.mem_append_right _ (List.mem_append_right _ (List.mem_append_left _ (List.mem_cons_of_mem _ h)))))))) (fun h => List.mem_cons_of_mem _ (List.mem_append_right _ h)))) w_x_other_good
theorem g_x_negative_kind_545 : GoodIn w_x_negative (wsV RX12 545 RX12 yX12_kind w_x_kind) := goodIn_app (nb_g4 (List.mem_cons_of_mem _ (List.mem_append_left _ (List.mem_append_left _ (List.mem_of_getElem? (i := 0) rfl)))) (List.mem_cons_of_mem _ (List.mem_append_left _ (List.mem_append_left _ (List.mem_of_getElem? (i := 1) rfl)))) (List.mem_cons_of_mem _ (List.mem_append_left _ (List.mem_append_left _ (List.mem_of_getElem? (i := 2) rfl)))) (List.mem_cons_of_mem _ (List.mem_append_left _ (List.mem_append_left _ (List.mem_of_getElem? (i := 3) rfl)))) (by decide +kernel)) gg_x_negative_kind
theorem g_x_negative_other_669 : GoodIn w_x_negative (wsV RX12 669 RX12 yX12_other w_x_other) := goodIn_app (nb_g4 (List.mem_cons_of_mem _ (List.mem_append_left _ (List.mem_append_left _ (List.mem_of_getElem? (i := 7) rfl)))) (List.mem_cons_of_mem _ (List.mem_append_left _ (List.mem_append_left _ (List.mem_of_getElem? (i := 8) rfl)))) (List.mem_cons_of_mem _ (List.mem_append_left _ (List.mem_append_left _ (List.mem_of_getElem? (i := 9) rfl)))) (List.mem_cons_of_mem _ (List.mem_append_left _ (List.mem_append_left _ (List.mem_of_getElem? (i := 3) rfl)))) (by decide +kernel)) gg_x_negative_other
theorem g_x_negative_wrongKind_666 : GoodIn w_x_negative (wsV RX12 666 RX12 yX12_wrongKind w_x_wrongKind) := goodIn_app (nb_g4 (List.mem_cons_of_mem _ (List.mem_append_left _ (List.mem_append_left _ (List.mem_of_getElem? (i := 4) rfl)))) (List.mem_cons_of_mem _ (List.mem_append_left _ (List.mem_append_left _ (List.mem_of_getElem? (i := 5) rfl)))) (List.mem_cons_of_mem _ (List.mem_append_left _ (List.mem_append_left _ (List.mem_of_getElem? (i := 6) rfl)))) (List.mem_cons_of_mem _ (List.mem_append_left _ (List.mem_append_left _ (List.mem_of_getElem? (i := 3) rfl)))) (by decide +kernel)) gg_x_negative_wrongKind
set_option maxHeartbeats 40000000 in
set_option maxRecDepth 100000 in
theorem c_x_negative (l : Launch) (dC : Nat → ClassId) (dI : Nat → Nat → Nat) (cy : Nat → ClassId) (a : Nat → Nat) (k0 : Nat) (L0 : Nat → Int32) (σ0 : MS) (r0 : Int32 × MS) (h0 : x_negative k0 0 L0 σ0 = some r0) (sz : Nat) : Met l yX12_negative w_x_negative ({ frames := 4, cells := 0, slots := 0, locals := 89 }) (va_Pc [.ref (a 0), .int (L0 1)] (nIn (dC, dI) cy sz (vM cy a σ0))) (va_Qi (fun (z : Int32) (_ : Unit) => z = r0.1) (fun _ t => nOut (dC, dI) cy (va_A (vM cy a σ0) sz) (vM cy a r0.2) t) (va_A (vM cy a σ0) sz)) 0 0 (va_A (vM cy a σ0) sz) := by
  refine Met.ofW (cc := cX12_negative) (maxL := 2) (ret := (some .int)) (by decide) rfl ?_
  intro p e s m args below meth c s₁ B hml hv
  obtain ⟨rfl, hsz, hP, hK, hD0, hG⟩ := hv
  have hx := B.exec
  have hb := B.bytes
  have hr := B.returns
  have hts := atoms_spec (ws := w_x_negative) B.pre
  have hown : s.vm.findClass RX12 = some m.cls := findClass_of_methodNamed B.named
  have hlocks := B.notSynchronized
  subst hsz
  have hD := hD0.self (sz := s.heap.size)
  generalize hAe : va_A (vM cy a σ0) s.heap.size = A at hD ⊢
  have hA : ∀ q : Nat, s.heap.size ≤ q → A q := fun q h => by rw [← hAe]; exact Or.inr h
  have hS : va_S A s.heap s.heap [] := va_S.rf
  have hl := lv_entry ([.ref (a 0), .int (L0 1)]) (n := 2) (Nat.le_of_ble_eq_true rfl)
  rw [lg_entry_eq]
  generalize (lg_sl ([.ref (a 0), .int (L0 1)]) ++ List.replicate (2 - (lg_sl ([.ref (a 0), .int (L0 1)])).length) Slot.unset).toArray = ls at hl ⊢
  have hl : lv_has ls 2 [(0, .ref (a 0)), (1, .int (L0 1))] := hl
  have blk : ∀ k : Nat, (∀ (L : Nat → Int32) (σ : MS) (r : Int32 × MS), x_negative k 0 L σ = some r → ∀ (H : Heap) (locs : List Loc) (ls : Array Slot), va_P (dC, dI) nCl (vM cy a σ) H → va_D A (vM cy a σ) → va_S A s.heap H locs → lv_has ls 2 [(0, .ref (a 0)), (1, .int (L 1))] → W p l e (headSpec w_x_negative ({ frames := 4, cells := 0, slots := 0, locals := 89 })).room s m #[.ref (a 0), .int (L0 1)] below meth c H locs 0 0 (MQ below (va_Qi (fun (z : Int32) (_ : Unit) => z = r.1) (fun _ t => nOut (dC, dI) cy A (vM cy a r.2) t) A) #[.ref (a 0), .int (L0 1)] s 0 0 A) (F0 m 0 ls [])) ∧ (∀ (L : Nat → Int32) (σ : MS) (r : Int32 × MS), x_negative k 1 L σ = some r → ∀ (H : Heap) (locs : List Loc) (ls : Array Slot), va_P (dC, dI) nCl (vM cy a σ) H → va_D A (vM cy a σ) → va_S A s.heap H locs → lv_has ls 2 [(0, .ref (a 0)), (1, .int (L 1))] → W p l e (headSpec w_x_negative ({ frames := 4, cells := 0, slots := 0, locals := 89 })).room s m #[.ref (a 0), .int (L0 1)] below meth c H locs 0 0 (MQ below (va_Qi (fun (z : Int32) (_ : Unit) => z = r.1) (fun _ t => nOut (dC, dI) cy A (vM cy a r.2) t) A) #[.ref (a 0), .int (L0 1)] s 0 0 A) (F0 m 16 ls [])) ∧ (∀ (L : Nat → Int32) (σ : MS) (r : Int32 × MS), x_negative k 2 L σ = some r → ∀ (H : Heap) (locs : List Loc) (ls : Array Slot), va_P (dC, dI) nCl (vM cy a σ) H → va_D A (vM cy a σ) → va_S A s.heap H locs → lv_has ls 2 [(0, .ref (a 0)), (1, .int (L 1))] → W p l e (headSpec w_x_negative ({ frames := 4, cells := 0, slots := 0, locals := 89 })).room s m #[.ref (a 0), .int (L0 1)] below meth c H locs 0 0 (MQ below (va_Qi (fun (z : Int32) (_ : Unit) => z = r.1) (fun _ t => nOut (dC, dI) cy A (vM cy a r.2) t) A) #[.ref (a 0), .int (L0 1)] s 0 0 A) (F0 m 21 ls [.int (L 100)])) := by
    intro k
    induction k with
    | zero => exact ⟨fun L σ r h => (by cases h), fun L σ r h => (by cases h), fun L σ r h => (by cases h)⟩
    | succ k ih =>
      refine ⟨?_, ?_, ?_⟩
      · intro L σ r h H locs ls hP hD hS hl
        rw [x_negative] at h
        refine lv_aload_n hx hb dX12_negative_0 rfl (lv_at hl 0 rfl) ?_
        refine lv_iload_n hx hb dX12_negative_1 rfl (lv_at hl 1 rfl) ?_
        cases hc1 : x_kind k 0 (upd (fun _ => 0) 1 ((L 1))) σ with
        | none => rw [hc1, ob_none] at h; cases h
        | some r1 =>
          rw [hc1, ob_some] at h
          have hFc := va_free (wc := vM cy a σ) hD hS hA [0, 1, 2, 3, 4, 5, 6, 7, 8, 9, 10, 11, 12, 13, 14, 15, 16, 17, 18, 19, 20, 21, 22, 23, 24, 25, 26, 27, 28, 29, 30, 31, 32, 33, 34, 35, 36, 37, 38, 39, 40, 41, 42, 43, 44, 45, 46, 47, 48, 49, 50, 51, 52, 53, 54, 55, 56, 57] rfl
          refine va_calli (va_runV (As := [.int (L 1)]) (rest := []) ⟨hx, hb, hml, hown, hts⟩ (c_x_kind l dC dI cy a k (upd (fun _ => 0) 1 ((L 1))) σ r1 hc1 H.size) (cwV 1 hts g_x_negative_kind_545 rfl rfl rfl (by decide +kernel) ⟨Nat.le_of_ble_eq_true rfl, Nat.le_of_ble_eq_true rfl⟩) ⟨nb_blind, va_recv hK hP (ci := 11) (q0 := 0) rfl rfl, fun U hU hW => ⟨rfl, by rw [hU], by rw [hU]; exact hP, va_K.moved hW.alike hK, hD.weaken (fun _ _ _ _ => trivial), hG.warm hW⟩⟩ rfl rfl hl.1 rfl (lv_room (Nat.le_of_ble_eq_true rfl)) dX12_negative_2 ⟨Nat.le_of_ble_eq_true rfl, Nat.le_of_ble_eq_true rfl⟩) hS (fun q _ h => hFc q h) hFc (fun z9 _ t H1 locs ht hvm hw hB hz1 hk1 hS => ?_)
          subst hw
          obtain ⟨hP1, hK1, hD1⟩ := hB
          rw [ht] at hP1
          obtain ⟨hP, hD⟩ := va_join (wr := []) (w1 := vM cy a r1.2) hP hD [0, 1, 2, 3, 4, 5, 6, 7, 8, 9, 10, 11, 12, 13, 14, 15, 16, 17, 18, 19, 20, 21, 22, 23, 24, 25, 26, 27, 28, 29, 30, 31, 32, 33, 34, 35, 36, 37, 38, 39, 40, 41, 42, 43, 44, 45, 46, 47, 48, 49, 50, 51, 52, 53, 54, 55, 56, 57] [] rfl rfl (by decide) (by decide) hk1 hFc hP1 hD1
          generalize H1 = H at hP hS ⊢
          have hP : va_P (dC, dI) nCl (vM cy a r1.2) H := hP
          have hD : va_D A (vM cy a r1.2) := hD
          refine lv_iconst (v := 2) hx hb dX12_negative_5 (by decide) ?_
          refine lv_icmp_eq (tgt := 16) hx hb dX12_negative_6 (by decide) (fun c2 => ?_) (fun c2 => ?_)
          · rw [if_pos c2] at h
            exact ih.2.1 L r1.2 r h H locs ls hP hD hS (lv_sub hl [0, 1] rfl)
          · rw [if_neg c2] at h
            refine lv_aload_n hx hb dX12_negative_9 rfl (lv_at hl 0 rfl) ?_
            cases hc3 : x_wrongKind k 0 (fun _ => 0) r1.2 with
            | none => rw [hc3, ob_none] at h; cases h
            | some r3 =>
              rw [hc3, ob_some] at h
              have hFc := va_free (wc := vM cy a r1.2) hD hS hA [0, 1, 2, 3, 4, 5, 6, 7, 8, 9, 10, 11, 12, 13, 14, 15, 16, 17, 18, 19, 20, 21, 22, 23, 24, 25, 26, 27, 28, 29, 30, 31, 32, 33, 34, 35, 36, 37, 38, 39, 40, 41, 42, 43, 44, 45, 46, 47, 48, 49, 50, 51, 52, 53, 54, 55, 56, 57] rfl
              refine va_calli (va_runV (As := []) (rest := []) ⟨hx, hb, hml, hown, hts⟩ (c_x_wrongKind l dC dI cy a k (fun _ => 0) r1.2 r3 hc3 H.size) (cwV 0 hts g_x_negative_wrongKind_666 rfl rfl rfl (by decide +kernel) ⟨Nat.le_of_ble_eq_true rfl, Nat.le_of_ble_eq_true rfl⟩) ⟨nb_blind, va_recv hK hP (ci := 11) (q0 := 0) rfl rfl, fun U hU hW => ⟨rfl, by rw [hU], by rw [hU]; exact hP, va_K.moved hW.alike hK, hD.weaken (fun _ _ _ _ => trivial), hG.warm hW⟩⟩ rfl rfl hl.1 rfl (lv_room (Nat.le_of_ble_eq_true rfl)) dX12_negative_10 ⟨Nat.le_of_ble_eq_true rfl, Nat.le_of_ble_eq_true rfl⟩) hS (fun q _ h => hFc q h) hFc (fun z9 _ t H1 locs ht hvm hw hB hz1 hk1 hS => ?_)
              subst hw
              obtain ⟨hP1, hK1, hD1⟩ := hB
              rw [ht] at hP1
              obtain ⟨hP, hD⟩ := va_join (wr := []) (w1 := vM cy a r3.2) hP hD [0, 1, 2, 3, 4, 5, 6, 7, 8, 9, 10, 11, 12, 13, 14, 15, 16, 17, 18, 19, 20, 21, 22, 23, 24, 25, 26, 27, 28, 29, 30, 31, 32, 33, 34, 35, 36, 37, 38, 39, 40, 41, 42, 43, 44, 45, 46, 47, 48, 49, 50, 51, 52, 53, 54, 55, 56, 57] [] rfl rfl (by decide) (by decide) hk1 hFc hP1 hD1
              generalize H1 = H at hP hS ⊢
              have hP : va_P (dC, dI) nCl (vM cy a r3.2) H := hP
              have hD : va_D A (vM cy a r3.2) := hD
              refine lv_goto (tgt := 21) hx hb dX12_negative_13 (by decide) ?_
              exact ih.2.2 (upd L 100 r3.1) r3.2 r h H locs ls hP hD hS (lv_sub hl [0, 1] rfl)
      · intro L σ r h H locs ls hP hD hS hl
        rw [x_negative] at h
        refine lv_aload_n hx hb dX12_negative_16 rfl (lv_at hl 0 rfl) ?_
        refine lv_iload_n hx hb dX12_negative_17 rfl (lv_at hl 1 rfl) ?_
        cases hc1 : x_other k 0 (upd (fun _ => 0) 1 ((L 1))) σ with
        | none => rw [hc1, ob_none] at h; cases h
        | some r1 =>
          rw [hc1, ob_some] at h
          have hFc := va_free (wc := vM cy a σ) hD hS hA [0, 1, 2, 3, 4, 5, 6, 7, 8, 9, 10, 11, 12, 13, 14, 15, 16, 17, 18, 19, 20, 21, 22, 23, 24, 25, 26, 27, 28, 29, 30, 31, 32, 33, 34, 35, 36, 37, 38, 39, 40, 41, 42, 43, 44, 45, 46, 47, 48, 49, 50, 51, 52, 53, 54, 55, 56, 57] rfl
          refine va_calli (va_runV (As := [.int (L 1)]) (rest := []) ⟨hx, hb, hml, hown, hts⟩ (c_x_other l dC dI cy a k (upd (fun _ => 0) 1 ((L 1))) σ r1 hc1 H.size) (cwV 1 hts g_x_negative_other_669 rfl rfl rfl (by decide +kernel) ⟨Nat.le_of_ble_eq_true rfl, Nat.le_of_ble_eq_true rfl⟩) ⟨nb_blind, va_recv hK hP (ci := 11) (q0 := 0) rfl rfl, fun U hU hW => ⟨rfl, by rw [hU], by rw [hU]; exact hP, va_K.moved hW.alike hK, hD.weaken (fun _ _ _ _ => trivial), hG.warm hW⟩⟩ rfl rfl hl.1 rfl (lv_room (Nat.le_of_ble_eq_true rfl)) dX12_negative_18 ⟨Nat.le_of_ble_eq_true rfl, Nat.le_of_ble_eq_true rfl⟩) hS (fun q _ h => hFc q h) hFc (fun z9 _ t H1 locs ht hvm hw hB hz1 hk1 hS => ?_)
          subst hw
          obtain ⟨hP1, hK1, hD1⟩ := hB
          rw [ht] at hP1
          obtain ⟨hP, hD⟩ := va_join (wr := []) (w1 := vM cy a r1.2) hP hD [0, 1, 2, 3, 4, 5, 6, 7, 8, 9, 10, 11, 12, 13, 14, 15, 16, 17, 18, 19, 20, 21, 22, 23, 24, 25, 26, 27, 28, 29, 30, 31, 32, 33, 34, 35, 36, 37, 38, 39, 40, 41, 42, 43, 44, 45, 46, 47, 48, 49, 50, 51, 52, 53, 54, 55, 56, 57] [] rfl rfl (by decide) (by decide) hk1 hFc hP1 hD1
          generalize H1 = H at hP hS ⊢
          have hP : va_P (dC, dI) nCl (vM cy a r1.2) H := hP
          have hD : va_D A (vM cy a r1.2) := hD
          exact ih.2.2 (upd L 100 r1.1) r1.2 r h H locs ls hP hD hS (lv_sub hl [0, 1] rfl)
      · intro L σ r h H locs ls hP hD hS hl
        rw [x_negative] at h
        cases h
        exact W.iret (v := (L 100)) hx hb hr (fun t ht hW => ⟨⟨(L 100), (), rfl, rfl, by rw [ht]; exact hP, va_K.moved hW.alike hK, hD⟩, hS.F ht⟩) hS.2.2 dX12_negative_21
  exact (blk k0).1 L0 σ0 r0 h0 s.heap [] ls hP hD hS hl
/-! turned -/
def x_turned : Nat → Nat → (Nat → Int32) → MS → Option (Int32 × MS)
  | 0, _, _, _ => none
  | k + 1, 0, L, σ => if ((L 1)) = 2 then (x_turned k 1 L σ) else (if ((L 1)) = 1 then (x_turned k 1 L σ) else (ob (x_fail k 0 (upd (fun _ => 0) 1 9) σ) (fun r3 => x_turned k 1 L r3.2)))
  | k + 1, 1, L, σ => if ((L 1)) = 1 then (x_turned k 3 (upd L 100 1) σ) else (x_turned k 2 L σ)
  | k + 1, 2, L, σ => x_turned k 3 (upd L 100 0) σ
  | k + 1, 3, L, σ => ob (x_truth k 0 (upd (fun _ => 0) 1 ((L 100))) σ) (fun r1 => some (r1.1, r1.2))
  | _ + 1, _ + 4, _, _ => none
def o_x_turned : List Cond := [.methodLink RX12 369 yX12_fail, .instanceMethod yX12_fail, .selects RX12 yX12_fail yX12_fail, .initialized RX12, .methodLink RX12 646 yX12_truth, .instanceMethod yX12_truth, .selects RX12 yX12_truth yX12_truth]
theorem o_x_turned_good : o_x_turned.all goodWord = true := by decide +kernel
def p_x_turned : List Cond := o_x_turned ++ ((.code yX12_fail cX12_fail 2 none :: p_x_fail) ++ ((.code yX12_truth cX12_truth 2 (some .int) :: p_x_truth) ++ []))
theorem p_x_turned_good : p_x_turned.all goodWord = true := nb_all2 o_x_turned_good (nb_all2 (nb_allc (by decide +kernel) p_x_fail_good) (nb_all2 (nb_allc (by decide +kernel) p_x_truth_good) rfl))
def w_x_turned : List Cond := .code yX12_turned cX12_turned 2 (some .int) :: (p_x_turned ++ fM)
theorem w_x_turned_good : w_x_turned.all goodWord = true := nb_allc (by decide +kernel) (nb_all2 p_x_turned_good fM_good)
theorem in_x_turned : ∀ w ∈ wsX120, w ∈ w_x_turned := fun _ h => List.mem_cons_of_mem _ (List.mem_append_right _ h)
theorem gg_x_turned_fail : GoodIn w_x_turned w_x_fail := goodIn_sub (fun w h => (List.mem_cons.mp h).elim (fun e => (List.mem_cons_of_mem _ (List.mem_append_left _ (List.mem_append_right _ (List.mem_append_left _ (List.mem_cons.mpr (Or.inl e))))))) (fun h => (List.mem_append.mp h).elim (fun h => (List.mem_cons_of_mem _ (List.mem_append_left _ (List.mem_append_right _ (List.mem_append_left _ (List.mem_cons_of_mem _ h)))))) (fun h => List.mem_cons_of_mem _ (List.mem_append_right _ h)))) w_x_fail_good
theorem gg_x_turned_truth : GoodIn w_x_turned w_x_truth := goodIn_sub (fun w h => (List.mem_cons.mp h).elim (fun e => (List.mem_cons_of_mem _ (List.mem_append_left _ (List.mem_append_right _ (List.mem_append_right _ (List.mem_append_left _ (List.mem_cons.mpr (Or.inl e)))))))) (fun h => (List.mem_append.mp h).elim (fun h => (List.mem_cons_of_mem _ (List.mem_append_left _ (List.mem_append_right _ (List.mem_append_right _ (List.mem_append_left _ (List.mem_cons_of_mem _ h))))))) (fun h => List.mem_cons_of_mem _ (List.mem_append_right _ h)))) w_x_truth_good
theorem g_x_turned_fail_369 : GoodIn w_x_turned (wsV RX12 369 RX12 yX12_fail w_x_fail) := goodIn_app (nb_g4 (List.mem_cons_of_mem _ (List.mem_append_left _ (List.mem_append_left _ (List.mem_of_getElem? (i := 0) rfl)))) (List.mem_cons_of_mem _ (List.mem_append_left _ (List.mem_append_left _ (List.mem_of_getElem? (i := 1) rfl)))) (List.mem_cons_of_mem _ (List.mem_append_left _ (List.mem_append_left _ (List.mem_of_getElem? (i := 2) rfl)))) (List.mem_cons_of_mem _ (List.mem_append_left _ (List.mem_append_left _ (List.mem_of_getElem? (i := 3) rfl)))) (by decide +kernel)) gg_x_turned_fail
theorem g_x_turned_truth_646 : GoodIn w_x_turned (wsV RX12 646 RX12 yX12_truth w_x_truth) := goodIn_app (nb_g4 (List.mem_cons_of_mem _ (List.mem_append_left _ (List.mem_append_left _ (List.mem_of_getElem? (i := 4) rfl)))) (List.mem_cons_of_mem _ (List.mem_append_left _ (List.mem_append_left _ (List.mem_of_getElem? (i := 5) rfl)))) (List.mem_cons_of_mem _ (List.mem_append_left _ (List.mem_append_left _ (List.mem_of_getElem? (i := 6) rfl)))) (List.mem_cons_of_mem _ (List.mem_append_left _ (List.mem_append_left _ (List.mem_of_getElem? (i := 3) rfl)))) (by decide +kernel)) gg_x_turned_truth
set_option maxHeartbeats 40000000 in
set_option maxRecDepth 100000 in
theorem c_x_turned (l : Launch) (dC : Nat → ClassId) (dI : Nat → Nat → Nat) (cy : Nat → ClassId) (a : Nat → Nat) (k0 : Nat) (L0 : Nat → Int32) (σ0 : MS) (r0 : Int32 × MS) (h0 : x_turned k0 0 L0 σ0 = some r0) (sz : Nat) : Met l yX12_turned w_x_turned ({ frames := 1, cells := 0, slots := 0, locals := 21 }) (va_Pc [.ref (a 0), .int (L0 1)] (nIn (dC, dI) cy sz (vM cy a σ0))) (va_Qi (fun (z : Int32) (_ : Unit) => z = r0.1) (fun _ t => nOut (dC, dI) cy (va_A (vM cy a σ0) sz) (vM cy a r0.2) t) (va_A (vM cy a σ0) sz)) 0 0 (va_A (vM cy a σ0) sz) := by
  refine Met.ofW (cc := cX12_turned) (maxL := 2) (ret := (some .int)) (by decide) rfl ?_
  intro p e s m args below meth c s₁ B hml hv
  obtain ⟨rfl, hsz, hP, hK, hD0, hG⟩ := hv
  have hx := B.exec
  have hb := B.bytes
  have hr := B.returns
  have hts := atoms_spec (ws := w_x_turned) B.pre
  have hown : s.vm.findClass RX12 = some m.cls := findClass_of_methodNamed B.named
  have hlocks := B.notSynchronized
  subst hsz
  have hD := hD0.self (sz := s.heap.size)
  generalize hAe : va_A (vM cy a σ0) s.heap.size = A at hD ⊢
  have hA : ∀ q : Nat, s.heap.size ≤ q → A q := fun q h => by rw [← hAe]; exact Or.inr h
  have hS : va_S A s.heap s.heap [] := va_S.rf
  have hl := lv_entry ([.ref (a 0), .int (L0 1)]) (n := 2) (Nat.le_of_ble_eq_true rfl)
  rw [lg_entry_eq]
  generalize (lg_sl ([.ref (a 0), .int (L0 1)]) ++ List.replicate (2 - (lg_sl ([.ref (a 0), .int (L0 1)])).length) Slot.unset).toArray = ls at hl ⊢
  have hl : lv_has ls 2 [(0, .ref (a 0)), (1, .int (L0 1))] := hl
  have blk : ∀ k : Nat, (∀ (L : Nat → Int32) (σ : MS) (r : Int32 × MS), x_turned k 0 L σ = some r → ∀ (H : Heap) (locs : List Loc) (ls : Array Slot), va_P (dC, dI) nCl (vM cy a σ) H → va_D A (vM cy a σ) → va_S A s.heap H locs → lv_has ls 2 [(0, .ref (a 0)), (1, .int (L 1))] → W p l e (headSpec w_x_turned ({ frames := 1, cells := 0, slots := 0, locals := 21 })).room s m #[.ref (a 0), .int (L0 1)] below meth c H locs 0 0 (MQ below (va_Qi (fun (z : Int32) (_ : Unit) => z = r.1) (fun _ t => nOut (dC, dI) cy A (vM cy a r.2) t) A) #[.ref (a 0), .int (L0 1)] s 0 0 A) (F0 m 0 ls [])) ∧ (∀ (L : Nat → Int32) (σ : MS) (r : Int32 × MS), x_turned k 1 L σ = some r → ∀ (H : Heap) (locs : List Loc) (ls : Array Slot), va_P (dC, dI) nCl (vM cy a σ) H → va_D A (vM cy a σ) → va_S A s.heap H locs → lv_has ls 2 [(0, .ref (a 0)), (1, .int (L 1))] → W p l e (headSpec w_x_turned ({ frames := 1, cells := 0, slots := 0, locals := 21 })).room s m #[.ref (a 0), .int (L0 1)] below meth c H locs 0 0 (MQ below (va_Qi (fun (z : Int32) (_ : Unit) => z = r.1) (fun _ t => nOut (dC, dI) cy A (vM cy a r.2) t) A) #[.ref (a 0), .int (L0 1)] s 0 0 A) (F0 m 16 ls [])) ∧ (∀ (L : Nat → Int32) (σ : MS) (r : Int32 × MS), x_turned k 2 L σ = some r → ∀ (H : Heap) (locs : List Loc) (ls : Array Slot), va_P (dC, dI) nCl (vM cy a σ) H → va_D A (vM cy a σ) → va_S A s.heap H locs → lv_has ls 2 [(0, .ref (a 0)), (1, .int (L 1))] → W p l e (headSpec w_x_turned ({ frames := 1, cells := 0, slots := 0, locals := 21 })).room s m #[.ref (a 0), .int (L0 1)] below meth c H locs 0 0 (MQ below (va_Qi (fun (z : Int32) (_ : Unit) => z = r.1) (fun _ t => nOut (dC, dI) cy A (vM cy a r.2) t) A) #[.ref (a 0), .int (L0 1)] s 0 0 A) (F0 m 26 ls [.ref (a 0)])) ∧ (∀ (L : Nat → Int32) (σ : MS) (r : Int32 × MS), x_turned k 3 L σ = some r → ∀ (H : Heap) (locs : List Loc) (ls : Array Slot), va_P (dC, dI) nCl (vM cy a σ) H → va_D A (vM cy a σ) → va_S A s.heap H locs → lv_has ls 2 [(0, .ref (a 0)), (1, .int (L 1))] → W p l e (headSpec w_x_turned ({ frames := 1, cells := 0, slots := 0, locals := 21 })).room s m #[.ref (a 0), .int (L0 1)] below meth c H locs 0 0 (MQ below (va_Qi (fun (z : Int32) (_ : Unit) => z = r.1) (fun _ t => nOut (dC, dI) cy A (vM cy a r.2) t) A) #[.ref (a 0), .int (L0 1)] s 0 0 A) (F0 m 27 ls [.int (L 100), .ref (a 0)])) := by
    intro k
    induction k with
    | zero => exact ⟨fun L σ r h => (by cases h), fun L σ r h => (by cases h), fun L σ r h => (by cases h), fun L σ r h => (by cases h)⟩
    | succ k ih =>
      refine ⟨?_, ?_, ?_, ?_⟩
      · intro L σ r h H locs ls hP hD hS hl
        rw [x_turned] at h
        refine lv_iload_n hx hb dX12_turned_0 rfl (lv_at hl 1 rfl) ?_
        refine lv_iconst (v := 2) hx hb dX12_turned_1 (by decide) ?_
        refine lv_icmp_eq (tgt := 16) hx hb dX12_turned_2 (by decide) (fun c1 => ?_) (fun c1 => ?_)
        · rw [if_pos c1] at h
          exact ih.2.1 L σ r h H locs ls hP hD hS (lv_sub hl [0, 1] rfl)
        · rw [if_neg c1] at h
          refine lv_iload_n hx hb dX12_turned_5 rfl (lv_at hl 1 rfl) ?_
          refine lv_iconst (v := 1) hx hb dX12_turned_6 (by decide) ?_
          refine lv_icmp_eq (tgt := 16) hx hb dX12_turned_7 (by decide) (fun c2 => ?_) (fun c2 => ?_)
          · rw [if_pos c2] at h
            exact ih.2.1 L σ r h H locs ls hP hD hS (lv_sub hl [0, 1] rfl)
          · rw [if_neg c2] at h
            refine lv_aload_n hx hb dX12_turned_10 rfl (lv_at hl 0 rfl) ?_
            refine lv_bipush (v := 9) hx hb dX12_turned_11 (by decide) ?_
            cases hc3 : x_fail k 0 (upd (fun _ => 0) 1 9) σ with
            | none => rw [hc3, ob_none] at h; cases h
            | some r3 =>
              rw [hc3, ob_some] at h
              have hFc := va_free (wc := vM cy a σ) hD hS hA [0, 1, 2, 3, 4, 5, 6, 7, 8, 9, 10, 11, 12, 13, 14, 15, 16, 17, 18, 19, 20, 21, 22, 23, 24, 25, 26, 27, 28, 29, 30, 31, 32, 33, 34, 35, 36, 37, 38, 39, 40, 41, 42, 43, 44, 45, 46, 47, 48, 49, 50, 51, 52, 53, 54, 55, 56, 57] rfl
              refine va_callv (va_runV (As := [.int 9]) (rest := []) ⟨hx, hb, hml, hown, hts⟩ (c_x_fail l dC dI cy a k (upd (fun _ => 0) 1 9) σ r3 hc3 H.size) (cwV 1 hts g_x_turned_fail_369 rfl rfl rfl (by decide +kernel) ⟨Nat.le_of_ble_eq_true rfl, Nat.le_of_ble_eq_true rfl⟩) ⟨nb_blind, va_recv hK hP (ci := 11) (q0 := 0) rfl rfl, fun U hU hW => ⟨rfl, by rw [hU], by rw [hU]; exact hP, va_K.moved hW.alike hK, hD.weaken (fun _ _ _ _ => trivial), hG.warm hW⟩⟩ rfl rfl hl.1 rfl (lv_room (Nat.le_of_ble_eq_true rfl)) dX12_turned_13 ⟨Nat.le_of_ble_eq_true rfl, Nat.le_of_ble_eq_true rfl⟩) hS (fun q _ h => hFc q h) hFc (fun _ t H1 locs ht hvm hw hB hz1 hk1 hS => ?_)
              obtain ⟨hP1, hK1, hD1⟩ := hB
              rw [ht] at hP1
              obtain ⟨hP, hD⟩ := va_join (wr := []) (w1 := vM cy a r3.2) hP hD [0, 1, 2, 3, 4, 5, 6, 7, 8, 9, 10, 11, 12, 13, 14, 15, 16, 17, 18, 19, 20, 21, 22, 23, 24, 25, 26, 27, 28, 29, 30, 31, 32, 33, 34, 35, 36, 37, 38, 39, 40, 41, 42, 43, 44, 45, 46, 47, 48, 49, 50, 51, 52, 53, 54, 55, 56, 57] [] rfl rfl (by decide) (by decide) hk1 hFc hP1 hD1
              generalize H1 = H at hP hS ⊢
              have hP : va_P (dC, dI) nCl (vM cy a r3.2) H := hP
              have hD : va_D A (vM cy a r3.2) := hD
              exact ih.2.1 L r3.2 r h H locs ls hP hD hS (lv_sub hl [0, 1] rfl)
      · intro L σ r h H locs ls hP hD hS hl
        rw [x_turned] at h
        refine lv_aload_n hx hb dX12_turned_16 rfl (lv_at hl 0 rfl) ?_
        refine lv_iload_n hx hb dX12_turned_17 rfl (lv_at hl 1 rfl) ?_
        refine lv_iconst (v := 1) hx hb dX12_turned_18 (by decide) ?_
        refine lv_icmp_ne (tgt := 26) hx hb dX12_turned_19 (by decide) (fun c1 => ?_) (fun c1 => ?_)
        · rw [if_neg c1] at h
          exact ih.2.2.1 L σ r h H locs ls hP hD hS (lv_sub hl [0, 1] rfl)
        · rw [if_pos c1] at h
          refine lv_iconst (v := 1) hx hb dX12_turned_22 (by decide) ?_
          refine lv_goto (tgt := 27) hx hb dX12_turned_23 (by decide) ?_
          exact ih.2.2.2 (upd L 100 1) σ r h H locs ls hP hD hS (lv_sub hl [0, 1] rfl)
      · intro L σ r h H locs ls hP hD hS hl
        rw [x_turned] at h
        refine lv_iconst (v := 0) hx hb dX12_turned_26 (by decide) ?_
        exact ih.2.2.2 (upd L 100 0) σ r h H locs ls hP hD hS (lv_sub hl [0, 1] rfl)
      · intro L σ r h H locs ls hP hD hS hl
        rw [x_turned] at h
        cases hc1 : x_truth k 0 (upd (fun _ => 0) 1 ((L 100))) σ with
        | none => rw [hc1, ob_none] at h; cases h
        | some r1 =>
          rw [hc1, ob_some] at h
          have hFc := va_free (wc := vM cy a σ) hD hS hA [0, 1, 2, 3, 4, 5, 6, 7, 8, 9, 10, 11, 12, 13, 14, 15, 16, 17, 18, 19, 20, 21, 22, 23, 24, 25, 26, 27, 28, 29, 30, 31, 32, 33, 34, 35, 36, 37, 38, 39, 40, 41, 42, 43, 44, 45, 46, 47, 48, 49, 50, 51, 52, 53, 54, 55, 56, 57] rfl
          refine va_calli (va_runV (As := [.int (L 100)]) (rest := []) ⟨hx, hb, hml, hown, hts⟩ (c_x_truth l dC dI cy a k (upd (fun _ => 0) 1 ((L 100))) σ r1 hc1 H.size) (cwV 1 hts g_x_turned_truth_646 rfl rfl rfl (by decide +kernel) ⟨Nat.le_of_ble_eq_true rfl, Nat.le_of_ble_eq_true rfl⟩) ⟨nb_blind, va_recv hK hP (ci := 11) (q0 := 0) rfl rfl, fun U hU hW => ⟨rfl, by rw [hU], by rw [hU]; exact hP, va_K.moved hW.alike hK, hD.weaken (fun _ _ _ _ => trivial), hG.warm hW⟩⟩ rfl rfl hl.1 rfl (lv_room (Nat.le_of_ble_eq_true rfl)) dX12_turned_27 ⟨Nat.le_of_ble_eq_true rfl, Nat.le_of_ble_eq_true rfl⟩) hS (fun q _ h => hFc q h) hFc (fun z9 _ t H1 locs ht hvm hw hB hz1 hk1 hS => ?_)
          subst hw
          obtain ⟨hP1, hK1, hD1⟩ := hB
          rw [ht] at hP1
          obtain ⟨hP, hD⟩ := va_join (wr := []) (w1 := vM cy a r1.2) hP hD [0, 1, 2, 3, 4, 5, 6, 7, 8, 9, 10, 11, 12, 13, 14, 15, 16, 17, 18, 19, 20, 21, 22, 23, 24, 25, 26, 27, 28, 29, 30, 31, 32, 33, 34, 35, 36, 37, 38, 39, 40, 41, 42, 43, 44, 45, 46, 47, 48, 49, 50, 51, 52, 53, 54, 55, 56, 57] [] rfl rfl (by decide) (by decide) hk1 hFc hP1 hD1
          generalize H1 = H at hP hS ⊢
          have hP : va_P (dC, dI) nCl (vM cy a r1.2) H := hP
          have hD : va_D A (vM cy a r1.2) := hD
          cases h
          exact W.iret (v := r1.1) hx hb hr (fun t ht hW => ⟨⟨r1.1, (), rfl, rfl, by rw [ht]; exact hP, va_K.moved hW.alike hK, hD⟩, hS.F ht⟩) hS.2.2 dX12_turned_30
  exact (blk k0).1 L0 σ0 r0 h0 s.heap [] ls hP hD hS hl
/-! isTrue -/
def x_isTrue : Nat → Nat → (Nat → Int32) → MS → Option (Int32 × MS)
  | 0, _, _, _ => none
  | k + 1, 0, L, σ => ob (x_pop k 0 (fun _ => 0) σ) (fun r1 => if r1.1 = 2 then (x_isTrue k 1 (upd L 1 r1.1) r1.2) else (if r1.1 = 1 then (x_isTrue k 1 (upd L 1 r1.1) r1.2) else (ob (x_fail k 0 (upd (fun _ => 0) 1 9) r1.2) (fun r4 => x_isTrue k 1 (upd L 1 r1.1) r4.2))))
  | k + 1, 1, L, σ => if ((L 1)) = 2 then (x_isTrue k 3 (upd L 100 1) σ) else (x_isTrue k 2 L σ)
  | k + 1, 2, L, σ => x_isTrue k 3 (upd L 100 0) σ
  | k + 1, 3, L, σ => if ((L 100)) = 0 ∨ ((L 100)) = 1 then some ((L 100), σ) else none
  | _ + 1, _ + 4, _, _ => none
def o_x_isTrue : List Cond := [.methodLink RX12 572 yX12_pop, .instanceMethod yX12_pop, .selects RX12 yX12_pop yX12_pop, .initialized RX12, .methodLink RX12 369 yX12_fail, .instanceMethod yX12_fail, .selects RX12 yX12_fail yX12_fail]
theorem o_x_isTrue_good : o_x_isTrue.all goodWord = true := by decide +kernel
def p_x_isTrue : List Cond := o_x_isTrue ++ ((.code yX12_pop cX12_pop 1 (some .int) :: p_x_pop) ++ ((.code yX12_fail cX12_fail 2 none :: p_x_fail) ++ []))
theorem p_x_isTrue_good : p_x_isTrue.all goodWord = true := nb_all2 o_x_isTrue_good (nb_all2 (nb_allc (by decide +kernel) p_x_pop_good) (nb_all2 (nb_allc (by decide +kernel) p_x_fail_good) rfl))
def w_x_isTrue : List Cond := .code yX12_isTrue cX12_isTrue 2 (some .boolean) :: (p_x_isTrue ++ fM)
theorem w_x_isTrue_good : w_x_isTrue.all goodWord = true := nb_allc (by decide +kernel) (nb_all2 p_x_isTrue_good fM_good)
theorem in_x_isTrue : ∀ w ∈ wsX120, w ∈ w_x_isTrue := fun _ h => List.mem_cons_of_mem _ (List.mem_append_right _ h)
theorem gg_x_isTrue_pop : GoodIn w_x_isTrue w_x_pop := goodIn_sub (fun w h => (List.mem_cons.mp h).elim (fun e => (List.mem_cons_of_mem _ (List.mem_append_left _ (List.mem_append_right _ (List.mem_append_left _ (List.mem_cons.mpr (Or.inl e))))))) (fun h => (List.mem_append.mp h).elim (fun h => (List.mem_cons_of_mem _ (List.mem_append_left _ (List.mem_append_right _ (List.mem_append_left _ (List.mem_cons_of_mem _ h)))))) (fun h => List.mem_cons_of_mem _ (List.mem_append_right _ h)))) w_x_pop_good
theorem gg_x_isTrue_fail : GoodIn w_x_isTrue w_x_fail := goodIn_sub (fun w h => (List.mem_cons.mp h).elim (fun e => (List.mem_cons_of_mem _ (List.mem_append_left _ (List.mem_append_right _ (List.mem_append_right _ (List.mem_append_left _ (List.mem_cons.mpr (Or.inl e)))))))) (fun h => (List.mem_append.mp h).elim (fun h => (List.mem_cons_of_mem _ (List.mem_append_left _ (List.mem_append_right _ (List.mem_append_right _ (List.mem_append_left _ (List.mem_cons_of_mem _ h))))))) (fun h => List.mem_cons_of_mem _ (List.mem_append_right _ h)))) w_x_fail_good
theorem g_x_isTrue_fail_369 : GoodIn w_x_isTrue (wsV RX12 369 RX12 yX12_fail w_x_fail) := goodIn_app (nb_g4 (List.mem_cons_of_mem _ (List.mem_append_left _ (List.mem_append_left _ (List.mem_of_getElem? (i := 4) rfl)))) (List.mem_cons_of_mem _ (List.mem_append_left _ (List.mem_append_left _ (List.mem_of_getElem? (i := 5) rfl)))) (List.mem_cons_of_mem _ (List.mem_append_left _ (List.mem_append_left _ (List.mem_of_getElem? (i := 6) rfl)))) (List.mem_cons_of_mem _ (List.mem_append_left _ (List.mem_append_left _ (List.mem_of_getElem? (i := 3) rfl)))) (by decide +kernel)) gg_x_isTrue_fail
theorem g_x_isTrue_pop_572 : GoodIn w_x_isTrue (wsV RX12 572 RX12 yX12_pop w_x_pop) := goodIn_app (nb_g4 (List.mem_cons_of_mem _ (List.mem_append_left _ (List.mem_append_left _ (List.mem_of_getElem? (i := 0) rfl)))) (List.mem_cons_of_mem _ (List.mem_append_left _ (List.mem_append_left _ (List.mem_of_getElem? (i := 1) rfl)))) (List.mem_cons_of_mem _ (List.mem_append_left _ (List.mem_append_left _ (List.mem_of_getElem? (i := 2) rfl)))) (List.mem_cons_of_mem _ (List.mem_append_left _ (List.mem_append_left _ (List.mem_of_getElem? (i := 3) rfl)))) (by decide +kernel)) gg_x_isTrue_pop
set_option maxHeartbeats 40000000 in
set_option maxRecDepth 100000 in
theorem c_x_isTrue (l : Launch) (dC : Nat → ClassId) (dI : Nat → Nat → Nat) (cy : Nat → ClassId) (a : Nat → Nat) (k0 : Nat) (L0 : Nat → Int32) (σ0 : MS) (r0 : Int32 × MS) (h0 : x_isTrue k0 0 L0 σ0 = some r0) (sz : Nat) : Met l yX12_isTrue w_x_isTrue ({ frames := 1, cells := 0, slots := 0, locals := 21 }) (va_Pc [.ref (a 0)] (nIn (dC, dI) cy sz (vM cy a σ0))) (va_Qi (fun (z : Int32) (_ : Unit) => z = r0.1) (fun _ t => nOut (dC, dI) cy (va_A (vM cy a σ0) sz) (vM cy a r0.2) t) (va_A (vM cy a σ0) sz)) 0 0 (va_A (vM cy a σ0) sz) := by
  refine Met.ofW (cc := cX12_isTrue) (maxL := 2) (ret := (some .boolean)) (by decide) rfl ?_
  intro p e s m args below meth c s₁ B hml hv
  obtain ⟨rfl, hsz, hP, hK, hD0, hG⟩ := hv
  have hx := B.exec
  have hb := B.bytes
  have hr := B.returns
  have hts := atoms_spec (ws := w_x_isTrue) B.pre
  have hown : s.vm.findClass RX12 = some m.cls := findClass_of_methodNamed B.named
  have hlocks := B.notSynchronized
  subst hsz
  have hD := hD0.self (sz := s.heap.size)
  generalize hAe : va_A (vM cy a σ0) s.heap.size = A at hD ⊢
  have hA : ∀ q : Nat, s.heap.size ≤ q → A q := fun q h => by rw [← hAe]; exact Or.inr h
  have hS : va_S A s.heap s.heap [] := va_S.rf
  have hl := lv_entry ([.ref (a 0)]) (n := 2) (Nat.le_of_ble_eq_true rfl)
  rw [lg_entry_eq]
  generalize (lg_sl ([.ref (a 0)]) ++ List.replicate (2 - (lg_sl ([.ref (a 0)])).length) Slot.unset).toArray = ls at hl ⊢
  have hl : lv_has ls 2 [(0, .ref (a 0))] := hl
  have blk : ∀ k : Nat, (∀ (L : Nat → Int32) (σ : MS) (r : Int32 × MS), x_isTrue k 0 L σ = some r → ∀ (H : Heap) (locs : List Loc) (ls : Array Slot), va_P (dC, dI) nCl (vM cy a σ) H → va_D A (vM cy a σ) → va_S A s.heap H locs → lv_has ls 2 [(0, .ref (a 0))] → W p l e (headSpec w_x_isTrue ({ frames := 1, cells := 0, slots := 0, locals := 21 })).room s m #[.ref (a 0)] below meth c H locs 0 0 (MQ below (va_Qi (fun (z : Int32) (_ : Unit) => z = r.1) (fun _ t => nOut (dC, dI) cy A (vM cy a r.2) t) A) #[.ref (a 0)] s 0 0 A) (F0 m 0 ls [])) ∧ (∀ (L : Nat → Int32) (σ : MS) (r : Int32 × MS), x_isTrue k 1 L σ = some r → ∀ (H : Heap) (locs : List Loc) (ls : Array Slot), va_P (dC, dI) nCl (vM cy a σ) H → va_D A (vM cy a σ) → va_S A s.heap H locs → lv_has ls 2 [(0, .ref (a 0)), (1, .int (L 1))] → W p l e (headSpec w_x_isTrue ({ frames := 1, cells := 0, slots := 0, locals := 21 })).room s m #[.ref (a 0)] below meth c H locs 0 0 (MQ below (va_Qi (fun (z : Int32) (_ : Unit) => z = r.1) (fun _ t => nOut (dC, dI) cy A (vM cy a r.2) t) A) #[.ref (a 0)] s 0 0 A) (F0 m 21 ls [])) ∧ (∀ (L : Nat → Int32) (σ : MS) (r : Int32 × MS), x_isTrue k 2 L σ = some r → ∀ (H : Heap) (locs : List Loc) (ls : Array Slot), va_P (dC, dI) nCl (vM cy a σ) H → va_D A (vM cy a σ) → va_S A s.heap H locs → lv_has ls 2 [(0, .ref (a 0)), (1, .int (L 1))] → W p l e (headSpec w_x_isTrue ({ frames := 1, cells := 0, slots := 0, locals := 21 })).room s m #[.ref (a 0)] below meth c H locs 0 0 (MQ below (va_Qi (fun (z : Int32) (_ : Unit) => z = r.1) (fun _ t => nOut (dC, dI) cy A (vM cy a r.2) t) A) #[.ref (a 0)] s 0 0 A) (F0 m 30 ls [])) ∧ (∀ (L : Nat → Int32) (σ : MS) (r : Int32 × MS), x_isTrue k 3 L σ = some r → ∀ (H : Heap) (locs : List Loc) (ls : Array Slot), va_P (dC, dI) nCl (vM cy a σ) H → va_D A (vM cy a σ) → va_S A s.heap H locs → lv_has ls 2 [(0, .ref (a 0)), (1, .int (L 1))] → W p l e (headSpec w_x_isTrue ({ frames := 1, cells := 0, slots := 0, locals := 21 })).room s m #[.ref (a 0)] below meth c H locs 0 0 (MQ below (va_Qi (fun (z : Int32) (_ : Unit) => z = r.1) (fun _ t => nOut (dC, dI) cy A (vM cy a r.2) t) A) #[.ref (a 0)] s 0 0 A) (F0 m 31 ls [.int (L 100)])) := by
    intro k
    induction k with
    | zero => exact ⟨fun L σ r h => (by cases h), fun L σ r h => (by cases h), fun L σ r h => (by cases h), fun L σ r h => (by cases h)⟩
    | succ k ih =>
      refine ⟨?_, ?_, ?_, ?_⟩
      · intro L σ r h H locs ls hP hD hS hl
        rw [x_isTrue] at h
        refine lv_aload_n hx hb dX12_isTrue_0 rfl (lv_at hl 0 rfl) ?_
        cases hc1 : x_pop k 0 (fun _ => 0) σ with
        | none => rw [hc1, ob_none] at h; cases h
        | some r1 =>
          rw [hc1, ob_some] at h
          have hFc := va_free (wc := vM cy a σ) hD hS hA [0, 1, 2, 3, 4, 5, 6, 7, 8, 9, 10, 11, 12, 13, 14, 15, 16, 17, 18, 19, 20, 21, 22, 23, 24, 25, 26, 27, 28, 29, 30, 31, 32, 33, 34, 35, 36, 37, 38, 39, 40, 41, 42, 43, 44, 45, 46, 47, 48, 49, 50, 51, 52, 53, 54, 55, 56, 57] rfl
          refine va_calli (va_runV (As := []) (rest := []) ⟨hx, hb, hml, hown, hts⟩ (c_x_pop l dC dI cy a k (fun _ => 0) σ r1 hc1 H.size) (cwV 0 hts g_x_isTrue_pop_572 rfl rfl rfl (by decide +kernel) ⟨Nat.le_of_ble_eq_true rfl, Nat.le_of_ble_eq_true rfl⟩) ⟨nb_blind, va_recv hK hP (ci := 11) (q0 := 0) rfl rfl, fun U hU hW => ⟨rfl, by rw [hU], by rw [hU]; exact hP, va_K.moved hW.alike hK, hD.weaken (fun _ _ _ _ => trivial), hG.warm hW⟩⟩ rfl rfl hl.1 rfl (lv_room (Nat.le_of_ble_eq_true rfl)) dX12_isTrue_1 ⟨Nat.le_of_ble_eq_true rfl, Nat.le_of_ble_eq_true rfl⟩) hS (fun q _ h => hFc q h) hFc (fun z9 _ t H1 locs ht hvm hw hB hz1 hk1 hS => ?_)
          subst hw
          obtain ⟨hP1, hK1, hD1⟩ := hB
          rw [ht] at hP1
          obtain ⟨hP, hD⟩ := va_join (wr := []) (w1 := vM cy a r1.2) hP hD [0, 1, 2, 3, 4, 5, 6, 7, 8, 9, 10, 11, 12, 13, 14, 15, 16, 17, 18, 19, 20, 21, 22, 23, 24, 25, 26, 27, 28, 29, 30, 31, 32, 33, 34, 35, 36, 37, 38, 39, 40, 41, 42, 43, 44, 45, 46, 47, 48, 49, 50, 51, 52, 53, 54, 55, 56, 57] [] rfl rfl (by decide) (by decide) hk1 hFc hP1 hD1
          generalize H1 = H at hP hS ⊢
          have hP : va_P (dC, dI) nCl (vM cy a r1.2) H := hP
          have hD : va_D A (vM cy a r1.2) := hD
          refine lv_istore_n (lv' := [(1, .int r1.1), (0, .ref (a 0))]) hx hb dX12_isTrue_4 rfl hl (by decide) rfl (fun ls hl => ?_)
          refine lv_iload_n hx hb dX12_isTrue_5 rfl (lv_at hl 0 rfl) ?_
          refine lv_iconst (v := 2) hx hb dX12_isTrue_6 (by decide) ?_
          refine lv_icmp_eq (tgt := 21) hx hb dX12_isTrue_7 (by decide) (fun c2 => ?_) (fun c2 => ?_)
          · rw [if_pos c2] at h
            exact ih.2.1 (upd L 1 r1.1) r1.2 r h H locs ls hP hD hS (lv_sub hl [1, 0] rfl)
          · rw [if_neg c2] at h
            refine lv_iload_n hx hb dX12_isTrue_10 rfl (lv_at hl 0 rfl) ?_
            refine lv_iconst (v := 1) hx hb dX12_isTrue_11 (by decide) ?_
            refine lv_icmp_eq (tgt := 21) hx hb dX12_isTrue_12 (by decide) (fun c3 => ?_) (fun c3 => ?_)
            · rw [if_pos c3] at h
              exact ih.2.1 (upd L 1 r1.1) r1.2 r h H locs ls hP hD hS (lv_sub hl [1, 0] rfl)
            · rw [if_neg c3] at h
              refine lv_aload_n hx hb dX12_isTrue_15 rfl (lv_at hl 1 rfl) ?_
              refine lv_bipush (v := 9) hx hb dX12_isTrue_16 (by decide) ?_
              cases hc4 : x_fail k 0 (upd (fun _ => 0) 1 9) r1.2 with
              | none => rw [hc4, ob_none] at h; cases h
              | some r4 =>
                rw [hc4, ob_some] at h
                have hFc := va_free (wc := vM cy a r1.2) hD hS hA [0, 1, 2, 3, 4, 5, 6, 7, 8, 9, 10, 11, 12, 13, 14, 15, 16, 17, 18, 19, 20, 21, 22, 23, 24, 25, 26, 27, 28, 29, 30, 31, 32, 33, 34, 35, 36, 37, 38, 39, 40, 41, 42, 43, 44, 45, 46, 47, 48, 49, 50, 51, 52, 53, 54, 55, 56, 57] rfl
                refine va_callv (va_runV (As := [.int 9]) (rest := []) ⟨hx, hb, hml, hown, hts⟩ (c_x_fail l dC dI cy a k (upd (fun _ => 0) 1 9) r1.2 r4 hc4 H.size) (cwV 1 hts g_x_isTrue_fail_369 rfl rfl rfl (by decide +kernel) ⟨Nat.le_of_ble_eq_true rfl, Nat.le_of_ble_eq_true rfl⟩) ⟨nb_blind, va_recv hK hP (ci := 11) (q0 := 0) rfl rfl, fun U hU hW => ⟨rfl, by rw [hU], by rw [hU]; exact hP, va_K.moved hW.alike hK, hD.weaken (fun _ _ _ _ => trivial), hG.warm hW⟩⟩ rfl rfl hl.1 rfl (lv_room (Nat.le_of_ble_eq_true rfl)) dX12_isTrue_18 ⟨Nat.le_of_ble_eq_true rfl, Nat.le_of_ble_eq_true rfl⟩) hS (fun q _ h => hFc q h) hFc (fun _ t H1 locs ht hvm hw hB hz1 hk1 hS => ?_)
                obtain ⟨hP1, hK1, hD1⟩ := hB
                rw [ht] at hP1
                obtain ⟨hP, hD⟩ := va_join (wr := []) (w1 := vM cy a r4.2) hP hD [0, 1, 2, 3, 4, 5, 6, 7, 8, 9, 10, 11, 12, 13, 14, 15, 16, 17, 18, 19, 20, 21, 22, 23, 24, 25, 26, 27, 28, 29, 30, 31, 32, 33, 34, 35, 36, 37, 38, 39, 40, 41, 42, 43, 44, 45, 46, 47, 48, 49, 50, 51, 52, 53, 54, 55, 56, 57] [] rfl rfl (by decide) (by decide) hk1 hFc hP1 hD1
                generalize H1 = H at hP hS ⊢
                have hP : va_P (dC, dI) nCl (vM cy a r4.2) H := hP
                have hD : va_D A (vM cy a r4.2) := hD
                exact ih.2.1 (upd L 1 r1.1) r4.2 r h H locs ls hP hD hS (lv_sub hl [1, 0] rfl)
      · intro L σ r h H locs ls hP hD hS hl
        rw [x_isTrue] at h
        refine lv_iload_n hx hb dX12_isTrue_21 rfl (lv_at hl 1 rfl) ?_
        refine lv_iconst (v := 2) hx hb dX12_isTrue_22 (by decide) ?_
        refine lv_icmp_ne (tgt := 30) hx hb dX12_isTrue_23 (by decide) (fun c1 => ?_) (fun c1 => ?_)
        · rw [if_neg c1] at h
          exact ih.2.2.1 L σ r h H locs ls hP hD hS (lv_sub hl [0, 1] rfl)
        · rw [if_pos c1] at h
          refine lv_iconst (v := 1) hx hb dX12_isTrue_26 (by decide) ?_
          refine lv_goto (tgt := 31) hx hb dX12_isTrue_27 (by decide) ?_
          exact ih.2.2.2 (upd L 100 1) σ r h H locs ls hP hD hS (lv_sub hl [0, 1] rfl)
      · intro L σ r h H locs ls hP hD hS hl
        rw [x_isTrue] at h
        refine lv_iconst (v := 0) hx hb dX12_isTrue_30 (by decide) ?_
        exact ih.2.2.2 (upd L 100 0) σ r h H locs ls hP hD hS (lv_sub hl [0, 1] rfl)
      · intro L σ r h H locs ls hP hD hS hl
        rw [x_isTrue] at h
        by_cases q1 : ((L 100)) = 0 ∨ ((L 100)) = 1
        · rw [if_pos q1] at h
          cases h
          exact W.zret (v := (L 100)) hx hb hr (nb_bz q1) (fun t ht hW => ⟨⟨(L 100), (), rfl, rfl, by rw [ht]; exact hP, va_K.moved hW.alike hK, hD⟩, hS.F ht⟩) hS.2.2 dX12_isTrue_31
        · rw [if_neg q1] at h; cases h
  exact (blk k0).1 L0 σ0 r0 h0 s.heap [] ls hP hD hS hl
/-! isSliceIn -/
def x_isSliceIn : Nat → Nat → (Nat → Int32) → MS → Option (Int32 × MS)
  | 0, _, _, _ => none
  | k + 1, 0, L, σ => if ((σ.1 100)) < 1 then (x_isSliceIn k 1 L σ) else (if ((σ.1 101)) < ((((σ.1 100)) - 1)) then (x_isSliceIn k 1 L σ) else (if ¬ (((((L 1)) + 1)) < 0 ∨ 1740000 ≤ ((((L 1)) + 1)).toNatClampNeg) then (if ((σ.1 101)) ≤ ((σ.2.2 28 ((((L 1)) + 1)).toNatClampNeg)) then (x_isSliceIn k 2 L σ) else (x_isSliceIn k 1 L σ)) else none))
  | k + 1, 1, L, σ => ob (x_fail k 0 (upd (fun _ => 0) 1 4) σ) (fun r1 => some (0, r1.2))
  | k + 1, 2, L, σ => some (1, σ)
  | _ + 1, _ + 3, _, _ => none
def o_x_isSliceIn : List Cond := [.fieldLink RX12 805 "SetHouseModel" "sliceFrom" "I", .fieldLink RX12 808 "SetHouseModel" "sliceTo" "I", .fieldLink RX12 372 "SetHouseModel" "heap" "[I", .methodLink RX12 369 yX12_fail, .instanceMethod yX12_fail, .selects RX12 yX12_fail yX12_fail, .initialized RX12]
theorem o_x_isSliceIn_good : o_x_isSliceIn.all goodWord = true := by decide +kernel
def p_x_isSliceIn : List Cond := o_x_isSliceIn ++ ((.code yX12_fail cX12_fail 2 none :: p_x_fail) ++ [])
theorem p_x_isSliceIn_good : p_x_isSliceIn.all goodWord = true := nb_all2 o_x_isSliceIn_good (nb_all2 (nb_allc (by decide +kernel) p_x_fail_good) rfl)
def w_x_isSliceIn : List Cond := .code yX12_isSliceIn cX12_isSliceIn 2 (some .boolean) :: (p_x_isSliceIn ++ fM)
theorem w_x_isSliceIn_good : w_x_isSliceIn.all goodWord = true := nb_allc (by decide +kernel) (nb_all2 p_x_isSliceIn_good fM_good)
theorem in_x_isSliceIn : ∀ w ∈ wsX120, w ∈ w_x_isSliceIn := fun _ h => List.mem_cons_of_mem _ (List.mem_append_right _ h)
theorem gg_x_isSliceIn_fail : GoodIn w_x_isSliceIn w_x_fail := goodIn_sub (fun w h => (List.mem_cons.mp h).elim (fun e => (List.mem_cons_of_mem _ (List.mem_append_left _ (List.mem_append_right _ (List.mem_append_left _ (List.mem_cons.mpr (Or.inl e))))))) (fun h => (List.mem_append.mp h).elim (fun h => (List.mem_cons_of_mem _ (List.mem_append_left _ (List.mem_append_right _ (List.mem_append_left _ (List.mem_cons_of_mem _ h)))))) (fun h => List.mem_cons_of_mem _ (List.mem_append_right _ h)))) w_x_fail_good
theorem g_x_isSliceIn_fail_369 : GoodIn w_x_isSliceIn (wsV RX12 369 RX12 yX12_fail w_x_fail) := goodIn_app (nb_g4 (List.mem_cons_of_mem _ (List.mem_append_left _ (List.mem_append_left _ (List.mem_of_getElem? (i := 3) rfl)))) (List.mem_cons_of_mem _ (List.mem_append_left _ (List.mem_append_left _ (List.mem_of_getElem? (i := 4) rfl)))) (List.mem_cons_of_mem _ (List.mem_append_left _ (List.mem_append_left _ (List.mem_of_getElem? (i := 5) rfl)))) (List.mem_cons_of_mem _ (List.mem_append_left _ (List.mem_append_left _ (List.mem_of_getElem? (i := 6) rfl)))) (by decide +kernel)) gg_x_isSliceIn_fail
set_option maxHeartbeats 40000000 in
set_option maxRecDepth 100000 in
theorem c_x_isSliceIn (l : Launch) (dC : Nat → ClassId) (dI : Nat → Nat → Nat) (cy : Nat → ClassId) (a : Nat → Nat) (k0 : Nat) (L0 : Nat → Int32) (σ0 : MS) (r0 : Int32 × MS) (h0 : x_isSliceIn k0 0 L0 σ0 = some r0) (sz : Nat) : Met l yX12_isSliceIn w_x_isSliceIn ({ frames := 1, cells := 0, slots := 0, locals := 21 }) (va_Pc [.ref (a 0), .int (L0 1)] (nIn (dC, dI) cy sz (vM cy a σ0))) (va_Qi (fun (z : Int32) (_ : Unit) => z = r0.1) (fun _ t => nOut (dC, dI) cy (va_A (vM cy a σ0) sz) (vM cy a r0.2) t) (va_A (vM cy a σ0) sz)) 0 0 (va_A (vM cy a σ0) sz) := by
  refine Met.ofW (cc := cX12_isSliceIn) (maxL := 2) (ret := (some .boolean)) (by decide) rfl ?_
  intro p e s m args below meth c s₁ B hml hv
  obtain ⟨rfl, hsz, hP, hK, hD0, hG⟩ := hv
  have hx := B.exec
  have hb := B.bytes
  have hr := B.returns
  have hts := atoms_spec (ws := w_x_isSliceIn) B.pre
  have hown : s.vm.findClass RX12 = some m.cls := findClass_of_methodNamed B.named
  have hlocks := B.notSynchronized
  subst hsz
  have hD := hD0.self (sz := s.heap.size)
  generalize hAe : va_A (vM cy a σ0) s.heap.size = A at hD ⊢
  have hA : ∀ q : Nat, s.heap.size ≤ q → A q := fun q h => by rw [← hAe]; exact Or.inr h
  have hS : va_S A s.heap s.heap [] := va_S.rf
  have hl := lv_entry ([.ref (a 0), .int (L0 1)]) (n := 2) (Nat.le_of_ble_eq_true rfl)
  rw [lg_entry_eq]
  generalize (lg_sl ([.ref (a 0), .int (L0 1)]) ++ List.replicate (2 - (lg_sl ([.ref (a 0), .int (L0 1)])).length) Slot.unset).toArray = ls at hl ⊢
  have hl : lv_has ls 2 [(0, .ref (a 0)), (1, .int (L0 1))] := hl
  have blk : ∀ k : Nat, (∀ (L : Nat → Int32) (σ : MS) (r : Int32 × MS), x_isSliceIn k 0 L σ = some r → ∀ (H : Heap) (locs : List Loc) (ls : Array Slot), va_P (dC, dI) nCl (vM cy a σ) H → va_D A (vM cy a σ) → va_S A s.heap H locs → lv_has ls 2 [(0, .ref (a 0)), (1, .int (L 1))] → W p l e (headSpec w_x_isSliceIn ({ frames := 1, cells := 0, slots := 0, locals := 21 })).room s m #[.ref (a 0), .int (L0 1)] below meth c H locs 0 0 (MQ below (va_Qi (fun (z : Int32) (_ : Unit) => z = r.1) (fun _ t => nOut (dC, dI) cy A (vM cy a r.2) t) A) #[.ref (a 0), .int (L0 1)] s 0 0 A) (F0 m 0 ls [])) ∧ (∀ (L : Nat → Int32) (σ : MS) (r : Int32 × MS), x_isSliceIn k 1 L σ = some r → ∀ (H : Heap) (locs : List Loc) (ls : Array Slot), va_P (dC, dI) nCl (vM cy a σ) H → va_D A (vM cy a σ) → va_S A s.heap H locs → lv_has ls 2 [(0, .ref (a 0)), (1, .int (L 1))] → W p l e (headSpec w_x_isSliceIn ({ frames := 1, cells := 0, slots := 0, locals := 21 })).room s m #[.ref (a 0), .int (L0 1)] below meth c H locs 0 0 (MQ below (va_Qi (fun (z : Int32) (_ : Unit) => z = r.1) (fun _ t => nOut (dC, dI) cy A (vM cy a r.2) t) A) #[.ref (a 0), .int (L0 1)] s 0 0 A) (F0 m 36 ls [])) ∧ (∀ (L : Nat → Int32) (σ : MS) (r : Int32 × MS), x_isSliceIn k 2 L σ = some r → ∀ (H : Heap) (locs : List Loc) (ls : Array Slot), va_P (dC, dI) nCl (vM cy a σ) H → va_D A (vM cy a σ) → va_S A s.heap H locs → lv_has ls 2 [(0, .ref (a 0)), (1, .int (L 1))] → W p l e (headSpec w_x_isSliceIn ({ frames := 1, cells := 0, slots := 0, locals := 21 })).room s m #[.ref (a 0), .int (L0 1)] below meth c H locs 0 0 (MQ below (va_Qi (fun (z : Int32) (_ : Unit) => z = r.1) (fun _ t => nOut (dC, dI) cy A (vM cy a r.2) t) A) #[.ref (a 0), .int (L0 1)] s 0 0 A) (F0 m 43 ls [])) := by
    intro k
    induction k with
    | zero => exact ⟨fun L σ r h => (by cases h), fun L σ r h => (by cases h), fun L σ r h => (by cases h)⟩
    | succ k ih =>
      refine ⟨?_, ?_, ?_⟩
      · intro L σ r h H locs ls hP hD hS hl
        rw [x_isSliceIn] at h
        refine lv_aload_n hx hb dX12_isSliceIn_0 rfl (lv_at hl 0 rfl) ?_
        refine va_get (D := (dC, dI)) (ci := 11) (v := .int (σ.1 100)) (C := RX12) (T := TX12) (N := 121) hx hb hts in_x_isSliceIn hown hK hP 0 rfl rfl 100 (by decide) (hts _ (List.mem_cons_of_mem _ (List.mem_append_left _ (List.mem_append_left _ (List.mem_of_getElem? (i := 0) rfl))))) (fun _ h9 => h9) rfl dX12_isSliceIn_1 ?_
        refine lv_iconst (v := 1) hx hb dX12_isSliceIn_4 (by decide) ?_
        refine lv_icmp_lt (tgt := 36) hx hb dX12_isSliceIn_5 (by decide) (fun c1 => ?_) (fun c1 => ?_)
        · rw [if_pos c1] at h
          exact ih.2.1 L σ r h H locs ls hP hD hS (lv_sub hl [0, 1] rfl)
        · rw [if_neg c1] at h
          refine lv_aload_n hx hb dX12_isSliceIn_8 rfl (lv_at hl 0 rfl) ?_
          refine va_get (D := (dC, dI)) (ci := 11) (v := .int (σ.1 101)) (C := RX12) (T := TX12) (N := 121) hx hb hts in_x_isSliceIn hown hK hP 0 rfl rfl 101 (by decide) (hts _ (List.mem_cons_of_mem _ (List.mem_append_left _ (List.mem_append_left _ (List.mem_of_getElem? (i := 1) rfl))))) (fun _ h9 => h9) rfl dX12_isSliceIn_9 ?_
          refine lv_aload_n hx hb dX12_isSliceIn_12 rfl (lv_at hl 0 rfl) ?_
          refine va_get (D := (dC, dI)) (ci := 11) (v := .int (σ.1 100)) (C := RX12) (T := TX12) (N := 121) hx hb hts in_x_isSliceIn hown hK hP 0 rfl rfl 100 (by decide) (hts _ (List.mem_cons_of_mem _ (List.mem_append_left _ (List.mem_append_left _ (List.mem_of_getElem? (i := 0) rfl))))) (fun _ h9 => h9) rfl dX12_isSliceIn_13 ?_
          refine lv_iconst (v := 1) hx hb dX12_isSliceIn_16 (by decide) ?_
          refine lv_isub hx hb dX12_isSliceIn_17 ?_
          refine lv_icmp_lt (tgt := 36) hx hb dX12_isSliceIn_18 (by decide) (fun c2 => ?_) (fun c2 => ?_)
          · rw [if_pos c2] at h
            exact ih.2.1 L σ r h H locs ls hP hD hS (lv_sub hl [0, 1] rfl)
          · rw [if_neg c2] at h
            refine lv_aload_n hx hb dX12_isSliceIn_21 rfl (lv_at hl 0 rfl) ?_
            refine va_get (D := (dC, dI)) (ci := 11) (v := .int (σ.1 101)) (C := RX12) (T := TX12) (N := 121) hx hb hts in_x_isSliceIn hown hK hP 0 rfl rfl 101 (by decide) (hts _ (List.mem_cons_of_mem _ (List.mem_append_left _ (List.mem_append_left _ (List.mem_of_getElem? (i := 1) rfl))))) (fun _ h9 => h9) rfl dX12_isSliceIn_22 ?_
            refine lv_aload_n hx hb dX12_isSliceIn_25 rfl (lv_at hl 0 rfl) ?_
            refine va_get (D := (dC, dI)) (ci := 11) (v := .ref (a 28)) (C := RX12) (T := TX12) (N := 121) hx hb hts in_x_isSliceIn hown hK hP 0 rfl rfl 53 (by decide) (hts _ (List.mem_cons_of_mem _ (List.mem_append_left _ (List.mem_append_left _ (List.mem_of_getElem? (i := 2) rfl))))) (fun _ h9 => h9) rfl dX12_isSliceIn_26 ?_
            refine lv_iload_n hx hb dX12_isSliceIn_29 rfl (lv_at hl 1 rfl) ?_
            refine lv_iconst (v := 1) hx hb dX12_isSliceIn_30 (by decide) ?_
            refine lv_iadd hx hb dX12_isSliceIn_31 ?_
            by_cases q3 : ¬ (((((L 1)) + 1)) < 0 ∨ 1740000 ≤ ((((L 1)) + 1)).toNatClampNeg)
            · rw [if_pos q3] at h
              refine va_iald hx hb hK hP 28 1 rfl rfl (nb_inp q3) dX12_isSliceIn_32 ?_
              refine lv_icmp_le (tgt := 43) hx hb dX12_isSliceIn_33 (by decide) (fun c4 => ?_) (fun c4 => ?_)
              · rw [if_pos c4] at h
                exact ih.2.2 L σ r h H locs ls hP hD hS (lv_sub hl [0, 1] rfl)
              · rw [if_neg c4] at h
                exact ih.2.1 L σ r h H locs ls hP hD hS (lv_sub hl [0, 1] rfl)
            · rw [if_neg q3] at h; cases h
      · intro L σ r h H locs ls hP hD hS hl
        rw [x_isSliceIn] at h
        refine lv_aload_n hx hb dX12_isSliceIn_36 rfl (lv_at hl 0 rfl) ?_
        refine lv_iconst (v := 4) hx hb dX12_isSliceIn_37 (by decide) ?_
        cases hc1 : x_fail k 0 (upd (fun _ => 0) 1 4) σ with
        | none => rw [hc1, ob_none] at h; cases h
        | some r1 =>
          rw [hc1, ob_some] at h
          have hFc := va_free (wc := vM cy a σ) hD hS hA [0, 1, 2, 3, 4, 5, 6, 7, 8, 9, 10, 11, 12, 13, 14, 15, 16, 17, 18, 19, 20, 21, 22, 23, 24, 25, 26, 27, 28, 29, 30, 31, 32, 33, 34, 35, 36, 37, 38, 39, 40, 41, 42, 43, 44, 45, 46, 47, 48, 49, 50, 51, 52, 53, 54, 55, 56, 57] rfl
          refine va_callv (va_runV (As := [.int 4]) (rest := []) ⟨hx, hb, hml, hown, hts⟩ (c_x_fail l dC dI cy a k (upd (fun _ => 0) 1 4) σ r1 hc1 H.size) (cwV 1 hts g_x_isSliceIn_fail_369 rfl rfl rfl (by decide +kernel) ⟨Nat.le_of_ble_eq_true rfl, Nat.le_of_ble_eq_true rfl⟩) ⟨nb_blind, va_recv hK hP (ci := 11) (q0 := 0) rfl rfl, fun U hU hW => ⟨rfl, by rw [hU], by rw [hU]; exact hP, va_K.moved hW.alike hK, hD.weaken (fun _ _ _ _ => trivial), hG.warm hW⟩⟩ rfl rfl hl.1 rfl (lv_room (Nat.le_of_ble_eq_true rfl)) dX12_isSliceIn_38 ⟨Nat.le_of_ble_eq_true rfl, Nat.le_of_ble_eq_true rfl⟩) hS (fun q _ h => hFc q h) hFc (fun _ t H1 locs ht hvm hw hB hz1 hk1 hS => ?_)
          obtain ⟨hP1, hK1, hD1⟩ := hB
          rw [ht] at hP1
          obtain ⟨hP, hD⟩ := va_join (wr := []) (w1 := vM cy a r1.2) hP hD [0, 1, 2, 3, 4, 5, 6, 7, 8, 9, 10, 11, 12, 13, 14, 15, 16, 17, 18, 19, 20, 21, 22, 23, 24, 25, 26, 27, 28, 29, 30, 31, 32, 33, 34, 35, 36, 37, 38, 39, 40, 41, 42, 43, 44, 45, 46, 47, 48, 49, 50, 51, 52, 53, 54, 55, 56, 57] [] rfl rfl (by decide) (by decide) hk1 hFc hP1 hD1
          generalize H1 = H at hP hS ⊢
          have hP : va_P (dC, dI) nCl (vM cy a r1.2) H := hP
          have hD : va_D A (vM cy a r1.2) := hD
          refine lv_iconst (v := 0) hx hb dX12_isSliceIn_41 (by decide) ?_
          cases h
          exact W.zret (v := 0) hx hb hr rfl (fun t ht hW => ⟨⟨0, (), rfl, rfl, by rw [ht]; exact hP, va_K.moved hW.alike hK, hD⟩, hS.F ht⟩) hS.2.2 dX12_isSliceIn_42
      · intro L σ r h H locs ls hP hD hS hl
        rw [x_isSliceIn] at h
        refine lv_iconst (v := 1) hx hb dX12_isSliceIn_43 (by decide) ?_
        cases h
        exact W.zret (v := 1) hx hb hr rfl (fun t ht hW => ⟨⟨1, (), rfl, rfl, by rw [ht]; exact hP, va_K.moved hW.alike hK, hD⟩, hS.F ht⟩) hS.2.2 dX12_isSliceIn_44
  exact (blk k0).1 L0 σ0 r0 h0 s.heap [] ls hP hD hS hl
/-! isOver -/
def x_isOver : Nat → Nat → (Nat → Int32) → MS → Option (Int32 × MS)
  | 0, _, _, _ => none
  | k + 1, 0, L, σ => if ((L 0)) = 16 then (x_isOver k 1 L σ) else (if ((L 0)) = 21 then (x_isOver k 1 L σ) else (if ((L 0)) = 22 then (x_isOver k 1 L σ) else (if ((L 0)) = 23 then (x_isOver k 1 L σ) else (if ((L 0)) = 24 then (x_isOver k 1 L σ) else (if ((L 0)) = 25 then (x_isOver k 1 L σ) else (if ((L 0)) = 26 then (x_isOver k 1 L σ) else (x_isOver k 2 L σ)))))))
  | k + 1, 1, L, σ => x_isOver k 3 (upd L 100 1) σ
  | k + 1, 2, L, σ => x_isOver k 3 (upd L 100 0) σ
  | k + 1, 3, L, σ => if ((L 100)) = 0 ∨ ((L 100)) = 1 then some ((L 100), σ) else none
  | _ + 1, _ + 4, _, _ => none
def o_x_isOver : List Cond := []
theorem o_x_isOver_good : o_x_isOver.all goodWord = true := by decide +kernel
def p_x_isOver : List Cond := o_x_isOver ++ []
theorem p_x_isOver_good : p_x_isOver.all goodWord = true := nb_all2 o_x_isOver_good rfl
def w_x_isOver : List Cond := .code yX12_isOver cX12_isOver 1 (some .boolean) :: (p_x_isOver ++ fM)
theorem w_x_isOver_good : w_x_isOver.all goodWord = true := nb_allc (by decide +kernel) (nb_all2 p_x_isOver_good fM_good)
theorem in_x_isOver : ∀ w ∈ wsX120, w ∈ w_x_isOver := fun _ h => List.mem_cons_of_mem _ (List.mem_append_right _ h)
set_option maxHeartbeats 40000000 in
set_option maxRecDepth 100000 in
theorem c_x_isOver (l : Launch) (dC : Nat → ClassId) (dI : Nat → Nat → Nat) (cy : Nat → ClassId) (a : Nat → Nat) (k0 : Nat) (L0 : Nat → Int32) (σ0 : MS) (r0 : Int32 × MS) (h0 : x_isOver k0 0 L0 σ0 = some r0) (sz : Nat) : Met l yX12_isOver w_x_isOver ({ frames := 0, cells := 0, slots := 0, locals := 0 }) (va_Pc [.int (L0 0)] (nIn (dC, dI) cy sz (vM cy a σ0))) (va_Qi (fun (z : Int32) (_ : Unit) => z = r0.1) (fun _ t => nOut (dC, dI) cy (va_A (vM cy a σ0) sz) (vM cy a r0.2) t) (va_A (vM cy a σ0) sz)) 0 0 (va_A (vM cy a σ0) sz) := by
  refine Met.ofW (cc := cX12_isOver) (maxL := 1) (ret := (some .boolean)) (by decide) rfl ?_
  intro p e s m args below meth c s₁ B hml hv
  obtain ⟨rfl, hsz, hP, hK, hD0, hG⟩ := hv
  have hx := B.exec
  have hb := B.bytes
  have hr := B.returns
  have hts := atoms_spec (ws := w_x_isOver) B.pre
  have hown : s.vm.findClass RX12 = some m.cls := findClass_of_methodNamed B.named
  have hlocks := B.notSynchronized
  subst hsz
  have hD := hD0.self (sz := s.heap.size)
  generalize hAe : va_A (vM cy a σ0) s.heap.size = A at hD ⊢
  have hA : ∀ q : Nat, s.heap.size ≤ q → A q := fun q h => by rw [← hAe]; exact Or.inr h
  have hS : va_S A s.heap s.heap [] := va_S.rf
  have hl := lv_entry ([.int (L0 0)]) (n := 1) (Nat.le_of_ble_eq_true rfl)
  rw [lg_entry_eq]
  generalize (lg_sl ([.int (L0 0)]) ++ List.replicate (1 - (lg_sl ([.int (L0 0)])).length) Slot.unset).toArray = ls at hl ⊢
  have hl : lv_has ls 1 [(0, .int (L0 0))] := hl
  have blk : ∀ k : Nat, (∀ (L : Nat → Int32) (σ : MS) (r : Int32 × MS), x_isOver k 0 L σ = some r → ∀ (H : Heap) (locs : List Loc) (ls : Array Slot), va_P (dC, dI) nCl (vM cy a σ) H → va_D A (vM cy a σ) → va_S A s.heap H locs → lv_has ls 1 [(0, .int (L 0))] → W p l e (headSpec w_x_isOver ({ frames := 0, cells := 0, slots := 0, locals := 0 })).room s m #[.int (L0 0)] below meth c H locs 0 0 (MQ below (va_Qi (fun (z : Int32) (_ : Unit) => z = r.1) (fun _ t => nOut (dC, dI) cy A (vM cy a r.2) t) A) #[.int (L0 0)] s 0 0 A) (F0 m 0 ls [])) ∧ (∀ (L : Nat → Int32) (σ : MS) (r : Int32 × MS), x_isOver k 1 L σ = some r → ∀ (H : Heap) (locs : List Loc) (ls : Array Slot), va_P (dC, dI) nCl (vM cy a σ) H → va_D A (vM cy a σ) → va_S A s.heap H locs → lv_has ls 1 [(0, .int (L 0))] → W p l e (headSpec w_x_isOver ({ frames := 0, cells := 0, slots := 0, locals := 0 })).room s m #[.int (L0 0)] below meth c H locs 0 0 (MQ below (va_Qi (fun (z : Int32) (_ : Unit) => z = r.1) (fun _ t => nOut (dC, dI) cy A (vM cy a r.2) t) A) #[.int (L0 0)] s 0 0 A) (F0 m 42 ls [])) ∧ (∀ (L : Nat → Int32) (σ : MS) (r : Int32 × MS), x_isOver k 2 L σ = some r → ∀ (H : Heap) (locs : List Loc) (ls : Array Slot), va_P (dC, dI) nCl (vM cy a σ) H → va_D A (vM cy a σ) → va_S A s.heap H locs → lv_has ls 1 [(0, .int (L 0))] → W p l e (headSpec w_x_isOver ({ frames := 0, cells := 0, slots := 0, locals := 0 })).room s m #[.int (L0 0)] below meth c H locs 0 0 (MQ below (va_Qi (fun (z : Int32) (_ : Unit) => z = r.1) (fun _ t => nOut (dC, dI) cy A (vM cy a r.2) t) A) #[.int (L0 0)] s 0 0 A) (F0 m 46 ls [])) ∧ (∀ (L : Nat → Int32) (σ : MS) (r : Int32 × MS), x_isOver k 3 L σ = some r → ∀ (H : Heap) (locs : List Loc) (ls : Array Slot), va_P (dC, dI) nCl (vM cy a σ) H → va_D A (vM cy a σ) → va_S A s.heap H locs → lv_has ls 1 [(0, .int (L 0))] → W p l e (headSpec w_x_isOver ({ frames := 0, cells := 0, slots := 0, locals := 0 })).room s m #[.int (L0 0)] below meth c H locs 0 0 (MQ below (va_Qi (fun (z : Int32) (_ : Unit) => z = r.1) (fun _ t => nOut (dC, dI) cy A (vM cy a r.2) t) A) #[.int (L0 0)] s 0 0 A) (F0 m 47 ls [.int (L 100)])) := by
    intro k
    induction k with
    | zero => exact ⟨fun L σ r h => (by cases h), fun L σ r h => (by cases h), fun L σ r h => (by cases h), fun L σ r h => (by cases h)⟩
    | succ k ih =>
      refine ⟨?_, ?_, ?_, ?_⟩
      · intro L σ r h H locs ls hP hD hS hl
        rw [x_isOver] at h
        refine lv_iload_n hx hb dX12_isOver_0 rfl (lv_at hl 0 rfl) ?_
        refine lv_bipush (v := 16) hx hb dX12_isOver_1 (by decide) ?_
        refine lv_icmp_eq (tgt := 42) hx hb dX12_isOver_3 (by decide) (fun c1 => ?_) (fun c1 => ?_)
        · rw [if_pos c1] at h
          exact ih.2.1 L σ r h H locs ls hP hD hS (lv_sub hl [0] rfl)
        · rw [if_neg c1] at h
          refine lv_iload_n hx hb dX12_isOver_6 rfl (lv_at hl 0 rfl) ?_
          refine lv_bipush (v := 21) hx hb dX12_isOver_7 (by decide) ?_
          refine lv_icmp_eq (tgt := 42) hx hb dX12_isOver_9 (by decide) (fun c2 => ?_) (fun c2 => ?_)
          · rw [if_pos c2] at h
            exact ih.2.1 L σ r h H locs ls hP hD hS (lv_sub hl [0] rfl)
          · rw [if_neg c2] at h
            refine lv_iload_n hx hb dX12_isOver_12 rfl (lv_at hl 0 rfl) ?_
            refine lv_bipush (v := 22) hx hb dX12_isOver_13 (by decide) ?_
            refine lv_icmp_eq (tgt := 42) hx hb dX12_isOver_15 (by decide) (fun c3 => ?_) (fun c3 => ?_)
            · rw [if_pos c3] at h
              exact ih.2.1 L σ r h H locs ls hP hD hS (lv_sub hl [0] rfl)
            · rw [if_neg c3] at h
              refine lv_iload_n hx hb dX12_isOver_18 rfl (lv_at hl 0 rfl) ?_
              refine lv_bipush (v := 23) hx hb dX12_isOver_19 (by decide) ?_
              refine lv_icmp_eq (tgt := 42) hx hb dX12_isOver_21 (by decide) (fun c4 => ?_) (fun c4 => ?_)
              · rw [if_pos c4] at h
                exact ih.2.1 L σ r h H locs ls hP hD hS (lv_sub hl [0] rfl)
              · rw [if_neg c4] at h
                refine lv_iload_n hx hb dX12_isOver_24 rfl (lv_at hl 0 rfl) ?_
                refine lv_bipush (v := 24) hx hb dX12_isOver_25 (by decide) ?_
                refine lv_icmp_eq (tgt := 42) hx hb dX12_isOver_27 (by decide) (fun c5 => ?_) (fun c5 => ?_)
                · rw [if_pos c5] at h
                  exact ih.2.1 L σ r h H locs ls hP hD hS (lv_sub hl [0] rfl)
                · rw [if_neg c5] at h
                  refine lv_iload_n hx hb dX12_isOver_30 rfl (lv_at hl 0 rfl) ?_
                  refine lv_bipush (v := 25) hx hb dX12_isOver_31 (by decide) ?_
                  refine lv_icmp_eq (tgt := 42) hx hb dX12_isOver_33 (by decide) (fun c6 => ?_) (fun c6 => ?_)
                  · rw [if_pos c6] at h
                    exact ih.2.1 L σ r h H locs ls hP hD hS (lv_sub hl [0] rfl)
                  · rw [if_neg c6] at h
                    refine lv_iload_n hx hb dX12_isOver_36 rfl (lv_at hl 0 rfl) ?_
                    refine lv_bipush (v := 26) hx hb dX12_isOver_37 (by decide) ?_
                    refine lv_icmp_ne (tgt := 46) hx hb dX12_isOver_39 (by decide) (fun c7 => ?_) (fun c7 => ?_)
                    · rw [if_neg c7] at h
                      exact ih.2.2.1 L σ r h H locs ls hP hD hS (lv_sub hl [0] rfl)
                    · rw [if_pos c7] at h
                      exact ih.2.1 L σ r h H locs ls hP hD hS (lv_sub hl [0] rfl)
      · intro L σ r h H locs ls hP hD hS hl
        rw [x_isOver] at h
        refine lv_iconst (v := 1) hx hb dX12_isOver_42 (by decide) ?_
        refine lv_goto (tgt := 47) hx hb dX12_isOver_43 (by decide) ?_
        exact ih.2.2.2 (upd L 100 1) σ r h H locs ls hP hD hS (lv_sub hl [0] rfl)
      · intro L σ r h H locs ls hP hD hS hl
        rw [x_isOver] at h
        refine lv_iconst (v := 0) hx hb dX12_isOver_46 (by decide) ?_
        exact ih.2.2.2 (upd L 100 0) σ r h H locs ls hP hD hS (lv_sub hl [0] rfl)
      · intro L σ r h H locs ls hP hD hS hl
        rw [x_isOver] at h
        by_cases q1 : ((L 100)) = 0 ∨ ((L 100)) = 1
        · rw [if_pos q1] at h
          cases h
          exact W.zret (v := (L 100)) hx hb hr (nb_bz q1) (fun t ht hW => ⟨⟨(L 100), (), rfl, rfl, by rw [ht]; exact hP, va_K.moved hW.alike hK, hD⟩, hS.F ht⟩) hS.2.2 dX12_isOver_47
        · rw [if_neg q1] at h; cases h
  exact (blk k0).1 L0 σ0 r0 h0 s.heap [] ls hP hD hS hl
/-! nameOf -/
def x_nameOf : Nat → Nat → (Nat → Int32) → MS → Option (Int32 × MS)
  | 0, _, _, _ => none
  | k + 1, 0, L, σ => x_nameOf k 1 (upd L 2 ((L 1))) σ
  | k + 1, 1, L, σ => if ¬ (((L 2)) < 0 ∨ 70000 ≤ ((L 2)).toNatClampNeg) then (if ((σ.2.2 4 ((L 2)).toNatClampNeg)) = 7 then (x_nameOf k 2 L σ) else (if ¬ (((L 2)) < 0 ∨ 70000 ≤ ((L 2)).toNatClampNeg) then (x_nameOf k 1 (upd L 2 ((σ.2.2 6 ((L 2)).toNatClampNeg))) σ) else none)) else none
  | k + 1, 2, L, σ => some ((L 2), σ)
  | _ + 1, _ + 3, _, _ => none
def o_x_nameOf : List Cond := [.fieldLink RX12 83 "SetHouseModel" "op" "[I", .fieldLink RX12 89 "SetHouseModel" "x2" "[I"]
theorem o_x_nameOf_good : o_x_nameOf.all goodWord = true := by decide +kernel
def p_x_nameOf : List Cond := o_x_nameOf ++ []
theorem p_x_nameOf_good : p_x_nameOf.all goodWord = true := nb_all2 o_x_nameOf_good rfl
def w_x_nameOf : List Cond := .code yX12_nameOf cX12_nameOf 3 (some .int) :: (p_x_nameOf ++ fM)
theorem w_x_nameOf_good : w_x_nameOf.all goodWord = true := nb_allc (by decide +kernel) (nb_all2 p_x_nameOf_good fM_good)
theorem in_x_nameOf : ∀ w ∈ wsX120, w ∈ w_x_nameOf := fun _ h => List.mem_cons_of_mem _ (List.mem_append_right _ h)
set_option maxHeartbeats 40000000 in
set_option maxRecDepth 100000 in
theorem c_x_nameOf (l : Launch) (dC : Nat → ClassId) (dI : Nat → Nat → Nat) (cy : Nat → ClassId) (a : Nat → Nat) (k0 : Nat) (L0 : Nat → Int32) (σ0 : MS) (r0 : Int32 × MS) (h0 : x_nameOf k0 0 L0 σ0 = some r0) (sz : Nat) : Met l yX12_nameOf w_x_nameOf ({ frames := 0, cells := 0, slots := 0, locals := 0 }) (va_Pc [.ref (a 0), .int (L0 1)] (nIn (dC, dI) cy sz (vM cy a σ0))) (va_Qi (fun (z : Int32) (_ : Unit) => z = r0.1) (fun _ t => nOut (dC, dI) cy (va_A (vM cy a σ0) sz) (vM cy a r0.2) t) (va_A (vM cy a σ0) sz)) 0 0 (va_A (vM cy a σ0) sz) := by
  refine Met.ofW (cc := cX12_nameOf) (maxL := 3) (ret := (some .int)) (by decide) rfl ?_
  intro p e s m args below meth c s₁ B hml hv
  obtain ⟨rfl, hsz, hP, hK, hD0, hG⟩ := hv
  have hx := B.exec
  have hb := B.bytes
  have hr := B.returns
  have hts := atoms_spec (ws := w_x_nameOf) B.pre
  have hown : s.vm.findClass RX12 = some m.cls := findClass_of_methodNamed B.named
  have hlocks := B.notSynchronized
  subst hsz
  have hD := hD0.self (sz := s.heap.size)
  generalize hAe : va_A (vM cy a σ0) s.heap.size = A at hD ⊢
  have hA : ∀ q : Nat, s.heap.size ≤ q → A q := fun q h => by rw [← hAe]; exact Or.inr h
  have hS : va_S A s.heap s.heap [] := va_S.rf
  have hl := lv_entry ([.ref (a 0), .int (L0 1)]) (n := 3) (Nat.le_of_ble_eq_true rfl)
  rw [lg_entry_eq]
  generalize (lg_sl ([.ref (a 0), .int (L0 1)]) ++ List.replicate (3 - (lg_sl ([.ref (a 0), .int (L0 1)])).length) Slot.unset).toArray = ls at hl ⊢
  have hl : lv_has ls 3 [(0, .ref (a 0)), (1, .int (L0 1))] := hl
  have blk : ∀ k : Nat, (∀ (L : Nat → Int32) (σ : MS) (r : Int32 × MS), x_nameOf k 0 L σ = some r → ∀ (H : Heap) (locs : List Loc) (ls : Array Slot), va_P (dC, dI) nCl (vM cy a σ) H → va_D A (vM cy a σ) → va_S A s.heap H locs → lv_has ls 3 [(0, .ref (a 0)), (1, .int (L 1))] → W p l e (headSpec w_x_nameOf ({ frames := 0, cells := 0, slots := 0, locals := 0 })).room s m #[.ref (a 0), .int (L0 1)] below meth c H locs 0 0 (MQ below (va_Qi (fun (z : Int32) (_ : Unit) => z = r.1) (fun _ t => nOut (dC, dI) cy A (vM cy a r.2) t) A) #[.ref (a 0), .int (L0 1)] s 0 0 A) (F0 m 0 ls [])) ∧ (∀ (L : Nat → Int32) (σ : MS) (r : Int32 × MS), x_nameOf k 1 L σ = some r → ∀ (H : Heap) (locs : List Loc) (ls : Array Slot), va_P (dC, dI) nCl (vM cy a σ) H → va_D A (vM cy a σ) → va_S A s.heap H locs → lv_has ls 3 [(0, .ref (a 0)), (1, .int (L 1)), (2, .int (L 2))] → W p l e (headSpec w_x_nameOf ({ frames := 0, cells := 0, slots := 0, locals := 0 })).room s m #[.ref (a 0), .int (L0 1)] below meth c H locs 0 0 (MQ below (va_Qi (fun (z : Int32) (_ : Unit) => z = r.1) (fun _ t => nOut (dC, dI) cy A (vM cy a r.2) t) A) #[.ref (a 0), .int (L0 1)] s 0 0 A) (F0 m 2 ls [])) ∧ (∀ (L : Nat → Int32) (σ : MS) (r : Int32 × MS), x_nameOf k 2 L σ = some r → ∀ (H : Heap) (locs : List Loc) (ls : Array Slot), va_P (dC, dI) nCl (vM cy a σ) H → va_D A (vM cy a σ) → va_S A s.heap H locs → lv_has ls 3 [(0, .ref (a 0)), (1, .int (L 1)), (2, .int (L 2))] → W p l e (headSpec w_x_nameOf ({ frames := 0, cells := 0, slots := 0, locals := 0 })).room s m #[.ref (a 0), .int (L0 1)] below meth c H locs 0 0 (MQ below (va_Qi (fun (z : Int32) (_ : Unit) => z = r.1) (fun _ t => nOut (dC, dI) cy A (vM cy a r.2) t) A) #[.ref (a 0), .int (L0 1)] s 0 0 A) (F0 m 23 ls [])) := by
    intro k
    induction k with
    | zero => exact ⟨fun L σ r h => (by cases h), fun L σ r h => (by cases h), fun L σ r h => (by cases h)⟩
    | succ k ih =>
      refine ⟨?_, ?_, ?_⟩
      · intro L σ r h H locs ls hP hD hS hl
        rw [x_nameOf] at h
        refine lv_iload_n hx hb dX12_nameOf_0 rfl (lv_at hl 1 rfl) ?_
        refine lv_istore_n (lv' := [(2, .int (L 1)), (0, .ref (a 0)), (1, .int (L 1))]) hx hb dX12_nameOf_1 rfl hl (by decide) rfl (fun ls hl => ?_)
        exact ih.2.1 (upd L 2 ((L 1))) σ r h H locs ls hP hD hS (lv_sub hl [1, 2, 0] rfl)
      · intro L σ r h H locs ls hP hD hS hl
        rw [x_nameOf] at h
        refine lv_aload_n hx hb dX12_nameOf_2 rfl (lv_at hl 0 rfl) ?_
        refine va_get (D := (dC, dI)) (ci := 11) (v := .ref (a 4)) (C := RX12) (T := TX12) (N := 121) hx hb hts in_x_nameOf hown hK hP 0 rfl rfl 14 (by decide) (hts _ (List.mem_cons_of_mem _ (List.mem_append_left _ (List.mem_append_left _ (List.mem_of_getElem? (i := 0) rfl))))) (fun _ h9 => h9) rfl dX12_nameOf_3 ?_
        refine lv_iload_n hx hb dX12_nameOf_6 rfl (lv_at hl 2 rfl) ?_
        by_cases q1 : ¬ (((L 2)) < 0 ∨ 70000 ≤ ((L 2)).toNatClampNeg)
        · rw [if_pos q1] at h
          refine va_iald hx hb hK hP 4 1 rfl rfl (nb_inp q1) dX12_nameOf_7 ?_
          refine lv_bipush (v := 7) hx hb dX12_nameOf_8 (by decide) ?_
          refine lv_icmp_eq (tgt := 23) hx hb dX12_nameOf_10 (by decide) (fun c2 => ?_) (fun c2 => ?_)
          · rw [if_pos c2] at h
            exact ih.2.2 L σ r h H locs ls hP hD hS (lv_sub hl [0, 1, 2] rfl)
          · rw [if_neg c2] at h
            refine lv_aload_n hx hb dX12_nameOf_13 rfl (lv_at hl 0 rfl) ?_
            refine va_get (D := (dC, dI)) (ci := 11) (v := .ref (a 6)) (C := RX12) (T := TX12) (N := 121) hx hb hts in_x_nameOf hown hK hP 0 rfl rfl 16 (by decide) (hts _ (List.mem_cons_of_mem _ (List.mem_append_left _ (List.mem_append_left _ (List.mem_of_getElem? (i := 1) rfl))))) (fun _ h9 => h9) rfl dX12_nameOf_14 ?_
            refine lv_iload_n hx hb dX12_nameOf_17 rfl (lv_at hl 2 rfl) ?_
            by_cases q3 : ¬ (((L 2)) < 0 ∨ 70000 ≤ ((L 2)).toNatClampNeg)
            · rw [if_pos q3] at h
              refine va_iald hx hb hK hP 6 1 rfl rfl (nb_inp q3) dX12_nameOf_18 ?_
              refine lv_istore_n (lv' := [(2, .int (σ.2.2 6 ((L 2)).toNatClampNeg)), (0, .ref (a 0)), (1, .int (L 1))]) hx hb dX12_nameOf_19 rfl hl (by decide) rfl (fun ls hl => ?_)
              refine lv_goto (tgt := 2) hx hb dX12_nameOf_20 (by decide) ?_
              exact ih.2.1 (upd L 2 ((σ.2.2 6 ((L 2)).toNatClampNeg))) σ r h H locs ls hP hD hS (lv_sub hl [1, 2, 0] rfl)
            · rw [if_neg q3] at h; cases h
        · rw [if_neg q1] at h; cases h
      · intro L σ r h H locs ls hP hD hS hl
        rw [x_nameOf] at h
        refine lv_iload_n hx hb dX12_nameOf_23 rfl (lv_at hl 2 rfl) ?_
        cases h
        exact W.iret (v := (L 2)) hx hb hr (fun t ht hW => ⟨⟨(L 2), (), rfl, rfl, by rw [ht]; exact hP, va_K.moved hW.alike hK, hD⟩, hS.F ht⟩) hS.2.2 dX12_nameOf_24
  exact (blk k0).1 L0 σ0 r0 h0 s.heap [] ls hP hD hS hl
/-! keysOf -/
def x_keysOf : Nat → Nat → (Nat → Int32) → MS → Option (Int32 × MS)
  | 0, _, _, _ => none
  | k + 1, 0, L, σ => if ((L 0)) = 7 then (x_keysOf k 3 (upd L 100 0) σ) else (x_keysOf k 1 L σ)
  | k + 1, 1, L, σ => if ((L 0)) = 22 then (x_keysOf k 3 (upd L 100 2) σ) else (x_keysOf k 2 L σ)
  | k + 1, 2, L, σ => x_keysOf k 3 (upd L 100 1) σ
  | k + 1, 3, L, σ => some ((L 100), σ)
  | _ + 1, _ + 4, _, _ => none
def o_x_keysOf : List Cond := []
theorem o_x_keysOf_good : o_x_keysOf.all goodWord = true := by decide +kernel
def p_x_keysOf : List Cond := o_x_keysOf ++ []
theorem p_x_keysOf_good : p_x_keysOf.all goodWord = true := nb_all2 o_x_keysOf_good rfl
def w_x_keysOf : List Cond := .code yX12_keysOf cX12_keysOf 1 (some .int) :: (p_x_keysOf ++ fM)
theorem w_x_keysOf_good : w_x_keysOf.all goodWord = true := nb_allc (by decide +kernel) (nb_all2 p_x_keysOf_good fM_good)
theorem in_x_keysOf : ∀ w ∈ wsX120, w ∈ w_x_keysOf := fun _ h => List.mem_cons_of_mem _ (List.mem_append_right _ h)
set_option maxHeartbeats 40000000 in
set_option maxRecDepth 100000 in
theorem c_x_keysOf (l : Launch) (dC : Nat → ClassId) (dI : Nat → Nat → Nat) (cy : Nat → ClassId) (a : Nat → Nat) (k0 : Nat) (L0 : Nat → Int32) (σ0 : MS) (r0 : Int32 × MS) (h0 : x_keysOf k0 0 L0 σ0 = some r0) (sz : Nat) : Met l yX12_keysOf w_x_keysOf ({ frames := 0, cells := 0, slots := 0, locals := 0 }) (va_Pc [.int (L0 0)] (nIn (dC, dI) cy sz (vM cy a σ0))) (va_Qi (fun (z : Int32) (_ : Unit) => z = r0.1) (fun _ t => nOut (dC, dI) cy (va_A (vM cy a σ0) sz) (vM cy a r0.2) t) (va_A (vM cy a σ0) sz)) 0 0 (va_A (vM cy a σ0) sz) := by
  refine Met.ofW (cc := cX12_keysOf) (maxL := 1) (ret := (some .int)) (by decide) rfl ?_
  intro p e s m args below meth c s₁ B hml hv
  obtain ⟨rfl, hsz, hP, hK, hD0, hG⟩ := hv
  have hx := B.exec
  have hb := B.bytes
  have hr := B.returns
  have hts := atoms_spec (ws := w_x_keysOf) B.pre
  have hown : s.vm.findClass RX12 = some m.cls := findClass_of_methodNamed B.named
  have hlocks := B.notSynchronized
  subst hsz
  have hD := hD0.self (sz := s.heap.size)
  generalize hAe : va_A (vM cy a σ0) s.heap.size = A at hD ⊢
  have hA : ∀ q : Nat, s.heap.size ≤ q → A q := fun q h => by rw [← hAe]; exact Or.inr h
  have hS : va_S A s.heap s.heap [] := va_S.rf
  have hl := lv_entry ([.int (L0 0)]) (n := 1) (Nat.le_of_ble_eq_true rfl)
  rw [lg_entry_eq]
  generalize (lg_sl ([.int (L0 0)]) ++ List.replicate (1 - (lg_sl ([.int (L0 0)])).length) Slot.unset).toArray = ls at hl ⊢
  have hl : lv_has ls 1 [(0, .int (L0 0))] := hl
  have blk : ∀ k : Nat, (∀ (L : Nat → Int32) (σ : MS) (r : Int32 × MS), x_keysOf k 0 L σ = some r → ∀ (H : Heap) (locs : List Loc) (ls : Array Slot), va_P (dC, dI) nCl (vM cy a σ) H → va_D A (vM cy a σ) → va_S A s.heap H locs → lv_has ls 1 [(0, .int (L 0))] → W p l e (headSpec w_x_keysOf ({ frames := 0, cells := 0, slots := 0, locals := 0 })).room s m #[.int (L0 0)] below meth c H locs 0 0 (MQ below (va_Qi (fun (z : Int32) (_ : Unit) => z = r.1) (fun _ t => nOut (dC, dI) cy A (vM cy a r.2) t) A) #[.int (L0 0)] s 0 0 A) (F0 m 0 ls [])) ∧ (∀ (L : Nat → Int32) (σ : MS) (r : Int32 × MS), x_keysOf k 1 L σ = some r → ∀ (H : Heap) (locs : List Loc) (ls : Array Slot), va_P (dC, dI) nCl (vM cy a σ) H → va_D A (vM cy a σ) → va_S A s.heap H locs → lv_has ls 1 [(0, .int (L 0))] → W p l e (headSpec w_x_keysOf ({ frames := 0, cells := 0, slots := 0, locals := 0 })).room s m #[.int (L0 0)] below meth c H locs 0 0 (MQ below (va_Qi (fun (z : Int32) (_ : Unit) => z = r.1) (fun _ t => nOut (dC, dI) cy A (vM cy a r.2) t) A) #[.int (L0 0)] s 0 0 A) (F0 m 10 ls [])) ∧ (∀ (L : Nat → Int32) (σ : MS) (r : Int32 × MS), x_keysOf k 2 L σ = some r → ∀ (H : Heap) (locs : List Loc) (ls : Array Slot), va_P (dC, dI) nCl (vM cy a σ) H → va_D A (vM cy a σ) → va_S A s.heap H locs → lv_has ls 1 [(0, .int (L 0))] → W p l e (headSpec w_x_keysOf ({ frames := 0, cells := 0, slots := 0, locals := 0 })).room s m #[.int (L0 0)] below meth c H locs 0 0 (MQ below (va_Qi (fun (z : Int32) (_ : Unit) => z = r.1) (fun _ t => nOut (dC, dI) cy A (vM cy a r.2) t) A) #[.int (L0 0)] s 0 0 A) (F0 m 20 ls [])) ∧ (∀ (L : Nat → Int32) (σ : MS) (r : Int32 × MS), x_keysOf k 3 L σ = some r → ∀ (H : Heap) (locs : List Loc) (ls : Array Slot), va_P (dC, dI) nCl (vM cy a σ) H → va_D A (vM cy a σ) → va_S A s.heap H locs → lv_has ls 1 [(0, .int (L 0))] → W p l e (headSpec w_x_keysOf ({ frames := 0, cells := 0, slots := 0, locals := 0 })).room s m #[.int (L0 0)] below meth c H locs 0 0 (MQ below (va_Qi (fun (z : Int32) (_ : Unit) => z = r.1) (fun _ t => nOut (dC, dI) cy A (vM cy a r.2) t) A) #[.int (L0 0)] s 0 0 A) (F0 m 21 ls [.int (L 100)])) := by
    intro k
    induction k with
    | zero => exact ⟨fun L σ r h => (by cases h), fun L σ r h => (by cases h), fun L σ r h => (by cases h), fun L σ r h => (by cases h)⟩
    | succ k ih =>
      refine ⟨?_, ?_, ?_, ?_⟩
      · intro L σ r h H locs ls hP hD hS hl
        rw [x_keysOf] at h
        refine lv_iload_n hx hb dX12_keysOf_0 rfl (lv_at hl 0 rfl) ?_
        refine lv_bipush (v := 7) hx hb dX12_keysOf_1 (by decide) ?_
        refine lv_icmp_ne (tgt := 10) hx hb dX12_keysOf_3 (by decide) (fun c1 => ?_) (fun c1 => ?_)
        · rw [if_neg c1] at h
          exact ih.2.1 L σ r h H locs ls hP hD hS (lv_sub hl [0] rfl)
        · rw [if_pos c1] at h
          refine lv_iconst (v := 0) hx hb dX12_keysOf_6 (by decide) ?_
          refine lv_goto (tgt := 21) hx hb dX12_keysOf_7 (by decide) ?_
          exact ih.2.2.2 (upd L 100 0) σ r h H locs ls hP hD hS (lv_sub hl [0] rfl)
      · intro L σ r h H locs ls hP hD hS hl
        rw [x_keysOf] at h
        refine lv_iload_n hx hb dX12_keysOf_10 rfl (lv_at hl 0 rfl) ?_
        refine lv_bipush (v := 22) hx hb dX12_keysOf_11 (by decide) ?_
        refine lv_icmp_ne (tgt := 20) hx hb dX12_keysOf_13 (by decide) (fun c1 => ?_) (fun c1 => ?_)
        · rw [if_neg c1] at h
          exact ih.2.2.1 L σ r h H locs ls hP hD hS (lv_sub hl [0] rfl)
        · rw [if_pos c1] at h
          refine lv_iconst (v := 2) hx hb dX12_keysOf_16 (by decide) ?_
          refine lv_goto (tgt := 21) hx hb dX12_keysOf_17 (by decide) ?_
          exact ih.2.2.2 (upd L 100 2) σ r h H locs ls hP hD hS (lv_sub hl [0] rfl)
      · intro L σ r h H locs ls hP hD hS hl
        rw [x_keysOf] at h
        refine lv_iconst (v := 1) hx hb dX12_keysOf_20 (by decide) ?_
        exact ih.2.2.2 (upd L 100 1) σ r h H locs ls hP hD hS (lv_sub hl [0] rfl)
      · intro L σ r h H locs ls hP hD hS hl
        rw [x_keysOf] at h
        cases h
        exact W.iret (v := (L 100)) hx hb hr (fun t ht hW => ⟨⟨(L 100), (), rfl, rfl, by rw [ht]; exact hP, va_K.moved hW.alike hK, hD⟩, hS.F ht⟩) hS.2.2 dX12_keysOf_21
  exact (blk k0).1 L0 σ0 r0 h0 s.heap [] ls hP hD hS hl
/-! keysIn -/
def x_keysIn : Nat → Nat → (Nat → Int32) → MS → Option (Int32 × MS)
  | 0, _, _, _ => none
  | k + 1, 0, L, σ => x_keysIn k 1 (upd (upd L 2 0) 3 ((L 1))) σ
  | k + 1, 1, L, σ => if ¬ (((L 3)) < 0 ∨ 70000 ≤ ((L 3)).toNatClampNeg) then (if ((σ.2.2 4 ((L 3)).toNatClampNeg)) = 7 then (x_keysIn k 2 L σ) else (if ¬ (((L 3)) < 0 ∨ 70000 ≤ ((L 3)).toNatClampNeg) then (ob (x_keysOf k 0 (upd (fun _ => 0) 0 ((σ.2.2 4 ((L 3)).toNatClampNeg))) σ) (fun r4 => if ¬ (((L 3)) < 0 ∨ 70000 ≤ ((L 3)).toNatClampNeg) then (x_keysIn k 1 (upd (upd L 2 ((((L 2)) + r4.1))) 3 ((r4.2.2.2 6 ((L 3)).toNatClampNeg))) r4.2) else none)) else none)) else none
  | k + 1, 2, L, σ => some ((L 2), σ)
  | _ + 1, _ + 3, _, _ => none
def o_x_keysIn : List Cond := [.fieldLink RX12 83 "SetHouseModel" "op" "[I", .methodLink RX12 821 yX12_keysOf, .static yX12_keysOf, .initialized RX12, .fieldLink RX12 89 "SetHouseModel" "x2" "[I"]
theorem o_x_keysIn_good : o_x_keysIn.all goodWord = true := by decide +kernel
def p_x_keysIn : List Cond := o_x_keysIn ++ ((.code yX12_keysOf cX12_keysOf 1 (some .int) :: p_x_keysOf) ++ [])
theorem p_x_keysIn_good : p_x_keysIn.all goodWord = true := nb_all2 o_x_keysIn_good (nb_all2 (nb_allc (by decide +kernel) p_x_keysOf_good) rfl)
def w_x_keysIn : List Cond := .code yX12_keysIn cX12_keysIn 4 (some .int) :: (p_x_keysIn ++ fM)
theorem w_x_keysIn_good : w_x_keysIn.all goodWord = true := nb_allc (by decide +kernel) (nb_all2 p_x_keysIn_good fM_good)
theorem in_x_keysIn : ∀ w ∈ wsX120, w ∈ w_x_keysIn := fun _ h => List.mem_cons_of_mem _ (List.mem_append_right _ h)
theorem gg_x_keysIn_keysOf : GoodIn w_x_keysIn w_x_keysOf := goodIn_sub (fun w h => (List.mem_cons.mp h).elim (fun e => (List.mem_cons_of_mem _ (List.mem_append_left _ (List.mem_append_right _ (List.mem_append_left _ (List.mem_cons.mpr (Or.inl e))))))) (fun h => (List.mem_append.mp h).elim (fun h => (List.mem_cons_of_mem _ (List.mem_append_left _ (List.mem_append_right _ (List.mem_append_left _ (List.mem_cons_of_mem _ h)))))) (fun h => List.mem_cons_of_mem _ (List.mem_append_right _ h)))) w_x_keysOf_good
theorem g_x_keysIn_keysOf_821 : GoodIn w_x_keysIn (va_wsS RX12 821 yX12_keysOf w_x_keysOf) := goodIn_app (nb_g3 (List.mem_cons_of_mem _ (List.mem_append_left _ (List.mem_append_left _ (List.mem_of_getElem? (i := 1) rfl)))) (List.mem_cons_of_mem _ (List.mem_append_left _ (List.mem_append_left _ (List.mem_of_getElem? (i := 2) rfl)))) (List.mem_cons_of_mem _ (List.mem_append_left _ (List.mem_append_left _ (List.mem_of_getElem? (i := 3) rfl)))) (by decide +kernel)) gg_x_keysIn_keysOf
set_option maxHeartbeats 40000000 in
set_option maxRecDepth 100000 in
theorem c_x_keysIn (l : Launch) (dC : Nat → ClassId) (dI : Nat → Nat → Nat) (cy : Nat → ClassId) (a : Nat → Nat) (k0 : Nat) (L0 : Nat → Int32) (σ0 : MS) (r0 : Int32 × MS) (h0 : x_keysIn k0 0 L0 σ0 = some r0) (sz : Nat) : Met l yX12_keysIn w_x_keysIn ({ frames := 1, cells := 0, slots := 0, locals := 20 }) (va_Pc [.ref (a 0), .int (L0 1)] (nIn (dC, dI) cy sz (vM cy a σ0))) (va_Qi (fun (z : Int32) (_ : Unit) => z = r0.1) (fun _ t => nOut (dC, dI) cy (va_A (vM cy a σ0) sz) (vM cy a r0.2) t) (va_A (vM cy a σ0) sz)) 0 0 (va_A (vM cy a σ0) sz) := by
  refine Met.ofW (cc := cX12_keysIn) (maxL := 4) (ret := (some .int)) (by decide) rfl ?_
  intro p e s m args below meth c s₁ B hml hv
  obtain ⟨rfl, hsz, hP, hK, hD0, hG⟩ := hv
  have hx := B.exec
  have hb := B.bytes
  have hr := B.returns
  have hts := atoms_spec (ws := w_x_keysIn) B.pre
  have hown : s.vm.findClass RX12 = some m.cls := findClass_of_methodNamed B.named
  have hlocks := B.notSynchronized
  subst hsz
  have hD := hD0.self (sz := s.heap.size)
  generalize hAe : va_A (vM cy a σ0) s.heap.size = A at hD ⊢
  have hA : ∀ q : Nat, s.heap.size ≤ q → A q := fun q h => by rw [← hAe]; exact Or.inr h
  have hS : va_S A s.heap s.heap [] := va_S.rf
  have hl := lv_entry ([.ref (a 0), .int (L0 1)]) (n := 4) (Nat.le_of_ble_eq_true rfl)
  rw [lg_entry_eq]
  generalize (lg_sl ([.ref (a 0), .int (L0 1)]) ++ List.replicate (4 - (lg_sl ([.ref (a 0), .int (L0 1)])).length) Slot.unset).toArray = ls at hl ⊢
  have hl : lv_has ls 4 [(0, .ref (a 0)), (1, .int (L0 1))] := hl
  have blk : ∀ k : Nat, (∀ (L : Nat → Int32) (σ : MS) (r : Int32 × MS), x_keysIn k 0 L σ = some r → ∀ (H : Heap) (locs : List Loc) (ls : Array Slot), va_P (dC, dI) nCl (vM cy a σ) H → va_D A (vM cy a σ) → va_S A s.heap H locs → lv_has ls 4 [(0, .ref (a 0)), (1, .int (L 1))] → W p l e (headSpec w_x_keysIn ({ frames := 1, cells := 0, slots := 0, locals := 20 })).room s m #[.ref (a 0), .int (L0 1)] below meth c H locs 0 0 (MQ below (va_Qi (fun (z : Int32) (_ : Unit) => z = r.1) (fun _ t => nOut (dC, dI) cy A (vM cy a r.2) t) A) #[.ref (a 0), .int (L0 1)] s 0 0 A) (F0 m 0 ls [])) ∧ (∀ (L : Nat → Int32) (σ : MS) (r : Int32 × MS), x_keysIn k 1 L σ = some r → ∀ (H : Heap) (locs : List Loc) (ls : Array Slot), va_P (dC, dI) nCl (vM cy a σ) H → va_D A (vM cy a σ) → va_S A s.heap H locs → lv_has ls 4 [(0, .ref (a 0)), (1, .int (L 1)), (2, .int (L 2)), (3, .int (L 3))] → W p l e (headSpec w_x_keysIn ({ frames := 1, cells := 0, slots := 0, locals := 20 })).room s m #[.ref (a 0), .int (L0 1)] below meth c H locs 0 0 (MQ below (va_Qi (fun (z : Int32) (_ : Unit) => z = r.1) (fun _ t => nOut (dC, dI) cy A (vM cy a r.2) t) A) #[.ref (a 0), .int (L0 1)] s 0 0 A) (F0 m 4 ls [])) ∧ (∀ (L : Nat → Int32) (σ : MS) (r : Int32 × MS), x_keysIn k 2 L σ = some r → ∀ (H : Heap) (locs : List Loc) (ls : Array Slot), va_P (dC, dI) nCl (vM cy a σ) H → va_D A (vM cy a σ) → va_S A s.heap H locs → lv_has ls 4 [(0, .ref (a 0)), (1, .int (L 1)), (2, .int (L 2)), (3, .int (L 3))] → W p l e (headSpec w_x_keysIn ({ frames := 1, cells := 0, slots := 0, locals := 20 })).room s m #[.ref (a 0), .int (L0 1)] below meth c H locs 0 0 (MQ below (va_Qi (fun (z : Int32) (_ : Unit) => z = r.1) (fun _ t => nOut (dC, dI) cy A (vM cy a r.2) t) A) #[.ref (a 0), .int (L0 1)] s 0 0 A) (F0 m 37 ls [])) := by
    intro k
    induction k with
    | zero => exact ⟨fun L σ r h => (by cases h), fun L σ r h => (by cases h), fun L σ r h => (by cases h)⟩
    | succ k ih =>
      refine ⟨?_, ?_, ?_⟩
      · intro L σ r h H locs ls hP hD hS hl
        rw [x_keysIn] at h
        refine lv_iconst (v := 0) hx hb dX12_keysIn_0 (by decide) ?_
        refine lv_istore_n (lv' := [(2, .int 0), (0, .ref (a 0)), (1, .int (L 1))]) hx hb dX12_keysIn_1 rfl hl (by decide) rfl (fun ls hl => ?_)
        refine lv_iload_n hx hb dX12_keysIn_2 rfl (lv_at hl 2 rfl) ?_
        refine lv_istore_n (lv' := [(3, .int (L 1)), (2, .int 0), (0, .ref (a 0)), (1, .int (L 1))]) hx hb dX12_keysIn_3 rfl hl (by decide) rfl (fun ls hl => ?_)
        exact ih.2.1 (upd (upd L 2 0) 3 ((L 1))) σ r h H locs ls hP hD hS (lv_sub hl [2, 3, 1, 0] rfl)
      · intro L σ r h H locs ls hP hD hS hl
        rw [x_keysIn] at h
        refine lv_aload_n hx hb dX12_keysIn_4 rfl (lv_at hl 0 rfl) ?_
        refine va_get (D := (dC, dI)) (ci := 11) (v := .ref (a 4)) (C := RX12) (T := TX12) (N := 121) hx hb hts in_x_keysIn hown hK hP 0 rfl rfl 14 (by decide) (hts _ (List.mem_cons_of_mem _ (List.mem_append_left _ (List.mem_append_left _ (List.mem_of_getElem? (i := 0) rfl))))) (fun _ h9 => h9) rfl dX12_keysIn_5 ?_
        refine lv_iload_n hx hb dX12_keysIn_8 rfl (lv_at hl 3 rfl) ?_
        by_cases q1 : ¬ (((L 3)) < 0 ∨ 70000 ≤ ((L 3)).toNatClampNeg)
        · rw [if_pos q1] at h
          refine va_iald hx hb hK hP 4 1 rfl rfl (nb_inp q1) dX12_keysIn_9 ?_
          refine lv_bipush (v := 7) hx hb dX12_keysIn_10 (by decide) ?_
          refine lv_icmp_eq (tgt := 37) hx hb dX12_keysIn_12 (by decide) (fun c2 => ?_) (fun c2 => ?_)
          · rw [if_pos c2] at h
            exact ih.2.2 L σ r h H locs ls hP hD hS (lv_sub hl [0, 1, 2, 3] rfl)
          · rw [if_neg c2] at h
            refine lv_iload_n hx hb dX12_keysIn_15 rfl (lv_at hl 2 rfl) ?_
            refine lv_aload_n hx hb dX12_keysIn_16 rfl (lv_at hl 0 rfl) ?_
            refine va_get (D := (dC, dI)) (ci := 11) (v := .ref (a 4)) (C := RX12) (T := TX12) (N := 121) hx hb hts in_x_keysIn hown hK hP 0 rfl rfl 14 (by decide) (hts _ (List.mem_cons_of_mem _ (List.mem_append_left _ (List.mem_append_left _ (List.mem_of_getElem? (i := 0) rfl))))) (fun _ h9 => h9) rfl dX12_keysIn_17 ?_
            refine lv_iload_n hx hb dX12_keysIn_20 rfl (lv_at hl 3 rfl) ?_
            by_cases q3 : ¬ (((L 3)) < 0 ∨ 70000 ≤ ((L 3)).toNatClampNeg)
            · rw [if_pos q3] at h
              refine va_iald hx hb hK hP 4 1 rfl rfl (nb_inp q3) dX12_keysIn_21 ?_
              cases hc4 : x_keysOf k 0 (upd (fun _ => 0) 0 ((σ.2.2 4 ((L 3)).toNatClampNeg))) σ with
              | none => rw [hc4, ob_none] at h; cases h
              | some r4 =>
                rw [hc4, ob_some] at h
                have hFc := va_free (wc := vM cy a σ) hD hS hA [0, 1, 2, 3, 4, 5, 6, 7, 8, 9, 10, 11, 12, 13, 14, 15, 16, 17, 18, 19, 20, 21, 22, 23, 24, 25, 26, 27, 28, 29, 30, 31, 32, 33, 34, 35, 36, 37, 38, 39, 40, 41, 42, 43, 44, 45, 46, 47, 48, 49, 50, 51, 52, 53, 54, 55, 56, 57] rfl
                refine va_calli (va_runS (As := [.int (σ.2.2 4 ((L 3)).toNatClampNeg)]) (rest := [.int (L 2)]) ⟨hx, hb, hml, hown, hts⟩ (c_x_keysOf l dC dI cy a k (upd (fun _ => 0) 0 ((σ.2.2 4 ((L 3)).toNatClampNeg))) σ r4 hc4 H.size) (va_cwS 1 hts g_x_keysIn_keysOf_821 rfl rfl rfl (by decide +kernel) ⟨Nat.le_of_ble_eq_true rfl, Nat.le_of_ble_eq_true rfl⟩) ⟨nb_blind, fun U hU hW => ⟨rfl, by rw [hU], by rw [hU]; exact hP, va_K.moved hW.alike hK, hD.weaken (fun _ _ _ _ => trivial), hG.warm hW⟩⟩ rfl rfl hl.1 rfl (lv_room (Nat.le_of_ble_eq_true rfl)) dX12_keysIn_22 ⟨Nat.le_of_ble_eq_true rfl, Nat.le_of_ble_eq_true rfl⟩) hS (fun q _ h => hFc q h) hFc (fun z9 _ t H1 locs ht hvm hw hB hz1 hk1 hS => ?_)
                subst hw
                obtain ⟨hP1, hK1, hD1⟩ := hB
                rw [ht] at hP1
                obtain ⟨hP, hD⟩ := va_join (wr := []) (w1 := vM cy a r4.2) hP hD [0, 1, 2, 3, 4, 5, 6, 7, 8, 9, 10, 11, 12, 13, 14, 15, 16, 17, 18, 19, 20, 21, 22, 23, 24, 25, 26, 27, 28, 29, 30, 31, 32, 33, 34, 35, 36, 37, 38, 39, 40, 41, 42, 43, 44, 45, 46, 47, 48, 49, 50, 51, 52, 53, 54, 55, 56, 57] [] rfl rfl (by decide) (by decide) hk1 hFc hP1 hD1
                generalize H1 = H at hP hS ⊢
                have hP : va_P (dC, dI) nCl (vM cy a r4.2) H := hP
                have hD : va_D A (vM cy a r4.2) := hD
                refine lv_iadd hx hb dX12_keysIn_25 ?_
                refine lv_istore_n (lv' := [(2, .int (((L 2)) + r4.1)), (0, .ref (a 0)), (1, .int (L 1)), (3, .int (L 3))]) hx hb dX12_keysIn_26 rfl hl (by decide) rfl (fun ls hl => ?_)
                refine lv_aload_n hx hb dX12_keysIn_27 rfl (lv_at hl 1 rfl) ?_
                refine va_get (D := (dC, dI)) (ci := 11) (v := .ref (a 6)) (C := RX12) (T := TX12) (N := 121) hx hb hts in_x_keysIn hown hK hP 0 rfl rfl 16 (by decide) (hts _ (List.mem_cons_of_mem _ (List.mem_append_left _ (List.mem_append_left _ (List.mem_of_getElem? (i := 4) rfl))))) (fun _ h9 => h9) rfl dX12_keysIn_28 ?_
                refine lv_iload_n hx hb dX12_keysIn_31 rfl (lv_at hl 3 rfl) ?_
                by_cases q5 : ¬ (((L 3)) < 0 ∨ 70000 ≤ ((L 3)).toNatClampNeg)
                · rw [if_pos q5] at h
                  refine va_iald hx hb hK hP 6 1 rfl rfl (nb_inp q5) dX12_keysIn_32 ?_
                  refine lv_istore_n (lv' := [(3, .int (r4.2.2.2 6 ((L 3)).toNatClampNeg)), (2, .int (((L 2)) + r4.1)), (0, .ref (a 0)), (1, .int (L 1))]) hx hb dX12_keysIn_33 rfl hl (by decide) rfl (fun ls hl => ?_)
                  refine lv_goto (tgt := 4) hx hb dX12_keysIn_34 (by decide) ?_
                  exact ih.2.1 (upd (upd L 2 ((((L 2)) + r4.1))) 3 ((r4.2.2.2 6 ((L 3)).toNatClampNeg))) r4.2 r h H locs ls hP hD hS (lv_sub hl [2, 3, 1, 0] rfl)
                · rw [if_neg q5] at h; cases h
            · rw [if_neg q3] at h; cases h
        · rw [if_neg q1] at h; cases h
      · intro L σ r h H locs ls hP hD hS hl
        rw [x_keysIn] at h
        refine lv_iload_n hx hb dX12_keysIn_37 rfl (lv_at hl 2 rfl) ?_
        cases h
        exact W.iret (v := (L 2)) hx hb hr (fun t ht hW => ⟨⟨(L 2), (), rfl, rfl, by rw [ht]; exact hP, va_K.moved hW.alike hK, hD⟩, hS.F ht⟩) hS.2.2 dX12_keysIn_38
  exact (blk k0).1 L0 σ0 r0 h0 s.heap [] ls hP hD hS hl

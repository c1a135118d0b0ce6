theorem gg_f_X5_exps_X2_advance : GoodIn w_f_X5_exps w_f_X2_advance := goodIn_sub (fun w h => (List.mem_cons.mp h).elim (fun e => (List.mem_cons_of_mem _ (List.mem_append_left _ (List.mem_append_right _ (List.mem_append_right _ (List.mem_append_right _ (List.mem_append_right _ (List.mem_append_right _ (List.mem_append_left _ (List.mem_cons.mpr (Or.inl e))))))))))) (fun h => (List.mem_append.mp h).elim (fun h => (List.mem_cons_of_mem _ (List.mem_append_left _ (List.mem_append_right _ (List.mem_append_right _ (List.mem_append_right _ (List.mem_append_right _ (List.mem_append_right _ (List.mem_append_left _ (List.mem_cons_of_mem _ h)))))))))) (fun h => List.mem_cons_of_mem _ (List.mem_append_right _ h)))) w_f_X2_advance_good
theorem g_f_X5_exps_X2_advance_V30 : GoodIn w_f_X5_exps (wsV RX5 30 RX2 yX2_advance w_f_X2_advance) := goodIn_app (nb_g4 (List.mem_cons_of_mem _ (List.mem_append_left _ (List.mem_append_left _ (List.mem_of_getElem? (i := 34) rfl)))) (List.mem_cons_of_mem _ (List.mem_append_left _ (List.mem_append_left _ (List.mem_of_getElem? (i := 35) rfl)))) (List.mem_cons_of_mem _ (List.mem_append_left _ (List.mem_append_left _ (List.mem_of_getElem? (i := 36) rfl)))) (List.mem_cons_of_mem _ (List.mem_append_left _ (List.mem_append_left _ (List.mem_of_getElem? (i := 37) rfl)))) (by decide +kernel)) gg_f_X5_exps_X2_advance
theorem gg_f_X5_exps_X5_exp : GoodIn w_f_X5_exps w_f_X5_exp := goodIn_sub (fun w h => (List.mem_cons.mp h).elim (fun e => e ▸ (List.mem_cons_of_mem _ (List.mem_append_left _ (List.mem_append_left _ (List.mem_of_getElem? (i := 1) rfl))))) (fun h => List.mem_cons_of_mem _ h)) w_f_X5_exp_good
theorem g_f_X5_exps_X5_exp_V90 : GoodIn w_f_X5_exps (wsV RX5 90 RX5 yX5_exp w_f_X5_exp) := goodIn_app (nb_g4 (List.mem_cons_of_mem _ (List.mem_append_left _ (List.mem_append_left _ (List.mem_of_getElem? (i := 18) rfl)))) (List.mem_cons_of_mem _ (List.mem_append_left _ (List.mem_append_left _ (List.mem_of_getElem? (i := 19) rfl)))) (List.mem_cons_of_mem _ (List.mem_append_left _ (List.mem_append_left _ (List.mem_of_getElem? (i := 20) rfl)))) (List.mem_cons_of_mem _ (List.mem_append_left _ (List.mem_append_left _ (List.mem_of_getElem? (i := 17) rfl)))) (by decide +kernel)) gg_f_X5_exps_X5_exp
set_option maxHeartbeats 40000000 in
set_option maxRecDepth 100000 in
theorem c_t_X5_exps (l : Launch) (hl0 : l.stackTraces = false) (dC : Nat → ClassId) (dI : Nat → Nat → Nat) (cy : Nat → ClassId) (ek a : Nat → Nat) (k0 : Nat) (IH : ∀ j : Nat, j < k0 → P_F2 l dC dI cy ek a j) (d : Nat) (L0 : LV) (σ0 : CS) (r0 : RS) (h0 : f_F2 k0 d 2 0 L0 σ0 = some r0) (z : Nat → Nat) (sz : Nat) : vx_Met l yX5_exps w_f_X5_exps ({ frames := 9 + d, cells := r0.2.2.1, slots := r0.2.2.2, locals := 173 + 33 * d }) (va_Pc [.ref (a 40)] (nInF (dC, dI) cy ek sz (vC cy a z σ0))) (xI dC dI cy a (va_A (vC cy a z σ0) sz) [41, 43, 51] z r0) (xX dC dI cy a (va_A (vC cy a z σ0) sz) [41, 43, 51] z r0) r0.2.2.1 r0.2.2.2 (va_A (vC cy a z σ0) sz) := by
  refine vx_ofW (cc := cX5_exps) (maxL := 3) (ret := (some .int)) (by decide) rfl ?_
  intro p e s m args below meth c s₁ B hml hno hv
  obtain ⟨rfl, ⟨⟨hsz, hP, hK, hD0, hG⟩, hE⟩, hT⟩ := hv
  have hx := B.exec
  have hb := B.bytes
  have hr := B.returns
  have hts := atoms_spec (ws := w_f_X5_exps) B.pre
  have hown : s.vm.findClass RX5 = some m.cls := findClass_of_methodNamed B.named
  have hlocks := B.notSynchronized
  subst hsz
  have hD := hD0.self (sz := s.heap.size)
  generalize hAe : va_A (vC cy a z σ0) s.heap.size = A at hD hE hT ⊢
  have hA : ∀ q : Nat, s.heap.size ≤ q → A q := fun q h => by rw [← hAe]; exact Or.inr h
  have hS : va_S A s.heap s.heap [] := va_S.rf
  have hl := lv_entry ([.ref (a 40)]) (n := 3) (Nat.le_of_ble_eq_true rfl)
  rw [lg_entry_eq]
  generalize (lg_sl ([.ref (a 40)]) ++ List.replicate (3 - (lg_sl ([.ref (a 40)])).length) Slot.unset).toArray = ls at hl ⊢
  have hl : lv_has ls 3 [(0, .ref (a 40))] := hl
  generalize hmc : r0.2.2.1 = mc
  generalize hms : r0.2.2.2 = ms
  have blk : ∀ k : Nat, k ≤ k0 → (bX p l e (headSpec w_f_X5_exps ({ frames := 9 + d, cells := mc, slots := ms, locals := 173 + 33 * d })).room s m #[.ref (a 40)] below meth c dC dI cy a A (fun r => vx_MQ below (xI dC dI cy a A [41, 43, 51] z r) (xX dC dI cy a A [41, 43, 51] z r) #[.ref (a 40)] s mc ms A) [41, 43, 51] z mc ms 3 (f_F2 k d 2 0) (fun z L => [(0, .ref (a 40))]) 0 (fun z L => [])) ∧ (bX p l e (headSpec w_f_X5_exps ({ frames := 9 + d, cells := mc, slots := ms, locals := 173 + 33 * d })).room s m #[.ref (a 40)] below meth c dC dI cy a A (fun r => vx_MQ below (xI dC dI cy a A [41, 43, 51] z r) (xX dC dI cy a A [41, 43, 51] z r) #[.ref (a 40)] s mc ms A) [41, 43, 51] z mc ms 3 (f_F2 k d 2 1) (fun z L => [(0, .ref (a 40)), (1, .int (L.1 1)), (2, .int (L.1 2))]) 9 (fun z L => [])) ∧ (bX p l e (headSpec w_f_X5_exps ({ frames := 9 + d, cells := mc, slots := ms, locals := 173 + 33 * d })).room s m #[.ref (a 40)] below meth c dC dI cy a A (fun r => vx_MQ below (xI dC dI cy a A [41, 43, 51] z r) (xX dC dI cy a A [41, 43, 51] z r) #[.ref (a 40)] s mc ms A) [41, 43, 51] z mc ms 3 (f_F2 k d 2 2) (fun z L => [(1, .int (L.1 1))]) 48 (fun z L => [])) := by
    intro k
    induction k with
    | zero => exact fun _ => ⟨fun z c1 c2 L σ r h => (by cases h), fun z c1 c2 L σ r h => (by cases h), fun z c1 c2 L σ r h => (by cases h)⟩
    | succ k ih =>
      intro hk
      replace ih := ih (by omega)
      refine ⟨?_, ?_, ?_⟩
      · intro z cells slots L σ r h hzk hc hs H locs ls hP hD hS hl
        rw [f_F2_2, t_X5_exps_0] at h
        refine lv_aload_n hx hb dX5_exps_0 rfl (lv_at hl 0 rfl) ?_
        refine lv_iconst (v := 0) hx hb dX5_exps_1 (by decide) ?_
        obtain ⟨e1, he1, h⟩ := of_ex h
        obtain ⟨r1, hc1, hle1, h9⟩ := ox_ex h
        clear h
        refine kx_v (vx_runV (As := [.int 0]) (rest := []) ⟨hx, hb, hml, hown, hts⟩ ((IH k (by omega)).2.1 e1 (lI lZ 1 0) σ r1 hc1 z H.size) (cwV 1 hts g_f_X5_exps_X5_exp_V90 rfl rfl rfl hd_f_X5_exp (by show (9 + e1) + 1 ≤ 9 + d ∧ 8 + (8 + 11) + (173 + 33 * e1) ≤ 173 + 33 * d; omega)) ⟨nb_blindF, va_recv hK hP (ci := 4) (q0 := 40) rfl rfl, (kx_pre hK hG hE hT hA hP hD hS)⟩ rfl rfl hl.1 rfl (lv_room (Nat.le_of_ble_eq_true rfl)) dX5_exps_2 ⟨Nat.le_trans (Nat.add_le_add_left hle1.1 _) (Nat.le_of_eq hc), Nat.le_trans (Nat.add_le_add_left hle1.2 _) (Nat.le_of_eq hs)⟩) hK hA hzk hP hD hS (by decide) hno hlocks ?_
        rcases h9 with ⟨h00, y1, hny1, hy⟩ | ⟨h00, hy⟩
        · subst hy
          have h := hny1
          refine Or.inl ⟨h00, fun z H locs hz1 hzk hP hD hS => ?_⟩
          replace hc := (Nat.add_assoc _ _ _).trans hc
          replace hs := (Nat.add_assoc _ _ _).trans hs
          refine lv_iconst (v := 1) hx hb dX5_exps_5 (by decide) ?_
          refine lv_istore_n (lv' := [(1, .int 1), (0, .ref (a 40))]) hx hb dX5_exps_6 rfl hl (by decide) rfl (fun ls hl => ?_)
          refine lv_iconst (v := 0) hx hb dX5_exps_7 (by decide) ?_
          refine lv_istore_n (lv' := [(2, .int 0), (1, .int 1), (0, .ref (a 40))]) hx hb dX5_exps_8 rfl hl (by decide) rfl (fun ls hl => ?_)
          exact ih.2.1 z _ _ (lI (lI L 1 1) 2 0) r1.2.1 _ h hzk hc hs H locs ls hP hD hS (lv_sub hl [2, 1, 0] rfl)
        · subst hy
          exact Or.inr ⟨h00, rfl, hc, hs⟩
      · intro z cells slots L σ r h hzk hc hs H locs ls hP hD hS hl
        rw [f_F2_2, t_X5_exps_1] at h
        refine lv_iload_n hx hb dX5_exps_9 rfl (lv_at hl 2 rfl) ?_
        refine lv_ldc (v := 32768) hx hb hown (hts _ (List.mem_cons_of_mem _ (List.mem_append_left _ (List.mem_append_left _ (List.mem_of_getElem? (i := 32) rfl))))) dX5_exps_10 ?_
        refine lv_icmp_gt (tgt := 48) hx hb dX5_exps_12 (by decide) (fun c1 => ?_) (fun c1 => ?_)
        · rw [if_pos c1] at h
          exact ih.2.2 z _ _ L σ _ h hzk hc hs H locs ls hP hD hS (lv_sub hl [1] rfl)
        · rw [if_neg c1] at h
          refine lv_aload_n hx hb dX5_exps_15 rfl (lv_at hl 0 rfl) ?_
          refine hg_40_0 hx hb hts in_f_X5_exps_X5 hown hK hP (hts _ (List.mem_cons_of_mem _ (List.mem_append_left _ (List.mem_append_left _ (List.mem_of_getElem? (i := 33) rfl))))) dX5_exps_16 ?_
          refine hg_37_2n hx hb hts in_f_X5_exps_X2 hown hK hP (va_Nw.use rfl (hG.1 _ (List.mem_of_getElem? (i := 52) rfl))) dX5_exps_19 ?_
          refine lv_bipush (v := 16) hx hb dX5_exps_22 (by decide) ?_
          refine lv_icmp_ne (tgt := 48) hx hb dX5_exps_24 (by decide) (fun c2 => ?_) (fun c2 => ?_)
          · rw [if_neg c2] at h
            exact ih.2.2 z _ _ L σ _ h hzk hc hs H locs ls hP hD hS (lv_sub hl [1] rfl)
          · rw [if_pos c2] at h
            refine lv_aload_n hx hb dX5_exps_27 rfl (lv_at hl 0 rfl) ?_
            refine hg_40_0 hx hb hts in_f_X5_exps_X5 hown hK hP (hts _ (List.mem_cons_of_mem _ (List.mem_append_left _ (List.mem_append_left _ (List.mem_of_getElem? (i := 33) rfl))))) dX5_exps_28 ?_
            obtain ⟨r3, hc3, hle3, h9⟩ := ox_ex h
            clear h
            refine kx_v (vx_runV (As := []) (rest := []) ⟨hx, hb, hml, hown, hts⟩ (c_f_X2_advance l hl0 dC dI cy ek a k lZ σ r3 hc3 z H.size) (cwV 0 hts g_f_X5_exps_X2_advance_V30 rfl rfl rfl hd_f_X2_advance (by show 6 + 1 ≤ 9 + d ∧ 8 + (7 + 11) + 100 ≤ 173 + 33 * d; omega)) ⟨nb_blindF, va_recv hK hP (ci := 2) (q0 := 37) rfl rfl, (kx_pre hK hG hE hT hA hP hD hS)⟩ rfl rfl hl.1 rfl (lv_room (Nat.le_of_ble_eq_true rfl)) dX5_exps_31 ⟨Nat.le_trans (Nat.add_le_add_left hle3.1 _) (Nat.le_of_eq hc), Nat.le_trans (Nat.add_le_add_left hle3.2 _) (Nat.le_of_eq hs)⟩) hK hA hzk hP hD hS (by decide) hno hlocks ?_
            rcases h9 with ⟨h00, y3, hny3, hy⟩ | ⟨h00, hy⟩
            · subst hy
              have h := hny3
              refine Or.inl ⟨h00, fun u H locs hz3 hzk hP hD hS => ?_⟩
              obtain rfl := (zk_nil hz3).symm
              replace hc := (Nat.add_assoc _ _ _).trans hc
              replace hs := (Nat.add_assoc _ _ _).trans hs
              refine lv_aload_n hx hb dX5_exps_34 rfl (lv_at hl 0 rfl) ?_
              refine lv_iconst (v := 0) hx hb dX5_exps_35 (by decide) ?_
              obtain ⟨e4, he4, h⟩ := of_ex h
              obtain ⟨r4, hc4, hle4, h9⟩ := ox_ex h
              clear h
              refine kx_v (r := y3) (vx_runV (As := [.int 0]) (rest := []) ⟨hx, hb, hml, hown, hts⟩ ((IH k (by omega)).2.1 e4 (lI lZ 1 0) r3.2.1 r4 hc4 z H.size) (cwV 1 hts g_f_X5_exps_X5_exp_V90 rfl rfl rfl hd_f_X5_exp (by show (9 + e4) + 1 ≤ 9 + d ∧ 8 + (8 + 11) + (173 + 33 * e4) ≤ 173 + 33 * d; omega)) ⟨nb_blindF, va_recv hK hP (ci := 4) (q0 := 40) rfl rfl, (kx_pre hK hG hE hT hA hP hD hS)⟩ rfl rfl hl.1 rfl (lv_room (Nat.le_of_ble_eq_true rfl)) dX5_exps_36 ⟨Nat.le_trans (Nat.add_le_add_left hle4.1 _) (Nat.le_of_eq hc), Nat.le_trans (Nat.add_le_add_left hle4.2 _) (Nat.le_of_eq hs)⟩) hK hA hzk hP hD hS (by decide) hno hlocks ?_
              rcases h9 with ⟨h00, y4, hny4, hy⟩ | ⟨h00, hy⟩
              · subst hy
                have h := hny4
                refine Or.inl ⟨h00, fun z H locs hz4 hzk hP hD hS => ?_⟩
                replace hc := (Nat.add_assoc _ _ _).trans hc
                replace hs := (Nat.add_assoc _ _ _).trans hs
                refine lv_iinc (v := ((L.1 1)) + 1) (lv' := [(1, .int (((L.1 1)) + 1)), (0, .ref (a 40)), (2, .int (L.1 2))]) hx hb dX5_exps_39 hl (k := 1) rfl rfl (by decide) rfl (fun ls hl => ?_)
                refine lv_iinc (v := ((L.1 2)) + 1) (lv' := [(2, .int (((L.1 2)) + 1)), (1, .int (((L.1 1)) + 1)), (0, .ref (a 40))]) hx hb dX5_exps_42 hl (k := 2) rfl rfl (by decide) rfl (fun ls hl => ?_)
                refine lv_goto (tgt := 9) hx hb dX5_exps_45 (by decide) ?_
                exact ih.2.1 z _ _ (lI (lI L 1 ((((L.1 1)) + 1))) 2 ((((L.1 2)) + 1))) r4.2.1 _ h hzk hc hs H locs ls hP hD hS (lv_sub hl [2, 1, 0] rfl)
              · subst hy
                exact Or.inr ⟨h00, rfl, hc, hs⟩
            · subst hy
              exact Or.inr ⟨h00, rfl, hc, hs⟩
      · intro z cells slots L σ r h hzk hc hs H locs ls hP hD hS hl
        rw [f_F2_2, t_X5_exps_2] at h
        refine lv_iload_n hx hb dX5_exps_48 rfl (lv_at hl 0 rfl) ?_
        obtain rfl := Option.some.inj h
        subst hc
        subst hs
        exact xr_i hx hb hr hK hzk hP hD hS hlocks dX5_exps_49
  exact (blk k0 (Nat.le_refl _)).1 z 0 0 L0 σ0 r0 h0 (zk_rf _ _) ((Nat.zero_add _).trans hmc) ((Nat.zero_add _).trans hms) s.heap [] ls hP hD hS hl
theorem gg_f_X5_former_X2_advance : GoodIn w_f_X5_former w_f_X2_advance := goodIn_sub (fun w h => (List.mem_cons.mp h).elim (fun e => (List.mem_cons_of_mem _ (List.mem_append_left _ (List.mem_append_right _ (List.mem_append_right _ (List.mem_append_right _ (List.mem_append_right _ (List.mem_append_right _ (List.mem_append_left _ (List.mem_cons.mpr (Or.inl e))))))))))) (fun h => (List.mem_append.mp h).elim (fun h => (List.mem_cons_of_mem _ (List.mem_append_left _ (List.mem_append_right _ (List.mem_append_right _ (List.mem_append_right _ (List.mem_append_right _ (List.mem_append_right _ (List.mem_append_left _ (List.mem_cons_of_mem _ h)))))))))) (fun h => List.mem_cons_of_mem _ (List.mem_append_right _ h)))) w_f_X2_advance_good
theorem g_f_X5_former_X2_advance_V30 : GoodIn w_f_X5_former (wsV RX5 30 RX2 yX2_advance w_f_X2_advance) := goodIn_app (nb_g4 (List.mem_cons_of_mem _ (List.mem_append_left _ (List.mem_append_left _ (List.mem_of_getElem? (i := 34) rfl)))) (List.mem_cons_of_mem _ (List.mem_append_left _ (List.mem_append_left _ (List.mem_of_getElem? (i := 35) rfl)))) (List.mem_cons_of_mem _ (List.mem_append_left _ (List.mem_append_left _ (List.mem_of_getElem? (i := 36) rfl)))) (List.mem_cons_of_mem _ (List.mem_append_left _ (List.mem_append_left _ (List.mem_of_getElem? (i := 37) rfl)))) (by decide +kernel)) gg_f_X5_former_X2_advance
theorem gg_f_X5_former_X5_clear : GoodIn w_f_X5_former w_f_X5_clear := goodIn_sub (fun w h => (List.mem_cons.mp h).elim (fun e => (List.mem_cons_of_mem _ (List.mem_append_left _ (List.mem_append_right _ (List.mem_append_right _ (List.mem_append_right _ (List.mem_append_right _ (List.mem_append_right _ (List.mem_append_right _ (List.mem_append_right _ (List.mem_append_right _ (List.mem_append_right _ (List.mem_append_right _ (List.mem_append_right _ (List.mem_append_right _ (List.mem_append_right _ (List.mem_append_right _ (List.mem_append_left _ (List.mem_cons.mpr (Or.inl e)))))))))))))))))))) (fun h => (List.mem_append.mp h).elim (fun h => (List.mem_cons_of_mem _ (List.mem_append_left _ (List.mem_append_right _ (List.mem_append_right _ (List.mem_append_right _ (List.mem_append_right _ (List.mem_append_right _ (List.mem_append_right _ (List.mem_append_right _ (List.mem_append_right _ (List.mem_append_right _ (List.mem_append_right _ (List.mem_append_right _ (List.mem_append_right _ (List.mem_append_right _ (List.mem_append_right _ (List.mem_append_left _ (List.mem_cons_of_mem _ h))))))))))))))))))) (fun h => List.mem_cons_of_mem _ (List.mem_append_right _ h)))) w_f_X5_clear_good
theorem g_f_X5_former_X5_clear_V444 : GoodIn w_f_X5_former (wsV RX5 444 RX5 yX5_clear w_f_X5_clear) := goodIn_app (nb_g4 (List.mem_cons_of_mem _ (List.mem_append_left _ (List.mem_append_left _ (List.mem_of_getElem? (i := 69) rfl)))) (List.mem_cons_of_mem _ (List.mem_append_left _ (List.mem_append_left _ (List.mem_of_getElem? (i := 70) rfl)))) (List.mem_cons_of_mem _ (List.mem_append_left _ (List.mem_append_left _ (List.mem_of_getElem? (i := 71) rfl)))) (List.mem_cons_of_mem _ (List.mem_append_left _ (List.mem_append_left _ (List.mem_of_getElem? (i := 17) rfl)))) (by decide +kernel)) gg_f_X5_former_X5_clear
theorem gg_f_X5_former_X5_exp : GoodIn w_f_X5_former w_f_X5_exp := goodIn_sub (fun w h => (List.mem_cons.mp h).elim (fun e => e ▸ (List.mem_cons_of_mem _ (List.mem_append_left _ (List.mem_append_left _ (List.mem_of_getElem? (i := 1) rfl))))) (fun h => List.mem_cons_of_mem _ h)) w_f_X5_exp_good
theorem g_f_X5_former_X5_exp_V90 : GoodIn w_f_X5_former (wsV RX5 90 RX5 yX5_exp w_f_X5_exp) := goodIn_app (nb_g4 (List.mem_cons_of_mem _ (List.mem_append_left _ (List.mem_append_left _ (List.mem_of_getElem? (i := 18) rfl)))) (List.mem_cons_of_mem _ (List.mem_append_left _ (List.mem_append_left _ (List.mem_of_getElem? (i := 19) rfl)))) (List.mem_cons_of_mem _ (List.mem_append_left _ (List.mem_append_left _ (List.mem_of_getElem? (i := 20) rfl)))) (List.mem_cons_of_mem _ (List.mem_append_left _ (List.mem_append_left _ (List.mem_of_getElem? (i := 17) rfl)))) (by decide +kernel)) gg_f_X5_former_X5_exp
theorem gg_f_X5_former_X5_expect : GoodIn w_f_X5_former w_f_X5_expect := goodIn_sub (fun w h => (List.mem_cons.mp h).elim (fun e => (List.mem_cons_of_mem _ (List.mem_append_left _ (List.mem_append_right _ (List.mem_append_right _ (List.mem_append_left _ (List.mem_cons.mpr (Or.inl e)))))))) (fun h => (List.mem_append.mp h).elim (fun h => (List.mem_cons_of_mem _ (List.mem_append_left _ (List.mem_append_right _ (List.mem_append_right _ (List.mem_append_left _ (List.mem_cons_of_mem _ h))))))) (fun h => List.mem_cons_of_mem _ (List.mem_append_right _ h)))) w_f_X5_expect_good
theorem g_f_X5_former_X5_expect_V141 : GoodIn w_f_X5_former (wsV RX5 141 RX5 yX5_expect w_f_X5_expect) := goodIn_app (nb_g4 (List.mem_cons_of_mem _ (List.mem_append_left _ (List.mem_append_left _ (List.mem_of_getElem? (i := 21) rfl)))) (List.mem_cons_of_mem _ (List.mem_append_left _ (List.mem_append_left _ (List.mem_of_getElem? (i := 22) rfl)))) (List.mem_cons_of_mem _ (List.mem_append_left _ (List.mem_append_left _ (List.mem_of_getElem? (i := 23) rfl)))) (List.mem_cons_of_mem _ (List.mem_append_left _ (List.mem_append_left _ (List.mem_of_getElem? (i := 17) rfl)))) (by decide +kernel)) gg_f_X5_former_X5_expect
theorem gg_f_X5_former_X5_iters : GoodIn w_f_X5_former w_f_X5_iters := goodIn_sub (fun w h => (List.mem_cons.mp h).elim (fun e => e ▸ (List.mem_cons_of_mem _ (List.mem_append_left _ (List.mem_append_left _ (List.mem_of_getElem? (i := 5) rfl))))) (fun h => List.mem_cons_of_mem _ h)) w_f_X5_iters_good
theorem g_f_X5_former_X5_iters_V258 : GoodIn w_f_X5_former (wsV RX5 258 RX5 yX5_iters w_f_X5_iters) := goodIn_app (nb_g4 (List.mem_cons_of_mem _ (List.mem_append_left _ (List.mem_append_left _ (List.mem_of_getElem? (i := 64) rfl)))) (List.mem_cons_of_mem _ (List.mem_append_left _ (List.mem_append_left _ (List.mem_of_getElem? (i := 65) rfl)))) (List.mem_cons_of_mem _ (List.mem_append_left _ (List.mem_append_left _ (List.mem_of_getElem? (i := 66) rfl)))) (List.mem_cons_of_mem _ (List.mem_append_left _ (List.mem_append_left _ (List.mem_of_getElem? (i := 17) rfl)))) (by decide +kernel)) gg_f_X5_former_X5_iters
theorem gg_f_X5_former_X7_emit__P : GoodIn w_f_X5_former w_f_X7_emit__P := goodIn_sub (fun w h => (List.mem_cons.mp h).elim (fun e => (List.mem_cons_of_mem _ (List.mem_append_left _ (List.mem_append_right _ (List.mem_append_right _ (List.mem_append_right _ (List.mem_append_left _ (List.mem_cons.mpr (Or.inl e))))))))) (fun h => (List.mem_append.mp h).elim (fun h => (List.mem_cons_of_mem _ (List.mem_append_left _ (List.mem_append_right _ (List.mem_append_right _ (List.mem_append_right _ (List.mem_append_left _ (List.mem_cons_of_mem _ h)))))))) (fun h => List.mem_cons_of_mem _ (List.mem_append_right _ h)))) w_f_X7_emit__P_good
theorem g_f_X5_former_X7_emit__P_V66 : GoodIn w_f_X5_former (wsV RX5 66 RX7 yX7_emit w_f_X7_emit__P) := goodIn_app (nb_g4 (List.mem_cons_of_mem _ (List.mem_append_left _ (List.mem_append_left _ (List.mem_of_getElem? (i := 25) rfl)))) (List.mem_cons_of_mem _ (List.mem_append_left _ (List.mem_append_left _ (List.mem_of_getElem? (i := 26) rfl)))) (List.mem_cons_of_mem _ (List.mem_append_left _ (List.mem_append_left _ (List.mem_of_getElem? (i := 27) rfl)))) (List.mem_cons_of_mem _ (List.mem_append_left _ (List.mem_append_left _ (List.mem_of_getElem? (i := 28) rfl)))) (by decide +kernel)) gg_f_X5_former_X7_emit__P
theorem gg_f_X5_former_X7_aim__P : GoodIn w_f_X5_former w_y_X7_aim__P := goodIn_sub (fun w h => (List.mem_cons.mp h).elim (fun e => (List.mem_cons_of_mem _ (List.mem_append_left _ (List.mem_append_right _ (List.mem_append_right _ (List.mem_append_right _ (List.mem_append_right _ (List.mem_append_left _ (List.mem_cons.mpr (Or.inl e)))))))))) (fun h => (List.mem_append.mp h).elim (fun h => (List.mem_cons_of_mem _ (List.mem_append_left _ (List.mem_append_right _ (List.mem_append_right _ (List.mem_append_right _ (List.mem_append_right _ (List.mem_append_left _ (List.mem_cons_of_mem _ h))))))))) (fun h => List.mem_cons_of_mem _ (List.mem_append_right _ h)))) w_y_X7_aim__P_good
theorem g_y_X5_former_X7_aim__P_V240 : GoodIn w_f_X5_former (wsV RX5 240 RX7 yX7_aim w_y_X7_aim__P) := goodIn_app (nb_g4 (List.mem_cons_of_mem _ (List.mem_append_left _ (List.mem_append_left _ (List.mem_of_getElem? (i := 29) rfl)))) (List.mem_cons_of_mem _ (List.mem_append_left _ (List.mem_append_left _ (List.mem_of_getElem? (i := 30) rfl)))) (List.mem_cons_of_mem _ (List.mem_append_left _ (List.mem_append_left _ (List.mem_of_getElem? (i := 31) rfl)))) (List.mem_cons_of_mem _ (List.mem_append_left _ (List.mem_append_left _ (List.mem_of_getElem? (i := 28) rfl)))) (by decide +kernel)) gg_f_X5_former_X7_aim__P
set_option maxHeartbeats 40000000 in
set_option maxRecDepth 100000 in
theorem c_t_X5_former (l : Launch) (hl0 : l.stackTraces = false) (dC : Nat → ClassId) (dI : Nat → Nat → Nat) (cy : Nat → ClassId) (ek a : Nat → Nat) (k0 : Nat) (IH : ∀ j : Nat, j < k0 → P_F2 l dC dI cy ek a j) (d : Nat) (L0 : LV) (σ0 : CS) (r0 : RS) (h0 : f_F2 k0 d 3 0 L0 σ0 = some r0) (z : Nat → Nat) (sz : Nat) : vx_Met l yX5_former w_f_X5_former ({ frames := 9 + d, cells := r0.2.2.1, slots := r0.2.2.2, locals := 173 + 33 * d }) (va_Pc [.ref (a 40), .int (L0.1 1)] (nInF (dC, dI) cy ek sz (vC cy a z σ0))) (xV dC dI cy a (va_A (vC cy a z σ0) sz) [41, 43, 51] z r0) (xX dC dI cy a (va_A (vC cy a z σ0) sz) [41, 43, 51] z r0) r0.2.2.1 r0.2.2.2 (va_A (vC cy a z σ0) sz) := by
  refine vx_ofW (cc := cX5_former) (maxL := 6) (ret := none) (by decide) rfl ?_
  intro p e s m args below meth c s₁ B hml hno hv
  obtain ⟨rfl, ⟨⟨hsz, hP, hK, hD0, hG⟩, hE⟩, hT⟩ := hv
  have hx := B.exec
  have hb := B.bytes
  have hr := B.returns
  have hts := atoms_spec (ws := w_f_X5_former) B.pre
  have hown : s.vm.findClass RX5 = some m.cls := findClass_of_methodNamed B.named
  have hlocks := B.notSynchronized
  subst hsz
  have hD := hD0.self (sz := s.heap.size)
  generalize hAe : va_A (vC cy a z σ0) s.heap.size = A at hD hE hT ⊢
  have hA : ∀ q : Nat, s.heap.size ≤ q → A q := fun q h => by rw [← hAe]; exact Or.inr h
  have hS : va_S A s.heap s.heap [] := va_S.rf
  have hl := lv_entry ([.ref (a 40), .int (L0.1 1)]) (n := 6) (Nat.le_of_ble_eq_true rfl)
  rw [lg_entry_eq]
  generalize (lg_sl ([.ref (a 40), .int (L0.1 1)]) ++ List.replicate (6 - (lg_sl ([.ref (a 40), .int (L0.1 1)])).length) Slot.unset).toArray = ls at hl ⊢
  have hl : lv_has ls 6 [(0, .ref (a 40)), (1, .int (L0.1 1))] := hl
  generalize hmc : r0.2.2.1 = mc
  generalize hms : r0.2.2.2 = ms
  have blk : ∀ k : Nat, k ≤ k0 → (bX p l e (headSpec w_f_X5_former ({ frames := 9 + d, cells := mc, slots := ms, locals := 173 + 33 * d })).room s m #[.ref (a 40), .int (L0.1 1)] below meth c dC dI cy a A (fun r => vx_MQ below (xV dC dI cy a A [41, 43, 51] z r) (xX dC dI cy a A [41, 43, 51] z r) #[.ref (a 40), .int (L0.1 1)] s mc ms A) [41, 43, 51] z mc ms 6 (f_F2 k d 3 0) (fun z L => [(0, .ref (a 40)), (1, .int (L.1 1))]) 0 (fun z L => [])) ∧ (bX p l e (headSpec w_f_X5_former ({ frames := 9 + d, cells := mc, slots := ms, locals := 173 + 33 * d })).room s m #[.ref (a 40), .int (L0.1 1)] below meth c dC dI cy a A (fun r => vx_MQ below (xV dC dI cy a A [41, 43, 51] z r) (xX dC dI cy a A [41, 43, 51] z r) #[.ref (a 40), .int (L0.1 1)] s mc ms A) [41, 43, 51] z mc ms 6 (f_F2 k d 3 1) (fun z L => [(0, .ref (a 40)), (1, .int (L.1 1)), (2, .int (L.1 2)), (3, .int (L.1 3)), (4, .int (L.1 4)), (5, .int (L.1 5))]) 93 (fun z L => [])) := by
    intro k
    induction k with
    | zero => exact fun _ => ⟨fun z c1 c2 L σ r h => (by cases h), fun z c1 c2 L σ r h => (by cases h)⟩
    | succ k ih =>
      intro hk
      replace ih := ih (by omega)
      refine ⟨?_, ?_⟩
      · intro z cells slots L σ r h hzk hc hs H locs ls hP hD hS hl
        rw [f_F2_3, t_X5_former_0] at h
        refine lv_aload_n hx hb dX5_former_0 rfl (lv_at hl 0 rfl) ?_
        refine hg_40_0 hx hb hts in_f_X5_former_X5 hown hK hP (hts _ (List.mem_cons_of_mem _ (List.mem_append_left _ (List.mem_append_left _ (List.mem_of_getElem? (i := 33) rfl))))) dX5_former_1 ?_
        obtain ⟨r1, hc1, hle1, h9⟩ := ox_ex h
        clear h
        refine kx_v (vx_runV (As := []) (rest := []) ⟨hx, hb, hml, hown, hts⟩ (c_f_X2_advance l hl0 dC dI cy ek a k lZ σ r1 hc1 z H.size) (cwV 0 hts g_f_X5_former_X2_advance_V30 rfl rfl rfl hd_f_X2_advance (by show 6 + 1 ≤ 9 + d ∧ 8 + (7 + 11) + 100 ≤ 173 + 33 * d; omega)) ⟨nb_blindF, va_recv hK hP (ci := 2) (q0 := 37) rfl rfl, (kx_pre hK hG hE hT hA hP hD hS)⟩ rfl rfl hl.1 rfl (lv_room (Nat.le_of_ble_eq_true rfl)) dX5_former_4 ⟨Nat.le_trans (Nat.add_le_add_left hle1.1 _) (Nat.le_of_eq hc), Nat.le_trans (Nat.add_le_add_left hle1.2 _) (Nat.le_of_eq hs)⟩) hK hA hzk hP hD hS (by decide) hno hlocks ?_
        rcases h9 with ⟨h00, y1, hny1, hy⟩ | ⟨h00, hy⟩
        · subst hy
          have h := hny1
          refine Or.inl ⟨h00, fun u H locs hz1 hzk hP hD hS => ?_⟩
          obtain rfl := (zk_nil hz1).symm
          replace hc := (Nat.add_assoc _ _ _).trans hc
          replace hs := (Nat.add_assoc _ _ _).trans hs
          refine lv_aload_n hx hb dX5_former_7 rfl (lv_at hl 0 rfl) ?_
          obtain ⟨b2, hb2, h⟩ := oP_ex h
          refine hgq_40_2 hx hb hts in_f_X5_former_X5 hown hK hP (hts _ (List.mem_cons_of_mem _ (List.mem_append_left _ (List.mem_append_left _ (List.mem_of_getElem? (i := 24) rfl))))) hb2 dX5_former_8 ?_
          refine hg_P_11n b2 hx hb hts in_f_X5_former_X7 hown hK hP (va_Nw.use rfl (hG.1 _ (List.mem_of_getElem? (i := 82) rfl))) dX5_former_11 ?_
          refine lv_istore_n (lv' := [(2, .int (r1.2.1.1 (fP b2 11))), (0, .ref (a 40)), (1, .int (L.1 1))]) hx hb dX5_former_14 rfl hl (by decide) rfl (fun ls hl => ?_)
          refine lv_aload_n hx hb dX5_former_15 rfl (lv_at hl 1 rfl) ?_
          obtain ⟨b3, hb3, h⟩ := oP_ex h
          refine hgq_40_2 hx hb hts in_f_X5_former_X5 hown hK hP (hts _ (List.mem_cons_of_mem _ (List.mem_append_left _ (List.mem_append_left _ (List.mem_of_getElem? (i := 24) rfl))))) hb3 dX5_former_16 ?_
          refine hg_P_19n b3 hx hb hts in_f_X5_former_X7 hown hK hP (va_Nw.use rfl (hG.1 _ (List.mem_of_getElem? (i := 94) rfl))) dX5_former_19 ?_
          refine lv_istore_n (lv' := [(3, .int (r1.2.1.1 (fP b3 19))), (2, .int (r1.2.1.1 (fP b2 11))), (0, .ref (a 40)), (1, .int (L.1 1))]) hx hb dX5_former_22 rfl hl (by decide) rfl (fun ls hl => ?_)
          refine lv_aload_n hx hb dX5_former_23 rfl (lv_at hl 2 rfl) ?_
          obtain ⟨b4, hb4, h⟩ := oP_ex h
          refine hgq_40_2 hx hb hts in_f_X5_former_X5 hown hK hP (hts _ (List.mem_cons_of_mem _ (List.mem_append_left _ (List.mem_append_left _ (List.mem_of_getElem? (i := 24) rfl))))) hb4 dX5_former_24 ?_
          refine lv_bipush (v := 80) hx hb dX5_former_27 (by decide) ?_
          refine lv_iconst (v := 0) hx hb dX5_former_29 (by decide) ?_
          obtain ⟨r5, hc5, hle5, h9⟩ := ox_ex h
          clear h
          refine kx_i (r := y1) (vx_runV (As := [.int 80, .int 0]) (rest := []) ⟨hx, hb, hml, hown, hts⟩ (c_f_X7_emit__P l hl0 dC dI cy ek a k (lI (lI (lB lZ 0 b4) 1 80) 2 0) r1.2.1 r5 hc5 z H.size) (cwV 2 hts g_f_X5_former_X7_emit__P_V66 rfl rfl rfl hd_f_X7_emit__P (by show 7 + 1 ≤ 9 + d ∧ 8 + (3 + 11) + 121 ≤ 173 + 33 * d; omega)) ⟨nb_blindF, recvP b4 hK hP, (kx_pre hK hG hE hT hA hP hD hS)⟩ rfl rfl hl.1 rfl (lv_room (Nat.le_of_ble_eq_true rfl)) dX5_former_30 ⟨Nat.le_trans (Nat.add_le_add_left hle5.1 _) (Nat.le_of_eq hc), Nat.le_trans (Nat.add_le_add_left hle5.2 _) (Nat.le_of_eq hs)⟩) hK hA hzk hP hD hS (by decide) hno hlocks ?_
          rcases h9 with ⟨h00, y5, hny5, hy⟩ | ⟨h00, hy⟩
          · subst hy
            have h := hny5
            refine Or.inl ⟨h00, fun z H locs hz5 hzk hP hD hS => ?_⟩
            replace hc := (Nat.add_assoc _ _ _).trans hc
            replace hs := (Nat.add_assoc _ _ _).trans hs
            refine lv_pop hx hb dX5_former_33 rfl ?_
            refine lv_aload_n hx hb dX5_former_34 rfl (lv_at hl 2 rfl) ?_
            refine lv_iconst (v := 0) hx hb dX5_former_35 (by decide) ?_
            obtain ⟨e6, he6, h⟩ := of_ex h
            obtain ⟨r6, hc6, hle6, h9⟩ := ox_ex h
            clear h
            refine kx_v (r := y5) (vx_runV (As := [.int 0]) (rest := []) ⟨hx, hb, hml, hown, hts⟩ ((IH k (by omega)).2.2.2.2.2.1 e6 (lI lZ 1 0) r5.2.1 r6 hc6 z H.size) (cwV 1 hts g_f_X5_former_X5_iters_V258 rfl rfl rfl hd_f_X5_iters (by show (9 + e6) + 1 ≤ 9 + d ∧ 8 + (14 + 11) + (173 + 33 * e6) ≤ 173 + 33 * d; omega)) ⟨nb_blindF, va_recv hK hP (ci := 4) (q0 := 40) rfl rfl, (kx_pre hK hG hE hT hA hP hD hS)⟩ rfl rfl hl.1 rfl (lv_room (Nat.le_of_ble_eq_true rfl)) dX5_former_36 ⟨Nat.le_trans (Nat.add_le_add_left hle6.1 _) (Nat.le_of_eq hc), Nat.le_trans (Nat.add_le_add_left hle6.2 _) (Nat.le_of_eq hs)⟩) hK hA hzk hP hD hS (by decide) hno hlocks ?_
            rcases h9 with ⟨h00, y6, hny6, hy⟩ | ⟨h00, hy⟩
            · subst hy
              have h := hny6
              refine Or.inl ⟨h00, fun z H locs hz6 hzk hP hD hS => ?_⟩
              replace hc := (Nat.add_assoc _ _ _).trans hc
              replace hs := (Nat.add_assoc _ _ _).trans hs
              refine lv_aload_n hx hb dX5_former_39 rfl (lv_at hl 2 rfl) ?_
              refine hg_40_14 hx hb hts in_f_X5_former_X5 hown hK hP (hts _ (List.mem_cons_of_mem _ (List.mem_append_left _ (List.mem_append_left _ (List.mem_of_getElem? (i := 67) rfl))))) dX5_former_40 ?_
              refine lv_istore (lv' := [(4, .int (r6.2.1.1 4014)), (3, .int (r1.2.1.1 (fP b3 19))), (2, .int (r1.2.1.1 (fP b2 11))), (0, .ref (a 40)), (1, .int (L.1 1))]) hx hb dX5_former_43 hl (by decide) rfl (fun ls hl => ?_)
              refine lv_aload_n hx hb dX5_former_45 rfl (lv_at hl 3 rfl) ?_
              refine hg_40_15 hx hb hts in_f_X5_former_X5 hown hK hP (hts _ (List.mem_cons_of_mem _ (List.mem_append_left _ (List.mem_append_left _ (List.mem_of_getElem? (i := 68) rfl))))) dX5_former_46 ?_
              refine lv_istore (lv' := [(5, .int (r6.2.1.1 4015)), (4, .int (r6.2.1.1 4014)), (3, .int (r1.2.1.1 (fP b3 19))), (2, .int (r1.2.1.1 (fP b2 11))), (0, .ref (a 40)), (1, .int (L.1 1))]) hx hb dX5_former_49 hl (by decide) rfl (fun ls hl => ?_)
              refine lv_aload_n hx hb dX5_former_51 rfl (lv_at hl 4 rfl) ?_
              refine hg_40_0 hx hb hts in_f_X5_former_X5 hown hK hP (hts _ (List.mem_cons_of_mem _ (List.mem_append_left _ (List.mem_append_left _ (List.mem_of_getElem? (i := 33) rfl))))) dX5_former_52 ?_
              refine hg_37_2n hx hb hts in_f_X5_former_X2 hown hK hP (va_Nw.use rfl (hG.1 _ (List.mem_of_getElem? (i := 52) rfl))) dX5_former_55 ?_
              refine lv_bipush (v := 19) hx hb dX5_former_58 (by decide) ?_
              refine lv_icmp_ne (tgt := 93) hx hb dX5_former_60 (by decide) (fun c7 => ?_) (fun c7 => ?_)
              · rw [if_neg c7] at h
                exact ih.2 z _ _ (lI (lI (lI (lI L 2 ((r1.2.1.1 (fP b2 11)))) 3 ((r1.2.1.1 (fP b3 19)))) 4 ((r6.2.1.1 4014))) 5 ((r6.2.1.1 4015))) r6.2.1 _ h hzk hc hs H locs ls hP hD hS (lv_sub hl [4, 5, 3, 2, 1, 0] rfl)
              · rw [if_pos c7] at h
                refine lv_aload_n hx hb dX5_former_63 rfl (lv_at hl 4 rfl) ?_
                refine hg_40_0 hx hb hts in_f_X5_former_X5 hown hK hP (hts _ (List.mem_cons_of_mem _ (List.mem_append_left _ (List.mem_append_left _ (List.mem_of_getElem? (i := 33) rfl))))) dX5_former_64 ?_
                obtain ⟨r8, hc8, hle8, h9⟩ := ox_ex h
                clear h
                refine kx_v (r := y6) (vx_runV (As := []) (rest := []) ⟨hx, hb, hml, hown, hts⟩ (c_f_X2_advance l hl0 dC dI cy ek a k lZ r6.2.1 r8 hc8 z H.size) (cwV 0 hts g_f_X5_former_X2_advance_V30 rfl rfl rfl hd_f_X2_advance (by show 6 + 1 ≤ 9 + d ∧ 8 + (7 + 11) + 100 ≤ 173 + 33 * d; omega)) ⟨nb_blindF, va_recv hK hP (ci := 2) (q0 := 37) rfl rfl, (kx_pre hK hG hE hT hA hP hD hS)⟩ rfl rfl hl.1 rfl (lv_room (Nat.le_of_ble_eq_true rfl)) dX5_former_67 ⟨Nat.le_trans (Nat.add_le_add_left hle8.1 _) (Nat.le_of_eq hc), Nat.le_trans (Nat.add_le_add_left hle8.2 _) (Nat.le_of_eq hs)⟩) hK hA hzk hP hD hS (by decide) hno hlocks ?_
                rcases h9 with ⟨h00, y8, hny8, hy⟩ | ⟨h00, hy⟩
                · subst hy
                  have h := hny8
                  refine Or.inl ⟨h00, fun u H locs hz8 hzk hP hD hS => ?_⟩
                  obtain rfl := (zk_nil hz8).symm
                  replace hc := (Nat.add_assoc _ _ _).trans hc
                  replace hs := (Nat.add_assoc _ _ _).trans hs
                  refine lv_aload_n hx hb dX5_former_70 rfl (lv_at hl 4 rfl) ?_
                  refine lv_iconst (v := 0) hx hb dX5_former_71 (by decide) ?_
                  obtain ⟨e9, he9, h⟩ := of_ex h
                  obtain ⟨r9, hc9, hle9, h9⟩ := ox_ex h
                  clear h
                  refine kx_v (r := y8) (vx_runV (As := [.int 0]) (rest := []) ⟨hx, hb, hml, hown, hts⟩ ((IH k (by omega)).2.1 e9 (lI lZ 1 0) r8.2.1 r9 hc9 z H.size) (cwV 1 hts g_f_X5_former_X5_exp_V90 rfl rfl rfl hd_f_X5_exp (by show (9 + e9) + 1 ≤ 9 + d ∧ 8 + (8 + 11) + (173 + 33 * e9) ≤ 173 + 33 * d; omega)) ⟨nb_blindF, va_recv hK hP (ci := 4) (q0 := 40) rfl rfl, (kx_pre hK hG hE hT hA hP hD hS)⟩ rfl rfl hl.1 rfl (lv_room (Nat.le_of_ble_eq_true rfl)) dX5_former_72 ⟨Nat.le_trans (Nat.add_le_add_left hle9.1 _) (Nat.le_of_eq hc), Nat.le_trans (Nat.add_le_add_left hle9.2 _) (Nat.le_of_eq hs)⟩) hK hA hzk hP hD hS (by decide) hno hlocks ?_
                  rcases h9 with ⟨h00, y9, hny9, hy⟩ | ⟨h00, hy⟩
                  · subst hy
                    have h := hny9
                    refine Or.inl ⟨h00, fun z H locs hz9 hzk hP hD hS => ?_⟩
                    replace hc := (Nat.add_assoc _ _ _).trans hc
                    replace hs := (Nat.add_assoc _ _ _).trans hs
                    refine lv_aload_n hx hb dX5_former_75 rfl (lv_at hl 4 rfl) ?_
                    obtain ⟨b10, hb10, h⟩ := oP_ex h
                    refine hgq_40_2 hx hb hts in_f_X5_former_X5 hown hK hP (hts _ (List.mem_cons_of_mem _ (List.mem_append_left _ (List.mem_append_left _ (List.mem_of_getElem? (i := 24) rfl))))) hb10 dX5_former_76 ?_
                    refine lv_aload_n hx hb dX5_former_79 rfl (lv_at hl 4 rfl) ?_
                    obtain ⟨b11, hb11, h⟩ := oP_ex h
                    refine hgq_40_2 hx hb hts in_f_X5_former_X5 hown hK hP (hts _ (List.mem_cons_of_mem _ (List.mem_append_left _ (List.mem_append_left _ (List.mem_of_getElem? (i := 24) rfl))))) hb11 dX5_former_80 ?_
                    refine lv_iconst (v := 4) hx hb dX5_former_83 (by decide) ?_
                    refine lv_iconst (v := 0) hx hb dX5_former_84 (by decide) ?_
                    obtain ⟨r12, hc12, hle12, h9⟩ := ox_ex h
                    clear h
                    refine kx_i (r := y9) (vx_runV (As := [.int 4, .int 0]) (rest := [.ref (a (pA b10))]) ⟨hx, hb, hml, hown, hts⟩ (c_f_X7_emit__P l hl0 dC dI cy ek a k (lI (lI (lB lZ 0 b11) 1 4) 2 0) r9.2.1 r12 hc12 z H.size) (cwV 2 hts g_f_X5_former_X7_emit__P_V66 rfl rfl rfl hd_f_X7_emit__P (by show 7 + 1 ≤ 9 + d ∧ 8 + (3 + 11) + 121 ≤ 173 + 33 * d; omega)) ⟨nb_blindF, recvP b11 hK hP, (kx_pre hK hG hE hT hA hP hD hS)⟩ rfl rfl hl.1 rfl (lv_room (Nat.le_of_ble_eq_true rfl)) dX5_former_85 ⟨Nat.le_trans (Nat.add_le_add_left hle12.1 _) (Nat.le_of_eq hc), Nat.le_trans (Nat.add_le_add_left hle12.2 _) (Nat.le_of_eq hs)⟩) hK hA hzk hP hD hS (by decide) hno hlocks ?_
                    rcases h9 with ⟨h00, y12, hny12, hy⟩ | ⟨h00, hy⟩
                    · subst hy
                      have h := hny12
                      refine Or.inl ⟨h00, fun z H locs hz12 hzk hP hD hS => ?_⟩
                      replace hc := (Nat.add_assoc _ _ _).trans hc
                      replace hs := (Nat.add_assoc _ _ _).trans hs
                      refine lv_iload hx hb dX5_former_88 (lv_at hl 0 rfl) ?_
                      obtain ⟨r13, hc13, h⟩ := op_ex h
                      refine kc_v (va_runV (As := [.int r12.1.2, .int (r6.2.1.1 4015)]) (rest := []) ⟨hx, hb, hml, hown, hts⟩ (c_y_X7_aim__P l dC dI cy a z k (lI (lI (lB lZ 0 b10) 1 r12.1.2) 2 ((r6.2.1.1 4015))) r12.2.1 r13 hc13 H.size) (cwV 2 hts g_y_X5_former_X7_aim__P_V240 rfl rfl rfl hd_y_X7_aim__P (by show 0 + 1 ≤ 9 + d ∧ 8 + (3 + 11) + 0 ≤ 173 + 33 * d; omega)) ⟨nb_blind, recvP b10 hK hP, (kb_pre hK hG hP hD)⟩ rfl rfl hl.1 rfl (lv_room (Nat.le_of_ble_eq_true rfl)) dX5_former_90 ⟨(Nat.le_trans (Nat.le_add_right _ _) (Nat.le_of_eq hc)), (Nat.le_trans (Nat.le_add_right _ _) (Nat.le_of_eq hs))⟩) hA hP hD hS (fun H locs hP hD hS => ?_)
                      exact ih.2 z _ _ (lI (lI (lI (lI L 2 ((r1.2.1.1 (fP b2 11)))) 3 ((r1.2.1.1 (fP b3 19)))) 4 ((r6.2.1.1 4014))) 5 ((r6.2.1.1 4015))) r13.2 _ h hzk hc hs H locs ls hP hD hS (lv_sub hl [4, 5, 3, 2, 1, 0] rfl)
                    · subst hy
                      exact Or.inr ⟨h00, rfl, hc, hs⟩
                  · subst hy
                    exact Or.inr ⟨h00, rfl, hc, hs⟩
                · subst hy
                  exact Or.inr ⟨h00, rfl, hc, hs⟩
            · subst hy
              exact Or.inr ⟨h00, rfl, hc, hs⟩
          · subst hy
            exact Or.inr ⟨h00, rfl, hc, hs⟩
        · subst hy
          exact Or.inr ⟨h00, rfl, hc, hs⟩
      · intro z cells slots L σ r h hzk hc hs H locs ls hP hD hS hl
        rw [f_F2_3, t_X5_former_1] at h
        refine lv_aload_n hx hb dX5_former_93 rfl (lv_at hl 0 rfl) ?_
        refine lv_bipush (v := 18) hx hb dX5_former_94 (by decide) ?_
        obtain ⟨r1, hc1, hle1, h9⟩ := ox_ex h
        clear h
        refine kx_v (vx_runV (As := [.int 18]) (rest := []) ⟨hx, hb, hml, hown, hts⟩ (c_f_X5_expect l hl0 dC dI cy ek a k (lI lZ 1 18) σ r1 hc1 z H.size) (cwV 1 hts g_f_X5_former_X5_expect_V141 rfl rfl rfl hd_f_X5_expect (by show 7 + 1 ≤ 9 + d ∧ 8 + (2 + 11) + 126 ≤ 173 + 33 * d; omega)) ⟨nb_blindF, va_recv hK hP (ci := 4) (q0 := 40) rfl rfl, (kx_pre hK hG hE hT hA hP hD hS)⟩ rfl rfl hl.1 rfl (lv_room (Nat.le_of_ble_eq_true rfl)) dX5_former_96 ⟨Nat.le_trans (Nat.add_le_add_left hle1.1 _) (Nat.le_of_eq hc), Nat.le_trans (Nat.add_le_add_left hle1.2 _) (Nat.le_of_eq hs)⟩) hK hA hzk hP hD hS (by decide) hno hlocks ?_
        rcases h9 with ⟨h00, y1, hny1, hy⟩ | ⟨h00, hy⟩
        · subst hy
          have h := hny1
          refine Or.inl ⟨h00, fun u H locs hz1 hzk hP hD hS => ?_⟩
          obtain rfl := (zk_nil hz1).symm
          replace hc := (Nat.add_assoc _ _ _).trans hc
          replace hs := (Nat.add_assoc _ _ _).trans hs
          refine lv_aload_n hx hb dX5_former_99 rfl (lv_at hl 0 rfl) ?_
          refine lv_iconst (v := 0) hx hb dX5_former_100 (by decide) ?_
          obtain ⟨e2, he2, h⟩ := of_ex h
          obtain ⟨r2, hc2, hle2, h9⟩ := ox_ex h
          clear h
          refine kx_v (r := y1) (vx_runV (As := [.int 0]) (rest := []) ⟨hx, hb, hml, hown, hts⟩ ((IH k (by omega)).2.1 e2 (lI lZ 1 0) r1.2.1 r2 hc2 z H.size) (cwV 1 hts g_f_X5_former_X5_exp_V90 rfl rfl rfl hd_f_X5_exp (by show (9 + e2) + 1 ≤ 9 + d ∧ 8 + (8 + 11) + (173 + 33 * e2) ≤ 173 + 33 * d; omega)) ⟨nb_blindF, va_recv hK hP (ci := 4) (q0 := 40) rfl rfl, (kx_pre hK hG hE hT hA hP hD hS)⟩ rfl rfl hl.1 rfl (lv_room (Nat.le_of_ble_eq_true rfl)) dX5_former_101 ⟨Nat.le_trans (Nat.add_le_add_left hle2.1 _) (Nat.le_of_eq hc), Nat.le_trans (Nat.add_le_add_left hle2.2 _) (Nat.le_of_eq hs)⟩) hK hA hzk hP hD hS (by decide) hno hlocks ?_
          rcases h9 with ⟨h00, y2, hny2, hy⟩ | ⟨h00, hy⟩
          · subst hy
            have h := hny2
            refine Or.inl ⟨h00, fun z H locs hz2 hzk hP hD hS => ?_⟩
            replace hc := (Nat.add_assoc _ _ _).trans hc
            replace hs := (Nat.add_assoc _ _ _).trans hs
            refine lv_aload_n hx hb dX5_former_104 rfl (lv_at hl 0 rfl) ?_
            obtain ⟨b3, hb3, h⟩ := oP_ex h
            refine hgq_40_2 hx hb hts in_f_X5_former_X5 hown hK hP (hts _ (List.mem_cons_of_mem _ (List.mem_append_left _ (List.mem_append_left _ (List.mem_of_getElem? (i := 24) rfl))))) hb3 dX5_former_105 ?_
            refine lv_bipush (v := 81) hx hb dX5_former_108 (by decide) ?_
            refine lv_iload_n hx hb dX5_former_110 rfl (lv_at hl 1 rfl) ?_
            refine lv_iadd hx hb dX5_former_111 ?_
            refine lv_iconst (v := 0) hx hb dX5_former_112 (by decide) ?_
            obtain ⟨r4, hc4, hle4, h9⟩ := ox_ex h
            clear h
            refine kx_i (r := y2) (vx_runV (As := [.int (81 + ((L.1 1))), .int 0]) (rest := []) ⟨hx, hb, hml, hown, hts⟩ (c_f_X7_emit__P l hl0 dC dI cy ek a k (lI (lI (lB lZ 0 b3) 1 ((81 + ((L.1 1))))) 2 0) r2.2.1 r4 hc4 z H.size) (cwV 2 hts g_f_X5_former_X7_emit__P_V66 rfl rfl rfl hd_f_X7_emit__P (by show 7 + 1 ≤ 9 + d ∧ 8 + (3 + 11) + 121 ≤ 173 + 33 * d; omega)) ⟨nb_blindF, recvP b3 hK hP, (kx_pre hK hG hE hT hA hP hD hS)⟩ rfl rfl hl.1 rfl (lv_room (Nat.le_of_ble_eq_true rfl)) dX5_former_113 ⟨Nat.le_trans (Nat.add_le_add_left hle4.1 _) (Nat.le_of_eq hc), Nat.le_trans (Nat.add_le_add_left hle4.2 _) (Nat.le_of_eq hs)⟩) hK hA hzk hP hD hS (by decide) hno hlocks ?_
            rcases h9 with ⟨h00, y4, hny4, hy⟩ | ⟨h00, hy⟩
            · subst hy
              have h := hny4
              refine Or.inl ⟨h00, fun z H locs hz4 hzk hP hD hS => ?_⟩
              replace hc := (Nat.add_assoc _ _ _).trans hc
              replace hs := (Nat.add_assoc _ _ _).trans hs
              refine lv_pop hx hb dX5_former_116 rfl ?_
              refine lv_aload_n hx hb dX5_former_117 rfl (lv_at hl 0 rfl) ?_
              obtain ⟨b5, hb5, h⟩ := oP_ex h
              refine hgq_40_2 hx hb hts in_f_X5_former_X5 hown hK hP (hts _ (List.mem_cons_of_mem _ (List.mem_append_left _ (List.mem_append_left _ (List.mem_of_getElem? (i := 24) rfl))))) hb5 dX5_former_118 ?_
              refine lv_aload_n hx hb dX5_former_121 rfl (lv_at hl 0 rfl) ?_
              obtain ⟨b6, hb6, h⟩ := oP_ex h
              refine hgq_40_2 hx hb hts in_f_X5_former_X5 hown hK hP (hts _ (List.mem_cons_of_mem _ (List.mem_append_left _ (List.mem_append_left _ (List.mem_of_getElem? (i := 24) rfl))))) hb6 dX5_former_122 ?_
              refine lv_iconst (v := 3) hx hb dX5_former_125 (by decide) ?_
              refine lv_iconst (v := 0) hx hb dX5_former_126 (by decide) ?_
              obtain ⟨r7, hc7, hle7, h9⟩ := ox_ex h
              clear h
              refine kx_i (r := y4) (vx_runV (As := [.int 3, .int 0]) (rest := [.ref (a (pA b5))]) ⟨hx, hb, hml, hown, hts⟩ (c_f_X7_emit__P l hl0 dC dI cy ek a k (lI (lI (lB lZ 0 b6) 1 3) 2 0) r4.2.1 r7 hc7 z H.size) (cwV 2 hts g_f_X5_former_X7_emit__P_V66 rfl rfl rfl hd_f_X7_emit__P (by show 7 + 1 ≤ 9 + d ∧ 8 + (3 + 11) + 121 ≤ 173 + 33 * d; omega)) ⟨nb_blindF, recvP b6 hK hP, (kx_pre hK hG hE hT hA hP hD hS)⟩ rfl rfl hl.1 rfl (lv_room (Nat.le_of_ble_eq_true rfl)) dX5_former_127 ⟨Nat.le_trans (Nat.add_le_add_left hle7.1 _) (Nat.le_of_eq hc), Nat.le_trans (Nat.add_le_add_left hle7.2 _) (Nat.le_of_eq hs)⟩) hK hA hzk hP hD hS (by decide) hno hlocks ?_
              rcases h9 with ⟨h00, y7, hny7, hy⟩ | ⟨h00, hy⟩
              · subst hy
                have h := hny7
                refine Or.inl ⟨h00, fun z H locs hz7 hzk hP hD hS => ?_⟩
                replace hc := (Nat.add_assoc _ _ _).trans hc
                replace hs := (Nat.add_assoc _ _ _).trans hs
                refine lv_iload hx hb dX5_former_130 (lv_at hl 5 rfl) ?_
                obtain ⟨r8, hc8, h⟩ := op_ex h
                refine kc_v (va_runV (As := [.int r7.1.2, .int (L.1 5)]) (rest := []) ⟨hx, hb, hml, hown, hts⟩ (c_y_X7_aim__P l dC dI cy a z k (lI (lI (lB lZ 0 b5) 1 r7.1.2) 2 ((L.1 5))) r7.2.1 r8 hc8 H.size) (cwV 2 hts g_y_X5_former_X7_aim__P_V240 rfl rfl rfl hd_y_X7_aim__P (by show 0 + 1 ≤ 9 + d ∧ 8 + (3 + 11) + 0 ≤ 173 + 33 * d; omega)) ⟨nb_blind, recvP b5 hK hP, (kb_pre hK hG hP hD)⟩ rfl rfl hl.1 rfl (lv_room (Nat.le_of_ble_eq_true rfl)) dX5_former_132 ⟨(Nat.le_trans (Nat.le_add_right _ _) (Nat.le_of_eq hc)), (Nat.le_trans (Nat.le_add_right _ _) (Nat.le_of_eq hs))⟩) hA hP hD hS (fun H locs hP hD hS => ?_)
                refine lv_aload_n hx hb dX5_former_135 rfl (lv_at hl 0 rfl) ?_
                obtain ⟨b9, hb9, h⟩ := oP_ex h
                refine hgq_40_2 hx hb hts in_f_X5_former_X5 hown hK hP (hts _ (List.mem_cons_of_mem _ (List.mem_append_left _ (List.mem_append_left _ (List.mem_of_getElem? (i := 24) rfl))))) hb9 dX5_former_136 ?_
                refine hg_P_0n b9 hx hb hts in_f_X5_former_X7 hown hK hP (va_Nw.use rfl (hG.1 _ (List.mem_of_getElem? (i := 67) rfl))) dX5_former_139 ?_
                refine lv_iload hx hb dX5_former_142 (lv_at hl 4 rfl) ?_
                refine lv_iconst (v := 1) hx hb dX5_former_144 (by decide) ?_
                refine lv_iadd hx hb dX5_former_145 ?_
                refine lv_aload_n hx hb dX5_former_146 rfl (lv_at hl 0 rfl) ?_
                obtain ⟨b10, hb10, h⟩ := oP_ex h
                refine hgq_40_2 hx hb hts in_f_X5_former_X5 hown hK hP (hts _ (List.mem_cons_of_mem _ (List.mem_append_left _ (List.mem_append_left _ (List.mem_of_getElem? (i := 24) rfl))))) hb10 dX5_former_147 ?_
                refine hg_P_1n b10 hx hb hts in_f_X5_former_X7 hown hK hP (va_Nw.use rfl (hG.1 _ (List.mem_of_getElem? (i := 68) rfl))) dX5_former_150 ?_
                refine lv_iload hx hb dX5_former_153 (lv_at hl 4 rfl) ?_
                refine lv_isub hx hb dX5_former_155 ?_
                obtain ⟨q11, h⟩ := kr_ite1 h
                refine hs_P0 ((sKd r8.2 b9)) hx hb hK hP hD hS q11 dX5_former_156 (fun H locs hP hD hS => ?_)
                refine lv_aload_n hx hb dX5_former_157 rfl (lv_at hl 0 rfl) ?_
                refine lv_iload_n hx hb dX5_former_158 rfl (lv_at hl 3 rfl) ?_
                obtain ⟨r12, hc12, hle12, h9⟩ := ox_ex h
                clear h
                refine kx_v (r := y7) (vx_runV (As := [.int (L.1 3)]) (rest := []) ⟨hx, hb, hml, hown, hts⟩ (c_f_X5_clear l hl0 dC dI cy ek a k (lI lZ 1 ((L.1 3))) (uA r8.2 (pR0 ((sKd r8.2 b9))) ((((L.1 4)) + 1)).toNatClampNeg ((((r8.2.1 (fP b10 1))) - ((L.1 4))))) r12 hc12 z H.size) (cwV 1 hts g_f_X5_former_X5_clear_V444 rfl rfl rfl hd_f_X5_clear (by show 8 + 1 ≤ 9 + d ∧ 8 + (2 + 11) + 143 ≤ 173 + 33 * d; omega)) ⟨nb_blindF, va_recv hK hP (ci := 4) (q0 := 40) rfl rfl, (kx_pre hK hG hE hT hA hP hD hS)⟩ rfl rfl hl.1 rfl (lv_room (Nat.le_of_ble_eq_true rfl)) dX5_former_159 ⟨Nat.le_trans (Nat.add_le_add_left hle12.1 _) (Nat.le_of_eq hc), Nat.le_trans (Nat.add_le_add_left hle12.2 _) (Nat.le_of_eq hs)⟩) hK hA hzk hP hD hS (by decide) hno hlocks ?_
                rcases h9 with ⟨h00, y12, hny12, hy⟩ | ⟨h00, hy⟩
                · subst hy
                  have h := hny12
                  refine Or.inl ⟨h00, fun z H locs hz12 hzk hP hD hS => ?_⟩
                  replace hc := (Nat.add_assoc _ _ _).trans hc
                  replace hs := (Nat.add_assoc _ _ _).trans hs
                  refine lv_aload_n hx hb dX5_former_162 rfl (lv_at hl 0 rfl) ?_
                  obtain ⟨b13, hb13, h⟩ := oP_ex h
                  refine hgq_40_2 hx hb hts in_f_X5_former_X5 hown hK hP (hts _ (List.mem_cons_of_mem _ (List.mem_append_left _ (List.mem_append_left _ (List.mem_of_getElem? (i := 24) rfl))))) hb13 dX5_former_163 ?_
                  refine lv_bipush (v := 83) hx hb dX5_former_166 (by decide) ?_
                  refine lv_iload_n hx hb dX5_former_168 rfl (lv_at hl 1 rfl) ?_
                  refine lv_iadd hx hb dX5_former_169 ?_
                  refine lv_iconst (v := 0) hx hb dX5_former_170 (by decide) ?_
                  obtain ⟨r14, hc14, hle14, h9⟩ := ox_ex h
                  clear h
                  refine kx_i (r := y12) (vx_runV (As := [.int (83 + ((L.1 1))), .int 0]) (rest := []) ⟨hx, hb, hml, hown, hts⟩ (c_f_X7_emit__P l hl0 dC dI cy ek a k (lI (lI (lB lZ 0 b13) 1 ((83 + ((L.1 1))))) 2 0) r12.2.1 r14 hc14 z H.size) (cwV 2 hts g_f_X5_former_X7_emit__P_V66 rfl rfl rfl hd_f_X7_emit__P (by show 7 + 1 ≤ 9 + d ∧ 8 + (3 + 11) + 121 ≤ 173 + 33 * d; omega)) ⟨nb_blindF, recvP b13 hK hP, (kx_pre hK hG hE hT hA hP hD hS)⟩ rfl rfl hl.1 rfl (lv_room (Nat.le_of_ble_eq_true rfl)) dX5_former_171 ⟨Nat.le_trans (Nat.add_le_add_left hle14.1 _) (Nat.le_of_eq hc), Nat.le_trans (Nat.add_le_add_left hle14.2 _) (Nat.le_of_eq hs)⟩) hK hA hzk hP hD hS (by decide) hno hlocks ?_
                  rcases h9 with ⟨h00, y14, hny14, hy⟩ | ⟨h00, hy⟩
                  · subst hy
                    have h := hny14
                    refine Or.inl ⟨h00, fun z H locs hz14 hzk hP hD hS => ?_⟩
                    replace hc := (Nat.add_assoc _ _ _).trans hc
                    replace hs := (Nat.add_assoc _ _ _).trans hs
                    refine lv_pop hx hb dX5_former_174 rfl ?_
                    refine lv_aload_n hx hb dX5_former_175 rfl (lv_at hl 0 rfl) ?_
                    obtain ⟨b15, hb15, h⟩ := oP_ex h
                    refine hgq_40_2 hx hb hts in_f_X5_former_X5 hown hK hP (hts _ (List.mem_cons_of_mem _ (List.mem_append_left _ (List.mem_append_left _ (List.mem_of_getElem? (i := 24) rfl))))) hb15 dX5_former_176 ?_
                    refine lv_iload_n hx hb dX5_former_179 rfl (lv_at hl 2 rfl) ?_
                    refine hp_P_11n b15 hx hb hts in_f_X5_former_X7 hown hK hP hD hS (va_Nw.use rfl (hG.1 _ (List.mem_of_getElem? (i := 82) rfl))) dX5_former_180 (fun H locs hP hD hS => ?_)
                    obtain rfl := Option.some.inj h
                    subst hc
                    subst hs
                    exact xr_v hx hb hr hK hzk hP hD hS hlocks dX5_former_183
                  · subst hy
                    exact Or.inr ⟨h00, rfl, hc, hs⟩
                · subst hy
                  exact Or.inr ⟨h00, rfl, hc, hs⟩
              · subst hy
                exact Or.inr ⟨h00, rfl, hc, hs⟩
            · subst hy
              exact Or.inr ⟨h00, rfl, hc, hs⟩
          · subst hy
            exact Or.inr ⟨h00, rfl, hc, hs⟩
        · subst hy
          exact Or.inr ⟨h00, rfl, hc, hs⟩
  exact (blk k0 (Nat.le_refl _)).1 z 0 0 L0 σ0 r0 h0 (zk_rf _ _) ((Nat.zero_add _).trans hmc) ((Nat.zero_add _).trans hms) s.heap [] ls hP hD hS hl
theorem gg_f_X5_functionCall_X5_closes : GoodIn w_f_X5_functionCall w_f_X5_closes := goodIn_sub (fun w h => (List.mem_cons.mp h).elim (fun e => (List.mem_cons_of_mem _ (List.mem_append_left _ (List.mem_append_right _ (List.mem_append_right _ (List.mem_append_right _ (List.mem_append_right _ (List.mem_append_right _ (List.mem_append_right _ (List.mem_append_left _ (List.mem_cons.mpr (Or.inl e)))))))))))) (fun h => (List.mem_append.mp h).elim (fun h => (List.mem_cons_of_mem _ (List.mem_append_left _ (List.mem_append_right _ (List.mem_append_right _ (List.mem_append_right _ (List.mem_append_right _ (List.mem_append_right _ (List.mem_append_right _ (List.mem_append_left _ (List.mem_cons_of_mem _ h))))))))))) (fun h => List.mem_cons_of_mem _ (List.mem_append_right _ h)))) w_f_X5_closes_good
theorem g_f_X5_functionCall_X5_closes_V186 : GoodIn w_f_X5_functionCall (wsV RX5 186 RX5 yX5_closes w_f_X5_closes) := goodIn_app (nb_g4 (List.mem_cons_of_mem _ (List.mem_append_left _ (List.mem_append_left _ (List.mem_of_getElem? (i := 38) rfl)))) (List.mem_cons_of_mem _ (List.mem_append_left _ (List.mem_append_left _ (List.mem_of_getElem? (i := 39) rfl)))) (List.mem_cons_of_mem _ (List.mem_append_left _ (List.mem_append_left _ (List.mem_of_getElem? (i := 40) rfl)))) (List.mem_cons_of_mem _ (List.mem_append_left _ (List.mem_append_left _ (List.mem_of_getElem? (i := 17) rfl)))) (by decide +kernel)) gg_f_X5_functionCall_X5_closes
theorem gg_f_X5_functionCall_X5_exps : GoodIn w_f_X5_functionCall w_f_X5_exps := goodIn_sub (fun w h => (List.mem_cons.mp h).elim (fun e => e ▸ (List.mem_cons_of_mem _ (List.mem_append_left _ (List.mem_append_left _ (List.mem_of_getElem? (i := 2) rfl))))) (fun h => List.mem_cons_of_mem _ h)) w_f_X5_exps_good
theorem g_f_X5_functionCall_X5_exps_V233 : GoodIn w_f_X5_functionCall (wsV RX5 233 RX5 yX5_exps w_f_X5_exps) := goodIn_app (nb_g4 (List.mem_cons_of_mem _ (List.mem_append_left _ (List.mem_append_left _ (List.mem_of_getElem? (i := 73) rfl)))) (List.mem_cons_of_mem _ (List.mem_append_left _ (List.mem_append_left _ (List.mem_of_getElem? (i := 74) rfl)))) (List.mem_cons_of_mem _ (List.mem_append_left _ (List.mem_append_left _ (List.mem_of_getElem? (i := 75) rfl)))) (List.mem_cons_of_mem _ (List.mem_append_left _ (List.mem_append_left _ (List.mem_of_getElem? (i := 17) rfl)))) (by decide +kernel)) gg_f_X5_functionCall_X5_exps
theorem gg_f_X5_functionCall_X5_opens : GoodIn w_f_X5_functionCall w_f_X5_opens := goodIn_sub (fun w h => (List.mem_cons.mp h).elim (fun e => (List.mem_cons_of_mem _ (List.mem_append_left _ (List.mem_append_right _ (List.mem_append_left _ (List.mem_cons.mpr (Or.inl e))))))) (fun h => (List.mem_append.mp h).elim (fun h => (List.mem_cons_of_mem _ (List.mem_append_left _ (List.mem_append_right _ (List.mem_append_left _ (List.mem_cons_of_mem _ h)))))) (fun h => List.mem_cons_of_mem _ (List.mem_append_right _ h)))) w_f_X5_opens_good
theorem g_f_X5_functionCall_X5_opens_V173 : GoodIn w_f_X5_functionCall (wsV RX5 173 RX5 yX5_opens w_f_X5_opens) := goodIn_app (nb_g4 (List.mem_cons_of_mem _ (List.mem_append_left _ (List.mem_append_left _ (List.mem_of_getElem? (i := 14) rfl)))) (List.mem_cons_of_mem _ (List.mem_append_left _ (List.mem_append_left _ (List.mem_of_getElem? (i := 15) rfl)))) (List.mem_cons_of_mem _ (List.mem_append_left _ (List.mem_append_left _ (List.mem_of_getElem? (i := 16) rfl)))) (List.mem_cons_of_mem _ (List.mem_append_left _ (List.mem_append_left _ (List.mem_of_getElem? (i := 17) rfl)))) (by decide +kernel)) gg_f_X5_functionCall_X5_opens
theorem gg_f_X5_functionCall_X5_refuse : GoodIn w_f_X5_functionCall w_f_X5_refuse := goodIn_sub (fun w h => (List.mem_cons.mp h).elim (fun e => (List.mem_cons_of_mem _ (List.mem_append_left _ (List.mem_append_right _ (List.mem_append_right _ (List.mem_append_right _ (List.mem_append_right _ (List.mem_append_right _ (List.mem_append_right _ (List.mem_append_right _ (List.mem_append_right _ (List.mem_append_right _ (List.mem_append_right _ (List.mem_append_right _ (List.mem_append_right _ (List.mem_append_right _ (List.mem_append_right _ (List.mem_append_right _ (List.mem_append_right _ (List.mem_append_left _ (List.mem_cons.mpr (Or.inl e)))))))))))))))))))))) (fun h => (List.mem_append.mp h).elim (fun h => (List.mem_cons_of_mem _ (List.mem_append_left _ (List.mem_append_right _ (List.mem_append_right _ (List.mem_append_right _ (List.mem_append_right _ (List.mem_append_right _ (List.mem_append_right _ (List.mem_append_right _ (List.mem_append_right _ (List.mem_append_right _ (List.mem_append_right _ (List.mem_append_right _ (List.mem_append_right _ (List.mem_append_right _ (List.mem_append_right _ (List.mem_append_right _ (List.mem_append_right _ (List.mem_append_left _ (List.mem_cons_of_mem _ h))))))))))))))))))))) (fun h => List.mem_cons_of_mem _ (List.mem_append_right _ h)))) w_f_X5_refuse_good
theorem g_f_X5_functionCall_X5_refuse_V125 : GoodIn w_f_X5_functionCall (wsV RX5 125 RX5 yX5_refuse w_f_X5_refuse) := goodIn_app (nb_g4 (List.mem_cons_of_mem _ (List.mem_append_left _ (List.mem_append_left _ (List.mem_of_getElem? (i := 79) rfl)))) (List.mem_cons_of_mem _ (List.mem_append_left _ (List.mem_append_left _ (List.mem_of_getElem? (i := 80) rfl)))) (List.mem_cons_of_mem _ (List.mem_append_left _ (List.mem_append_left _ (List.mem_of_getElem? (i := 81) rfl)))) (List.mem_cons_of_mem _ (List.mem_append_left _ (List.mem_append_left _ (List.mem_of_getElem? (i := 17) rfl)))) (by decide +kernel)) gg_f_X5_functionCall_X5_refuse
theorem gg_f_X5_functionCall_X5_want : GoodIn w_f_X5_functionCall w_f_X5_want := goodIn_sub (fun w h => (List.mem_cons.mp h).elim (fun e => (List.mem_cons_of_mem _ (List.mem_append_left _ (List.mem_append_right _ (List.mem_append_right _ (List.mem_append_right _ (List.mem_append_right _ (List.mem_append_right _ (List.mem_append_right _ (List.mem_append_right _ (List.mem_append_right _ (List.mem_append_right _ (List.mem_append_right _ (List.mem_append_right _ (List.mem_append_right _ (List.mem_append_right _ (List.mem_append_right _ (List.mem_append_right _ (List.mem_append_left _ (List.mem_cons.mpr (Or.inl e))))))))))))))))))))) (fun h => (List.mem_append.mp h).elim (fun h => (List.mem_cons_of_mem _ (List.mem_append_left _ (List.mem_append_right _ (List.mem_append_right _ (List.mem_append_right _ (List.mem_append_right _ (List.mem_append_right _ (List.mem_append_right _ (List.mem_append_right _ (List.mem_append_right _ (List.mem_append_right _ (List.mem_append_right _ (List.mem_append_right _ (List.mem_append_right _ (List.mem_append_right _ (List.mem_append_right _ (List.mem_append_right _ (List.mem_append_left _ (List.mem_cons_of_mem _ h)))))))))))))))))))) (fun h => List.mem_cons_of_mem _ (List.mem_append_right _ h)))) w_f_X5_want_good
theorem g_f_X5_functionCall_X5_want_V61 : GoodIn w_f_X5_functionCall (wsV RX5 61 RX5 yX5_want w_f_X5_want) := goodIn_app (nb_g4 (List.mem_cons_of_mem _ (List.mem_append_left _ (List.mem_append_left _ (List.mem_of_getElem? (i := 76) rfl)))) (List.mem_cons_of_mem _ (List.mem_append_left _ (List.mem_append_left _ (List.mem_of_getElem? (i := 77) rfl)))) (List.mem_cons_of_mem _ (List.mem_append_left _ (List.mem_append_left _ (List.mem_of_getElem? (i := 78) rfl)))) (List.mem_cons_of_mem _ (List.mem_append_left _ (List.mem_append_left _ (List.mem_of_getElem? (i := 17) rfl)))) (by decide +kernel)) gg_f_X5_functionCall_X5_want
theorem gg_f_X5_functionCall_X7_emit__P : GoodIn w_f_X5_functionCall w_f_X7_emit__P := goodIn_sub (fun w h => (List.mem_cons.mp h).elim (fun e => (List.mem_cons_of_mem _ (List.mem_append_left _ (List.mem_append_right _ (List.mem_append_right _ (List.mem_append_right _ (List.mem_append_left _ (List.mem_cons.mpr (Or.inl e))))))))) (fun h => (List.mem_append.mp h).elim (fun h => (List.mem_cons_of_mem _ (List.mem_append_left _ (List.mem_append_right _ (List.mem_append_right _ (List.mem_append_right _ (List.mem_append_left _ (List.mem_cons_of_mem _ h)))))))) (fun h => List.mem_cons_of_mem _ (List.mem_append_right _ h)))) w_f_X7_emit__P_good
theorem g_f_X5_functionCall_X7_emit__P_V66 : GoodIn w_f_X5_functionCall (wsV RX5 66 RX7 yX7_emit w_f_X7_emit__P) := goodIn_app (nb_g4 (List.mem_cons_of_mem _ (List.mem_append_left _ (List.mem_append_left _ (List.mem_of_getElem? (i := 25) rfl)))) (List.mem_cons_of_mem _ (List.mem_append_left _ (List.mem_append_left _ (List.mem_of_getElem? (i := 26) rfl)))) (List.mem_cons_of_mem _ (List.mem_append_left _ (List.mem_append_left _ (List.mem_of_getElem? (i := 27) rfl)))) (List.mem_cons_of_mem _ (List.mem_append_left _ (List.mem_append_left _ (List.mem_of_getElem? (i := 28) rfl)))) (by decide +kernel)) gg_f_X5_functionCall_X7_emit__P
theorem gg_f_X5_functionCall_X7_word__P : GoodIn w_f_X5_functionCall w_f_X7_word__P := goodIn_sub (fun w h => (List.mem_cons.mp h).elim (fun e => (List.mem_cons_of_mem _ (List.mem_append_left _ (List.mem_append_right _ (List.mem_append_right _ (List.mem_append_right _ (List.mem_append_right _ (List.mem_append_right _ (List.mem_append_right _ (List.mem_append_right _ (List.mem_append_right _ (List.mem_append_right _ (List.mem_append_right _ (List.mem_append_right _ (List.mem_append_right _ (List.mem_append_right _ (List.mem_append_right _ (List.mem_append_right _ (List.mem_append_right _ (List.mem_append_right _ (List.mem_append_left _ (List.mem_cons.mpr (Or.inl e))))))))))))))))))))))) (fun h => (List.mem_append.mp h).elim (fun h => (List.mem_cons_of_mem _ (List.mem_append_left _ (List.mem_append_right _ (List.mem_append_right _ (List.mem_append_right _ (List.mem_append_right _ (List.mem_append_right _ (List.mem_append_right _ (List.mem_append_right _ (List.mem_append_right _ (List.mem_append_right _ (List.mem_append_right _ (List.mem_append_right _ (List.mem_append_right _ (List.mem_append_right _ (List.mem_append_right _ (List.mem_append_right _ (List.mem_append_right _ (List.mem_append_right _ (List.mem_append_left _ (List.mem_cons_of_mem _ h)))))))))))))))))))))) (fun h => List.mem_cons_of_mem _ (List.mem_append_right _ h)))) w_f_X7_word__P_good
theorem g_f_X5_functionCall_X7_word__P_V243 : GoodIn w_f_X5_functionCall (wsV RX5 243 RX7 yX7_word w_f_X7_word__P) := goodIn_app (nb_g4 (List.mem_cons_of_mem _ (List.mem_append_left _ (List.mem_append_left _ (List.mem_of_getElem? (i := 82) rfl)))) (List.mem_cons_of_mem _ (List.mem_append_left _ (List.mem_append_left _ (List.mem_of_getElem? (i := 83) rfl)))) (List.mem_cons_of_mem _ (List.mem_append_left _ (List.mem_append_left _ (List.mem_of_getElem? (i := 84) rfl)))) (List.mem_cons_of_mem _ (List.mem_append_left _ (List.mem_append_left _ (List.mem_of_getElem? (i := 28) rfl)))) (by decide +kernel)) gg_f_X5_functionCall_X7_word__P
set_option maxHeartbeats 40000000 in
set_option maxRecDepth 100000 in
theorem c_t_X5_functionCall (l : Launch) (hl0 : l.stackTraces = false) (dC : Nat → ClassId) (dI : Nat → Nat → Nat) (cy : Nat → ClassId) (ek a : Nat → Nat) (k0 : Nat) (IH : ∀ j : Nat, j < k0 → P_F2 l dC dI cy ek a j) (d : Nat) (L0 : LV) (σ0 : CS) (r0 : RS) (h0 : f_F2 k0 d 4 0 L0 σ0 = some r0) (z : Nat → Nat) (sz : Nat) : vx_Met l yX5_functionCall w_f_X5_functionCall ({ frames := 9 + d, cells := r0.2.2.1, slots := r0.2.2.2, locals := 173 + 33 * d }) (va_Pc [.ref (a 40), .int (L0.1 1)] (nInF (dC, dI) cy ek sz (vC cy a z σ0))) (xV dC dI cy a (va_A (vC cy a z σ0) sz) [41, 43, 51] z r0) (xX dC dI cy a (va_A (vC cy a z σ0) sz) [41, 43, 51] z r0) r0.2.2.1 r0.2.2.2 (va_A (vC cy a z σ0) sz) := by
  refine vx_ofW (cc := cX5_functionCall) (maxL := 4) (ret := none) (by decide) rfl ?_
  intro p e s m args below meth c s₁ B hml hno hv
  obtain ⟨rfl, ⟨⟨hsz, hP, hK, hD0, hG⟩, hE⟩, hT⟩ := hv
  have hx := B.exec
  have hb := B.bytes
  have hr := B.returns
  have hts := atoms_spec (ws := w_f_X5_functionCall) B.pre
  have hown : s.vm.findClass RX5 = some m.cls := findClass_of_methodNamed B.named
  have hlocks := B.notSynchronized
  subst hsz
  have hD := hD0.self (sz := s.heap.size)
  generalize hAe : va_A (vC cy a z σ0) s.heap.size = A at hD hE hT ⊢
  have hA : ∀ q : Nat, s.heap.size ≤ q → A q := fun q h => by rw [← hAe]; exact Or.inr h
  have hS : va_S A s.heap s.heap [] := va_S.rf
  have hl := lv_entry ([.ref (a 40), .int (L0.1 1)]) (n := 4) (Nat.le_of_ble_eq_true rfl)
  rw [lg_entry_eq]
  generalize (lg_sl ([.ref (a 40), .int (L0.1 1)]) ++ List.replicate (4 - (lg_sl ([.ref (a 40), .int (L0.1 1)])).length) Slot.unset).toArray = ls at hl ⊢
  have hl : lv_has ls 4 [(0, .ref (a 40)), (1, .int (L0.1 1))] := hl
  generalize hmc : r0.2.2.1 = mc
  generalize hms : r0.2.2.2 = ms
  have blk : ∀ k : Nat, k ≤ k0 → (bX p l e (headSpec w_f_X5_functionCall ({ frames := 9 + d, cells := mc, slots := ms, locals := 173 + 33 * d })).room s m #[.ref (a 40), .int (L0.1 1)] below meth c dC dI cy a A (fun r => vx_MQ below (xV dC dI cy a A [41, 43, 51] z r) (xX dC dI cy a A [41, 43, 51] z r) #[.ref (a 40), .int (L0.1 1)] s mc ms A) [41, 43, 51] z mc ms 4 (f_F2 k d 4 0) (fun z L => [(0, .ref (a 40)), (1, .int (L.1 1))]) 0 (fun z L => [])) ∧ (bX p l e (headSpec w_f_X5_functionCall ({ frames := 9 + d, cells := mc, slots := ms, locals := 173 + 33 * d })).room s m #[.ref (a 40), .int (L0.1 1)] below meth c dC dI cy a A (fun r => vx_MQ below (xV dC dI cy a A [41, 43, 51] z r) (xX dC dI cy a A [41, 43, 51] z r) #[.ref (a 40), .int (L0.1 1)] s mc ms A) [41, 43, 51] z mc ms 4 (f_F2 k d 4 1) (fun z L => [(0, .ref (a 40)), (1, .int (L.1 1)), (2, .int (L.1 2))]) 36 (fun z L => [])) ∧ (bX p l e (headSpec w_f_X5_functionCall ({ frames := 9 + d, cells := mc, slots := ms, locals := 173 + 33 * d })).room s m #[.ref (a 40), .int (L0.1 1)] below meth c dC dI cy a A (fun r => vx_MQ below (xV dC dI cy a A [41, 43, 51] z r) (xX dC dI cy a A [41, 43, 51] z r) #[.ref (a 40), .int (L0.1 1)] s mc ms A) [41, 43, 51] z mc ms 4 (f_F2 k d 4 2) (fun z L => [(0, .ref (a 40)), (1, .int (L.1 1)), (2, .int (L.1 2))]) 40 (fun z L => [.int (L.1 100)])) ∧ (bX p l e (headSpec w_f_X5_functionCall ({ frames := 9 + d, cells := mc, slots := ms, locals := 173 + 33 * d })).room s m #[.ref (a 40), .int (L0.1 1)] below meth c dC dI cy a A (fun r => vx_MQ below (xV dC dI cy a A [41, 43, 51] z r) (xX dC dI cy a A [41, 43, 51] z r) #[.ref (a 40), .int (L0.1 1)] s mc ms A) [41, 43, 51] z mc ms 4 (f_F2 k d 4 3) (fun z L => [(0, .ref (a 40)), (1, .int (L.1 1)), (2, .int (L.1 2))]) 73 (fun z L => [])) := by
    intro k
    induction k with
    | zero => exact fun _ => ⟨fun z c1 c2 L σ r h => (by cases h), fun z c1 c2 L σ r h => (by cases h), fun z c1 c2 L σ r h => (by cases h), fun z c1 c2 L σ r h => (by cases h)⟩
    | succ k ih =>
      intro hk
      replace ih := ih (by omega)
      refine ⟨?_, ?_, ?_, ?_⟩
      · intro z cells slots L σ r h hzk hc hs H locs ls hP hD hS hl
        rw [f_F2_4, t_X5_functionCall_0] at h
        refine lv_aload_n hx hb dX5_functionCall_0 rfl (lv_at hl 0 rfl) ?_
        obtain ⟨b1, hb1, h⟩ := oP_ex h
        refine hgq_40_2 hx hb hts in_f_X5_functionCall_X5 hown hK hP (hts _ (List.mem_cons_of_mem _ (List.mem_append_left _ (List.mem_append_left _ (List.mem_of_getElem? (i := 24) rfl))))) hb1 dX5_functionCall_1 ?_
        refine lv_bipush (v := 16) hx hb dX5_functionCall_4 (by decide) ?_
        refine lv_iconst (v := 0) hx hb dX5_functionCall_6 (by decide) ?_
        obtain ⟨r2, hc2, hle2, h9⟩ := ox_ex h
        clear h
        refine kx_i (vx_runV (As := [.int 16, .int 0]) (rest := []) ⟨hx, hb, hml, hown, hts⟩ (c_f_X7_emit__P l hl0 dC dI cy ek a k (lI (lI (lB lZ 0 b1) 1 16) 2 0) σ r2 hc2 z H.size) (cwV 2 hts g_f_X5_functionCall_X7_emit__P_V66 rfl rfl rfl hd_f_X7_emit__P (by show 7 + 1 ≤ 9 + d ∧ 8 + (3 + 11) + 121 ≤ 173 + 33 * d; omega)) ⟨nb_blindF, recvP b1 hK hP, (kx_pre hK hG hE hT hA hP hD hS)⟩ rfl rfl hl.1 rfl (lv_room (Nat.le_of_ble_eq_true rfl)) dX5_functionCall_7 ⟨Nat.le_trans (Nat.add_le_add_left hle2.1 _) (Nat.le_of_eq hc), Nat.le_trans (Nat.add_le_add_left hle2.2 _) (Nat.le_of_eq hs)⟩) hK hA hzk hP hD hS (by decide) hno hlocks ?_
        rcases h9 with ⟨h00, y2, hny2, hy⟩ | ⟨h00, hy⟩
        · subst hy
          have h := hny2
          refine Or.inl ⟨h00, fun z H locs hz2 hzk hP hD hS => ?_⟩
          replace hc := (Nat.add_assoc _ _ _).trans hc
          replace hs := (Nat.add_assoc _ _ _).trans hs
          refine lv_pop hx hb dX5_functionCall_10 rfl ?_
          refine lv_aload_n hx hb dX5_functionCall_11 rfl (lv_at hl 0 rfl) ?_
          obtain ⟨r3, hc3, hle3, h9⟩ := ox_ex h
          clear h
          refine kx_v (r := y2) (vx_runV (As := []) (rest := []) ⟨hx, hb, hml, hown, hts⟩ (c_f_X5_opens l hl0 dC dI cy ek a k lZ r2.2.1 r3 hc3 z H.size) (cwV 0 hts g_f_X5_functionCall_X5_opens_V173 rfl rfl rfl hd_f_X5_opens (by show 7 + 1 ≤ 9 + d ∧ 8 + (1 + 11) + 126 ≤ 173 + 33 * d; omega)) ⟨nb_blindF, va_recv hK hP (ci := 4) (q0 := 40) rfl rfl, (kx_pre hK hG hE hT hA hP hD hS)⟩ rfl rfl hl.1 rfl (lv_room (Nat.le_of_ble_eq_true rfl)) dX5_functionCall_12 ⟨Nat.le_trans (Nat.add_le_add_left hle3.1 _) (Nat.le_of_eq hc), Nat.le_trans (Nat.add_le_add_left hle3.2 _) (Nat.le_of_eq hs)⟩) hK hA hzk hP hD hS (by decide) hno hlocks ?_
          rcases h9 with ⟨h00, y3, hny3, hy⟩ | ⟨h00, hy⟩
          · subst hy
            have h := hny3
            refine Or.inl ⟨h00, fun u H locs hz3 hzk hP hD hS => ?_⟩
            obtain rfl := (zk_nil hz3).symm
            replace hc := (Nat.add_assoc _ _ _).trans hc
            replace hs := (Nat.add_assoc _ _ _).trans hs
            refine lv_aload_n hx hb dX5_functionCall_15 rfl (lv_at hl 0 rfl) ?_
            refine hg_40_5 hx hb hts in_f_X5_functionCall_X5 hown hK hP (hts _ (List.mem_cons_of_mem _ (List.mem_append_left _ (List.mem_append_left _ (List.mem_of_getElem? (i := 72) rfl))))) dX5_functionCall_16 ?_
            refine lv_istore_n (lv' := [(2, .int (r3.2.1.1 4005)), (0, .ref (a 40)), (1, .int (L.1 1))]) hx hb dX5_functionCall_19 rfl hl (by decide) rfl (fun ls hl => ?_)
            refine lv_aload_n hx hb dX5_functionCall_20 rfl (lv_at hl 1 rfl) ?_
            refine hg_40_0 hx hb hts in_f_X5_functionCall_X5 hown hK hP (hts _ (List.mem_cons_of_mem _ (List.mem_append_left _ (List.mem_append_left _ (List.mem_of_getElem? (i := 33) rfl))))) dX5_functionCall_21 ?_
            refine hg_37_2n hx hb hts in_f_X5_functionCall_X2 hown hK hP (va_Nw.use rfl (hG.1 _ (List.mem_of_getElem? (i := 52) rfl))) dX5_functionCall_24 ?_
            refine lv_bipush (v := 11) hx hb dX5_functionCall_27 (by decide) ?_
            refine lv_icmp_ne (tgt := 36) hx hb dX5_functionCall_29 (by decide) (fun c4 => ?_) (fun c4 => ?_)
            · rw [if_neg c4] at h
              exact ih.2.1 z _ _ (lI L 2 ((r3.2.1.1 4005))) r3.2.1 _ h hzk hc hs H locs ls hP hD hS (lv_sub hl [1, 2, 0] rfl)
            · rw [if_pos c4] at h
              refine lv_iconst (v := 0) hx hb dX5_functionCall_32 (by decide) ?_
              refine lv_goto (tgt := 40) hx hb dX5_functionCall_33 (by decide) ?_
              exact ih.2.2.1 z _ _ (lI (lI L 2 ((r3.2.1.1 4005))) 100 0) r3.2.1 _ h hzk hc hs H locs ls hP hD hS (lv_sub hl [1, 2, 0] rfl)
          · subst hy
            exact Or.inr ⟨h00, rfl, hc, hs⟩
        · subst hy
          exact Or.inr ⟨h00, rfl, hc, hs⟩
      · intro z cells slots L σ r h hzk hc hs H locs ls hP hD hS hl
        rw [f_F2_4, t_X5_functionCall_1] at h
        refine lv_aload_n hx hb dX5_functionCall_36 rfl (lv_at hl 0 rfl) ?_
        obtain ⟨e1, he1, h⟩ := of_ex h
        obtain ⟨r1, hc1, hle1, h9⟩ := ox_ex h
        clear h
        refine kx_i (vx_runV (As := []) (rest := []) ⟨hx, hb, hml, hown, hts⟩ ((IH k (by omega)).2.2.1 e1 lZ σ r1 hc1 z H.size) (cwV 0 hts g_f_X5_functionCall_X5_exps_V233 rfl rfl rfl hd_f_X5_exps (by show (9 + e1) + 1 ≤ 9 + d ∧ 8 + (3 + 11) + (173 + 33 * e1) ≤ 173 + 33 * d; omega)) ⟨nb_blindF, va_recv hK hP (ci := 4) (q0 := 40) rfl rfl, (kx_pre hK hG hE hT hA hP hD hS)⟩ rfl rfl hl.1 rfl (lv_room (Nat.le_of_ble_eq_true rfl)) dX5_functionCall_37 ⟨Nat.le_trans (Nat.add_le_add_left hle1.1 _) (Nat.le_of_eq hc), Nat.le_trans (Nat.add_le_add_left hle1.2 _) (Nat.le_of_eq hs)⟩) hK hA hzk hP hD hS (by decide) hno hlocks ?_
        rcases h9 with ⟨h00, y1, hny1, hy⟩ | ⟨h00, hy⟩
        · subst hy
          have h := hny1
          refine Or.inl ⟨h00, fun z H locs hz1 hzk hP hD hS => ?_⟩
          replace hc := (Nat.add_assoc _ _ _).trans hc
          replace hs := (Nat.add_assoc _ _ _).trans hs
          exact ih.2.2.1 z _ _ (lI L 100 r1.1.2) r1.2.1 _ h hzk hc hs H locs ls hP hD hS (lv_sub hl [0, 1, 2] rfl)
        · subst hy
          exact Or.inr ⟨h00, rfl, hc, hs⟩
      · intro z cells slots L σ r h hzk hc hs H locs ls hP hD hS hl
        rw [f_F2_4, t_X5_functionCall_2] at h
        refine lv_istore_n (lv' := [(3, .int (L.1 100)), (0, .ref (a 40)), (1, .int (L.1 1)), (2, .int (L.1 2))]) hx hb dX5_functionCall_40 rfl hl (by decide) rfl (fun ls hl => ?_)
        refine lv_aload_n hx hb dX5_functionCall_41 rfl (lv_at hl 1 rfl) ?_
        refine lv_bipush (v := 11) hx hb dX5_functionCall_42 (by decide) ?_
        obtain ⟨r1, hc1, hle1, h9⟩ := ox_ex h
        clear h
        refine kx_v (vx_runV (As := [.int 11]) (rest := []) ⟨hx, hb, hml, hown, hts⟩ (c_f_X5_want l hl0 dC dI cy ek a k (lI lZ 1 11) σ r1 hc1 z H.size) (cwV 1 hts g_f_X5_functionCall_X5_want_V61 rfl rfl rfl hd_f_X5_want (by show 7 + 1 ≤ 9 + d ∧ 8 + (2 + 11) + 122 ≤ 173 + 33 * d; omega)) ⟨nb_blindF, va_recv hK hP (ci := 4) (q0 := 40) rfl rfl, (kx_pre hK hG hE hT hA hP hD hS)⟩ rfl rfl hl.1 rfl (lv_room (Nat.le_of_ble_eq_true rfl)) dX5_functionCall_44 ⟨Nat.le_trans (Nat.add_le_add_left hle1.1 _) (Nat.le_of_eq hc), Nat.le_trans (Nat.add_le_add_left hle1.2 _) (Nat.le_of_eq hs)⟩) hK hA hzk hP hD hS (by decide) hno hlocks ?_
        rcases h9 with ⟨h00, y1, hny1, hy⟩ | ⟨h00, hy⟩
        · subst hy
          have h := hny1
          refine Or.inl ⟨h00, fun u H locs hz1 hzk hP hD hS => ?_⟩
          obtain rfl := (zk_nil hz1).symm
          replace hc := (Nat.add_assoc _ _ _).trans hc
          replace hs := (Nat.add_assoc _ _ _).trans hs
          refine lv_iload_n hx hb dX5_functionCall_47 rfl (lv_at hl 0 rfl) ?_
          refine lv_aload_n hx hb dX5_functionCall_48 rfl (lv_at hl 1 rfl) ?_
          obtain ⟨b2, hb2, h⟩ := oP_ex h
          refine hgq_40_2 hx hb hts in_f_X5_functionCall_X5 hown hK hP (hts _ (List.mem_cons_of_mem _ (List.mem_append_left _ (List.mem_append_left _ (List.mem_of_getElem? (i := 24) rfl))))) hb2 dX5_functionCall_49 ?_
          refine hg_P_14n b2 hx hb hts in_f_X5_functionCall_X7 hown hK hP (va_Nw.use rfl (hG.1 _ (List.mem_of_getElem? (i := 85) rfl))) dX5_functionCall_52 ?_
          refine lv_iload_n hx hb dX5_functionCall_55 rfl (lv_at hl 2 rfl) ?_
          obtain ⟨q3, h⟩ := kr_ite1 h
          refine hl_P14 b2 hx hb hK hP q3 dX5_functionCall_56 ?_
          refine lv_icmp_eq (tgt := 73) hx hb dX5_functionCall_57 (by decide) (fun c4 => ?_) (fun c4 => ?_)
          · rw [if_pos c4] at h
            exact ih.2.2.2 z _ _ L r1.2.1 _ h hzk hc hs H locs ls hP hD hS (lv_sub hl [1, 2, 3] rfl)
          · rw [if_neg c4] at h
            refine lv_aload_n hx hb dX5_functionCall_60 rfl (lv_at hl 1 rfl) ?_
            refine lv_bipush (v := 6) hx hb dX5_functionCall_61 (by decide) ?_
            refine lv_aload_n hx hb dX5_functionCall_63 rfl (lv_at hl 1 rfl) ?_
            refine hg_40_0 hx hb hts in_f_X5_functionCall_X5 hown hK hP (hts _ (List.mem_cons_of_mem _ (List.mem_append_left _ (List.mem_append_left _ (List.mem_of_getElem? (i := 33) rfl))))) dX5_functionCall_64 ?_
            refine hg_37_3n hx hb hts in_f_X5_functionCall_X2 hown hK hP (va_Nw.use rfl (hG.1 _ (List.mem_of_getElem? (i := 54) rfl))) dX5_functionCall_67 ?_
            obtain ⟨r5, hc5, hle5, h9⟩ := ox_ex h
            clear h
            refine kx_v (r := y1) (vx_runV (As := [.int 6, .int (r1.2.1.1 3703)]) (rest := []) ⟨hx, hb, hml, hown, hts⟩ (c_f_X5_refuse l hl0 dC dI cy ek a k (lI (lI lZ 1 6) 2 ((r1.2.1.1 3703))) r1.2.1 r5 hc5 z H.size) (cwV 2 hts g_f_X5_functionCall_X5_refuse_V125 rfl rfl rfl hd_f_X5_refuse (by show 6 + 1 ≤ 9 + d ∧ 8 + (3 + 11) + 100 ≤ 173 + 33 * d; omega)) ⟨nb_blindF, va_recv hK hP (ci := 4) (q0 := 40) rfl rfl, (kx_pre hK hG hE hT hA hP hD hS)⟩ rfl rfl hl.1 rfl (lv_room (Nat.le_of_ble_eq_true rfl)) dX5_functionCall_70 ⟨Nat.le_trans (Nat.add_le_add_left hle5.1 _) (Nat.le_of_eq hc), Nat.le_trans (Nat.add_le_add_left hle5.2 _) (Nat.le_of_eq hs)⟩) hK hA hzk hP hD hS (by decide) hno hlocks ?_
            rcases h9 with ⟨h00, y5, hny5, hy⟩ | ⟨h00, hy⟩
            · subst hy
              have h := hny5
              refine Or.inl ⟨h00, fun u H locs hz5 hzk hP hD hS => ?_⟩
              obtain rfl := (zk_nil hz5).symm
              replace hc := (Nat.add_assoc _ _ _).trans hc
              replace hs := (Nat.add_assoc _ _ _).trans hs
              exact ih.2.2.2 z _ _ L r5.2.1 _ h hzk hc hs H locs ls hP hD hS (lv_sub hl [1, 2, 3] rfl)
            · subst hy
              exact Or.inr ⟨h00, rfl, hc, hs⟩
        · subst hy
          exact Or.inr ⟨h00, rfl, hc, hs⟩
      · intro z cells slots L σ r h hzk hc hs H locs ls hP hD hS hl
        rw [f_F2_4, t_X5_functionCall_3] at h
        refine lv_aload_n hx hb dX5_functionCall_73 rfl (lv_at hl 0 rfl) ?_
        refine lv_bipush (v := 11) hx hb dX5_functionCall_74 (by decide) ?_
        obtain ⟨r1, hc1, hle1, h9⟩ := ox_ex h
        clear h
        refine kx_v (vx_runV (As := [.int 11]) (rest := []) ⟨hx, hb, hml, hown, hts⟩ (c_f_X5_closes l hl0 dC dI cy ek a k (lI lZ 1 11) σ r1 hc1 z H.size) (cwV 1 hts g_f_X5_functionCall_X5_closes_V186 rfl rfl rfl hd_f_X5_closes (by show 7 + 1 ≤ 9 + d ∧ 8 + (2 + 11) + 126 ≤ 173 + 33 * d; omega)) ⟨nb_blindF, va_recv hK hP (ci := 4) (q0 := 40) rfl rfl, (kx_pre hK hG hE hT hA hP hD hS)⟩ rfl rfl hl.1 rfl (lv_room (Nat.le_of_ble_eq_true rfl)) dX5_functionCall_76 ⟨Nat.le_trans (Nat.add_le_add_left hle1.1 _) (Nat.le_of_eq hc), Nat.le_trans (Nat.add_le_add_left hle1.2 _) (Nat.le_of_eq hs)⟩) hK hA hzk hP hD hS (by decide) hno hlocks ?_
        rcases h9 with ⟨h00, y1, hny1, hy⟩ | ⟨h00, hy⟩
        · subst hy
          have h := hny1
          refine Or.inl ⟨h00, fun u H locs hz1 hzk hP hD hS => ?_⟩
          obtain rfl := (zk_nil hz1).symm
          replace hc := (Nat.add_assoc _ _ _).trans hc
          replace hs := (Nat.add_assoc _ _ _).trans hs
          refine lv_aload_n hx hb dX5_functionCall_79 rfl (lv_at hl 0 rfl) ?_
          obtain ⟨b2, hb2, h⟩ := oP_ex h
          refine hgq_40_2 hx hb hts in_f_X5_functionCall_X5 hown hK hP (hts _ (List.mem_cons_of_mem _ (List.mem_append_left _ (List.mem_append_left _ (List.mem_of_getElem? (i := 24) rfl))))) hb2 dX5_functionCall_80 ?_
          refine lv_bipush (v := 17) hx hb dX5_functionCall_83 (by decide) ?_
          refine lv_iload_n hx hb dX5_functionCall_85 rfl (lv_at hl 1 rfl) ?_
          obtain ⟨r3, hc3, hle3, h9⟩ := ox_ex h
          clear h
          refine kx_i (r := y1) (vx_runV (As := [.int 17, .int (L.1 1)]) (rest := []) ⟨hx, hb, hml, hown, hts⟩ (c_f_X7_emit__P l hl0 dC dI cy ek a k (lI (lI (lB lZ 0 b2) 1 17) 2 ((L.1 1))) r1.2.1 r3 hc3 z H.size) (cwV 2 hts g_f_X5_functionCall_X7_emit__P_V66 rfl rfl rfl hd_f_X7_emit__P (by show 7 + 1 ≤ 9 + d ∧ 8 + (3 + 11) + 121 ≤ 173 + 33 * d; omega)) ⟨nb_blindF, recvP b2 hK hP, (kx_pre hK hG hE hT hA hP hD hS)⟩ rfl rfl hl.1 rfl (lv_room (Nat.le_of_ble_eq_true rfl)) dX5_functionCall_86 ⟨Nat.le_trans (Nat.add_le_add_left hle3.1 _) (Nat.le_of_eq hc), Nat.le_trans (Nat.add_le_add_left hle3.2 _) (Nat.le_of_eq hs)⟩) hK hA hzk hP hD hS (by decide) hno hlocks ?_
          rcases h9 with ⟨h00, y3, hny3, hy⟩ | ⟨h00, hy⟩
          · subst hy
            have h := hny3
            refine Or.inl ⟨h00, fun z H locs hz3 hzk hP hD hS => ?_⟩
            replace hc := (Nat.add_assoc _ _ _).trans hc
            replace hs := (Nat.add_assoc _ _ _).trans hs
            refine lv_pop hx hb dX5_functionCall_89 rfl ?_
            refine lv_aload_n hx hb dX5_functionCall_90 rfl (lv_at hl 0 rfl) ?_
            obtain ⟨b4, hb4, h⟩ := oP_ex h
            refine hgq_40_2 hx hb hts in_f_X5_functionCall_X5 hown hK hP (hts _ (List.mem_cons_of_mem _ (List.mem_append_left _ (List.mem_append_left _ (List.mem_of_getElem? (i := 24) rfl))))) hb4 dX5_functionCall_91 ?_
            refine lv_iload_n hx hb dX5_functionCall_94 rfl (lv_at hl 2 rfl) ?_
            refine lv_aload_n hx hb dX5_functionCall_95 rfl (lv_at hl 0 rfl) ?_
            obtain ⟨b5, hb5, h⟩ := oP_ex h
            refine hgq_40_2 hx hb hts in_f_X5_functionCall_X5 hown hK hP (hts _ (List.mem_cons_of_mem _ (List.mem_append_left _ (List.mem_append_left _ (List.mem_of_getElem? (i := 24) rfl))))) hb5 dX5_functionCall_96 ?_
            refine hg_P_19n b5 hx hb hts in_f_X5_functionCall_X7 hown hK hP (va_Nw.use rfl (hG.1 _ (List.mem_of_getElem? (i := 94) rfl))) dX5_functionCall_99 ?_
            refine lv_bipush (v := 8) hx hb dX5_functionCall_102 (by decide) ?_
            refine lv_ishl hx hb dX5_functionCall_104 ?_
            refine lv_ior hx hb dX5_functionCall_105 ?_
            obtain ⟨r6, hc6, hle6, h9⟩ := ox_ex h
            clear h
            refine kx_i (r := y3) (vx_runV (As := [.int (((L.1 2)) ||| ((((r3.2.1.1 (fP b5 19))) <<< ((8 : Int32) &&& 31))))]) (rest := []) ⟨hx, hb, hml, hown, hts⟩ (c_f_X7_word__P l hl0 dC dI cy ek a k (lI (lB lZ 0 b4) 1 ((((L.1 2)) ||| ((((r3.2.1.1 (fP b5 19))) <<< ((8 : Int32) &&& 31)))))) r3.2.1 r6 hc6 z H.size) (cwV 1 hts g_f_X5_functionCall_X7_word__P_V243 rfl rfl rfl hd_f_X7_word__P (by show 7 + 1 ≤ 9 + d ∧ 8 + (2 + 11) + 121 ≤ 173 + 33 * d; omega)) ⟨nb_blindF, recvP b4 hK hP, (kx_pre hK hG hE hT hA hP hD hS)⟩ rfl rfl hl.1 rfl (lv_room (Nat.le_of_ble_eq_true rfl)) dX5_functionCall_106 ⟨Nat.le_trans (Nat.add_le_add_left hle6.1 _) (Nat.le_of_eq hc), Nat.le_trans (Nat.add_le_add_left hle6.2 _) (Nat.le_of_eq hs)⟩) hK hA hzk hP hD hS (by decide) hno hlocks ?_
            rcases h9 with ⟨h00, y6, hny6, hy⟩ | ⟨h00, hy⟩
            · subst hy
              have h := hny6
              refine Or.inl ⟨h00, fun z H locs hz6 hzk hP hD hS => ?_⟩
              replace hc := (Nat.add_assoc _ _ _).trans hc
              replace hs := (Nat.add_assoc _ _ _).trans hs
              refine lv_pop hx hb dX5_functionCall_109 rfl ?_
              obtain rfl := Option.some.inj h
              subst hc
              subst hs
              exact xr_v hx hb hr hK hzk hP hD hS hlocks dX5_functionCall_110
            · subst hy
              exact Or.inr ⟨h00, rfl, hc, hs⟩
          · subst hy
            exact Or.inr ⟨h00, rfl, hc, hs⟩
        · subst hy
          exact Or.inr ⟨h00, rfl, hc, hs⟩
  exact (blk k0 (Nat.le_refl _)).1 z 0 0 L0 σ0 r0 h0 (zk_rf _ _) ((Nat.zero_add _).trans hmc) ((Nat.zero_add _).trans hms) s.heap [] ls hP hD hS hl
theorem gg_f_X5_iters_X2_advance : GoodIn w_f_X5_iters w_f_X2_advance := goodIn_sub (fun w h => (List.mem_cons.mp h).elim (fun e => (List.mem_cons_of_mem _ (List.mem_append_left _ (List.mem_append_right _ (List.mem_append_right _ (List.mem_append_right _ (List.mem_append_right _ (List.mem_append_right _ (List.mem_append_left _ (List.mem_cons.mpr (Or.inl e))))))))))) (fun h => (List.mem_append.mp h).elim (fun h => (List.mem_cons_of_mem _ (List.mem_append_left _ (List.mem_append_right _ (List.mem_append_right _ (List.mem_append_right _ (List.mem_append_right _ (List.mem_append_right _ (List.mem_append_left _ (List.mem_cons_of_mem _ h)))))))))) (fun h => List.mem_cons_of_mem _ (List.mem_append_right _ h)))) w_f_X2_advance_good
theorem g_f_X5_iters_X2_advance_V30 : GoodIn w_f_X5_iters (wsV RX5 30 RX2 yX2_advance w_f_X2_advance) := goodIn_app (nb_g4 (List.mem_cons_of_mem _ (List.mem_append_left _ (List.mem_append_left _ (List.mem_of_getElem? (i := 34) rfl)))) (List.mem_cons_of_mem _ (List.mem_append_left _ (List.mem_append_left _ (List.mem_of_getElem? (i := 35) rfl)))) (List.mem_cons_of_mem _ (List.mem_append_left _ (List.mem_append_left _ (List.mem_of_getElem? (i := 36) rfl)))) (List.mem_cons_of_mem _ (List.mem_append_left _ (List.mem_append_left _ (List.mem_of_getElem? (i := 37) rfl)))) (by decide +kernel)) gg_f_X5_iters_X2_advance
theorem gg_f_X5_iters_X5_exp : GoodIn w_f_X5_iters w_f_X5_exp := goodIn_sub (fun w h => (List.mem_cons.mp h).elim (fun e => e ▸ (List.mem_cons_of_mem _ (List.mem_append_left _ (List.mem_append_left _ (List.mem_of_getElem? (i := 1) rfl))))) (fun h => List.mem_cons_of_mem _ h)) w_f_X5_exp_good
theorem g_f_X5_iters_X5_exp_V90 : GoodIn w_f_X5_iters (wsV RX5 90 RX5 yX5_exp w_f_X5_exp) := goodIn_app (nb_g4 (List.mem_cons_of_mem _ (List.mem_append_left _ (List.mem_append_left _ (List.mem_of_getElem? (i := 18) rfl)))) (List.mem_cons_of_mem _ (List.mem_append_left _ (List.mem_append_left _ (List.mem_of_getElem? (i := 19) rfl)))) (List.mem_cons_of_mem _ (List.mem_append_left _ (List.mem_append_left _ (List.mem_of_getElem? (i := 20) rfl)))) (List.mem_cons_of_mem _ (List.mem_append_left _ (List.mem_append_left _ (List.mem_of_getElem? (i := 17) rfl)))) (by decide +kernel)) gg_f_X5_iters_X5_exp
theorem gg_f_X5_iters_X5_expect : GoodIn w_f_X5_iters w_f_X5_expect := goodIn_sub (fun w h => (List.mem_cons.mp h).elim (fun e => (List.mem_cons_of_mem _ (List.mem_append_left _ (List.mem_append_right _ (List.mem_append_right _ (List.mem_append_left _ (List.mem_cons.mpr (Or.inl e)))))))) (fun h => (List.mem_append.mp h).elim (fun h => (List.mem_cons_of_mem _ (List.mem_append_left _ (List.mem_append_right _ (List.mem_append_right _ (List.mem_append_left _ (List.mem_cons_of_mem _ h))))))) (fun h => List.mem_cons_of_mem _ (List.mem_append_right _ h)))) w_f_X5_expect_good
theorem g_f_X5_iters_X5_expect_V141 : GoodIn w_f_X5_iters (wsV RX5 141 RX5 yX5_expect w_f_X5_expect) := goodIn_app (nb_g4 (List.mem_cons_of_mem _ (List.mem_append_left _ (List.mem_append_left _ (List.mem_of_getElem? (i := 21) rfl)))) (List.mem_cons_of_mem _ (List.mem_append_left _ (List.mem_append_left _ (List.mem_of_getElem? (i := 22) rfl)))) (List.mem_cons_of_mem _ (List.mem_append_left _ (List.mem_append_left _ (List.mem_of_getElem? (i := 23) rfl)))) (List.mem_cons_of_mem _ (List.mem_append_left _ (List.mem_append_left _ (List.mem_of_getElem? (i := 17) rfl)))) (by decide +kernel)) gg_f_X5_iters_X5_expect
theorem gg_f_X5_iters_X5_iterNames : GoodIn w_f_X5_iters w_f_X5_iterNames := goodIn_sub (fun w h => (List.mem_cons.mp h).elim (fun e => (List.mem_cons_of_mem _ (List.mem_append_left _ (List.mem_append_right _ (List.mem_append_right _ (List.mem_append_right _ (List.mem_append_right _ (List.mem_append_right _ (List.mem_append_right _ (List.mem_append_right _ (List.mem_append_right _ (List.mem_append_right _ (List.mem_append_right _ (List.mem_append_right _ (List.mem_append_right _ (List.mem_append_right _ (List.mem_append_right _ (List.mem_append_right _ (List.mem_append_right _ (List.mem_append_right _ (List.mem_append_right _ (List.mem_append_left _ (List.mem_cons.mpr (Or.inl e)))))))))))))))))))))))) (fun h => (List.mem_append.mp h).elim (fun h => (List.mem_cons_of_mem _ (List.mem_append_left _ (List.mem_append_right _ (List.mem_append_right _ (List.mem_append_right _ (List.mem_append_right _ (List.mem_append_right _ (List.mem_append_right _ (List.mem_append_right _ (List.mem_append_right _ (List.mem_append_right _ (List.mem_append_right _ (List.mem_append_right _ (List.mem_append_right _ (List.mem_append_right _ (List.mem_append_right _ (List.mem_append_right _ (List.mem_append_right _ (List.mem_append_right _ (List.mem_append_right _ (List.mem_append_left _ (List.mem_cons_of_mem _ h))))))))))))))))))))))) (fun h => List.mem_cons_of_mem _ (List.mem_append_right _ h)))) w_f_X5_iterNames_good
theorem g_f_X5_iters_X5_iterNames_V450 : GoodIn w_f_X5_iters (wsV RX5 450 RX5 yX5_iterNames w_f_X5_iterNames) := goodIn_app (nb_g4 (List.mem_cons_of_mem _ (List.mem_append_left _ (List.mem_append_left _ (List.mem_of_getElem? (i := 86) rfl)))) (List.mem_cons_of_mem _ (List.mem_append_left _ (List.mem_append_left _ (List.mem_of_getElem? (i := 87) rfl)))) (List.mem_cons_of_mem _ (List.mem_append_left _ (List.mem_append_left _ (List.mem_of_getElem? (i := 88) rfl)))) (List.mem_cons_of_mem _ (List.mem_append_left _ (List.mem_append_left _ (List.mem_of_getElem? (i := 17) rfl)))) (by decide +kernel)) gg_f_X5_iters_X5_iterNames
theorem gg_f_X5_iters_X5_iterStore : GoodIn w_f_X5_iters w_f_X5_iterStore := goodIn_sub (fun w h => (List.mem_cons.mp h).elim (fun e => (List.mem_cons_of_mem _ (List.mem_append_left _ (List.mem_append_right _ (List.mem_append_right _ (List.mem_append_right _ (List.mem_append_right _ (List.mem_append_right _ (List.mem_append_right _ (List.mem_append_right _ (List.mem_append_right _ (List.mem_append_right _ (List.mem_append_right _ (List.mem_append_right _ (List.mem_append_right _ (List.mem_append_right _ (List.mem_append_right _ (List.mem_append_right _ (List.mem_append_right _ (List.mem_append_right _ (List.mem_append_right _ (List.mem_append_right _ (List.mem_append_right _ (List.mem_append_right _ (List.mem_append_left _ (List.mem_cons.mpr (Or.inl e))))))))))))))))))))))))))) (fun h => (List.mem_append.mp h).elim (fun h => (List.mem_cons_of_mem _ (List.mem_append_left _ (List.mem_append_right _ (List.mem_append_right _ (List.mem_append_right _ (List.mem_append_right _ (List.mem_append_right _ (List.mem_append_right _ (List.mem_append_right _ (List.mem_append_right _ (List.mem_append_right _ (List.mem_append_right _ (List.mem_append_right _ (List.mem_append_right _ (List.mem_append_right _ (List.mem_append_right _ (List.mem_append_right _ (List.mem_append_right _ (List.mem_append_right _ (List.mem_append_right _ (List.mem_append_right _ (List.mem_append_right _ (List.mem_append_right _ (List.mem_append_left _ (List.mem_cons_of_mem _ h)))))))))))))))))))))))))) (fun h => List.mem_cons_of_mem _ (List.mem_append_right _ h)))) w_f_X5_iterStore_good
theorem g_f_X5_iters_X5_iterStore_V457 : GoodIn w_f_X5_iters (wsV RX5 457 RX5 yX5_iterStore w_f_X5_iterStore) := goodIn_app (nb_g4 (List.mem_cons_of_mem _ (List.mem_append_left _ (List.mem_append_left _ (List.mem_of_getElem? (i := 95) rfl)))) (List.mem_cons_of_mem _ (List.mem_append_left _ (List.mem_append_left _ (List.mem_of_getElem? (i := 96) rfl)))) (List.mem_cons_of_mem _ (List.mem_append_left _ (List.mem_append_left _ (List.mem_of_getElem? (i := 97) rfl)))) (List.mem_cons_of_mem _ (List.mem_append_left _ (List.mem_append_left _ (List.mem_of_getElem? (i := 17) rfl)))) (by decide +kernel)) gg_f_X5_iters_X5_iterStore
theorem gg_f_X5_iters_X5_mark : GoodIn w_f_X5_iters w_f_X5_mark := goodIn_sub (fun w h => (List.mem_cons.mp h).elim (fun e => (List.mem_cons_of_mem _ (List.mem_append_left _ (List.mem_append_right _ (List.mem_append_right _ (List.mem_append_right _ (List.mem_append_right _ (List.mem_append_right _ (List.mem_append_right _ (List.mem_append_right _ (List.mem_append_right _ (List.mem_append_right _ (List.mem_append_right _ (List.mem_append_right _ (List.mem_append_right _ (List.mem_append_right _ (List.mem_append_right _ (List.mem_append_right _ (List.mem_append_right _ (List.mem_append_right _ (List.mem_append_right _ (List.mem_append_right _ (List.mem_append_right _ (List.mem_append_right _ (List.mem_append_right _ (List.mem_append_left _ (List.mem_cons.mpr (Or.inl e)))))))))))))))))))))))))))) (fun h => (List.mem_append.mp h).elim (fun h => (List.mem_cons_of_mem _ (List.mem_append_left _ (List.mem_append_right _ (List.mem_append_right _ (List.mem_append_right _ (List.mem_append_right _ (List.mem_append_right _ (List.mem_append_right _ (List.mem_append_right _ (List.mem_append_right _ (List.mem_append_right _ (List.mem_append_right _ (List.mem_append_right _ (List.mem_append_right _ (List.mem_append_right _ (List.mem_append_right _ (List.mem_append_right _ (List.mem_append_right _ (List.mem_append_right _ (List.mem_append_right _ (List.mem_append_right _ (List.mem_append_right _ (List.mem_append_right _ (List.mem_append_right _ (List.mem_append_left _ (List.mem_cons_of_mem _ h))))))))))))))))))))))))))) (fun h => List.mem_cons_of_mem _ (List.mem_append_right _ h)))) w_f_X5_mark_good
theorem g_f_X5_iters_X5_mark_V303 : GoodIn w_f_X5_iters (wsV RX5 303 RX5 yX5_mark w_f_X5_mark) := goodIn_app (nb_g4 (List.mem_cons_of_mem _ (List.mem_append_left _ (List.mem_append_left _ (List.mem_of_getElem? (i := 98) rfl)))) (List.mem_cons_of_mem _ (List.mem_append_left _ (List.mem_append_left _ (List.mem_of_getElem? (i := 99) rfl)))) (List.mem_cons_of_mem _ (List.mem_append_left _ (List.mem_append_left _ (List.mem_of_getElem? (i := 100) rfl)))) (List.mem_cons_of_mem _ (List.mem_append_left _ (List.mem_append_left _ (List.mem_of_getElem? (i := 17) rfl)))) (by decide +kernel)) gg_f_X5_iters_X5_mark
theorem gg_f_X5_iters_X7_emit__P : GoodIn w_f_X5_iters w_f_X7_emit__P := goodIn_sub (fun w h => (List.mem_cons.mp h).elim (fun e => (List.mem_cons_of_mem _ (List.mem_append_left _ (List.mem_append_right _ (List.mem_append_right _ (List.mem_append_right _ (List.mem_append_left _ (List.mem_cons.mpr (Or.inl e))))))))) (fun h => (List.mem_append.mp h).elim (fun h => (List.mem_cons_of_mem _ (List.mem_append_left _ (List.mem_append_right _ (List.mem_append_right _ (List.mem_append_right _ (List.mem_append_left _ (List.mem_cons_of_mem _ h)))))))) (fun h => List.mem_cons_of_mem _ (List.mem_append_right _ h)))) w_f_X7_emit__P_good
theorem g_f_X5_iters_X7_emit__P_V66 : GoodIn w_f_X5_iters (wsV RX5 66 RX7 yX7_emit w_f_X7_emit__P) := goodIn_app (nb_g4 (List.mem_cons_of_mem _ (List.mem_append_left _ (List.mem_append_left _ (List.mem_of_getElem? (i := 25) rfl)))) (List.mem_cons_of_mem _ (List.mem_append_left _ (List.mem_append_left _ (List.mem_of_getElem? (i := 26) rfl)))) (List.mem_cons_of_mem _ (List.mem_append_left _ (List.mem_append_left _ (List.mem_of_getElem? (i := 27) rfl)))) (List.mem_cons_of_mem _ (List.mem_append_left _ (List.mem_append_left _ (List.mem_of_getElem? (i := 28) rfl)))) (by decide +kernel)) gg_f_X5_iters_X7_emit__P
theorem gg_f_X5_iters_X7_word__P : GoodIn w_f_X5_iters w_f_X7_word__P := goodIn_sub (fun w h => (List.mem_cons.mp h).elim (fun e => (List.mem_cons_of_mem _ (List.mem_append_left _ (List.mem_append_right _ (List.mem_append_right _ (List.mem_append_right _ (List.mem_append_right _ (List.mem_append_right _ (List.mem_append_right _ (List.mem_append_right _ (List.mem_append_right _ (List.mem_append_right _ (List.mem_append_right _ (List.mem_append_right _ (List.mem_append_right _ (List.mem_append_right _ (List.mem_append_right _ (List.mem_append_right _ (List.mem_append_right _ (List.mem_append_right _ (List.mem_append_left _ (List.mem_cons.mpr (Or.inl e))))))))))))))))))))))) (fun h => (List.mem_append.mp h).elim (fun h => (List.mem_cons_of_mem _ (List.mem_append_left _ (List.mem_append_right _ (List.mem_append_right _ (List.mem_append_right _ (List.mem_append_right _ (List.mem_append_right _ (List.mem_append_right _ (List.mem_append_right _ (List.mem_append_right _ (List.mem_append_right _ (List.mem_append_right _ (List.mem_append_right _ (List.mem_append_right _ (List.mem_append_right _ (List.mem_append_right _ (List.mem_append_right _ (List.mem_append_right _ (List.mem_append_right _ (List.mem_append_left _ (List.mem_cons_of_mem _ h)))))))))))))))))))))) (fun h => List.mem_cons_of_mem _ (List.mem_append_right _ h)))) w_f_X7_word__P_good
theorem g_f_X5_iters_X7_word__P_V243 : GoodIn w_f_X5_iters (wsV RX5 243 RX7 yX7_word w_f_X7_word__P) := goodIn_app (nb_g4 (List.mem_cons_of_mem _ (List.mem_append_left _ (List.mem_append_left _ (List.mem_of_getElem? (i := 82) rfl)))) (List.mem_cons_of_mem _ (List.mem_append_left _ (List.mem_append_left _ (List.mem_of_getElem? (i := 83) rfl)))) (List.mem_cons_of_mem _ (List.mem_append_left _ (List.mem_append_left _ (List.mem_of_getElem? (i := 84) rfl)))) (List.mem_cons_of_mem _ (List.mem_append_left _ (List.mem_append_left _ (List.mem_of_getElem? (i := 28) rfl)))) (by decide +kernel)) gg_f_X5_iters_X7_word__P
theorem gg_f_X5_iters_X7_newPassing__P : GoodIn w_f_X5_iters w_y_X7_newPassing__P := goodIn_sub (fun w h => (List.mem_cons.mp h).elim (fun e => (List.mem_cons_of_mem _ (List.mem_append_left _ (List.mem_append_right _ (List.mem_append_right _ (List.mem_append_right _ (List.mem_append_right _ (List.mem_append_right _ (List.mem_append_right _ (List.mem_append_right _ (List.mem_append_right _ (List.mem_append_right _ (List.mem_append_right _ (List.mem_append_right _ (List.mem_append_right _ (List.mem_append_right _ (List.mem_append_right _ (List.mem_append_right _ (List.mem_append_right _ (List.mem_append_right _ (List.mem_append_right _ (List.mem_append_right _ (List.mem_append_right _ (List.mem_append_left _ (List.mem_cons.mpr (Or.inl e)))))))))))))))))))))))))) (fun h => (List.mem_append.mp h).elim (fun h => (List.mem_cons_of_mem _ (List.mem_append_left _ (List.mem_append_right _ (List.mem_append_right _ (List.mem_append_right _ (List.mem_append_right _ (List.mem_append_right _ (List.mem_append_right _ (List.mem_append_right _ (List.mem_append_right _ (List.mem_append_right _ (List.mem_append_right _ (List.mem_append_right _ (List.mem_append_right _ (List.mem_append_right _ (List.mem_append_right _ (List.mem_append_right _ (List.mem_append_right _ (List.mem_append_right _ (List.mem_append_right _ (List.mem_append_right _ (List.mem_append_right _ (List.mem_append_left _ (List.mem_cons_of_mem _ h))))))))))))))))))))))))) (fun h => List.mem_cons_of_mem _ (List.mem_append_right _ h)))) w_y_X7_newPassing__P_good
theorem g_y_X5_iters_X7_newPassing__P_V454 : GoodIn w_f_X5_iters (wsV RX5 454 RX7 yX7_newPassing w_y_X7_newPassing__P) := goodIn_app (nb_g4 (List.mem_cons_of_mem _ (List.mem_append_left _ (List.mem_append_left _ (List.mem_of_getElem? (i := 92) rfl)))) (List.mem_cons_of_mem _ (List.mem_append_left _ (List.mem_append_left _ (List.mem_of_getElem? (i := 93) rfl)))) (List.mem_cons_of_mem _ (List.mem_append_left _ (List.mem_append_left _ (List.mem_of_getElem? (i := 94) rfl)))) (List.mem_cons_of_mem _ (List.mem_append_left _ (List.mem_append_left _ (List.mem_of_getElem? (i := 28) rfl)))) (by decide +kernel)) gg_f_X5_iters_X7_newPassing__P
theorem gg_f_X5_iters_X7_newSlots__P : GoodIn w_f_X5_iters w_y_X7_newSlots__P := goodIn_sub (fun w h => (List.mem_cons.mp h).elim (fun e => (List.mem_cons_of_mem _ (List.mem_append_left _ (List.mem_append_right _ (List.mem_append_right _ (List.mem_append_right _ (List.mem_append_right _ (List.mem_append_right _ (List.mem_append_right _ (List.mem_append_right _ (List.mem_append_right _ (List.mem_append_right _ (List.mem_append_right _ (List.mem_append_right _ (List.mem_append_right _ (List.mem_append_right _ (List.mem_append_right _ (List.mem_append_right _ (List.mem_append_right _ (List.mem_append_right _ (List.mem_append_right _ (List.mem_append_right _ (List.mem_append_left _ (List.mem_cons.mpr (Or.inl e))))))))))))))))))))))))) (fun h => (List.mem_append.mp h).elim (fun h => (List.mem_cons_of_mem _ (List.mem_append_left _ (List.mem_append_right _ (List.mem_append_right _ (List.mem_append_right _ (List.mem_append_right _ (List.mem_append_right _ (List.mem_append_right _ (List.mem_append_right _ (List.mem_append_right _ (List.mem_append_right _ (List.mem_append_right _ (List.mem_append_right _ (List.mem_append_right _ (List.mem_append_right _ (List.mem_append_right _ (List.mem_append_right _ (List.mem_append_right _ (List.mem_append_right _ (List.mem_append_right _ (List.mem_append_right _ (List.mem_append_left _ (List.mem_cons_of_mem _ h)))))))))))))))))))))))) (fun h => List.mem_cons_of_mem _ (List.mem_append_right _ h)))) w_y_X7_newSlots__P_good
theorem g_y_X5_iters_X7_newSlots__P_V157 : GoodIn w_f_X5_iters (wsV RX5 157 RX7 yX7_newSlots w_y_X7_newSlots__P) := goodIn_app (nb_g4 (List.mem_cons_of_mem _ (List.mem_append_left _ (List.mem_append_left _ (List.mem_of_getElem? (i := 89) rfl)))) (List.mem_cons_of_mem _ (List.mem_append_left _ (List.mem_append_left _ (List.mem_of_getElem? (i := 90) rfl)))) (List.mem_cons_of_mem _ (List.mem_append_left _ (List.mem_append_left _ (List.mem_of_getElem? (i := 91) rfl)))) (List.mem_cons_of_mem _ (List.mem_append_left _ (List.mem_append_left _ (List.mem_of_getElem? (i := 28) rfl)))) (by decide +kernel)) gg_f_X5_iters_X7_newSlots__P
set_option maxHeartbeats 40000000 in
set_option maxRecDepth 100000 in
theorem c_t_X5_iters (l : Launch) (hl0 : l.stackTraces = false) (dC : Nat → ClassId) (dI : Nat → Nat → Nat) (cy : Nat → ClassId) (ek a : Nat → Nat) (k0 : Nat) (IH : ∀ j : Nat, j < k0 → P_F2 l dC dI cy ek a j) (d : Nat) (L0 : LV) (σ0 : CS) (r0 : RS) (h0 : f_F2 k0 d 5 0 L0 σ0 = some r0) (z : Nat → Nat) (sz : Nat) : vx_Met l yX5_iters w_f_X5_iters ({ frames := 9 + d, cells := r0.2.2.1, slots := r0.2.2.2, locals := 173 + 33 * d }) (va_Pc [.ref (a 40), .int (L0.1 1)] (nInF (dC, dI) cy ek sz (vC cy a z σ0))) (xV dC dI cy a (va_A (vC cy a z σ0) sz) [41, 43, 51] z r0) (xX dC dI cy a (va_A (vC cy a z σ0) sz) [41, 43, 51] z r0) r0.2.2.1 r0.2.2.2 (va_A (vC cy a z σ0) sz) := by
  refine vx_ofW (cc := cX5_iters) (maxL := 14) (ret := none) (by decide) rfl ?_
  intro p e s m args below meth c s₁ B hml hno hv
  obtain ⟨rfl, ⟨⟨hsz, hP, hK, hD0, hG⟩, hE⟩, hT⟩ := hv
  have hx := B.exec
  have hb := B.bytes
  have hr := B.returns
  have hts := atoms_spec (ws := w_f_X5_iters) B.pre
  have hown : s.vm.findClass RX5 = some m.cls := findClass_of_methodNamed B.named
  have hlocks := B.notSynchronized
  subst hsz
  have hD := hD0.self (sz := s.heap.size)
  generalize hAe : va_A (vC cy a z σ0) s.heap.size = A at hD hE hT ⊢
  have hA : ∀ q : Nat, s.heap.size ≤ q → A q := fun q h => by rw [← hAe]; exact Or.inr h
  have hS : va_S A s.heap s.heap [] := va_S.rf
  have hl := lv_entry ([.ref (a 40), .int (L0.1 1)]) (n := 14) (Nat.le_of_ble_eq_true rfl)
  rw [lg_entry_eq]
  generalize (lg_sl ([.ref (a 40), .int (L0.1 1)]) ++ List.replicate (14 - (lg_sl ([.ref (a 40), .int (L0.1 1)])).length) Slot.unset).toArray = ls at hl ⊢
  have hl : lv_has ls 14 [(0, .ref (a 40)), (1, .int (L0.1 1))] := hl
  generalize hmc : r0.2.2.1 = mc
  generalize hms : r0.2.2.2 = ms
  have blk : ∀ k : Nat, k ≤ k0 → (bX p l e (headSpec w_f_X5_iters ({ frames := 9 + d, cells := mc, slots := ms, locals := 173 + 33 * d })).room s m #[.ref (a 40), .int (L0.1 1)] below meth c dC dI cy a A (fun r => vx_MQ below (xV dC dI cy a A [41, 43, 51] z r) (xX dC dI cy a A [41, 43, 51] z r) #[.ref (a 40), .int (L0.1 1)] s mc ms A) [41, 43, 51] z mc ms 14 (f_F2 k d 5 0) (fun z L => [(0, .ref (a 40)), (1, .int (L.1 1))]) 0 (fun z L => [])) ∧ (bX p l e (headSpec w_f_X5_iters ({ frames := 9 + d, cells := mc, slots := ms, locals := 173 + 33 * d })).room s m #[.ref (a 40), .int (L0.1 1)] below meth c dC dI cy a A (fun r => vx_MQ below (xV dC dI cy a A [41, 43, 51] z r) (xX dC dI cy a A [41, 43, 51] z r) #[.ref (a 40), .int (L0.1 1)] s mc ms A) [41, 43, 51] z mc ms 14 (f_F2 k d 5 1) (fun z L => [(0, .ref (a 40)), (1, .int (L.1 1)), (2, .int (L.1 2)), (3, .int (L.1 3)), (4, .int (L.1 4)), (5, .int (L.1 5)), (6, .int (L.1 6))]) 19 (fun z L => [])) ∧ (bX p l e (headSpec w_f_X5_iters ({ frames := 9 + d, cells := mc, slots := ms, locals := 173 + 33 * d })).room s m #[.ref (a 40), .int (L0.1 1)] below meth c dC dI cy a A (fun r => vx_MQ below (xV dC dI cy a A [41, 43, 51] z r) (xX dC dI cy a A [41, 43, 51] z r) #[.ref (a 40), .int (L0.1 1)] s mc ms A) [41, 43, 51] z mc ms 14 (f_F2 k d 5 2) (fun z L => [(0, .ref (a 40)), (3, .int (L.1 3)), (4, .int (L.1 4))]) 332 (fun z L => [])) ∧ (bX p l e (headSpec w_f_X5_iters ({ frames := 9 + d, cells := mc, slots := ms, locals := 173 + 33 * d })).room s m #[.ref (a 40), .int (L0.1 1)] below meth c dC dI cy a A (fun r => vx_MQ below (xV dC dI cy a A [41, 43, 51] z r) (xX dC dI cy a A [41, 43, 51] z r) #[.ref (a 40), .int (L0.1 1)] s mc ms A) [41, 43, 51] z mc ms 14 (f_F2 k d 5 3) (fun z L => [(0, .ref (a 40)), (1, .int (L.1 1)), (2, .int (L.1 2)), (3, .int (L.1 3)), (4, .int (L.1 4)), (6, .int (L.1 6)), (7, .int (L.1 7))]) 59 (fun z L => [])) ∧ (bX p l e (headSpec w_f_X5_iters ({ frames := 9 + d, cells := mc, slots := ms, locals := 173 + 33 * d })).room s m #[.ref (a 40), .int (L0.1 1)] below meth c dC dI cy a A (fun r => vx_MQ below (xV dC dI cy a A [41, 43, 51] z r) (xX dC dI cy a A [41, 43, 51] z r) #[.ref (a 40), .int (L0.1 1)] s mc ms A) [41, 43, 51] z mc ms 14 (f_F2 k d 5 4) (fun z L => [(0, .ref (a 40)), (1, .int (L.1 1)), (2, .int (L.1 2)), (3, .int (L.1 3)), (4, .int (L.1 4)), (6, .int (L.1 6)), (7, .int (L.1 7))]) 66 (fun z L => [.int (L.1 100)])) ∧ (bX p l e (headSpec w_f_X5_iters ({ frames := 9 + d, cells := mc, slots := ms, locals := 173 + 33 * d })).room s m #[.ref (a 40), .int (L0.1 1)] below meth c dC dI cy a A (fun r => vx_MQ below (xV dC dI cy a A [41, 43, 51] z r) (xX dC dI cy a A [41, 43, 51] z r) #[.ref (a 40), .int (L0.1 1)] s mc ms A) [41, 43, 51] z mc ms 14 (f_F2 k d 5 5) (fun z L => [(0, .ref (a 40)), (1, .int (L.1 1)), (2, .int (L.1 2)), (3, .int (L.1 3)), (4, .int (L.1 4)), (6, .int (L.1 6)), (7, .int (L.1 7)), (8, .int (L.1 8))]) 84 (fun z L => [])) ∧ (bX p l e (headSpec w_f_X5_iters ({ frames := 9 + d, cells := mc, slots := ms, locals := 173 + 33 * d })).room s m #[.ref (a 40), .int (L0.1 1)] below meth c dC dI cy a A (fun r => vx_MQ below (xV dC dI cy a A [41, 43, 51] z r) (xX dC dI cy a A [41, 43, 51] z r) #[.ref (a 40), .int (L0.1 1)] s mc ms A) [41, 43, 51] z mc ms 14 (f_F2 k d 5 6) (fun z L => [(0, .ref (a 40)), (1, .int (L.1 1)), (2, .int (L.1 2)), (3, .int (L.1 3)), (4, .int (L.1 4)), (6, .int (L.1 6)), (7, .int (L.1 7)), (8, .int (L.1 8))]) 85 (fun z L => [.int (L.1 100)])) ∧ (bX p l e (headSpec w_f_X5_iters ({ frames := 9 + d, cells := mc, slots := ms, locals := 173 + 33 * d })).room s m #[.ref (a 40), .int (L0.1 1)] below meth c dC dI cy a A (fun r => vx_MQ below (xV dC dI cy a A [41, 43, 51] z r) (xX dC dI cy a A [41, 43, 51] z r) #[.ref (a 40), .int (L0.1 1)] s mc ms A) [41, 43, 51] z mc ms 14 (f_F2 k d 5 7) (fun z L => [(0, .ref (a 40)), (1, .int (L.1 1)), (2, .int (L.1 2)), (3, .int (L.1 3)), (4, .int (L.1 4)), (6, .int (L.1 6)), (7, .int (L.1 7)), (8, .int (L.1 8)), (9, .int (L.1 9)), (10, .int (L.1 10))]) 137 (fun z L => [])) ∧ (bX p l e (headSpec w_f_X5_iters ({ frames := 9 + d, cells := mc, slots := ms, locals := 173 + 33 * d })).room s m #[.ref (a 40), .int (L0.1 1)] below meth c dC dI cy a A (fun r => vx_MQ below (xV dC dI cy a A [41, 43, 51] z r) (xX dC dI cy a A [41, 43, 51] z r) #[.ref (a 40), .int (L0.1 1)] s mc ms A) [41, 43, 51] z mc ms 14 (f_F2 k d 5 8) (fun z L => [(0, .ref (a 40)), (1, .int (L.1 1)), (2, .int (L.1 2)), (3, .int (L.1 3)), (4, .int (L.1 4)), (6, .int (L.1 6)), (7, .int (L.1 7)), (8, .int (L.1 8)), (9, .int (L.1 9)), (10, .int (L.1 10))]) 145 (fun z L => [.int (L.1 100)])) ∧ (bX p l e (headSpec w_f_X5_iters ({ frames := 9 + d, cells := mc, slots := ms, locals := 173 + 33 * d })).room s m #[.ref (a 40), .int (L0.1 1)] below meth c dC dI cy a A (fun r => vx_MQ below (xV dC dI cy a A [41, 43, 51] z r) (xX dC dI cy a A [41, 43, 51] z r) #[.ref (a 40), .int (L0.1 1)] s mc ms A) [41, 43, 51] z mc ms 14 (f_F2 k d 5 9) (fun z L => [(0, .ref (a 40)), (1, .int (L.1 1)), (2, .int (L.1 2)), (3, .int (L.1 3)), (4, .int (L.1 4)), (6, .int (L.1 6)), (7, .int (L.1 7)), (8, .int (L.1 8)), (9, .int (L.1 9)), (10, .int (L.1 10)), (11, .int (L.1 11))]) 160 (fun z L => [.ref (a (pA (L.2.2.1 100)))])) ∧ (bX p l e (headSpec w_f_X5_iters ({ frames := 9 + d, cells := mc, slots := ms, locals := 173 + 33 * d })).room s m #[.ref (a 40), .int (L0.1 1)] below meth c dC dI cy a A (fun r => vx_MQ below (xV dC dI cy a A [41, 43, 51] z r) (xX dC dI cy a A [41, 43, 51] z r) #[.ref (a 40), .int (L0.1 1)] s mc ms A) [41, 43, 51] z mc ms 14 (f_F2 k d 5 10) (fun z L => [(0, .ref (a 40)), (1, .int (L.1 1)), (2, .int (L.1 2)), (3, .int (L.1 3)), (4, .int (L.1 4)), (6, .int (L.1 6)), (7, .int (L.1 7)), (8, .int (L.1 8)), (9, .int (L.1 9)), (10, .int (L.1 10)), (11, .int (L.1 11))]) 162 (fun z L => [.int (L.1 100), .ref (a (pA (L.2.2.1 101)))])) ∧ (bX p l e (headSpec w_f_X5_iters ({ frames := 9 + d, cells := mc, slots := ms, locals := 173 + 33 * d })).room s m #[.ref (a 40), .int (L0.1 1)] below meth c dC dI cy a A (fun r => vx_MQ below (xV dC dI cy a A [41, 43, 51] z r) (xX dC dI cy a A [41, 43, 51] z r) #[.ref (a 40), .int (L0.1 1)] s mc ms A) [41, 43, 51] z mc ms 14 (f_F2 k d 5 11) (fun z L => [(0, .ref (a 40)), (1, .int (L.1 1)), (2, .int (L.1 2)), (3, .int (L.1 3)), (4, .int (L.1 4)), (6, .int (L.1 6)), (7, .int (L.1 7)), (8, .int (L.1 8)), (9, .int (L.1 9)), (10, .int (L.1 10)), (11, .int (L.1 11))]) 181 (fun z L => [.ref (a (pA (L.2.2.1 100)))])) ∧ (bX p l e (headSpec w_f_X5_iters ({ frames := 9 + d, cells := mc, slots := ms, locals := 173 + 33 * d })).room s m #[.ref (a 40), .int (L0.1 1)] below meth c dC dI cy a A (fun r => vx_MQ below (xV dC dI cy a A [41, 43, 51] z r) (xX dC dI cy a A [41, 43, 51] z r) #[.ref (a 40), .int (L0.1 1)] s mc ms A) [41, 43, 51] z mc ms 14 (f_F2 k d 5 12) (fun z L => [(0, .ref (a 40)), (1, .int (L.1 1)), (2, .int (L.1 2)), (3, .int (L.1 3)), (4, .int (L.1 4)), (6, .int (L.1 6)), (7, .int (L.1 7)), (8, .int (L.1 8)), (9, .int (L.1 9)), (10, .int (L.1 10)), (11, .int (L.1 11))]) 183 (fun z L => [.int (L.1 100), .ref (a (pA (L.2.2.1 101)))])) ∧ (bX p l e (headSpec w_f_X5_iters ({ frames := 9 + d, cells := mc, slots := ms, locals := 173 + 33 * d })).room s m #[.ref (a 40), .int (L0.1 1)] below meth c dC dI cy a A (fun r => vx_MQ below (xV dC dI cy a A [41, 43, 51] z r) (xX dC dI cy a A [41, 43, 51] z r) #[.ref (a 40), .int (L0.1 1)] s mc ms A) [41, 43, 51] z mc ms 14 (f_F2 k d 5 13) (fun z L => [(0, .ref (a 40)), (1, .int (L.1 1)), (2, .int (L.1 2)), (3, .int (L.1 3)), (6, .int (L.1 6)), (7, .int (L.1 7)), (8, .int (L.1 8)), (9, .int (L.1 9)), (10, .int (L.1 10)), (11, .int (L.1 11)), (12, .int (L.1 12))]) 213 (fun z L => [])) ∧ (bX p l e (headSpec w_f_X5_iters ({ frames := 9 + d, cells := mc, slots := ms, locals := 173 + 33 * d })).room s m #[.ref (a 40), .int (L0.1 1)] below meth c dC dI cy a A (fun r => vx_MQ below (xV dC dI cy a A [41, 43, 51] z r) (xX dC dI cy a A [41, 43, 51] z r) #[.ref (a 40), .int (L0.1 1)] s mc ms A) [41, 43, 51] z mc ms 14 (f_F2 k d 5 14) (fun z L => [(0, .ref (a 40)), (1, .int (L.1 1)), (2, .int (L.1 2)), (6, .int (L.1 6)), (7, .int (L.1 7)), (8, .int (L.1 8)), (9, .int (L.1 9)), (10, .int (L.1 10)), (11, .int (L.1 11)), (12, .int (L.1 12))]) 214 (fun z L => [.int (L.1 100)])) ∧ (bX p l e (headSpec w_f_X5_iters ({ frames := 9 + d, cells := mc, slots := ms, locals := 173 + 33 * d })).room s m #[.ref (a 40), .int (L0.1 1)] below meth c dC dI cy a A (fun r => vx_MQ below (xV dC dI cy a A [41, 43, 51] z r) (xX dC dI cy a A [41, 43, 51] z r) #[.ref (a 40), .int (L0.1 1)] s mc ms A) [41, 43, 51] z mc ms 14 (f_F2 k d 5 15) (fun z L => [(0, .ref (a 40)), (1, .int (L.1 1)), (2, .int (L.1 2)), (3, .int (L.1 3)), (4, .int (L.1 4)), (6, .int (L.1 6)), (7, .int (L.1 7)), (8, .int (L.1 8)), (10, .int (L.1 10)), (11, .int (L.1 11))]) 232 (fun z L => [.int (L.1 100), .ref (a 40)])) ∧ (bX p l e (headSpec w_f_X5_iters ({ frames := 9 + d, cells := mc, slots := ms, locals := 173 + 33 * d })).room s m #[.ref (a 40), .int (L0.1 1)] below meth c dC dI cy a A (fun r => vx_MQ below (xV dC dI cy a A [41, 43, 51] z r) (xX dC dI cy a A [41, 43, 51] z r) #[.ref (a 40), .int (L0.1 1)] s mc ms A) [41, 43, 51] z mc ms 14 (f_F2 k d 5 16) (fun z L => [(0, .ref (a 40)), (1, .int (L.1 1)), (2, .int (L.1 2)), (3, .int (L.1 3)), (4, .int (L.1 4)), (6, .int (L.1 6)), (7, .int (L.1 7)), (8, .int (L.1 8)), (10, .int (L.1 10)), (11, .int (L.1 11))]) 233 (fun z L => [.int (L.1 100), .int (L.1 101), .ref (a 40)])) ∧ (bX p l e (headSpec w_f_X5_iters ({ frames := 9 + d, cells := mc, slots := ms, locals := 173 + 33 * d })).room s m #[.ref (a 40), .int (L0.1 1)] below meth c dC dI cy a A (fun r => vx_MQ below (xV dC dI cy a A [41, 43, 51] z r) (xX dC dI cy a A [41, 43, 51] z r) #[.ref (a 40), .int (L0.1 1)] s mc ms A) [41, 43, 51] z mc ms 14 (f_F2 k d 5 17) (fun z L => [(0, .ref (a 40)), (1, .int (L.1 1)), (2, .int (L.1 2)), (3, .int (L.1 3)), (4, .int (L.1 4)), (6, .int (L.1 6)), (8, .int (L.1 8)), (10, .int (L.1 10)), (11, .int (L.1 11)), (13, .int (L.1 13))]) 241 (fun z L => [])) ∧ (bX p l e (headSpec w_f_X5_iters ({ frames := 9 + d, cells := mc, slots := ms, locals := 173 + 33 * d })).room s m #[.ref (a 40), .int (L0.1 1)] below meth c dC dI cy a A (fun r => vx_MQ below (xV dC dI cy a A [41, 43, 51] z r) (xX dC dI cy a A [41, 43, 51] z r) #[.ref (a 40), .int (L0.1 1)] s mc ms A) [41, 43, 51] z mc ms 14 (f_F2 k d 5 18) (fun z L => [(0, .ref (a 40)), (1, .int (L.1 1)), (2, .int (L.1 2)), (3, .int (L.1 3)), (4, .int (L.1 4)), (6, .int (L.1 6)), (8, .int (L.1 8)), (10, .int (L.1 10)), (11, .int (L.1 11))]) 270 (fun z L => [])) ∧ (bX p l e (headSpec w_f_X5_iters ({ frames := 9 + d, cells := mc, slots := ms, locals := 173 + 33 * d })).room s m #[.ref (a 40), .int (L0.1 1)] below meth c dC dI cy a A (fun r => vx_MQ below (xV dC dI cy a A [41, 43, 51] z r) (xX dC dI cy a A [41, 43, 51] z r) #[.ref (a 40), .int (L0.1 1)] s mc ms A) [41, 43, 51] z mc ms 14 (f_F2 k d 5 19) (fun z L => [(0, .ref (a 40)), (1, .int (L.1 1)), (2, .int (L.1 2)), (3, .int (L.1 3)), (4, .int (L.1 4)), (6, .int (L.1 6))]) 295 (fun z L => [])) ∧ (bX p l e (headSpec w_f_X5_iters ({ frames := 9 + d, cells := mc, slots := ms, locals := 173 + 33 * d })).room s m #[.ref (a 40), .int (L0.1 1)] below meth c dC dI cy a A (fun r => vx_MQ below (xV dC dI cy a A [41, 43, 51] z r) (xX dC dI cy a A [41, 43, 51] z r) #[.ref (a 40), .int (L0.1 1)] s mc ms A) [41, 43, 51] z mc ms 14 (f_F2 k d 5 20) (fun z L => [(0, .ref (a 40)), (1, .int (L.1 1)), (2, .int (L.1 2)), (3, .int (L.1 3)), (4, .int (L.1 4)), (6, .int (L.1 6))]) 311 (fun z L => [])) ∧ (bX p l e (headSpec w_f_X5_iters ({ frames := 9 + d, cells := mc, slots := ms, locals := 173 + 33 * d })).room s m #[.ref (a 40), .int (L0.1 1)] below meth c dC dI cy a A (fun r => vx_MQ below (xV dC dI cy a A [41, 43, 51] z r) (xX dC dI cy a A [41, 43, 51] z r) #[.ref (a 40), .int (L0.1 1)] s mc ms A) [41, 43, 51] z mc ms 14 (f_F2 k d 5 21) (fun z L => [(0, .ref (a 40)), (1, .int (L.1 1)), (2, .int (L.1 2)), (3, .int (L.1 3)), (4, .int (L.1 4)), (6, .int (L.1 6))]) 312 (fun z L => [.int (L.1 100)])) ∧ (bX p l e (headSpec w_f_X5_iters ({ frames := 9 + d, cells := mc, slots := ms, locals := 173 + 33 * d })).room s m #[.ref (a 40), .int (L0.1 1)] below meth c dC dI cy a A (fun r => vx_MQ below (xV dC dI cy a A [41, 43, 51] z r) (xX dC dI cy a A [41, 43, 51] z r) #[.ref (a 40), .int (L0.1 1)] s mc ms A) [41, 43, 51] z mc ms 14 (f_F2 k d 5 22) (fun z L => [(0, .ref (a 40)), (1, .int (L.1 1)), (2, .int (L.1 2)), (3, .int (L.1 3)), (4, .int (L.1 4)), (5, .int (L.1 5)), (6, .int (L.1 6))]) 326 (fun z L => [])) := by
    intro k
    induction k with
    | zero => exact fun _ => ⟨fun z c1 c2 L σ r h => (by cases h), fun z c1 c2 L σ r h => (by cases h), fun z c1 c2 L σ r h => (by cases h), fun z c1 c2 L σ r h => (by cases h), fun z c1 c2 L σ r h => (by cases h), fun z c1 c2 L σ r h => (by cases h), fun z c1 c2 L σ r h => (by cases h), fun z c1 c2 L σ r h => (by cases h), fun z c1 c2 L σ r h => (by cases h), fun z c1 c2 L σ r h => (by cases h), fun z c1 c2 L σ r h => (by cases h), fun z c1 c2 L σ r h => (by cases h), fun z c1 c2 L σ r h => (by cases h), fun z c1 c2 L σ r h => (by cases h), fun z c1 c2 L σ r h => (by cases h), fun z c1 c2 L σ r h => (by cases h), fun z c1 c2 L σ r h => (by cases h), fun z c1 c2 L σ r h => (by cases h), fun z c1 c2 L σ r h => (by cases h), fun z c1 c2 L σ r h => (by cases h), fun z c1 c2 L σ r h => (by cases h), fun z c1 c2 L σ r h => (by cases h), fun z c1 c2 L σ r h => (by cases h)⟩
    | succ k ih =>
      intro hk
      replace ih := ih (by omega)
      refine ⟨?_, ?_, ?_, ?_, ?_, ?_, ?_, ?_, ?_, ?_, ?_, ?_, ?_, ?_, ?_, ?_, ?_, ?_, ?_, ?_, ?_, ?_, ?_⟩
      · intro z cells slots L σ r h hzk hc hs H locs ls hP hD hS hl
        rw [f_F2_5, t_X5_iters_0] at h
        refine lv_aload_n hx hb dX5_iters_0 rfl (lv_at hl 0 rfl) ?_
        obtain ⟨b1, hb1, h⟩ := oP_ex h
        refine hgq_40_2 hx hb hts in_f_X5_iters_X5 hown hK hP (hts _ (List.mem_cons_of_mem _ (List.mem_append_left _ (List.mem_append_left _ (List.mem_of_getElem? (i := 24) rfl))))) hb1 dX5_iters_1 ?_
        refine hg_P_11n b1 hx hb hts in_f_X5_iters_X7 hown hK hP (va_Nw.use rfl (hG.1 _ (List.mem_of_getElem? (i := 82) rfl))) dX5_iters_4 ?_
        refine lv_istore_n (lv' := [(2, .int (σ.1 (fP b1 11))), (0, .ref (a 40)), (1, .int (L.1 1))]) hx hb dX5_iters_7 rfl hl (by decide) rfl (fun ls hl => ?_)
        refine lv_iconst (v := (-1)) hx hb dX5_iters_8 (by decide) ?_
        refine lv_istore_n (lv' := [(3, .int (-1)), (2, .int (σ.1 (fP b1 11))), (0, .ref (a 40)), (1, .int (L.1 1))]) hx hb dX5_iters_9 rfl hl (by decide) rfl (fun ls hl => ?_)
        refine lv_iconst (v := (-1)) hx hb dX5_iters_10 (by decide) ?_
        refine lv_istore (lv' := [(4, .int (-1)), (3, .int (-1)), (2, .int (σ.1 (fP b1 11))), (0, .ref (a 40)), (1, .int (L.1 1))]) hx hb dX5_iters_11 hl (by decide) rfl (fun ls hl => ?_)
        refine lv_iconst (v := 1) hx hb dX5_iters_13 (by decide) ?_
        refine lv_istore (lv' := [(5, .int 1), (4, .int (-1)), (3, .int (-1)), (2, .int (σ.1 (fP b1 11))), (0, .ref (a 40)), (1, .int (L.1 1))]) hx hb dX5_iters_14 hl (by decide) rfl (fun ls hl => ?_)
        refine lv_iconst (v := 0) hx hb dX5_iters_16 (by decide) ?_
        refine lv_istore (lv' := [(6, .int 0), (5, .int 1), (4, .int (-1)), (3, .int (-1)), (2, .int (σ.1 (fP b1 11))), (0, .ref (a 40)), (1, .int (L.1 1))]) hx hb dX5_iters_17 hl (by decide) rfl (fun ls hl => ?_)
        exact ih.2.1 z _ _ (lI (lI (lI (lI (lI L 2 ((σ.1 (fP b1 11)))) 3 ((-1))) 4 ((-1))) 5 1) 6 0) σ _ h hzk hc hs H locs ls hP hD hS (lv_sub hl [5, 6, 4, 3, 2, 1, 0] rfl)
      · intro z cells slots L σ r h hzk hc hs H locs ls hP hD hS hl
        rw [f_F2_5, t_X5_iters_1] at h
        refine lv_iload hx hb dX5_iters_19 (lv_at hl 6 rfl) ?_
        refine lv_ldc (v := 32768) hx hb hown (hts _ (List.mem_cons_of_mem _ (List.mem_append_left _ (List.mem_append_left _ (List.mem_of_getElem? (i := 32) rfl))))) dX5_iters_21 ?_
        refine lv_icmp_gt (tgt := 332) hx hb dX5_iters_23 (by decide) (fun c1 => ?_) (fun c1 => ?_)
        · rw [if_pos c1] at h
          exact ih.2.2.1 z _ _ L σ _ h hzk hc hs H locs ls hP hD hS (lv_sub hl [0, 3, 4] rfl)
        · rw [if_neg c1] at h
          refine lv_iload hx hb dX5_iters_26 (lv_at hl 5 rfl) ?_
          refine lv_if_eq (tgt := 332) hx hb dX5_iters_28 (by decide) (fun c2 => ?_) (fun c2 => ?_)
          · rw [if_pos c2] at h
            exact ih.2.2.1 z _ _ L σ _ h hzk hc hs H locs ls hP hD hS (lv_sub hl [0, 3, 4] rfl)
          · rw [if_neg c2] at h
            refine lv_aload_n hx hb dX5_iters_31 rfl (lv_at hl 0 rfl) ?_
            obtain ⟨b3, hb3, h⟩ := oP_ex h
            refine hgq_40_2 hx hb hts in_f_X5_iters_X5 hown hK hP (hts _ (List.mem_cons_of_mem _ (List.mem_append_left _ (List.mem_append_left _ (List.mem_of_getElem? (i := 24) rfl))))) hb3 dX5_iters_32 ?_
            refine hg_P_11n b3 hx hb hts in_f_X5_iters_X7 hown hK hP (va_Nw.use rfl (hG.1 _ (List.mem_of_getElem? (i := 82) rfl))) dX5_iters_35 ?_
            refine lv_istore (lv' := [(7, .int (σ.1 (fP b3 11))), (0, .ref (a 40)), (1, .int (L.1 1)), (2, .int (L.1 2)), (3, .int (L.1 3)), (4, .int (L.1 4)), (5, .int (L.1 5)), (6, .int (L.1 6))]) hx hb dX5_iters_38 hl (by decide) rfl (fun ls hl => ?_)
            refine lv_iload_n hx hb dX5_iters_40 rfl (lv_at hl 2 rfl) ?_
            refine lv_if_eq (tgt := 59) hx hb dX5_iters_41 (by decide) (fun c4 => ?_) (fun c4 => ?_)
            · rw [if_pos c4] at h
              exact ih.2.2.2.1 z _ _ (lI L 7 ((σ.1 (fP b3 11)))) σ _ h hzk hc hs H locs ls hP hD hS (lv_sub hl [1, 2, 3, 4, 5, 7, 0] rfl)
            · rw [if_neg c4] at h
              refine lv_aload_n hx hb dX5_iters_44 rfl (lv_at hl 1 rfl) ?_
              obtain ⟨b5, hb5, h⟩ := oP_ex h
              refine hgq_40_2 hx hb hts in_f_X5_iters_X5 hown hK hP (hts _ (List.mem_cons_of_mem _ (List.mem_append_left _ (List.mem_append_left _ (List.mem_of_getElem? (i := 24) rfl))))) hb5 dX5_iters_45 ?_
              refine hg_P_18n b5 hx hb hts in_f_X5_iters_X7 hown hK hP (va_Nw.use rfl (hG.1 _ (List.mem_of_getElem? (i := 93) rfl))) dX5_iters_48 ?_
              refine lv_aload_n hx hb dX5_iters_51 rfl (lv_at hl 1 rfl) ?_
              refine hg_40_3 hx hb hts in_f_X5_iters_X5 hown hK hP (hts _ (List.mem_cons_of_mem _ (List.mem_append_left _ (List.mem_append_left _ (List.mem_of_getElem? (i := 85) rfl))))) dX5_iters_52 ?_
              obtain ⟨q6, h⟩ := kr_ite1 h
              refine hl_P18 b5 hx hb hK hP q6 dX5_iters_55 ?_
              refine lv_goto (tgt := 66) hx hb dX5_iters_56 (by decide) ?_
              exact ih.2.2.2.2.1 z _ _ (lI (lI L 7 ((σ.1 (fP b3 11)))) 100 ((σ.2.2.1 (pR18 b5) ((σ.1 4003)).toNatClampNeg))) σ _ h hzk hc hs H locs ls hP hD hS (lv_sub hl [1, 2, 3, 4, 5, 7, 0] rfl)
      · intro z cells slots L σ r h hzk hc hs H locs ls hP hD hS hl
        rw [f_F2_5, t_X5_iters_2] at h
        refine lv_aload_n hx hb dX5_iters_332 rfl (lv_at hl 0 rfl) ?_
        refine lv_iload_n hx hb dX5_iters_333 rfl (lv_at hl 1 rfl) ?_
        refine hp_40_14 hx hb hts in_f_X5_iters_X5 hown hK hP hD hS (hts _ (List.mem_cons_of_mem _ (List.mem_append_left _ (List.mem_append_left _ (List.mem_of_getElem? (i := 67) rfl))))) dX5_iters_334 (fun H locs hP hD hS => ?_)
        refine lv_aload_n hx hb dX5_iters_337 rfl (lv_at hl 0 rfl) ?_
        refine lv_iload hx hb dX5_iters_338 (lv_at hl 2 rfl) ?_
        refine hp_40_15 hx hb hts in_f_X5_iters_X5 hown hK hP hD hS (hts _ (List.mem_cons_of_mem _ (List.mem_append_left _ (List.mem_append_left _ (List.mem_of_getElem? (i := 68) rfl))))) dX5_iters_340 (fun H locs hP hD hS => ?_)
        obtain rfl := Option.some.inj h
        subst hc
        subst hs
        exact xr_v hx hb hr hK hzk hP hD hS hlocks dX5_iters_343
      · intro z cells slots L σ r h hzk hc hs H locs ls hP hD hS hl
        rw [f_F2_5, t_X5_iters_3] at h
        refine lv_aload_n hx hb dX5_iters_59 rfl (lv_at hl 0 rfl) ?_
        obtain ⟨b1, hb1, h⟩ := oP_ex h
        refine hgq_40_2 hx hb hts in_f_X5_iters_X5 hown hK hP (hts _ (List.mem_cons_of_mem _ (List.mem_append_left _ (List.mem_append_left _ (List.mem_of_getElem? (i := 24) rfl))))) hb1 dX5_iters_60 ?_
        refine hg_P_19n b1 hx hb hts in_f_X5_iters_X7 hown hK hP (va_Nw.use rfl (hG.1 _ (List.mem_of_getElem? (i := 94) rfl))) dX5_iters_63 ?_
        exact ih.2.2.2.2.1 z _ _ (lI L 100 ((σ.1 (fP b1 19)))) σ _ h hzk hc hs H locs ls hP hD hS (lv_sub hl [0, 1, 2, 3, 4, 5, 6] rfl)
      · intro z cells slots L σ r h hzk hc hs H locs ls hP hD hS hl
        rw [f_F2_5, t_X5_iters_4] at h
        refine lv_istore (lv' := [(8, .int (L.1 100)), (0, .ref (a 40)), (1, .int (L.1 1)), (2, .int (L.1 2)), (3, .int (L.1 3)), (4, .int (L.1 4)), (6, .int (L.1 6)), (7, .int (L.1 7))]) hx hb dX5_iters_66 hl (by decide) rfl (fun ls hl => ?_)
        refine lv_aload_n hx hb dX5_iters_68 rfl (lv_at hl 1 rfl) ?_
        refine hg_40_0 hx hb hts in_f_X5_iters_X5 hown hK hP (hts _ (List.mem_cons_of_mem _ (List.mem_append_left _ (List.mem_append_left _ (List.mem_of_getElem? (i := 33) rfl))))) dX5_iters_69 ?_
        refine hg_37_2n hx hb hts in_f_X5_iters_X2 hown hK hP (va_Nw.use rfl (hG.1 _ (List.mem_of_getElem? (i := 52) rfl))) dX5_iters_72 ?_
        refine lv_bipush (v := 14) hx hb dX5_iters_75 (by decide) ?_
        refine lv_icmp_ne (tgt := 84) hx hb dX5_iters_77 (by decide) (fun c1 => ?_) (fun c1 => ?_)
        · rw [if_neg c1] at h
          exact ih.2.2.2.2.2.1 z _ _ (lI L 8 ((L.1 100))) σ _ h hzk hc hs H locs ls hP hD hS (lv_sub hl [1, 2, 3, 4, 5, 6, 7, 0] rfl)
        · rw [if_pos c1] at h
          refine lv_iconst (v := 1) hx hb dX5_iters_80 (by decide) ?_
          refine lv_goto (tgt := 85) hx hb dX5_iters_81 (by decide) ?_
          exact ih.2.2.2.2.2.2.1 z _ _ (lI (lI L 8 ((L.1 100))) 100 1) σ _ h hzk hc hs H locs ls hP hD hS (lv_sub hl [1, 2, 3, 4, 5, 6, 7, 0] rfl)
      · intro z cells slots L σ r h hzk hc hs H locs ls hP hD hS hl
        rw [f_F2_5, t_X5_iters_5] at h
        refine lv_iconst (v := 0) hx hb dX5_iters_84 (by decide) ?_
        exact ih.2.2.2.2.2.2.1 z _ _ (lI L 100 0) σ _ h hzk hc hs H locs ls hP hD hS (lv_sub hl [0, 1, 2, 3, 4, 5, 6, 7] rfl)
      · intro z cells slots L σ r h hzk hc hs H locs ls hP hD hS hl
        rw [f_F2_5, t_X5_iters_6] at h
        refine lv_istore (lv' := [(9, .int (L.1 100)), (0, .ref (a 40)), (1, .int (L.1 1)), (2, .int (L.1 2)), (3, .int (L.1 3)), (4, .int (L.1 4)), (6, .int (L.1 6)), (7, .int (L.1 7)), (8, .int (L.1 8))]) hx hb dX5_iters_85 hl (by decide) rfl (fun ls hl => ?_)
        refine lv_aload_n hx hb dX5_iters_87 rfl (lv_at hl 1 rfl) ?_
        refine lv_iload_n hx hb dX5_iters_88 rfl (lv_at hl 3 rfl) ?_
        refine lv_iload hx hb dX5_iters_89 (lv_at hl 0 rfl) ?_
        refine lv_iload_n hx hb dX5_iters_91 rfl (lv_at hl 2 rfl) ?_
        obtain ⟨r1, hc1, hle1, h9⟩ := ox_ex h
        clear h
        refine kx_v (vx_runV (As := [.int (L.1 2), .int (L.1 100), .int (L.1 1)]) (rest := []) ⟨hx, hb, hml, hown, hts⟩ (c_f_X5_iterNames l hl0 dC dI cy ek a k (lI (lI (lI lZ 1 ((L.1 2))) 2 ((L.1 100))) 3 ((L.1 1))) σ r1 hc1 z H.size) (cwV 3 hts g_f_X5_iters_X5_iterNames_V450 rfl rfl rfl hd_f_X5_iterNames (by show 8 + 1 ≤ 9 + d ∧ 8 + (7 + 11) + 147 ≤ 173 + 33 * d; omega)) ⟨nb_blindF, va_recv hK hP (ci := 4) (q0 := 40) rfl rfl, (kx_pre hK hG hE hT hA hP hD hS)⟩ rfl rfl hl.1 rfl (lv_room (Nat.le_of_ble_eq_true rfl)) dX5_iters_92 ⟨Nat.le_trans (Nat.add_le_add_left hle1.1 _) (Nat.le_of_eq hc), Nat.le_trans (Nat.add_le_add_left hle1.2 _) (Nat.le_of_eq hs)⟩) hK hA hzk hP hD hS (by decide) hno hlocks ?_
        rcases h9 with ⟨h00, y1, hny1, hy⟩ | ⟨h00, hy⟩
        · subst hy
          have h := hny1
          refine Or.inl ⟨h00, fun u H locs hz1 hzk hP hD hS => ?_⟩
          obtain rfl := (zk_nil hz1).symm
          replace hc := (Nat.add_assoc _ _ _).trans hc
          replace hs := (Nat.add_assoc _ _ _).trans hs
          refine lv_aload_n hx hb dX5_iters_95 rfl (lv_at hl 1 rfl) ?_
          obtain ⟨b2, hb2, h⟩ := oP_ex h
          refine hgq_40_2 hx hb hts in_f_X5_iters_X5 hown hK hP (hts _ (List.mem_cons_of_mem _ (List.mem_append_left _ (List.mem_append_left _ (List.mem_of_getElem? (i := 24) rfl))))) hb2 dX5_iters_96 ?_
          refine hg_P_11n b2 hx hb hts in_f_X5_iters_X7 hown hK hP (va_Nw.use rfl (hG.1 _ (List.mem_of_getElem? (i := 82) rfl))) dX5_iters_99 ?_
          refine lv_iload hx hb dX5_iters_102 (lv_at hl 7 rfl) ?_
          refine lv_isub hx hb dX5_iters_104 ?_
          refine lv_istore (lv' := [(10, .int (((r1.2.1.1 (fP b2 11))) - ((L.1 7)))), (9, .int (L.1 100)), (0, .ref (a 40)), (1, .int (L.1 1)), (2, .int (L.1 2)), (3, .int (L.1 3)), (4, .int (L.1 4)), (6, .int (L.1 6)), (7, .int (L.1 7)), (8, .int (L.1 8))]) hx hb dX5_iters_105 hl (by decide) rfl (fun ls hl => ?_)
          refine lv_aload_n hx hb dX5_iters_107 rfl (lv_at hl 2 rfl) ?_
          refine lv_bipush (v := 46) hx hb dX5_iters_108 (by decide) ?_
          obtain ⟨r3, hc3, hle3, h9⟩ := ox_ex h
          clear h
          refine kx_v (r := y1) (vx_runV (As := [.int 46]) (rest := []) ⟨hx, hb, hml, hown, hts⟩ (c_f_X5_expect l hl0 dC dI cy ek a k (lI lZ 1 46) r1.2.1 r3 hc3 z H.size) (cwV 1 hts g_f_X5_iters_X5_expect_V141 rfl rfl rfl hd_f_X5_expect (by show 7 + 1 ≤ 9 + d ∧ 8 + (2 + 11) + 126 ≤ 173 + 33 * d; omega)) ⟨nb_blindF, va_recv hK hP (ci := 4) (q0 := 40) rfl rfl, (kx_pre hK hG hE hT hA hP hD hS)⟩ rfl rfl hl.1 rfl (lv_room (Nat.le_of_ble_eq_true rfl)) dX5_iters_110 ⟨Nat.le_trans (Nat.add_le_add_left hle3.1 _) (Nat.le_of_eq hc), Nat.le_trans (Nat.add_le_add_left hle3.2 _) (Nat.le_of_eq hs)⟩) hK hA hzk hP hD hS (by decide) hno hlocks ?_
          rcases h9 with ⟨h00, y3, hny3, hy⟩ | ⟨h00, hy⟩
          · subst hy
            have h := hny3
            refine Or.inl ⟨h00, fun u H locs hz3 hzk hP hD hS => ?_⟩
            obtain rfl := (zk_nil hz3).symm
            replace hc := (Nat.add_assoc _ _ _).trans hc
            replace hs := (Nat.add_assoc _ _ _).trans hs
            refine lv_aload_n hx hb dX5_iters_113 rfl (lv_at hl 2 rfl) ?_
            refine lv_iconst (v := 4) hx hb dX5_iters_114 (by decide) ?_
            obtain ⟨e4, he4, h⟩ := of_ex h
            obtain ⟨r4, hc4, hle4, h9⟩ := ox_ex h
            clear h
            refine kx_v (r := y3) (vx_runV (As := [.int 4]) (rest := []) ⟨hx, hb, hml, hown, hts⟩ ((IH k (by omega)).2.1 e4 (lI lZ 1 4) r3.2.1 r4 hc4 z H.size) (cwV 1 hts g_f_X5_iters_X5_exp_V90 rfl rfl rfl hd_f_X5_exp (by show (9 + e4) + 1 ≤ 9 + d ∧ 8 + (8 + 11) + (173 + 33 * e4) ≤ 173 + 33 * d; omega)) ⟨nb_blindF, va_recv hK hP (ci := 4) (q0 := 40) rfl rfl, (kx_pre hK hG hE hT hA hP hD hS)⟩ rfl rfl hl.1 rfl (lv_room (Nat.le_of_ble_eq_true rfl)) dX5_iters_115 ⟨Nat.le_trans (Nat.add_le_add_left hle4.1 _) (Nat.le_of_eq hc), Nat.le_trans (Nat.add_le_add_left hle4.2 _) (Nat.le_of_eq hs)⟩) hK hA hzk hP hD hS (by decide) hno hlocks ?_
            rcases h9 with ⟨h00, y4, hny4, hy⟩ | ⟨h00, hy⟩
            · subst hy
              have h := hny4
              refine Or.inl ⟨h00, fun z H locs hz4 hzk hP hD hS => ?_⟩
              replace hc := (Nat.add_assoc _ _ _).trans hc
              replace hs := (Nat.add_assoc _ _ _).trans hs
              refine lv_iload_n hx hb dX5_iters_118 rfl (lv_at hl 3 rfl) ?_
              refine lv_if_eq (tgt := 137) hx hb dX5_iters_119 (by decide) (fun c5 => ?_) (fun c5 => ?_)
              · rw [if_pos c5] at h
                exact ih.2.2.2.2.2.2.2.1 z _ _ (lI (lI L 9 ((L.1 100))) 10 ((((r1.2.1.1 (fP b2 11))) - ((L.1 7))))) r4.2.1 _ h hzk hc hs H locs ls hP hD hS (lv_sub hl [2, 3, 4, 5, 6, 7, 8, 9, 1, 0] rfl)
              · rw [if_neg c5] at h
                refine lv_aload_n hx hb dX5_iters_122 rfl (lv_at hl 2 rfl) ?_
                obtain ⟨b6, hb6, h⟩ := oP_ex h
                refine hgq_40_2 hx hb hts in_f_X5_iters_X5 hown hK hP (hts _ (List.mem_cons_of_mem _ (List.mem_append_left _ (List.mem_append_left _ (List.mem_of_getElem? (i := 24) rfl))))) hb6 dX5_iters_123 ?_
                refine lv_aload_n hx hb dX5_iters_126 rfl (lv_at hl 2 rfl) ?_
                refine hg_40_3 hx hb hts in_f_X5_iters_X5 hown hK hP (hts _ (List.mem_cons_of_mem _ (List.mem_append_left _ (List.mem_append_left _ (List.mem_of_getElem? (i := 85) rfl))))) dX5_iters_127 ?_
                refine lv_iconst (v := 2) hx hb dX5_iters_130 (by decide) ?_
                obtain ⟨r7, hc7, h⟩ := op_ex h
                refine kc_i (va_runV (As := [.int (r4.2.1.1 4003), .int 2]) (rest := []) ⟨hx, hb, hml, hown, hts⟩ (c_y_X7_newSlots__P l dC dI cy a z k (lI (lI (lB lZ 0 b6) 1 ((r4.2.1.1 4003))) 2 2) r4.2.1 r7 hc7 H.size) (cwV 2 hts g_y_X5_iters_X7_newSlots__P_V157 rfl rfl rfl hd_y_X7_newSlots__P (by show 0 + 1 ≤ 9 + d ∧ 8 + (3 + 11) + 0 ≤ 173 + 33 * d; omega)) ⟨nb_blind, recvP b6 hK hP, (kb_pre hK hG hP hD)⟩ rfl rfl hl.1 rfl (lv_room (Nat.le_of_ble_eq_true rfl)) dX5_iters_131 ⟨(Nat.le_trans (Nat.le_add_right _ _) (Nat.le_of_eq hc)), (Nat.le_trans (Nat.le_add_right _ _) (Nat.le_of_eq hs))⟩) hA hP hD hS (fun H locs hP hD hS => ?_)
                refine lv_goto (tgt := 145) hx hb dX5_iters_134 (by decide) ?_
                exact ih.2.2.2.2.2.2.2.2.1 z _ _ (lI (lI (lI L 9 ((L.1 100))) 10 ((((r1.2.1.1 (fP b2 11))) - ((L.1 7))))) 100 r7.1) r7.2 _ h hzk hc hs H locs ls hP hD hS (lv_sub hl [2, 3, 4, 5, 6, 7, 8, 9, 1, 0] rfl)
            · subst hy
              exact Or.inr ⟨h00, rfl, hc, hs⟩
          · subst hy
            exact Or.inr ⟨h00, rfl, hc, hs⟩
        · subst hy
          exact Or.inr ⟨h00, rfl, hc, hs⟩
      · intro z cells slots L σ r h hzk hc hs H locs ls hP hD hS hl
        rw [f_F2_5, t_X5_iters_7] at h
        refine lv_aload_n hx hb dX5_iters_137 rfl (lv_at hl 0 rfl) ?_
        obtain ⟨b1, hb1, h⟩ := oP_ex h
        refine hgq_40_2 hx hb hts in_f_X5_iters_X5 hown hK hP (hts _ (List.mem_cons_of_mem _ (List.mem_append_left _ (List.mem_append_left _ (List.mem_of_getElem? (i := 24) rfl))))) hb1 dX5_iters_138 ?_
        refine lv_iconst (v := 2) hx hb dX5_iters_141 (by decide) ?_
        obtain ⟨r2, hc2, h⟩ := op_ex h
        refine kc_i (va_runV (As := [.int 2]) (rest := []) ⟨hx, hb, hml, hown, hts⟩ (c_y_X7_newPassing__P l dC dI cy a z k (lI (lB lZ 0 b1) 1 2) σ r2 hc2 H.size) (cwV 1 hts g_y_X5_iters_X7_newPassing__P_V454 rfl rfl rfl hd_y_X7_newPassing__P (by show 0 + 1 ≤ 9 + d ∧ 8 + (2 + 11) + 0 ≤ 173 + 33 * d; omega)) ⟨nb_blind, recvP b1 hK hP, (kb_pre hK hG hP hD)⟩ rfl rfl hl.1 rfl (lv_room (Nat.le_of_ble_eq_true rfl)) dX5_iters_142 ⟨(Nat.le_trans (Nat.le_add_right _ _) (Nat.le_of_eq hc)), (Nat.le_trans (Nat.le_add_right _ _) (Nat.le_of_eq hs))⟩) hA hP hD hS (fun H locs hP hD hS => ?_)
        exact ih.2.2.2.2.2.2.2.2.1 z _ _ (lI L 100 r2.1) r2.2 _ h hzk hc hs H locs ls hP hD hS (lv_sub hl [0, 1, 2, 3, 4, 5, 6, 7, 8, 9] rfl)
      · intro z cells slots L σ r h hzk hc hs H locs ls hP hD hS hl
        rw [f_F2_5, t_X5_iters_8] at h
        refine lv_istore (lv' := [(11, .int (L.1 100)), (0, .ref (a 40)), (1, .int (L.1 1)), (2, .int (L.1 2)), (3, .int (L.1 3)), (4, .int (L.1 4)), (6, .int (L.1 6)), (7, .int (L.1 7)), (8, .int (L.1 8)), (9, .int (L.1 9)), (10, .int (L.1 10))]) hx hb dX5_iters_145 hl (by decide) rfl (fun ls hl => ?_)
        refine lv_aload_n hx hb dX5_iters_147 rfl (lv_at hl 1 rfl) ?_
        obtain ⟨b1, hb1, h⟩ := oP_ex h
        refine hgq_40_2 hx hb hts in_f_X5_iters_X5 hown hK hP (hts _ (List.mem_cons_of_mem _ (List.mem_append_left _ (List.mem_append_left _ (List.mem_of_getElem? (i := 24) rfl))))) hb1 dX5_iters_148 ?_
        refine lv_iload_n hx hb dX5_iters_151 rfl (lv_at hl 2 rfl) ?_
        refine lv_if_eq (tgt := 160) hx hb dX5_iters_152 (by decide) (fun c2 => ?_) (fun c2 => ?_)
        · rw [if_pos c2] at h
          exact ih.2.2.2.2.2.2.2.2.2.1 z _ _ (lB (lI L 11 ((L.1 100))) 100 b1) σ _ h hzk hc hs H locs ls hP hD hS (lv_sub hl [1, 2, 3, 4, 5, 6, 7, 8, 9, 10, 0] rfl)
        · rw [if_neg c2] at h
          refine lv_bipush (v := 69) hx hb dX5_iters_155 (by decide) ?_
          refine lv_goto (tgt := 162) hx hb dX5_iters_157 (by decide) ?_
          exact ih.2.2.2.2.2.2.2.2.2.2.1 z _ _ (lB (lI (lI L 11 ((L.1 100))) 100 69) 101 b1) σ _ h hzk hc hs H locs ls hP hD hS (lv_sub hl [1, 2, 3, 4, 5, 6, 7, 8, 9, 10, 0] rfl)
      · intro z cells slots L σ r h hzk hc hs H locs ls hP hD hS hl
        rw [f_F2_5, t_X5_iters_9] at h
        refine lv_bipush (v := 64) hx hb dX5_iters_160 (by decide) ?_
        exact ih.2.2.2.2.2.2.2.2.2.2.1 z _ _ (lB (lI L 100 64) 101 ((L.2.2.1 100))) σ _ h hzk hc hs H locs ls hP hD hS (lv_sub hl [0, 1, 2, 3, 4, 5, 6, 7, 8, 9, 10] rfl)
      · intro z cells slots L σ r h hzk hc hs H locs ls hP hD hS hl
        rw [f_F2_5, t_X5_iters_10] at h
        refine lv_iload hx hb dX5_iters_162 (lv_at hl 10 rfl) ?_
        obtain ⟨r1, hc1, hle1, h9⟩ := ox_ex h
        clear h
        refine kx_i (vx_runV (As := [.int (L.1 100), .int (L.1 11)]) (rest := []) ⟨hx, hb, hml, hown, hts⟩ (c_f_X7_emit__P l hl0 dC dI cy ek a k (lI (lI (lB lZ 0 ((L.2.2.1 101))) 1 ((L.1 100))) 2 ((L.1 11))) σ r1 hc1 z H.size) (cwV 2 hts g_f_X5_iters_X7_emit__P_V66 rfl rfl rfl hd_f_X7_emit__P (by show 7 + 1 ≤ 9 + d ∧ 8 + (3 + 11) + 121 ≤ 173 + 33 * d; omega)) ⟨nb_blindF, recvP ((L.2.2.1 101)) hK hP, (kx_pre hK hG hE hT hA hP hD hS)⟩ rfl rfl hl.1 rfl (lv_room (Nat.le_of_ble_eq_true rfl)) dX5_iters_164 ⟨Nat.le_trans (Nat.add_le_add_left hle1.1 _) (Nat.le_of_eq hc), Nat.le_trans (Nat.add_le_add_left hle1.2 _) (Nat.le_of_eq hs)⟩) hK hA hzk hP hD hS (by decide) hno hlocks ?_
        rcases h9 with ⟨h00, y1, hny1, hy⟩ | ⟨h00, hy⟩
        · subst hy
          have h := hny1
          refine Or.inl ⟨h00, fun z H locs hz1 hzk hP hD hS => ?_⟩
          replace hc := (Nat.add_assoc _ _ _).trans hc
          replace hs := (Nat.add_assoc _ _ _).trans hs
          refine lv_pop hx hb dX5_iters_167 rfl ?_
          refine lv_aload_n hx hb dX5_iters_168 rfl (lv_at hl 0 rfl) ?_
          obtain ⟨b2, hb2, h⟩ := oP_ex h
          refine hgq_40_2 hx hb hts in_f_X5_iters_X5 hown hK hP (hts _ (List.mem_cons_of_mem _ (List.mem_append_left _ (List.mem_append_left _ (List.mem_of_getElem? (i := 24) rfl))))) hb2 dX5_iters_169 ?_
          refine lv_iload_n hx hb dX5_iters_172 rfl (lv_at hl 1 rfl) ?_
          refine lv_if_eq (tgt := 181) hx hb dX5_iters_173 (by decide) (fun c3 => ?_) (fun c3 => ?_)
          · rw [if_pos c3] at h
            exact ih.2.2.2.2.2.2.2.2.2.2.2.1 z _ _ (lB L 100 b2) r1.2.1 _ h hzk hc hs H locs ls hP hD hS (lv_sub hl [0, 1, 2, 3, 4, 5, 6, 7, 8, 9, 10] rfl)
          · rw [if_neg c3] at h
            refine lv_bipush (v := 70) hx hb dX5_iters_176 (by decide) ?_
            refine lv_goto (tgt := 183) hx hb dX5_iters_178 (by decide) ?_
            exact ih.2.2.2.2.2.2.2.2.2.2.2.2.1 z _ _ (lB (lI L 100 70) 101 b2) r1.2.1 _ h hzk hc hs H locs ls hP hD hS (lv_sub hl [0, 1, 2, 3, 4, 5, 6, 7, 8, 9, 10] rfl)
        · subst hy
          exact Or.inr ⟨h00, rfl, hc, hs⟩
      · intro z cells slots L σ r h hzk hc hs H locs ls hP hD hS hl
        rw [f_F2_5, t_X5_iters_11] at h
        refine lv_bipush (v := 65) hx hb dX5_iters_181 (by decide) ?_
        exact ih.2.2.2.2.2.2.2.2.2.2.2.2.1 z _ _ (lB (lI L 100 65) 101 ((L.2.2.1 100))) σ _ h hzk hc hs H locs ls hP hD hS (lv_sub hl [0, 1, 2, 3, 4, 5, 6, 7, 8, 9, 10] rfl)
      · intro z cells slots L σ r h hzk hc hs H locs ls hP hD hS hl
        rw [f_F2_5, t_X5_iters_12] at h
        refine lv_iload hx hb dX5_iters_183 (lv_at hl 10 rfl) ?_
        obtain ⟨r1, hc1, hle1, h9⟩ := ox_ex h
        clear h
        refine kx_i (vx_runV (As := [.int (L.1 100), .int (L.1 11)]) (rest := []) ⟨hx, hb, hml, hown, hts⟩ (c_f_X7_emit__P l hl0 dC dI cy ek a k (lI (lI (lB lZ 0 ((L.2.2.1 101))) 1 ((L.1 100))) 2 ((L.1 11))) σ r1 hc1 z H.size) (cwV 2 hts g_f_X5_iters_X7_emit__P_V66 rfl rfl rfl hd_f_X7_emit__P (by show 7 + 1 ≤ 9 + d ∧ 8 + (3 + 11) + 121 ≤ 173 + 33 * d; omega)) ⟨nb_blindF, recvP ((L.2.2.1 101)) hK hP, (kx_pre hK hG hE hT hA hP hD hS)⟩ rfl rfl hl.1 rfl (lv_room (Nat.le_of_ble_eq_true rfl)) dX5_iters_185 ⟨Nat.le_trans (Nat.add_le_add_left hle1.1 _) (Nat.le_of_eq hc), Nat.le_trans (Nat.add_le_add_left hle1.2 _) (Nat.le_of_eq hs)⟩) hK hA hzk hP hD hS (by decide) hno hlocks ?_
        rcases h9 with ⟨h00, y1, hny1, hy⟩ | ⟨h00, hy⟩
        · subst hy
          have h := hny1
          refine Or.inl ⟨h00, fun z H locs hz1 hzk hP hD hS => ?_⟩
          replace hc := (Nat.add_assoc _ _ _).trans hc
          replace hs := (Nat.add_assoc _ _ _).trans hs
          refine lv_istore (lv' := [(12, .int r1.1.2), (0, .ref (a 40)), (1, .int (L.1 1)), (2, .int (L.1 2)), (3, .int (L.1 3)), (4, .int (L.1 4)), (6, .int (L.1 6)), (7, .int (L.1 7)), (8, .int (L.1 8)), (9, .int (L.1 9)), (10, .int (L.1 10)), (11, .int (L.1 11))]) hx hb dX5_iters_188 hl (by decide) rfl (fun ls hl => ?_)
          refine lv_aload_n hx hb dX5_iters_190 rfl (lv_at hl 1 rfl) ?_
          obtain ⟨b2, hb2, h⟩ := oP_ex h
          refine hgq_40_2 hx hb hts in_f_X5_iters_X5 hown hK hP (hts _ (List.mem_cons_of_mem _ (List.mem_append_left _ (List.mem_append_left _ (List.mem_of_getElem? (i := 24) rfl))))) hb2 dX5_iters_191 ?_
          refine lv_iload hx hb dX5_iters_194 (lv_at hl 5 rfl) ?_
          refine lv_iload hx hb dX5_iters_196 (lv_at hl 0 rfl) ?_
          refine lv_isub hx hb dX5_iters_198 ?_
          obtain ⟨r3, hc3, hle3, h9⟩ := ox_ex h
          clear h
          refine kx_i (r := y1) (vx_runV (As := [.int (((L.1 4)) - r1.1.2)]) (rest := []) ⟨hx, hb, hml, hown, hts⟩ (c_f_X7_word__P l hl0 dC dI cy ek a k (lI (lB lZ 0 b2) 1 ((((L.1 4)) - r1.1.2))) r1.2.1 r3 hc3 z H.size) (cwV 1 hts g_f_X5_iters_X7_word__P_V243 rfl rfl rfl hd_f_X7_word__P (by show 7 + 1 ≤ 9 + d ∧ 8 + (2 + 11) + 121 ≤ 173 + 33 * d; omega)) ⟨nb_blindF, recvP b2 hK hP, (kx_pre hK hG hE hT hA hP hD hS)⟩ rfl rfl hl.1 rfl (lv_room (Nat.le_of_ble_eq_true rfl)) dX5_iters_199 ⟨Nat.le_trans (Nat.add_le_add_left hle3.1 _) (Nat.le_of_eq hc), Nat.le_trans (Nat.add_le_add_left hle3.2 _) (Nat.le_of_eq hs)⟩) hK hA hzk hP hD hS (by decide) hno hlocks ?_
          rcases h9 with ⟨h00, y3, hny3, hy⟩ | ⟨h00, hy⟩
          · subst hy
            have h := hny3
            refine Or.inl ⟨h00, fun z H locs hz3 hzk hP hD hS => ?_⟩
            replace hc := (Nat.add_assoc _ _ _).trans hc
            replace hs := (Nat.add_assoc _ _ _).trans hs
            refine lv_pop hx hb dX5_iters_202 rfl ?_
            refine lv_iload_n hx hb dX5_iters_203 rfl (lv_at hl 4 rfl) ?_
            refine lv_iconst (v := (-1)) hx hb dX5_iters_204 (by decide) ?_
            refine lv_icmp_ne (tgt := 213) hx hb dX5_iters_205 (by decide) (fun c4 => ?_) (fun c4 => ?_)
            · rw [if_neg c4] at h
              exact ih.2.2.2.2.2.2.2.2.2.2.2.2.2.1 z _ _ (lI L 12 r1.1.2) r3.2.1 _ h hzk hc hs H locs ls hP hD hS (lv_sub hl [1, 2, 3, 4, 6, 7, 8, 9, 10, 11, 0] rfl)
            · rw [if_pos c4] at h
              refine lv_iload hx hb dX5_iters_208 (lv_at hl 0 rfl) ?_
              refine lv_goto (tgt := 214) hx hb dX5_iters_210 (by decide) ?_
              exact ih.2.2.2.2.2.2.2.2.2.2.2.2.2.2.1 z _ _ (lI (lI L 12 r1.1.2) 100 r1.1.2) r3.2.1 _ h hzk hc hs H locs ls hP hD hS (lv_sub hl [1, 2, 3, 6, 7, 8, 9, 10, 11, 0] rfl)
          · subst hy
            exact Or.inr ⟨h00, rfl, hc, hs⟩
        · subst hy
          exact Or.inr ⟨h00, rfl, hc, hs⟩
      · intro z cells slots L σ r h hzk hc hs H locs ls hP hD hS hl
        rw [f_F2_5, t_X5_iters_13] at h
        refine lv_iload_n hx hb dX5_iters_213 rfl (lv_at hl 3 rfl) ?_
        exact ih.2.2.2.2.2.2.2.2.2.2.2.2.2.2.1 z _ _ (lI L 100 ((L.1 3))) σ _ h hzk hc hs H locs ls hP hD hS (lv_sub hl [0, 1, 2, 4, 5, 6, 7, 8, 9, 10] rfl)
      · intro z cells slots L σ r h hzk hc hs H locs ls hP hD hS hl
        rw [f_F2_5, t_X5_iters_14] at h
        refine lv_istore_n (lv' := [(3, .int (L.1 100)), (0, .ref (a 40)), (1, .int (L.1 1)), (2, .int (L.1 2)), (6, .int (L.1 6)), (7, .int (L.1 7)), (8, .int (L.1 8)), (9, .int (L.1 9)), (10, .int (L.1 10)), (11, .int (L.1 11)), (12, .int (L.1 12))]) hx hb dX5_iters_214 rfl hl (by decide) rfl (fun ls hl => ?_)
        refine lv_iload hx hb dX5_iters_215 (lv_at hl 10 rfl) ?_
        refine lv_istore (lv' := [(4, .int (L.1 12)), (3, .int (L.1 100)), (0, .ref (a 40)), (1, .int (L.1 1)), (2, .int (L.1 2)), (6, .int (L.1 6)), (7, .int (L.1 7)), (8, .int (L.1 8)), (9, .int (L.1 9)), (10, .int (L.1 10)), (11, .int (L.1 11)), (12, .int (L.1 12))]) hx hb dX5_iters_217 hl (by decide) rfl (fun ls hl => ?_)
        refine lv_aload_n hx hb dX5_iters_219 rfl (lv_at hl 2 rfl) ?_
        refine lv_iload hx hb dX5_iters_220 (lv_at hl 7 rfl) ?_
        refine lv_iload hx hb dX5_iters_222 (lv_at hl 8 rfl) ?_
        refine lv_if_eq (tgt := 232) hx hb dX5_iters_224 (by decide) (fun c1 => ?_) (fun c1 => ?_)
        · rw [if_pos c1] at h
          exact ih.2.2.2.2.2.2.2.2.2.2.2.2.2.2.2.1 z _ _ (lI (lI (lI L 3 ((L.1 100))) 4 ((L.1 12))) 100 ((L.1 8))) σ _ h hzk hc hs H locs ls hP hD hS (lv_sub hl [2, 3, 4, 1, 0, 5, 6, 7, 9, 10] rfl)
        · rw [if_neg c1] at h
          refine lv_iload hx hb dX5_iters_227 (lv_at hl 9 rfl) ?_
          refine lv_goto (tgt := 233) hx hb dX5_iters_229 (by decide) ?_
          exact ih.2.2.2.2.2.2.2.2.2.2.2.2.2.2.2.2.1 z _ _ (lI (lI (lI (lI L 3 ((L.1 100))) 4 ((L.1 12))) 100 ((L.1 10))) 101 ((L.1 8))) σ _ h hzk hc hs H locs ls hP hD hS (lv_sub hl [2, 3, 4, 1, 0, 5, 6, 7, 9, 10] rfl)
      · intro z cells slots L σ r h hzk hc hs H locs ls hP hD hS hl
        rw [f_F2_5, t_X5_iters_15] at h
        refine lv_iconst (v := 0) hx hb dX5_iters_232 (by decide) ?_
        exact ih.2.2.2.2.2.2.2.2.2.2.2.2.2.2.2.2.1 z _ _ (lI (lI L 100 0) 101 ((L.1 100))) σ _ h hzk hc hs H locs ls hP hD hS (lv_sub hl [0, 1, 2, 3, 4, 5, 6, 7, 8, 9] rfl)
      · intro z cells slots L σ r h hzk hc hs H locs ls hP hD hS hl
        rw [f_F2_5, t_X5_iters_16] at h
        refine lv_iload_n hx hb dX5_iters_233 rfl (lv_at hl 1 rfl) ?_
        obtain ⟨r1, hc1, hle1, h9⟩ := ox_ex h
        clear h
        refine kx_v (vx_runV (As := [.int (L.1 101), .int (L.1 100), .int (L.1 1)]) (rest := []) ⟨hx, hb, hml, hown, hts⟩ (c_f_X5_iterStore l hl0 dC dI cy ek a k (lI (lI (lI lZ 1 ((L.1 101))) 2 ((L.1 100))) 3 ((L.1 1))) σ r1 hc1 z H.size) (cwV 3 hts g_f_X5_iters_X5_iterStore_V457 rfl rfl rfl hd_f_X5_iterStore (by show 8 + 1 ≤ 9 + d ∧ 8 + (4 + 11) + 143 ≤ 173 + 33 * d; omega)) ⟨nb_blindF, va_recv hK hP (ci := 4) (q0 := 40) rfl rfl, (kx_pre hK hG hE hT hA hP hD hS)⟩ rfl rfl hl.1 rfl (lv_room (Nat.le_of_ble_eq_true rfl)) dX5_iters_234 ⟨Nat.le_trans (Nat.add_le_add_left hle1.1 _) (Nat.le_of_eq hc), Nat.le_trans (Nat.add_le_add_left hle1.2 _) (Nat.le_of_eq hs)⟩) hK hA hzk hP hD hS (by decide) hno hlocks ?_
        rcases h9 with ⟨h00, y1, hny1, hy⟩ | ⟨h00, hy⟩
        · subst hy
          have h := hny1
          refine Or.inl ⟨h00, fun z H locs hz1 hzk hP hD hS => ?_⟩
          replace hc := (Nat.add_assoc _ _ _).trans hc
          replace hs := (Nat.add_assoc _ _ _).trans hs
          refine lv_iload hx hb dX5_iters_237 (lv_at hl 6 rfl) ?_
          refine lv_istore (lv' := [(13, .int (L.1 7)), (0, .ref (a 40)), (1, .int (L.1 1)), (2, .int (L.1 2)), (3, .int (L.1 3)), (4, .int (L.1 4)), (6, .int (L.1 6)), (7, .int (L.1 7)), (8, .int (L.1 8)), (10, .int (L.1 10)), (11, .int (L.1 11))]) hx hb dX5_iters_239 hl (by decide) rfl (fun ls hl => ?_)
          exact ih.2.2.2.2.2.2.2.2.2.2.2.2.2.2.2.2.2.1 z _ _ (lI L 13 ((L.1 7))) r1.2.1 _ h hzk hc hs H locs ls hP hD hS (lv_sub hl [1, 2, 3, 4, 5, 6, 8, 9, 10, 0] rfl)
        · subst hy
          exact Or.inr ⟨h00, rfl, hc, hs⟩
      · intro z cells slots L σ r h hzk hc hs H locs ls hP hD hS hl
        rw [f_F2_5, t_X5_iters_17] at h
        refine lv_iload hx hb dX5_iters_241 (lv_at hl 9 rfl) ?_
        refine lv_aload_n hx hb dX5_iters_243 rfl (lv_at hl 0 rfl) ?_
        obtain ⟨b1, hb1, h⟩ := oP_ex h
        refine hgq_40_2 hx hb hts in_f_X5_iters_X5 hown hK hP (hts _ (List.mem_cons_of_mem _ (List.mem_append_left _ (List.mem_append_left _ (List.mem_of_getElem? (i := 24) rfl))))) hb1 dX5_iters_244 ?_
        refine hg_P_11n b1 hx hb hts in_f_X5_iters_X7 hown hK hP (va_Nw.use rfl (hG.1 _ (List.mem_of_getElem? (i := 82) rfl))) dX5_iters_247 ?_
        refine lv_icmp_ge (tgt := 270) hx hb dX5_iters_250 (by decide) (fun c2 => ?_) (fun c2 => ?_)
        · rw [if_pos c2] at h
          exact ih.2.2.2.2.2.2.2.2.2.2.2.2.2.2.2.2.2.2.1 z _ _ L σ _ h hzk hc hs H locs ls hP hD hS (lv_sub hl [0, 1, 2, 3, 4, 5, 6, 7, 8] rfl)
        · rw [if_neg c2] at h
          refine lv_aload_n hx hb dX5_iters_253 rfl (lv_at hl 0 rfl) ?_
          obtain ⟨b3, hb3, h⟩ := oP_ex h
          refine hgq_40_2 hx hb hts in_f_X5_iters_X5 hown hK hP (hts _ (List.mem_cons_of_mem _ (List.mem_append_left _ (List.mem_append_left _ (List.mem_of_getElem? (i := 24) rfl))))) hb3 dX5_iters_254 ?_
          refine hg_P_10n b3 hx hb hts in_f_X5_iters_X7 hown hK hP (va_Nw.use rfl (hG.1 _ (List.mem_of_getElem? (i := 81) rfl))) dX5_iters_257 ?_
          refine lv_iload hx hb dX5_iters_260 (lv_at hl 9 rfl) ?_
          refine lv_iconst (v := 0) hx hb dX5_iters_262 (by decide) ?_
          obtain ⟨q4, h⟩ := kr_ite1 h
          refine hs_P10 b3 hx hb hK hP hD hS q4 dX5_iters_263 (fun H locs hP hD hS => ?_)
          refine lv_iinc (v := ((L.1 13)) + 1) (lv' := [(13, .int (((L.1 13)) + 1)), (0, .ref (a 40)), (1, .int (L.1 1)), (2, .int (L.1 2)), (3, .int (L.1 3)), (4, .int (L.1 4)), (6, .int (L.1 6)), (8, .int (L.1 8)), (10, .int (L.1 10)), (11, .int (L.1 11))]) hx hb dX5_iters_264 hl (k := 9) rfl rfl (by decide) rfl (fun ls hl => ?_)
          refine lv_goto (tgt := 241) hx hb dX5_iters_267 (by decide) ?_
          exact ih.2.2.2.2.2.2.2.2.2.2.2.2.2.2.2.2.2.1 z _ _ (lI L 13 ((((L.1 13)) + 1))) (uA σ (pR10 b3) ((L.1 13)).toNatClampNeg (vp_nar .boolean 0)) _ h hzk hc hs H locs ls hP hD hS (lv_sub hl [1, 2, 3, 4, 5, 6, 7, 8, 9, 0] rfl)
      · intro z cells slots L σ r h hzk hc hs H locs ls hP hD hS hl
        rw [f_F2_5, t_X5_iters_18] at h
        refine lv_iload_n hx hb dX5_iters_270 rfl (lv_at hl 1 rfl) ?_
        refine lv_if_eq (tgt := 295) hx hb dX5_iters_271 (by decide) (fun c1 => ?_) (fun c1 => ?_)
        · rw [if_pos c1] at h
          exact ih.2.2.2.2.2.2.2.2.2.2.2.2.2.2.2.2.2.2.2.1 z _ _ L σ _ h hzk hc hs H locs ls hP hD hS (lv_sub hl [0, 1, 2, 3, 4, 5] rfl)
        · rw [if_neg c1] at h
          refine lv_aload_n hx hb dX5_iters_274 rfl (lv_at hl 0 rfl) ?_
          refine lv_iload hx hb dX5_iters_275 (lv_at hl 8 rfl) ?_
          obtain ⟨r2, hc2, hle2, h9⟩ := ox_ex h
          clear h
          refine kx_i (vx_runV (As := [.int (L.1 11)]) (rest := []) ⟨hx, hb, hml, hown, hts⟩ (c_f_X5_mark l hl0 dC dI cy ek a k (lI lZ 1 ((L.1 11))) σ r2 hc2 z H.size) (cwV 1 hts g_f_X5_iters_X5_mark_V303 rfl rfl rfl hd_f_X5_mark (by show 7 + 1 ≤ 9 + d ∧ 8 + (2 + 11) + 121 ≤ 173 + 33 * d; omega)) ⟨nb_blindF, va_recv hK hP (ci := 4) (q0 := 40) rfl rfl, (kx_pre hK hG hE hT hA hP hD hS)⟩ rfl rfl hl.1 rfl (lv_room (Nat.le_of_ble_eq_true rfl)) dX5_iters_277 ⟨Nat.le_trans (Nat.add_le_add_left hle2.1 _) (Nat.le_of_eq hc), Nat.le_trans (Nat.add_le_add_left hle2.2 _) (Nat.le_of_eq hs)⟩) hK hA hzk hP hD hS (by decide) hno hlocks ?_
          rcases h9 with ⟨h00, y2, hny2, hy⟩ | ⟨h00, hy⟩
          · subst hy
            have h := hny2
            refine Or.inl ⟨h00, fun z H locs hz2 hzk hP hD hS => ?_⟩
            replace hc := (Nat.add_assoc _ _ _).trans hc
            replace hs := (Nat.add_assoc _ _ _).trans hs
            refine lv_pop hx hb dX5_iters_280 rfl ?_
            refine lv_aload_n hx hb dX5_iters_281 rfl (lv_at hl 0 rfl) ?_
            refine lv_iload hx hb dX5_iters_282 (lv_at hl 6 rfl) ?_
            obtain ⟨r3, hc3, hle3, h9⟩ := ox_ex h
            clear h
            refine kx_i (r := y2) (vx_runV (As := [.int (L.1 8)]) (rest := []) ⟨hx, hb, hml, hown, hts⟩ (c_f_X5_mark l hl0 dC dI cy ek a k (lI lZ 1 ((L.1 8))) r2.2.1 r3 hc3 z H.size) (cwV 1 hts g_f_X5_iters_X5_mark_V303 rfl rfl rfl hd_f_X5_mark (by show 7 + 1 ≤ 9 + d ∧ 8 + (2 + 11) + 121 ≤ 173 + 33 * d; omega)) ⟨nb_blindF, va_recv hK hP (ci := 4) (q0 := 40) rfl rfl, (kx_pre hK hG hE hT hA hP hD hS)⟩ rfl rfl hl.1 rfl (lv_room (Nat.le_of_ble_eq_true rfl)) dX5_iters_284 ⟨Nat.le_trans (Nat.add_le_add_left hle3.1 _) (Nat.le_of_eq hc), Nat.le_trans (Nat.add_le_add_left hle3.2 _) (Nat.le_of_eq hs)⟩) hK hA hzk hP hD hS (by decide) hno hlocks ?_
            rcases h9 with ⟨h00, y3, hny3, hy⟩ | ⟨h00, hy⟩
            · subst hy
              have h := hny3
              refine Or.inl ⟨h00, fun z H locs hz3 hzk hP hD hS => ?_⟩
              replace hc := (Nat.add_assoc _ _ _).trans hc
              replace hs := (Nat.add_assoc _ _ _).trans hs
              refine lv_pop hx hb dX5_iters_287 rfl ?_
              refine lv_aload_n hx hb dX5_iters_288 rfl (lv_at hl 0 rfl) ?_
              refine lv_iload hx hb dX5_iters_289 (lv_at hl 7 rfl) ?_
              obtain ⟨r4, hc4, hle4, h9⟩ := ox_ex h
              clear h
              refine kx_i (r := y3) (vx_runV (As := [.int (L.1 10)]) (rest := []) ⟨hx, hb, hml, hown, hts⟩ (c_f_X5_mark l hl0 dC dI cy ek a k (lI lZ 1 ((L.1 10))) r3.2.1 r4 hc4 z H.size) (cwV 1 hts g_f_X5_iters_X5_mark_V303 rfl rfl rfl hd_f_X5_mark (by show 7 + 1 ≤ 9 + d ∧ 8 + (2 + 11) + 121 ≤ 173 + 33 * d; omega)) ⟨nb_blindF, va_recv hK hP (ci := 4) (q0 := 40) rfl rfl, (kx_pre hK hG hE hT hA hP hD hS)⟩ rfl rfl hl.1 rfl (lv_room (Nat.le_of_ble_eq_true rfl)) dX5_iters_291 ⟨Nat.le_trans (Nat.add_le_add_left hle4.1 _) (Nat.le_of_eq hc), Nat.le_trans (Nat.add_le_add_left hle4.2 _) (Nat.le_of_eq hs)⟩) hK hA hzk hP hD hS (by decide) hno hlocks ?_
              rcases h9 with ⟨h00, y4, hny4, hy⟩ | ⟨h00, hy⟩
              · subst hy
                have h := hny4
                refine Or.inl ⟨h00, fun z H locs hz4 hzk hP hD hS => ?_⟩
                replace hc := (Nat.add_assoc _ _ _).trans hc
                replace hs := (Nat.add_assoc _ _ _).trans hs
                refine lv_pop hx hb dX5_iters_294 rfl ?_
                exact ih.2.2.2.2.2.2.2.2.2.2.2.2.2.2.2.2.2.2.2.1 z _ _ L r4.2.1 _ h hzk hc hs H locs ls hP hD hS (lv_sub hl [0, 1, 2, 3, 4, 5] rfl)
              · subst hy
                exact Or.inr ⟨h00, rfl, hc, hs⟩
            · subst hy
              exact Or.inr ⟨h00, rfl, hc, hs⟩
          · subst hy
            exact Or.inr ⟨h00, rfl, hc, hs⟩
      · intro z cells slots L σ r h hzk hc hs H locs ls hP hD hS hl
        rw [f_F2_5, t_X5_iters_19] at h
        refine lv_aload_n hx hb dX5_iters_295 rfl (lv_at hl 0 rfl) ?_
        refine hg_40_0 hx hb hts in_f_X5_iters_X5 hown hK hP (hts _ (List.mem_cons_of_mem _ (List.mem_append_left _ (List.mem_append_left _ (List.mem_of_getElem? (i := 33) rfl))))) dX5_iters_296 ?_
        refine hg_37_2n hx hb hts in_f_X5_iters_X2 hown hK hP (va_Nw.use rfl (hG.1 _ (List.mem_of_getElem? (i := 52) rfl))) dX5_iters_299 ?_
        refine lv_bipush (v := 16) hx hb dX5_iters_302 (by decide) ?_
        refine lv_icmp_ne (tgt := 311) hx hb dX5_iters_304 (by decide) (fun c1 => ?_) (fun c1 => ?_)
        · rw [if_neg c1] at h
          exact ih.2.2.2.2.2.2.2.2.2.2.2.2.2.2.2.2.2.2.2.2.1 z _ _ L σ _ h hzk hc hs H locs ls hP hD hS (lv_sub hl [0, 1, 2, 3, 4, 5] rfl)
        · rw [if_pos c1] at h
          refine lv_iconst (v := 1) hx hb dX5_iters_307 (by decide) ?_
          refine lv_goto (tgt := 312) hx hb dX5_iters_308 (by decide) ?_
          exact ih.2.2.2.2.2.2.2.2.2.2.2.2.2.2.2.2.2.2.2.2.2.1 z _ _ (lI L 100 1) σ _ h hzk hc hs H locs ls hP hD hS (lv_sub hl [0, 1, 2, 3, 4, 5] rfl)
      · intro z cells slots L σ r h hzk hc hs H locs ls hP hD hS hl
        rw [f_F2_5, t_X5_iters_20] at h
        refine lv_iconst (v := 0) hx hb dX5_iters_311 (by decide) ?_
        exact ih.2.2.2.2.2.2.2.2.2.2.2.2.2.2.2.2.2.2.2.2.2.1 z _ _ (lI L 100 0) σ _ h hzk hc hs H locs ls hP hD hS (lv_sub hl [0, 1, 2, 3, 4, 5] rfl)
      · intro z cells slots L σ r h hzk hc hs H locs ls hP hD hS hl
        rw [f_F2_5, t_X5_iters_21] at h
        refine lv_istore (lv' := [(5, .int (L.1 100)), (0, .ref (a 40)), (1, .int (L.1 1)), (2, .int (L.1 2)), (3, .int (L.1 3)), (4, .int (L.1 4)), (6, .int (L.1 6))]) hx hb dX5_iters_312 hl (by decide) rfl (fun ls hl => ?_)
        refine lv_iload hx hb dX5_iters_314 (lv_at hl 0 rfl) ?_
        refine lv_if_eq (tgt := 326) hx hb dX5_iters_316 (by decide) (fun c1 => ?_) (fun c1 => ?_)
        · rw [if_pos c1] at h
          exact ih.2.2.2.2.2.2.2.2.2.2.2.2.2.2.2.2.2.2.2.2.2.2 z _ _ (lI L 5 ((L.1 100))) σ _ h hzk hc hs H locs ls hP hD hS (lv_sub hl [1, 2, 3, 4, 5, 0, 6] rfl)
        · rw [if_neg c1] at h
          refine lv_aload_n hx hb dX5_iters_319 rfl (lv_at hl 1 rfl) ?_
          refine hg_40_0 hx hb hts in_f_X5_iters_X5 hown hK hP (hts _ (List.mem_cons_of_mem _ (List.mem_append_left _ (List.mem_append_left _ (List.mem_of_getElem? (i := 33) rfl))))) dX5_iters_320 ?_
          obtain ⟨r2, hc2, hle2, h9⟩ := ox_ex h
          clear h
          refine kx_v (vx_runV (As := []) (rest := []) ⟨hx, hb, hml, hown, hts⟩ (c_f_X2_advance l hl0 dC dI cy ek a k lZ σ r2 hc2 z H.size) (cwV 0 hts g_f_X5_iters_X2_advance_V30 rfl rfl rfl hd_f_X2_advance (by show 6 + 1 ≤ 9 + d ∧ 8 + (7 + 11) + 100 ≤ 173 + 33 * d; omega)) ⟨nb_blindF, va_recv hK hP (ci := 2) (q0 := 37) rfl rfl, (kx_pre hK hG hE hT hA hP hD hS)⟩ rfl rfl hl.1 rfl (lv_room (Nat.le_of_ble_eq_true rfl)) dX5_iters_323 ⟨Nat.le_trans (Nat.add_le_add_left hle2.1 _) (Nat.le_of_eq hc), Nat.le_trans (Nat.add_le_add_left hle2.2 _) (Nat.le_of_eq hs)⟩) hK hA hzk hP hD hS (by decide) hno hlocks ?_
          rcases h9 with ⟨h00, y2, hny2, hy⟩ | ⟨h00, hy⟩
          · subst hy
            have h := hny2
            refine Or.inl ⟨h00, fun u H locs hz2 hzk hP hD hS => ?_⟩
            obtain rfl := (zk_nil hz2).symm
            replace hc := (Nat.add_assoc _ _ _).trans hc
            replace hs := (Nat.add_assoc _ _ _).trans hs
            exact ih.2.2.2.2.2.2.2.2.2.2.2.2.2.2.2.2.2.2.2.2.2.2 z _ _ (lI L 5 ((L.1 100))) r2.2.1 _ h hzk hc hs H locs ls hP hD hS (lv_sub hl [1, 2, 3, 4, 5, 0, 6] rfl)
          · subst hy
            exact Or.inr ⟨h00, rfl, hc, hs⟩
      · intro z cells slots L σ r h hzk hc hs H locs ls hP hD hS hl
        rw [f_F2_5, t_X5_iters_22] at h
        refine lv_iinc (v := ((L.1 6)) + 1) (lv' := [(6, .int (((L.1 6)) + 1)), (0, .ref (a 40)), (1, .int (L.1 1)), (2, .int (L.1 2)), (3, .int (L.1 3)), (4, .int (L.1 4)), (5, .int (L.1 5))]) hx hb dX5_iters_326 hl (k := 6) rfl rfl (by decide) rfl (fun ls hl => ?_)
        refine lv_goto (tgt := 19) hx hb dX5_iters_329 (by decide) ?_
        exact ih.2.1 z _ _ (lI L 6 ((((L.1 6)) + 1))) σ _ h hzk hc hs H locs ls hP hD hS (lv_sub hl [1, 2, 3, 4, 5, 6, 0] rfl)
  exact (blk k0 (Nat.le_refl _)).1 z 0 0 L0 σ0 r0 h0 (zk_rf _ _) ((Nat.zero_add _).trans hmc) ((Nat.zero_add _).trans hms) s.heap [] ls hP hD hS hl

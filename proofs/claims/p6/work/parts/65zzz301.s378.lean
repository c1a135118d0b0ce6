/-! The class: the machine's stack. -/
section CSP
variable {g g' g2 : Nat → Prop} {l l' l2 : List Nat} {t t' t2 : Nat} {σ σ' σ2 : CS} {L : LV} {x y i : Int32} {M M' U U' : Nat → Int32} {K K' K2 K3 K4 : Nat → Option Int32}
/-- what small steps of the machine may write -/
def Sm (σ σ' : CS) : Prop := (∀ j, ¬ (j = 1 ∨ j = 404 ∨ j = 1203 ∨ j = 1812 ∨ j = 1813 ∨ j = 1902 ∨ j = 1905) → σ'.1 j = σ.1 j) ∧ σ'.2.1 = σ.2.1 ∧ (∀ k, ¬ (k = 3 ∨ (5 ≤ k ∧ k ≤ 11) ∨ k = 13 ∨ (15 ≤ k ∧ k ≤ 17) ∨ k = 20) → σ'.2.2.1 k = σ.2.2.1 k) ∧ ((∀ k, ¬ k = 20 → sN σ' k = sN σ k) ∧ sN σ 20 ≤ sN σ' 20) ∧ σ'.2.2.2.1 = σ.2.2.2.1 ∧ σ'.2.2.2.2.2 = σ.2.2.2.2.2
theorem Sm_r (σ : CS) : Sm σ σ := ⟨fun _ _ => rfl, rfl, fun _ _ => rfl, ⟨fun _ _ => rfl, Nat.le_refl _⟩, rfl, rfl⟩
theorem Sm_t (a : Sm σ σ') (b : Sm σ' σ2) : Sm σ σ2 := ⟨fun j hj => (b.1 j hj).trans (a.1 j hj), b.2.1.trans a.2.1, fun k hk => (b.2.2.1 k hk).trans (a.2.2.1 k hk), ⟨fun k hk => (b.2.2.2.1.1 k hk).trans (a.2.2.2.1.1 k hk), Nat.le_trans a.2.2.2.1.2 b.2.2.2.1.2⟩, b.2.2.2.2.1.trans a.2.2.2.2.1, b.2.2.2.2.2.trans a.2.2.2.2.2⟩
theorem Sm_A (a : AWf σ σ') : Sm σ σ' := ⟨fun j hj => a.1 j (by omega), a.2.1, fun k hk => a.2.2.1 k (by omega), ⟨fun k _ => by unfold sN; rw [a.2.2.2], by unfold sN; rw [a.2.2.2]; exact Nat.le_refl _⟩, by rw [a.2.2.2], by rw [a.2.2.2]⟩
theorem Sm_i (σ : CS) {j : Nat} (hj : j = 1812 ∨ j = 1813 ∨ j = 1902 ∨ j = 1905) (x : Int32) : Sm σ (uI σ j x) := ⟨fun i hi => upd_other (by omega), rfl, fun _ _ => rfl, ⟨fun _ _ => rfl, Nat.le_refl _⟩, rfl, rfl⟩
theorem Sm_20 (σ : CS) (i : Nat) (x : Int32) : Sm σ (uA σ 20 i x) := ⟨fun _ _ => rfl, rfl, fun k hk => updG_other (by omega), ⟨fun _ _ => rfl, Nat.le_refl _⟩, rfl, rfl⟩
theorem Sm_f (σ : CS) (f : Nat → Int32) : Sm σ (uF σ 20 f) := ⟨fun _ _ => rfl, rfl, fun k hk => updG_other (by omega), ⟨fun _ _ => rfl, Nat.le_refl _⟩, rfl, rfl⟩
theorem Sm_z (σ : CS) {n : Nat} (h : sN σ 20 ≤ n) : Sm σ (uZ σ 20 n) := ⟨fun _ _ => rfl, rfl, fun k hk => updG_other (by omega), ⟨fun k hk => if_neg hk, h⟩, rfl, rfl⟩
theorem usI_S (a : Sm σ σ') : usI σ' = usI σ := by
  have p8 : sPi σ' 8 = sPi σ 8 := by unfold sPi; rw [a.2.2.2.2.2]
  unfold usI
  rw [p8, a.1 2405 (by decide), a.1 2403 (by decide), a.1 (100 * (28 + sPi σ 8) + 2) (by omega), a.1 (100 * (28 + sPi σ 8) + 13) (by omega)]
theorem VI_S (v : VI g K K2 K3 K4 σ) (f : Sm σ σ') (s : (∀ p, g p → g' p) ∧ ∀ p, g p → σ'.2.2.1 3 p = σ.2.2.1 3 p) (h1 : uN (σ'.1 1902) ≤ sN σ' 20) (h2 : 1024 ≤ sN σ' 20 ∧ sN σ' 20 ≤ 91000) (h3 : Rwk g' (σ'.2.2.1 3) K' (σ'.2.2.1 20) (uN (σ'.1 1902))) : VI g' K' K2 K3 K4 σ' := by
  have us := usI_S f
  have p8 : sPi σ' 8 = sPi σ 8 := by unfold sPi; rw [f.2.2.2.2.2]
  refine ⟨⟨h1, h2, h3⟩, ?_, ?_, ?_, ?_, ?_, ?_, ?_⟩
  · rw [f.2.2.1 23 (by decide)]; exact Rwk_g v.2.1 s
  · rw [f.1 1913 (by decide), f.2.2.1 21 (by decide), f.2.2.2.1.1 21 (by decide)]
    exact ⟨v.2.2.1.1, v.2.2.1.2.1, Rwk_g v.2.2.1.2.2 s⟩
  · rw [f.2.2.1 67 (by decide)]; exact Rwk_g v.2.2.2.1 s
  · rw [p8]; exact v.2.2.2.2.1
  · rw [us, f.2.2.2.1.1 26 (by decide)]; exact v.2.2.2.2.2.1
  · rw [f.2.2.2.1.1 26 (by decide)]; exact v.2.2.2.2.2.2.1
  · rw [us, f.2.2.1 26 (by decide)]; exact Rwk_g v.2.2.2.2.2.2.2 s
theorem HQ_fs (h : HQ g l t σ) (e1 : σ'.1 1 = σ.1 1) (e3 : σ'.2.2.1 3 = σ.2.2.1 3) (en : ∀ k, ¬ k = 20 → sN σ' k = sN σ k) : HQ g l t σ' := by
  obtain ⟨a, b, c, d, e, f, i⟩ := h
  unfold HQ
  rw [e1, e3, en 3 (by decide), en 1 (by decide), en 2 (by decide)]
  exact ⟨a, b, c, d, e, f, i⟩
/-- raw numbers -/
def rwN (n : Nat) : Int32 := nI (4026531840 + n)
theorem rwN_u {n : Nat} (h : n < 268435456) : uN (rwN n) = 4026531840 + n := u_n (by omega)
theorem Gw_rr {g : Nat → Prop} {x : Int32} (h : Rr x) : Gw g x := Or.inr h
theorem rwN_r {n : Nat} (h : n < 268435456) : Rr (rwN n) := by
  show 4026531840 ≤ uN (rwN n)
  rw [rwN_u h]; omega
theorem raw_e (x : Int32) : (-268435456 ||| (x &&& 268435455)) = rwN (uN x % 268435456) := by
  rw [u_of (-268435456 ||| (x &&& 268435455)), u_and28, u_orB (k := 28) (a := 15) (by rw [u_n (by omega)]; omega) (by decide), u_n (by omega)]
  rfl
theorem c_raw : Tm (fun k => y_X11_raw k 0 L σ) (fun r => r = (rwN (uN (L.1 0) % 268435456), σ)) := by
  refine Tm_suc (fun k => by rw [y_X11_raw]) ?_
  exact Tm_some (Prod.ext (raw_e (L.1 0)) rfl)
theorem c_unraw : Tm (fun k => y_X11_unraw k 0 L σ) (fun r => r = (nI (uN (L.1 0) % 268435456), σ)) := by
  refine Tm_suc (fun k => by rw [y_X11_unraw]) ?_
  exact Tm_some (Prod.ext (u_and28 (L.1 0)) rfl)
theorem c_fail : Tm (fun k => y_X3_fail k 0 L σ) (fun r => r = (0, uI (uI σ 1813 (L.1 1)) 1812 1)) := by
  refine Tm_suc (fun k => by rw [y_X3_fail]) ?_
  exact Tm_some rfl
/-- work is done -/
def spS (σ : CS) (x : Int32) : CS := if σ.1 1905 + x ≤ 60000 then uI σ 1905 (σ.1 1905 + x) else uI (uI (uI σ 1905 (σ.1 1905 + x)) 1813 11) 1812 1
theorem upd_sm (f : Nat → Int32) (i : Nat) (x : Int32) : upd f i x i = x := upd_same
theorem c_spend : Tm (fun k => y_X3_spend k 0 L σ) (fun r => r = (0, spS σ (L.1 1))) := by
  unfold spS
  refine Tm_suc (fun k => by rw [y_X3_spend]) ?_
  refine Tm_ite (fun c => ?_) (fun c => ?_)
  · have c' : σ.1 1905 + L.1 1 ≤ 60000 := c
    rw [if_pos c']
    refine Tm_suc (fun k => by rw [y_X3_spend]) ?_
    exact Tm_some rfl
  · have c' : ¬ σ.1 1905 + L.1 1 ≤ 60000 := c
    rw [if_neg c']
    refine Tm_suc (fun k => by rw [y_X3_spend]) ?_
    exact Tm_some rfl
theorem spS_m (σ : CS) (x : Int32) : Sm σ (spS σ x) := by
  unfold spS
  split
  · exact Sm_i σ (by decide) _
  · exact Sm_t (Sm_i σ (by decide) _) (Sm_t (Sm_i _ (by decide) _) (Sm_i _ (by decide) _))
theorem spS_s (σ : CS) (x : Int32) : (spS σ x).2 = σ.2 ∧ (spS σ x).1 1 = σ.1 1 ∧ (spS σ x).1 1902 = σ.1 1902 := by
  unfold spS
  split
  · exact ⟨rfl, rfl, rfl⟩
  · exact ⟨rfl, rfl, rfl⟩
/-- the stack's row, perhaps made longer -/
def Wz (σ σ' : CS) : Prop := σ' = σ ∨ (σ' = uZ σ 20 91000 ∧ sN σ 20 < 91000)
theorem Wz_m (h : Wz σ σ') : Sm σ σ' := by
  rcases h with e | e
  · rw [e]; exact Sm_r σ
  · rw [e.1]; exact Sm_z σ (Nat.le_of_lt e.2)
theorem Wz_c (h : Wz σ σ') : ∃ c : Nat × Nat, ((σ' = σ ∧ c = (0, 0)) ∨ (σ' = uZ σ 20 91000 ∧ c = (1, 91000))) ∧ c.1 + PhC σ' ≤ PhC σ ∧ c.2 + PhS σ' ≤ PhS σ := by
  rcases h with e | e
  · rw [e]
    exact ⟨(0, 0), Or.inl ⟨rfl, rfl⟩, by show 0 + PhC σ ≤ _; omega, by show 0 + PhS σ ≤ _; omega⟩
  · rw [e.1]
    have z := Ph_z20 e.2
    exact ⟨(1, 91000), Or.inr ⟨rfl, rfl⟩, by show 1 + PhC _ ≤ _; omega, by show 91000 + PhS _ ≤ _; omega⟩
/-- what the room's test leaves -/
def RfO (σ : CS) (n : Nat) (r : RS) : Prop := r.1.1 = 0 ∧ CoP σ r ∧ ∃ σ', Wz σ σ' ∧ ((r.1.2 = 1 ∧ r.2.1 = σ' ∧ uN (σ.1 1902) + n ≤ sN σ' 20) ∨ (r.1.2 = 0 ∧ r.2.1 = uI (uI σ' 1813 6) 1812 1))
theorem c_isRoomFor (h1 : uN (σ.1 1902) ≤ sN σ 20) (h2 : 1024 ≤ sN σ 20 ∧ sN σ 20 ≤ 91000) (hn : uN (L.1 1) ≤ 1000000) : Tm (fun k => f_X3_isRoomFor k 0 L σ) (RfO σ (uN (L.1 1))) := by
  have ea : uN (σ.1 1902 + L.1 1) = uN (σ.1 1902) + uN (L.1 1) := u_add (by omega)
  have b1 : ∀ σ' : CS, Wz σ σ' → σ'.1 = σ.1 → sN σ' 20 ≤ 91000 → Tm (fun k => f_X3_isRoomFor k 1 L σ') (fun r => r.1.1 = 0 ∧ r.2.2 = (0, 0) ∧ ((r.1.2 = 1 ∧ r.2.1 = σ' ∧ uN (σ.1 1902) + uN (L.1 1) ≤ sN σ' 20) ∨ (r.1.2 = 0 ∧ r.2.1 = uI (uI σ' 1813 6) 1812 1))) := by
    intro σ' w e s
    refine Tm_suc (fun k => by rw [f_X3_isRoomFor]) ?_
    rw [e]
    refine Tm_ite (fun c => ?_) (fun c => ?_)
    · refine Tm_suc (fun k => by rw [f_X3_isRoomFor]) ?_
      have c' : σ.1 1902 + L.1 1 ≤ nI (sN σ' 20) := c
      rw [u_le (by omega) (by rw [u_n (by omega)]; omega), ea, u_n (by omega)] at c'
      exact Tm_some ⟨rfl, rfl, Or.inl ⟨rfl, rfl, c'⟩⟩
    · refine Tm_suc (fun k => by rw [f_X3_isRoomFor]) ?_
      exact Tm_some ⟨rfl, rfl, Or.inr ⟨rfl, rfl⟩⟩
  refine Tm_suc (fun k => by rw [f_X3_isRoomFor]) ?_
  refine Tm_chk ⟨by decide, by decide, by omega⟩ ?_
  refine Tm_ite (fun c => ?_) (fun c => ?_)
  · refine Tm_adR ?_
    have w : Wz σ (uZ σ 20 91000) := Or.inr ⟨rfl, c.2⟩
    refine Tm_mono (b1 _ w rfl (Nat.le_refl _)) (fun r q => ?_)
    have z := Ph_z20 c.2
    obtain ⟨q1, q2, q3⟩ := q
    have ph : PhC r.2.1 = PhC (uZ σ 20 91000) ∧ PhS r.2.1 = PhS (uZ σ 20 91000) := by
      rcases q3 with v | v
      · rw [v.2.1]; exact ⟨rfl, rfl⟩
      · rw [v.2]; exact Ph_s rfl
    refine ⟨q1, ⟨?_, ?_⟩, _, w, q3⟩
    · show 1 + r.2.2.1 + PhC r.2.1 ≤ PhC σ
      rw [q2, ph.1]
      show 1 + 0 + _ ≤ _
      omega
    · show 91000 + r.2.2.2 + PhS r.2.1 ≤ PhS σ
      rw [q2, ph.2]
      show 91000 + 0 + _ ≤ _
      omega
  · refine Tm_mono (b1 σ (Or.inl rfl) rfl h2.2) (fun r q => ?_)
    obtain ⟨q1, q2, q3⟩ := q
    have ph : PhC r.2.1 = PhC σ ∧ PhS r.2.1 = PhS σ := by
      rcases q3 with v | v
      · rw [v.2.1]; exact ⟨rfl, rfl⟩
      · rw [v.2]; exact Ph_s rfl
    refine ⟨q1, ⟨?_, ?_⟩, σ, Or.inl rfl, q3⟩
    · rw [q2, ph.1]
      show 0 + _ ≤ _
      omega
    · rw [q2, ph.2]
      show 0 + _ ≤ _
      omega
/-- values are laid upon the stack -/
def PuO (σ : CS) (x : Int32) (n : Nat) (r : RS) : Prop := r.1 = (0, 0) ∧ CoP σ r ∧ Sm σ r.2.1 ∧ (r.2.1.1 1 = σ.1 1 ∧ r.2.1.2.2.1 3 = σ.2.2.1 3) ∧ (1024 ≤ sN r.2.1 20 ∧ sN r.2.1 20 ≤ 91000) ∧ (∀ j, j < uN (σ.1 1902) → r.2.1.2.2.1 20 j = σ.2.2.1 20 j) ∧ ((uN (r.2.1.1 1902) = uN (σ.1 1902) + n ∧ uN (σ.1 1902) + n ≤ sN r.2.1 20 ∧ (∀ j, uN (σ.1 1902) ≤ j → j < uN (σ.1 1902) + n → r.2.1.2.2.1 20 j = x) ∧ r.2.1.1 1812 = σ.1 1812 ∧ r.2.1.1 1813 = σ.1 1813 ∧ r.2.1.1 1905 = σ.1 1905) ∨ (r.2.1.1 1902 = σ.1 1902 ∧ uN (σ.1 1902) ≤ sN r.2.1 20 ∧ r.2.1.1 1812 = 1 ∧ r.2.1.1 1905 = σ.1 1905 ∧ ¬ r.2.1.1 1813 = 0))
theorem Wz_20 (h : Wz σ σ') (h1 : uN (σ.1 1902) ≤ sN σ 20) (h2 : 1024 ≤ sN σ 20 ∧ sN σ 20 ≤ 91000) : σ'.1 = σ.1 ∧ σ'.2.2.1 3 = σ.2.2.1 3 ∧ (1024 ≤ sN σ' 20 ∧ sN σ' 20 ≤ 91000) ∧ sN σ 20 ≤ sN σ' 20 ∧ ∀ j, j < uN (σ.1 1902) → σ'.2.2.1 20 j = σ.2.2.1 20 j := by
  rcases h with e | e
  · rw [e]; exact ⟨rfl, rfl, h2, Nat.le_refl _, fun _ _ => rfl⟩
  · rw [e.1]
    refine ⟨rfl, rfl, ⟨by show 1024 ≤ 91000; decide, by show 91000 ≤ 91000; decide⟩, by show _ ≤ 91000; exact h2.2, fun j hj => ?_⟩
    show (if j < sN σ 20 then σ.2.2.1 20 j else 0) = _
    rw [if_pos (by omega)]
/-- the stack is full -/
theorem PuO_f {r : RS} {n : Nat} (h1 : uN (σ.1 1902) ≤ sN σ 20) (h2 : 1024 ≤ sN σ 20 ∧ sN σ 20 ≤ 91000) (w : Wz σ σ') (c : CoP σ r) (e0 : r.1 = (0, 0)) (e : r.2.1 = uI (uI σ' 1813 6) 1812 1) : PuO σ x n r := by
  have z := Wz_20 w h1 h2
  refine ⟨e0, c, ?_, ?_, ?_, ?_, Or.inr ⟨?_, ?_, ?_, ?_, ?_⟩⟩
  · rw [e]; exact Sm_t (Wz_m w) (Sm_t (Sm_i _ (by decide) _) (Sm_i _ (by decide) _))
  · rw [e]; exact ⟨by show σ'.1 1 = _; rw [z.1], z.2.1⟩
  · rw [e]; exact z.2.2.1
  · rw [e]; exact z.2.2.2.2
  · rw [e]; show σ'.1 1902 = _; rw [z.1]
  · rw [e]; show _ ≤ sN σ' 20; have := z.2.2.2.1; omega
  · rw [e]; rfl
  · rw [e]; show σ'.1 1905 = _; rw [z.1]
  · rw [e]; show ¬ (6 : Int32) = 0; decide
theorem c_push (h1 : uN (σ.1 1902) ≤ sN σ 20) (h2 : 1024 ≤ sN σ 20 ∧ sN σ 20 ≤ 91000) : Tm (fun k => f_X3_push k 0 L σ) (PuO σ (L.1 1) 1) := by
  have b1 : ∀ (σ' : CS) (c : Nat × Nat), Wz σ σ' → (c.1 + PhC σ' ≤ PhC σ ∧ c.2 + PhS σ' ≤ PhS σ) → uN (σ.1 1902) + 1 ≤ sN σ' 20 → Tm (fun k => f_X3_push k 1 L σ') (fun q => PuO σ (L.1 1) 1 (q.1, q.2.1, (c.1 + q.2.2.1, c.2 + q.2.2.2))) := by
    intro σ' c w cc hr
    have z := Wz_20 w h1 h2
    have e1 : σ'.1 1902 = σ.1 1902 := by rw [z.1]
    have u1 : uN (σ.1 1902 + 1) = uN (σ.1 1902) + 1 := u_inc (by omega)
    refine Tm_suc (fun k => by rw [f_X3_push]) ?_
    refine Tm_chk (u_in (by rw [e1]; omega) (by omega)) ?_
    refine Tm_suc (fun k => by rw [f_X3_push]) ?_
    refine Tm_some ⟨rfl, ?_, ?_, ?_, z.2.2.1, ?_, Or.inl ⟨?_, hr, ?_, ?_, ?_, ?_⟩⟩
    · have p := Ph_s (σ := σ') (σ' := uI (uA σ' 20 (σ'.1 1902).toNatClampNeg (L.1 1)) 1902 ((uA σ' 20 (σ'.1 1902).toNatClampNeg (L.1 1)).1 1902 + 1)) rfl
      exact ⟨by show c.1 + 0 + PhC _ ≤ _; rw [p.1]; omega, by show c.2 + 0 + PhS _ ≤ _; rw [p.2]; omega⟩
    · exact Sm_t (Wz_m w) (Sm_t (Sm_20 σ' _ _) (Sm_i _ (by decide) _))
    · exact ⟨by show σ'.1 1 = _; rw [z.1], z.2.1⟩
    · intro j hj
      show upd (σ'.2.2.1 20) (σ'.1 1902).toNatClampNeg (L.1 1) j = _
      rw [e1, u_cl (by omega), upd_other (by omega)]
      exact z.2.2.2.2 j hj
    · show uN (σ'.1 1902 + 1) = _
      rw [e1]; exact u1
    · intro j hj hj2
      show upd (σ'.2.2.1 20) (σ'.1 1902).toNatClampNeg (L.1 1) j = _
      rw [e1, u_cl (by omega), show j = uN (σ.1 1902) from by omega]
      exact upd_same
    · show σ'.1 1812 = _; rw [z.1]
    · show σ'.1 1813 = _; rw [z.1]
    · show σ'.1 1905 = _; rw [z.1]
  refine Tm_suc (fun k => by rw [f_X3_push]) ?_
  refine Tm_ite (fun c => ?_) (fun c => ?_)
  · have c' : σ.1 1902 < nI (sN σ 20) := c
    rw [u_ltn (by omega) (by rw [u_n (by omega)]; omega), u_n (by omega)] at c'
    have q := b1 σ (0, 0) (Or.inl rfl) ⟨by show 0 + _ ≤ _; omega, by show 0 + _ ≤ _; omega⟩ (by omega)
    refine Tm_mono q (fun r z => ?_)
    rw [show r = (r.1, r.2.1, ((0 : Nat) + r.2.2.1, (0 : Nat) + r.2.2.2)) from by rw [Nat.zero_add, Nat.zero_add]]
    exact z
  · refine Tm_oxc (c_isRoomFor h1 h2 (by show uN 1 ≤ _; decide)) (fun r q => q.1) (fun r q => ?_)
    obtain ⟨q1, q2, σ', w, q3⟩ := q
    rcases q3 with v | v
    · rw [v.1, v.2.1]
      refine Tm_no (by decide) ?_
      have q2' := q2
      unfold CoP at q2'
      rw [v.2.1] at q2'
      exact b1 σ' r.2.2 w q2' v.2.2
    · rw [v.1, v.2]
      refine Tm_yes rfl ?_
      refine Tm_suc (fun k => by rw [f_X3_push]) ?_
      refine Tm_some (PuO_f h1 h2 w ?_ rfl rfl)
      have q2' := q2
      unfold CoP at q2'
      rw [v.2] at q2'
      exact q2'
theorem c_pushAll (h1 : uN (σ.1 1902) ≤ sN σ 20) (h2 : 1024 ≤ sN σ 20 ∧ sN σ 20 ≤ 91000) (hn : uN (L.1 2) ≤ 1000000) : Tm (fun k => f_X3_pushAll k 0 L σ) (PuO σ (L.1 1) (uN (L.1 2))) := by
  have b2 : ∀ (σ' : CS) (c : Nat × Nat), Wz σ σ' → (c.1 + PhC σ' ≤ PhC σ ∧ c.2 + PhS σ' ≤ PhS σ) → uN (σ.1 1902) + uN (L.1 2) ≤ sN σ' 20 → ∀ (m : Nat) (L' : LV) (f : Nat → Int32), uN (L'.1 3) + m = uN (L.1 2) → L'.1 1 = L.1 1 → L'.1 2 = L.1 2 → (∀ j, j < uN (σ.1 1902) → f j = σ'.2.2.1 20 j) → (∀ j, uN (σ.1 1902) ≤ j → j < uN (σ.1 1902) + uN (L'.1 3) → f j = L.1 1) → Tm (fun k => f_X3_pushAll k 2 L' (uF σ' 20 f)) (fun q => PuO σ (L.1 1) (uN (L.1 2)) (q.1, q.2.1, (c.1 + q.2.2.1, c.2 + q.2.2.2))) := by
    intro σ' c w cc hr
    have z := Wz_20 w h1 h2
    have e1 : σ'.1 1902 = σ.1 1902 := by rw [z.1]
    intro m
    induction m with
    | zero =>
      intro L' f a3 a1 a2 f1 f2
      have eu : uN (σ.1 1902 + L'.1 2) = uN (σ.1 1902) + uN (L.1 2) := by rw [a2, u_add (by omega)]
      refine Tm_suc (fun k => by rw [f_X3_pushAll]) ?_
      refine Tm_yes (by rw [a2, u_le (by omega) (by omega)]; omega) ?_
      refine Tm_suc (fun k => by rw [f_X3_pushAll]) ?_
      refine Tm_suc (fun k => by rw [f_X3_pushAll]) ?_
      refine Tm_some ⟨rfl, ?_, ?_, ?_, z.2.2.1, ?_, Or.inl ⟨?_, hr, ?_, ?_, ?_, ?_⟩⟩
      · have p := Ph_s (σ := σ') (σ' := uI (uF σ' 20 f) 1902 ((uF σ' 20 f).1 1902 + L'.1 2)) rfl
        exact ⟨by show c.1 + 0 + PhC _ ≤ _; rw [p.1]; omega, by show c.2 + 0 + PhS _ ≤ _; rw [p.2]; omega⟩
      · exact Sm_t (Wz_m w) (Sm_t (Sm_f σ' f) (Sm_i _ (by decide) _))
      · exact ⟨by show σ'.1 1 = _; rw [z.1], z.2.1⟩
      · intro j hj
        show f j = _
        rw [f1 j hj]
        exact z.2.2.2.2 j hj
      · show uN (σ'.1 1902 + L'.1 2) = _
        rw [e1]; exact eu
      · intro j hj hj2
        exact f2 j hj (by omega)
      · show σ'.1 1812 = _; rw [z.1]
      · show σ'.1 1813 = _; rw [z.1]
      · show σ'.1 1905 = _; rw [z.1]
    | succ m ih =>
      intro L' f a3 a1 a2 f1 f2
      have eu : uN (σ'.1 1902 + L'.1 3) = uN (σ.1 1902) + uN (L'.1 3) := by rw [e1, u_add (by omega)]
      refine Tm_suc (fun k => by rw [f_X3_pushAll]) ?_
      refine Tm_no (by rw [a2, u_le (by omega) (by omega)]; omega) ?_
      refine Tm_chk (u_in (by show uN (σ'.1 1902 + L'.1 3) < sN σ' 20; omega) (by show sN σ' 20 ≤ _; omega)) ?_
      rw [uF_a]
      refine ih _ _ ?_ a1 a2 ?_ ?_
      · show uN (L'.1 3 + 1) + m = _
        rw [u_inc (by omega)]; omega
      · intro j hj
        show upd f (σ'.1 1902 + L'.1 3).toNatClampNeg (L'.1 1) j = _
        rw [u_cl (by omega), upd_other (by omega)]
        exact f1 j hj
      · show ∀ j, uN (σ.1 1902) ≤ j → j < uN (σ.1 1902) + uN (L'.1 3 + 1) → upd f (σ'.1 1902 + L'.1 3).toNatClampNeg (L'.1 1) j = L.1 1
        rw [u_inc (by omega), u_cl (by omega), a1]
        intro j hj hj2
        by_cases d : j = uN (σ'.1 1902 + L'.1 3)
        · rw [d]; exact upd_same
        · rw [upd_other d]
          exact f2 j hj (by omega)
  refine Tm_suc (fun k => by rw [f_X3_pushAll]) ?_
  refine Tm_oxc (c_isRoomFor h1 h2 hn) (fun r q => q.1) (fun r q => ?_)
  obtain ⟨q1, q2, σ', w, q3⟩ := q
  rcases q3 with v | v
  · rw [v.1, v.2.1]
    refine Tm_no (by decide) ?_
    have q2' := q2
    unfold CoP at q2'
    rw [v.2.1] at q2'
    have z := b2 σ' r.2.2 w q2' v.2.2 (uN (L.1 2)) (lI L 3 0) (σ'.2.2.1 20) (by show 0 + _ = _; omega) rfl rfl (fun _ _ => rfl) (fun j hj hj2 => absurd hj2 (by show ¬ j < uN (σ.1 1902) + 0; omega))
    rw [uF_id] at z
    exact z
  · rw [v.1, v.2]
    refine Tm_yes rfl ?_
    refine Tm_suc (fun k => by rw [f_X3_pushAll]) ?_
    refine Tm_some (PuO_f h1 h2 w ?_ rfl rfl)
    have q2' := q2
    unfold CoP at q2'
    rw [v.2] at q2'
    exact q2'
end CSP

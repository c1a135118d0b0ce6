section JnS378
/-! The class: the machine's stack. -/
section CSP
variable {g g' g2 : Nat → Prop} {l l' l2 : List Nat} {t t' t2 : Nat} {σ σ' σ2 : CS} {L : LV} {x y i : Int32} {M M' U U' : Nat → Int32} {K K' K2 K3 K4 : Nat → Option Int32}
/-- what small steps of the machine may write -/
def Sm (σ σ' : CS) : Prop := (∀ j, ¬ (j = 1 ∨ j = 404 ∨ j = 1203 ∨ j = 1812 ∨ j = 1813 ∨ j = 1902 ∨ j = 1905) → σ'.1 j = σ.1 j) ∧ σ'.2.1 = σ.2.1 ∧ (∀ k, ¬ (k = 3 ∨ (5 ≤ k ∧ k ≤ 11) ∨ k = 13 ∨ (15 ≤ k ∧ k ≤ 17) ∨ k = 20) → σ'.2.2.1 k = σ.2.2.1 k) ∧ ((∀ k, ¬ k = 20 → sN σ' k = sN σ k) ∧ sN σ 20 ≤ sN σ' 20) ∧ σ'.2.2.2.1 = σ.2.2.2.1 ∧ σ'.2.2.2.2.2 = σ.2.2.2.2.2
theorem Sm_r (σ : CS) : Sm σ σ := ⟨fun _ _ => rfl, rfl, fun _ _ => rfl, ⟨fun _ _ => rfl, Nat.le_refl _⟩, rfl, rfl⟩
theorem Sm_t (a : Sm σ σ') (b : Sm σ' σ2) : Sm σ σ2 := ⟨fun j hj => (b.1 j hj).trans (a.1 j hj), b.2.1.trans a.2.1, fun k hk => (b.2.2.1 k hk).trans (a.2.2.1 k hk), ⟨fun k hk => (b.2.2.2.1.1 k hk).trans (a.2.2.2.1.1 k hk), Nat.le_trans a.2.2.2.1.2 b.2.2.2.1.2⟩, b.2.2.2.2.1.trans a.2.2.2.2.1, b.2.2.2.2.2.trans a.2.2.2.2.2⟩
theorem Sm_A (a : AWf σ σ') : Sm σ σ' := ⟨fun j hj => a.1 j (by omega), a.2.1, fun k hk => a.2.2.1 k (by omega), ⟨fun k _ => by unfold sN; rw [a.2.2.2], by unfold sN; rw [a.2.2.2]; exact Nat.le_refl _⟩, by rw [a.2.2.2], by rw [a.2.2.2]⟩
theorem Sm_i (σ : CS) {j : Nat} (hj : j = 1812 ∨ j = 1813 ∨ j = 1902 ∨ j = 1905) (x : Int32) : Sm σ (uI σ j x) := ⟨fun i hi => upd_other (by omega), rfl, fun _ _ => rfl, ⟨fun _ _ => rfl, Nat.le_refl _⟩, rfl, rfl⟩
theorem Sm_20 (σ : CS) (i : Nat) (x : Int32) : Sm σ (uA σ 20 i x) := ⟨fun _ _ => rfl, rfl, fun k hk => updG_other (by omega), ⟨fun _ _ => rfl, Nat.le_refl _⟩, rfl, rfl⟩
theorem Sm_f (σ : CS) (f : Nat → Int32) : Sm σ (uF σ 20 f) := ⟨fun _ _ => rfl, rfl, fun k hk => updG_other (by omega), ⟨fun _ _ => rfl, Nat.le_refl _⟩, rfl, rfl⟩
theorem Sm_z (σ : CS) {n : Nat} (h : sN σ 20 ≤ n) : Sm σ (uZ σ 20 n) := ⟨fun _ _ => rfl, rfl, fun k hk => updG_other (by omega), ⟨fun k hk => if_neg hk, h⟩, rfl, rfl⟩
theorem usI_S (a : Sm σ σ') : usI σ' = usI σ := by
  have p8 : sPi σ' 8 = sPi σ 8 := by unfold sPi; rw [a.2.2.2.2.2]
  unfold usI
  rw [p8, a.1 2405 (by decide), a.1 2403 (by decide), a.1 (100 * (28 + sPi σ 8) + 2) (by omega), a.1 (100 * (28 + sPi σ 8) + 13) (by omega)]
theorem VI_S (v : VI g K K2 K3 K4 σ) (f : Sm σ σ') (s : (∀ p, g p → g' p) ∧ ∀ p, g p → σ'.2.2.1 3 p = σ.2.2.1 3 p) (h1 : uN (σ'.1 1902) ≤ sN σ' 20) (h2 : 1024 ≤ sN σ' 20 ∧ sN σ' 20 ≤ 91000) (h3 : Rwk g' (σ'.2.2.1 3) K' (σ'.2.2.1 20) (uN (σ'.1 1902))) : VI g' K' K2 K3 K4 σ' := by
  have us := usI_S f
  have p8 : sPi σ' 8 = sPi σ 8 := by unfold sPi; rw [f.2.2.2.2.2]
  refine ⟨⟨h1, h2, h3⟩, ?_, ?_, ?_, ?_, ?_, ?_, ?_⟩
  · rw [f.2.2.1 23 (by decide)]; exact Rwk_g v.2.1 s
  · rw [f.1 1913 (by decide), f.2.2.1 21 (by decide), f.2.2.2.1.1 21 (by decide)]
    exact ⟨v.2.2.1.1, v.2.2.1.2.1, Rwk_g v.2.2.1.2.2 s⟩
  · rw [f.2.2.1 67 (by decide)]; exact Rwk_g v.2.2.2.1 s
  · rw [p8]; exact v.2.2.2.2.1
  · rw [us, f.2.2.2.1.1 26 (by decide)]; exact v.2.2.2.2.2.1
  · rw [f.2.2.2.1.1 26 (by decide)]; exact v.2.2.2.2.2.2.1
  · rw [us, f.2.2.1 26 (by decide)]; exact Rwk_g v.2.2.2.2.2.2.2 s
theorem HQ_fs (h : HQ g l t σ) (e1 : σ'.1 1 = σ.1 1) (e3 : σ'.2.2.1 3 = σ.2.2.1 3) (en : ∀ k, ¬ k = 20 → sN σ' k = sN σ k) : HQ g l t σ' := by
  obtain ⟨a, b, c, d, e, f, i⟩ := h
  unfold HQ
  rw [e1, e3, en 3 (by decide), en 1 (by decide), en 2 (by decide)]
  exact ⟨a, b, c, d, e, f, i⟩
/-- raw numbers -/
def rwN (n : Nat) : Int32 := nI (4026531840 + n)
theorem rwN_u {n : Nat} (h : n < 268435456) : uN (rwN n) = 4026531840 + n := u_n (by omega)
theorem Gw_rr {g : Nat → Prop} {x : Int32} (h : Rr x) : Gw g x := Or.inr h
theorem rwN_r {n : Nat} (h : n < 268435456) : Rr (rwN n) := by
  show 4026531840 ≤ uN (rwN n)
  rw [rwN_u h]; omega
theorem raw_e (x : Int32) : (-268435456 ||| (x &&& 268435455)) = rwN (uN x % 268435456) := by
  rw [u_of (-268435456 ||| (x &&& 268435455)), u_and28, u_orB (k := 28) (a := 15) (by rw [u_n (by omega)]; omega) (by decide), u_n (by omega)]
  rfl
theorem c_raw : Tm (fun k => y_X11_raw k 0 L σ) (fun r => r = (rwN (uN (L.1 0) % 268435456), σ)) := by
  refine Tm_suc (fun k => by rw [y_X11_raw]) ?_
  exact Tm_some (Prod.ext (raw_e (L.1 0)) rfl)
theorem c_unraw : Tm (fun k => y_X11_unraw k 0 L σ) (fun r => r = (nI (uN (L.1 0) % 268435456), σ)) := by
  refine Tm_suc (fun k => by rw [y_X11_unraw]) ?_
  exact Tm_some (Prod.ext (u_and28 (L.1 0)) rfl)
theorem c_fail : Tm (fun k => y_X3_fail k 0 L σ) (fun r => r = (0, uI (uI σ 1813 (L.1 1)) 1812 1)) := by
  refine Tm_suc (fun k => by rw [y_X3_fail]) ?_
  exact Tm_some rfl
/-- work is done -/
def spS (σ : CS) (x : Int32) : CS := if σ.1 1905 + x ≤ 60000 then uI σ 1905 (σ.1 1905 + x) else uI (uI (uI σ 1905 (σ.1 1905 + x)) 1813 11) 1812 1
theorem upd_sm (f : Nat → Int32) (i : Nat) (x : Int32) : upd f i x i = x := upd_same
theorem c_spend : Tm (fun k => y_X3_spend k 0 L σ) (fun r => r = (0, spS σ (L.1 1))) := by
  unfold spS
  refine Tm_suc (fun k => by rw [y_X3_spend]) ?_
  refine Tm_ite (fun c => ?_) (fun c => ?_)
  · have c' : σ.1 1905 + L.1 1 ≤ 60000 := c
    rw [if_pos c']
    refine Tm_suc (fun k => by rw [y_X3_spend]) ?_
    exact Tm_some rfl
  · have c' : ¬ σ.1 1905 + L.1 1 ≤ 60000 := c
    rw [if_neg c']
    refine Tm_suc (fun k => by rw [y_X3_spend]) ?_
    exact Tm_some rfl
theorem spS_m (σ : CS) (x : Int32) : Sm σ (spS σ x) := by
  unfold spS
  split
  · exact Sm_i σ (by decide) _
  · exact Sm_t (Sm_i σ (by decide) _) (Sm_t (Sm_i _ (by decide) _) (Sm_i _ (by decide) _))
theorem spS_s (σ : CS) (x : Int32) : (spS σ x).2 = σ.2 ∧ (spS σ x).1 1 = σ.1 1 ∧ (spS σ x).1 1902 = σ.1 1902 := by
  unfold spS
  split
  · exact ⟨rfl, rfl, rfl⟩
  · exact ⟨rfl, rfl, rfl⟩
/-- the stack's row, perhaps made longer -/
def Wz (σ σ' : CS) : Prop := σ' = σ ∨ (σ' = uZ σ 20 91000 ∧ sN σ 20 < 91000)
theorem Wz_m (h : Wz σ σ') : Sm σ σ' := by
  rcases h with e | e
  · rw [e]; exact Sm_r σ
  · rw [e.1]; exact Sm_z σ (Nat.le_of_lt e.2)
theorem Wz_c (h : Wz σ σ') : ∃ c : Nat × Nat, ((σ' = σ ∧ c = (0, 0)) ∨ (σ' = uZ σ 20 91000 ∧ c = (1, 91000))) ∧ c.1 + PhC σ' ≤ PhC σ ∧ c.2 + PhS σ' ≤ PhS σ := by
  rcases h with e | e
  · rw [e]
    exact ⟨(0, 0), Or.inl ⟨rfl, rfl⟩, by show 0 + PhC σ ≤ _; omega, by show 0 + PhS σ ≤ _; omega⟩
  · rw [e.1]
    have z := Ph_z20 e.2
    exact ⟨(1, 91000), Or.inr ⟨rfl, rfl⟩, by show 1 + PhC _ ≤ _; omega, by show 91000 + PhS _ ≤ _; omega⟩
/-- what the room's test leaves -/
def RfO (σ : CS) (n : Nat) (r : RS) : Prop := r.1.1 = 0 ∧ CoP σ r ∧ ∃ σ', Wz σ σ' ∧ ((r.1.2 = 1 ∧ r.2.1 = σ' ∧ uN (σ.1 1902) + n ≤ sN σ' 20) ∨ (r.1.2 = 0 ∧ r.2.1 = uI (uI σ' 1813 6) 1812 1))
theorem c_isRoomFor (h1 : uN (σ.1 1902) ≤ sN σ 20) (h2 : 1024 ≤ sN σ 20 ∧ sN σ 20 ≤ 91000) (hn : uN (L.1 1) ≤ 1000000) : Tm (fun k => f_X3_isRoomFor k 0 L σ) (RfO σ (uN (L.1 1))) := by
  have ea : uN (σ.1 1902 + L.1 1) = uN (σ.1 1902) + uN (L.1 1) := u_add (by omega)
  have b1 : ∀ σ' : CS, Wz σ σ' → σ'.1 = σ.1 → sN σ' 20 ≤ 91000 → Tm (fun k => f_X3_isRoomFor k 1 L σ') (fun r => r.1.1 = 0 ∧ r.2.2 = (0, 0) ∧ ((r.1.2 = 1 ∧ r.2.1 = σ' ∧ uN (σ.1 1902) + uN (L.1 1) ≤ sN σ' 20) ∨ (r.1.2 = 0 ∧ r.2.1 = uI (uI σ' 1813 6) 1812 1))) := by
    intro σ' w e s
    refine Tm_suc (fun k => by rw [f_X3_isRoomFor]) ?_
    rw [e]
    refine Tm_ite (fun c => ?_) (fun c => ?_)
    · refine Tm_suc (fun k => by rw [f_X3_isRoomFor]) ?_
      have c' : σ.1 1902 + L.1 1 ≤ nI (sN σ' 20) := c
      rw [u_le (by omega) (by rw [u_n (by omega)]; omega), ea, u_n (by omega)] at c'
      exact Tm_some ⟨rfl, rfl, Or.inl ⟨rfl, rfl, c'⟩⟩
    · refine Tm_suc (fun k => by rw [f_X3_isRoomFor]) ?_
      exact Tm_some ⟨rfl, rfl, Or.inr ⟨rfl, rfl⟩⟩
  refine Tm_suc (fun k => by rw [f_X3_isRoomFor]) ?_
  refine Tm_chk ⟨by decide, by decide, by omega⟩ ?_
  refine Tm_ite (fun c => ?_) (fun c => ?_)
  · refine Tm_adR ?_
    have w : Wz σ (uZ σ 20 91000) := Or.inr ⟨rfl, c.2⟩
    refine Tm_mono (b1 _ w rfl (Nat.le_refl _)) (fun r q => ?_)
    have z := Ph_z20 c.2
    obtain ⟨q1, q2, q3⟩ := q
    have ph : PhC r.2.1 = PhC (uZ σ 20 91000) ∧ PhS r.2.1 = PhS (uZ σ 20 91000) := by
      rcases q3 with v | v
      · rw [v.2.1]; exact ⟨rfl, rfl⟩
      · rw [v.2]; exact Ph_s rfl
    refine ⟨q1, ⟨?_, ?_⟩, _, w, q3⟩
    · show 1 + r.2.2.1 + PhC r.2.1 ≤ PhC σ
      rw [q2, ph.1]
      show 1 + 0 + _ ≤ _
      omega
    · show 91000 + r.2.2.2 + PhS r.2.1 ≤ PhS σ
      rw [q2, ph.2]
      show 91000 + 0 + _ ≤ _
      omega
  · refine Tm_mono (b1 σ (Or.inl rfl) rfl h2.2) (fun r q => ?_)
    obtain ⟨q1, q2, q3⟩ := q
    have ph : PhC r.2.1 = PhC σ ∧ PhS r.2.1 = PhS σ := by
      rcases q3 with v | v
      · rw [v.2.1]; exact ⟨rfl, rfl⟩
      · rw [v.2]; exact Ph_s rfl
    refine ⟨q1, ⟨?_, ?_⟩, σ, Or.inl rfl, q3⟩
    · rw [q2, ph.1]
      show 0 + _ ≤ _
      omega
    · rw [q2, ph.2]
      show 0 + _ ≤ _
      omega
/-- values are laid upon the stack -/
def PuO (σ : CS) (x : Int32) (n : Nat) (r : RS) : Prop := r.1 = (0, 0) ∧ CoP σ r ∧ Sm σ r.2.1 ∧ (r.2.1.1 1 = σ.1 1 ∧ r.2.1.2.2.1 3 = σ.2.2.1 3) ∧ (1024 ≤ sN r.2.1 20 ∧ sN r.2.1 20 ≤ 91000) ∧ (∀ j, j < uN (σ.1 1902) → r.2.1.2.2.1 20 j = σ.2.2.1 20 j) ∧ ((uN (r.2.1.1 1902) = uN (σ.1 1902) + n ∧ uN (σ.1 1902) + n ≤ sN r.2.1 20 ∧ (∀ j, uN (σ.1 1902) ≤ j → j < uN (σ.1 1902) + n → r.2.1.2.2.1 20 j = x) ∧ r.2.1.1 1812 = σ.1 1812 ∧ r.2.1.1 1813 = σ.1 1813 ∧ r.2.1.1 1905 = σ.1 1905) ∨ (r.2.1.1 1902 = σ.1 1902 ∧ uN (σ.1 1902) ≤ sN r.2.1 20 ∧ r.2.1.1 1812 = 1 ∧ r.2.1.1 1905 = σ.1 1905 ∧ ¬ r.2.1.1 1813 = 0))
theorem Wz_20 (h : Wz σ σ') (h1 : uN (σ.1 1902) ≤ sN σ 20) (h2 : 1024 ≤ sN σ 20 ∧ sN σ 20 ≤ 91000) : σ'.1 = σ.1 ∧ σ'.2.2.1 3 = σ.2.2.1 3 ∧ (1024 ≤ sN σ' 20 ∧ sN σ' 20 ≤ 91000) ∧ sN σ 20 ≤ sN σ' 20 ∧ ∀ j, j < uN (σ.1 1902) → σ'.2.2.1 20 j = σ.2.2.1 20 j := by
  rcases h with e | e
  · rw [e]; exact ⟨rfl, rfl, h2, Nat.le_refl _, fun _ _ => rfl⟩
  · rw [e.1]
    refine ⟨rfl, rfl, ⟨by show 1024 ≤ 91000; decide, by show 91000 ≤ 91000; decide⟩, by show _ ≤ 91000; exact h2.2, fun j hj => ?_⟩
    show (if j < sN σ 20 then σ.2.2.1 20 j else 0) = _
    rw [if_pos (by omega)]
/-- the stack is full -/
theorem PuO_f {r : RS} {n : Nat} (h1 : uN (σ.1 1902) ≤ sN σ 20) (h2 : 1024 ≤ sN σ 20 ∧ sN σ 20 ≤ 91000) (w : Wz σ σ') (c : CoP σ r) (e0 : r.1 = (0, 0)) (e : r.2.1 = uI (uI σ' 1813 6) 1812 1) : PuO σ x n r := by
  have z := Wz_20 w h1 h2
  refine ⟨e0, c, ?_, ?_, ?_, ?_, Or.inr ⟨?_, ?_, ?_, ?_, ?_⟩⟩
  · rw [e]; exact Sm_t (Wz_m w) (Sm_t (Sm_i _ (by decide) _) (Sm_i _ (by decide) _))
  · rw [e]; exact ⟨by show σ'.1 1 = _; rw [z.1], z.2.1⟩
  · rw [e]; exact z.2.2.1
  · rw [e]; exact z.2.2.2.2
  · rw [e]; show σ'.1 1902 = _; rw [z.1]
  · rw [e]; show _ ≤ sN σ' 20; have := z.2.2.2.1; omega
  · rw [e]; rfl
  · rw [e]; show σ'.1 1905 = _; rw [z.1]
  · rw [e]; show ¬ (6 : Int32) = 0; decide
theorem c_push (h1 : uN (σ.1 1902) ≤ sN σ 20) (h2 : 1024 ≤ sN σ 20 ∧ sN σ 20 ≤ 91000) : Tm (fun k => f_X3_push k 0 L σ) (PuO σ (L.1 1) 1) := by
  have b1 : ∀ (σ' : CS) (c : Nat × Nat), Wz σ σ' → (c.1 + PhC σ' ≤ PhC σ ∧ c.2 + PhS σ' ≤ PhS σ) → uN (σ.1 1902) + 1 ≤ sN σ' 20 → Tm (fun k => f_X3_push k 1 L σ') (fun q => PuO σ (L.1 1) 1 (q.1, q.2.1, (c.1 + q.2.2.1, c.2 + q.2.2.2))) := by
    intro σ' c w cc hr
    have z := Wz_20 w h1 h2
    have e1 : σ'.1 1902 = σ.1 1902 := by rw [z.1]
    have u1 : uN (σ.1 1902 + 1) = uN (σ.1 1902) + 1 := u_inc (by omega)
    refine Tm_suc (fun k => by rw [f_X3_push]) ?_
    refine Tm_chk (u_in (by rw [e1]; omega) (by omega)) ?_
    refine Tm_suc (fun k => by rw [f_X3_push]) ?_
    refine Tm_some ⟨rfl, ?_, ?_, ?_, z.2.2.1, ?_, Or.inl ⟨?_, hr, ?_, ?_, ?_, ?_⟩⟩
    · have p := Ph_s (σ := σ') (σ' := uI (uA σ' 20 (σ'.1 1902).toNatClampNeg (L.1 1)) 1902 ((uA σ' 20 (σ'.1 1902).toNatClampNeg (L.1 1)).1 1902 + 1)) rfl
      exact ⟨by show c.1 + 0 + PhC _ ≤ _; rw [p.1]; omega, by show c.2 + 0 + PhS _ ≤ _; rw [p.2]; omega⟩
    · exact Sm_t (Wz_m w) (Sm_t (Sm_20 σ' _ _) (Sm_i _ (by decide) _))
    · exact ⟨by show σ'.1 1 = _; rw [z.1], z.2.1⟩
    · intro j hj
      show upd (σ'.2.2.1 20) (σ'.1 1902).toNatClampNeg (L.1 1) j = _
      rw [e1, u_cl (by omega), upd_other (by omega)]
      exact z.2.2.2.2 j hj
    · show uN (σ'.1 1902 + 1) = _
      rw [e1]; exact u1
    · intro j hj hj2
      show upd (σ'.2.2.1 20) (σ'.1 1902).toNatClampNeg (L.1 1) j = _
      rw [e1, u_cl (by omega), show j = uN (σ.1 1902) from by omega]
      exact upd_same
    · show σ'.1 1812 = _; rw [z.1]
    · show σ'.1 1813 = _; rw [z.1]
    · show σ'.1 1905 = _; rw [z.1]
  refine Tm_suc (fun k => by rw [f_X3_push]) ?_
  refine Tm_ite (fun c => ?_) (fun c => ?_)
  · have c' : σ.1 1902 < nI (sN σ 20) := c
    rw [u_ltn (by omega) (by rw [u_n (by omega)]; omega), u_n (by omega)] at c'
    have q := b1 σ (0, 0) (Or.inl rfl) ⟨by show 0 + _ ≤ _; omega, by show 0 + _ ≤ _; omega⟩ (by omega)
    refine Tm_mono q (fun r z => ?_)
    rw [show r = (r.1, r.2.1, ((0 : Nat) + r.2.2.1, (0 : Nat) + r.2.2.2)) from by rw [Nat.zero_add, Nat.zero_add]]
    exact z
  · refine Tm_oxc (c_isRoomFor h1 h2 (by show uN 1 ≤ _; decide)) (fun r q => q.1) (fun r q => ?_)
    obtain ⟨q1, q2, σ', w, q3⟩ := q
    rcases q3 with v | v
    · rw [v.1, v.2.1]
      refine Tm_no (by decide) ?_
      have q2' := q2
      unfold CoP at q2'
      rw [v.2.1] at q2'
      exact b1 σ' r.2.2 w q2' v.2.2
    · rw [v.1, v.2]
      refine Tm_yes rfl ?_
      refine Tm_suc (fun k => by rw [f_X3_push]) ?_
      refine Tm_some (PuO_f h1 h2 w ?_ rfl rfl)
      have q2' := q2
      unfold CoP at q2'
      rw [v.2] at q2'
      exact q2'
theorem c_pushAll (h1 : uN (σ.1 1902) ≤ sN σ 20) (h2 : 1024 ≤ sN σ 20 ∧ sN σ 20 ≤ 91000) (hn : uN (L.1 2) ≤ 1000000) : Tm (fun k => f_X3_pushAll k 0 L σ) (PuO σ (L.1 1) (uN (L.1 2))) := by
  have b2 : ∀ (σ' : CS) (c : Nat × Nat), Wz σ σ' → (c.1 + PhC σ' ≤ PhC σ ∧ c.2 + PhS σ' ≤ PhS σ) → uN (σ.1 1902) + uN (L.1 2) ≤ sN σ' 20 → ∀ (m : Nat) (L' : LV) (f : Nat → Int32), uN (L'.1 3) + m = uN (L.1 2) → L'.1 1 = L.1 1 → L'.1 2 = L.1 2 → (∀ j, j < uN (σ.1 1902) → f j = σ'.2.2.1 20 j) → (∀ j, uN (σ.1 1902) ≤ j → j < uN (σ.1 1902) + uN (L'.1 3) → f j = L.1 1) → Tm (fun k => f_X3_pushAll k 2 L' (uF σ' 20 f)) (fun q => PuO σ (L.1 1) (uN (L.1 2)) (q.1, q.2.1, (c.1 + q.2.2.1, c.2 + q.2.2.2))) := by
    intro σ' c w cc hr
    have z := Wz_20 w h1 h2
    have e1 : σ'.1 1902 = σ.1 1902 := by rw [z.1]
    intro m
    induction m with
    | zero =>
      intro L' f a3 a1 a2 f1 f2
      have eu : uN (σ.1 1902 + L'.1 2) = uN (σ.1 1902) + uN (L.1 2) := by rw [a2, u_add (by omega)]
      refine Tm_suc (fun k => by rw [f_X3_pushAll]) ?_
      refine Tm_yes (by rw [a2, u_le (by omega) (by omega)]; omega) ?_
      refine Tm_suc (fun k => by rw [f_X3_pushAll]) ?_
      refine Tm_suc (fun k => by rw [f_X3_pushAll]) ?_
      refine Tm_some ⟨rfl, ?_, ?_, ?_, z.2.2.1, ?_, Or.inl ⟨?_, hr, ?_, ?_, ?_, ?_⟩⟩
      · have p := Ph_s (σ := σ') (σ' := uI (uF σ' 20 f) 1902 ((uF σ' 20 f).1 1902 + L'.1 2)) rfl
        exact ⟨by show c.1 + 0 + PhC _ ≤ _; rw [p.1]; omega, by show c.2 + 0 + PhS _ ≤ _; rw [p.2]; omega⟩
      · exact Sm_t (Wz_m w) (Sm_t (Sm_f σ' f) (Sm_i _ (by decide) _))
      · exact ⟨by show σ'.1 1 = _; rw [z.1], z.2.1⟩
      · intro j hj
        show f j = _
        rw [f1 j hj]
        exact z.2.2.2.2 j hj
      · show uN (σ'.1 1902 + L'.1 2) = _
        rw [e1]; exact eu
      · intro j hj hj2
        exact f2 j hj (by omega)
      · show σ'.1 1812 = _; rw [z.1]
      · show σ'.1 1813 = _; rw [z.1]
      · show σ'.1 1905 = _; rw [z.1]
    | succ m ih =>
      intro L' f a3 a1 a2 f1 f2
      have eu : uN (σ'.1 1902 + L'.1 3) = uN (σ.1 1902) + uN (L'.1 3) := by rw [e1, u_add (by omega)]
      refine Tm_suc (fun k => by rw [f_X3_pushAll]) ?_
      refine Tm_no (by rw [a2, u_le (by omega) (by omega)]; omega) ?_
      refine Tm_chk (u_in (by show uN (σ'.1 1902 + L'.1 3) < sN σ' 20; omega) (by show sN σ' 20 ≤ _; omega)) ?_
      rw [uF_a]
      refine ih _ _ ?_ a1 a2 ?_ ?_
      · show uN (L'.1 3 + 1) + m = _
        rw [u_inc (by omega)]; omega
      · intro j hj
        show upd f (σ'.1 1902 + L'.1 3).toNatClampNeg (L'.1 1) j = _
        rw [u_cl (by omega), upd_other (by omega)]
        exact f1 j hj
      · show ∀ j, uN (σ.1 1902) ≤ j → j < uN (σ.1 1902) + uN (L'.1 3 + 1) → upd f (σ'.1 1902 + L'.1 3).toNatClampNeg (L'.1 1) j = L.1 1
        rw [u_inc (by omega), u_cl (by omega), a1]
        intro j hj hj2
        by_cases d : j = uN (σ'.1 1902 + L'.1 3)
        · rw [d]; exact upd_same
        · rw [upd_other d]
          exact f2 j hj (by omega)
  refine Tm_suc (fun k => by rw [f_X3_pushAll]) ?_
  refine Tm_oxc (c_isRoomFor h1 h2 hn) (fun r q => q.1) (fun r q => ?_)
  obtain ⟨q1, q2, σ', w, q3⟩ := q
  rcases q3 with v | v
  · rw [v.1, v.2.1]
    refine Tm_no (by decide) ?_
    have q2' := q2
    unfold CoP at q2'
    rw [v.2.1] at q2'
    have z := b2 σ' r.2.2 w q2' v.2.2 (uN (L.1 2)) (lI L 3 0) (σ'.2.2.1 20) (by show 0 + _ = _; omega) rfl rfl (fun _ _ => rfl) (fun j hj hj2 => absurd hj2 (by show ¬ j < uN (σ.1 1902) + 0; omega))
    rw [uF_id] at z
    exact z
  · rw [v.1, v.2]
    refine Tm_yes rfl ?_
    refine Tm_suc (fun k => by rw [f_X3_pushAll]) ?_
    refine Tm_some (PuO_f h1 h2 w ?_ rfl rfl)
    have q2' := q2
    unfold CoP at q2'
    rw [v.2] at q2'
    exact q2'
end CSP
end JnS378
section JnS379
/-! The class: shapes of the stack. -/
section CSQ
variable {g g' g2 : Nat → Prop} {l l' l2 : List Nat} {t t' t2 : Nat} {σ σ' σ2 : CS} {L : LV} {x y i : Int32} {M M' U U' : Nat → Int32} {K K' K2 K3 K4 K4' : Nat → Option Int32}
/-- a frame's slots -/
def bsl : Nat := 1000000
/-- slots, or plain places, at the bottom -/
def bt : Nat → List Nat → Nat
  | d, [] => d
  | _, e :: r => if bsl ≤ e then e - bsl else bt (e / 2) r
theorem bt_c (d d' e : Nat) (r : List Nat) : bt d (e :: r) = bt d' (e :: r) := rfl
/-- a mark: of what is gone over (below 500000), or of a value -/
def Mkk (i : Nat) (o : Option Int32) : Prop := (i < 500000 → o = some mkR) ∧ (o = none ∨ o = some mkR)
/-- blocks of places: a frame's head (four), a tuple -/
def pk (e : Nat) : Nat := if e < 500000 then 4 else 1
def pm (e : Nat) : Int32 := if e < 500000 then mkC else if e < 750000 then mkT else mkC
/-- a slot -/
def Sk (o : Option Int32) : Prop := o = none ∨ o = some mkR ∨ o = some mkC
/-- a part of the stack: d plain places on top; below them what is gathered, with its numbers, and so on; or the frame's slots -/
def SL (K : Nat → Option Int32) (lo : Nat) : Nat → Nat → List Nat → Prop
  | hi, d, [] => hi = lo + d ∧ ∀ p, lo ≤ p → p < hi → K p = none
  | hi, d, e :: r => (bsl ≤ e → (∀ i, i ∈ r → i < bsl → i % 500000 < e - bsl ∧ Mkk i (K (lo + i % 500000))) ∧ hi = lo + (e - bsl) + d ∧ (∀ p, lo ≤ p → p < lo + (e - bsl) → Sk (K p)) ∧ ∀ p, lo + (e - bsl) ≤ p → p < hi → K p = none) ∧ (¬ bsl ≤ e → e < 250000 → ∃ (b n : Nat) (z : Int32), hi = b + n + 2 + d ∧ SL K lo b (e / 2) r ∧ (∀ p, b ≤ p → p < b + n → K p = none) ∧ K (b + n) = some (rwN n) ∧ K (b + n + 1) = some z ∧ (Rr z ∧ (e % 2 = 1 → 1000 < uN z % 268435456 → 1 ≤ n)) ∧ ∀ p, b + n + 2 ≤ p → p < hi → K p = none) ∧ (¬ bsl ≤ e → ¬ e < 250000 → ∃ (b e' : Nat) (r' : List Nat), hi = b + pk e + d ∧ SL K lo b (e % 250000) r ∧ r = e' :: r' ∧ (∀ p, b ≤ p → p < b + pk e → K p = some (pm e)) ∧ ∀ p, b + pk e ≤ p → p < hi → K p = none)
theorem SL_le {lo : Nat} : ∀ (r : List Nat) (hi d : Nat), SL K lo hi d r → lo + bt d r ≤ hi ∧ lo + d ≤ hi
  | [], hi, d, h => by
    have e := h.1
    exact ⟨by show lo + d ≤ hi; omega, by omega⟩
  | e :: r, hi, d, h => by
    by_cases c : bsl ≤ e
    · have h1 := (h.1 c).2.1
      exact ⟨by show lo + (if bsl ≤ e then e - bsl else bt (e / 2) r) ≤ hi; rw [if_pos c]; omega, by omega⟩
    · by_cases c5 : e < 250000
      · obtain ⟨b, n, z, h1, h2, _⟩ := h.2.1 c c5
        have q := SL_le r b (e / 2) h2
        exact ⟨by show lo + (if bsl ≤ e then e - bsl else bt (e / 2) r) ≤ hi; rw [if_neg c]; omega, by omega⟩
      · obtain ⟨b, e', r', h1, h2, h3, _⟩ := h.2.2 c c5
        have q := SL_le r b (e % 250000) h2
        have eb : bt (e / 2) r = bt (e % 250000) r := by rw [h3]; exact bt_c _ _ _ _
        exact ⟨by show lo + (if bsl ≤ e then e - bsl else bt (e / 2) r) ≤ hi; rw [if_neg c, eb]; omega, by omega⟩
theorem SL_top {lo : Nat} : ∀ (r : List Nat) (hi d : Nat), SL K lo hi d r → ∀ p, hi ≤ p + d → p < hi → K p = none
  | [], hi, d, h, p, h1, h2 => h.2 p (by have e := h.1; omega) h2
  | e :: r, hi, d, h, p, h1, h2 => by
    by_cases c : bsl ≤ e
    · obtain ⟨a1, a2, a3, a4⟩ := h.1 c
      exact a4 p (by omega) h2
    · by_cases c5 : e < 250000
      · obtain ⟨b, n, z, a1, a2, a3, a4, a5, a6, a7⟩ := h.2.1 c c5
        exact a7 p (by omega) h2
      · obtain ⟨b, e', r', a1, a2, a3, a4, a7⟩ := h.2.2 c c5
        exact a7 p (by omega) h2
theorem SL_eq {lo : Nat} : ∀ (r : List Nat) (hi d : Nat), (∀ p, lo ≤ p → p < hi → K' p = K p) → SL K lo hi d r → SL K' lo hi d r
  | [], hi, d, e, h => ⟨h.1, fun p h1 h2 => (e p h1 h2).trans (h.2 p h1 h2)⟩
  | f :: r, hi, d, e, h => by
    refine ⟨fun c => ?_, fun c c5 => ?_, fun c c5 => ?_⟩
    · obtain ⟨a1, a2, a3, a4⟩ := h.1 c
      exact ⟨fun i h1 h2 => ⟨(a1 i h1 h2).1, by rw [e (lo + i % 500000) (by omega) (by have := (a1 i h1 h2).1; omega)]; exact (a1 i h1 h2).2⟩, a2, fun p h1 h2 => by rw [e p h1 (by omega)]; exact a3 p h1 h2, fun p h1 h2 => by rw [e p (by omega) h2]; exact a4 p h1 h2⟩
    · obtain ⟨b, n, z, a1, a2, a3, a4, a5, a6, a7⟩ := h.2.1 c c5
      have q := (SL_le r b (f / 2) a2).2
      exact ⟨b, n, z, a1, SL_eq r b (f / 2) (fun p h1 h2 => e p h1 (by omega)) a2, fun p h1 h2 => (e p (by omega) (by omega)).trans (a3 p h1 h2), (e _ (by omega) (by omega)).trans a4, (e _ (by omega) (by omega)).trans a5, a6, fun p h1 h2 => (e p (by omega) h2).trans (a7 p h1 h2)⟩
    · obtain ⟨b, e', r', a1, a2, a3, a4, a7⟩ := h.2.2 c c5
      have q := (SL_le r b (f % 250000) a2).2
      exact ⟨b, e', r', a1, SL_eq r b (f % 250000) (fun p h1 h2 => e p h1 (by omega)) a2, a3, fun p h1 h2 => (e p (by omega) (by omega)).trans (a4 p h1 h2), fun p h1 h2 => (e p (by omega) h2).trans (a7 p h1 h2)⟩
theorem SL_pop {lo : Nat} : ∀ (r : List Nat) (hi d n : Nat), SL K lo hi (d + n) r → SL K lo (hi - n) d r
  | [], hi, d, n, h => ⟨by have e := h.1; omega, fun p h1 h2 => h.2 p h1 (by omega)⟩
  | f :: r, hi, d, n, h => by
    refine ⟨fun c => ?_, fun c c5 => ?_, fun c c5 => ?_⟩
    · obtain ⟨a1, a2, a3, a4⟩ := h.1 c
      exact ⟨a1, by omega, a3, fun p h1 h2 => a4 p h1 (by omega)⟩
    · obtain ⟨b, m, z, a1, a2, a3, a4, a5, a6, a7⟩ := h.2.1 c c5
      exact ⟨b, m, z, by omega, a2, a3, a4, a5, a6, fun p h1 h2 => a7 p h1 (by omega)⟩
    · obtain ⟨b, e', r', a1, a2, a3, a4, a7⟩ := h.2.2 c c5
      exact ⟨b, e', r', by omega, a2, a3, a4, fun p h1 h2 => a7 p h1 (by omega)⟩
theorem SL_push {lo : Nat} : ∀ (r : List Nat) (hi d n : Nat), (∀ p, hi ≤ p → p < hi + n → K p = none) → SL K lo hi d r → SL K lo (hi + n) (d + n) r
  | [], hi, d, n, hn, h => ⟨by have e := h.1; omega, fun p h1 h2 => by
      rcases Nat.lt_or_ge p hi with c | c
      · exact h.2 p h1 c
      · exact hn p c h2⟩
  | f :: r, hi, d, n, hn, h => by
    refine ⟨fun c => ?_, fun c c5 => ?_, fun c c5 => ?_⟩
    · obtain ⟨a1, a2, a3, a4⟩ := h.1 c
      refine ⟨a1, by omega, a3, fun p h1 h2 => ?_⟩
      rcases Nat.lt_or_ge p hi with y | y
      · exact a4 p h1 y
      · exact hn p y h2
    · obtain ⟨b, m, z, a1, a2, a3, a4, a5, a6, a7⟩ := h.2.1 c c5
      refine ⟨b, m, z, by omega, a2, a3, a4, a5, a6, fun p h1 h2 => ?_⟩
      rcases Nat.lt_or_ge p hi with y | y
      · exact a7 p h1 y
      · exact hn p y h2
    · obtain ⟨b, e', r', a1, a2, a3, a4, a7⟩ := h.2.2 c c5
      refine ⟨b, e', r', by omega, a2, a3, a4, fun p h1 h2 => ?_⟩
      rcases Nat.lt_or_ge p hi with y | y
      · exact a7 p h1 y
      · exact hn p y h2
/-- slots alone -/
theorem SL_0 {lo hi w d : Nat} {ms : List Nat} (h : SL K lo hi d ((bsl + w) :: ms)) : hi = lo + w + d ∧ (∀ p, lo ≤ p → p < lo + w → Sk (K p)) := by
  obtain ⟨a1, a2, a3, a4⟩ := h.1 (Nat.le_add_right _ _)
  rw [Nat.add_sub_cancel_left] at a2 a3
  exact ⟨a2, a3⟩
theorem SL_mk {lo hi w d : Nat} (e : hi = lo + w + d) (h : ∀ p, lo ≤ p → p < lo + w → Sk (K p)) (h2 : ∀ p, lo + w ≤ p → p < hi → K p = none) : SL K lo hi d [bsl + w] := by
  refine ⟨fun _ => ⟨fun i h => absurd h List.not_mem_nil, ?_, ?_, ?_⟩, fun c => absurd (Nat.le_add_right _ _) c, fun c => absurd (Nat.le_add_right _ _) c⟩
  · rw [Nat.add_sub_cancel_left]; exact e
  · rw [Nat.add_sub_cancel_left]; exact h
  · rw [Nat.add_sub_cancel_left]; exact h2
/-- what exps go over: marked among the slots that are passed -/
def PaM (K : Nat → Option Int32) (pb m : Nat) : List Nat → Prop
  | [] => True
  | e :: r => (bsl ≤ e → ∀ i, i ∈ r → bsl ≤ i → (i - bsl) % 500000 < m ∧ Mkk (i - bsl) (K (pb + (i - bsl) % 500000))) ∧ (¬ bsl ≤ e → PaM K pb m r)
theorem PaM_eq {pb m : Nat} (h : ∀ p, pb ≤ p → p < pb + m → K' p = K p) : ∀ r : List Nat, PaM K pb m r → PaM K' pb m r
  | [], _ => trivial
  | e :: r, q => ⟨fun c i h1 h2 => ⟨(q.1 c i h1 h2).1, by
      have z := q.1 c i h1 h2
      rw [h (pb + (i - bsl) % 500000) (by omega) (by omega)]; exact z.2⟩, fun c => PaM_eq h r (q.2 c)⟩
/-- slots that hold values -/
def Vl : Nat → List Nat
  | 0 => []
  | n + 1 => (500000 + n) :: Vl n
theorem Vl_m : ∀ (n i : Nat), i ∈ Vl n → 500000 ≤ i ∧ i < 500000 + n
  | 0, i, h => absurd h List.not_mem_nil
  | n + 1, i, h => by
    rcases List.mem_cons.1 h with e | e
    · omega
    · have := Vl_m n i e
      omega
theorem Vl_h : ∀ (n i : Nat), i < n → 500000 + i ∈ Vl n
  | 0, i, h => absurd h (Nat.not_lt_zero i)
  | n + 1, i, h => by
    by_cases e : i = n
    · rw [e]; exact List.mem_cons_self
    · exact List.mem_cons_of_mem _ (Vl_h n i (by omega))
theorem SL_mkV {lo hi w d : Nat} (w5 : w ≤ 500000) (e : hi = lo + w + d) (h : ∀ p, lo ≤ p → p < hi → K p = none) : SL K lo hi d ((bsl + w) :: Vl w) := by
  refine ⟨fun _ => ⟨fun i hi hb => ?_, ?_, ?_, ?_⟩, fun c => absurd (Nat.le_add_right _ _) c, fun c => absurd (Nat.le_add_right _ _) c⟩
  · have z := Vl_m w i hi
    rw [Nat.add_sub_cancel_left]
    exact ⟨by omega, fun lt => absurd lt (by omega), Or.inl (h _ (by omega) (by omega))⟩
  · rw [Nat.add_sub_cancel_left]; exact e
  · rw [Nat.add_sub_cancel_left]; exact fun p h1 h2 => Or.inl (h p h1 (by omega))
  · rw [Nat.add_sub_cancel_left]; exact fun p h1 h2 => h p (by omega) h2
theorem Vl_b (n : Nat) (hn : n ≤ 500000) : ∀ i, i ∈ Vl n → i < bsl := fun i h => by
  have := Vl_m n i h
  unfold bsl
  omega
/-- what is read is a value: the uppermost n places -/
theorem PaM_0 {pb m w : Nat} {ms : List Nat} (h : ∀ i, i ∈ ms → i < bsl) : PaM K pb m ((bsl + w) :: ms) := ⟨fun _ i h1 h2 => absurd (h i h1) (by omega), fun c => absurd (Nat.le_add_right _ _) c⟩
theorem bt_0 (d w : Nat) (ms : List Nat) : bt d ((bsl + w) :: ms) = w := by
  show (if bsl ≤ bsl + w then bsl + w - bsl else bt ((bsl + w) / 2) ms) = w
  rw [if_pos (Nat.le_add_right _ _), Nat.add_sub_cancel_left]
/-- places written: pinned or not -/
def Kw (K : Nat → Option Int32) (s n : Nat) (v : Option Int32) : Nat → Option Int32 := fun j => if s ≤ j ∧ j < s + n then v else K j
theorem Kw_o {s n : Nat} {v : Option Int32} {j : Nat} (h : j < s ∨ s + n ≤ j) : Kw K s n v j = K j := if_neg (by omega)
theorem Kw_i {s n : Nat} {v : Option Int32} {j : Nat} (h : s ≤ j) (h2 : j < s + n) : Kw K s n v j = v := if_pos ⟨h, h2⟩
/-- n plain places more -/
theorem SL_pu {lo hi d : Nat} {r : List Nat} (n : Nat) (h : SL K lo hi d r) : SL (Kw K hi n none) lo (hi + n) (d + n) r :=
  SL_push r hi d n (fun p h1 h2 => Kw_i h1 h2) (SL_eq r hi d (fun p h1 h2 => Kw_o (Or.inl h2)) h)
/-- plain places become slots; fewer marks -/
theorem SL_ms {lo hi d w n : Nat} {ms ms' : List Nat} (hm : ∀ i, i ∈ ms' → i < bsl → i ∈ ms) (h : SL K lo hi (d + n) ((bsl + w) :: ms)) : SL K lo hi d ((bsl + (w + n)) :: ms') := by
  obtain ⟨a1, a2, a3, a4⟩ := h.1 (Nat.le_add_right _ _)
  rw [Nat.add_sub_cancel_left] at a1 a2 a3 a4
  refine ⟨fun _ => ?_, fun c => absurd (Nat.le_add_right _ _) c, fun c => absurd (Nat.le_add_right _ _) c⟩
  rw [Nat.add_sub_cancel_left]
  refine ⟨fun i h1 h2 => ⟨by have := (a1 i (hm i h1 h2) h2).1; omega, (a1 i (hm i h1 h2) h2).2⟩, by omega, fun p h1 h2 => ?_, fun p h1 h2 => a4 p (by omega) h2⟩
  rcases Nat.lt_or_ge p (lo + w) with y | y
  · exact a3 p h1 y
  · exact Or.inl (a4 p y (by omega))
/-- slots are given up -/
theorem SL_ds {lo hi d w n : Nat} {ms ms' : List Nat} (hm : ∀ i, i ∈ ms' → i < bsl → i ∈ ms ∧ i % 500000 < w) (h : SL K lo hi d ((bsl + (w + n)) :: ms)) : n + d ≤ hi ∧ SL K lo (hi - (n + d)) 0 ((bsl + w) :: ms') := by
  obtain ⟨a1, a2, a3, a4⟩ := h.1 (Nat.le_add_right _ _)
  rw [Nat.add_sub_cancel_left] at a1 a2 a3 a4
  refine ⟨by omega, fun _ => ?_, fun c => absurd (Nat.le_add_right _ _) c, fun c => absurd (Nat.le_add_right _ _) c⟩
  rw [Nat.add_sub_cancel_left]
  exact ⟨fun i h1 h2 => ⟨(hm i h1 h2).2, (a1 i (hm i h1 h2).1 h2).2⟩, by omega, fun p h1 h2 => a3 p h1 (by omega), fun p h1 h2 => absurd h2 (by omega)⟩
/-- a tuple on top is pinned -/
theorem SL_mt {lo hi d w : Nat} {ms : List Nat} (h : SL K lo hi (d + 1) ((bsl + w) :: ms)) (hd : d < 250000) : SL (Kw K (hi - 1) 1 (some mkT)) lo hi 0 ((500000 + d) :: (bsl + w) :: ms) := by
  have le := (SL_le _ _ _ h).2
  have p1 : pk (500000 + d) = 1 := if_neg (by omega)
  have p2 : pm (500000 + d) = mkT := by unfold pm; rw [if_neg (by omega), if_pos (by omega)]
  have p3 : (500000 + d) % 250000 = d := by omega
  refine ⟨fun c => absurd c (by unfold bsl; omega), fun _ c5 => absurd c5 (by omega), fun _ _ => ⟨hi - 1, _, _, by rw [p1]; omega, ?_, rfl, fun p h1 h2 => ?_, fun p h1 h2 => absurd h2 (by rw [p1] at h1; omega)⟩⟩
  · rw [p3]
    exact SL_eq _ _ _ (fun p h1 h2 => Kw_o (Or.inl h2)) (SL_pop _ hi d 1 h)
  · rw [p1] at h2
    rw [p2]
    exact Kw_i h1 (by omega)
/-- and given up -/
theorem SL_dt {lo hi d v : Nat} {r : List Nat} (hd : v < 250000) (h : SL K lo hi d ((500000 + v) :: r)) : d + 1 + v ≤ hi ∧ SL K lo (hi - (d + 1 + v)) 0 r ∧ K (hi - 1 - d) = some mkT := by
  obtain ⟨b, e', r', a1, a2, a3, a4, a5⟩ := h.2.2 (by unfold bsl; omega) (by omega)
  have p1 : pk (500000 + v) = 1 := if_neg (by omega)
  have p2 : pm (500000 + v) = mkT := by unfold pm; rw [if_neg (by omega), if_pos (by omega)]
  have p3 : (500000 + v) % 250000 = v := by omega
  rw [p3] at a2
  rw [p1] at a1 a4
  rw [p2] at a4
  have le := (SL_le _ _ _ a2).2
  have z := SL_pop r b 0 v (by rw [Nat.zero_add]; exact a2)
  refine ⟨by omega, ?_, ?_⟩
  · rw [show hi - (d + 1 + v) = b - v from by omega]; exact z
  · rw [show hi - 1 - d = b from by omega]; exact a4 b (Nat.le_refl _) (by omega)
/-- a frame's head is laid -/
theorem SL_fr {lo hi d e' : Nat} {r' : List Nat} (h : SL K lo hi d (e' :: r')) (hd : d < 250000) : SL (Kw K hi 4 (some mkC)) lo (hi + 4) 0 ((250000 + d) :: e' :: r') := by
  have p1 : pk (250000 + d) = 4 := if_pos (by omega)
  have p2 : pm (250000 + d) = mkC := if_pos (by omega)
  have p3 : (250000 + d) % 250000 = d := by omega
  refine ⟨fun c => absurd c (by unfold bsl; omega), fun _ c5 => absurd c5 (by omega), fun _ _ => ⟨hi, _, _, by rw [p1], ?_, rfl, fun p h1 h2 => ?_, fun p h1 h2 => absurd h2 (by rw [p1] at h1; omega)⟩⟩
  · rw [p3]
    exact SL_eq _ _ _ (fun p h1 h2 => Kw_o (Or.inl h2)) h
  · rw [p1] at h2
    rw [p2]
    exact Kw_i h1 h2
/-- what lies below it and above it -/
theorem SL_rf {lo hi d v : Nat} {r : List Nat} (hd : v < 250000) (h : SL K lo hi d ((250000 + v) :: r)) : d + 4 ≤ hi ∧ SL K lo (hi - (d + 4)) v r ∧ (∀ p, hi - d ≤ p → p < hi → K p = none) ∧ lo + v + 4 + d ≤ hi ∧ ∃ e' r', r = e' :: r' := by
  obtain ⟨b, e', r', a1, a2, a3, a4, a5⟩ := h.2.2 (by unfold bsl; omega) (by omega)
  have p1 : pk (250000 + v) = 4 := if_pos (by omega)
  have p3 : (250000 + v) % 250000 = v := by omega
  rw [p3] at a2
  rw [p1] at a1 a5
  have le := (SL_le _ _ _ a2).2
  refine ⟨by omega, ?_, fun p h1 h2 => a5 p (by omega) h2, by omega, e', r', a3⟩
  rw [show hi - (d + 4) = b by omega]; exact a2
/-- a counter on top -/
theorem SL_ct {lo hi d e' : Nat} {r' : List Nat} (h : SL K lo hi d (e' :: r')) (hd : d < 250000) : SL (Kw K hi 1 (some mkC)) lo (hi + 1) 0 ((750000 + d) :: e' :: r') := by
  have p1 : pk (750000 + d) = 1 := if_neg (by omega)
  have p2 : pm (750000 + d) = mkC := by unfold pm; rw [if_neg (by omega), if_neg (by omega)]
  have p3 : (750000 + d) % 250000 = d := by omega
  refine ⟨fun c => absurd c (by unfold bsl; omega), fun _ c5 => absurd c5 (by omega), fun _ _ => ⟨hi, _, _, by rw [p1], ?_, rfl, fun p h1 h2 => ?_, fun p h1 h2 => absurd h2 (by rw [p1] at h1; omega)⟩⟩
  · rw [p3]
    exact SL_eq _ _ _ (fun p h1 h2 => Kw_o (Or.inl h2)) h
  · rw [p1] at h2
    rw [p2]
    exact Kw_i h1 h2
theorem SL_tc {lo hi v : Nat} {r : List Nat} (hd : v < 250000) (h : SL K lo hi 0 ((750000 + v) :: r)) : lo + v + 1 ≤ hi ∧ SL K lo (hi - 1) v r ∧ K (hi - 1) = some mkC := by
  obtain ⟨b, e', r', a1, a2, a3, a4, a5⟩ := h.2.2 (by unfold bsl; omega) (by omega)
  have p1 : pk (750000 + v) = 1 := if_neg (by omega)
  have p2 : pm (750000 + v) = mkC := by unfold pm; rw [if_neg (by omega), if_neg (by omega)]
  have p3 : (750000 + v) % 250000 = v := by omega
  rw [p3] at a2
  rw [p1] at a1 a4
  rw [p2] at a4
  have le := (SL_le _ _ _ a2).2
  have e : hi - 1 = b := by omega
  rw [e]
  exact ⟨by omega, a2, a4 b (Nat.le_refl _) (by omega)⟩
/-- a shape is another, too; n places are given up -/
def Rsh (d : Nat) (r : List Nat) (d' : Nat) (r' : List Nat) : Prop := (∀ (K : Nat → Option Int32) (lo hi : Nat), SL K lo hi d r → SL K lo hi d' r') ∧ ∀ (K : Nat → Option Int32) (pb m : Nat), PaM K pb m r → PaM K pb m r'
def Drp (n d : Nat) (r : List Nat) (d' : Nat) (r' : List Nat) : Prop := (∀ (K : Nat → Option Int32) (lo hi : Nat), SL K lo hi d r → n ≤ hi ∧ SL K lo (hi - n) d' r') ∧ ∀ (K : Nat → Option Int32) (pb m : Nat), PaM K pb m r → PaM K pb m r'
theorem Rsh_r (d : Nat) (r : List Nat) : Rsh d r d r := ⟨fun _ _ _ h => h, fun _ _ _ h => h⟩
theorem PaM_ms {pb m w w' : Nat} {ms ms' : List Nat} (hm : ∀ i, i ∈ ms' → bsl ≤ i → i ∈ ms) (h : PaM K pb m ((bsl + w) :: ms)) : PaM K pb m ((bsl + w') :: ms') := ⟨fun _ i h1 h2 => h.1 (Nat.le_add_right _ _) i (hm i h1 h2) h2, fun c => absurd (Nat.le_add_right _ _) c⟩
theorem Rsh_ms {d w n : Nat} {ms ms' : List Nat} (hm : ∀ i, i ∈ ms' → i ∈ ms) : Rsh (d + n) ((bsl + w) :: ms) d ((bsl + (w + n)) :: ms') := ⟨fun _ _ _ h => SL_ms (fun i h1 _ => hm i h1) h, fun _ _ _ h => PaM_ms (fun i h1 _ => hm i h1) h⟩
theorem Rsh_m0 {d w : Nat} {ms ms' : List Nat} (hm : ∀ i, i ∈ ms' → i ∈ ms) : Rsh d ((bsl + w) :: ms) d ((bsl + w) :: ms') := Rsh_ms (n := 0) hm
theorem Drp_pl {d n : Nat} (r : List Nat) : Drp n (d + n) r d r := ⟨fun _ _ _ h => ⟨by have := (SL_le _ _ _ h).2; omega, SL_pop _ _ _ _ h⟩, fun _ _ _ h => h⟩
theorem Drp_ds {d w n : Nat} {ms ms' : List Nat} (hm : ∀ i, i ∈ ms' → i ∈ ms ∧ (i < bsl → i % 500000 < w)) : Drp (n + d) d ((bsl + (w + n)) :: ms) 0 ((bsl + w) :: ms') := ⟨fun _ _ _ h => SL_ds (fun i h1 h2 => ⟨(hm i h1).1, (hm i h1).2 h2⟩) h, fun _ _ _ h => PaM_ms (fun i h1 _ => (hm i h1).1) h⟩
theorem Drp_dt {d v : Nat} {r : List Nat} (hv : v < 250000) : Drp (d + 1 + v) d ((500000 + v) :: r) 0 r := ⟨fun _ _ _ h => ⟨(SL_dt hv h).1, (SL_dt hv h).2.1⟩, fun _ _ _ h => h.2 (by unfold bsl; omega)⟩
/-- the same shape but for its marks -/
def Mrl (Q : Nat → List Nat → Prop) : List Nat → List Nat → Prop
  | [], r => r = []
  | e :: r', r => ∃ s, r = e :: s ∧ (bsl ≤ e → ∀ i, i ∈ r' → Q i s) ∧ (¬ bsl ≤ e → Mrl Q r' s)
theorem Mrl_bt {Q : Nat → List Nat → Prop} : ∀ (r' r : List Nat) (d : Nat), Mrl Q r' r → bt d r' = bt d r
  | [], r, d, h => by rw [show r = [] from h]
  | e :: r', r, d, h => by
    obtain ⟨s, h1, h2, h3⟩ := h
    rw [h1]
    show (if bsl ≤ e then e - bsl else bt (e / 2) r') = (if bsl ≤ e then e - bsl else bt (e / 2) s)
    by_cases q : bsl ≤ e
    · rw [if_pos q, if_pos q]
    · rw [if_neg q, if_neg q]
      exact Mrl_bt r' s (e / 2) (h3 q)
theorem Mrl_hd {Q : Nat → List Nat → Prop} {e0 : Nat} {ms r' s : List Nat} (h : Mrl Q r' s) (e : s = e0 :: ms) : ∃ ms', r' = e0 :: ms' := by
  cases r' with
  | nil =>
    have e0 : s = [] := h
    rw [e0] at e
    cases e
  | cons a r' =>
    obtain ⟨s', h1, _⟩ := h
    rw [e] at h1
    cases h1
    exact ⟨r', rfl⟩
/-- all marks; a mark -/
def AllM (P : Nat → Prop) : List Nat → Prop
  | [] => True
  | e :: r => (bsl ≤ e → ∀ i, i ∈ r → P i) ∧ (¬ bsl ≤ e → AllM P r)
def HasM (x : Nat) : List Nat → Prop
  | [] => False
  | e :: r => (bsl ≤ e → x ∈ r) ∧ (¬ bsl ≤ e → HasM x r)
theorem Mrl_rf {P : Nat → Prop} : ∀ r : List Nat, AllM P r → Mrl (fun i s => i ∈ s ∧ P i) r r
  | [], _ => rfl
  | e :: r, h => ⟨r, rfl, fun c i hi => ⟨hi, h.1 c i hi⟩, fun c => Mrl_rf r (h.2 c)⟩
theorem PaM_has {pb m x : Nat} (hx : x < 500000) : ∀ r : List Nat, PaM K4 pb m r → HasM (bsl + x) r → x < m ∧ K4 (pb + x) = some mkR
  | [], _, h => absurd h id
  | e :: r, p, h => by
    by_cases c : bsl ≤ e
    · have z := p.1 c (bsl + x) (h.1 c) (Nat.le_add_right _ _)
      rw [Nat.add_sub_cancel_left, Nat.mod_eq_of_lt hx] at z
      exact ⟨z.1, z.2.1 hx⟩
    · exact PaM_has hx r (p.2 c) (h.2 c)
theorem PaM_hv {pb m x : Nat} (hx : x < 500000) : ∀ r : List Nat, PaM K4 pb m r → HasM (bsl + 500000 + x) r → x < m ∧ (K4 (pb + x) = none ∨ K4 (pb + x) = some mkR)
  | [], _, h => absurd h id
  | e :: r, p, h => by
    by_cases c : bsl ≤ e
    · have z := p.1 c (bsl + 500000 + x) (h.1 c) (by omega)
      have e1 : (bsl + 500000 + x - bsl) % 500000 = x := by omega
      rw [e1] at z
      exact ⟨z.1, z.2.2⟩
    · exact PaM_hv hx r (p.2 c) (h.2 c)
theorem SL_has {lo n : Nat} (hn : n < 500000) : ∀ (r : List Nat) (hi d : Nat), SL K lo hi d r → HasM n r → n < bt d r ∧ K (lo + n) = some mkR
  | [], hi, d, q, h => absurd h id
  | e :: r, hi, d, q, h => by
    by_cases c : bsl ≤ e
    · have z := (q.1 c).1 n (h.1 c) (by unfold bsl; omega)
      rw [Nat.mod_eq_of_lt hn] at z
      exact ⟨by show n < (if bsl ≤ e then e - bsl else bt (e / 2) r); rw [if_pos c]; exact z.1, z.2.1 hn⟩
    · by_cases c5 : e < 250000
      · obtain ⟨b, m, z, a1, a2, _⟩ := q.2.1 c c5
        have y := SL_has hn r b (e / 2) a2 (h.2 c)
        exact ⟨by show n < (if bsl ≤ e then e - bsl else bt (e / 2) r); rw [if_neg c]; exact y.1, y.2⟩
      · obtain ⟨b, e', r', a1, a2, a3, _⟩ := q.2.2 c c5
        have y := SL_has hn r b (e % 250000) a2 (h.2 c)
        have eb2 : bt (e / 2) r = bt (e % 250000) r := by rw [a3]; exact bt_c _ _ _ _
        exact ⟨by show n < (if bsl ≤ e then e - bsl else bt (e / 2) r); rw [if_neg c, eb2]; exact y.1, y.2⟩
theorem SL_hv {lo n : Nat} (hn : n < 500000) : ∀ (r : List Nat) (hi d : Nat), SL K lo hi d r → HasM (500000 + n) r → n < bt d r ∧ (K (lo + n) = none ∨ K (lo + n) = some mkR)
  | [], hi, d, q, h => absurd h id
  | e :: r, hi, d, q, h => by
    by_cases c : bsl ≤ e
    · have z := (q.1 c).1 (500000 + n) (h.1 c) (by unfold bsl; omega)
      have e1 : (500000 + n) % 500000 = n := by omega
      rw [e1] at z
      exact ⟨by show n < (if bsl ≤ e then e - bsl else bt (e / 2) r); rw [if_pos c]; exact z.1, z.2.2⟩
    · by_cases c5 : e < 250000
      · obtain ⟨b, m, z, a1, a2, _⟩ := q.2.1 c c5
        have y := SL_hv hn r b (e / 2) a2 (h.2 c)
        exact ⟨by show n < (if bsl ≤ e then e - bsl else bt (e / 2) r); rw [if_neg c]; exact y.1, y.2⟩
      · obtain ⟨b, e', r', a1, a2, a3, _⟩ := q.2.2 c c5
        have y := SL_hv hn r b (e % 250000) a2 (h.2 c)
        have eb2 : bt (e / 2) r = bt (e % 250000) r := by rw [a3]; exact bt_c _ _ _ _
        exact ⟨by show n < (if bsl ≤ e then e - bsl else bt (e / 2) r); rw [if_neg c, eb2]; exact y.1, y.2⟩
/-- a value by its mark -/
theorem Rwk_v {f : Nat → Int32} {s j : Nat} (h : Rwk g M K f s) (hj : j < s) (k : K j = none ∨ K j = some mkR) : Gv g (f j) := by
  rcases k with k | k
  · exact (h j hj).2.1 k
  · rcases (h j hj).2.2 _ k with z | z | z | z
    · have y : 4026531840 ≤ uN mkR := z.2
      exact absurd y (by decide)
    · exact z.2.1
    · exact absurd z.1 (by decide)
    · exact absurd z (by decide)
/-- code, as it is checked: its ints, how many; where units begin, their params, their slots; which are funcs; shapes and ranks -/
abbrev Ct := (Nat → Int32) × Nat × (Nat → Nat) × (Nat → Nat) × (Nat → Nat) × (Nat → Prop) × (Nat → Option (Nat × Nat × List Nat × Nat))
abbrev tcC (c : Ct) : Nat → Int32 := c.1
abbrev tcN (c : Ct) : Nat := c.2.1
abbrev tcE (c : Ct) : Nat → Nat := c.2.2.1
abbrev tcP (c : Ct) : Nat → Nat := c.2.2.2.1
abbrev tcF (c : Ct) : Nat → Nat := c.2.2.2.2.1
abbrev tcK (c : Ct) : Nat → Prop := c.2.2.2.2.2.1
abbrev tcD (c : Ct) : Nat → Option (Nat × Nat × List Nat × Nat) := c.2.2.2.2.2.2
/-- a unit of statements -/
def tcS (c : Ct) (u : Nat) : Prop := ¬ tcK c u ∧ ¬ u = 41
/-- no rank is higher -/
def RK : Nat := 40000
/-- frames that wait: fp, unit, shape, slots passed, funcs, procs, ranks -/
abbrev FrT := Nat × Nat × Nat × List Nat × Nat × Nat × Nat × Nat
def FC (c : Ct) (K K4 : Nat → Option Int32) (f0 u0 : Nat) : List FrT → Nat → Nat → Nat → Nat → Nat → Nat → Prop
  | [], fp, u, pb, nf, nc, sq => fp = f0 ∧ u = u0 ∧ pb = 0 ∧ nf = 0 ∧ nc = 0 ∧ sq = 0
  | q :: fs, fp, u, pb, nf, nc, sq => (∃ (bk rb : Nat) (z2 z3 : Int32), (K fp = some (rwN bk) ∧ K (fp + 1) = some (rwN q.1) ∧ K (fp + 2) = some z2 ∧ K (fp + 3) = some z3) ∧ (Rr z2 ∧ Rr z3 ∧ bk < 268435456) ∧ SL K (q.1 + 4) fp q.2.2.1 q.2.2.2.1 ∧ tcF c q.2.1 ≤ bt q.2.2.1 q.2.2.2.1 ∧ tcP c u ≤ tcF c u ∧ (rb ≤ RK ∧ q.2.1 < 42) ∧ ((tcK c u ∧ tcD c bk = some (q.2.1, q.2.2.1 + 1, q.2.2.2.1, rb) ∧ pb = q.2.2.2.2.1 + uN z3 % 268435456 ∧ uN z3 % 268435456 ≤ 180 ∧ nf = q.2.2.2.2.2.1 + 1 ∧ nc = q.2.2.2.2.2.2.1 ∧ sq = q.2.2.2.2.2.2.2 ∧ PaM K4 q.2.2.2.2.1 (uN z3 % 268435456) q.2.2.2.1) ∨ (tcS c u ∧ tcS c q.2.1 ∧ (1 ≤ u ∧ u < 41) ∧ tcD c bk = some (q.2.1, q.2.2.1 + 1 + tcP c u, q.2.2.2.1, rb) ∧ (q.2.2.1 = 0 ∧ ∃ (w : Nat) (ms : List Nat), w ≤ 200 ∧ q.2.2.2.1 = (bsl + w) :: ms ∧ ∀ i, i ∈ ms → i < bsl) ∧ z2 = rwN u ∧ pb = q.2.2.2.2.1 ∧ nf = q.2.2.2.2.2.1 ∧ nc = q.2.2.2.2.2.2.1 + 1 ∧ sq = q.2.2.2.2.2.2.2 + rb))) ∧ FC c K K4 f0 u0 fs q.1 q.2.1 q.2.2.2.2.1 q.2.2.2.2.2.1 q.2.2.2.2.2.2.1 q.2.2.2.2.2.2.2
theorem FC_eq {c : Ct} {f0 u0 : Nat} : ∀ (fs : List FrT) (fp u pb nf nc sq : Nat), (∀ p, f0 ≤ p → p < fp + 4 → K' p = K p) → (∀ p, p < pb → K3 p = K2 p) → f0 ≤ fp → FC c K K2 f0 u0 fs fp u pb nf nc sq → (∀ q, q ∈ fs → f0 ≤ q.1) → FC c K' K3 f0 u0 fs fp u pb nf nc sq
  | [], fp, u, pb, nf, nc, sq, e, e4, h0, h, _ => h
  | q :: fs, fp, u, pb, nf, nc, sq, e, e4, h0, h, hq => by
    obtain ⟨⟨bk, rb, z2, z3, ⟨a1, a2, a3, a4⟩, b, s, r1, r2, r3, kk⟩, w⟩ := h
    have sl := (SL_le _ _ _ s).2
    have q0 := hq q List.mem_cons_self
    have qp : q.2.2.2.2.1 ≤ pb := by
      rcases kk with k | k
      · have := k.2.2.1
        omega
      · have := k.2.2.2.2.2.2.1
        omega
    refine ⟨⟨bk, rb, z2, z3, ⟨(e _ h0 (by omega)).trans a1, (e _ (by omega) (by omega)).trans a2, (e _ (by omega) (by omega)).trans a3, (e _ (by omega) (by omega)).trans a4⟩, b, SL_eq _ _ _ (fun p h1 h2 => e p (by omega) (by omega)) s, r1, r2, r3, ?_⟩, ?_⟩
    · rcases kk with ⟨k1, k2, k3, k4, k5, k6, k7, k8⟩ | k
      · exact Or.inl ⟨k1, k2, k3, k4, k5, k6, k7, PaM_eq (fun p h1 h2 => e4 p (by omega)) _ k8⟩
      · exact Or.inr k
    · exact FC_eq fs q.1 _ _ _ _ _ (fun p h1 h2 => e p h1 (by omega)) (fun p hp => e4 p (by omega)) q0 w (fun q' h' => hq q' (List.mem_cons_of_mem _ h'))
theorem FC_f0 {c : Ct} {f0 u0 : Nat} : ∀ (fs : List FrT) (fp u pb nf nc sq : Nat), FC c K K4 f0 u0 fs fp u pb nf nc sq → f0 ≤ fp ∧ ∀ q, q ∈ fs → f0 ≤ q.1
  | [], fp, u, pb, nf, nc, sq, h => ⟨by have e := h.1; omega, fun q hq => absurd hq List.not_mem_nil⟩
  | q :: fs, fp, u, pb, nf, nc, sq, h => by
    obtain ⟨⟨bk, rb, z2, z3, a, b, s, r⟩, w⟩ := h
    have sl := (SL_le _ _ _ s).2
    have z := FC_f0 fs _ _ _ _ _ _ w
    refine ⟨by omega, fun q' h' => ?_⟩
    rcases List.mem_cons.1 h' with e | e
    · rw [e]; exact z.1
    · exact z.2 q' e
/-- the same frames, where nothing below is touched -/
theorem FC_k {c : Ct} {f0 u0 fp u pb nf nc sq : Nat} {fs : List FrT} (h : FC c K K4 f0 u0 fs fp u pb nf nc sq) (e : ∀ p, p < fp + 4 → K' p = K p) (e4 : ∀ p, p < pb → K4' p = K4 p) : FC c K' K4' f0 u0 fs fp u pb nf nc sq := by
  have z := FC_f0 fs fp u pb nf nc sq h
  exact FC_eq fs fp u pb nf nc sq (fun p _ h2 => e p h2) e4 z.1 h z.2
theorem FC_b {c : Ct} {f0 u0 : Nat} : ∀ (fs : List FrT) (fp u pb nf nc sq : Nat), FC c K K4 f0 u0 fs fp u pb nf nc sq → pb ≤ 180 * nf ∧ sq ≤ nc * RK ∧ (tcS c u → nf = 0 ∧ pb = 0 ∧ fp ≤ f0 + 204 * nc)
  | [], fp, u, pb, nf, nc, sq, h => by
    obtain ⟨h1, h2, h3, h4, h5, h6⟩ := h
    exact ⟨by omega, by rw [h6]; exact Nat.zero_le _, fun _ => ⟨h4, h3, by omega⟩⟩
  | q :: fs, fp, u, pb, nf, nc, sq, h => by
    obtain ⟨⟨bk, rb, z2, z3, a, b, s, f1, f2, f3, r⟩, w⟩ := h
    have z := FC_b fs _ _ _ _ _ _ w
    rcases r with ⟨k1, k2, k3, k4, k5, k6, k7, _⟩ | ⟨k1, k2, k3, k4, k5, k6, k7, k8, k9, k10⟩
    · exact ⟨by omega, by rw [k6, k7]; exact z.2.1, fun cs => absurd k1 cs.1⟩
    · have y := z.2.2 k2
      obtain ⟨k50, w5, ms5, k52, k53, _⟩ := k5
      have sl : fp = q.1 + 4 + w5 := by
        rw [k50, k53] at s
        exact (SL_0 s).1
      have y2 := z.2.1
      refine ⟨by omega, ?_, fun _ => ⟨by omega, by omega, by omega⟩⟩
      rw [k9, Nat.add_mul, Nat.one_mul]
      omega
theorem FC_B {c : Ct} {f0 u0 : Nat} : ∀ (fs : List FrT) (fp u pb nf nc sq : Nat), FC c K K4 f0 u0 fs fp u pb nf nc sq → (fp = f0 ∧ u = u0) ∨ f0 + 4 + tcF c u0 ≤ fp
  | [], fp, u, pb, nf, nc, sq, h => Or.inl ⟨h.1, h.2.1⟩
  | q :: fs, fp, u, pb, nf, nc, sq, h => by
    obtain ⟨⟨bk, rb, z2, z3, a, b, s, f1, r⟩, w⟩ := h
    have sl := SL_le _ _ _ s
    right
    rcases FC_B fs _ _ _ _ _ _ w with e | e
    · rw [← e.1, ← e.2]
      omega
    · omega
/-- what the program's own frame has: a head, then values -/
def KH : Nat → Option Int32 := fun j => if j < 4 then some mkC else none
theorem KH_n {j : Nat} (h : 4 ≤ j) : KH j = none := if_neg (by omega)
theorem KH_c {j : Nat} (h : j < 4) : KH j = some mkC := if_pos h
theorem KH_o (j : Nat) : KH j = none ∨ KH j = some mkC := by
  rcases Nat.lt_or_ge j 4 with h | h
  · exact Or.inr (KH_c h)
  · exact Or.inl (KH_n h)
/-- a point's stack, or a saved one's: between statements -/
def RUN (c : Ct) (K : Nat → Option Int32) (pc fp sp nc m : Nat) : Prop := ∃ (u d rk sq : Nat) (fs : List FrT) (ms : List Nat), (tcD c pc = some (u, m, (bsl + d) :: ms, rk) ∧ ∀ i, i ∈ ms → i < bsl) ∧ rk ≤ RK ∧ SL K (fp + 4) sp 0 ((bsl + d) :: ms) ∧ d ≤ 200 ∧ tcF c u ≤ d ∧ tcS c u ∧ u < 41 ∧ FC c K KN 0 0 fs fp u 0 0 nc sq ∧ nc ≤ 50 ∧ pc < 268435456 ∧ (4 + tcF c 0 ≤ sp ∧ ∀ j, j < 4 + tcF c 0 → K j = KH j)
theorem RUN_sp {c : Ct} {pc fp sp nc m : Nat} (h : RUN c K pc fp sp nc m) : sp ≤ 10404 ∧ fp + 4 ≤ sp := by
  obtain ⟨u, d, rk, sq, fs, ms, h1, h2, h3, h4, h5, h6, h7, h8, h9, h10⟩ := h
  have z := (FC_b fs _ _ _ _ _ _ h8).2.2 h6
  have e := (SL_0 h3).1
  omega
theorem RUN_eq {c : Ct} {pc fp sp nc m : Nat} (h : RUN c K pc fp sp nc m) (e : ∀ p, p < sp → K' p = K p) : RUN c K' pc fp sp nc m := by
  have q := RUN_sp h
  obtain ⟨u, d, rk, sq, fs, ms, h1, h2, h3, h4, h5, h6, h7, h8, h9, h10⟩ := h
  exact ⟨u, d, rk, sq, fs, ms, h1, h2, SL_eq _ _ _ (fun p _ h => e p h) h3, h4, h5, h6, h7, FC_k h8 (fun p hp => e p (by omega)) (fun _ _ => rfl), h9, h10.1, h10.2.1, fun j hj => (e j (by have := h10.2.1; omega)).trans (h10.2.2 j hj)⟩
/-- the points; N: no stack among them is longer -/
def POK (c : Ct) (K : Nat → Option Int32) (N : Nat) : Nat → Nat → Prop
  | 0, _ => True
  | n + 1, top => ∃ (off pc fp sp nc : Nat) (z4 z5 : Int32), top = off + sp + 6 ∧ (K (off + sp) = some (rwN pc) ∧ K (off + sp + 1) = some (rwN fp) ∧ K (off + sp + 2) = some (rwN sp) ∧ K (off + sp + 3) = some (rwN nc) ∧ K (off + sp + 4) = some z4 ∧ K (off + sp + 5) = some z5) ∧ (Rr z4 ∧ Rr z5 ∧ sp ≤ N) ∧ RUN c (fun j => K (off + j)) pc fp sp nc 1 ∧ POK c K N n off
theorem POK_eq {c : Ct} {N N' : Nat} (hN : N ≤ N') : ∀ (n top : Nat), (∀ p, p < top → K' p = K p) → POK c K N n top → POK c K' N' n top
  | 0, top, e, h => trivial
  | n + 1, top, e, h => by
    obtain ⟨off, pc, fp, sp, nc, z4, z5, h1, ⟨a0, a1, a2, a3, a4, a5⟩, h3, h4, h5⟩ := h
    exact ⟨off, pc, fp, sp, nc, z4, z5, h1, ⟨(e _ (by omega)).trans a0, (e _ (by omega)).trans a1, (e _ (by omega)).trans a2, (e _ (by omega)).trans a3, (e _ (by omega)).trans a4, (e _ (by omega)).trans a5⟩, ⟨h3.1, h3.2.1, by omega⟩, RUN_eq h4 (fun p hp => e _ (by omega)), POK_eq hN n off (fun p hp => e p (by omega)) h5⟩
end CSQ
end JnS379
section JnS380
/-! The class: what holds between instructions. -/
section CSR
variable {g g' g2 : Nat → Prop} {l l' l2 : List Nat} {t t' t2 : Nat} {σ σ' σ2 : CS} {L : LV} {x y i : Int32} {M M' U U' : Nat → Int32} {K K' K2 K3 K4 KB : Nat → Option Int32} {c : Ct} {B f0 u0 : Nat}
/-- the code as it lies in its rows -/
def CtL (c : Ct) (σ : CS) : Prop := ∃ b, sPr σ = some b ∧ σ.2.2.1 (pR0 (sKd σ b)) = tcC c ∧ sN σ (pR0 (sKd σ b)) = tcN c ∧ ∀ u, u < 42 → uN (σ.2.2.1 (pR13 b) u) = tcE c u ∧ uN (σ.2.2.1 (pR14 b) u) = tcP c u ∧ uN (σ.2.2.1 (pR18 b) u) = tcF c u
/-- rows that the machine writes -/
def rwM (k : Nat) : Prop := k = 1 ∨ k = 2 ∨ k = 3 ∨ (5 ≤ k ∧ k ≤ 11) ∨ k = 13 ∨ (15 ≤ k ∧ k ≤ 17) ∨ (20 ≤ k ∧ k ≤ 23) ∨ k = 26 ∨ k = 27 ∨ k = 67
/-- what the machine may write -/
def MFr (σ σ' : CS) : Prop := (∀ j, ¬ (j = 1 ∨ j = 404 ∨ j = 1203 ∨ (1800 ≤ j ∧ j < 1820) ∨ (1900 ≤ j ∧ j < 1917) ∨ (2400 ≤ j ∧ j < 2410) ∨ (2800 ≤ j ∧ j < 3700)) → σ'.1 j = σ.1 j) ∧ (∀ j, ¬ (j = 1916 ∨ (2800 ≤ j ∧ j < 3700)) → σ'.2.1 j = σ.2.1 j) ∧ (∀ k, ¬ rwM k → σ'.2.2.1 k = σ.2.2.1 k ∧ sN σ' k = sN σ k) ∧ σ'.2.2.2.1 = σ.2.2.2.1 ∧ σ'.2.2.2.2.2.1 = σ.2.2.2.2.2.1
theorem MFr_r (σ : CS) : MFr σ σ := ⟨fun _ _ => rfl, fun _ _ => rfl, fun _ _ => ⟨rfl, rfl⟩, rfl, rfl⟩
theorem MFr_t (a : MFr σ σ') (b : MFr σ' σ2) : MFr σ σ2 := ⟨fun j hj => (b.1 j hj).trans (a.1 j hj), fun j hj => (b.2.1 j hj).trans (a.2.1 j hj), fun k hk => ⟨((b.2.2.1 k hk).1).trans (a.2.2.1 k hk).1, ((b.2.2.1 k hk).2).trans (a.2.2.1 k hk).2⟩, b.2.2.2.1.trans a.2.2.2.1, b.2.2.2.2.trans a.2.2.2.2⟩
theorem CtL_M (h : CtL c σ) (f : MFr σ σ') : CtL c σ' := by
  obtain ⟨b, h1, h2, h3, h4⟩ := h
  have e : sKd σ' b = sKd σ b := by show σ'.2.2.2.2.2.1.2.2.2.2 b = σ.2.2.2.2.2.1.2.2.2.2 b; rw [f.2.2.2.2]
  have r0 : ¬ rwM (pR0 (sKd σ b)) := by unfold rwM pR0; cases sKd σ b <;> (show ¬ _; decide)
  have r13 : ¬ rwM (pR13 b) := by unfold rwM pR13; cases b <;> (show ¬ _; decide)
  have r14 : ¬ rwM (pR14 b) := by unfold rwM pR14; cases b <;> (show ¬ _; decide)
  have r18 : ¬ rwM (pR18 b) := by unfold rwM pR18; cases b <;> (show ¬ _; decide)
  refine ⟨b, ?_, ?_, ?_, fun u hu => ?_⟩
  · show σ'.2.2.2.2.2.1.2.2.1 = _
    rw [f.2.2.2.2]; exact h1
  · rw [e, (f.2.2.1 _ r0).1]; exact h2
  · rw [e, (f.2.2.1 _ r0).2]; exact h3
  · rw [(f.2.2.1 _ r13).1, (f.2.2.1 _ r14).1, (f.2.2.1 _ r18).1]; exact h4 u hu
/-- a saved run: where its fields are, where its rows begin -/
def SvR (c : Ct) (K : Nat → Option Int32) (σ : CS) (p s : Nat) : Prop := RUN c (fun j => K (s + j)) (uN (σ.1 (100 * (28 + p) + 0))) (uN (σ.1 (100 * (28 + p) + 1))) (uN (σ.1 (100 * (28 + p) + 2))) (uN (σ.1 (100 * (28 + p) + 8))) 0 ∧ (σ.1 (100 * (28 + p) + 7) = 0 ∧ uN (σ.1 (100 * (28 + p) + 5)) ≤ 60000) ∧ (uN (σ.1 (100 * (28 + p) + 13)) ≤ 44200 ∧ uN (σ.1 (100 * (28 + p) + 12)) ≤ 20 ∧ uN (σ.1 (100 * (28 + p) + 14)) ≤ 1000000 ∧ uN (σ.1 (100 * (28 + p) + 15)) ≤ 2000000000 ∧ uN (σ.1 (100 * (28 + p) + 2)) ≤ sN σ 20 ∧ uN (σ.1 (100 * (28 + p) + 13)) ≤ sN σ 21) ∧ POK c (fun j => K (s + uN (σ.1 (100 * (28 + p) + 2)) + j)) (sN σ 20) (uN (σ.1 (100 * (28 + p) + 12))) (uN (σ.1 (100 * (28 + p) + 13)))
/-- how many statements saved runs had begun -/
def SVB (σ : CS) : Prop := (∀ i, i < uN (σ.1 2404) → uN (σ.1 (100 * (28 + sPi σ i) + 3)) < uN (σ.1 2407) ∧ uN (σ.1 (100 * (28 + sPi σ i) + 3)) ≤ 10240000 ∧ ∀ k, i < k → k < uN (σ.1 2404) → uN (σ.1 (100 * (28 + sPi σ i) + 3)) < uN (σ.1 (100 * (28 + sPi σ k) + 3))) ∧ (¬ σ.1 2405 = 0 → uN (σ.1 (100 * (28 + sPi σ 8) + 3)) ≤ 10240000)
theorem SVB_e (h4 : uN (σ.1 2404) ≤ 8) (hp : ∀ i, i < 9 → sPi σ i < 9) (e1 : ∀ j, 2400 ≤ j → j < 3700 → σ'.1 j = σ.1 j) (e3 : ∀ i, sPi σ' i = sPi σ i) (h : SVB σ) : SVB σ' := by
  have e4 := e1 2404 (by decide) (by decide)
  have ef : ∀ i, i < 9 → σ'.1 (100 * (28 + sPi σ' i) + 3) = σ.1 (100 * (28 + sPi σ i) + 3) := fun i hi => by
    have p9 := hp i hi
    rw [e3, e1 _ (by omega) (by omega)]
  refine ⟨fun i hi => ?_, fun hn => ?_⟩
  · rw [e4] at hi
    have z := h.1 i hi
    rw [ef i (by omega), e1 2407 (by decide) (by decide)]
    refine ⟨z.1, z.2.1, fun k k1 k2 => ?_⟩
    rw [e4] at k2
    rw [ef k (by omega)]
    exact z.2.2 k k1 k2
  · rw [e1 2405 (by decide) (by decide)] at hn
    rw [ef 8 (by decide)]
    exact h.2 hn
/-- the saved runs -/
def SVK (c : Ct) (K : Nat → Option Int32) (σ : CS) : Prop := ((uN (σ.1 2404) ≤ 8 ∧ uN (σ.1 2403) ≤ 20000) ∧ SVB σ) ∧ (∀ i, i < 9 → sPi σ i < 9) ∧ (∀ i j, i < 9 → j < 9 → sPi σ i = sPi σ j → i = j) ∧ (∀ i, i < uN (σ.1 2404) → SvR c K σ (sPi σ i) (uN (σ.2.2.1 27 i)) ∧ uN (σ.2.2.1 27 i) + uN (σ.1 (100 * (28 + sPi σ i) + 2)) + uN (σ.1 (100 * (28 + sPi σ i) + 13)) ≤ uN (σ.1 2403) ∧ ∀ k, i < k → k < uN (σ.1 2404) → uN (σ.2.2.1 27 i) + uN (σ.1 (100 * (28 + sPi σ i) + 2)) + uN (σ.1 (100 * (28 + sPi σ i) + 13)) ≤ uN (σ.2.2.1 27 k)) ∧ (¬ σ.1 2405 = 0 → SvR c K σ (sPi σ 8) (uN (σ.1 2403)) ∧ uN (σ.2.2.1 27 8) = uN (σ.1 2403) ∧ uN (σ.1 2403) + uN (σ.1 (100 * (28 + sPi σ 8) + 2)) + uN (σ.1 (100 * (28 + sPi σ 8) + 13)) ≤ 20000)
/-- between instructions -/
def MIn (c : Ct) (g : Nat → Prop) (l : List Nat) (t : Nat) (K K2 K3 K4 : Nat → Option Int32) (B : Nat) (KB : Nat → Option Int32) (σ : CS) : Prop := HQ g l t σ ∧ VI g K K2 K3 K4 σ ∧ CtL c σ ∧ POK c K2 (sN σ 20) (uN (σ.1 1912)) (uN (σ.1 1913)) ∧ SVK c K3 σ ∧ (∀ j, j < B → K j = KB j) ∧ (4 + tcF c 0 ≤ B ∧ B ≤ uN (σ.1 1902)) ∧ uN (σ.1 1903) + uN (σ.1 1814) ≤ 10240000 ∧ uN (σ.1 1912) ≤ 20 ∧ uN (σ.1 1914) ≤ 1000000 ∧ uN (σ.1 1915) ≤ 2000000000
/-- a run's stack as its unit has it -/
def TyS (c : Ct) (K K4 : Nat → Option Int32) (f0 u0 : Nat) (σ : CS) (fs : List FrT) (u d : Nat) (r : List Nat) (pb nf nc sq : Nat) : Prop := SL K (uN (σ.1 1901) + 4) (uN (σ.1 1902)) d r ∧ FC c K K4 f0 u0 fs (uN (σ.1 1901)) u pb nf nc sq ∧ tcF c u ≤ bt d r ∧ (uN (σ.1 1815) = nf ∧ nf ≤ 20) ∧ uN (σ.1 1811) = pb ∧ (tcS c u0 → uN (σ.1 1908) = nc) ∧ nc ≤ 50 ∧ u < 42 ∧ PaM K4 pb 180 r
/-- it runs, with so much left in this statement -/
def RunT (c : Ct) (K K4 : Nat → Option Int32) (f0 u0 : Nat) (σ : CS) (q : Nat) : Prop := uN (σ.1 1905) ≤ 60000 ∧ ∃ (u d : Nat) (r : List Nat) (rk : Nat) (fs : List FrT) (pb nf nc sq : Nat), (TyS c K K4 f0 u0 σ fs u d r pb nf nc sq ∧ tcD c (uN (σ.1 1900)) = some (u, d, r, rk) ∧ q = (20 - nf) * (RK + 1) + sq + rk) ∨ ∃ (dd : Nat) (r0 : List Nat), (d = 0 ∧ r = (750000 + dd) :: r0 ∧ 2 ≤ dd ∧ dd < 250000) ∧ TyS c K K4 f0 u0 σ fs u d r pb nf nc sq ∧ tcD c (uN (σ.1 1900)) = some (u + 100, d, r, rk) ∧ (5 ≤ kdC (σ.2.2.1 3) (σ.2.2.1 20 (uN (σ.1 1902) - 3)) ∧ 2147483648 ≤ uN (σ.2.2.1 20 (uN (σ.1 1902) - 1))) ∧ q = (20 - nf) * (RK + 1) + sq + (rk - min (uN (σ.2.2.1 20 (uN (σ.1 1902) - 1)) % 268435456) 1000)
def QK : Nat := 150 * (RK + 1)
def mu (σ : CS) (q : Nat) : Nat := uN (σ.1 1814) * (60002 * QK) + (60000 - uN (σ.1 1905)) * QK + q
/-- what an exp that is asked leaves of the run -/
def EvF (σ σ' : CS) : Prop := ∀ j, 1903 ≤ j → j < 1914 → ¬ j = 1905 → σ'.1 j = σ.1 j
/-- why it stands -/
def Hz (P : Prop) (σ : CS) : Prop := ¬ σ.1 1813 = 0 ∨ (P ∧ σ.1 1907 = 1 ∧ uN (σ.1 1902) ≤ 10404)
/-- behind an instruction -/
def IO (c : Ct) (B : Nat) (KB : Nat → Option Int32) (f0 u0 : Nat) (σ : CS) (m : Nat) (r : RS) : Prop := r.1 = (0, 0) ∧ CoP σ r ∧ MFr σ r.2.1 ∧ (¬ tcS c u0 → EvF σ r.2.1) ∧ ∃ (g : Nat → Prop) (l : List Nat) (t : Nat) (K K2 K3 K4 : Nat → Option Int32), MIn c g l t K K2 K3 K4 B KB r.2.1 ∧ (r.2.1.1 1812 = 0 → ∃ q, RunT c K K4 f0 u0 r.2.1 q ∧ mu r.2.1 q < m) ∧ (¬ r.2.1.1 1812 = 0 → Hz (tcS c u0) r.2.1)
/-- where it goes on: a lower rank; or, where work is done, any -/
def NxD (c : Ct) (p u d : Nat) (r : List Nat) (rk : Nat) : Prop := ∃ (d' : Nat) (r' : List Nat), tcD c p = some (u, d', r', rk) ∧ Rsh d r d' r' ∧ tcF c u ≤ bt d' r'
def Nx (c : Ct) (p u d : Nat) (r : List Nat) (k : Nat) : Prop := ∃ rk, NxD c p u d r rk ∧ rk < k ∧ tcF c u ≤ bt d r
def NxS (c : Ct) (p u d : Nat) (r : List Nat) : Prop := ∃ rk, NxD c p u d r rk ∧ rk ≤ 72 * (RK + 1) ∧ tcF c u ≤ bt d r
/-- the machine's medium steps -/
def Md (σ σ' : CS) : Prop := (∀ j, ¬ (j = 1 ∨ j = 404 ∨ j = 1203 ∨ j = 1811 ∨ j = 1812 ∨ j = 1813 ∨ j = 1815 ∨ j = 1816 ∨ j = 1900 ∨ j = 1901 ∨ j = 1902 ∨ j = 1905) → σ'.1 j = σ.1 j) ∧ (∀ j, ¬ j = 1916 → σ'.2.1 j = σ.2.1 j) ∧ (∀ k, ¬ (k = 3 ∨ (5 ≤ k ∧ k ≤ 11) ∨ k = 13 ∨ (15 ≤ k ∧ k ≤ 17) ∨ k = 20 ∨ k = 22 ∨ k = 23) → σ'.2.2.1 k = σ.2.2.1 k) ∧ ((∀ k, ¬ (k = 20 ∨ k = 22) → sN σ' k = sN σ k) ∧ sN σ 20 ≤ sN σ' 20) ∧ σ'.2.2.2.1 = σ.2.2.2.1 ∧ σ'.2.2.2.2.2 = σ.2.2.2.2.2
theorem Md_r (σ : CS) : Md σ σ := ⟨fun _ _ => rfl, fun _ _ => rfl, fun _ _ => rfl, ⟨fun _ _ => rfl, Nat.le_refl _⟩, rfl, rfl⟩
theorem Md_t (a : Md σ σ') (b : Md σ' σ2) : Md σ σ2 := ⟨fun j hj => (b.1 j hj).trans (a.1 j hj), fun j hj => (b.2.1 j hj).trans (a.2.1 j hj), fun k hk => (b.2.2.1 k hk).trans (a.2.2.1 k hk), ⟨fun k hk => (b.2.2.2.1.1 k hk).trans (a.2.2.2.1.1 k hk), Nat.le_trans a.2.2.2.1.2 b.2.2.2.1.2⟩, b.2.2.2.2.1.trans a.2.2.2.2.1, b.2.2.2.2.2.trans a.2.2.2.2.2⟩
theorem Md_S (a : Sm σ σ') : Md σ σ' := ⟨fun j hj => a.1 j (by omega), fun j _ => by rw [a.2.1], fun k hk => a.2.2.1 k (by omega), ⟨fun k hk => a.2.2.2.1.1 k (by omega), a.2.2.2.1.2⟩, a.2.2.2.2.1, a.2.2.2.2.2⟩
theorem Md_i (σ : CS) {j : Nat} (hj : j = 1811 ∨ j = 1812 ∨ j = 1813 ∨ j = 1815 ∨ j = 1816 ∨ j = 1900 ∨ j = 1901 ∨ j = 1902 ∨ j = 1905) (x : Int32) : Md σ (uI σ j x) := ⟨fun i hi => upd_other (by omega), fun _ _ => rfl, fun _ _ => rfl, ⟨fun _ _ => rfl, Nat.le_refl _⟩, rfl, rfl⟩
theorem Md_A (σ : CS) {k : Nat} (hk : k = 20 ∨ k = 22 ∨ k = 23) (i : Nat) (x : Int32) : Md σ (uA σ k i x) := ⟨fun _ _ => rfl, fun _ _ => rfl, fun j hj => updG_other (by omega), ⟨fun _ _ => rfl, Nat.le_refl _⟩, rfl, rfl⟩
theorem Md_F (σ : CS) {k : Nat} (hk : k = 20 ∨ k = 22 ∨ k = 23) (f : Nat → Int32) : Md σ (uF σ k f) := ⟨fun _ _ => rfl, fun _ _ => rfl, fun j hj => updG_other (by omega), ⟨fun _ _ => rfl, Nat.le_refl _⟩, rfl, rfl⟩
theorem Md_M (a : Md σ σ') : MFr σ σ' := ⟨fun j hj => a.1 j (by omega), fun j hj => a.2.1 j (by omega), fun k hk => by
  unfold rwM at hk
  exact ⟨a.2.2.1 k (by omega), a.2.2.2.1.1 k (by omega)⟩, a.2.2.2.2.1, by rw [a.2.2.2.2.2]⟩
theorem Md_E (a : Md σ σ') : EvF σ σ' := fun j h1 h2 h3 => a.1 j (by omega)
theorem SVK_d (a : Md σ σ') (h : SVK c K3 σ) : SVK c K3 σ' := by
  have ep : ∀ i, sPi σ' i = sPi σ i := fun i => by show σ'.2.2.2.2.2.2 i = _; rw [a.2.2.2.2.2]
  have ef : ∀ p j, σ'.1 (100 * (28 + p) + j) = σ.1 (100 * (28 + p) + j) := fun p j => a.1 _ (by omega)
  have sv : ∀ p s, SvR c K3 σ p s → SvR c K3 σ' p s := by
    intro p s h
    unfold SvR
    rw [ef p 0, ef p 1, ef p 2, ef p 8, ef p 7, ef p 5, ef p 13, ef p 12, ef p 14, ef p 15, a.2.2.2.1.1 21 (by decide)]
    exact ⟨h.1, h.2.1, ⟨h.2.2.1.1, h.2.2.1.2.1, h.2.2.1.2.2.1, h.2.2.1.2.2.2.1, Nat.le_trans h.2.2.1.2.2.2.2.1 a.2.2.2.1.2, h.2.2.1.2.2.2.2.2⟩, POK_eq a.2.2.2.1.2 _ _ (fun _ _ => rfl) h.2.2.2⟩
  obtain ⟨h1, h2, h3, h4, h5⟩ := h
  refine ⟨?_, fun i hi => by rw [ep]; exact h2 i hi, fun i j hi hj e => ?_, fun i hi => ?_, fun hn => ?_⟩
  · exact ⟨by rw [a.1 2404 (by decide), a.1 2403 (by decide)]; exact h1.1, SVB_e h1.1.1 h2 (fun j _ _ => a.1 j (by omega)) ep h1.2⟩
  · rw [ep, ep] at e; exact h3 i j hi hj e
  · rw [a.1 2404 (by decide)] at hi
    have z := h4 i hi
    rw [ep, a.2.2.1 27 (by decide), ef, ef, a.1 2403 (by decide), a.1 2404 (by decide)]
    exact ⟨sv _ _ z.1, z.2⟩
  · rw [a.1 2405 (by decide)] at hn
    have z := h5 hn
    rw [ep, a.2.2.1 27 (by decide), ef, ef, a.1 2403 (by decide)]
    exact ⟨sv _ _ z.1, z.2⟩
/-- the same between instructions, where a medium step was taken -/
theorem MIn_d (h : MIn c g l t K K2 K3 K4 B KB σ) (a : Md σ σ') (hq : HQ g' l' t' σ') (v : VI g' K' K2 K3 K4 σ') (kb : ∀ j, j < B → K' j = KB j) (b : B ≤ uN (σ'.1 1902)) : MIn c g' l' t' K' K2 K3 K4 B KB σ' := by
  refine ⟨hq, v, CtL_M h.2.2.1 (Md_M a), ?_, SVK_d a h.2.2.2.2.1, kb, ⟨h.2.2.2.2.2.2.1.1, b⟩, ?_, ?_⟩
  · rw [a.1 1912 (by decide), a.1 1913 (by decide)]; exact POK_eq a.2.2.2.1.2 _ _ (fun _ _ => rfl) h.2.2.2.1
  · rw [a.1 1903 (by decide), a.1 1814 (by decide)]; exact h.2.2.2.2.2.2.2.1
  · rw [a.1 1912 (by decide), a.1 1914 (by decide), a.1 1915 (by decide)]; exact h.2.2.2.2.2.2.2.2
theorem VI_20 (v : VI g K K2 K3 K4 σ) (a : Md σ σ') (e23 : σ'.2.2.1 23 = σ.2.2.1 23) (s : (∀ p, g p → g' p) ∧ ∀ p, g p → σ'.2.2.1 3 p = σ.2.2.1 3 p) (h1 : uN (σ'.1 1902) ≤ sN σ' 20) (h2 : 1024 ≤ sN σ' 20 ∧ sN σ' 20 ≤ 91000) (h3 : Rwk g' (σ'.2.2.1 3) K' (σ'.2.2.1 20) (uN (σ'.1 1902))) : VI g' K' K2 K3 K4 σ' := by
  have p8 : sPi σ' 8 = sPi σ 8 := by show σ'.2.2.2.2.2.2 8 = _; rw [a.2.2.2.2.2]
  have us : usI σ' = usI σ := by
    unfold usI
    rw [p8, a.1 2405 (by decide), a.1 2403 (by decide), a.1 (100 * (28 + sPi σ 8) + 2) (by omega), a.1 (100 * (28 + sPi σ 8) + 13) (by omega)]
  refine ⟨⟨h1, h2, h3⟩, by rw [e23]; exact Rwk_g v.2.1 s, ?_, ?_, ?_, ?_, ?_, ?_⟩
  · rw [a.1 1913 (by decide), a.2.2.1 21 (by decide), a.2.2.2.1.1 21 (by decide)]
    exact ⟨v.2.2.1.1, v.2.2.1.2.1, Rwk_g v.2.2.1.2.2 s⟩
  · rw [a.2.2.1 67 (by decide)]; exact Rwk_g v.2.2.2.1 s
  · rw [p8]; exact v.2.2.2.2.1
  · rw [us, a.2.2.2.1.1 26 (by decide)]; exact v.2.2.2.2.2.1
  · rw [a.2.2.2.1.1 26 (by decide)]; exact v.2.2.2.2.2.2.1
  · rw [us, a.2.2.1 26 (by decide)]; exact Rwk_g v.2.2.2.2.2.2.2 s
/-- sizes are one at least -/
theorem c_sizeW (h : HQ g l t σ) (hv : Gw g (L.1 1)) : Tm (fun k => y_X1_size k 0 L σ) (fun r => r.2 = σ ∧ 1 ≤ uN r.1 ∧ uN r.1 < 1024) := by
  have a : Tm (fun k => y_X1_size k 2 L σ) (fun r => r.2 = σ ∧ 1 ≤ uN r.1 ∧ uN r.1 < 1024) := by
    refine Tm_suc (fun k => by rw [y_X1_size]) ?_
    refine Tm_suc (fun k => by rw [y_X1_size]) ?_
    exact Tm_some ⟨rfl, by show 1 ≤ uN 2; decide, by show uN 2 < 1024; decide⟩
  have b : Tm (fun k => y_X1_size k 3 L σ) (fun r => r.2 = σ ∧ 1 ≤ uN r.1 ∧ uN r.1 < 1024) := by
    refine Tm_suc (fun k => by rw [y_X1_size]) ?_
    refine Tm_suc (fun k => by rw [y_X1_size]) ?_
    exact Tm_some ⟨rfl, by show 1 ≤ uN 1; decide, by show uN 1 < 1024; decide⟩
  refine Tm_suc (fun k => by rw [y_X1_size]) ?_
  refine Tm_ite (fun c => ?_) (fun c => ?_)
  · refine Tm_suc (fun k => by rw [y_X1_size]) ?_
    refine Tm_ite (fun _ => a) (fun _ => Tm_ite (fun _ => Tm_ite (fun _ => b) (fun _ => a)) (fun _ => b))
  · rw [u_neg] at c
    refine Tm_chk (in_g h (Or.inr (Gw_c hv (by omega))) (by omega)) ?_
    have cg := (HQ_c h (Gw_c hv (by omega)).2).2.2.2.2.2.2.2.1.2
    refine Tm_some ⟨rfl, ?_, ?_⟩
    · show 1 ≤ uN _
      rw [e_siz, u_n (by unfold hdS; omega), u_cl (by omega)]
      exact cg
    · show uN _ < 1024
      rw [e_siz, u_n (by unfold hdS; omega)]
      exact Nat.mod_lt _ (by decide)
theorem c_size1 (h : HQ g l t σ) (hv : Gv g (L.1 1)) : Tm (fun k => y_X1_size k 0 L σ) (fun r => r.2 = σ ∧ 1 ≤ uN r.1 ∧ uN r.1 < 1024) := c_sizeW h (Or.inl hv)
/-- a value in the place of the top -/
def ReO (σ : CS) (x : Int32) (σ' : CS) : Prop := Sm σ σ' ∧ (σ'.1 1 = σ.1 1 ∧ σ'.2.2.1 3 = σ.2.2.1 3 ∧ σ'.2.2.2 = σ.2.2.2) ∧ σ'.1 1902 = σ.1 1902 ∧ ((σ'.2.2.1 20 = σ.2.2.1 20 ∧ σ'.1 1812 = 1 ∧ ¬ σ'.1 1813 = 0) ∨ (σ'.2.2.1 20 = upd (σ.2.2.1 20) (uN (σ.1 1902) - 1) x ∧ (True ∧ (σ'.1 1813 = σ.1 1813 ∨ ¬ σ'.1 1813 = 0)) ∧ ((σ'.1 1812 = 1 ∧ ¬ σ'.1 1813 = 0) ∨ (σ'.1 1812 = σ.1 1812 ∧ uN (σ.1 1905) < uN (σ'.1 1905) ∧ uN (σ'.1 1905) ≤ 60000))))
theorem spS_13 (σ : CS) (n : Int32) : (spS σ n).1 1813 = σ.1 1813 ∨ ¬ (spS σ n).1 1813 = 0 := by
  unfold spS
  split
  · exact Or.inl rfl
  · exact Or.inr (by show ¬ (11 : Int32) = 0; decide)
theorem spS_w {n : Int32} (h1 : 1 ≤ uN n) (h2 : uN n < 1024) (w : uN (σ.1 1905) ≤ 60000) : ((spS σ n).1 1812 = 1 ∧ ¬ (spS σ n).1 1813 = 0) ∨ ((spS σ n).1 1812 = σ.1 1812 ∧ uN (σ.1 1905) < uN ((spS σ n).1 1905) ∧ uN ((spS σ n).1 1905) ≤ 60000) := by
  have e : uN (σ.1 1905 + n) = uN (σ.1 1905) + uN n := u_add (by omega)
  have e6 : uN (60000 : Int32) = 60000 := rfl
  unfold spS
  split
  · rename_i c
    rw [u_le (by omega) (by decide), e, e6] at c
    right
    refine ⟨rfl, ?_, ?_⟩
    · show _ < uN (σ.1 1905 + n)
      omega
    · show uN (σ.1 1905 + n) ≤ _
      omega
  · left
    exact ⟨rfl, by show ¬ (11 : Int32) = 0; decide⟩
theorem nz_15 {x : Int32} (h : Rw x) : ¬ (x &&& 15) = 0 := by
  intro e
  have e' : uN (x &&& 15) = 0 := by rw [e]; rfl
  rw [u_and] at e'
  have z : uN x &&& 15 = uN x % 16 := Nat.and_two_pow_sub_one_eq_mod (uN x) 4
  have e2 : uN x &&& uN (15 : Int32) = 0 := e'
  have e3 : uN (15 : Int32) = 15 := rfl
  rw [e3, z] at e2
  exact h.2 e2
theorem c_replace (h : HQ g l t σ) (hx : Gv g (L.1 1)) (h1 : 1 ≤ uN (σ.1 1902)) (h2 : uN (σ.1 1902) ≤ sN σ 20) (h3 : sN σ 20 ≤ 91000) (w : uN (σ.1 1905) ≤ 60000) : Tm (fun k => y_X3_replace k 0 L σ) (fun r => ReO σ (L.1 1) r.2) := by
  have u1 : uN (1 : Int32) = 1 := rfl
  have es : uN (σ.1 1902 - 1) = uN (σ.1 1902) - 1 := by rw [u_sub (by omega), u1]
  refine Tm_suc (fun k => by rw [y_X3_replace]) ?_
  refine Tm_oc c_isError (fun r q => ?_)
  have e : r.2 = σ := q.1.1
  rw [e]
  refine Tm_ite (fun c0 => ?_) (fun c0 => ?_)
  · refine Tm_suc (fun k => by rw [y_X3_replace]) ?_
    refine Tm_chk (u_in (by omega) (by omega)) ?_
    refine Tm_oc (c_size1 (HQ_f h (k := 20) (by decide) _) hx) (fun r2 q2 => ?_)
    have e2 : r2.2 = uA σ 20 (σ.1 1902 - 1).toNatClampNeg (L.1 1) := q2.1
    rw [e2]
    refine Tm_oc c_spend (fun r3 e3 => ?_)
    rw [e3]
    refine Tm_suc (fun k => by rw [y_X3_replace]) ?_
    have s := spS_s (uA σ 20 (σ.1 1902 - 1).toNatClampNeg (L.1 1)) r2.1
    have z := spS_w (σ := uA σ 20 (σ.1 1902 - 1).toNatClampNeg (L.1 1)) q2.2.1 q2.2.2 w
    refine Tm_some ⟨Sm_t (Sm_20 σ _ _) (spS_m _ _), ⟨s.2.1, ?_, ?_⟩, s.2.2, Or.inr ⟨?_, ⟨trivial, spS_13 (uA σ 20 (σ.1 1902 - 1).toNatClampNeg (L.1 1)) r2.1⟩, z⟩⟩
    · show (spS (uA σ 20 (σ.1 1902 - 1).toNatClampNeg (L.1 1)) r2.1).2.2.1 3 = _
      rw [s.1]; rfl
    · show (spS (uA σ 20 (σ.1 1902 - 1).toNatClampNeg (L.1 1)) r2.1).2.2.2 = _
      rw [s.1]; rfl
    · show (spS (uA σ 20 (σ.1 1902 - 1).toNatClampNeg (L.1 1)) r2.1).2.2.1 20 = _
      rw [s.1, ← es, ← u_cl (x := σ.1 1902 - 1) (by omega)]
      rfl
  · refine Tm_oc c_fail (fun r2 e2 => ?_)
    rw [e2]
    refine Tm_suc (fun k => by rw [y_X3_replace]) ?_
    have er : Rr (L.1 1) := by
      rcases Nat.lt_or_ge (uN (L.1 1)) 4026531840 with y | y
      · exact absurd (q.2.2.2 (fun z => by have z' : 4026531840 ≤ uN (L.1 1) := z; omega)) c0
      · exact y
    refine Tm_some ⟨Sm_t (Sm_i σ (by decide) _) (Sm_i _ (by decide) _), ⟨rfl, rfl, rfl⟩, rfl, Or.inl ⟨rfl, rfl, ?_⟩⟩
    show ¬ (L.1 1 &&& 15) = 0
    exact nz_15 (er_of (Or.inl hx) er)
end CSR
end JnS380
section JnS381
/-! The class: how an instruction ends. -/
section CSS
variable {g g' g2 : Nat → Prop} {l l' l2 : List Nat} {t t' t2 : Nat} {σ σ' σ2 : CS} {L : LV} {x y i : Int32} {M M' U U' : Nat → Int32} {K K' K2 K3 K4 KB : Nat → Option Int32} {c : Ct} {B f0 u0 : Nat} {fs : List FrT} {u d : Nat} {r : List Nat} {pb nf nc sq rk : Nat}
/-- what is left in a statement -/
def qv (nf sq rk : Nat) : Nat := (20 - nf) * (RK + 1) + sq + rk
theorem bt_m (d n : Nat) : ∀ r : List Nat, bt d r ≤ bt (d + n) r
  | [] => by show d ≤ d + n; omega
  | e :: r => Nat.le_refl _
/-- before an instruction (its place is behind it already) -/
def Pre (c : Ct) (g : Nat → Prop) (l : List Nat) (t : Nat) (K K2 K3 K4 : Nat → Option Int32) (B : Nat) (KB : Nat → Option Int32) (f0 u0 : Nat) (σ : CS) (fs : List FrT) (u d : Nat) (r : List Nat) (pb nf nc sq : Nat) : Prop := MIn c g l t K K2 K3 K4 B KB σ ∧ TyS c K K4 f0 u0 σ fs u d r pb nf nc sq ∧ uN (σ.1 1905) ≤ 60000 ∧ σ.1 1812 = 0 ∧ ((B ≤ f0 + 3 ∧ ∀ j, j < 4 + tcF c 0 → KB j = KH j) ∨ ((∀ j, KB j = KH j) ∧ B ≤ f0 + 4 + tcF c u0))
theorem TyS_sp (h : TyS c K K4 f0 u0 σ fs u d r pb nf nc sq) : uN (σ.1 1901) + 4 + d ≤ uN (σ.1 1902) ∧ uN (σ.1 1901) + 4 + bt d r ≤ uN (σ.1 1902) ∧ f0 ≤ uN (σ.1 1901) := by
  have a := SL_le _ _ _ h.1
  have b := FC_f0 _ _ _ _ _ _ _ h.2.1
  exact ⟨by omega, by omega, b.1⟩
theorem TyS_B (h : TyS c K K4 f0 u0 σ fs u d r pb nf nc sq) : f0 + 4 + tcF c u0 ≤ uN (σ.1 1902) := by
  have a := SL_le _ _ _ h.1
  have b := h.2.2.1
  rcases FC_B _ _ _ _ _ _ _ h.2.1 with e | e
  · rw [← e.1, ← e.2]
    omega
  · omega
/-- the same fields, and the same places below -/
theorem TyS_k (h : TyS c K K4 f0 u0 σ fs u d r pb nf nc sq) (e : σ'.1 1901 = σ.1 1901 ∧ σ'.1 1815 = σ.1 1815 ∧ σ'.1 1811 = σ.1 1811 ∧ σ'.1 1908 = σ.1 1908) {d' : Nat} {r' : List Nat} (hs : SL K' (uN (σ.1 1901) + 4) (uN (σ'.1 1902)) d' r') (hk : ∀ p, p < uN (σ.1 1901) + 4 → K' p = K p) (hb : tcF c u ≤ bt d' r') (hp : PaM K4 pb 180 r') : TyS c K' K4 f0 u0 σ' fs u d' r' pb nf nc sq := by
  obtain ⟨h1, h2, h3, h4, h5, h6, h7⟩ := h
  unfold TyS
  rw [e.1, e.2.1, e.2.2.1, e.2.2.2]
  exact ⟨hs, FC_k h2 hk (fun _ _ => rfl), hb, h4, h5, h6, h7.1, h7.2.1, hp⟩
theorem qv_lt (h : TyS c K K4 f0 u0 σ fs u d r pb nf nc sq) (hr : rk ≤ 72 * (RK + 1)) : qv nf sq rk < QK := by
  have a := (FC_b _ _ _ _ _ _ _ h.2.1).2.1
  have n50 := h.2.2.2.2.2.2.1
  have e1 : nc * RK ≤ 50 * RK := Nat.mul_le_mul_right _ n50
  have e2 : (20 - nf) * (RK + 1) ≤ 20 * (RK + 1) := Nat.mul_le_mul_right _ (by omega)
  unfold qv QK
  unfold RK at *
  omega
theorem NxD_r {p : Nat} (h : tcD c p = some (u, d, r, rk)) (hb : tcF c u ≤ bt d r) : NxD c p u d r rk := ⟨d, r, h, Rsh_r d r, hb⟩
/-- another shape -/
theorem TyS_rs (h : TyS c K K4 f0 u0 σ fs u d r pb nf nc sq) {d' : Nat} {r' : List Nat} (hr : Rsh d r d' r') (hb : tcF c u ≤ bt d' r') : TyS c K K4 f0 u0 σ fs u d' r' pb nf nc sq := ⟨hr.1 _ _ _ h.1, h.2.1, hb, h.2.2.2.1, h.2.2.2.2.1, h.2.2.2.2.2.1, h.2.2.2.2.2.2.1, h.2.2.2.2.2.2.2.1, hr.2 _ _ _ h.2.2.2.2.2.2.2.2⟩
/-- it goes on, lower -/
theorem go_n (ty : TyS c K K4 f0 u0 σ' fs u d r pb nf nc sq) (w : uN (σ.1 1905) ≤ 60000) (e5 : σ'.1 1905 = σ.1 1905) (e4 : σ'.1 1814 = σ.1 1814) (n : Nx c (uN (σ'.1 1900)) u d r rk) : ∃ q, RunT c K K4 f0 u0 σ' q ∧ mu σ' q < mu σ (qv nf sq rk) := by
  obtain ⟨rk', ⟨d', r', h1, hr, hb⟩, h2, h3⟩ := n
  refine ⟨qv nf sq rk', ⟨by rw [e5]; exact w, u, d', r', rk', fs, pb, nf, nc, sq, Or.inl ⟨TyS_rs ty hr hb, h1, rfl⟩⟩, ?_⟩
  unfold mu qv
  rw [e5, e4]
  omega
/-- it goes on, work was done -/
theorem go_s (ty : TyS c K K4 f0 u0 σ' fs u d r pb nf nc sq) (e5 : uN (σ.1 1905) < uN (σ'.1 1905)) (w : uN (σ'.1 1905) ≤ 60000) (e4 : σ'.1 1814 = σ.1 1814) (n : NxS c (uN (σ'.1 1900)) u d r) (q0 : Nat) : ∃ q, RunT c K K4 f0 u0 σ' q ∧ mu σ' q < mu σ q0 := by
  obtain ⟨rk', ⟨d', r', h1, hr, hb⟩, h2, h3⟩ := n
  refine ⟨qv nf sq rk', ⟨w, u, d', r', rk', fs, pb, nf, nc, sq, Or.inl ⟨TyS_rs ty hr hb, h1, rfl⟩⟩, ?_⟩
  have z := qv_lt ty h2
  unfold mu
  rw [e4]
  have e : (60000 - uN (σ'.1 1905) + 1) * QK ≤ (60000 - uN (σ.1 1905)) * QK := Nat.mul_le_mul_right _ (by omega)
  rw [Nat.add_mul, Nat.one_mul] at e
  omega
/-- behind an instruction of medium steps -/
theorem IO_d (h : MIn c g l t K K2 K3 K4 B KB σ) {q : RS} {m : Nat} (e0 : q.1 = (0, 0)) (co : CoP σ q) (a : Md σ q.2.1) (hq : HQ g' l' t' q.2.1) (v : VI g' K' K2 K3 K4 q.2.1) (kb : ∀ j, j < B → K' j = KB j) (b : B ≤ uN (q.2.1.1 1902)) (run : q.2.1.1 1812 = 0 → ∃ z, RunT c K' K4 f0 u0 q.2.1 z ∧ mu q.2.1 z < m) (hz : ¬ q.2.1.1 1812 = 0 → Hz (tcS c u0) q.2.1) : IO c B KB f0 u0 σ m q :=
  ⟨e0, co, Md_M a, fun _ => Md_E a, g', l', t', K', K2, K3, K4, MIn_d h a hq v kb b, run, hz⟩
theorem Md_pc (e2 : σ'.2 = σ.2) (ej : ∀ j, ¬ j = 1900 → σ'.1 j = σ.1 j) : Md σ σ' := ⟨fun j hj => ej j (by omega), fun _ _ => by rw [e2], fun _ _ => by rw [e2], ⟨fun _ _ => by show σ'.2.2.2.2.1 _ = _; rw [e2], by show _ ≤ σ'.2.2.2.2.1 20; rw [e2]; exact Nat.le_refl _⟩, by rw [e2], by rw [e2]⟩
theorem VI_st (p : Pre c g l t K K2 K3 K4 B KB f0 u0 σ fs u d r pb nf nc sq) : uN (σ.1 1902) ≤ sN σ 20 ∧ (1024 ≤ sN σ 20 ∧ sN σ 20 ≤ 91000) ∧ Rwk g (σ.2.2.1 3) K (σ.2.2.1 20) (uN (σ.1 1902)) := p.1.2.1.1
/-- values were laid upon the stack; then the place was set -/
theorem pu_fin (p : Pre c g l t K K2 K3 K4 B KB f0 u0 σ fs u d r pb nf nc sq) (hx : Gv g x) {n : Nat} {q : RS} (h : PuO σ x n q) (e2 : σ'.2 = q.2.1.2) (ej : ∀ j, ¬ j = 1900 → σ'.1 j = q.2.1.1 j) (nx : Nx c (uN (σ'.1 1900)) u (d + n) r rk) : IO c B KB f0 u0 σ (mu σ (qv nf sq rk)) ((0, 0), σ', (q.2.2.1 + 0, q.2.2.2 + 0)) := by
  obtain ⟨mi, ty, w, h0, bo⟩ := p
  obtain ⟨st1, st2, st3⟩ := mi.2.1.1
  obtain ⟨h1, h2, h3, h4, h5, h6, h7⟩ := h
  have md : Md σ σ' := Md_t (Md_S h3) (Md_pc e2 ej)
  have ts := TyS_sp ty
  have r20 : σ'.2.2.1 20 = q.2.1.2.2.1 20 := by rw [e2]
  have n20 : sN σ' 20 = sN q.2.1 20 := by show σ'.2.2.2.2.1 20 = _; rw [e2]
  have hq : HQ g l t σ' := HQ_fs mi.1 (by rw [ej 1 (by decide)]; exact h4.1) (by rw [e2]; exact h4.2) (fun k hk => by
    show σ'.2.2.2.2.1 k = _
    rw [e2]; exact h3.2.2.2.1.1 k hk)
  have co : CoP σ ((0, 0), σ', (q.2.2.1 + 0, q.2.2.2 + 0)) := by
    have ph := Ph_s (σ := q.2.1) (σ' := σ') (by rw [e2])
    have c1 := h2.1
    have c2 := h2.2
    exact ⟨by show q.2.2.1 + 0 + PhC σ' ≤ _; omega, by show q.2.2.2 + 0 + PhS σ' ≤ _; omega⟩
  have e5 : σ'.1 1902 = q.2.1.1 1902 := ej 1902 (by decide)
  have b := mi.2.2.2.2.2.2.1.2
  have e23 : σ'.2.2.1 23 = σ.2.2.1 23 := by rw [e2, h3.2.2.1 23 (by decide)]
  have r3 : σ'.2.2.1 3 = σ.2.2.1 3 := by rw [e2]; exact h4.2
  have kb : ∀ j, j < B → Kw K (uN (σ.1 1902)) n none j = KB j := fun j hj => by rw [Kw_o (Or.inl (by omega))]; exact mi.2.2.2.2.2.1 j hj
  rcases h7 with ⟨a1, a2, a3, a4, a5, a6⟩ | ⟨a1, a2, a3, a4⟩
  · have rw1 : Rwk g (σ'.2.2.1 3) (Kw K (uN (σ.1 1902)) n none) (σ'.2.2.1 20) (uN (σ'.1 1902)) := by
      rw [e5, a1, r20, r3]
      intro j hj
      rcases Nat.lt_or_ge j (uN (σ.1 1902)) with z | z
      · rw [h6 j z, Kw_o (Or.inl z)]
        exact st3 j z
      · rw [a3 j z hj, Kw_i z hj]
        exact Rwn (hx)
    have v := VI_20 mi.2.1 md e23 ⟨fun _ z => z, fun p _ => by rw [r3]⟩ (by rw [e5, a1, n20]; exact a2) (by rw [n20]; exact h5) rw1
    refine IO_d mi rfl co md hq v kb (by rw [e5, a1]; omega) (fun _ => ?_) (fun z => absurd ((ej 1812 (by decide)).trans (a4.trans h0)) z)
    have fe : ∀ j, ¬ (j = 1 ∨ j = 404 ∨ j = 1203 ∨ j = 1812 ∨ j = 1813 ∨ j = 1902 ∨ j = 1905 ∨ j = 1900) → σ'.1 j = σ.1 j := fun j hj => (ej j (by omega)).trans (h3.1 j (by omega))
    have hs : SL (Kw K (uN (σ.1 1902)) n none) (uN (σ.1 1901) + 4) (uN (σ'.1 1902)) (d + n) r := by
      rw [e5, a1]; exact SL_pu n ty.1
    have nb : tcF c u ≤ bt (d + n) r := Nat.le_trans ty.2.2.1 (bt_m d n r)
    exact go_n (TyS_k ty ⟨fe 1901 (by decide), fe 1815 (by decide), fe 1811 (by decide), fe 1908 (by decide)⟩ hs (fun p hp => Kw_o (Or.inl (by omega))) nb ty.2.2.2.2.2.2.2.2) w ((ej 1905 (by decide)).trans a6) (fe 1814 (by decide)) nx
  · have rw1 : Rwk g (σ'.2.2.1 3) (Kw K (uN (σ.1 1902)) n none) (σ'.2.2.1 20) (uN (σ'.1 1902)) := by
      rw [e5, a1, r20, r3]
      intro j hj
      rw [h6 j hj, Kw_o (Or.inl hj)]
      exact st3 j hj
    have v := VI_20 mi.2.1 md e23 ⟨fun _ z => z, fun p _ => by rw [r3]⟩ (by rw [e5, a1, n20]; exact a2) (by rw [n20]; exact h5) rw1
    refine IO_d mi rfl co md hq v kb (by rw [e5, a1]; exact b) (fun z => ?_) (fun _ => Or.inl (by show ¬ σ'.1 1813 = 0; rw [ej 1813 (by decide)]; exact a4.2))
    have z1 : σ'.1 1812 = 0 := z
    rw [ej 1812 (by decide), a3] at z1
    exact absurd z1 (by decide)
/-- a value was given, with its work -/
def GiO (σ : CS) (x : Int32) (q : RS) : Prop := q.1 = (0, 0) ∧ CoP σ q ∧ Sm σ q.2.1 ∧ (q.2.1.1 1 = σ.1 1 ∧ q.2.1.2.2.1 3 = σ.2.2.1 3) ∧ (1024 ≤ sN q.2.1 20 ∧ sN q.2.1 20 ≤ 91000) ∧ ((uN (q.2.1.1 1902) = uN (σ.1 1902) + 1 ∧ uN (σ.1 1902) + 1 ≤ sN q.2.1 20 ∧ (∀ j, j < uN (σ.1 1902) → q.2.1.2.2.1 20 j = σ.2.2.1 20 j) ∧ ((q.2.1.2.2.1 20 (uN (σ.1 1902)) = x ∧ True) ∨ q.2.1.2.2.1 20 (uN (σ.1 1902)) = -2147483648) ∧ ((q.2.1.1 1812 = 1 ∧ ¬ q.2.1.1 1813 = 0) ∨ (q.2.1.1 1812 = σ.1 1812 ∧ uN (σ.1 1905) < uN (q.2.1.1 1905) ∧ uN (q.2.1.1 1905) ≤ 60000))) ∨ (q.2.1.1 1902 = σ.1 1902 ∧ uN (σ.1 1902) ≤ sN q.2.1 20 ∧ (∀ j, j + 1 < uN (σ.1 1902) → q.2.1.2.2.1 20 j = σ.2.2.1 20 j) ∧ ((q.2.1.2.2.1 20 (uN (σ.1 1902) - 1) = x ∧ True) ∨ q.2.1.2.2.1 20 (uN (σ.1 1902) - 1) = σ.2.2.1 20 (uN (σ.1 1902) - 1)) ∧ q.2.1.1 1812 = 1 ∧ ¬ q.2.1.1 1813 = 0))
theorem c_give (h : HQ g l t σ) (hx : Gv g (L.1 1)) (h1 : 1 ≤ uN (σ.1 1902)) (h2 : uN (σ.1 1902) ≤ sN σ 20) (h3 : 1024 ≤ sN σ 20 ∧ sN σ 20 ≤ 91000) (w : uN (σ.1 1905) ≤ 60000) : Tm (fun k => f_X3_give k 0 L σ) (GiO σ (L.1 1)) := by
  refine Tm_suc (fun k => by rw [f_X3_give]) ?_
  refine Tm_oxc (c_push h2 h3) (fun q p => by rw [p.1]) (fun q p => ?_)
  obtain ⟨p1, p2, p3, p4, p5, p6, p7⟩ := p
  have hq : HQ g l t q.2.1 := HQ_fs h p4.1 p4.2 p3.2.2.2.1.1
  have fin : ∀ (z : CS), ReO q.2.1 (L.1 1) z → CoP σ ((0, 0), z, (q.2.2.1 + 0, q.2.2.2 + 0)) ∧ Sm σ z ∧ (z.1 1 = σ.1 1 ∧ z.2.2.1 3 = σ.2.2.1 3) ∧ sN z 20 = sN q.2.1 20 := by
    intro z ⟨z1, z2, z3, z4⟩
    have ph := Ph_s (σ := q.2.1) (σ' := z) (by rw [z2.2.2])
    have c1 := p2.1
    have c2 := p2.2
    exact ⟨⟨by show q.2.2.1 + 0 + PhC z ≤ _; omega, by show q.2.2.2 + 0 + PhS z ≤ _; omega⟩, Sm_t p3 z1, ⟨z2.1.trans p4.1, z2.2.1.trans p4.2⟩, by show z.2.2.2.2.1 20 = _; rw [z2.2.2]⟩
  rcases p7 with ⟨a1, a2, a3, a4, a5, a6⟩ | ⟨a1, a2, a3, a5⟩
  · refine Tm_op (c_replace hq hx (by omega) (by omega) p5.2 (by rw [a6]; exact w)) (fun z zz => ?_)
    obtain ⟨f1, f2, f3, f4⟩ := fin z.2 zz
    obtain ⟨z1, z2, z3, z4⟩ := zz
    refine Tm_some ⟨rfl, f1, f2, f3, by show 1024 ≤ sN z.2 20 ∧ sN z.2 20 ≤ 91000; rw [f4]; exact p5, Or.inl ⟨?_, ?_, ?_, ?_, ?_⟩⟩
    · show uN (z.2.1 1902) = _
      rw [z3]; exact a1
    · show _ ≤ sN z.2 20
      rw [f4]; exact a2
    · intro j hj
      show z.2.2.2.1 20 j = _
      rcases z4 with ⟨b1, b2⟩ | ⟨b1, b3, b2⟩
      · rw [b1]; exact p6 j hj
      · rw [b1, upd_other (by omega)]; exact p6 j hj
    · show (z.2.2.2.1 20 _ = _ ∧ _) ∨ z.2.2.2.1 20 _ = _
      rcases z4 with ⟨b1, b2⟩ | ⟨b1, b3, b2⟩
      · right
        rw [b1]; exact a3 _ (Nat.le_refl _) (by omega)
      · left
        refine ⟨?_, b3.1⟩
        rw [b1, a1, show uN (σ.1 1902) + 1 - 1 = uN (σ.1 1902) from by omega]
        exact upd_same
    · show (z.2.1 1812 = 1 ∧ _) ∨ (z.2.1 1812 = _ ∧ _ < uN (z.2.1 1905) ∧ uN (z.2.1 1905) ≤ _)
      rcases z4 with ⟨b1, b2⟩ | ⟨b1, b3, b2 | b2⟩
      · exact Or.inl b2
      · exact Or.inl b2
      · right
        refine ⟨b2.1.trans a4, ?_, b2.2.2⟩
        rw [← a6]; exact b2.2.1
  · obtain ⟨a5, a6⟩ := a5
    -- the stack is full
    by_cases wk : uN (q.2.1.1 1905) ≤ 60000
    · refine Tm_op (c_replace hq hx (by rw [a1]; exact h1) (by rw [a1]; exact a2) p5.2 wk) (fun z zz => ?_)
      obtain ⟨f1, f2, f3, f4⟩ := fin z.2 zz
      obtain ⟨z1, z2, z3, z4⟩ := zz
      refine Tm_some ⟨rfl, f1, f2, f3, by show 1024 ≤ sN z.2 20 ∧ sN z.2 20 ≤ 91000; rw [f4]; exact p5, Or.inr ⟨?_, ?_, ?_, ?_, ?_, ?_⟩⟩
      · show z.2.1 1902 = _
        rw [z3]; exact a1
      · show _ ≤ sN z.2 20
        rw [f4]; exact a2
      · intro j hj
        show z.2.2.2.1 20 j = _
        rcases z4 with ⟨b1, b2⟩ | ⟨b1, b3, b2⟩
        · rw [b1]; exact p6 j (by omega)
        · rw [b1, a1, upd_other (by omega)]; exact p6 j (by omega)
      · show (z.2.2.2.1 20 _ = _ ∧ _) ∨ z.2.2.2.1 20 _ = _
        rcases z4 with ⟨b1, b2⟩ | ⟨b1, b3, b2⟩
        · right
          rw [b1]; exact p6 _ (by omega)
        · left
          refine ⟨?_, b3.1⟩
          rw [b1, a1]
          exact upd_same
      · show z.2.1 1812 = 1
        rcases z4 with ⟨b1, b2⟩ | ⟨b1, b3, b2 | b2⟩
        · exact b2.1
        · exact b2.1
        · rw [b2.1]; exact a3
      · show ¬ z.2.1 1813 = 0
        rcases z4 with ⟨b1, b2⟩ | ⟨b1, b3, b2 | b2⟩
        · exact b2.2
        · exact b2.2
        · rcases b3.2 with y | y
          · rw [y]; exact a6
          · exact y
    · exact absurd (by rw [show q.2.1.1 1905 = σ.1 1905 from a5]; exact w) wk
end CSS
end JnS381
section JnS382
/-! The class: steps within an instruction. -/
section CST
variable {g g' g2 : Nat → Prop} {l l' l2 : List Nat} {t t' t2 : Nat} {σ σ' σ2 : CS} {L : LV} {x y i : Int32} {M M' U U' : Nat → Int32} {K K' K2 K3 K4 KB : Nat → Option Int32} {c : Ct} {B f0 u0 : Nat} {fs : List FrT} {u d : Nat} {r : List Nat} {pb nf nc sq rk : Nat}
theorem gi_fin (p : Pre c g l t K K2 K3 K4 B KB f0 u0 σ fs u d r pb nf nc sq) (hx : Gv g x) {q : RS} (h : GiO σ x q) (e2 : σ'.2 = q.2.1.2) (ej : ∀ j, ¬ j = 1900 → σ'.1 j = q.2.1.1 j) (nx : NxS c (uN (σ'.1 1900)) u (d + 1) r) (q0 : Nat) : IO c B KB f0 u0 σ (mu σ q0) ((0, 0), σ', (q.2.2.1 + 0, q.2.2.2 + 0)) := by
  obtain ⟨mi, ty, w, h0, bo⟩ := p
  obtain ⟨st1, st2, st3⟩ := mi.2.1.1
  obtain ⟨h1, h2, h3, h4, h5, h7⟩ := h
  have md : Md σ σ' := Md_t (Md_S h3) (Md_pc e2 ej)
  have ts := TyS_sp ty
  have r20 : σ'.2.2.1 20 = q.2.1.2.2.1 20 := by rw [e2]
  have n20 : sN σ' 20 = sN q.2.1 20 := by show σ'.2.2.2.2.1 20 = _; rw [e2]
  have hq : HQ g l t σ' := HQ_fs mi.1 (by rw [ej 1 (by decide)]; exact h4.1) (by rw [e2]; exact h4.2) (fun k hk => by
    show σ'.2.2.2.2.1 k = _
    rw [e2]; exact h3.2.2.2.1.1 k hk)
  have co : CoP σ ((0, 0), σ', (q.2.2.1 + 0, q.2.2.2 + 0)) := by
    have ph := Ph_s (σ := q.2.1) (σ' := σ') (by rw [e2])
    have c1 := h2.1
    have c2 := h2.2
    exact ⟨by show q.2.2.1 + 0 + PhC σ' ≤ _; omega, by show q.2.2.2 + 0 + PhS σ' ≤ _; omega⟩
  have e5 : σ'.1 1902 = q.2.1.1 1902 := ej 1902 (by decide)
  have b := mi.2.2.2.2.2.2.1.2
  have e23 : σ'.2.2.1 23 = σ.2.2.1 23 := by rw [e2, h3.2.2.1 23 (by decide)]
  have r3 : σ'.2.2.1 3 = σ.2.2.1 3 := by rw [e2]; exact h4.2
  have fe : ∀ j, ¬ (j = 1 ∨ j = 404 ∨ j = 1203 ∨ j = 1812 ∨ j = 1813 ∨ j = 1902 ∨ j = 1905 ∨ j = 1900) → σ'.1 j = σ.1 j := fun j hj => (ej j (by omega)).trans (h3.1 j (by omega))
  rcases h7 with ⟨a1, a2, a3, a4, a5⟩ | ⟨a1, a2, a3, a4, a5⟩
  · have kb : ∀ j, j < B → Kw K (uN (σ.1 1902)) 1 none j = KB j := fun j hj => by rw [Kw_o (Or.inl (by omega))]; exact mi.2.2.2.2.2.1 j hj
    have rw1 : Rwk g (σ'.2.2.1 3) (Kw K (uN (σ.1 1902)) 1 none) (σ'.2.2.1 20) (uN (σ'.1 1902)) := by
      rw [e5, a1, r20, r3]
      intro j hj
      rcases Nat.lt_or_ge j (uN (σ.1 1902)) with z | z
      · rw [a3 j z, Kw_o (Or.inl z)]
        exact st3 j z
      · rw [Kw_i z hj, show j = uN (σ.1 1902) from by omega]
        refine Rwn ?_
        rcases a4 with e | e
        · rw [e.1]; exact hx
        · rw [e]; exact Gv_om g
    have v := VI_20 mi.2.1 md e23 ⟨fun _ z => z, fun p _ => by rw [r3]⟩ (by rw [e5, a1, n20]; exact a2) (by rw [n20]; exact h5) rw1
    refine IO_d mi rfl co md hq v kb (by show B ≤ uN (σ'.1 1902); rw [e5, a1]; omega) (fun z => ?_) (fun z => ?_)
    rotate_left
    · rcases a5 with z2 | z2
      · exact Or.inl (by show ¬ σ'.1 1813 = 0; rw [ej 1813 (by decide)]; exact z2.2)
      · exact absurd ((ej 1812 (by decide)).trans (z2.1.trans h0)) z
    have z1 : σ'.1 1812 = 0 := z
    rw [ej 1812 (by decide)] at z1
    rcases a5 with z2 | z2
    · rw [z2.1] at z1
      exact absurd z1 (by decide)
    · have hs : SL (Kw K (uN (σ.1 1902)) 1 none) (uN (σ.1 1901) + 4) (uN (σ'.1 1902)) (d + 1) r := by
        rw [e5, a1]; exact SL_pu 1 ty.1
      have nb : tcF c u ≤ bt (d + 1) r := Nat.le_trans ty.2.2.1 (bt_m d 1 r)
      have w5 := ej 1905 (by decide)
      exact go_s (TyS_k ty ⟨fe 1901 (by decide), fe 1815 (by decide), fe 1811 (by decide), fe 1908 (by decide)⟩ hs (fun p hp => Kw_o (Or.inl (by omega))) nb ty.2.2.2.2.2.2.2.2) (by rw [w5]; exact z2.2.1) (by rw [w5]; exact z2.2.2) (fe 1814 (by decide)) nx q0
  · have hzz : ¬ σ'.1 1812 = 0 → Hz (tcS c u0) σ' := fun _ => Or.inl (by show ¬ σ'.1 1813 = 0; rw [ej 1813 (by decide)]; exact a5.2)
    rcases a4 with e | e
    · obtain ⟨mk, m1, m2⟩ : ∃ mk : Option Int32, (mk = none ∨ mk = some mkC) ∧ (uN (σ.1 1902) - 1 < B → mk = KB (uN (σ.1 1902) - 1)) := by
        rcases bo with w | w
        · exact ⟨none, Or.inl rfl, fun z => absurd z (by omega)⟩
        · exact ⟨KB (uN (σ.1 1902) - 1), by rw [w.1]; exact KH_o _, fun _ => rfl⟩
      have kb : ∀ j, j < B → Kw K (uN (σ.1 1902) - 1) 1 mk j = KB j := by
        intro j hj
        by_cases z : j = uN (σ.1 1902) - 1
        · rw [Kw_i (by omega) (by omega), m2 (by omega), z]
        · rw [Kw_o (by omega)]
          exact mi.2.2.2.2.2.1 j hj
      have rw1 : Rwk g (σ'.2.2.1 3) (Kw K (uN (σ.1 1902) - 1) 1 mk) (σ'.2.2.1 20) (uN (σ'.1 1902)) := by
        rw [e5, a1, r20, r3]
        intro j hj
        by_cases z : j = uN (σ.1 1902) - 1
        · rw [Kw_i (by omega) (by omega), z, e.1]
          rcases m1 with m | m
          · rw [m]; exact Rwn hx
          · rw [m]; exact Rwc (Or.inl hx)
        · rw [Kw_o (by omega), a3 j (by omega)]
          exact st3 j hj
      have v := VI_20 mi.2.1 md e23 ⟨fun _ z => z, fun p _ => by rw [r3]⟩ (by rw [e5, a1, n20]; exact a2) (by rw [n20]; exact h5) rw1
      refine IO_d mi rfl co md hq v kb (by show B ≤ uN (σ'.1 1902); rw [e5, a1]; exact b) (fun z => ?_) hzz
      have z1 : σ'.1 1812 = 0 := z
      rw [ej 1812 (by decide), a5.1] at z1
      exact absurd z1 (by decide)
    · have rw1 : Rwk g (σ'.2.2.1 3) K (σ'.2.2.1 20) (uN (σ'.1 1902)) := by
        rw [e5, a1, r20, r3]
        intro j hj
        by_cases z : j = uN (σ.1 1902) - 1
        · rw [z, e]
          exact st3 _ (by omega)
        · rw [a3 j (by omega)]
          exact st3 j hj
      have v := VI_20 mi.2.1 md e23 ⟨fun _ z => z, fun p _ => by rw [r3]⟩ (by rw [e5, a1, n20]; exact a2) (by rw [n20]; exact h5) rw1
      refine IO_d mi rfl co md hq v mi.2.2.2.2.2.1 (by show B ≤ uN (σ'.1 1902); rw [e5, a1]; exact b) (fun z => ?_) hzz
      have z1 : σ'.1 1812 = 0 := z
      rw [ej 1812 (by decide), a5.1] at z1
      exact absurd z1 (by decide)
/-- a value in the place of the top; then the place was set -/
theorem re_fin (p : Pre c g l t K K2 K3 K4 B KB f0 u0 σ fs u d r pb nf nc sq) (hd : 1 ≤ d) (hx : Gv g x) (h : ReO σ x σ2) (e2 : σ'.2 = σ2.2) (ej : ∀ j, ¬ j = 1900 → σ'.1 j = σ2.1 j) (nx : NxS c (uN (σ'.1 1900)) u d r) (q0 : Nat) : IO c B KB f0 u0 σ (mu σ q0) ((0, 0), σ', (0, 0)) := by
  obtain ⟨mi, ty, w, h0, bo⟩ := p
  obtain ⟨st1, st2, st3⟩ := mi.2.1.1
  obtain ⟨h3, h4, h5, h7⟩ := h
  have md : Md σ σ' := Md_t (Md_S h3) (Md_pc e2 ej)
  have ts := TyS_sp ty
  have sz : σ'.2.2.2 = σ.2.2.2 := by rw [e2]; exact h4.2.2
  have r20 : σ'.2.2.1 20 = σ2.2.2.1 20 := by rw [e2]
  have n20 : sN σ' 20 = sN σ 20 := by show σ'.2.2.2.2.1 20 = _; rw [sz]
  have hq : HQ g l t σ' := HQ_fr mi.1 (by rw [ej 1 (by decide)]; exact h4.1) (by rw [e2]; exact h4.2.1) (by rw [sz])
  have e5 : σ'.1 1902 = σ.1 1902 := (ej 1902 (by decide)).trans h5
  have b := mi.2.2.2.2.2.2.1.2
  have e23 : σ'.2.2.1 23 = σ.2.2.1 23 := by rw [e2, h3.2.2.1 23 (by decide)]
  have r3 : σ'.2.2.1 3 = σ.2.2.1 3 := by rw [e2]; exact h4.2.1
  have fe : ∀ j, ¬ (j = 1 ∨ j = 404 ∨ j = 1203 ∨ j = 1812 ∨ j = 1813 ∨ j = 1902 ∨ j = 1905 ∨ j = 1900) → σ'.1 j = σ.1 j := fun j hj => (ej j (by omega)).trans (h3.1 j (by omega))
  have kt : K (uN (σ.1 1902) - 1) = none := SL_top _ _ _ ty.1 _ (by omega) (by omega)
  have rw1 : Rwk g (σ'.2.2.1 3) K (σ'.2.2.1 20) (uN (σ'.1 1902)) := by
    rw [e5, r20, r3]
    intro j hj
    rcases h7 with ⟨a1, a2⟩ | ⟨a1, a2⟩
    · rw [a1]; exact st3 j hj
    · rw [a1]
      by_cases z : j = uN (σ.1 1902) - 1
      · rw [z, upd_same, kt]
        exact Rwn hx
      · rw [upd_other z]; exact st3 j hj
  have v := VI_20 mi.2.1 md e23 ⟨fun _ z => z, fun p _ => by rw [r3]⟩ (by rw [e5, n20]; exact st1) (by rw [n20]; exact st2) rw1
  refine IO_d mi rfl (CoP_0 (by rw [sz])) md hq v mi.2.2.2.2.2.1 (by show B ≤ uN (σ'.1 1902); rw [e5]; exact b) (fun z => ?_) (fun z => ?_)
  rotate_left
  · rcases h7 with ⟨a1, a2⟩ | ⟨a1, a3, a2 | a2⟩
    · exact Or.inl (by show ¬ σ'.1 1813 = 0; rw [ej 1813 (by decide)]; exact a2.2)
    · exact Or.inl (by show ¬ σ'.1 1813 = 0; rw [ej 1813 (by decide)]; exact a2.2)
    · exact absurd ((ej 1812 (by decide)).trans (a2.1.trans h0)) z
  have z1 : σ'.1 1812 = 0 := z
  rw [ej 1812 (by decide)] at z1
  have go : uN (σ.1 1905) < uN (σ2.1 1905) → uN (σ2.1 1905) ≤ 60000 → ∃ z, RunT c K K4 f0 u0 σ' z ∧ mu σ' z < mu σ q0 := by
    intro g1 g2
    have w5 := ej 1905 (by decide)
    exact go_s (TyS_k ty ⟨fe 1901 (by decide), fe 1815 (by decide), fe 1811 (by decide), fe 1908 (by decide)⟩ (by rw [e5]; exact ty.1) (fun _ _ => rfl) ty.2.2.1 ty.2.2.2.2.2.2.2.2) (by rw [w5]; exact g1) (by rw [w5]; exact g2) (fe 1814 (by decide)) nx q0
  rcases h7 with ⟨a1, a2⟩ | ⟨a1, a3, a2 | a2⟩
  · rw [a2.1] at z1
    exact absurd z1 (by decide)
  · rw [a2.1] at z1
    exact absurd z1 (by decide)
  · exact go a2.2.1 a2.2.2
/-- nothing but fields; it goes on lower -/
theorem fl_fin (p : Pre c g l t K K2 K3 K4 B KB f0 u0 σ fs u d r pb nf nc sq) (e2 : σ'.2 = σ.2) (ej : ∀ j, ¬ j = 1900 → σ'.1 j = σ.1 j) (nx : Nx c (uN (σ'.1 1900)) u d r rk) : IO c B KB f0 u0 σ (mu σ (qv nf sq rk)) ((0, 0), σ', (0, 0)) := by
  obtain ⟨mi, ty, w, h0, bo⟩ := p
  have md := Md_pc e2 ej
  have e5 := ej 1902 (by decide)
  have hq : HQ g l t σ' := HQ_fr mi.1 (ej 1 (by decide)) (by rw [e2]) (by rw [e2])
  have v := VI_20 mi.2.1 md (by rw [e2]) ⟨fun _ z => z, fun p _ => by rw [e2]⟩ (K' := K) (by rw [e5]; show _ ≤ σ'.2.2.2.2.1 20; rw [e2]; exact mi.2.1.1.1) (by show 1024 ≤ σ'.2.2.2.2.1 20 ∧ σ'.2.2.2.2.1 20 ≤ _; rw [e2]; exact mi.2.1.1.2.1) (by rw [e5, e2]; exact mi.2.1.1.2.2)
  refine IO_d mi rfl (CoP_0 (by rw [e2])) md hq v mi.2.2.2.2.2.1 (by show B ≤ uN (σ'.1 1902); rw [e5]; exact mi.2.2.2.2.2.2.1.2) (fun _ => ?_) (fun z => absurd ((ej 1812 (by decide)).trans h0) z)
  exact go_n (TyS_k ty ⟨ej 1901 (by decide), ej 1815 (by decide), ej 1811 (by decide), ej 1908 (by decide)⟩ (by rw [e5]; exact ty.1) (fun _ _ => rfl) ty.2.2.1 ty.2.2.2.2.2.2.2.2) w (ej 1905 (by decide)) (ej 1814 (by decide)) nx
/-- the same, and it halts -/
theorem ha_fin (p : Pre c g l t K K2 K3 K4 B KB f0 u0 σ fs u d r pb nf nc sq) {m : Nat} (e2 : σ'.2 = σ.2) (ej : ∀ j, ¬ (j = 1900 ∨ j = 1812 ∨ j = 1813 ∨ j = 1905) → σ'.1 j = σ.1 j) (h1 : σ'.1 1812 = 1) (h13 : ¬ σ'.1 1813 = 0) : IO c B KB f0 u0 σ m ((0, 0), σ', (0, 0)) := by
  obtain ⟨mi, ty, w, h0, bo⟩ := p
  have md : Md σ σ' := ⟨fun j hj => ej j (by omega), fun _ _ => by rw [e2], fun _ _ => by rw [e2], ⟨fun _ _ => by show σ'.2.2.2.2.1 _ = _; rw [e2], by show _ ≤ σ'.2.2.2.2.1 20; rw [e2]; exact Nat.le_refl _⟩, by rw [e2], by rw [e2]⟩
  have e5 := ej 1902 (by decide)
  have hq : HQ g l t σ' := HQ_fr mi.1 (ej 1 (by decide)) (by rw [e2]) (by rw [e2])
  have v := VI_20 mi.2.1 md (by rw [e2]) ⟨fun _ z => z, fun p _ => by rw [e2]⟩ (K' := K) (by rw [e5]; show _ ≤ σ'.2.2.2.2.1 20; rw [e2]; exact mi.2.1.1.1) (by show 1024 ≤ σ'.2.2.2.2.1 20 ∧ σ'.2.2.2.2.1 20 ≤ _; rw [e2]; exact mi.2.1.1.2.1) (by rw [e5, e2]; exact mi.2.1.1.2.2)
  refine IO_d mi rfl (CoP_0 (by rw [e2])) md hq v mi.2.2.2.2.2.1 (by show B ≤ uN (σ'.1 1902); rw [e5]; exact mi.2.2.2.2.2.2.1.2) (fun z => ?_) (fun _ => Or.inl h13)
  have z1 : σ'.1 1812 = 0 := z
  rw [h1] at z1
  exact absurd z1 (by decide)
theorem f13 {σ : CS} {a : Int32} (h : ¬ a = 0) : ¬ (uI (uI σ 1813 a) 1812 1).1 1813 = 0 := h
/-- places are dropped -/
theorem Pre_dr (p : Pre c g l t K K2 K3 K4 B KB f0 u0 σ fs u d r pb nf nc sq) {d' n : Nat} (e : d = d' + n) (hx : uN x = n) (hb : tcF c u ≤ bt d' r) : Pre c g l t K K2 K3 K4 B KB f0 u0 (uI σ 1902 (σ.1 1902 - x)) fs u d' r pb nf nc sq ∧ uN (σ.1 1902 - x) = uN (σ.1 1902) - n := by
  obtain ⟨mi, ty, w, h0, bo⟩ := p
  subst e
  have ts := TyS_sp ty
  have es : uN (σ.1 1902 - x) = uN (σ.1 1902) - n := by rw [u_sub (by omega), hx]
  have sl := SL_pop _ _ _ _ ty.1
  have sb := (SL_le _ _ _ sl).1
  have e5 : (uI σ 1902 (σ.1 1902 - x)).1 1902 = σ.1 1902 - x := rfl
  have md : Md σ (uI σ 1902 (σ.1 1902 - x)) := Md_i σ (by decide) _
  obtain ⟨st1, st2, st3⟩ := mi.2.1.1
  have v := VI_20 (σ' := uI σ 1902 (σ.1 1902 - x)) mi.2.1 md rfl ⟨fun _ z => z, fun _ _ => rfl⟩ (K' := K) (by rw [e5, es]; show _ ≤ sN σ 20; omega) st2 (by rw [e5, es]; exact fun j hj => st3 j (by omega))
  have ty' : TyS c K K4 f0 u0 (uI σ 1902 (σ.1 1902 - x)) fs u d' r pb nf nc sq := TyS_k (σ' := uI σ 1902 (σ.1 1902 - x)) ty ⟨rfl, rfl, rfl, rfl⟩ (by rw [e5, es]; exact sl) (fun _ _ => rfl) hb ty.2.2.2.2.2.2.2.2
  have bb : B ≤ uN (σ.1 1902) - n := by
    rcases bo with z | z
    · omega
    · have y := TyS_B ty'
      rw [e5, es] at y
      omega
  exact ⟨⟨MIn_d mi md (HQ_fr mi.1 rfl rfl rfl) v mi.2.2.2.2.2.1 (by rw [e5, es]; exact bb), ty', w, h0, bo⟩, es⟩
/-- places given up, whatever they are -/
theorem Pre_dp (p : Pre c g l t K K2 K3 K4 B KB f0 u0 σ fs u d r pb nf nc sq) {d' : Nat} {r' : List Nat} (hd : Drp (uN x) d r d' r') (hb : tcF c u ≤ bt d' r') : Pre c g l t K K2 K3 K4 B KB f0 u0 (uI σ 1902 (σ.1 1902 - x)) fs u d' r' pb nf nc sq ∧ uN (σ.1 1902 - x) = uN (σ.1 1902) - uN x := by
  obtain ⟨mi, ty, w, h0, bo⟩ := p
  have ts := TyS_sp ty
  obtain ⟨hn, sl⟩ := hd.1 _ _ _ ty.1
  have es : uN (σ.1 1902 - x) = uN (σ.1 1902) - uN x := by rw [u_sub (by omega)]
  have sb := (SL_le _ _ _ sl).1
  have e5 : (uI σ 1902 (σ.1 1902 - x)).1 1902 = σ.1 1902 - x := rfl
  have md : Md σ (uI σ 1902 (σ.1 1902 - x)) := Md_i σ (by decide) _
  obtain ⟨st1, st2, st3⟩ := mi.2.1.1
  have v := VI_20 (σ' := uI σ 1902 (σ.1 1902 - x)) mi.2.1 md rfl ⟨fun _ z => z, fun _ _ => rfl⟩ (K' := K) (by rw [e5, es]; show _ ≤ sN σ 20; omega) st2 (by rw [e5, es]; exact fun j hj => st3 j (by omega))
  have ty' : TyS c K K4 f0 u0 (uI σ 1902 (σ.1 1902 - x)) fs u d' r' pb nf nc sq := TyS_k (σ' := uI σ 1902 (σ.1 1902 - x)) ty ⟨rfl, rfl, rfl, rfl⟩ (by rw [e5, es]; exact sl) (fun _ _ => rfl) hb (hd.2 _ _ _ ty.2.2.2.2.2.2.2.2)
  have bb : B ≤ uN (σ.1 1902) - uN x := by
    rcases bo with z | z
    · omega
    · have y := TyS_B ty'
      rw [e5, es] at y
      omega
  exact ⟨⟨MIn_d mi md (HQ_fr mi.1 rfl rfl rfl) v mi.2.2.2.2.2.1 (by rw [e5, es]; exact bb), ty', w, h0, bo⟩, es⟩
/-- what lies in a plain place is a value -/
theorem Ty_v (p : Pre c g l t K K2 K3 K4 B KB f0 u0 σ fs u d r pb nf nc sq) {q : Nat} (h1 : uN (σ.1 1902) ≤ q + d) (h2 : q < uN (σ.1 1902)) : Gv g (σ.2.2.1 20 q) := (p.1.2.1.1.2.2 q h2).2.1 (SL_top _ _ _ p.2.1.1 q h1 h2)
/-- an operator worked -/
theorem Pre_Ga (p : Pre c g l t K K2 K3 K4 B KB f0 u0 σ fs u d r pb nf nc sq) (a : Ga g t σ g' l' t' σ') : Pre c g' l' t' K K2 K3 K4 B KB f0 u0 σ' fs u d r pb nf nc sq := by
  obtain ⟨mi, ty, w, h0, bo⟩ := p
  obtain ⟨a1, a2, a3, a4, a5⟩ := a
  have md : Md σ σ' := Md_S (Sm_A a5)
  obtain ⟨st1, st2, st3⟩ := mi.2.1.1
  have e5 : σ'.1 1902 = σ.1 1902 := a5.1 1902 (by decide)
  have n20 : sN σ' 20 = sN σ 20 := by show σ'.2.2.2.2.1 20 = _; rw [a5.2.2.2]
  have v := VI_20 mi.2.1 md (a5.2.2.1 23 (by decide)) ⟨a2, fun p hp => a3 p (HQ_c mi.1 hp).1⟩ (K' := K) (by rw [e5, n20]; exact st1) (by rw [n20]; exact st2) (by rw [e5, a5.2.2.1 20 (by decide)]; exact Rwk_g st3 ⟨a2, fun p hp => a3 p (HQ_c mi.1 hp).1⟩)
  exact ⟨MIn_d mi md a1 v mi.2.2.2.2.2.1 (by rw [e5]; exact mi.2.2.2.2.2.2.1.2), TyS_k ty ⟨a5.1 1901 (by decide), a5.1 1815 (by decide), a5.1 1811 (by decide), a5.1 1908 (by decide)⟩ (by rw [e5]; exact ty.1) (fun _ _ => rfl) ty.2.2.1 ty.2.2.2.2.2.2.2.2, by rw [a5.1 1905 (by decide)]; exact w, by rw [a5.1 1812 (by decide)]; exact h0, bo⟩
/-- what lies above the stack's top doesn't matter -/
theorem Pre_f (p : Pre c g l t K K2 K3 K4 B KB f0 u0 σ fs u d r pb nf nc sq) {f : Nat → Int32} (hf : ∀ j, j < uN (σ.1 1902) → f j = σ.2.2.1 20 j) : Pre c g l t K K2 K3 K4 B KB f0 u0 (uF σ 20 f) fs u d r pb nf nc sq := by
  obtain ⟨mi, ty, w, h0, bo⟩ := p
  obtain ⟨st1, st2, st3⟩ := mi.2.1.1
  have md : Md σ (uF σ 20 f) := Md_F σ (by decide) f
  have v := VI_20 (σ' := uF σ 20 f) mi.2.1 md rfl ⟨fun _ z => z, fun _ _ => rfl⟩ (K' := K) st1 st2 (fun j hj => by
    have e := hf j hj
    show Gw g (f j) ∧ (K j = none → Gv g (f j)) ∧ ∀ v, K j = some v → (f j = v ∧ Rr v) ∨ (Mkd g (σ.2.2.1 3) v (f j))
    rw [e]; exact st3 j hj)
  exact ⟨MIn_d mi md (HQ_f mi.1 (by decide) f) v mi.2.2.2.2.2.1 mi.2.2.2.2.2.2.1.2, ty, w, h0, bo⟩
/-- fields that don't matter here -/
theorem Pre_i (p : Pre c g l t K K2 K3 K4 B KB f0 u0 σ fs u d r pb nf nc sq) {j : Nat} (hj : j = 1813 ∨ j = 1900 ∨ j = 1816) (x : Int32) : Pre c g l t K K2 K3 K4 B KB f0 u0 (uI σ j x) fs u d r pb nf nc sq := by
  obtain ⟨mi, ty, w, h0, bo⟩ := p
  obtain ⟨st1, st2, st3⟩ := mi.2.1.1
  have md : Md σ (uI σ j x) := Md_i σ (by omega) x
  have e : ∀ i, ¬ i = j → (uI σ j x).1 i = σ.1 i := fun i hi => upd_other hi
  have e5 := e 1902 (by omega)
  have v := VI_20 (σ' := uI σ j x) mi.2.1 md rfl ⟨fun _ z => z, fun _ _ => rfl⟩ (K' := K) (by rw [e5]; exact st1) st2 (by rw [e5]; exact st3)
  exact ⟨MIn_d mi md (HQ_fr mi.1 (e 1 (by omega)) rfl rfl) v mi.2.2.2.2.2.1 (by rw [e5]; exact mi.2.2.2.2.2.2.1.2), TyS_k ty ⟨e 1901 (by omega), e 1815 (by omega), e 1811 (by omega), e 1908 (by omega)⟩ (by rw [e5]; exact ty.1) (fun _ _ => rfl) ty.2.2.1 ty.2.2.2.2.2.2.2.2, by rw [e 1905 (by omega)]; exact w, by rw [e 1812 (by omega)]; exact h0, bo⟩
theorem IO_c {q : RS} {m : Nat} (a : MFr σ σ') (ev : EvF σ σ') (es : σ'.2.2.2.2.1 = σ.2.2.2.2.1) (h : IO c B KB f0 u0 σ' m q) : IO c B KB f0 u0 σ m q := by
  obtain ⟨h1, h2, h3, h4, h5⟩ := h
  have ph := Ph_s es
  exact ⟨h1, ⟨by rw [← ph.1]; exact h2.1, by rw [← ph.2]; exact h2.2⟩, MFr_t a h3, fun n j j1 j2 j3 => (h4 n j j1 j2 j3).trans (ev j j1 j2 j3), h5⟩
/-- behind steps that came first -/
theorem IO_b {q : RS} {m : Nat} (a : Md σ σ') (es : σ'.2.2.2.2.1 = σ.2.2.2.2.1) (h : IO c B KB f0 u0 σ' m q) : IO c B KB f0 u0 σ m q := by
  obtain ⟨h1, h2, h3, h4, h5⟩ := h
  have ph := Ph_s es
  exact ⟨h1, ⟨by rw [← ph.1]; exact h2.1, by rw [← ph.2]; exact h2.2⟩, MFr_t (Md_M a) h3, fun n j j1 j2 j3 => (h4 n j j1 j2 j3).trans (Md_E a j j1 j2 j3), h5⟩
theorem mu_e (e5 : σ'.1 1905 = σ.1 1905) (e4 : σ'.1 1814 = σ.1 1814) (q : Nat) : mu σ' q = mu σ q := by
  unfold mu
  rw [e5, e4]
end CST
end JnS382

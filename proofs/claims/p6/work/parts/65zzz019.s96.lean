/-! What working with values leaves as it is; a new object is good (reference). -/
def FW (t : Nat) (σ σ' : MS) : Prop :=
  (∀ j, ¬ (j = 55 ∨ j = 56 ∨ j = 59 ∨ (84 ≤ j ∧ j ≤ 90) ∨ j = 93 ∨ j = 100 ∨ j = 101) → σ'.1 j = σ.1 j) ∧
  (∀ j, ¬ (j = 28 ∨ j = 29 ∨ (41 ≤ j ∧ j ≤ 49) ∨ j = 51) → σ'.2.2 j = σ.2.2 j) ∧ (∀ i, i < t → σ'.2.2 29 i = σ.2.2 29 i)
theorem FW_rf {t : Nat} {σ : MS} : FW t σ σ := ⟨fun _ _ => rfl, fun _ _ => rfl, fun _ _ => rfl⟩
theorem FW_tr {t : Nat} {σ τ υ : MS} (h : FW t σ τ) (k : FW t τ υ) : FW t σ υ := ⟨fun j hj => (k.1 j hj).trans (h.1 j hj), fun j hj => (k.2.1 j hj).trans (h.2.1 j hj), fun i hi => (k.2.2 i hi).trans (h.2.2 i hi)⟩
theorem FW_mo {t t' : Nat} {σ τ : MS} (h : FW t σ τ) (ht : t' ≤ t) : FW t' σ τ := ⟨h.1, h.2.1, fun i hi => h.2.2 i (by omega)⟩
theorem FW_sc {t j : Nat} {σ : MS} {x : Int32} (hj : j = 55 ∨ j = 56 ∨ j = 59 ∨ (84 ≤ j ∧ j ≤ 90) ∨ j = 93 ∨ j = 100 ∨ j = 101) : FW t σ (mSc σ j x) := ⟨fun i hi => upd_other (fun e => hi (e ▸ hj)), fun _ _ => rfl, fun _ _ => rfl⟩
theorem FW_er {t : Nat} {σ : MS} {e : Int32} : FW t σ (mEr σ e) := ⟨fun i hi => mEr_s (by omega), fun _ _ => rfl, fun _ _ => rfl⟩
theorem FW_ar {t j i : Nat} {σ : MS} {x : Int32} (hj : j = 28 ∨ (41 ≤ j ∧ j ≤ 49) ∨ j = 51) : FW t σ (mAr σ j i x) := ⟨fun _ _ => rfl, fun k hk => mAr_o (by omega), fun _ _ => by rw [mAr_o (by omega)]⟩
theorem FW_pile {t i : Nat} {σ : MS} {x : Int32} (hi : t ≤ i) : FW t σ (mAr σ 29 i x) := ⟨fun _ _ => rfl, fun k hk => mAr_o (by omega), fun k hk => by rw [mAr_s, upd_other (by omega)]⟩
theorem FW_mk {t h n : Nat} {σ : MS} {k : Int32} : FW t σ (mMk σ h k n) := by
  unfold mMk
  exact FW_tr (FW_sc (Or.inl rfl)) (FW_tr (FW_ar (Or.inl rfl)) (FW_tr (FW_ar (Or.inl rfl)) (FW_tr (FW_ar (Or.inl rfl)) (FW_ar (Or.inl rfl)))))
/-- before a value is worked: room upon the pile -/
def VP (g : Nat → Prop) (l : List Nat) (B h t : Nat) (σ : MS) : Prop := HS g l B h σ ∧ σ.1 59 = nI t ∧ t ≤ 177000 ∧ ErB σ
/-- the heap has grown -/
def HG (g : Nat → Prop) (B h : Nat) (σ σ' : MS) (g' : Nat → Prop) (l' : List Nat) (h' : Nat) : Prop := HS g' l' B h' σ' ∧ (∀ v, g v → g' v) ∧ h ≤ h' ∧ (∀ i, B + 4 ≤ i → i < h → σ'.2.2 28 i = σ.2.2 28 i)
/-- behind it: a value, or an error -/
def VO (g : Nat → Prop) (B h t : Nat) (σ : MS) (r : Int32 × MS) : Prop := ∃ g' l' h', HG g B h σ r.2 g' l' h' ∧ FW t σ r.2 ∧ r.2.1 59 = nI t ∧ ErB r.2 ∧ (¬ σ.1 56 = 0 → ¬ r.2.1 56 = 0) ∧ Vd g' r.1
section VAL
variable {g : Nat → Prop} {l : List Nat} {B h t : Nat} {σ : MS}
theorem HG_rf (hS : HS g l B h σ) : HG g B h σ σ g l h := ⟨hS, fun _ z => z, Nat.le_refl _, fun _ _ _ => rfl⟩
theorem HG_tr {τ υ : MS} {g1 g2 : Nat → Prop} {l1 l2 : List Nat} {h1 h2 : Nat} (a : HG g B h σ τ g1 l1 h1) (b : HG g1 B h1 τ υ g2 l2 h2) : HG g B h σ υ g2 l2 h2 := ⟨b.1, fun v z => b.2.1 v (a.2.1 v z), Nat.le_trans a.2.2.1 b.2.2.1, fun i h1 h2 => (b.2.2.2 i h1 (Nat.lt_of_lt_of_le h2 a.2.2.1)).trans (a.2.2.2 i h1 h2)⟩
theorem Vd_mo {g' : Nat → Prop} {x : Int32} (h : Vd g x) (hg : ∀ v, g v → g' v) : Vd g' x := by
  obtain ⟨k, e, hk⟩ := h
  exact ⟨k, e, hk.imp id (hg k)⟩
theorem Vd_0 : Vd g 0 := ⟨0, rfl, Or.inl (by decide)⟩
theorem Vd_1 : Vd g 1 := ⟨1, rfl, Or.inl (by decide)⟩
theorem Vd_2 : Vd g 2 := ⟨2, rfl, Or.inl (by decide)⟩
/-- an error -/
theorem VO_er (hP : VP g l B h t σ) {e : Nat} (he : e ≤ 11) : VO g B h t σ (0, mEr σ (nI e)) := by
  refine ⟨g, l, h, ⟨HS_er hP.1 _, fun _ z => z, Nat.le_refl _, fun _ _ _ => rfl⟩, FW_er, (mEr_s (by decide)).trans hP.2.1, ErB_er hP.2.2.2 he, fun z => ?_, Vd_0⟩
  rw [mEr_56, if_neg z]; exact z
/-- a value that is there -/
theorem VO_id (hP : VP g l B h t σ) {x : Int32} (hx : Vd g x) : VO g B h t σ (x, σ) := ⟨g, l, h, HG_rf hP.1, FW_rf, hP.2.1, hP.2.2.2, fun z => z, hx⟩
/-- an object more -/
theorem HS_fin {τ : MS} {n : Nat} (hS : HS g l B h σ) (hn : h + 4 + n ≤ B + 870000) (h54 : τ.1 54 = σ.1 54) (h55 : τ.1 55 = nI (h + 4 + n)) (hag : ∀ i, B + 4 ≤ i → i < h → τ.2.2 28 i = σ.2.2 28 i) (hn1 : τ.2.2 28 (h + 1) = nI n) : HS g (l ++ [h]) B (h + 4 + n) τ := by
  have hb := HS_b hS
  obtain ⟨h1, h2, h3, h4, h5⟩ := hS
  exact ⟨h54.trans h1, h2, h55, hn, HO_ext hag h5 (by omega) (Til_snoc _ _ _ (Til_ext _ _ hag h5.1) hn1) (fun v hv => List.mem_append_left _ hv)⟩
theorem HS_good {τ : MS} {n k s u : Nat} (hS : HS g l B h σ) (hn : h + 4 + n ≤ B + 870000) (h54 : τ.1 54 = σ.1 54) (h55 : τ.1 55 = nI (h + 4 + n)) (hag : ∀ i, B + 4 ≤ i → i < h → τ.2.2 28 i = σ.2.2 28 i) (hG : GOn (τ.2.2 28) g h k n s u) : HG g B h σ τ (fun w => g w ∨ w = h) (l ++ [h]) (h + 4 + n) := by
  obtain ⟨h1, h2, h3, h4, h5⟩ := HS_fin hS hn h54 h55 hag hG.2.1
  exact ⟨⟨h1, h2, h3, h4, HO_add h5 (List.mem_append_right _ (List.mem_singleton.mpr rfl)) hG⟩, fun _ z => Or.inl z, by omega, hag⟩
/-- what lies below the heap is of no matter -/
theorem HS_lo {i : Nat} {x : Int32} (hS : HS g l B h σ) (hi : i < 4) : HG g B h σ (mAr σ 28 i x) g l h := by
  have hb := HS_b hS
  have hag : ∀ j, B + 4 ≤ j → j < h → (mAr σ 28 i x).2.2 28 j = σ.2.2 28 j := fun j h1 h2 => by rw [mAr_s, upd_other (by omega)]
  obtain ⟨h1, h2, h3, h4, h5⟩ := hS
  exact ⟨⟨h1, h2, h3, h4, HO_ext hag h5 (by omega) (Til_ext _ _ hag h5.1) (fun v hv => hv)⟩, fun _ z => z, Nat.le_refl _, hag⟩
theorem VO_tr {τ : MS} {g1 : Nat → Prop} {l1 : List Nat} {h1 : Nat} {r : Int32 × MS} (a : HG g B h σ τ g1 l1 h1) (hF : FW t σ τ) (he : ¬ σ.1 56 = 0 → ¬ τ.1 56 = 0) (b : VO g1 B h1 t τ r) : VO g B h t σ r := by
  obtain ⟨g2, l2, h2, b1, b2, b3, b4, b5, b6⟩ := b
  exact ⟨g2, l2, h2, HG_tr a b1, FW_tr hF b2, b3, b4, fun z => b5 (he z), b6⟩
end VAL

section JnS95
/-! Errors, work, room: objects are made (reference). -/
def mEr (σ : MS) (e : Int32) : MS := (upd σ.1 56 (if σ.1 56 = 0 then e else σ.1 56), σ.2.1, σ.2.2)
def mSc (σ : MS) (j : Nat) (x : Int32) : MS := (upd σ.1 j x, σ.2.1, σ.2.2)
def mMk (σ : MS) (h : Nat) (k : Int32) (n : Nat) : MS := mAr (mAr (mAr (mAr (mSc σ 55 (nI (h + (4 + n)))) 28 h k) 28 (h + 1) (nI n)) 28 (h + 2) 1) 28 (h + 3) 0
section MAK
variable {g : Nat → Prop} {l : List Nat} {B h : Nat} {σ : MS}
theorem s_fail (L : Nat → Int32) (σ : MS) : Tm (fun k => x_fail k 0 L σ) (fun r => r = (0, mEr σ (L 1))) := by
  unfold mEr
  refine Tm_suc (fun k => by rw [x_fail]) ?_
  refine Tm_ite (fun c => ?_) (fun c => ?_)
  · rw [if_pos c]
    refine Tm_suc (fun k => by rw [x_fail]) ?_
    exact Tm_some rfl
  · rw [if_neg c]
    refine Tm_suc (fun k => by rw [x_fail]) ?_
    refine Tm_suc (fun k => by rw [x_fail]) ?_
    exact Tm_some rfl
theorem mEr_s {e : Int32} {j : Nat} (hj : j ≠ 56) : (mEr σ e).1 j = σ.1 j := upd_other hj
theorem mEr_56 {e : Int32} : (mEr σ e).1 56 = if σ.1 56 = 0 then e else σ.1 56 := by
  show upd σ.1 56 (if σ.1 56 = 0 then e else σ.1 56) 56 = if σ.1 56 = 0 then e else σ.1 56
  exact upd_same
theorem mEr_e {e : Int32} (he : ¬ e = 0) : ¬ (mEr σ e).1 56 = 0 := by
  rw [mEr_56]
  by_cases c : σ.1 56 = 0
  · rw [if_pos c]; exact he
  · rw [if_neg c]; exact c
/-- errors are small -/
def ErB (σ : MS) : Prop := ∃ e, σ.1 56 = nI e ∧ e ≤ 11
theorem ErB_er (h : ErB σ) {e : Nat} (he : e ≤ 11) : ErB (mEr σ (nI e)) := by
  unfold ErB
  rw [mEr_56]
  by_cases c : σ.1 56 = 0
  · rw [if_pos c]; exact ⟨e, rfl, he⟩
  · rw [if_neg c]; exact h
theorem HS_c {τ : MS} (hS : HS g l B h σ) (h54 : τ.1 54 = σ.1 54) (h55 : τ.1 55 = σ.1 55) (h28 : τ.2.2 28 = σ.2.2 28) : HS g l B h τ := by
  obtain ⟨h1, h2, h3, h4, h5⟩ := hS
  exact ⟨h54.trans h1, h2, h55.trans h3, h4, by rw [h28]; exact h5⟩
theorem HS_er (hS : HS g l B h σ) (e : Int32) : HS g l B h (mEr σ e) := HS_c hS (mEr_s (by decide)) (mEr_s (by decide)) rfl
theorem mMk_s {k : Int32} {n j : Nat} (hj : j ≠ 55) : (mMk σ h k n).1 j = σ.1 j := upd_other hj
theorem mMk_o {k : Int32} {n j : Nat} (hj : j ≠ 28) : (mMk σ h k n).2.2 j = σ.2.2 j := by unfold mMk; rw [mAr_o hj, mAr_o hj, mAr_o hj, mAr_o hj]; rfl
theorem mMk_28 {k : Int32} {n : Nat} : (mMk σ h k n).2.2 28 = upd (upd (upd (upd (σ.2.2 28) h k) (h + 1) (nI n)) (h + 2) 1) (h + 3) 0 := by unfold mMk; rw [mAr_s, mAr_s, mAr_s, mAr_s]; rfl
theorem HS_mk {k : Int32} {n : Nat} (hS : HS g l B h σ) (hn : h + 4 + n ≤ B + 870000) : HS g (l ++ [h]) B (h + 4 + n) (mMk σ h k n) := by
  have hb := HS_b hS
  obtain ⟨h1, h2, h3, h4, h5⟩ := hS
  have he : ∀ i, B + 4 ≤ i → i < h → (mMk σ h k n).2.2 28 i = σ.2.2 28 i := fun i _ hi => by
    rw [mMk_28, upd_other (by omega), upd_other (by omega), upd_other (by omega), upd_other (by omega)]
  refine ⟨(mMk_s (by decide)).trans h1, h2, ?_, hn, HO_ext he h5 (by omega) (Til_snoc _ _ _ (Til_ext _ _ he h5.1) ?_) (fun v hv => List.mem_append_left _ hv)⟩
  · show upd σ.1 55 (nI (h + (4 + n))) 55 = nI (h + 4 + n)
    rw [upd_same, Nat.add_assoc]
  · rw [mMk_28, upd_other (by omega), upd_other (by omega), upd_same]
theorem s_make (hS : HS g l B h σ) {n : Nat} (hn : n ≤ 200000) {L : Nat → Int32} (h2 : L 2 = nI n) : Tm (fun k => x_make k 0 L σ) (fun r => (¬ h + 4 + n ≤ B + 870000 ∧ r = (0, mEr σ 5)) ∨ (h + 4 + n ≤ B + 870000 ∧ r = (nI h, mMk σ h (L 1) n))) := by
  have hb := HS_b hS
  obtain ⟨h54, hB, h55, hh, hO⟩ := hS
  refine Tm_suc (fun k => by rw [x_make]) ?_
  rw [h54, h55, h2, show nI h + 4 = nI (h + 4) from n_add (q := 4) (by omega), n_add (by omega), show nI B + 870000 = nI (B + 870000) from n_add (q := 870000) (by omega)]
  refine Tm_ite (fun c => ?_) (fun c => ?_)
  · have c := (n_le (by omega) (by omega)).mp c
    refine Tm_suc (fun k => by rw [x_make]) ?_
    rw [h55, h2, show (4 : Int32) + nI n = nI (4 + n) from n_add (p := 4) (by omega), n_add (by omega)]
    have n3 : upd L 3 (nI h) 3 = nI h := upd_same
    have n1 : upd L 3 (nI h) 1 = L 1 := upd_other (by decide)
    have n2 : upd L 3 (nI h) 2 = nI n := (upd_other (by decide)).trans h2
    show Tm (fun k => x_make k 2 (upd L 3 (nI h)) (mSc σ 55 (nI (h + (4 + n))))) _
    generalize upd L 3 (nI h) = N at n1 n2 n3
    refine Tm_suc (fun k => by rw [x_make]) ?_
    rw [n3]
    refine Tm_chk (n_in (by omega) (by omega)) ?_
    rw [n_cl (p := h) (by omega), n1]
    show Tm (fun k => x_make k 3 N (mAr (mSc σ 55 (nI (h + (4 + n)))) 28 h (L 1))) _
    refine Tm_suc (fun k => by rw [x_make]) ?_
    rw [n3, n_add1]
    refine Tm_chk (n_in (by omega) (by omega)) ?_
    rw [n_cl (p := h + 1) (by omega), n2]
    show Tm (fun k => x_make k 4 N (mAr (mAr (mSc σ 55 (nI (h + (4 + n)))) 28 h (L 1)) 28 (h + 1) (nI n))) _
    refine Tm_suc (fun k => by rw [x_make]) ?_
    rw [n3, show nI h + 2 = nI (h + 2) from n_add (q := 2) (by omega)]
    refine Tm_chk (n_in (by omega) (by omega)) ?_
    rw [n_cl (p := h + 2) (by omega)]
    refine Tm_suc (fun k => by rw [x_make]) ?_
    rw [n3, show nI h + 3 = nI (h + 3) from n_add (q := 3) (by omega)]
    refine Tm_chk (n_in (by omega) (by omega)) ?_
    rw [n_cl (p := h + 3) (by omega)]
    refine Tm_suc (fun k => by rw [x_make]) ?_
    rw [n3]
    exact Tm_some (Or.inr ⟨c, rfl⟩)
  · have c : ¬ h + 4 + n ≤ B + 870000 := fun z => c ((n_le (by omega) (by omega)).mpr z)
    refine Tm_ob (s_fail _ σ) (fun r hr => ?_)
    rw [hr]
    exact Tm_some (Or.inl ⟨c, rfl⟩)
end MAK
end JnS95
section JnS96
/-! What working with values leaves as it is; a new object is good (reference). -/
def FW (t : Nat) (σ σ' : MS) : Prop :=
  (∀ j, ¬ (j = 55 ∨ j = 56 ∨ j = 59 ∨ (84 ≤ j ∧ j ≤ 90) ∨ j = 93 ∨ j = 100 ∨ j = 101) → σ'.1 j = σ.1 j) ∧
  (∀ j, ¬ (j = 28 ∨ j = 29 ∨ (41 ≤ j ∧ j ≤ 49) ∨ j = 51) → σ'.2.2 j = σ.2.2 j) ∧ (∀ i, i < t → σ'.2.2 29 i = σ.2.2 29 i)
theorem FW_rf {t : Nat} {σ : MS} : FW t σ σ := ⟨fun _ _ => rfl, fun _ _ => rfl, fun _ _ => rfl⟩
theorem FW_tr {t : Nat} {σ τ υ : MS} (h : FW t σ τ) (k : FW t τ υ) : FW t σ υ := ⟨fun j hj => (k.1 j hj).trans (h.1 j hj), fun j hj => (k.2.1 j hj).trans (h.2.1 j hj), fun i hi => (k.2.2 i hi).trans (h.2.2 i hi)⟩
theorem FW_mo {t t' : Nat} {σ τ : MS} (h : FW t σ τ) (ht : t' ≤ t) : FW t' σ τ := ⟨h.1, h.2.1, fun i hi => h.2.2 i (by omega)⟩
theorem FW_sc {t j : Nat} {σ : MS} {x : Int32} (hj : j = 55 ∨ j = 56 ∨ j = 59 ∨ (84 ≤ j ∧ j ≤ 90) ∨ j = 93 ∨ j = 100 ∨ j = 101) : FW t σ (mSc σ j x) := ⟨fun i hi => upd_other (fun e => hi (e ▸ hj)), fun _ _ => rfl, fun _ _ => rfl⟩
theorem FW_er {t : Nat} {σ : MS} {e : Int32} : FW t σ (mEr σ e) := ⟨fun i hi => mEr_s (by omega), fun _ _ => rfl, fun _ _ => rfl⟩
theorem FW_ar {t j i : Nat} {σ : MS} {x : Int32} (hj : j = 28 ∨ (41 ≤ j ∧ j ≤ 49) ∨ j = 51) : FW t σ (mAr σ j i x) := ⟨fun _ _ => rfl, fun k hk => mAr_o (by omega), fun _ _ => by rw [mAr_o (by omega)]⟩
theorem FW_pile {t i : Nat} {σ : MS} {x : Int32} (hi : t ≤ i) : FW t σ (mAr σ 29 i x) := ⟨fun _ _ => rfl, fun k hk => mAr_o (by omega), fun k hk => by rw [mAr_s, upd_other (by omega)]⟩
theorem FW_mk {t h n : Nat} {σ : MS} {k : Int32} : FW t σ (mMk σ h k n) := by
  unfold mMk
  exact FW_tr (FW_sc (Or.inl rfl)) (FW_tr (FW_ar (Or.inl rfl)) (FW_tr (FW_ar (Or.inl rfl)) (FW_tr (FW_ar (Or.inl rfl)) (FW_ar (Or.inl rfl)))))
/-- before a value is worked: room upon the pile -/
def VP (g : Nat → Prop) (l : List Nat) (B h t : Nat) (σ : MS) : Prop := HS g l B h σ ∧ σ.1 59 = nI t ∧ t ≤ 177000 ∧ ErB σ
/-- the heap has grown -/
def HG (g : Nat → Prop) (B h : Nat) (σ σ' : MS) (g' : Nat → Prop) (l' : List Nat) (h' : Nat) : Prop := HS g' l' B h' σ' ∧ (∀ v, g v → g' v) ∧ h ≤ h' ∧ (∀ i, B + 4 ≤ i → i < h → σ'.2.2 28 i = σ.2.2 28 i)
/-- behind it: a value, or an error -/
def VO (g : Nat → Prop) (B h t : Nat) (σ : MS) (r : Int32 × MS) : Prop := ∃ g' l' h', HG g B h σ r.2 g' l' h' ∧ FW t σ r.2 ∧ r.2.1 59 = nI t ∧ ErB r.2 ∧ (¬ σ.1 56 = 0 → ¬ r.2.1 56 = 0) ∧ Vd g' r.1
section VAL
variable {g : Nat → Prop} {l : List Nat} {B h t : Nat} {σ : MS}
theorem HG_rf (hS : HS g l B h σ) : HG g B h σ σ g l h := ⟨hS, fun _ z => z, Nat.le_refl _, fun _ _ _ => rfl⟩
theorem HG_tr {τ υ : MS} {g1 g2 : Nat → Prop} {l1 l2 : List Nat} {h1 h2 : Nat} (a : HG g B h σ τ g1 l1 h1) (b : HG g1 B h1 τ υ g2 l2 h2) : HG g B h σ υ g2 l2 h2 := ⟨b.1, fun v z => b.2.1 v (a.2.1 v z), Nat.le_trans a.2.2.1 b.2.2.1, fun i h1 h2 => (b.2.2.2 i h1 (Nat.lt_of_lt_of_le h2 a.2.2.1)).trans (a.2.2.2 i h1 h2)⟩
theorem Vd_mo {g' : Nat → Prop} {x : Int32} (h : Vd g x) (hg : ∀ v, g v → g' v) : Vd g' x := by
  obtain ⟨k, e, hk⟩ := h
  exact ⟨k, e, hk.imp id (hg k)⟩
theorem Vd_0 : Vd g 0 := ⟨0, rfl, Or.inl (by decide)⟩
theorem Vd_1 : Vd g 1 := ⟨1, rfl, Or.inl (by decide)⟩
theorem Vd_2 : Vd g 2 := ⟨2, rfl, Or.inl (by decide)⟩
/-- an error -/
theorem VO_er (hP : VP g l B h t σ) {e : Nat} (he : e ≤ 11) : VO g B h t σ (0, mEr σ (nI e)) := by
  refine ⟨g, l, h, ⟨HS_er hP.1 _, fun _ z => z, Nat.le_refl _, fun _ _ _ => rfl⟩, FW_er, (mEr_s (by decide)).trans hP.2.1, ErB_er hP.2.2.2 he, fun z => ?_, Vd_0⟩
  rw [mEr_56, if_neg z]; exact z
/-- a value that is there -/
theorem VO_id (hP : VP g l B h t σ) {x : Int32} (hx : Vd g x) : VO g B h t σ (x, σ) := ⟨g, l, h, HG_rf hP.1, FW_rf, hP.2.1, hP.2.2.2, fun z => z, hx⟩
/-- an object more -/
theorem HS_fin {τ : MS} {n : Nat} (hS : HS g l B h σ) (hn : h + 4 + n ≤ B + 870000) (h54 : τ.1 54 = σ.1 54) (h55 : τ.1 55 = nI (h + 4 + n)) (hag : ∀ i, B + 4 ≤ i → i < h → τ.2.2 28 i = σ.2.2 28 i) (hn1 : τ.2.2 28 (h + 1) = nI n) : HS g (l ++ [h]) B (h + 4 + n) τ := by
  have hb := HS_b hS
  obtain ⟨h1, h2, h3, h4, h5⟩ := hS
  exact ⟨h54.trans h1, h2, h55, hn, HO_ext hag h5 (by omega) (Til_snoc _ _ _ (Til_ext _ _ hag h5.1) hn1) (fun v hv => List.mem_append_left _ hv)⟩
theorem HS_good {τ : MS} {n k s u : Nat} (hS : HS g l B h σ) (hn : h + 4 + n ≤ B + 870000) (h54 : τ.1 54 = σ.1 54) (h55 : τ.1 55 = nI (h + 4 + n)) (hag : ∀ i, B + 4 ≤ i → i < h → τ.2.2 28 i = σ.2.2 28 i) (hG : GOn (τ.2.2 28) g h k n s u) : HG g B h σ τ (fun w => g w ∨ w = h) (l ++ [h]) (h + 4 + n) := by
  obtain ⟨h1, h2, h3, h4, h5⟩ := HS_fin hS hn h54 h55 hag hG.2.1
  exact ⟨⟨h1, h2, h3, h4, HO_add h5 (List.mem_append_right _ (List.mem_singleton.mpr rfl)) hG⟩, fun _ z => Or.inl z, by omega, hag⟩
/-- what lies below the heap is of no matter -/
theorem HS_lo {i : Nat} {x : Int32} (hS : HS g l B h σ) (hi : i < 4) : HG g B h σ (mAr σ 28 i x) g l h := by
  have hb := HS_b hS
  have hag : ∀ j, B + 4 ≤ j → j < h → (mAr σ 28 i x).2.2 28 j = σ.2.2 28 j := fun j h1 h2 => by rw [mAr_s, upd_other (by omega)]
  obtain ⟨h1, h2, h3, h4, h5⟩ := hS
  exact ⟨⟨h1, h2, h3, h4, HO_ext hag h5 (by omega) (Til_ext _ _ hag h5.1) (fun v hv => hv)⟩, fun _ z => z, Nat.le_refl _, hag⟩
theorem VO_tr {τ : MS} {g1 : Nat → Prop} {l1 : List Nat} {h1 : Nat} {r : Int32 × MS} (a : HG g B h σ τ g1 l1 h1) (hF : FW t σ τ) (he : ¬ σ.1 56 = 0 → ¬ τ.1 56 = 0) (b : VO g1 B h1 t τ r) : VO g B h t σ r := by
  obtain ⟨g2, l2, h2, b1, b2, b3, b4, b5, b6⟩ := b
  exact ⟨g2, l2, h2, HG_tr a b1, FW_tr hF b2, b3, b4, fun z => b5 (he z), b6⟩
end VAL
end JnS96
section JnS97
/-! Strings are made (reference; written by strg.py). -/
section STR
variable {g : Nat → Prop} {l : List Nat} {B h t : Nat} {σ : MS}
theorem n_div {p q : Nat} (hp : p < 2147483648) (hq : 0 < q) (hq2 : q < 2147483648) : nI p / nI q = nI (p / q) := by
  rw [i_eq, Int32.toInt_div, n_int hp, n_int hq2, n_int (Nat.lt_of_le_of_lt (Nat.div_le_self p q) hp)]
  rw [Int.tdiv_eq_ediv_of_nonneg (by omega)]
  have h1 : ((p : Int) / (q : Int)) = ((p / q : Nat) : Int) := (Int.natCast_ediv p q).symm
  have h2 : p / q ≤ p := Nat.div_le_self p q
  rw [h1]
  generalize p / q = z at h2
  exact Int.bmod_eq_of_le (by omega) (by omega)
theorem n_str {n : Nat} (h : n < 2147483000) : (1 : Int32) + (nI n + 3) / 4 = nI (1 + (n + 3) / 4) := by
  rw [show nI n + 3 = nI (n + 3) from n_add (q := 3) (by omega), show nI (n + 3) / 4 = nI ((n + 3) / 4) from n_div (q := 4) (by omega) (by decide) (by decide)]
  exact n_add (p := 1) (by omega)
theorem s_stringOf51 (hP : VP g l B h t σ) {f n : Nat} (hn : n ≤ 60000) (hf : 1 + (n + 3) / 4 ≤ 1000 → f + n ≤ 8200) {L : Nat → Int32} (h2 : L 2 = nI f) (h3 : L 3 = nI n) : Tm (fun k => x_stringOf__51 k 0 L σ) (VO g B h t σ) := by
  have hb := HS_b hP.1
  have hB := hP.1.2.1
  have hdv : (1 : Int32) + (nI n + 3) / 4 = nI (1 + (n + 3) / 4) := n_str (by omega)
  refine Tm_suc (fun k => by rw [x_stringOf__51]) ?_
  refine Tm_chk0 (by decide) ?_
  rw [h3, hdv]
  refine Tm_ite (fun c => ?_) (fun c => ?_)
  case refine_2 =>
    refine Tm_ob (s_fail _ σ) (fun r hr => ?_)
    rw [hr]
    exact Tm_some (VO_er hP (e := 5) (by decide))
  have c := (n_le (q := 1000) (by omega) (by decide)).mp c
  have hf := hf c
  refine Tm_suc (fun k => by rw [x_stringOf__51]) ?_
  refine Tm_ob (s_make hP.1 (n := n) (by omega) (by exact h3)) (fun r hr => ?_)
  rcases hr with ⟨z, hr⟩ | ⟨z, hr⟩
  · -- no room
    rw [hr]
    have l4 : ∀ N : Nat → Int32, N 3 = nI n → N 4 = nI 0 → Tm (fun k => x_stringOf__51 k 4 N (mEr σ 5)) (VO g B h t σ) := fun N n3 n4 => by
      refine Tm_suc (fun k => by rw [x_stringOf__51]) ?_
      refine Tm_chk0 (by decide) ?_
      rw [n4, show nI 0 + 2 = nI 2 from n_add (p := 0) (q := 2) (by decide)]
      refine Tm_chk (n_in (by decide) (by decide)) ?_
      rw [n_cl (p := 2) (by decide), n3, hdv]
      show Tm (fun k => x_stringOf__51 k 5 N (mAr (mEr σ 5) 28 2 (nI (1 + (n + 3) / 4)))) _
      refine Tm_suc (fun k => by rw [x_stringOf__51]) ?_
      rw [n4]
      obtain ⟨g', l', h', e1, e2, e3, e4, e5, e6⟩ := VO_er hP (e := 5) (by decide)
      have lo := HS_lo (i := 2) (x := nI (1 + (n + 3) / 4)) (HS_er hP.1 5) (by decide)
      exact Tm_some ⟨g, l, h, ⟨lo.1, fun _ z => z, Nat.le_refl _, fun i h1 h2 => lo.2.2.2 i h1 h2⟩, FW_tr FW_er (FW_ar (Or.inl rfl)), e3, e4, e5, Vd_0⟩
    refine Tm_suc (fun k => by rw [x_stringOf__51]) ?_
    refine Tm_ite (fun _ => l4 _ h3 rfl) (fun _ => ?_)
    exact Tm_ite (fun y => absurd y (mEr_e (by decide))) (fun _ => l4 _ h3 rfl)
  · rw [hr]
    -- the end
    have l4 : ∀ (N : Nat → Int32) (τ : MS), N 3 = nI n → N 4 = nI h → FW t σ τ → τ.1 59 = σ.1 59 → τ.1 56 = σ.1 56 → τ.1 55 = nI (h + 4 + n) → τ.2.2 28 h = nI 4 → τ.2.2 28 (h + 1) = nI n → τ.2.2 28 (h + 3) = nI 0 → (∀ i, B + 4 ≤ i → i < h → τ.2.2 28 i = σ.2.2 28 i) → Tm (fun k => x_stringOf__51 k 4 N τ) (VO g B h t σ) := by
      intro N τ n3 n4 hF t59 t56 t55 th t1 t3 hag
      refine Tm_suc (fun k => by rw [x_stringOf__51]) ?_
      refine Tm_chk0 (by decide) ?_
      rw [n4, show nI h + 2 = nI (h + 2) from n_add (q := 2) (by omega)]
      refine Tm_chk (n_in (by omega) (by omega)) ?_
      rw [n_cl (p := h + 2) (by omega), n3, hdv]
      show Tm (fun k => x_stringOf__51 k 5 N (mAr τ 28 (h + 2) (nI (1 + (n + 3) / 4)))) _
      refine Tm_suc (fun k => by rw [x_stringOf__51]) ?_
      rw [n4]
      have u : ∀ j, j ≠ h + 2 → (mAr τ 28 (h + 2) (nI (1 + (n + 3) / 4))).2.2 28 j = τ.2.2 28 j := fun j hj => by rw [mAr_s, upd_other hj]
      have hG : GOn ((mAr τ 28 (h + 2) (nI (1 + (n + 3) / 4))).2.2 28) g h 4 n (1 + (n + 3) / 4) 0 := by
        refine ⟨by rw [u h (by omega)]; exact th, by rw [u (h + 1) (by omega)]; exact t1, by rw [mAr_s, upd_same], by rw [u (h + 3) (by omega)]; exact t3, by decide, by omega, by decide, by omega, fun z => absurd z (by decide), fun z => absurd z (by decide), fun _ => rfl, fun z => absurd z (by decide)⟩
      exact Tm_some ⟨_, _, _, HS_good hP.1 z (hF.1 54 (by decide)) t55 (fun i h1 h2 => by rw [u i (by omega)]; exact hag i h1 h2) hG, FW_tr hF (FW_ar (Or.inl rfl)), t59.trans hP.2.1, by unfold ErB; show ∃ e, τ.1 56 = nI e ∧ e ≤ 11; rw [t56]; exact hP.2.2.2, fun y => by show ¬ τ.1 56 = 0; rw [t56]; exact y, h, rfl, Or.inr (Or.inr rfl)⟩
    -- the bytes
    have l2 : ∀ (j i : Nat) (N : Nat → Int32) (τ : MS), j + i = n → N 2 = nI f → N 3 = nI n → N 4 = nI h → N 5 = nI i → FW t σ τ → τ.1 59 = σ.1 59 → τ.1 56 = σ.1 56 → τ.1 55 = nI (h + 4 + n) → τ.2.2 28 h = nI 4 → τ.2.2 28 (h + 1) = nI n → τ.2.2 28 (h + 3) = nI 0 → (∀ i, B + 4 ≤ i → i < h → τ.2.2 28 i = σ.2.2 28 i) → Tm (fun k => x_stringOf__51 k 2 N τ) (VO g B h t σ) := by
      intro j
      induction j with
      | zero =>
        intro i N τ hi n2 n3 n4 n5 hF t59 t56 t55 th t1 t3 hag
        refine Tm_suc (fun k => by rw [x_stringOf__51]) ?_
        rw [n3, n5]
        exact Tm_ite (fun _ => l4 N τ n3 n4 hF t59 t56 t55 th t1 t3 hag) (fun y => absurd ((n_le (by omega) (by omega)).mpr (by omega)) y)
      | succ j ih =>
        intro i N τ hi n2 n3 n4 n5 hF t59 t56 t55 th t1 t3 hag
        refine Tm_suc (fun k => by rw [x_stringOf__51]) ?_
        rw [n3, n5, n2, n4]
        refine Tm_ite (fun y => absurd ((n_le (by omega) (by omega)).mp y) (by omega)) (fun _ => ?_)
        refine Tm_ite (fun _ => ?_) (fun _ => l4 N τ n3 n4 hF t59 t56 t55 th t1 t3 hag)
        rw [n_add (by omega), show nI h + 4 = nI (h + 4) from n_add (q := 4) (by omega), n_add (by omega)]
        refine Tm_chk (n_in (by omega) (by omega)) ?_
        refine Tm_chk (n_in (by omega) (by omega)) ?_
        rw [n_cl (p := h + 4 + i) (by omega)]
        generalize τ.2.2 51 (nI (f + i)).toNatClampNeg = x
        show Tm (fun k => x_stringOf__51 k 3 N (mAr τ 28 (h + 4 + i) x)) _
        refine Tm_suc (fun k => by rw [x_stringOf__51]) ?_
        have u : ∀ j, j ≠ h + 4 + i → (mAr τ 28 (h + 4 + i) x).2.2 28 j = τ.2.2 28 j := fun j hj => by rw [mAr_s, upd_other hj]
        exact ih (i + 1) _ _ (by omega) n2 n3 n4 (by show N 5 + 1 = _; rw [n5, n_add1]) (FW_tr hF (FW_ar (Or.inl rfl))) t59 t56 t55 (by rw [u _ (by omega)]; exact th) (by rw [u _ (by omega)]; exact t1) (by rw [u _ (by omega)]; exact t3) (fun i h1 h2 => by rw [u _ (by omega)]; exact hag i h1 h2)
    refine l2 n 0 _ _ (by omega) h2 h3 rfl rfl FW_mk (mMk_s (by decide)) (mMk_s (by decide)) ?_ ?_ ?_ ?_ (fun i h1 h2 => ?_)
    · show nI (h + (4 + n)) = _
      rw [Nat.add_assoc]
    · rw [mMk_28, upd_other (by omega), upd_other (by omega), upd_other (by omega), upd_same]; rfl
    · rw [mMk_28, upd_other (by omega), upd_other (by omega), upd_same]
    · rw [mMk_28, upd_same]; rfl
    · rw [mMk_28, upd_other (by omega), upd_other (by omega), upd_other (by omega), upd_other (by omega)]
theorem s_stringOf48 (hP : VP g l B h t σ) {f n : Nat} (hn : n ≤ 60000) (hf : 1 + (n + 3) / 4 ≤ 1000 → f + n ≤ 12000) {L : Nat → Int32} (h2 : L 2 = nI f) (h3 : L 3 = nI n) : Tm (fun k => x_stringOf__48 k 0 L σ) (VO g B h t σ) := by
  have hb := HS_b hP.1
  have hB := hP.1.2.1
  have hdv : (1 : Int32) + (nI n + 3) / 4 = nI (1 + (n + 3) / 4) := n_str (by omega)
  refine Tm_suc (fun k => by rw [x_stringOf__48]) ?_
  refine Tm_chk0 (by decide) ?_
  rw [h3, hdv]
  refine Tm_ite (fun c => ?_) (fun c => ?_)
  case refine_2 =>
    refine Tm_ob (s_fail _ σ) (fun r hr => ?_)
    rw [hr]
    exact Tm_some (VO_er hP (e := 5) (by decide))
  have c := (n_le (q := 1000) (by omega) (by decide)).mp c
  have hf := hf c
  refine Tm_suc (fun k => by rw [x_stringOf__48]) ?_
  refine Tm_ob (s_make hP.1 (n := n) (by omega) (by exact h3)) (fun r hr => ?_)
  rcases hr with ⟨z, hr⟩ | ⟨z, hr⟩
  · -- no room
    rw [hr]
    have l4 : ∀ N : Nat → Int32, N 3 = nI n → N 4 = nI 0 → Tm (fun k => x_stringOf__48 k 4 N (mEr σ 5)) (VO g B h t σ) := fun N n3 n4 => by
      refine Tm_suc (fun k => by rw [x_stringOf__48]) ?_
      refine Tm_chk0 (by decide) ?_
      rw [n4, show nI 0 + 2 = nI 2 from n_add (p := 0) (q := 2) (by decide)]
      refine Tm_chk (n_in (by decide) (by decide)) ?_
      rw [n_cl (p := 2) (by decide), n3, hdv]
      show Tm (fun k => x_stringOf__48 k 5 N (mAr (mEr σ 5) 28 2 (nI (1 + (n + 3) / 4)))) _
      refine Tm_suc (fun k => by rw [x_stringOf__48]) ?_
      rw [n4]
      obtain ⟨g', l', h', e1, e2, e3, e4, e5, e6⟩ := VO_er hP (e := 5) (by decide)
      have lo := HS_lo (i := 2) (x := nI (1 + (n + 3) / 4)) (HS_er hP.1 5) (by decide)
      exact Tm_some ⟨g, l, h, ⟨lo.1, fun _ z => z, Nat.le_refl _, fun i h1 h2 => lo.2.2.2 i h1 h2⟩, FW_tr FW_er (FW_ar (Or.inl rfl)), e3, e4, e5, Vd_0⟩
    refine Tm_suc (fun k => by rw [x_stringOf__48]) ?_
    refine Tm_ite (fun _ => l4 _ h3 rfl) (fun _ => ?_)
    exact Tm_ite (fun y => absurd y (mEr_e (by decide))) (fun _ => l4 _ h3 rfl)
  · rw [hr]
    -- the end
    have l4 : ∀ (N : Nat → Int32) (τ : MS), N 3 = nI n → N 4 = nI h → FW t σ τ → τ.1 59 = σ.1 59 → τ.1 56 = σ.1 56 → τ.1 55 = nI (h + 4 + n) → τ.2.2 28 h = nI 4 → τ.2.2 28 (h + 1) = nI n → τ.2.2 28 (h + 3) = nI 0 → (∀ i, B + 4 ≤ i → i < h → τ.2.2 28 i = σ.2.2 28 i) → Tm (fun k => x_stringOf__48 k 4 N τ) (VO g B h t σ) := by
      intro N τ n3 n4 hF t59 t56 t55 th t1 t3 hag
      refine Tm_suc (fun k => by rw [x_stringOf__48]) ?_
      refine Tm_chk0 (by decide) ?_
      rw [n4, show nI h + 2 = nI (h + 2) from n_add (q := 2) (by omega)]
      refine Tm_chk (n_in (by omega) (by omega)) ?_
      rw [n_cl (p := h + 2) (by omega), n3, hdv]
      show Tm (fun k => x_stringOf__48 k 5 N (mAr τ 28 (h + 2) (nI (1 + (n + 3) / 4)))) _
      refine Tm_suc (fun k => by rw [x_stringOf__48]) ?_
      rw [n4]
      have u : ∀ j, j ≠ h + 2 → (mAr τ 28 (h + 2) (nI (1 + (n + 3) / 4))).2.2 28 j = τ.2.2 28 j := fun j hj => by rw [mAr_s, upd_other hj]
      have hG : GOn ((mAr τ 28 (h + 2) (nI (1 + (n + 3) / 4))).2.2 28) g h 4 n (1 + (n + 3) / 4) 0 := by
        refine ⟨by rw [u h (by omega)]; exact th, by rw [u (h + 1) (by omega)]; exact t1, by rw [mAr_s, upd_same], by rw [u (h + 3) (by omega)]; exact t3, by decide, by omega, by decide, by omega, fun z => absurd z (by decide), fun z => absurd z (by decide), fun _ => rfl, fun z => absurd z (by decide)⟩
      exact Tm_some ⟨_, _, _, HS_good hP.1 z (hF.1 54 (by decide)) t55 (fun i h1 h2 => by rw [u i (by omega)]; exact hag i h1 h2) hG, FW_tr hF (FW_ar (Or.inl rfl)), t59.trans hP.2.1, by unfold ErB; show ∃ e, τ.1 56 = nI e ∧ e ≤ 11; rw [t56]; exact hP.2.2.2, fun y => by show ¬ τ.1 56 = 0; rw [t56]; exact y, h, rfl, Or.inr (Or.inr rfl)⟩
    -- the bytes
    have l2 : ∀ (j i : Nat) (N : Nat → Int32) (τ : MS), j + i = n → N 2 = nI f → N 3 = nI n → N 4 = nI h → N 5 = nI i → FW t σ τ → τ.1 59 = σ.1 59 → τ.1 56 = σ.1 56 → τ.1 55 = nI (h + 4 + n) → τ.2.2 28 h = nI 4 → τ.2.2 28 (h + 1) = nI n → τ.2.2 28 (h + 3) = nI 0 → (∀ i, B + 4 ≤ i → i < h → τ.2.2 28 i = σ.2.2 28 i) → Tm (fun k => x_stringOf__48 k 2 N τ) (VO g B h t σ) := by
      intro j
      induction j with
      | zero =>
        intro i N τ hi n2 n3 n4 n5 hF t59 t56 t55 th t1 t3 hag
        refine Tm_suc (fun k => by rw [x_stringOf__48]) ?_
        rw [n3, n5]
        exact Tm_ite (fun _ => l4 N τ n3 n4 hF t59 t56 t55 th t1 t3 hag) (fun y => absurd ((n_le (by omega) (by omega)).mpr (by omega)) y)
      | succ j ih =>
        intro i N τ hi n2 n3 n4 n5 hF t59 t56 t55 th t1 t3 hag
        refine Tm_suc (fun k => by rw [x_stringOf__48]) ?_
        rw [n3, n5, n2, n4]
        refine Tm_ite (fun y => absurd ((n_le (by omega) (by omega)).mp y) (by omega)) (fun _ => ?_)
        refine Tm_ite (fun _ => ?_) (fun _ => l4 N τ n3 n4 hF t59 t56 t55 th t1 t3 hag)
        rw [n_add (by omega), show nI h + 4 = nI (h + 4) from n_add (q := 4) (by omega), n_add (by omega)]
        refine Tm_chk (n_in (by omega) (by omega)) ?_
        refine Tm_chk (n_in (by omega) (by omega)) ?_
        rw [n_cl (p := h + 4 + i) (by omega)]
        generalize τ.2.2 48 (nI (f + i)).toNatClampNeg = x
        show Tm (fun k => x_stringOf__48 k 3 N (mAr τ 28 (h + 4 + i) x)) _
        refine Tm_suc (fun k => by rw [x_stringOf__48]) ?_
        have u : ∀ j, j ≠ h + 4 + i → (mAr τ 28 (h + 4 + i) x).2.2 28 j = τ.2.2 28 j := fun j hj => by rw [mAr_s, upd_other hj]
        exact ih (i + 1) _ _ (by omega) n2 n3 n4 (by show N 5 + 1 = _; rw [n5, n_add1]) (FW_tr hF (FW_ar (Or.inl rfl))) t59 t56 t55 (by rw [u _ (by omega)]; exact th) (by rw [u _ (by omega)]; exact t1) (by rw [u _ (by omega)]; exact t3) (fun i h1 h2 => by rw [u _ (by omega)]; exact hag i h1 h2)
    refine l2 n 0 _ _ (by omega) h2 h3 rfl rfl FW_mk (mMk_s (by decide)) (mMk_s (by decide)) ?_ ?_ ?_ ?_ (fun i h1 h2 => ?_)
    · show nI (h + (4 + n)) = _
      rw [Nat.add_assoc]
    · rw [mMk_28, upd_other (by omega), upd_other (by omega), upd_other (by omega), upd_same]; rfl
    · rw [mMk_28, upd_other (by omega), upd_other (by omega), upd_same]
    · rw [mMk_28, upd_same]; rfl
    · rw [mMk_28, upd_other (by omega), upd_other (by omega), upd_other (by omega), upd_other (by omega)]
theorem s_stringOf28 (hP : VP g l B h t σ) {f n : Nat} (hn : n ≤ 60000) (hf : 1 + (n + 3) / 4 ≤ 1000 → f + n ≤ 1740000) {L : Nat → Int32} (h2 : L 2 = nI f) (h3 : L 3 = nI n) : Tm (fun k => x_stringOf__28 k 0 L σ) (VO g B h t σ) := by
  have hb := HS_b hP.1
  have hB := hP.1.2.1
  have hdv : (1 : Int32) + (nI n + 3) / 4 = nI (1 + (n + 3) / 4) := n_str (by omega)
  refine Tm_suc (fun k => by rw [x_stringOf__28]) ?_
  refine Tm_chk0 (by decide) ?_
  rw [h3, hdv]
  refine Tm_ite (fun c => ?_) (fun c => ?_)
  case refine_2 =>
    refine Tm_ob (s_fail _ σ) (fun r hr => ?_)
    rw [hr]
    exact Tm_some (VO_er hP (e := 5) (by decide))
  have c := (n_le (q := 1000) (by omega) (by decide)).mp c
  have hf := hf c
  refine Tm_suc (fun k => by rw [x_stringOf__28]) ?_
  refine Tm_ob (s_make hP.1 (n := n) (by omega) (by exact h3)) (fun r hr => ?_)
  rcases hr with ⟨z, hr⟩ | ⟨z, hr⟩
  · -- no room
    rw [hr]
    have l4 : ∀ N : Nat → Int32, N 3 = nI n → N 4 = nI 0 → Tm (fun k => x_stringOf__28 k 4 N (mEr σ 5)) (VO g B h t σ) := fun N n3 n4 => by
      refine Tm_suc (fun k => by rw [x_stringOf__28]) ?_
      refine Tm_chk0 (by decide) ?_
      rw [n4, show nI 0 + 2 = nI 2 from n_add (p := 0) (q := 2) (by decide)]
      refine Tm_chk (n_in (by decide) (by decide)) ?_
      rw [n_cl (p := 2) (by decide), n3, hdv]
      show Tm (fun k => x_stringOf__28 k 5 N (mAr (mEr σ 5) 28 2 (nI (1 + (n + 3) / 4)))) _
      refine Tm_suc (fun k => by rw [x_stringOf__28]) ?_
      rw [n4]
      obtain ⟨g', l', h', e1, e2, e3, e4, e5, e6⟩ := VO_er hP (e := 5) (by decide)
      have lo := HS_lo (i := 2) (x := nI (1 + (n + 3) / 4)) (HS_er hP.1 5) (by decide)
      exact Tm_some ⟨g, l, h, ⟨lo.1, fun _ z => z, Nat.le_refl _, fun i h1 h2 => lo.2.2.2 i h1 h2⟩, FW_tr FW_er (FW_ar (Or.inl rfl)), e3, e4, e5, Vd_0⟩
    refine Tm_suc (fun k => by rw [x_stringOf__28]) ?_
    refine Tm_ite (fun _ => l4 _ h3 rfl) (fun _ => ?_)
    exact Tm_ite (fun y => absurd y (mEr_e (by decide))) (fun _ => l4 _ h3 rfl)
  · rw [hr]
    -- the end
    have l4 : ∀ (N : Nat → Int32) (τ : MS), N 3 = nI n → N 4 = nI h → FW t σ τ → τ.1 59 = σ.1 59 → τ.1 56 = σ.1 56 → τ.1 55 = nI (h + 4 + n) → τ.2.2 28 h = nI 4 → τ.2.2 28 (h + 1) = nI n → τ.2.2 28 (h + 3) = nI 0 → (∀ i, B + 4 ≤ i → i < h → τ.2.2 28 i = σ.2.2 28 i) → Tm (fun k => x_stringOf__28 k 4 N τ) (VO g B h t σ) := by
      intro N τ n3 n4 hF t59 t56 t55 th t1 t3 hag
      refine Tm_suc (fun k => by rw [x_stringOf__28]) ?_
      refine Tm_chk0 (by decide) ?_
      rw [n4, show nI h + 2 = nI (h + 2) from n_add (q := 2) (by omega)]
      refine Tm_chk (n_in (by omega) (by omega)) ?_
      rw [n_cl (p := h + 2) (by omega), n3, hdv]
      show Tm (fun k => x_stringOf__28 k 5 N (mAr τ 28 (h + 2) (nI (1 + (n + 3) / 4)))) _
      refine Tm_suc (fun k => by rw [x_stringOf__28]) ?_
      rw [n4]
      have u : ∀ j, j ≠ h + 2 → (mAr τ 28 (h + 2) (nI (1 + (n + 3) / 4))).2.2 28 j = τ.2.2 28 j := fun j hj => by rw [mAr_s, upd_other hj]
      have hG : GOn ((mAr τ 28 (h + 2) (nI (1 + (n + 3) / 4))).2.2 28) g h 4 n (1 + (n + 3) / 4) 0 := by
        refine ⟨by rw [u h (by omega)]; exact th, by rw [u (h + 1) (by omega)]; exact t1, by rw [mAr_s, upd_same], by rw [u (h + 3) (by omega)]; exact t3, by decide, by omega, by decide, by omega, fun z => absurd z (by decide), fun z => absurd z (by decide), fun _ => rfl, fun z => absurd z (by decide)⟩
      exact Tm_some ⟨_, _, _, HS_good hP.1 z (hF.1 54 (by decide)) t55 (fun i h1 h2 => by rw [u i (by omega)]; exact hag i h1 h2) hG, FW_tr hF (FW_ar (Or.inl rfl)), t59.trans hP.2.1, by unfold ErB; show ∃ e, τ.1 56 = nI e ∧ e ≤ 11; rw [t56]; exact hP.2.2.2, fun y => by show ¬ τ.1 56 = 0; rw [t56]; exact y, h, rfl, Or.inr (Or.inr rfl)⟩
    -- the bytes
    have l2 : ∀ (j i : Nat) (N : Nat → Int32) (τ : MS), j + i = n → N 2 = nI f → N 3 = nI n → N 4 = nI h → N 5 = nI i → FW t σ τ → τ.1 59 = σ.1 59 → τ.1 56 = σ.1 56 → τ.1 55 = nI (h + 4 + n) → τ.2.2 28 h = nI 4 → τ.2.2 28 (h + 1) = nI n → τ.2.2 28 (h + 3) = nI 0 → (∀ i, B + 4 ≤ i → i < h → τ.2.2 28 i = σ.2.2 28 i) → Tm (fun k => x_stringOf__28 k 2 N τ) (VO g B h t σ) := by
      intro j
      induction j with
      | zero =>
        intro i N τ hi n2 n3 n4 n5 hF t59 t56 t55 th t1 t3 hag
        refine Tm_suc (fun k => by rw [x_stringOf__28]) ?_
        rw [n3, n5]
        exact Tm_ite (fun _ => l4 N τ n3 n4 hF t59 t56 t55 th t1 t3 hag) (fun y => absurd ((n_le (by omega) (by omega)).mpr (by omega)) y)
      | succ j ih =>
        intro i N τ hi n2 n3 n4 n5 hF t59 t56 t55 th t1 t3 hag
        refine Tm_suc (fun k => by rw [x_stringOf__28]) ?_
        rw [n3, n5, n2, n4]
        refine Tm_ite (fun y => absurd ((n_le (by omega) (by omega)).mp y) (by omega)) (fun _ => ?_)
        refine Tm_ite (fun _ => ?_) (fun _ => l4 N τ n3 n4 hF t59 t56 t55 th t1 t3 hag)
        rw [n_add (by omega), show nI h + 4 = nI (h + 4) from n_add (q := 4) (by omega), n_add (by omega)]
        refine Tm_chk (n_in (by omega) (by omega)) ?_
        refine Tm_chk (n_in (by omega) (by omega)) ?_
        rw [n_cl (p := h + 4 + i) (by omega)]
        generalize τ.2.2 28 (nI (f + i)).toNatClampNeg = x
        show Tm (fun k => x_stringOf__28 k 3 N (mAr τ 28 (h + 4 + i) x)) _
        refine Tm_suc (fun k => by rw [x_stringOf__28]) ?_
        have u : ∀ j, j ≠ h + 4 + i → (mAr τ 28 (h + 4 + i) x).2.2 28 j = τ.2.2 28 j := fun j hj => by rw [mAr_s, upd_other hj]
        exact ih (i + 1) _ _ (by omega) n2 n3 n4 (by show N 5 + 1 = _; rw [n5, n_add1]) (FW_tr hF (FW_ar (Or.inl rfl))) t59 t56 t55 (by rw [u _ (by omega)]; exact th) (by rw [u _ (by omega)]; exact t1) (by rw [u _ (by omega)]; exact t3) (fun i h1 h2 => by rw [u _ (by omega)]; exact hag i h1 h2)
    refine l2 n 0 _ _ (by omega) h2 h3 rfl rfl FW_mk (mMk_s (by decide)) (mMk_s (by decide)) ?_ ?_ ?_ ?_ (fun i h1 h2 => ?_)
    · show nI (h + (4 + n)) = _
      rw [Nat.add_assoc]
    · rw [mMk_28, upd_other (by omega), upd_other (by omega), upd_other (by omega), upd_same]; rfl
    · rw [mMk_28, upd_other (by omega), upd_other (by omega), upd_same]
    · rw [mMk_28, upd_same]; rfl
    · rw [mMk_28, upd_other (by omega), upd_other (by omega), upd_other (by omega), upd_other (by omega)]
theorem s_stringOf12 (hP : VP g l B h t σ) {f n : Nat} (hn : n ≤ 60000) (hf : 1 + (n + 3) / 4 ≤ 1000 → f + n ≤ 70000) {L : Nat → Int32} (h2 : L 2 = nI f) (h3 : L 3 = nI n) : Tm (fun k => x_stringOf__12 k 0 L σ) (VO g B h t σ) := by
  have hb := HS_b hP.1
  have hB := hP.1.2.1
  have hdv : (1 : Int32) + (nI n + 3) / 4 = nI (1 + (n + 3) / 4) := n_str (by omega)
  refine Tm_suc (fun k => by rw [x_stringOf__12]) ?_
  refine Tm_chk0 (by decide) ?_
  rw [h3, hdv]
  refine Tm_ite (fun c => ?_) (fun c => ?_)
  case refine_2 =>
    refine Tm_ob (s_fail _ σ) (fun r hr => ?_)
    rw [hr]
    exact Tm_some (VO_er hP (e := 5) (by decide))
  have c := (n_le (q := 1000) (by omega) (by decide)).mp c
  have hf := hf c
  refine Tm_suc (fun k => by rw [x_stringOf__12]) ?_
  refine Tm_ob (s_make hP.1 (n := n) (by omega) (by exact h3)) (fun r hr => ?_)
  rcases hr with ⟨z, hr⟩ | ⟨z, hr⟩
  · -- no room
    rw [hr]
    have l4 : ∀ N : Nat → Int32, N 3 = nI n → N 4 = nI 0 → Tm (fun k => x_stringOf__12 k 4 N (mEr σ 5)) (VO g B h t σ) := fun N n3 n4 => by
      refine Tm_suc (fun k => by rw [x_stringOf__12]) ?_
      refine Tm_chk0 (by decide) ?_
      rw [n4, show nI 0 + 2 = nI 2 from n_add (p := 0) (q := 2) (by decide)]
      refine Tm_chk (n_in (by decide) (by decide)) ?_
      rw [n_cl (p := 2) (by decide), n3, hdv]
      show Tm (fun k => x_stringOf__12 k 5 N (mAr (mEr σ 5) 28 2 (nI (1 + (n + 3) / 4)))) _
      refine Tm_suc (fun k => by rw [x_stringOf__12]) ?_
      rw [n4]
      obtain ⟨g', l', h', e1, e2, e3, e4, e5, e6⟩ := VO_er hP (e := 5) (by decide)
      have lo := HS_lo (i := 2) (x := nI (1 + (n + 3) / 4)) (HS_er hP.1 5) (by decide)
      exact Tm_some ⟨g, l, h, ⟨lo.1, fun _ z => z, Nat.le_refl _, fun i h1 h2 => lo.2.2.2 i h1 h2⟩, FW_tr FW_er (FW_ar (Or.inl rfl)), e3, e4, e5, Vd_0⟩
    refine Tm_suc (fun k => by rw [x_stringOf__12]) ?_
    refine Tm_ite (fun _ => l4 _ h3 rfl) (fun _ => ?_)
    exact Tm_ite (fun y => absurd y (mEr_e (by decide))) (fun _ => l4 _ h3 rfl)
  · rw [hr]
    -- the end
    have l4 : ∀ (N : Nat → Int32) (τ : MS), N 3 = nI n → N 4 = nI h → FW t σ τ → τ.1 59 = σ.1 59 → τ.1 56 = σ.1 56 → τ.1 55 = nI (h + 4 + n) → τ.2.2 28 h = nI 4 → τ.2.2 28 (h + 1) = nI n → τ.2.2 28 (h + 3) = nI 0 → (∀ i, B + 4 ≤ i → i < h → τ.2.2 28 i = σ.2.2 28 i) → Tm (fun k => x_stringOf__12 k 4 N τ) (VO g B h t σ) := by
      intro N τ n3 n4 hF t59 t56 t55 th t1 t3 hag
      refine Tm_suc (fun k => by rw [x_stringOf__12]) ?_
      refine Tm_chk0 (by decide) ?_
      rw [n4, show nI h + 2 = nI (h + 2) from n_add (q := 2) (by omega)]
      refine Tm_chk (n_in (by omega) (by omega)) ?_
      rw [n_cl (p := h + 2) (by omega), n3, hdv]
      show Tm (fun k => x_stringOf__12 k 5 N (mAr τ 28 (h + 2) (nI (1 + (n + 3) / 4)))) _
      refine Tm_suc (fun k => by rw [x_stringOf__12]) ?_
      rw [n4]
      have u : ∀ j, j ≠ h + 2 → (mAr τ 28 (h + 2) (nI (1 + (n + 3) / 4))).2.2 28 j = τ.2.2 28 j := fun j hj => by rw [mAr_s, upd_other hj]
      have hG : GOn ((mAr τ 28 (h + 2) (nI (1 + (n + 3) / 4))).2.2 28) g h 4 n (1 + (n + 3) / 4) 0 := by
        refine ⟨by rw [u h (by omega)]; exact th, by rw [u (h + 1) (by omega)]; exact t1, by rw [mAr_s, upd_same], by rw [u (h + 3) (by omega)]; exact t3, by decide, by omega, by decide, by omega, fun z => absurd z (by decide), fun z => absurd z (by decide), fun _ => rfl, fun z => absurd z (by decide)⟩
      exact Tm_some ⟨_, _, _, HS_good hP.1 z (hF.1 54 (by decide)) t55 (fun i h1 h2 => by rw [u i (by omega)]; exact hag i h1 h2) hG, FW_tr hF (FW_ar (Or.inl rfl)), t59.trans hP.2.1, by unfold ErB; show ∃ e, τ.1 56 = nI e ∧ e ≤ 11; rw [t56]; exact hP.2.2.2, fun y => by show ¬ τ.1 56 = 0; rw [t56]; exact y, h, rfl, Or.inr (Or.inr rfl)⟩
    -- the bytes
    have l2 : ∀ (j i : Nat) (N : Nat → Int32) (τ : MS), j + i = n → N 2 = nI f → N 3 = nI n → N 4 = nI h → N 5 = nI i → FW t σ τ → τ.1 59 = σ.1 59 → τ.1 56 = σ.1 56 → τ.1 55 = nI (h + 4 + n) → τ.2.2 28 h = nI 4 → τ.2.2 28 (h + 1) = nI n → τ.2.2 28 (h + 3) = nI 0 → (∀ i, B + 4 ≤ i → i < h → τ.2.2 28 i = σ.2.2 28 i) → Tm (fun k => x_stringOf__12 k 2 N τ) (VO g B h t σ) := by
      intro j
      induction j with
      | zero =>
        intro i N τ hi n2 n3 n4 n5 hF t59 t56 t55 th t1 t3 hag
        refine Tm_suc (fun k => by rw [x_stringOf__12]) ?_
        rw [n3, n5]
        exact Tm_ite (fun _ => l4 N τ n3 n4 hF t59 t56 t55 th t1 t3 hag) (fun y => absurd ((n_le (by omega) (by omega)).mpr (by omega)) y)
      | succ j ih =>
        intro i N τ hi n2 n3 n4 n5 hF t59 t56 t55 th t1 t3 hag
        refine Tm_suc (fun k => by rw [x_stringOf__12]) ?_
        rw [n3, n5, n2, n4]
        refine Tm_ite (fun y => absurd ((n_le (by omega) (by omega)).mp y) (by omega)) (fun _ => ?_)
        refine Tm_ite (fun _ => ?_) (fun _ => l4 N τ n3 n4 hF t59 t56 t55 th t1 t3 hag)
        rw [n_add (by omega), show nI h + 4 = nI (h + 4) from n_add (q := 4) (by omega), n_add (by omega)]
        refine Tm_chk (n_in (by omega) (by omega)) ?_
        refine Tm_chk (n_in (by omega) (by omega)) ?_
        rw [n_cl (p := h + 4 + i) (by omega)]
        generalize τ.2.2 12 (nI (f + i)).toNatClampNeg = x
        show Tm (fun k => x_stringOf__12 k 3 N (mAr τ 28 (h + 4 + i) x)) _
        refine Tm_suc (fun k => by rw [x_stringOf__12]) ?_
        have u : ∀ j, j ≠ h + 4 + i → (mAr τ 28 (h + 4 + i) x).2.2 28 j = τ.2.2 28 j := fun j hj => by rw [mAr_s, upd_other hj]
        exact ih (i + 1) _ _ (by omega) n2 n3 n4 (by show N 5 + 1 = _; rw [n5, n_add1]) (FW_tr hF (FW_ar (Or.inl rfl))) t59 t56 t55 (by rw [u _ (by omega)]; exact th) (by rw [u _ (by omega)]; exact t1) (by rw [u _ (by omega)]; exact t3) (fun i h1 h2 => by rw [u _ (by omega)]; exact hag i h1 h2)
    refine l2 n 0 _ _ (by omega) h2 h3 rfl rfl FW_mk (mMk_s (by decide)) (mMk_s (by decide)) ?_ ?_ ?_ ?_ (fun i h1 h2 => ?_)
    · show nI (h + (4 + n)) = _
      rw [Nat.add_assoc]
    · rw [mMk_28, upd_other (by omega), upd_other (by omega), upd_other (by omega), upd_same]; rfl
    · rw [mMk_28, upd_other (by omega), upd_other (by omega), upd_same]
    · rw [mMk_28, upd_same]; rfl
    · rw [mMk_28, upd_other (by omega), upd_other (by omega), upd_other (by omega), upd_other (by omega)]
end STR
end JnS97
section JnS98
/-! Limbs of 16 bits; wholes are loaded and made (reference). -/
def LM (f : Nat → Int32) (n : Nat) : Prop := ∀ i, i < n → ∃ d, d ≤ 65535 ∧ f i = nI d
theorem n_ofbv (x : Int32) : x = nI x.toBitVec.toNat := by
  refine Int32.toBitVec_inj.mp ?_
  show x.toBitVec = (Int32.ofNat x.toBitVec.toNat).toBitVec
  rw [Int32.toBitVec_ofNat']
  simp
theorem n_ofpos {x : Int32} (h : 0 ≤ x.toInt) : x = nI x.toInt.toNat := by
  have hb := i_bd x
  rw [i_eq, n_int (by omega)]
  omega
theorem n_and16 (x : Int32) : ∃ d, d ≤ 65535 ∧ x &&& 65535 = nI d := by
  refine ⟨(x &&& 65535).toBitVec.toNat, ?_, n_ofbv _⟩
  rw [Int32.toBitVec_and, BitVec.toNat_and]
  exact Nat.and_le_right
theorem w_and16 (x : Int64) : ∃ d, d ≤ 65535 ∧ (x &&& 65535).toInt32 = nI d := by
  rw [Int64.toInt32_and]
  exact n_and16 x.toInt32
theorem i_shr16 (x : Int32) : (x >>> ((16 : Int32) &&& 31)).toInt = x.toInt / 65536 := by
  show (x.toBitVec.sshiftRight' (((16 : Int32) &&& 31).toBitVec.smod 32)).toInt = _
  rw [BitVec.toInt_sshiftRight', show (((16 : Int32) &&& 31).toBitVec.smod 32).toNat = 16 from by decide, Int.shiftRight_eq_div_pow]
  rfl
theorem w_shr16 (x : Int64) : (x >>> ((16 : Int32).toInt64 &&& 63)).toInt = x.toInt / 65536 := by
  show (x.toBitVec.sshiftRight' (((16 : Int32).toInt64 &&& 63).toBitVec.smod 64)).toInt = _
  rw [BitVec.toInt_sshiftRight', show (((16 : Int32).toInt64 &&& 63).toBitVec.smod 64).toNat = 16 from by decide, Int.shiftRight_eq_div_pow]
  rfl
theorem n_shr16 (x : Int32) (h : ¬ x >>> ((16 : Int32) &&& 31) ≤ 0) : ∃ d, d ≤ 65535 ∧ x >>> ((16 : Int32) &&& 31) = nI d := by
  have e := i_shr16 x
  have hb := i_bd x
  have h0 : ¬ (x >>> ((16 : Int32) &&& 31)).toInt ≤ 0 := fun z => h (i_le.mpr z)
  exact ⟨_, by omega, n_ofpos (by omega)⟩
/-- limbs: one more, one anew -/
theorem LM_upd {f : Nat → Int32} {n i : Nat} {x : Int32} (h : LM f n) (hx : ∃ d, d ≤ 65535 ∧ x = nI d) : LM (upd f i x) n := fun j hj => by
  by_cases e : j = i
  · rw [e, upd_same]; exact hx
  · rw [upd_other e]; exact h j hj
theorem LM_suc {f : Nat → Int32} {n : Nat} {x : Int32} (h : LM f n) (hx : ∃ d, d ≤ 65535 ∧ x = nI d) : LM (upd f n x) (n + 1) := fun j hj => by
  by_cases e : j = n
  · rw [e, upd_same]; exact hx
  · rw [upd_other e]; exact h j (by omega)
theorem LM_mo {f : Nat → Int32} {n m : Nat} (h : LM f n) (hm : m ≤ n) : LM f m := fun j hj => h j (by omega)
/-- what reckoning with wholes leaves as it is -/
def NF (σ σ' : MS) : Prop := (∀ j, ¬ (84 ≤ j ∧ j ≤ 90) → σ'.1 j = σ.1 j) ∧ (∀ j, ¬ (42 ≤ j ∧ j ≤ 47) → σ'.2.2 j = σ.2.2 j)
theorem NF_rf {σ : MS} : NF σ σ := ⟨fun _ _ => rfl, fun _ _ => rfl⟩
theorem NF_tr {σ τ υ : MS} (h : NF σ τ) (k : NF τ υ) : NF σ υ := ⟨fun j hj => (k.1 j hj).trans (h.1 j hj), fun j hj => (k.2 j hj).trans (h.2 j hj)⟩
theorem NF_sc {j : Nat} {σ : MS} {x : Int32} (hj : 84 ≤ j ∧ j ≤ 90) : NF σ (mSc σ j x) := ⟨fun i hi => upd_other (by omega), fun _ _ => rfl⟩
theorem NF_ar {j i : Nat} {σ : MS} {x : Int32} (hj : 42 ≤ j ∧ j ≤ 47) : NF σ (mAr σ j i x) := ⟨fun _ _ => rfl, fun k hk => mAr_o (by omega)⟩
theorem NF_FW {t : Nat} {σ τ : MS} (h : NF σ τ) : FW t σ τ := ⟨fun j hj => h.1 j (by omega), fun j hj => h.2 j (by omega), fun i _ => by rw [h.2 29 (by decide)]⟩
section WHO
variable {g : Nat → Prop} {l : List Nat} {B h t : Nat} {σ : MS}
theorem NF_HS {τ : MS} (hN : NF σ τ) (hS : HS g l B h σ) : HS g l B h τ := HS_c hS (hN.1 54 (by decide)) (hN.1 55 (by decide)) (hN.2 28 (by decide))
theorem NF_VP {τ : MS} (hN : NF σ τ) (hP : VP g l B h t σ) : VP g l B h t τ := ⟨NF_HS hN hP.1, (hN.1 59 (by decide)).trans hP.2.1, hP.2.2.1, by unfold ErB; rw [hN.1 56 (by decide)]; exact hP.2.2.2⟩
theorem VO_NF {τ : MS} {r : Int32 × MS} (hN : NF σ τ) (hP : VP g l B h t σ) (b : VO g B h t τ r) : VO g B h t σ r := by
  refine VO_tr (g1 := g) (l1 := l) (h1 := h) ⟨NF_HS hN hP.1, fun _ z => z, Nat.le_refl _, fun i _ _ => by rw [hN.2 28 (by decide)]⟩ (NF_FW hN) (fun z => ?_) b
  rw [hN.1 56 (by decide)]; exact z
/-- a whole that is good: how many limbs -/
theorem GW {v k n s u : Nat} (hG : GOn (σ.2.2 28) g v k n s u) (hk : k = 2) : 1 ≤ n ∧ n ≤ 65 ∧ WHk (σ.2.2 28) v n := by
  obtain ⟨a, b, c, d⟩ := hG.2.2.2.2.2.2.2.2.1 hk
  exact ⟨a, b, d⟩
theorem s_loadA (hS : HS g l B h σ) {v n : Nat} (hn : σ.2.2 28 (v + 1) = nI n) (h1 : 1 ≤ n) (h65 : n ≤ 65) (hv : v + 4 + n ≤ 1740000) (hl : WHk (σ.2.2 28) v n) {L : Nat → Int32} (hL : L 1 = nI v) : Tm (fun k => x_loadA k 0 L σ) (fun r => NF σ r.2 ∧ r.2.1 84 = nI (n - 1) ∧ LM (r.2.2.2 42) (n - 1) ∧ (∀ j, j ≠ 42 → r.2.2.2 j = σ.2.2 j) ∧ (∀ j, j ≠ 84 → r.2.1 j = σ.1 j)) := by
  have l2 : ∀ (j i : Nat) (N : Nat → Int32) (τ : MS), j + i = n - 1 → N 1 = nI v → N 2 = nI i → NF σ τ → τ.1 84 = nI (n - 1) → LM (τ.2.2 42) i → (∀ j, j ≠ 42 → τ.2.2 j = σ.2.2 j) → (∀ j, j ≠ 84 → τ.1 j = σ.1 j) → Tm (fun k => x_loadA k 2 N τ) (fun r => NF σ r.2 ∧ r.2.1 84 = nI (n - 1) ∧ LM (r.2.2.2 42) (n - 1) ∧ (∀ j, j ≠ 42 → r.2.2.2 j = σ.2.2 j) ∧ (∀ j, j ≠ 84 → r.2.1 j = σ.1 j)) := by
    intro j
    induction j with
    | zero =>
      intro i N τ hi n1 n2 hF t84 hLM t43 t85
      refine Tm_suc (fun k => by rw [x_loadA]) ?_
      rw [t84, n2]
      refine Tm_ite (fun _ => ?_) (fun z => absurd ((n_le (by omega) (by omega)).mpr (by omega)) z)
      refine Tm_suc (fun k => by rw [x_loadA]) ?_
      exact Tm_some ⟨hF, t84, by rw [show n - 1 = i by omega]; exact hLM, t43, t85⟩
    | succ j ih =>
      intro i N τ hi n1 n2 hF t84 hLM t43 t85
      refine Tm_suc (fun k => by rw [x_loadA]) ?_
      rw [t84, n2, n1, show nI v + 5 = nI (v + 5) from n_add (q := 5) (by omega), n_add (by omega)]
      refine Tm_ite (fun z => absurd ((n_le (by omega) (by omega)).mp z) (by omega)) (fun _ => ?_)
      refine Tm_chk (n_in (by omega) (by omega)) ?_
      refine Tm_chk (n_in (by omega) (by omega)) ?_
      rw [n_cl (p := i) (by omega), n_cl (p := v + 5 + i) (by omega), hF.2 28 (by decide)]
      show Tm (fun k => x_loadA k 3 N (mAr τ 42 i (σ.2.2 28 (v + 5 + i)))) _
      refine Tm_suc (fun k => by rw [x_loadA]) ?_
      exact ih (i + 1) _ _ (by omega) n1 (by show N 2 + 1 = _; rw [n2, n_add1]) (NF_tr hF (NF_ar (by decide))) t84 (by rw [mAr_s]; exact LM_suc hLM (hl.1 i (by omega))) (fun j hj => (mAr_o hj).trans (t43 j hj)) t85
  refine Tm_suc (fun k => by rw [x_loadA]) ?_
  rw [hL, n_add1]
  refine Tm_chk (n_in (by omega) (by omega)) ?_
  rw [n_cl (p := v + 1) (by omega), hn, show nI n - 1 = nI (n - 1) from n_sub (q := 1) (by omega) h1]
  show Tm (fun k => x_loadA k 1 L (mSc σ 84 (nI (n - 1)))) _
  refine Tm_suc (fun k => by rw [x_loadA]) ?_
  exact l2 (n - 1) 0 _ _ (by omega) hL rfl (NF_sc (by decide)) rfl (fun i hi => absurd hi (Nat.not_lt_zero i)) (fun _ _ => rfl) (fun j hj => upd_other hj)
theorem s_loadB (hS : HS g l B h σ) {v n : Nat} (hn : σ.2.2 28 (v + 1) = nI n) (h1 : 1 ≤ n) (h65 : n ≤ 65) (hv : v + 4 + n ≤ 1740000) (hl : WHk (σ.2.2 28) v n) {L : Nat → Int32} (hL : L 1 = nI v) : Tm (fun k => x_loadB k 0 L σ) (fun r => NF σ r.2 ∧ r.2.1 85 = nI (n - 1) ∧ LM (r.2.2.2 43) (n - 1) ∧ r.2.2.2 42 = σ.2.2 42 ∧ r.2.1 84 = σ.1 84) := by
  have l2 : ∀ (j i : Nat) (N : Nat → Int32) (τ : MS), j + i = n - 1 → N 1 = nI v → N 2 = nI i → NF σ τ → τ.1 85 = nI (n - 1) → LM (τ.2.2 43) i → τ.2.2 42 = σ.2.2 42 → τ.1 84 = σ.1 84 → Tm (fun k => x_loadB k 2 N τ) (fun r => NF σ r.2 ∧ r.2.1 85 = nI (n - 1) ∧ LM (r.2.2.2 43) (n - 1) ∧ r.2.2.2 42 = σ.2.2 42 ∧ r.2.1 84 = σ.1 84) := by
    intro j
    induction j with
    | zero =>
      intro i N τ hi n1 n2 hF t84 hLM t43 t85
      refine Tm_suc (fun k => by rw [x_loadB]) ?_
      rw [t84, n2]
      refine Tm_ite (fun _ => ?_) (fun z => absurd ((n_le (by omega) (by omega)).mpr (by omega)) z)
      refine Tm_suc (fun k => by rw [x_loadB]) ?_
      exact Tm_some ⟨hF, t84, by rw [show n - 1 = i by omega]; exact hLM, t43, t85⟩
    | succ j ih =>
      intro i N τ hi n1 n2 hF t84 hLM t43 t85
      refine Tm_suc (fun k => by rw [x_loadB]) ?_
      rw [t84, n2, n1, show nI v + 5 = nI (v + 5) from n_add (q := 5) (by omega), n_add (by omega)]
      refine Tm_ite (fun z => absurd ((n_le (by omega) (by omega)).mp z) (by omega)) (fun _ => ?_)
      refine Tm_chk (n_in (by omega) (by omega)) ?_
      refine Tm_chk (n_in (by omega) (by omega)) ?_
      rw [n_cl (p := i) (by omega), n_cl (p := v + 5 + i) (by omega), hF.2 28 (by decide)]
      show Tm (fun k => x_loadB k 3 N (mAr τ 43 i (σ.2.2 28 (v + 5 + i)))) _
      refine Tm_suc (fun k => by rw [x_loadB]) ?_
      exact ih (i + 1) _ _ (by omega) n1 (by show N 2 + 1 = _; rw [n2, n_add1]) (NF_tr hF (NF_ar (by decide))) t84 (by rw [mAr_s]; exact LM_suc hLM (hl.1 i (by omega))) (by rw [mAr_o (by decide)]; exact t43) t85
  refine Tm_suc (fun k => by rw [x_loadB]) ?_
  rw [hL, n_add1]
  refine Tm_chk (n_in (by omega) (by omega)) ?_
  rw [n_cl (p := v + 1) (by omega), hn, show nI n - 1 = nI (n - 1) from n_sub (q := 1) (by omega) h1]
  show Tm (fun k => x_loadB k 1 L (mSc σ 85 (nI (n - 1)))) _
  refine Tm_suc (fun k => by rw [x_loadB]) ?_
  exact l2 (n - 1) 0 _ _ (by omega) hL rfl (NF_sc (by decide)) rfl (fun i hi => absurd hi (Nat.not_lt_zero i)) rfl rfl
end WHO
end JnS98
section JnS99
/-! Wholes are made (reference). -/
section WHM
variable {g : Nat → Prop} {l : List Nat} {B h t : Nat} {σ : MS}
theorem VO_NF_Tm {τ : MS} {f : Nat → Option (Int32 × MS)} (hN : NF σ τ) (hP : VP g l B h t σ) (b : Tm f (VO g B h t τ)) : Tm f (VO g B h t σ) := Tm_mono b (fun r hr => VO_NF hN hP hr)
theorem s_wholeOf (hP : VP g l B h t σ) {c : Nat} (hc : c ≤ 300) (h86 : σ.1 86 = nI c) (hLM : LM (σ.2.2 44) c) (L : Nat → Int32) (hsg : SgO (L 1) (σ.2.2 44) c) : Tm (fun k => x_wholeOf k 0 L σ) (VO g B h t σ) := by
  have hb := HS_b hP.1
  have hB := hP.1.2.1
  -- from the room on
  have l1 : ∀ (m : Nat) (τ : MS), m ≤ c → NF σ τ → τ.1 86 = nI m → τ.2.2 44 = σ.2.2 44 → ((L 1 = 1 ∨ L 1 = -1) ∨ m = 0) → Tm (fun k => x_wholeOf k 1 L τ) (VO g B h t σ) := by
    intro m τ hm hF t86 t44 hsm
    have hPt := NF_VP hF hP
    refine VO_NF_Tm hF hP ?_
    refine Tm_suc (fun k => by rw [x_wholeOf]) ?_
    rw [t86]
    refine Tm_ite (fun z => ?_) (fun z => ?_)
    case refine_2 =>
      refine Tm_ob (s_fail _ τ) (fun r hr => ?_)
      rw [hr]
      exact Tm_some (VO_er hPt (e := 5) (by decide))
    have z := (n_le (q := 64) (by omega) (by decide)).mp z
    refine Tm_suc (fun k => by rw [x_wholeOf]) ?_
    rw [t86, n_add1]
    refine Tm_ob (s_make hPt.1 (n := m + 1) (by omega) upd_same) (fun r hr => ?_)
    rcases hr with ⟨y, hr⟩ | ⟨y, hr⟩
    · rw [hr]
      refine Tm_ite (fun w => ?_) (fun _ => Tm_some (VO_er hPt (e := 5) (by decide)))
      obtain ⟨g', l', h', e1, e2, e3, ⟨e, e41, e42⟩, e5, e6⟩ := VO_er hPt (e := 5) (by decide)
      have w : (mEr τ 5).1 56 ≤ 0 := w
      have e41 : (mEr τ 5).1 56 = nI e := e41
      rw [e41] at w
      have w := (n_le0 (by omega)).mp w
      rw [w] at e41
      exact absurd e41 (mEr_e (by decide))
    rw [hr]
    have hErr : ErB τ := hPt.2.2.2
    refine Tm_ite (fun w => ?_) (fun w => ?_)
    case refine_2 =>
      -- an error stood before
      have hS2 := HS_mk (k := 2) hPt.1 y
      refine Tm_some ⟨g, _, _, ⟨hS2, fun _ z => z, by omega, fun i h1 h2 => ?_⟩, FW_mk, (mMk_s (by decide)).trans hPt.2.1, ?_, fun q => ?_, Vd_0⟩
      · rw [mMk_28, upd_other (by omega), upd_other (by omega), upd_other (by omega), upd_other (by omega)]
      · unfold ErB; rw [mMk_s (by decide)]; exact hErr
      · rw [mMk_s (by decide)]; exact q
    -- the limbs
    have fin : ∀ (N : Nat → Int32) (υ : MS), N 2 = nI h → FW t τ υ → υ.1 59 = τ.1 59 → υ.1 56 = τ.1 56 → υ.1 55 = nI (h + 4 + (m + 1)) → υ.1 86 = nI m → υ.2.2 28 h = nI 2 → υ.2.2 28 (h + 1) = nI (m + 1) → υ.2.2 28 (h + 3) = nI 0 → SgOK (υ.2.2 28) h (m + 1) → (∀ i, i < m → ∃ d, d ≤ 65535 ∧ υ.2.2 28 (h + 5 + i) = nI d) → (∀ i, B + 4 ≤ i → i < h → υ.2.2 28 i = τ.2.2 28 i) → Tm (fun k => x_wholeOf k 9 N υ) (VO g B h t τ) := by
      intro N υ n2 hF2 u59 u56 u55 u86 uh u1 u3 uS uL hag
      refine Tm_suc (fun k => by rw [x_wholeOf]) ?_
      refine Tm_chk0 (by decide) ?_
      rw [n2, show nI h + 2 = nI (h + 2) from n_add (q := 2) (by omega)]
      refine Tm_chk (n_in (by omega) (by omega)) ?_
      rw [n_cl (p := h + 2) (by omega), u86, n_add1, show nI (m + 1) / 2 = nI ((m + 1) / 2) from n_div (q := 2) (by omega) (by decide) (by decide), show (1 : Int32) + nI ((m + 1) / 2) = nI (1 + (m + 1) / 2) from n_add (p := 1) (by omega)]
      show Tm (fun k => x_wholeOf k 10 N (mAr υ 28 (h + 2) (nI (1 + (m + 1) / 2)))) _
      refine Tm_suc (fun k => by rw [x_wholeOf]) ?_
      rw [n2]
      have u : ∀ j, j ≠ h + 2 → (mAr υ 28 (h + 2) (nI (1 + (m + 1) / 2))).2.2 28 j = υ.2.2 28 j := fun j hj => by rw [mAr_s, upd_other hj]
      have hG : GOn ((mAr υ 28 (h + 2) (nI (1 + (m + 1) / 2))).2.2 28) g h 2 (m + 1) (1 + (m + 1) / 2) 0 := by
        refine ⟨by rw [u h (by omega)]; exact uh, by rw [u (h + 1) (by omega)]; exact u1, by rw [mAr_s, upd_same], by rw [u (h + 3) (by omega)]; exact u3, by decide, by omega, by decide, by omega, fun _ => ⟨by omega, by omega, rfl, fun i hi => ?_, ?_⟩, fun z => absurd z (by decide), fun z => absurd z (by decide), fun z => absurd z (by decide)⟩
        · rw [u _ (by omega)]; exact uL i (by omega)
        · unfold SgOK; rw [u _ (by omega)]; exact uS
      exact Tm_some ⟨_, _, _, HS_good hPt.1 y (hF2.1 54 (by decide)) u55 (fun i h1 h2 => by rw [u i (by omega)]; exact hag i h1 h2) hG, FW_tr hF2 (FW_ar (Or.inl rfl)), u59.trans hPt.2.1, by unfold ErB; show ∃ e, υ.1 56 = nI e ∧ e ≤ 11; rw [u56]; exact hPt.2.2.2, fun y => by show ¬ υ.1 56 = 0; rw [u56]; exact y, h, rfl, Or.inr (Or.inr rfl)⟩
    have l7 : ∀ (j i : Nat) (N : Nat → Int32) (υ : MS), j + i = m → N 2 = nI h → N 3 = nI i → FW t τ υ → υ.1 59 = τ.1 59 → υ.1 56 = τ.1 56 → υ.1 55 = nI (h + 4 + (m + 1)) → υ.1 86 = nI m → υ.2.2 44 = τ.2.2 44 → υ.2.2 28 h = nI 2 → υ.2.2 28 (h + 1) = nI (m + 1) → υ.2.2 28 (h + 3) = nI 0 → SgOK (υ.2.2 28) h (m + 1) → (∀ k, k < i → ∃ d, d ≤ 65535 ∧ υ.2.2 28 (h + 5 + k) = nI d) → (∀ i, B + 4 ≤ i → i < h → υ.2.2 28 i = τ.2.2 28 i) → Tm (fun k => x_wholeOf k 7 N υ) (VO g B h t τ) := by
      intro j
      induction j with
      | zero =>
        intro i N υ hi n2 n3 hF2 u59 u56 u55 u86 u44 uh u1 u3 uS uL hag
        refine Tm_suc (fun k => by rw [x_wholeOf]) ?_
        rw [u86, n3]
        exact Tm_ite (fun _ => fin N υ n2 hF2 u59 u56 u55 u86 uh u1 u3 uS (fun k hk => uL k (by omega)) hag) (fun q => absurd ((n_le (by omega) (by omega)).mpr (by omega)) q)
      | succ j ih =>
        intro i N υ hi n2 n3 hF2 u59 u56 u55 u86 u44 uh u1 u3 uS uL hag
        refine Tm_suc (fun k => by rw [x_wholeOf]) ?_
        rw [u86, n3, n2, show nI h + 5 = nI (h + 5) from n_add (q := 5) (by omega), n_add (by omega)]
        refine Tm_ite (fun q => absurd ((n_le (by omega) (by omega)).mp q) (by omega)) (fun _ => ?_)
        refine Tm_chk (n_in (by omega) (by omega)) ?_
        refine Tm_chk (n_in (by omega) (by omega)) ?_
        rw [n_cl (p := h + 5 + i) (by omega), n_cl (p := i) (by omega), u44, t44]
        show Tm (fun k => x_wholeOf k 8 N (mAr υ 28 (h + 5 + i) (σ.2.2 44 i))) _
        refine Tm_suc (fun k => by rw [x_wholeOf]) ?_
        have u : ∀ j, j ≠ h + 5 + i → (mAr υ 28 (h + 5 + i) (σ.2.2 44 i)).2.2 28 j = υ.2.2 28 j := fun j hj => by rw [mAr_s, upd_other hj]
        refine ih (i + 1) _ _ (by omega) n2 (by show N 3 + 1 = _; rw [n3, n_add1]) (FW_tr hF2 (FW_ar (Or.inl rfl))) u59 u56 u55 u86 (by rw [mAr_o (by decide)]; exact u44) (by rw [u _ (by omega)]; exact uh) (by rw [u _ (by omega)]; exact u1) (by rw [u _ (by omega)]; exact u3) (by unfold SgOK; rw [u _ (by omega)]; exact uS) (fun k hk => ?_) (fun i h1 h2 => by rw [u _ (by omega)]; exact hag i h1 h2)
        by_cases e : k = i
        · rw [e, mAr_s, upd_same]; exact hLM i (by omega)
        · rw [u _ (by omega)]; exact uL k (by omega)
    -- the sign
    have l5 : ∀ (N : Nat → Int32), N 2 = nI h → N 101 = nI (h + 4) → ((N 100 = 1 ∨ N 100 = -1) ∨ (m + 1 = 1 ∧ N 100 = 0)) → Tm (fun k => x_wholeOf k 5 N (mMk τ h 2 (m + 1))) (VO g B h t τ) := by
      intro N n2 n101 n100
      refine Tm_suc (fun k => by rw [x_wholeOf]) ?_
      rw [n101]
      refine Tm_chk (n_in (by omega) (by omega)) ?_
      rw [n_cl (p := h + 4) (by omega)]
      show Tm (fun k => x_wholeOf k 6 N (mAr (mMk τ h 2 (m + 1)) 28 (h + 4) (N 100))) _
      refine Tm_suc (fun k => by rw [x_wholeOf]) ?_
      have u : ∀ j, j ≠ h + 4 → (mAr (mMk τ h 2 (m + 1)) 28 (h + 4) (N 100)).2.2 28 j = (mMk τ h 2 (m + 1)).2.2 28 j := fun j hj => by rw [mAr_s, upd_other hj]
      refine l7 m 0 _ _ (by omega) n2 rfl (FW_tr FW_mk (FW_ar (Or.inl rfl))) (show (mMk τ h 2 (m + 1)).1 59 = τ.1 59 from mMk_s (by decide)) (show (mMk τ h 2 (m + 1)).1 56 = τ.1 56 from mMk_s (by decide)) ?_ (show (mMk τ h 2 (m + 1)).1 86 = nI m from (mMk_s (by decide)).trans t86) ?_ ?_ ?_ ?_ ?_ (fun k hk => absurd hk (Nat.not_lt_zero k)) (fun i h1 h2 => ?_)
      · show nI (h + (4 + (m + 1))) = _
        rw [Nat.add_assoc]
      · rw [mAr_o (by decide), mMk_o (by decide)]
      · rw [u h (by omega), mMk_28, upd_other (by omega), upd_other (by omega), upd_other (by omega), upd_same]; rfl
      · rw [u (h + 1) (by omega), mMk_28, upd_other (by omega), upd_other (by omega), upd_same]
      · rw [u (h + 3) (by omega), mMk_28, upd_same]; rfl
      · unfold SgOK; rw [mAr_s, upd_same]; exact n100
      · rw [u i (by omega), mMk_28, upd_other (by omega), upd_other (by omega), upd_other (by omega), upd_other (by omega)]
    refine Tm_suc (fun k => by rw [x_wholeOf]) ?_
    show Tm (fun k => if (mMk τ h 2 (m + 1)).1 86 = 0 then x_wholeOf k 5 (upd (upd (upd L 2 (nI h)) 100 0) 101 (nI h + 4)) (mMk τ h 2 (m + 1)) else x_wholeOf k 4 (upd (upd L 2 (nI h)) 100 (nI h + 4)) (mMk τ h 2 (m + 1))) _
    have e4 : nI h + 4 = nI (h + 4) := n_add (q := 4) (by omega)
    refine Tm_ite (fun w0 => ?_) (fun w0 => ?_)
    · refine l5 _ rfl e4 (Or.inr ⟨?_, rfl⟩)
      have w0 : (mMk τ h 2 (m + 1)).1 86 = nI 0 := w0
      rw [mMk_s (by decide), t86] at w0
      have := (n_eq (by omega) (by decide)).mp w0
      omega
    · refine Tm_suc (fun k => by rw [x_wholeOf]) ?_
      refine l5 _ rfl e4 (Or.inl (hsm.resolve_right (fun q => w0 ?_)))
      rw [mMk_s (by decide), t86, q]; rfl
  -- noughts at the top
  have l0 : ∀ (m : Nat) (τ : MS), m ≤ c → NF σ τ → τ.1 86 = nI m → τ.2.2 44 = σ.2.2 44 → Tm (fun k => x_wholeOf k 0 L τ) (VO g B h t σ) := by
    intro m
    induction m with
    | zero =>
      intro τ hm hF t86 t44
      refine Tm_suc (fun k => by rw [x_wholeOf]) ?_
      rw [t86]
      exact Tm_ite (fun _ => l1 0 τ hm hF t86 t44 (Or.inr rfl)) (fun q => absurd ((n_le0 (by decide)).mpr rfl) q)
    | succ m ih =>
      intro τ hm hF t86 t44
      refine Tm_suc (fun k => by rw [x_wholeOf]) ?_
      rw [t86, show nI (m + 1) - 1 = nI m from n_sub (p := m + 1) (q := 1) (by omega) (by omega)]
      refine Tm_ite (fun q => absurd ((n_le0 (by omega)).mp q) (by omega)) (fun _ => ?_)
      refine Tm_chk (n_in (by omega) (by omega)) ?_
      refine Tm_ite (fun _ => ?_) (fun w0 => l1 (m + 1) τ hm hF t86 t44 (Or.inl (hsg.resolve_right (fun q => w0 (by rw [n_cl (by omega), t44]; exact q m (by omega))))))
      exact ih (mSc τ 86 (nI m)) (by omega) (NF_tr hF (NF_sc (by decide))) rfl t44
  exact l0 c σ (Nat.le_refl _) NF_rf h86 rfl
end WHM
end JnS99
section JnS100
/-! Small wholes, the other sign, literals, sums (reference). -/
section SML
variable {g : Nat → Prop} {l : List Nat} {B h t : Nat} {σ : MS}
theorem n_ushr16 {m : Nat} (hm : m < 2147483648) : ((nI m).toUInt32 >>> ((16 : Int32).toUInt32 &&& Int32.toUInt32 31)).toInt32 = nI (m / 65536) := by
  refine Int32.toBitVec_inj.mp ?_
  show (nI m).toBitVec >>> (((16 : Int32).toUInt32 &&& Int32.toUInt32 31).toBitVec % 32) = (nI (m / 65536)).toBitVec
  have e1 : (((16 : Int32).toUInt32 &&& Int32.toUInt32 31).toBitVec % 32) = 16#32 := by decide
  rw [e1]
  apply BitVec.eq_of_toNat_eq
  show ((Int32.ofNat m).toBitVec >>> 16#32).toNat = (Int32.ofNat (m / 65536)).toBitVec.toNat
  rw [Int32.toBitVec_ofNat', Int32.toBitVec_ofNat']
  rw [BitVec.ushiftRight_eq', BitVec.toNat_ushiftRight]
  simp only [BitVec.toNat_ofNat]
  rw [Nat.shiftRight_eq_div_pow]
  show m % 4294967296 / 65536 = m / 65536 % 4294967296
  omega
theorem s_small (hP : VP g l B h t σ) (L : Nat → Int32) : Tm (fun k => x_small k 0 L σ) (VO g B h t σ) := by
  have l8 : ∀ (N : Nat → Int32) (τ : MS) (c : Nat), c ≤ 300 → NF σ τ → τ.1 86 = nI c → LM (τ.2.2 44) c → (N 100 = 1 ∨ N 100 = -1) → Tm (fun k => x_small k 8 N τ) (VO g B h t σ) := fun N τ c hc hF t86 hLM n100 => by
    refine Tm_suc (fun k => by rw [x_small]) ?_
    refine VO_NF_Tm hF hP (Tm_ob (s_wholeOf (NF_VP hF hP) hc t86 hLM _ (Or.inl n100)) (fun r hr => Tm_some hr))
  have l6 : ∀ (N : Nat → Int32) (τ : MS) (c : Nat), c ≤ 300 → NF σ τ → τ.1 86 = nI c → LM (τ.2.2 44) c → Tm (fun k => x_small k 6 N τ) (VO g B h t σ) := fun N τ c hc hF t86 hLM => by
    refine Tm_suc (fun k => by rw [x_small]) ?_
    refine Tm_ite (fun _ => ?_) (fun _ => l8 _ τ c hc hF t86 hLM (Or.inr rfl))
    refine Tm_suc (fun k => by rw [x_small]) ?_
    exact l8 _ τ c hc hF t86 hLM (Or.inl rfl)
  have l4 : ∀ (j m c : Nat) (N : Nat → Int32) (τ : MS), m < 65536 ^ j → m < 2147483648 → c + j ≤ 300 → N 2 = nI m → NF σ τ → τ.1 86 = nI c → LM (τ.2.2 44) c → Tm (fun k => x_small k 4 N τ) (VO g B h t σ) := by
    intro j
    induction j with
    | zero =>
      intro m c N τ hm hm2 hc n2 hF t86 hLM
      have hm : m = 0 := by
        have : m < 1 := hm
        omega
      refine Tm_suc (fun k => by rw [x_small]) ?_
      rw [n2, hm]
      exact Tm_ite (fun _ => l6 N τ c (by omega) hF t86 hLM) (fun q => absurd ((n_le0 (by decide)).mpr rfl) q)
    | succ j ih =>
      intro m c N τ hm hm2 hc n2 hF t86 hLM
      refine Tm_suc (fun k => by rw [x_small]) ?_
      rw [n2, t86]
      refine Tm_ite (fun _ => l6 N τ c (by omega) hF t86 hLM) (fun _ => ?_)
      refine Tm_chk (n_in (by omega) (by omega)) ?_
      rw [n_cl (p := c) (by omega)]
      show Tm (fun k => x_small k 5 N (mAr τ 44 c (nI m &&& 65535))) _
      refine Tm_suc (fun k => by rw [x_small]) ?_
      rw [n2, n_ushr16 hm2]
      show Tm (fun k => x_small k 4 (upd N 2 (nI (m / 65536))) (mSc (mAr τ 44 c (nI m &&& 65535)) 86 (τ.1 86 + 1))) _
      rw [t86, n_add1]
      refine ih (m / 65536) (c + 1) _ _ ?_ (by omega) (by omega) rfl (NF_tr hF (NF_tr (NF_ar (by decide)) (NF_sc (by decide)))) rfl ?_
      · rw [Nat.pow_succ] at hm
        exact Nat.div_lt_of_lt_mul (by rw [Nat.mul_comm]; exact hm)
      · show LM ((mAr τ 44 c (nI m &&& 65535)).2.2 44) (c + 1)
        rw [mAr_s]; exact LM_suc hLM (n_and16 _)
  have l3 : ∀ N : Nat → Int32, Tm (fun k => x_small k 3 N (mSc σ 86 0)) (VO g B h t σ) := fun N => by
    refine Tm_suc (fun k => by rw [x_small]) ?_
    by_cases z : 0 ≤ (N 100).toInt
    · have hb := i_bd (N 100)
      exact l4 2 (N 100).toInt.toNat 0 _ _ (by show _ < 4294967296; omega) (by omega) (by decide) (n_ofpos z) (NF_sc (by decide)) rfl (fun i hi => absurd hi (Nat.not_lt_zero i))
    · refine Tm_suc (fun k => by rw [x_small]) ?_
      refine Tm_ite (fun _ => l6 _ _ 0 (by decide) (NF_sc (by decide)) rfl (fun i hi => absurd hi (Nat.not_lt_zero i))) (fun q => absurd (i_le.mpr ?_) q)
      show (N 100).toInt ≤ 0
      omega
  refine Tm_suc (fun k => by rw [x_small]) ?_
  show Tm (fun k => x_small k 1 L (mSc σ 86 0)) _
  refine Tm_suc (fun k => by rw [x_small]) ?_
  refine Tm_ite (fun _ => ?_) (fun _ => l3 _)
  refine Tm_suc (fun k => by rw [x_small]) ?_
  exact l3 _
/-- what is known of a good whole -/
def Wh (σ : MS) (v n : Nat) : Prop := σ.2.2 28 (v + 1) = nI n ∧ 1 ≤ n ∧ n ≤ 65 ∧ v + 4 + n ≤ 1740000 ∧ WHk (σ.2.2 28) v n
theorem Wh_NF {τ : MS} {v n : Nat} (hN : NF σ τ) (hW : Wh σ v n) : Wh τ v n := by
  unfold Wh; rw [hN.2 28 (by decide)]; exact hW
theorem Wh_of (hS : HS g l B h σ) {v : Nat} (hv : v < 3 ∨ g v) (hk : kdN (σ.2.2 28) v = 2) : ∃ n, Wh σ v n := by
  have hB := HS_b hS
  unfold kdN at hk
  by_cases c : v < 3
  · by_cases c0 : v = 0
    · rw [if_pos c0] at hk; omega
    · rw [if_neg c0, if_pos c] at hk; omega
  · rw [if_neg (by omega), if_neg c] at hk
    obtain ⟨k, n, s, u, h1, h2, h3⟩ := HS_at hS (hv.resolve_left c)
    have hk5 := h1.2.2.2.2.1
    rw [h1.1, n_cl (by omega)] at hk
    obtain ⟨a, b, d⟩ := GW h1 hk
    exact ⟨n, h1.2.1, a, b, by omega, d⟩
theorem s_other (hP : VP g l B h t σ) {v n : Nat} (hW : Wh σ v n) {L : Nat → Int32} (hL : L 1 = nI v) : Tm (fun k => x_other k 0 L σ) (VO g B h t σ) := by
  obtain ⟨w1, w2, w3, w4, w5⟩ := hW
  have l4 : ∀ (N : Nat → Int32) (τ : MS), N 1 = nI v → NF σ τ → τ.1 86 = nI (n - 1) → LM (τ.2.2 44) (n - 1) → Tm (fun k => x_other k 4 N τ) (VO g B h t σ) := fun N τ n1 hF t86 hLM => by
    refine Tm_suc (fun k => by rw [x_other]) ?_
    refine Tm_ob (s_signOf (NF_HS hF hP.1) (m := v) (by omega) (by exact n1)) (fun r hr => ?_)
    rw [hr, hF.2 28 (by decide)]
    refine VO_NF_Tm hF hP (Tm_ob (s_wholeOf (NF_VP hF hP) (by omega) t86 hLM _ ?_) (fun r hr => Tm_some hr))
    show SgO (- σ.2.2 28 (v + 4)) _ _
    rcases w5.2 with (q | q) | ⟨q, _⟩
    · rw [q]; exact Or.inl (Or.inr rfl)
    · rw [q]; exact Or.inl (Or.inl rfl)
    · exact Or.inr (fun i hi => by omega)
  have l2 : ∀ (j i : Nat) (N : Nat → Int32) (τ : MS), j + i = n - 1 → N 1 = nI v → N 2 = nI i → NF σ τ → τ.1 84 = nI (n - 1) → τ.1 86 = nI (n - 1) → LM (τ.2.2 42) (n - 1) → LM (τ.2.2 44) i → Tm (fun k => x_other k 2 N τ) (VO g B h t σ) := by
    intro j
    induction j with
    | zero =>
      intro i N τ hi n1 n2 hF t84 t86 hA hC
      refine Tm_suc (fun k => by rw [x_other]) ?_
      rw [t84, n2]
      exact Tm_ite (fun _ => l4 N τ n1 hF t86 (LM_mo hC (by omega))) (fun q => absurd ((n_le (by omega) (by omega)).mpr (by omega)) q)
    | succ j ih =>
      intro i N τ hi n1 n2 hF t84 t86 hA hC
      refine Tm_suc (fun k => by rw [x_other]) ?_
      rw [t84, n2]
      refine Tm_ite (fun q => absurd ((n_le (by omega) (by omega)).mp q) (by omega)) (fun _ => ?_)
      refine Tm_chk (n_in (by omega) (by omega)) ?_
      refine Tm_chk (n_in (by omega) (by omega)) ?_
      rw [n_cl (p := i) (by omega)]
      show Tm (fun k => x_other k 3 N (mAr τ 44 i (τ.2.2 42 i))) _
      refine Tm_suc (fun k => by rw [x_other]) ?_
      exact ih (i + 1) _ _ (by omega) n1 (by show N 2 + 1 = _; rw [n2, n_add1]) (NF_tr hF (NF_ar (by decide))) t84 t86 (by rw [mAr_o (by decide)]; exact hA) (by rw [mAr_s]; exact LM_suc hC (hA i (by omega)))
  refine Tm_suc (fun k => by rw [x_other]) ?_
  refine Tm_ob (s_loadA hP.1 w1 w2 w3 w4 w5 (by exact hL)) (fun r hr => ?_)
  obtain ⟨hF, t84, hA, _, _⟩ := hr
  show Tm (fun k => x_other k 1 L (mSc r.2 86 (r.2.1 84))) _
  refine Tm_suc (fun k => by rw [x_other]) ?_
  exact l2 (n - 1) 0 _ _ (by omega) hL rfl (NF_tr hF (NF_sc (by decide))) t84 (by show r.2.1 84 = _; exact t84) hA (fun i hi => absurd hi (Nat.not_lt_zero i))
/-- digits of a NUMBER -/
theorem s_literal (hP : VP g l B h t σ) {f n : Nat} (hn : n ≤ 60) (hf : f + n ≤ 70000) (hd : ∀ i, i < n → ∃ d, d ≤ 300 ∧ σ.2.2 12 (f + i) = nI d) {L : Nat → Int32} (h1 : L 1 = nI f) (h2 : L 2 = nI n) : Tm (fun k => x_literal k 0 L σ) (VO g B h t σ) := by
  have l2 : ∀ (j i c : Nat) (N : Nat → Int32) (τ : MS), j + i = n → c ≤ i → N 1 = nI f → N 2 = nI n → N 3 = nI i → NF σ τ → τ.1 86 = nI c → LM (τ.2.2 44) c → Tm (fun k => x_literal k 2 N τ) (VO g B h t σ) := by
    intro j
    induction j with
    | zero =>
      intro i c N τ hi hc n1 n2 n3 hF t86 hLM
      refine Tm_suc (fun k => by rw [x_literal]) ?_
      rw [n2, n3]
      refine Tm_ite (fun _ => ?_) (fun q => absurd ((n_le (by omega) (by omega)).mpr (by omega)) q)
      refine Tm_suc (fun k => by rw [x_literal]) ?_
      refine VO_NF_Tm hF hP (Tm_ob (s_wholeOf (NF_VP hF hP) (by omega) t86 hLM _ (Or.inl (Or.inl rfl))) (fun r hr => Tm_some hr))
    | succ j ih =>
      intro i c N τ hi hc n1 n2 n3 hF t86 hLM
      -- the next digit
      have l7 : ∀ (c' : Nat) (N : Nat → Int32) (τ : MS), c' ≤ i + 1 → N 1 = nI f → N 2 = nI n → N 3 = nI i → NF σ τ → τ.1 86 = nI c' → LM (τ.2.2 44) c' → Tm (fun k => x_literal k 7 N τ) (VO g B h t σ) := fun c' N τ hc' n1 n2 n3 hF t86 hLM => by
        refine Tm_suc (fun k => by rw [x_literal]) ?_
        exact ih (i + 1) c' _ τ (by omega) hc' n1 n2 (by show N 3 + 1 = _; rw [n3, n_add1]) hF t86 hLM
      have l5 : ∀ (N : Nat → Int32) (τ : MS), N 1 = nI f → N 2 = nI n → N 3 = nI i → (¬ N 4 ≤ 0 → ∃ d, d ≤ 65535 ∧ N 4 = nI d) → NF σ τ → τ.1 86 = nI c → LM (τ.2.2 44) c → Tm (fun k => x_literal k 5 N τ) (VO g B h t σ) := fun N τ n1 n2 n3 n4 hF t86 hLM => by
        refine Tm_suc (fun k => by rw [x_literal]) ?_
        refine Tm_ite (fun _ => l7 c N τ (by omega) n1 n2 n3 hF t86 hLM) (fun z => ?_)
        rw [t86]
        refine Tm_chk (n_in (by omega) (by omega)) ?_
        rw [n_cl (p := c) (by omega)]
        show Tm (fun k => x_literal k 6 N (mAr τ 44 c (N 4))) _
        refine Tm_suc (fun k => by rw [x_literal]) ?_
        show Tm (fun k => x_literal k 7 N (mSc (mAr τ 44 c (N 4)) 86 (τ.1 86 + 1))) _
        rw [t86, n_add1]
        exact l7 (c + 1) N _ (by omega) n1 n2 n3 (NF_tr hF (NF_tr (NF_ar (by decide)) (NF_sc (by decide)))) rfl (by show LM ((mAr τ 44 c (N 4)).2.2 44) (c + 1); rw [mAr_s]; exact LM_suc hLM (n4 z))
      have l3 : ∀ (m k : Nat) (N : Nat → Int32) (τ : MS), m + k = c → N 1 = nI f → N 2 = nI n → N 3 = nI i → N 5 = nI k → (¬ N 4 ≤ 0 → ∃ d, d ≤ 65535 ∧ N 4 = nI d) → NF σ τ → τ.1 86 = nI c → LM (τ.2.2 44) c → Tm (fun f => x_literal f 3 N τ) (VO g B h t σ) := by
        intro m
        induction m with
        | zero =>
          intro k N τ hk n1 n2 n3 n5 n4 hF t86 hLM
          refine Tm_suc (fun k => by rw [x_literal]) ?_
          rw [t86, n5]
          exact Tm_ite (fun _ => l5 N τ n1 n2 n3 n4 hF t86 hLM) (fun q => absurd ((n_le (by omega) (by omega)).mpr (by omega)) q)
        | succ m ihm =>
          intro k N τ hk n1 n2 n3 n5 n4 hF t86 hLM
          refine Tm_suc (fun k => by rw [x_literal]) ?_
          rw [t86, n5]
          refine Tm_ite (fun q => absurd ((n_le (by omega) (by omega)).mp q) (by omega)) (fun _ => ?_)
          refine Tm_chk (n_in (by omega) (by omega)) ?_
          refine Tm_chk (n_in (by omega) (by omega)) ?_
          rw [n_cl (p := k) (by omega)]
          generalize 10 * τ.2.2 44 k + N 4 = x
          show Tm (fun f => x_literal f 4 (upd N 6 x) (mAr τ 44 k (x &&& 65535))) _
          refine Tm_suc (fun k => by rw [x_literal]) ?_
          exact ihm (k + 1) _ _ (by omega) n1 n2 n3 (by show N 5 + 1 = _; rw [n5, n_add1]) (fun z => n_shr16 x z) (NF_tr hF (NF_ar (by decide))) t86 (by rw [mAr_s]; exact LM_upd hLM (n_and16 _))
      refine Tm_suc (fun k => by rw [x_literal]) ?_
      rw [n2, n3, n1, n_add (by omega)]
      refine Tm_ite (fun q => absurd ((n_le (by omega) (by omega)).mp q) (by omega)) (fun _ => ?_)
      refine Tm_chk (n_in (by omega) (by omega)) ?_
      obtain ⟨d, d1, d2⟩ := hd i (by omega)
      rw [n_cl (p := f + i) (by omega), hF.2 12 (by decide), d2]
      refine l3 c 0 _ _ (by omega) n1 n2 n3 rfl (fun z => ?_) hF t86 hLM
      have z : ¬ nI d - 48 ≤ 0 := z
      show ∃ e, e ≤ 65535 ∧ nI d - 48 = nI e
      by_cases q : 48 ≤ d
      · exact ⟨d - 48, by omega, n_sub (q := 48) (by omega) q⟩
      · refine absurd (i_le.mpr ?_) z
        rw [i_sub (by rw [n_int (by omega)]; show (-2147483648 : Int) ≤ (d : Int) - 48; omega) (by rw [n_int (by omega)]; show (d : Int) - 48 ≤ 2147483647; omega), n_int (by omega)]
        show (d : Int) - 48 ≤ 0
        omega
  refine Tm_suc (fun k => by rw [x_literal]) ?_
  show Tm (fun k => x_literal k 1 L (mSc σ 86 0)) _
  refine Tm_suc (fun k => by rw [x_literal]) ?_
  exact l2 n 0 0 _ _ (by omega) (Nat.le_refl _) h1 h2 rfl (NF_sc (by decide)) rfl (fun i hi => absurd hi (Nat.not_lt_zero i))
end SML
end JnS100
section JnS101
/-! Sums, products of wholes (reference). -/
section ADD
variable {g : Nat → Prop} {l : List Nat} {B h t : Nat} {σ : MS}
theorem n_m1 : nI 0 - 1 = -1 := rfl
theorem s_cmpR42 {n : Nat} (hn : n ≤ 139) {L : Nat → Int32} (h1 : L 1 = nI n) : Tm (fun k => x_compareRows__42__43 k 0 L σ) (fun r => r.2 = σ) := by
  have l2 : ∀ N : Nat → Int32, Tm (fun k => x_compareRows__42__43 k 2 N σ) (fun r => r.2 = σ) := fun N => by
    refine Tm_suc (fun k => by rw [x_compareRows__42__43]) ?_
    exact Tm_some rfl
  have l1 : ∀ (i : Nat) (N : Nat → Int32), i ≤ 139 → N 5 = nI i - 1 → Tm (fun k => x_compareRows__42__43 k 1 N σ) (fun r => r.2 = σ) := by
    intro i
    induction i with
    | zero =>
      intro N hi n5
      refine Tm_suc (fun k => by rw [x_compareRows__42__43]) ?_
      rw [n5]
      exact Tm_ite (fun _ => l2 N) (fun z => absurd (show nI 0 - 1 < 0 by decide) z)
    | succ i ih =>
      intro N hi n5
      rw [show nI (i + 1) - 1 = nI i from n_sub (p := i + 1) (q := 1) (by omega) (by omega)] at n5
      refine Tm_suc (fun k => by rw [x_compareRows__42__43]) ?_
      rw [n5]
      refine Tm_ite (fun _ => l2 N) (fun _ => ?_)
      refine Tm_ite (fun _ => ?_) (fun _ => l2 N)
      refine Tm_chk (n_in (by omega) (by omega)) ?_
      refine Tm_chk (n_in (by omega) (by omega)) ?_
      exact ih _ (by omega) (by show nI i + (-1) = nI i - 1; exact (Int32.sub_eq_add_neg _ _).symm)
  refine Tm_suc (fun k => by rw [x_compareRows__42__43]) ?_
  rw [h1]
  exact l1 n _ hn rfl
theorem s_cmpR46 {n : Nat} (hn : n ≤ 139) {L : Nat → Int32} (h1 : L 1 = nI n) : Tm (fun k => x_compareRows__46__43 k 0 L σ) (fun r => r.2 = σ) := by
  have l2 : ∀ N : Nat → Int32, Tm (fun k => x_compareRows__46__43 k 2 N σ) (fun r => r.2 = σ) := fun N => by
    refine Tm_suc (fun k => by rw [x_compareRows__46__43]) ?_
    exact Tm_some rfl
  have l1 : ∀ (i : Nat) (N : Nat → Int32), i ≤ 139 → N 5 = nI i - 1 → Tm (fun k => x_compareRows__46__43 k 1 N σ) (fun r => r.2 = σ) := by
    intro i
    induction i with
    | zero =>
      intro N hi n5
      refine Tm_suc (fun k => by rw [x_compareRows__46__43]) ?_
      rw [n5]
      exact Tm_ite (fun _ => l2 N) (fun z => absurd (show nI 0 - 1 < 0 by decide) z)
    | succ i ih =>
      intro N hi n5
      rw [show nI (i + 1) - 1 = nI i from n_sub (p := i + 1) (q := 1) (by omega) (by omega)] at n5
      refine Tm_suc (fun k => by rw [x_compareRows__46__43]) ?_
      rw [n5]
      refine Tm_ite (fun _ => l2 N) (fun _ => ?_)
      refine Tm_ite (fun _ => ?_) (fun _ => l2 N)
      refine Tm_chk (n_in (by omega) (by omega)) ?_
      refine Tm_chk (n_in (by omega) (by omega)) ?_
      exact ih _ (by omega) (by show nI i + (-1) = nI i - 1; exact (Int32.sub_eq_add_neg _ _).symm)
  refine Tm_suc (fun k => by rw [x_compareRows__46__43]) ?_
  rw [h1]
  exact l1 n _ hn rfl
/-- the signs of the two, as add holds them -/
def SgP (N : Nat → Int32) : Prop := (N 4 = 1 ∨ N 4 = -1) ∨ (N 4 = 0 ∧ (N 5 = 1 ∨ N 5 = -1))
def SgQ (N : Nat → Int32) : Prop := (N 4 = 1 ∨ N 4 = -1) ∧ (N 5 = 1 ∨ N 5 = -1)
theorem SgP_0 {N : Nat → Int32} {R : Nat → Int32} {c : Nat} (h : SgP N ∨ c = 0) (z : N 4 = 0) : SgO (N 5) R c := by
  rcases h with ((q | q) | q) | q
  · rw [q] at z; exact absurd z (by decide)
  · rw [q] at z; exact absurd z (by decide)
  · exact Or.inl q.2
  · exact Or.inr (fun i hi => by omega)
theorem SgP_1 {N : Nat → Int32} {R : Nat → Int32} {c : Nat} (h : SgP N ∨ c = 0) (z : ¬ N 4 = 0) : SgO (N 4) R c := by
  rcases h with (q | q) | q
  · exact Or.inl q
  · exact absurd q.1 z
  · exact Or.inr (fun i hi => by omega)
theorem Sg_mul {x y : Int32} (hx : x = 1 ∨ x = -1) (hy : y = 1 ∨ y = -1) : x * y = 1 ∨ x * y = -1 := by
  rcases hx with rfl | rfl <;> rcases hy with rfl | rfl <;> decide
theorem Sg_add {H : Nat → Int32} {a b n m : Nat} {L : Nat → Int32} (ha : SgOK H a n) (hb : SgOK H b m) (h3 : L 3 = 1 ∨ L 3 = -1) : (H (a + 4) = 0 → SgP (upd (upd L 4 (H (a + 4))) 5 (H (b + 4) * L 3)) ∨ (n = 1 ∧ m = 1)) ∧ (¬ H (a + 4) = 0 → SgP (upd (upd L 4 (H (a + 4))) 5 (H (b + 4) * L 3)) ∨ (n = 1 ∧ m = 1)) ∧ (¬ H (a + 4) = 0 → ¬ H (b + 4) * L 3 = 0 → SgQ (upd (upd L 4 (H (a + 4))) 5 (H (b + 4) * L 3))) := by
  refine ⟨fun z => ?_, fun z => Or.inl (Or.inl ?_), fun z w => ⟨?_, ?_⟩⟩
  · rcases ha with (q | q) | q
    · rw [q] at z; exact absurd z (by decide)
    · rw [q] at z; exact absurd z (by decide)
    rcases hb with p | p
    · exact Or.inl (Or.inr ⟨z, Sg_mul p h3⟩)
    · exact Or.inr ⟨q.1, p.1⟩
  · show H (a + 4) = 1 ∨ H (a + 4) = -1
    exact ha.resolve_right (fun q => z q.2)
  · show H (a + 4) = 1 ∨ H (a + 4) = -1
    exact ha.resolve_right (fun q => z q.2)
  · show H (b + 4) * L 3 = 1 ∨ H (b + 4) * L 3 = -1
    refine Sg_mul (hb.resolve_right (fun q => w ?_)) h3
    rw [q.2]
    rcases h3 with p | p <;> rw [p] <;> decide
theorem s_add (hP : VP g l B h t σ) {a b n m : Nat} (hA : Wh σ a n) (hB : Wh σ b m) {L : Nat → Int32} (h1 : L 1 = nI a) (h2 : L 2 = nI b) (h3 : L 3 = 1 ∨ L 3 = -1) : Tm (fun k => x_add k 0 L σ) (VO g B h t σ) := by
  obtain ⟨a1, a2, a3, a4, a5⟩ := hA
  refine Tm_suc (fun k => by rw [x_add]) ?_
  refine Tm_ob (s_loadA hP.1 a1 a2 a3 a4 a5 (by exact h1)) (fun r1 hr1 => ?_)
  obtain ⟨hF1, p84, pA, _, _⟩ := hr1
  have bS := hB.2.2.2.2.2
  obtain ⟨b1, b2, b3, b4, b5⟩ := Wh_NF hF1 hB
  refine Tm_ob (s_loadB (NF_HS hF1 hP.1) b1 b2 b3 b4 b5 (by exact h2)) (fun r2 hr2 => ?_)
  obtain ⟨hF2, p85, pB, q42, q84⟩ := hr2
  have hF := NF_tr hF1 hF2
  have s84 : r2.2.1 84 = nI (n - 1) := q84.trans p84
  have sA : LM (r2.2.2.2 42) (n - 1) := by rw [q42]; exact pA
  refine Tm_ob (s_signOf (NF_HS hF hP.1) (m := a) (by omega) (by exact h1)) (fun r3 hr3 => ?_)
  rw [hr3]
  refine Tm_ob (s_signOf (NF_HS hF hP.1) (m := b) (by omega) (by exact h2)) (fun r4 hr4 => ?_)
  rw [hr4]
  have s28 : r2.2.2.2 28 = σ.2.2 28 := hF.2 28 (by decide)
  rw [s28]
  -- the answer
  have wf : ∀ (N : Nat → Int32) (τ : MS) (c : Nat), c ≤ 300 → NF σ τ → τ.1 86 = nI c → LM (τ.2.2 44) c → ∀ x : Int32, SgO x (τ.2.2 44) c → Tm (fun k => ob (x_wholeOf k 0 (upd (fun _ => 0) 1 x) τ) (fun r1 => some (r1.1, r1.2))) (VO g B h t σ) := fun N τ c hc hF t86 hLM x hx => VO_NF_Tm hF hP (Tm_ob (s_wholeOf (NF_VP hF hP) hc t86 hLM _ hx) (fun r hr => Tm_some hr))
  have l13 : ∀ (N : Nat → Int32) (τ : MS) (c : Nat), c ≤ 300 → NF σ τ → τ.1 86 = nI c → LM (τ.2.2 44) c → (SgP N ∨ c = 0) → Tm (fun k => x_add k 13 N τ) (VO g B h t σ) := fun N τ c hc hF t86 hLM hG => by
    have l15 : ∀ N : Nat → Int32, SgO (N 100) (τ.2.2 44) c → Tm (fun k => x_add k 15 N τ) (VO g B h t σ) := fun N hx => by
      refine Tm_suc (fun k => by rw [x_add]) ?_
      exact wf N τ c hc hF t86 hLM _ hx
    refine Tm_suc (fun k => by rw [x_add]) ?_
    refine Tm_ite (fun w0 => l15 _ (SgP_0 hG w0)) (fun w0 => ?_)
    refine Tm_suc (fun k => by rw [x_add]) ?_
    exact l15 _ (SgP_1 hG w0)
  have l30 : ∀ (N : Nat → Int32) (τ : MS) (c : Nat), c ≤ 300 → NF σ τ → τ.1 86 = nI c → LM (τ.2.2 44) c → SgQ N → Tm (fun k => x_add k 30 N τ) (VO g B h t σ) := fun N τ c hc hF t86 hLM hG => by
    have l32 : ∀ N : Nat → Int32, (N 100 = 1 ∨ N 100 = -1) → Tm (fun k => x_add k 32 N τ) (VO g B h t σ) := fun N hx => by
      refine Tm_suc (fun k => by rw [x_add]) ?_
      exact wf N τ c hc hF t86 hLM _ (Or.inl hx)
    refine Tm_suc (fun k => by rw [x_add]) ?_
    refine Tm_ite (fun _ => ?_) (fun _ => l32 _ hG.1)
    refine Tm_suc (fun k => by rw [x_add]) ?_
    exact l32 _ hG.2
  -- sums
  have l5 : ∀ (c j i : Nat) (N : Nat → Int32) (τ : MS), c ≤ 64 → j + i = c → N 7 = nI i → (¬ N 6 ≤ 0 → ∃ d, d ≤ 65535 ∧ N 6 = nI d) → (SgP N ∨ (c = 0 ∧ N 6 ≤ 0)) → NF σ τ → τ.1 84 = nI (n - 1) → τ.1 85 = nI (m - 1) → τ.1 86 = nI c → LM (τ.2.2 44) i → Tm (fun k => x_add k 5 N τ) (VO g B h t σ) := by
    intro c j
    induction j with
    | zero =>
      intro i N τ hc hi n7 n6 hG hF t84 t85 t86 hLM
      refine Tm_suc (fun k => by rw [x_add]) ?_
      rw [t86, n7]
      refine Tm_ite (fun _ => ?_) (fun q => absurd ((n_le (by omega) (by omega)).mpr (by omega)) q)
      refine Tm_suc (fun k => by rw [x_add]) ?_
      refine Tm_ite (fun _ => l13 N τ c (by omega) hF t86 (LM_mo hLM (by omega)) (hG.imp id And.left)) (fun z => ?_)
      rw [t86]
      refine Tm_chk (n_in (by omega) (by omega)) ?_
      rw [n_cl (p := c) (by omega)]
      show Tm (fun k => x_add k 12 N (mAr τ 44 c (N 6))) _
      refine Tm_suc (fun k => by rw [x_add]) ?_
      show Tm (fun k => x_add k 13 N (mSc (mAr τ 44 c (N 6)) 86 (τ.1 86 + 1))) _
      rw [t86, n_add1]
      exact l13 N _ (c + 1) (by omega) (NF_tr hF (NF_tr (NF_ar (by decide)) (NF_sc (by decide)))) rfl (by show LM ((mAr τ 44 c (N 6)).2.2 44) (c + 1); rw [mAr_s]; exact LM_suc (LM_mo hLM (by omega)) (n6 z)) (Or.inl (hG.resolve_right (fun q => z q.2)))
    | succ j ih =>
      intro i N τ hc hi n7 n6 hG hF t84 t85 t86 hLM
      have l9 : ∀ N : Nat → Int32, SgP N → N 7 = nI i → Tm (fun k => x_add k 9 N τ) (VO g B h t σ) := fun N gN n7 => by
        refine Tm_suc (fun k => by rw [x_add]) ?_
        rw [n7]
        refine Tm_chk (n_in (by omega) (by omega)) ?_
        rw [n_cl (p := i) (by omega)]
        generalize N 102 + (N 101 + N 100) = x
        show Tm (fun k => x_add k 10 (upd N 6 x) (mAr τ 44 i (x &&& 65535))) _
        refine Tm_suc (fun k => by rw [x_add]) ?_
        exact ih (i + 1) _ _ hc (by omega) (by show N 7 + 1 = _; rw [n7, n_add1]) (fun z => n_shr16 x z) (Or.inl gN) (NF_tr hF (NF_ar (by decide))) t84 t85 t86 (by rw [mAr_s]; exact LM_suc hLM (n_and16 _))
      have l7 : ∀ N : Nat → Int32, SgP N → N 7 = nI i → Tm (fun k => x_add k 7 N τ) (VO g B h t σ) := fun N gN n7 => by
        refine Tm_suc (fun k => by rw [x_add]) ?_
        rw [t85, n7]
        refine Tm_ite (fun _ => ?_) (fun _ => ?_)
        · refine Tm_suc (fun k => by rw [x_add]) ?_
          exact l9 _ gN n7
        · refine Tm_chk (n_in (by omega) (by omega)) ?_
          exact l9 _ gN n7
      have gN : SgP N := hG.resolve_right (fun q => by omega)
      refine Tm_suc (fun k => by rw [x_add]) ?_
      rw [t86, n7, t84]
      refine Tm_ite (fun q => absurd ((n_le (by omega) (by omega)).mp q) (by omega)) (fun _ => ?_)
      refine Tm_ite (fun _ => ?_) (fun _ => ?_)
      · refine Tm_suc (fun k => by rw [x_add]) ?_
        exact l7 _ gN n7
      · refine Tm_chk (n_in (by omega) (by omega)) ?_
        exact l7 _ gN n7
  -- differences
  have l20 : ∀ (c j i : Nat) (N : Nat → Int32) (τ : MS), c ≤ 64 → j + i = c → N 8 = nI i → SgQ N → NF σ τ → τ.1 84 = nI (n - 1) → τ.1 85 = nI (m - 1) → τ.1 86 = nI c → LM (τ.2.2 44) i → Tm (fun k => x_add k 20 N τ) (VO g B h t σ) := by
    intro c j
    induction j with
    | zero =>
      intro i N τ hc hi n7 hG hF t84 t85 t86 hLM
      refine Tm_suc (fun k => by rw [x_add]) ?_
      rw [t86, n7]
      exact Tm_ite (fun _ => l30 N τ c (by omega) hF t86 (LM_mo hLM (by omega)) hG) (fun q => absurd ((n_le (by omega) (by omega)).mpr (by omega)) q)
    | succ j ih =>
      intro i N τ hc hi n7 hG hF t84 t85 t86 hLM
      have l28 : ∀ N : Nat → Int32, SgQ N → N 8 = nI i → Tm (fun k => x_add k 28 N τ) (VO g B h t σ) := fun N gN n7 => by
        refine Tm_suc (fun k => by rw [x_add]) ?_
        rw [n7]
        refine Tm_chk (n_in (by omega) (by omega)) ?_
        rw [n_cl (p := i) (by omega)]
        show Tm (fun k => x_add k 29 (upd N 7 (N 100)) (mAr τ 44 i (N 11 &&& 65535))) _
        refine Tm_suc (fun k => by rw [x_add]) ?_
        exact ih (i + 1) _ _ hc (by omega) (by show N 8 + 1 = _; rw [n7, n_add1]) gN (NF_tr hF (NF_ar (by decide))) t84 t85 t86 (by rw [mAr_s]; exact LM_suc hLM (n_and16 _))
      have l26 : ∀ N : Nat → Int32, SgQ N → N 8 = nI i → Tm (fun k => x_add k 26 N τ) (VO g B h t σ) := fun N gN n7 => by
        refine Tm_suc (fun k => by rw [x_add]) ?_
        refine Tm_ite (fun _ => ?_) (fun _ => l28 _ gN n7)
        refine Tm_suc (fun k => by rw [x_add]) ?_
        exact l28 _ gN n7
      have l24 : ∀ N : Nat → Int32, SgQ N → N 8 = nI i → Tm (fun k => x_add k 24 N τ) (VO g B h t σ) := fun N gN n7 => by
        refine Tm_suc (fun k => by rw [x_add]) ?_
        refine Tm_ite (fun _ => ?_) (fun _ => l26 _ gN n7)
        refine Tm_suc (fun k => by rw [x_add]) ?_
        exact l26 _ gN n7
      have l22 : ∀ N : Nat → Int32, SgQ N → N 8 = nI i → Tm (fun k => x_add k 22 N τ) (VO g B h t σ) := fun N gN n7 => by
        refine Tm_suc (fun k => by rw [x_add]) ?_
        rw [t85, n7]
        refine Tm_ite (fun _ => ?_) (fun _ => ?_)
        · refine Tm_suc (fun k => by rw [x_add]) ?_
          exact l24 _ gN n7
        · refine Tm_chk (n_in (by omega) (by omega)) ?_
          exact l24 _ gN n7
      refine Tm_suc (fun k => by rw [x_add]) ?_
      rw [t86, n7, t84]
      refine Tm_ite (fun q => absurd ((n_le (by omega) (by omega)).mp q) (by omega)) (fun _ => ?_)
      refine Tm_ite (fun _ => ?_) (fun _ => ?_)
      · refine Tm_suc (fun k => by rw [x_add]) ?_
        exact l22 _ hG n7
      · refine Tm_chk (n_in (by omega) (by omega)) ?_
        exact l22 _ hG n7
  have nil : LM (r2.2.2.2 44) 0 := fun i hi => absurd hi (Nat.not_lt_zero i)
  have go1 : ∀ N : Nat → Int32, (SgP N ∨ (n = 1 ∧ m = 1)) → Tm (fun k => x_add k 1 N r2.2) (VO g B h t σ) := fun N gN => by
    have l3 : ∀ (c : Nat) (N : Nat → Int32), c ≤ 64 → N 6 = 0 → N 100 = nI c → (SgP N ∨ c = 0) → Tm (fun k => x_add k 3 N r2.2) (VO g B h t σ) := fun c N hc n6 n100 gN => by
      refine Tm_suc (fun k => by rw [x_add]) ?_
      rw [n100]
      show Tm (fun k => x_add k 4 N (mSc r2.2 86 (nI c))) _
      refine Tm_suc (fun k => by rw [x_add]) ?_
      have n6' : N 6 ≤ 0 := by rw [n6]; decide
      refine l5 c c 0 _ _ hc (by omega) rfl (fun z => absurd n6' z) (gN.imp id (fun q => ⟨q, n6'⟩)) (NF_tr hF (NF_sc (by decide))) s84 p85 rfl nil
    refine Tm_suc (fun k => by rw [x_add]) ?_
    refine Tm_ite (fun _ => ?_) (fun _ => ?_)
    · refine Tm_suc (fun k => by rw [x_add]) ?_
      exact l3 (m - 1) _ (by omega) rfl p85 (gN.imp id (fun q => by omega))
    · exact l3 (n - 1) _ (by omega) rfl s84 (gN.imp id (fun q => by omega))
  have go16 : ∀ N : Nat → Int32, SgQ N → Tm (fun k => x_add k 16 N r2.2) (VO g B h t σ) := fun N gN => by
    have l18 : ∀ (c : Nat) (N : Nat → Int32), c ≤ 64 → N 100 = nI c → SgQ N → Tm (fun k => x_add k 18 N r2.2) (VO g B h t σ) := fun c N hc n100 gN => by
      refine Tm_suc (fun k => by rw [x_add]) ?_
      rw [n100]
      show Tm (fun k => x_add k 19 N (mSc r2.2 86 (nI c))) _
      refine Tm_suc (fun k => by rw [x_add]) ?_
      exact l20 c c 0 _ _ hc (by omega) rfl gN (NF_tr hF (NF_sc (by decide))) s84 p85 rfl nil
    refine Tm_suc (fun k => by rw [x_add]) ?_
    refine Tm_ob (s_cmpR42 (n := n - 1) (by omega) (by exact s84)) (fun r5 hr5 => ?_)
    rw [hr5]
    refine Tm_ite (fun _ => ?_) (fun _ => ?_)
    · refine Tm_suc (fun k => by rw [x_add]) ?_
      exact l18 (m - 1) _ (by omega) p85 gN
    · exact l18 (n - 1) _ (by omega) s84 gN
  obtain ⟨z1, z2, z3⟩ := Sg_add a5.2 bS h3
  refine Tm_ite (fun w0 => go1 _ (z1 w0)) (fun w0 => ?_)
  refine Tm_ite (fun w1 => go1 _ (z2 w0)) (fun w1 => ?_)
  exact Tm_ite (fun _ => go1 _ (z2 w0)) (fun _ => go16 _ (z3 w0 w1))
end ADD
end JnS101
section JnS102
/-! Products, powers of wholes (reference). -/
section MUL
variable {g : Nat → Prop} {l : List Nat} {B h t : Nat} {σ : MS}
theorem w_int {d : Nat} (h : d < 2147483648) : (nI d).toInt64.toInt = d := by
  rw [Int32.toInt_toInt64, n_int h]
/-- a step of a product: the carry stays small -/
theorem w_step {j : Int64} {c r a b : Nat} (hj : j.toInt = c) (hc : c ≤ 65535) (hr : r ≤ 65535) (ha : a ≤ 65535) (hb : b ≤ 65535) : ∃ c', c' ≤ 65535 ∧ ((j + ((nI r).toInt64 + (nI a).toInt64 * (nI b).toInt64)) >>> ((16 : Int32).toInt64 &&& 63)).toInt = (c' : Nat) := by
  have hab : a * b ≤ 65535 * 65535 := Nat.mul_le_mul ha hb
  have e1 : ((nI a).toInt64 * (nI b).toInt64).toInt = ((a * b : Nat) : Int) := by
    rw [Int64.toInt_mul, w_int (by omega), w_int (by omega), ← Int.natCast_mul]
    exact Int.bmod_eq_of_le (by omega) (by omega)
  have e2 : ((nI r).toInt64 + (nI a).toInt64 * (nI b).toInt64).toInt = ((r + a * b : Nat) : Int) := by
    rw [Int64.toInt_add, e1, w_int (by omega)]
    rw [← Int.natCast_add]
    exact Int.bmod_eq_of_le (by omega) (by omega)
  have e3 : (j + ((nI r).toInt64 + (nI a).toInt64 * (nI b).toInt64)).toInt = ((c + (r + a * b) : Nat) : Int) := by
    rw [Int64.toInt_add, e2, hj, ← Int.natCast_add]
    exact Int.bmod_eq_of_le (by omega) (by omega)
  refine ⟨(c + (r + a * b)) / 65536, by omega, ?_⟩
  rw [w_shr16, e3]
  omega
theorem w_small {j : Int64} {c : Nat} (hj : j.toInt = c) (hc : c ≤ 65535) : ∃ d, d ≤ 65535 ∧ j.toInt32 = nI d := by
  refine ⟨c, hc, ?_⟩
  rw [i_eq, Int64.toInt_toInt32, hj, n_int (by omega)]
  exact Int.bmod_eq_of_le (by omega) (by omega)
theorem s_multiply (hP : VP g l B h t σ) {a b n m : Nat} (hA : Wh σ a n) (hB : Wh σ b m) {L : Nat → Int32} {J : Nat → Int64} (h1 : L 1 = nI a) (h2 : L 2 = nI b) : Tm (fun k => x_multiply k 0 L J σ) (VO g B h t σ) := by
  obtain ⟨a1, a2, a3, a4, a5⟩ := hA
  refine Tm_suc (fun k => by rw [x_multiply]) ?_
  refine Tm_ob (s_loadA hP.1 a1 a2 a3 a4 a5 (by exact h1)) (fun r1 hr1 => ?_)
  obtain ⟨hF1, p84, pA, _, _⟩ := hr1
  have bS := hB.2.2.2.2.2
  obtain ⟨b1, b2, b3, b4, b5⟩ := Wh_NF hF1 hB
  refine Tm_ob (s_loadB (NF_HS hF1 hP.1) b1 b2 b3 b4 b5 (by exact h2)) (fun r2 hr2 => ?_)
  obtain ⟨hF2, p85, pB, q42, q84⟩ := hr2
  have hF := NF_tr hF1 hF2
  have s84 : r2.2.1 84 = nI (n - 1) := q84.trans p84
  have sA : LM (r2.2.2.2 42) (n - 1) := by rw [q42]; exact pA
  rw [s84, p85, n_add (by omega)]
  show Tm (fun k => x_multiply k 1 L J (mSc r2.2 86 (nI (n - 1 + (m - 1))))) _
  -- what holds all along
  have l10 : ∀ (N : Nat → Int32) (K : Nat → Int64) (τ : MS), N 1 = nI a → N 2 = nI b → NF σ τ → τ.1 86 = nI (n - 1 + (m - 1)) → LM (τ.2.2 44) (n - 1 + (m - 1)) → ((n = 1 ∨ m = 1) → ∀ i, i < n - 1 + (m - 1) → τ.2.2 44 i = 0) → Tm (fun k => x_multiply k 10 N K τ) (VO g B h t σ) := fun N K τ n1 n2 hF t86 hLM hZ => by
    refine Tm_suc (fun k => by rw [x_multiply]) ?_
    refine Tm_ob (s_signOf (NF_HS hF hP.1) (m := a) (by omega) (by exact n1)) (fun r3 hr3 => ?_)
    rw [hr3]
    refine Tm_ob (s_signOf (NF_HS hF hP.1) (m := b) (by omega) (by exact n2)) (fun r4 hr4 => ?_)
    rw [hr4, hF.2 28 (by decide)]
    refine VO_NF_Tm hF hP (Tm_ob (s_wholeOf (NF_VP hF hP) (by omega) t86 hLM _ ?_) (fun r hr => Tm_some hr))
    show SgO (σ.2.2 28 (a + 4) * σ.2.2 28 (b + 4)) _ _
    rcases a5.2 with q | q
    · rcases bS with p | p
      · exact Or.inl (Sg_mul q p)
      · exact Or.inr (hZ (Or.inr p.1))
    · exact Or.inr (hZ (Or.inl q.1))
  have l5 : ∀ (j i : Nat) (N : Nat → Int32) (K : Nat → Int64) (τ : MS), j + i = n - 1 → N 1 = nI a → N 2 = nI b → N 3 = nI i → NF σ τ → τ.1 84 = nI (n - 1) → τ.1 85 = nI (m - 1) → τ.1 86 = nI (n - 1 + (m - 1)) → LM (τ.2.2 42) (n - 1) → LM (τ.2.2 43) (m - 1) → LM (τ.2.2 44) (n - 1 + (m - 1)) → ((n = 1 ∨ m = 1) → ∀ i, i < n - 1 + (m - 1) → τ.2.2 44 i = 0) → Tm (fun k => x_multiply k 5 N K τ) (VO g B h t σ) := by
    intro j
    induction j with
    | zero =>
      intro i N K τ hi n1 n2 n3 hF t84 t85 t86 tA tB hLM hZ
      refine Tm_suc (fun k => by rw [x_multiply]) ?_
      rw [t84, n3]
      exact Tm_ite (fun _ => l10 N K τ n1 n2 hF t86 hLM hZ) (fun q => absurd ((n_le (by omega) (by omega)).mpr (by omega)) q)
    | succ j ih =>
      intro i N K τ hi n1 n2 n3 hF t84 t85 t86 tA tB hLM hZ
      have l6 : ∀ (q p : Nat) (N : Nat → Int32) (K : Nat → Int64) (c : Nat) (τ : MS), q + p = m - 1 → N 1 = nI a → N 2 = nI b → N 3 = nI i → N 6 = nI p → (K 4).toInt = c → c ≤ 65535 → (m = 1 → K 4 = 0) → NF σ τ → τ.1 84 = nI (n - 1) → τ.1 85 = nI (m - 1) → τ.1 86 = nI (n - 1 + (m - 1)) → LM (τ.2.2 42) (n - 1) → LM (τ.2.2 43) (m - 1) → LM (τ.2.2 44) (n - 1 + (m - 1)) → ((n = 1 ∨ m = 1) → ∀ i, i < n - 1 + (m - 1) → τ.2.2 44 i = 0) → Tm (fun k => x_multiply k 6 N K τ) (VO g B h t σ) := by
        intro q
        induction q with
        | zero =>
          intro p N K c τ hp n1 n2 n3 n6 k4 hc k0 hF t84 t85 t86 tA tB hLM hZ
          refine Tm_suc (fun k => by rw [x_multiply]) ?_
          rw [t85, n6]
          refine Tm_ite (fun _ => ?_) (fun q => absurd ((n_le (by omega) (by omega)).mpr (by omega)) q)
          refine Tm_suc (fun k => by rw [x_multiply]) ?_
          rw [n3, t85, n_add (by omega)]
          refine Tm_chk (n_in (by omega) (by omega)) ?_
          rw [n_cl (p := i + (m - 1)) (by omega)]
          show Tm (fun k => x_multiply k 9 N K (mAr τ 44 (i + (m - 1)) (K 4).toInt32)) _
          refine Tm_suc (fun k => by rw [x_multiply]) ?_
          refine ih (i + 1) _ K _ (by omega) n1 n2 (by show N 3 + 1 = _; rw [n3, n_add1]) (NF_tr hF (NF_ar (by decide))) t84 t85 t86 (by rw [mAr_o (by decide)]; exact tA) (by rw [mAr_o (by decide)]; exact tB) (by rw [mAr_s]; exact LM_upd hLM (w_small k4 hc)) (fun z u hu => ?_)
          rw [mAr_s]
          by_cases eu : u = i + (m - 1)
          · rw [eu, upd_same, k0 (by omega)]; rfl
          · rw [upd_other eu]; exact hZ z u hu
        | succ q ihq =>
          intro p N K c τ hp n1 n2 n3 n6 k4 hc k0 hF t84 t85 t86 tA tB hLM hZ
          refine Tm_suc (fun k => by rw [x_multiply]) ?_
          rw [t85, n6, n3, n_add (by omega)]
          refine Tm_ite (fun w => absurd ((n_le (by omega) (by omega)).mp w) (by omega)) (fun _ => ?_)
          refine Tm_chk (n_in (by omega) (by omega)) ?_
          refine Tm_chk (n_in (by omega) (by omega)) ?_
          refine Tm_chk (n_in (by omega) (by omega)) ?_
          refine Tm_chk (n_in (by omega) (by omega)) ?_
          rw [n_cl (p := i + p) (by omega), n_cl (p := i) (by omega), n_cl (p := p) (by omega)]
          obtain ⟨x, x1, x2⟩ := hLM (i + p) (by omega)
          obtain ⟨y, y1, y2⟩ := tA i (by omega)
          obtain ⟨z, z1, z2⟩ := tB p (by omega)
          rw [x2, y2, z2]
          obtain ⟨c', c1, c2⟩ := w_step k4 hc x1 y1 z1
          generalize K 4 + ((nI x).toInt64 + (nI y).toInt64 * (nI z).toInt64) = s at c2
          show Tm (fun k => x_multiply k 7 N (updW K 4 s) (mAr τ 44 (i + p) (s &&& 65535).toInt32)) _
          refine Tm_suc (fun k => by rw [x_multiply]) ?_
          exact ihq (p + 1) _ _ c' _ (by omega) n1 n2 n3 (by show N 6 + 1 = _; rw [n6, n_add1]) c2 c1 (fun z => by omega) (NF_tr hF (NF_ar (by decide))) t84 t85 t86 (by rw [mAr_o (by decide)]; exact tA) (by rw [mAr_o (by decide)]; exact tB) (by rw [mAr_s]; exact LM_upd hLM (w_and16 _)) (fun z => by omega)
      refine Tm_suc (fun k => by rw [x_multiply]) ?_
      rw [t84, n3]
      refine Tm_ite (fun q => absurd ((n_le (by omega) (by omega)).mp q) (by omega)) (fun _ => ?_)
      exact l6 (m - 1) 0 _ _ 0 τ (by omega) n1 n2 n3 rfl rfl (by decide) (fun _ => rfl) hF t84 t85 t86 tA tB hLM hZ
  have l2 : ∀ (j i : Nat) (N : Nat → Int32) (τ : MS), j + i = n - 1 + (m - 1) → N 1 = nI a → N 2 = nI b → N 3 = nI i → NF σ τ → τ.1 84 = nI (n - 1) → τ.1 85 = nI (m - 1) → τ.1 86 = nI (n - 1 + (m - 1)) → LM (τ.2.2 42) (n - 1) → LM (τ.2.2 43) (m - 1) → LM (τ.2.2 44) i → (∀ u, u < i → τ.2.2 44 u = 0) → Tm (fun k => x_multiply k 2 N J τ) (VO g B h t σ) := by
    intro j
    induction j with
    | zero =>
      intro i N τ hi n1 n2 n3 hF t84 t85 t86 tA tB hLM h0
      refine Tm_suc (fun k => by rw [x_multiply]) ?_
      rw [t86, n3]
      refine Tm_ite (fun _ => ?_) (fun q => absurd ((n_le (by omega) (by omega)).mpr (by omega)) q)
      refine Tm_suc (fun k => by rw [x_multiply]) ?_
      exact l5 (n - 1) 0 _ J τ (by omega) n1 n2 rfl hF t84 t85 t86 tA tB (LM_mo hLM (by omega)) (fun _ u hu => h0 u (by omega))
    | succ j ih =>
      intro i N τ hi n1 n2 n3 hF t84 t85 t86 tA tB hLM h0
      refine Tm_suc (fun k => by rw [x_multiply]) ?_
      rw [t86, n3]
      refine Tm_ite (fun q => absurd ((n_le (by omega) (by omega)).mp q) (by omega)) (fun _ => ?_)
      refine Tm_chk (n_in (by omega) (by omega)) ?_
      rw [n_cl (p := i) (by omega)]
      show Tm (fun k => x_multiply k 3 N J (mAr τ 44 i 0)) _
      refine Tm_suc (fun k => by rw [x_multiply]) ?_
      refine ih (i + 1) _ _ (by omega) n1 n2 (by show N 3 + 1 = _; rw [n3, n_add1]) (NF_tr hF (NF_ar (by decide))) t84 t85 t86 (by rw [mAr_o (by decide)]; exact tA) (by rw [mAr_o (by decide)]; exact tB) (by rw [mAr_s]; exact LM_suc hLM ⟨0, by decide, rfl⟩) (fun u hu => ?_)
      rw [mAr_s]
      by_cases eu : u = i
      · rw [eu, upd_same]
      · rw [upd_other eu]; exact h0 u (by omega)
  refine Tm_suc (fun k => by rw [x_multiply]) ?_
  exact l2 (n - 1 + (m - 1)) 0 _ _ (by omega) h1 h2 rfl (NF_tr hF (NF_sc (by decide))) s84 p85 rfl sA pB (fun i hi => absurd hi (Nat.not_lt_zero i)) (fun i hi => absurd hi (Nat.not_lt_zero i))
/-- rp by ra, into rc -/
theorem s_rowsTimes {p n : Nat} (hp : p ≤ 128) (hn : n ≤ 64) (h84 : σ.1 84 = nI n) (hA : LM (σ.2.2 42) n) (hR : LM (σ.2.2 47) p) {L : Nat → Int32} {J : Nat → Int64} (h1 : L 1 = nI p) : Tm (fun k => x_rowsTimes k 0 L J σ) (fun r => NF σ r.2 ∧ r.2.2.2 42 = σ.2.2 42 ∧ r.2.1 84 = nI n ∧ ∃ c, c ≤ p + n ∧ r.2.1 86 = nI c ∧ LM (r.2.2.2 44) c) := by
  have l10 : ∀ (c : Nat) (N : Nat → Int32) (K : Nat → Int64) (τ : MS), c ≤ p + n → NF σ τ → τ.2.2 42 = σ.2.2 42 → τ.1 84 = nI n → τ.1 86 = nI c → LM (τ.2.2 44) c → Tm (fun k => x_rowsTimes k 10 N K τ) (fun r => NF σ r.2 ∧ r.2.2.2 42 = σ.2.2 42 ∧ r.2.1 84 = nI n ∧ ∃ c, c ≤ p + n ∧ r.2.1 86 = nI c ∧ LM (r.2.2.2 44) c) := by
    intro c
    induction c with
    | zero =>
      intro N K τ hc hF t42 t84 t86 hLM
      refine Tm_suc (fun k => by rw [x_rowsTimes]) ?_
      rw [t86]
      refine Tm_ite (fun _ => ?_) (fun q => absurd ((n_le0 (by decide)).mpr rfl) q)
      refine Tm_suc (fun k => by rw [x_rowsTimes]) ?_
      exact Tm_some ⟨hF, t42, t84, 0, by omega, t86, hLM⟩
    | succ c ih =>
      intro N K τ hc hF t42 t84 t86 hLM
      refine Tm_suc (fun k => by rw [x_rowsTimes]) ?_
      rw [t86, show nI (c + 1) - 1 = nI c from n_sub (p := c + 1) (q := 1) (by omega) (by omega)]
      refine Tm_ite (fun q => absurd ((n_le0 (by omega)).mp q) (by omega)) (fun _ => ?_)
      refine Tm_chk (n_in (by omega) (by omega)) ?_
      refine Tm_ite (fun _ => ?_) (fun _ => ?_)
      · exact ih N K (mSc τ 86 (nI c)) (by omega) (NF_tr hF (NF_sc (by decide))) t42 t84 rfl (LM_mo hLM (by omega))
      · refine Tm_suc (fun k => by rw [x_rowsTimes]) ?_
        exact Tm_some ⟨hF, t42, t84, c + 1, hc, t86, hLM⟩
  have l5 : ∀ (j i : Nat) (N : Nat → Int32) (K : Nat → Int64) (τ : MS), j + i = p → N 1 = nI p → N 2 = nI i → NF σ τ → τ.2.2 42 = σ.2.2 42 → τ.2.2 47 = σ.2.2 47 → τ.1 84 = nI n → τ.1 86 = nI (p + n) → LM (τ.2.2 44) (p + n) → Tm (fun k => x_rowsTimes k 5 N K τ) (fun r => NF σ r.2 ∧ r.2.2.2 42 = σ.2.2 42 ∧ r.2.1 84 = nI n ∧ ∃ c, c ≤ p + n ∧ r.2.1 86 = nI c ∧ LM (r.2.2.2 44) c) := by
    intro j
    induction j with
    | zero =>
      intro i N K τ hi n1 n2 hF t42 t47 t84 t86 hLM
      refine Tm_suc (fun k => by rw [x_rowsTimes]) ?_
      rw [n1, n2]
      exact Tm_ite (fun _ => l10 (p + n) N K τ (Nat.le_refl _) hF t42 t84 t86 hLM) (fun q => absurd ((n_le (by omega) (by omega)).mpr (by omega)) q)
    | succ j ih =>
      intro i N K τ hi n1 n2 hF t42 t47 t84 t86 hLM
      have l6 : ∀ (q e : Nat) (N : Nat → Int32) (K : Nat → Int64) (c : Nat) (τ : MS), q + e = n → N 1 = nI p → N 2 = nI i → N 5 = nI e → (K 3).toInt = c → c ≤ 65535 → NF σ τ → τ.2.2 42 = σ.2.2 42 → τ.2.2 47 = σ.2.2 47 → τ.1 84 = nI n → τ.1 86 = nI (p + n) → LM (τ.2.2 44) (p + n) → Tm (fun k => x_rowsTimes k 6 N K τ) (fun r => NF σ r.2 ∧ r.2.2.2 42 = σ.2.2 42 ∧ r.2.1 84 = nI n ∧ ∃ c, c ≤ p + n ∧ r.2.1 86 = nI c ∧ LM (r.2.2.2 44) c) := by
        intro q
        induction q with
        | zero =>
          intro e N K c τ he n1 n2 n5 k3 hc hF t42 t47 t84 t86 hLM
          refine Tm_suc (fun k => by rw [x_rowsTimes]) ?_
          rw [t84, n5]
          refine Tm_ite (fun _ => ?_) (fun q => absurd ((n_le (by omega) (by omega)).mpr (by omega)) q)
          refine Tm_suc (fun k => by rw [x_rowsTimes]) ?_
          rw [n2, t84, n_add (by omega)]
          refine Tm_chk (n_in (by omega) (by omega)) ?_
          rw [n_cl (p := i + n) (by omega)]
          show Tm (fun k => x_rowsTimes k 9 N K (mAr τ 44 (i + n) (K 3).toInt32)) _
          refine Tm_suc (fun k => by rw [x_rowsTimes]) ?_
          exact ih (i + 1) _ K _ (by omega) n1 (by show N 2 + 1 = _; rw [n2, n_add1]) (NF_tr hF (NF_ar (by decide))) (by rw [mAr_o (by decide)]; exact t42) (by rw [mAr_o (by decide)]; exact t47) t84 t86 (by rw [mAr_s]; exact LM_upd hLM (w_small k3 hc))
        | succ q ihq =>
          intro e N K c τ he n1 n2 n5 k3 hc hF t42 t47 t84 t86 hLM
          refine Tm_suc (fun k => by rw [x_rowsTimes]) ?_
          rw [t84, n5, n2, n_add (by omega)]
          refine Tm_ite (fun w => absurd ((n_le (by omega) (by omega)).mp w) (by omega)) (fun _ => ?_)
          refine Tm_chk (n_in (by omega) (by omega)) ?_
          refine Tm_chk (n_in (by omega) (by omega)) ?_
          refine Tm_chk (n_in (by omega) (by omega)) ?_
          refine Tm_chk (n_in (by omega) (by omega)) ?_
          rw [n_cl (p := i + e) (by omega), n_cl (p := i) (by omega), n_cl (p := e) (by omega)]
          obtain ⟨x, x1, x2⟩ := hLM (i + e) (by omega)
          obtain ⟨y, y1, y2⟩ := hR i (by omega)
          obtain ⟨z, z1, z2⟩ := hA e (by omega)
          rw [x2, t47, t42, y2, z2]
          obtain ⟨c', c1, c2⟩ := w_step k3 hc x1 y1 z1
          generalize K 3 + ((nI x).toInt64 + (nI y).toInt64 * (nI z).toInt64) = s at c2
          show Tm (fun k => x_rowsTimes k 7 N (updW K 3 s) (mAr τ 44 (i + e) (s &&& 65535).toInt32)) _
          refine Tm_suc (fun k => by rw [x_rowsTimes]) ?_
          exact ihq (e + 1) _ _ c' _ (by omega) n1 n2 (by show N 5 + 1 = _; rw [n5, n_add1]) c2 c1 (NF_tr hF (NF_ar (by decide))) (by rw [mAr_o (by decide)]; exact t42) (by rw [mAr_o (by decide)]; exact t47) t84 t86 (by rw [mAr_s]; exact LM_upd hLM (w_and16 _))
      refine Tm_suc (fun k => by rw [x_rowsTimes]) ?_
      rw [n1, n2]
      refine Tm_ite (fun q => absurd ((n_le (by omega) (by omega)).mp q) (by omega)) (fun _ => ?_)
      exact l6 n 0 _ _ 0 τ (by omega) n1 n2 rfl rfl (by decide) hF t42 t47 t84 t86 hLM
  have l2 : ∀ (j i : Nat) (N : Nat → Int32) (τ : MS), j + i = p + n → N 1 = nI p → N 2 = nI i → NF σ τ → τ.2.2 42 = σ.2.2 42 → τ.2.2 47 = σ.2.2 47 → τ.1 84 = nI n → τ.1 86 = nI (p + n) → LM (τ.2.2 44) i → Tm (fun k => x_rowsTimes k 2 N J τ) (fun r => NF σ r.2 ∧ r.2.2.2 42 = σ.2.2 42 ∧ r.2.1 84 = nI n ∧ ∃ c, c ≤ p + n ∧ r.2.1 86 = nI c ∧ LM (r.2.2.2 44) c) := by
    intro j
    induction j with
    | zero =>
      intro i N τ hi n1 n2 hF t42 t47 t84 t86 hLM
      refine Tm_suc (fun k => by rw [x_rowsTimes]) ?_
      rw [t86, n2]
      refine Tm_ite (fun _ => ?_) (fun q => absurd ((n_le (by omega) (by omega)).mpr (by omega)) q)
      refine Tm_suc (fun k => by rw [x_rowsTimes]) ?_
      exact l5 p 0 _ J τ (by omega) n1 rfl hF t42 t47 t84 t86 (LM_mo hLM (by omega))
    | succ j ih =>
      intro i N τ hi n1 n2 hF t42 t47 t84 t86 hLM
      refine Tm_suc (fun k => by rw [x_rowsTimes]) ?_
      rw [t86, n2]
      refine Tm_ite (fun q => absurd ((n_le (by omega) (by omega)).mp q) (by omega)) (fun _ => ?_)
      refine Tm_chk (n_in (by omega) (by omega)) ?_
      rw [n_cl (p := i) (by omega)]
      show Tm (fun k => x_rowsTimes k 3 N J (mAr τ 44 i 0)) _
      refine Tm_suc (fun k => by rw [x_rowsTimes]) ?_
      exact ih (i + 1) _ _ (by omega) n1 (by show N 2 + 1 = _; rw [n2, n_add1]) (NF_tr hF (NF_ar (by decide))) (by rw [mAr_o (by decide)]; exact t42) (by rw [mAr_o (by decide)]; exact t47) t84 t86 (by rw [mAr_s]; exact LM_suc hLM ⟨0, by decide, rfl⟩)
  refine Tm_suc (fun k => by rw [x_rowsTimes]) ?_
  rw [h1, h84, n_add (by omega)]
  show Tm (fun k => x_rowsTimes k 1 L J (mSc σ 86 (nI (p + n)))) _
  refine Tm_suc (fun k => by rw [x_rowsTimes]) ?_
  exact l2 (p + n) 0 _ _ (by omega) h1 rfl (NF_sc (by decide)) rfl rfl h84 rfl (fun i hi => absurd hi (Nat.not_lt_zero i))
end MUL
end JnS102

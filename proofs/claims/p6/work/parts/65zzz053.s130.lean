/-! Wholes: where there is no error, the answer is a whole (reference; made by wgen.py out of S99 to S101). -/
section WHW
variable {g : Nat → Prop} {l : List Nat} {B h t : Nat} {σ : MS}
/-- VO, and: no error, then a whole; and (where ok) room, then no new error -/
def VW (ok : Prop) (g : Nat → Prop) (B h t : Nat) (σ : MS) (r : Int32 × MS) : Prop := ∃ g' l' h', HG g B h σ r.2 g' l' h' ∧ FW t σ r.2 ∧ r.2.1 59 = nI t ∧ ErB r.2 ∧ (¬ σ.1 56 = 0 → ¬ r.2.1 56 = 0) ∧ Vd g' r.1 ∧ (r.2.1 56 = 0 → ∃ v n, r.1 = nI v ∧ g' v ∧ Wh r.2 v n) ∧ (ok → σ.1 56 = 0 → h + 100 ≤ B + 870000 → r.2.1 56 = 0) ∧ (r.2.1 56 = 0 → ∀ v, r.1 = nI v → v < 1740000 → r.2.2.2 28 v = nI 2)
theorem VW_VO {ok : Prop} {r : Int32 × MS} (a : VW ok g B h t σ r) : VO g B h t σ r := by
  obtain ⟨g', l', h', a1, a2, a3, a4, a5, a6, _, _⟩ := a
  exact ⟨g', l', h', a1, a2, a3, a4, a5, a6⟩
theorem VW_er {ok : Prop} (hP : VP g l B h t σ) {e : Nat} (he : e ≤ 11) (he0 : ¬ nI e = 0) (hn : ok → σ.1 56 = 0 → h + 100 ≤ B + 870000 → False) : VW ok g B h t σ (0, mEr σ (nI e)) := by
  obtain ⟨g', l', h', a1, a2, a3, a4, a5, a6⟩ := VO_er hP he
  exact ⟨g', l', h', a1, a2, a3, a4, a5, a6, fun z => absurd z (mEr_e he0), fun p q r => (hn p q r).elim, fun z => absurd z (mEr_e he0)⟩
theorem VW_NF {ok : Prop} {τ : MS} {r : Int32 × MS} (hN : NF σ τ) (hP : VP g l B h t σ) (b : VW ok g B h t τ r) : VW ok g B h t σ r := by
  obtain ⟨g', l', h', a1, a2, a3, a4, a5, a6, a7, a8, a9⟩ := b
  refine ⟨g', l', h', ⟨a1.1, a1.2.1, a1.2.2.1, fun i h1 h2 => ?_⟩, FW_tr (NF_FW hN) a2, a3, a4, fun z => a5 (by rw [hN.1 56 (by decide)]; exact z), a6, a7, fun p q => a8 p (by rw [hN.1 56 (by decide)]; exact q), a9⟩
  rw [a1.2.2.2 i h1 h2, hN.2 28 (by decide)]
theorem VW_NF_Tm {ok : Prop} {τ : MS} {f : Nat → Option (Int32 × MS)} (hN : NF σ τ) (hP : VP g l B h t σ) (b : Tm f (VW ok g B h t τ)) : Tm f (VW ok g B h t σ) := Tm_mono b (fun r hr => VW_NF hN hP hr)
theorem s_wholeOfW {ok : Prop} (hP : VP g l B h t σ) {c : Nat} (hc : c ≤ 300) (hok : ok → c ≤ 64) (h86 : σ.1 86 = nI c) (hLM : LM (σ.2.2 44) c) (L : Nat → Int32) (hsg : SgO (L 1) (σ.2.2 44) c) : Tm (fun k => x_wholeOf k 0 L σ) (VW ok g B h t σ) := by
  have hb := HS_b hP.1
  have hB := hP.1.2.1
  -- from the room on
  have l1 : ∀ (m : Nat) (τ : MS), m ≤ c → NF σ τ → τ.1 86 = nI m → τ.2.2 44 = σ.2.2 44 → ((L 1 = 1 ∨ L 1 = -1) ∨ m = 0) → Tm (fun k => x_wholeOf k 1 L τ) (VW ok g B h t σ) := by
    intro m τ hm hF t86 t44 hsm
    have hPt := NF_VP hF hP
    refine VW_NF_Tm hF hP ?_
    refine Tm_suc (fun k => by rw [x_wholeOf]) ?_
    rw [t86]
    refine Tm_ite (fun z => ?_) (fun z => ?_)
    case refine_2 =>
      refine Tm_ob (s_fail _ τ) (fun r hr => ?_)
      rw [hr]
      refine Tm_some (VW_er hPt (e := 5) (by decide) (by decide) (fun q _ _ => ?_))
      have := hok q
      exact absurd ((n_le (q := 64) (by omega) (by decide)).mpr (by omega)) z
    have z := (n_le (q := 64) (by omega) (by decide)).mp z
    refine Tm_suc (fun k => by rw [x_wholeOf]) ?_
    rw [t86, n_add1]
    refine Tm_ob (s_make hPt.1 (n := m + 1) (by omega) upd_same) (fun r hr => ?_)
    rcases hr with ⟨y, hr⟩ | ⟨y, hr⟩
    · rw [hr]
      refine Tm_ite (fun w => ?_) (fun _ => Tm_some (VW_er hPt (e := 5) (by decide) (by decide) (fun _ _ q => by omega)))
      obtain ⟨g', l', h', e1, e2, e3, ⟨e, e41, e42⟩, e5, e6⟩ := VO_er hPt (e := 5) (by decide)
      have w : (mEr τ 5).1 56 ≤ 0 := w
      have e41 : (mEr τ 5).1 56 = nI e := e41
      rw [e41] at w
      have w := (n_le0 (by omega)).mp w
      rw [w] at e41
      exact absurd e41 (mEr_e (by decide))
    rw [hr]
    have hErr : ErB τ := hPt.2.2.2
    refine Tm_ite (fun w => ?_) (fun w => ?_)
    case refine_2 =>
      -- an error stood before
      have hS2 := HS_mk (k := 2) hPt.1 y
      refine Tm_some ⟨g, _, _, ⟨hS2, fun _ z => z, by omega, fun i h1 h2 => ?_⟩, FW_mk, (mMk_s (by decide)).trans hPt.2.1, ?_, fun q => ?_, Vd_0, fun q => ?_, fun _ q _ => ?_, fun q => ?_⟩
      · rw [mMk_28, upd_other (by omega), upd_other (by omega), upd_other (by omega), upd_other (by omega)]
      · unfold ErB; rw [mMk_s (by decide)]; exact hErr
      · rw [mMk_s (by decide)]; exact q
      · exact absurd (show (mMk τ h 2 (m + 1)).1 56 ≤ 0 by rw [show (mMk τ h 2 (m + 1)).1 56 = 0 from q]; decide) w
      · exact absurd (show (mMk τ h 2 (m + 1)).1 56 ≤ 0 by rw [mMk_s (by decide), q]; decide) w
      · exact absurd (show (mMk τ h 2 (m + 1)).1 56 ≤ 0 by rw [show (mMk τ h 2 (m + 1)).1 56 = 0 from q]; decide) w
    -- the limbs
    have fin : ∀ (N : Nat → Int32) (υ : MS), N 2 = nI h → FW t τ υ → υ.1 59 = τ.1 59 → υ.1 56 = τ.1 56 → υ.1 55 = nI (h + 4 + (m + 1)) → υ.1 86 = nI m → υ.2.2 28 h = nI 2 → υ.2.2 28 (h + 1) = nI (m + 1) → υ.2.2 28 (h + 3) = nI 0 → SgOK (υ.2.2 28) h (m + 1) → (∀ i, i < m → ∃ d, d ≤ 65535 ∧ υ.2.2 28 (h + 5 + i) = nI d) → (∀ i, B + 4 ≤ i → i < h → υ.2.2 28 i = τ.2.2 28 i) → Tm (fun k => x_wholeOf k 9 N υ) (VW ok g B h t τ) := by
      intro N υ n2 hF2 u59 u56 u55 u86 uh u1 u3 uS uL hag
      refine Tm_suc (fun k => by rw [x_wholeOf]) ?_
      refine Tm_chk0 (by decide) ?_
      rw [n2, show nI h + 2 = nI (h + 2) from n_add (q := 2) (by omega)]
      refine Tm_chk (n_in (by omega) (by omega)) ?_
      rw [n_cl (p := h + 2) (by omega), u86, n_add1, show nI (m + 1) / 2 = nI ((m + 1) / 2) from n_div (q := 2) (by omega) (by decide) (by decide), show (1 : Int32) + nI ((m + 1) / 2) = nI (1 + (m + 1) / 2) from n_add (p := 1) (by omega)]
      show Tm (fun k => x_wholeOf k 10 N (mAr υ 28 (h + 2) (nI (1 + (m + 1) / 2)))) _
      refine Tm_suc (fun k => by rw [x_wholeOf]) ?_
      rw [n2]
      have u : ∀ j, j ≠ h + 2 → (mAr υ 28 (h + 2) (nI (1 + (m + 1) / 2))).2.2 28 j = υ.2.2 28 j := fun j hj => by rw [mAr_s, upd_other hj]
      have hG : GOn ((mAr υ 28 (h + 2) (nI (1 + (m + 1) / 2))).2.2 28) g h 2 (m + 1) (1 + (m + 1) / 2) 0 := by
        refine ⟨by rw [u h (by omega)]; exact uh, by rw [u (h + 1) (by omega)]; exact u1, by rw [mAr_s, upd_same], by rw [u (h + 3) (by omega)]; exact u3, by decide, by omega, by decide, by omega, fun _ => ⟨by omega, by omega, rfl, fun i hi => ?_, ?_⟩, fun z => absurd z (by decide), fun z => absurd z (by decide), fun z => absurd z (by decide)⟩
        · rw [u _ (by omega)]; exact uL i (by omega)
        · unfold SgOK; rw [u _ (by omega)]; exact uS
      exact Tm_some ⟨_, _, _, HS_good hPt.1 y (hF2.1 54 (by decide)) u55 (fun i h1 h2 => by rw [u i (by omega)]; exact hag i h1 h2) hG, FW_tr hF2 (FW_ar (Or.inl rfl)), u59.trans hPt.2.1, by unfold ErB; show ∃ e, υ.1 56 = nI e ∧ e ≤ 11; rw [u56]; exact hPt.2.2.2, fun y => by show ¬ υ.1 56 = 0; rw [u56]; exact y, ⟨h, rfl, Or.inr (Or.inr rfl)⟩, fun _ => ⟨h, m + 1, rfl, Or.inr rfl, by rw [u (h + 1) (by omega)]; exact u1, by omega, by omega, by omega, fun i hi => by rw [u _ (by omega)]; exact uL i (by omega), by unfold SgOK; rw [u _ (by omega)]; exact uS⟩, fun _ q _ => by show υ.1 56 = 0; rw [u56]; exact q, fun _ v hv hb => by
        have e : h = v := (n_eq (by omega) (by omega)).mp hv
        rw [← e, u h (by omega)]; exact uh⟩
    have l7 : ∀ (j i : Nat) (N : Nat → Int32) (υ : MS), j + i = m → N 2 = nI h → N 3 = nI i → FW t τ υ → υ.1 59 = τ.1 59 → υ.1 56 = τ.1 56 → υ.1 55 = nI (h + 4 + (m + 1)) → υ.1 86 = nI m → υ.2.2 44 = τ.2.2 44 → υ.2.2 28 h = nI 2 → υ.2.2 28 (h + 1) = nI (m + 1) → υ.2.2 28 (h + 3) = nI 0 → SgOK (υ.2.2 28) h (m + 1) → (∀ k, k < i → ∃ d, d ≤ 65535 ∧ υ.2.2 28 (h + 5 + k) = nI d) → (∀ i, B + 4 ≤ i → i < h → υ.2.2 28 i = τ.2.2 28 i) → Tm (fun k => x_wholeOf k 7 N υ) (VW ok g B h t τ) := by
      intro j
      induction j with
      | zero =>
        intro i N υ hi n2 n3 hF2 u59 u56 u55 u86 u44 uh u1 u3 uS uL hag
        refine Tm_suc (fun k => by rw [x_wholeOf]) ?_
        rw [u86, n3]
        exact Tm_ite (fun _ => fin N υ n2 hF2 u59 u56 u55 u86 uh u1 u3 uS (fun k hk => uL k (by omega)) hag) (fun q => absurd ((n_le (by omega) (by omega)).mpr (by omega)) q)
      | succ j ih =>
        intro i N υ hi n2 n3 hF2 u59 u56 u55 u86 u44 uh u1 u3 uS uL hag
        refine Tm_suc (fun k => by rw [x_wholeOf]) ?_
        rw [u86, n3, n2, show nI h + 5 = nI (h + 5) from n_add (q := 5) (by omega), n_add (by omega)]
        refine Tm_ite (fun q => absurd ((n_le (by omega) (by omega)).mp q) (by omega)) (fun _ => ?_)
        refine Tm_chk (n_in (by omega) (by omega)) ?_
        refine Tm_chk (n_in (by omega) (by omega)) ?_
        rw [n_cl (p := h + 5 + i) (by omega), n_cl (p := i) (by omega), u44, t44]
        show Tm (fun k => x_wholeOf k 8 N (mAr υ 28 (h + 5 + i) (σ.2.2 44 i))) _
        refine Tm_suc (fun k => by rw [x_wholeOf]) ?_
        have u : ∀ j, j ≠ h + 5 + i → (mAr υ 28 (h + 5 + i) (σ.2.2 44 i)).2.2 28 j = υ.2.2 28 j := fun j hj => by rw [mAr_s, upd_other hj]
        refine ih (i + 1) _ _ (by omega) n2 (by show N 3 + 1 = _; rw [n3, n_add1]) (FW_tr hF2 (FW_ar (Or.inl rfl))) u59 u56 u55 u86 (by rw [mAr_o (by decide)]; exact u44) (by rw [u _ (by omega)]; exact uh) (by rw [u _ (by omega)]; exact u1) (by rw [u _ (by omega)]; exact u3) (by unfold SgOK; rw [u _ (by omega)]; exact uS) (fun k hk => ?_) (fun i h1 h2 => by rw [u _ (by omega)]; exact hag i h1 h2)
        by_cases e : k = i
        · rw [e, mAr_s, upd_same]; exact hLM i (by omega)
        · rw [u _ (by omega)]; exact uL k (by omega)
    -- the sign
    have l5 : ∀ (N : Nat → Int32), N 2 = nI h → N 101 = nI (h + 4) → ((N 100 = 1 ∨ N 100 = -1) ∨ (m + 1 = 1 ∧ N 100 = 0)) → Tm (fun k => x_wholeOf k 5 N (mMk τ h 2 (m + 1))) (VW ok g B h t τ) := by
      intro N n2 n101 n100
      refine Tm_suc (fun k => by rw [x_wholeOf]) ?_
      rw [n101]
      refine Tm_chk (n_in (by omega) (by omega)) ?_
      rw [n_cl (p := h + 4) (by omega)]
      show Tm (fun k => x_wholeOf k 6 N (mAr (mMk τ h 2 (m + 1)) 28 (h + 4) (N 100))) _
      refine Tm_suc (fun k => by rw [x_wholeOf]) ?_
      have u : ∀ j, j ≠ h + 4 → (mAr (mMk τ h 2 (m + 1)) 28 (h + 4) (N 100)).2.2 28 j = (mMk τ h 2 (m + 1)).2.2 28 j := fun j hj => by rw [mAr_s, upd_other hj]
      refine l7 m 0 _ _ (by omega) n2 rfl (FW_tr FW_mk (FW_ar (Or.inl rfl))) (show (mMk τ h 2 (m + 1)).1 59 = τ.1 59 from mMk_s (by decide)) (show (mMk τ h 2 (m + 1)).1 56 = τ.1 56 from mMk_s (by decide)) ?_ (show (mMk τ h 2 (m + 1)).1 86 = nI m from (mMk_s (by decide)).trans t86) ?_ ?_ ?_ ?_ ?_ (fun k hk => absurd hk (Nat.not_lt_zero k)) (fun i h1 h2 => ?_)
      · show nI (h + (4 + (m + 1))) = _
        rw [Nat.add_assoc]
      · rw [mAr_o (by decide), mMk_o (by decide)]
      · rw [u h (by omega), mMk_28, upd_other (by omega), upd_other (by omega), upd_other (by omega), upd_same]; rfl
      · rw [u (h + 1) (by omega), mMk_28, upd_other (by omega), upd_other (by omega), upd_same]
      · rw [u (h + 3) (by omega), mMk_28, upd_same]; rfl
      · unfold SgOK; rw [mAr_s, upd_same]; exact n100
      · rw [u i (by omega), mMk_28, upd_other (by omega), upd_other (by omega), upd_other (by omega), upd_other (by omega)]
    refine Tm_suc (fun k => by rw [x_wholeOf]) ?_
    show Tm (fun k => if (mMk τ h 2 (m + 1)).1 86 = 0 then x_wholeOf k 5 (upd (upd (upd L 2 (nI h)) 100 0) 101 (nI h + 4)) (mMk τ h 2 (m + 1)) else x_wholeOf k 4 (upd (upd L 2 (nI h)) 100 (nI h + 4)) (mMk τ h 2 (m + 1))) _
    have e4 : nI h + 4 = nI (h + 4) := n_add (q := 4) (by omega)
    refine Tm_ite (fun w0 => ?_) (fun w0 => ?_)
    · refine l5 _ rfl e4 (Or.inr ⟨?_, rfl⟩)
      have w0 : (mMk τ h 2 (m + 1)).1 86 = nI 0 := w0
      rw [mMk_s (by decide), t86] at w0
      have := (n_eq (by omega) (by decide)).mp w0
      omega
    · refine Tm_suc (fun k => by rw [x_wholeOf]) ?_
      refine l5 _ rfl e4 (Or.inl (hsm.resolve_right (fun q => w0 ?_)))
      rw [mMk_s (by decide), t86, q]; rfl
  -- noughts at the top
  have l0 : ∀ (m : Nat) (τ : MS), m ≤ c → NF σ τ → τ.1 86 = nI m → τ.2.2 44 = σ.2.2 44 → Tm (fun k => x_wholeOf k 0 L τ) (VW ok g B h t σ) := by
    intro m
    induction m with
    | zero =>
      intro τ hm hF t86 t44
      refine Tm_suc (fun k => by rw [x_wholeOf]) ?_
      rw [t86]
      exact Tm_ite (fun _ => l1 0 τ hm hF t86 t44 (Or.inr rfl)) (fun q => absurd ((n_le0 (by decide)).mpr rfl) q)
    | succ m ih =>
      intro τ hm hF t86 t44
      refine Tm_suc (fun k => by rw [x_wholeOf]) ?_
      rw [t86, show nI (m + 1) - 1 = nI m from n_sub (p := m + 1) (q := 1) (by omega) (by omega)]
      refine Tm_ite (fun q => absurd ((n_le0 (by omega)).mp q) (by omega)) (fun _ => ?_)
      refine Tm_chk (n_in (by omega) (by omega)) ?_
      refine Tm_ite (fun _ => ?_) (fun w0 => l1 (m + 1) τ hm hF t86 t44 (Or.inl (hsg.resolve_right (fun q => w0 (by rw [n_cl (by omega), t44]; exact q m (by omega))))))
      exact ih (mSc τ 86 (nI m)) (by omega) (NF_tr hF (NF_sc (by decide))) rfl t44
  exact l0 c σ (Nat.le_refl _) NF_rf h86 rfl
theorem s_smallW (hP : VP g l B h t σ) (L : Nat → Int32) : Tm (fun k => x_small k 0 L σ) (VW True g B h t σ) := by
  have l8 : ∀ (N : Nat → Int32) (τ : MS) (c : Nat), c ≤ 64 → NF σ τ → τ.1 86 = nI c → LM (τ.2.2 44) c → (N 100 = 1 ∨ N 100 = -1) → Tm (fun k => x_small k 8 N τ) (VW True g B h t σ) := fun N τ c hc hF t86 hLM n100 => by
    refine Tm_suc (fun k => by rw [x_small]) ?_
    refine VW_NF_Tm hF hP (Tm_ob (s_wholeOfW (NF_VP hF hP) (by omega) (fun _ => hc) t86 hLM _ (Or.inl n100)) (fun r hr => Tm_some hr))
  have l6 : ∀ (N : Nat → Int32) (τ : MS) (c : Nat), c ≤ 64 → NF σ τ → τ.1 86 = nI c → LM (τ.2.2 44) c → Tm (fun k => x_small k 6 N τ) (VW True g B h t σ) := fun N τ c hc hF t86 hLM => by
    refine Tm_suc (fun k => by rw [x_small]) ?_
    refine Tm_ite (fun _ => ?_) (fun _ => l8 _ τ c hc hF t86 hLM (Or.inr rfl))
    refine Tm_suc (fun k => by rw [x_small]) ?_
    exact l8 _ τ c hc hF t86 hLM (Or.inl rfl)
  have l4 : ∀ (j m c : Nat) (N : Nat → Int32) (τ : MS), m < 65536 ^ j → m < 2147483648 → c + j ≤ 64 → N 2 = nI m → NF σ τ → τ.1 86 = nI c → LM (τ.2.2 44) c → Tm (fun k => x_small k 4 N τ) (VW True g B h t σ) := by
    intro j
    induction j with
    | zero =>
      intro m c N τ hm hm2 hc n2 hF t86 hLM
      have hm : m = 0 := by
        have : m < 1 := hm
        omega
      refine Tm_suc (fun k => by rw [x_small]) ?_
      rw [n2, hm]
      exact Tm_ite (fun _ => l6 N τ c (by omega) hF t86 hLM) (fun q => absurd ((n_le0 (by decide)).mpr rfl) q)
    | succ j ih =>
      intro m c N τ hm hm2 hc n2 hF t86 hLM
      refine Tm_suc (fun k => by rw [x_small]) ?_
      rw [n2, t86]
      refine Tm_ite (fun _ => l6 N τ c (by omega) hF t86 hLM) (fun _ => ?_)
      refine Tm_chk (n_in (by omega) (by omega)) ?_
      rw [n_cl (p := c) (by omega)]
      show Tm (fun k => x_small k 5 N (mAr τ 44 c (nI m &&& 65535))) _
      refine Tm_suc (fun k => by rw [x_small]) ?_
      rw [n2, n_ushr16 hm2]
      show Tm (fun k => x_small k 4 (upd N 2 (nI (m / 65536))) (mSc (mAr τ 44 c (nI m &&& 65535)) 86 (τ.1 86 + 1))) _
      rw [t86, n_add1]
      refine ih (m / 65536) (c + 1) _ _ ?_ (by omega) (by omega) rfl (NF_tr hF (NF_tr (NF_ar (by decide)) (NF_sc (by decide)))) rfl ?_
      · rw [Nat.pow_succ] at hm
        exact Nat.div_lt_of_lt_mul (by rw [Nat.mul_comm]; exact hm)
      · show LM ((mAr τ 44 c (nI m &&& 65535)).2.2 44) (c + 1)
        rw [mAr_s]; exact LM_suc hLM (n_and16 _)
  have l3 : ∀ N : Nat → Int32, Tm (fun k => x_small k 3 N (mSc σ 86 0)) (VW True g B h t σ) := fun N => by
    refine Tm_suc (fun k => by rw [x_small]) ?_
    by_cases z : 0 ≤ (N 100).toInt
    · have hb := i_bd (N 100)
      exact l4 2 (N 100).toInt.toNat 0 _ _ (by show _ < 4294967296; omega) (by omega) (by decide) (n_ofpos z) (NF_sc (by decide)) rfl (fun i hi => absurd hi (Nat.not_lt_zero i))
    · refine Tm_suc (fun k => by rw [x_small]) ?_
      refine Tm_ite (fun _ => l6 _ _ 0 (by decide) (NF_sc (by decide)) rfl (fun i hi => absurd hi (Nat.not_lt_zero i))) (fun q => absurd (i_le.mpr ?_) q)
      show (N 100).toInt ≤ 0
      omega
  refine Tm_suc (fun k => by rw [x_small]) ?_
  show Tm (fun k => x_small k 1 L (mSc σ 86 0)) _
  refine Tm_suc (fun k => by rw [x_small]) ?_
  refine Tm_ite (fun _ => ?_) (fun _ => l3 _)
  refine Tm_suc (fun k => by rw [x_small]) ?_
  exact l3 _
theorem s_addW (hP : VP g l B h t σ) {a b n m : Nat} (hA : Wh σ a n) (hB : Wh σ b m) {L : Nat → Int32} (h1 : L 1 = nI a) (h2 : L 2 = nI b) (h3 : L 3 = 1 ∨ L 3 = -1) : Tm (fun k => x_add k 0 L σ) (VW False g B h t σ) := by
  obtain ⟨a1, a2, a3, a4, a5⟩ := hA
  refine Tm_suc (fun k => by rw [x_add]) ?_
  refine Tm_ob (s_loadA hP.1 a1 a2 a3 a4 a5 (by exact h1)) (fun r1 hr1 => ?_)
  obtain ⟨hF1, p84, pA, _, _⟩ := hr1
  have bS := hB.2.2.2.2.2
  obtain ⟨b1, b2, b3, b4, b5⟩ := Wh_NF hF1 hB
  refine Tm_ob (s_loadB (NF_HS hF1 hP.1) b1 b2 b3 b4 b5 (by exact h2)) (fun r2 hr2 => ?_)
  obtain ⟨hF2, p85, pB, q42, q84⟩ := hr2
  have hF := NF_tr hF1 hF2
  have s84 : r2.2.1 84 = nI (n - 1) := q84.trans p84
  have sA : LM (r2.2.2.2 42) (n - 1) := by rw [q42]; exact pA
  refine Tm_ob (s_signOf (NF_HS hF hP.1) (m := a) (by omega) (by exact h1)) (fun r3 hr3 => ?_)
  rw [hr3]
  refine Tm_ob (s_signOf (NF_HS hF hP.1) (m := b) (by omega) (by exact h2)) (fun r4 hr4 => ?_)
  rw [hr4]
  have s28 : r2.2.2.2 28 = σ.2.2 28 := hF.2 28 (by decide)
  rw [s28]
  -- the answer
  have wf : ∀ (N : Nat → Int32) (τ : MS) (c : Nat), c ≤ 300 → NF σ τ → τ.1 86 = nI c → LM (τ.2.2 44) c → ∀ x : Int32, SgO x (τ.2.2 44) c → Tm (fun k => ob (x_wholeOf k 0 (upd (fun _ => 0) 1 x) τ) (fun r1 => some (r1.1, r1.2))) (VW False g B h t σ) := fun N τ c hc hF t86 hLM x hx => VW_NF_Tm hF hP (Tm_ob (s_wholeOfW (NF_VP hF hP) hc (fun z => z.elim) t86 hLM _ hx) (fun r hr => Tm_some hr))
  have l13 : ∀ (N : Nat → Int32) (τ : MS) (c : Nat), c ≤ 300 → NF σ τ → τ.1 86 = nI c → LM (τ.2.2 44) c → (SgP N ∨ c = 0) → Tm (fun k => x_add k 13 N τ) (VW False g B h t σ) := fun N τ c hc hF t86 hLM hG => by
    have l15 : ∀ N : Nat → Int32, SgO (N 100) (τ.2.2 44) c → Tm (fun k => x_add k 15 N τ) (VW False g B h t σ) := fun N hx => by
      refine Tm_suc (fun k => by rw [x_add]) ?_
      exact wf N τ c hc hF t86 hLM _ hx
    refine Tm_suc (fun k => by rw [x_add]) ?_
    refine Tm_ite (fun w0 => l15 _ (SgP_0 hG w0)) (fun w0 => ?_)
    refine Tm_suc (fun k => by rw [x_add]) ?_
    exact l15 _ (SgP_1 hG w0)
  have l30 : ∀ (N : Nat → Int32) (τ : MS) (c : Nat), c ≤ 300 → NF σ τ → τ.1 86 = nI c → LM (τ.2.2 44) c → SgQ N → Tm (fun k => x_add k 30 N τ) (VW False g B h t σ) := fun N τ c hc hF t86 hLM hG => by
    have l32 : ∀ N : Nat → Int32, (N 100 = 1 ∨ N 100 = -1) → Tm (fun k => x_add k 32 N τ) (VW False g B h t σ) := fun N hx => by
      refine Tm_suc (fun k => by rw [x_add]) ?_
      exact wf N τ c hc hF t86 hLM _ (Or.inl hx)
    refine Tm_suc (fun k => by rw [x_add]) ?_
    refine Tm_ite (fun _ => ?_) (fun _ => l32 _ hG.1)
    refine Tm_suc (fun k => by rw [x_add]) ?_
    exact l32 _ hG.2
  -- sums
  have l5 : ∀ (c j i : Nat) (N : Nat → Int32) (τ : MS), c ≤ 64 → j + i = c → N 7 = nI i → (¬ N 6 ≤ 0 → ∃ d, d ≤ 65535 ∧ N 6 = nI d) → (SgP N ∨ (c = 0 ∧ N 6 ≤ 0)) → NF σ τ → τ.1 84 = nI (n - 1) → τ.1 85 = nI (m - 1) → τ.1 86 = nI c → LM (τ.2.2 44) i → Tm (fun k => x_add k 5 N τ) (VW False g B h t σ) := by
    intro c j
    induction j with
    | zero =>
      intro i N τ hc hi n7 n6 hG hF t84 t85 t86 hLM
      refine Tm_suc (fun k => by rw [x_add]) ?_
      rw [t86, n7]
      refine Tm_ite (fun _ => ?_) (fun q => absurd ((n_le (by omega) (by omega)).mpr (by omega)) q)
      refine Tm_suc (fun k => by rw [x_add]) ?_
      refine Tm_ite (fun _ => l13 N τ c (by omega) hF t86 (LM_mo hLM (by omega)) (hG.imp id And.left)) (fun z => ?_)
      rw [t86]
      refine Tm_chk (n_in (by omega) (by omega)) ?_
      rw [n_cl (p := c) (by omega)]
      show Tm (fun k => x_add k 12 N (mAr τ 44 c (N 6))) _
      refine Tm_suc (fun k => by rw [x_add]) ?_
      show Tm (fun k => x_add k 13 N (mSc (mAr τ 44 c (N 6)) 86 (τ.1 86 + 1))) _
      rw [t86, n_add1]
      exact l13 N _ (c + 1) (by omega) (NF_tr hF (NF_tr (NF_ar (by decide)) (NF_sc (by decide)))) rfl (by show LM ((mAr τ 44 c (N 6)).2.2 44) (c + 1); rw [mAr_s]; exact LM_suc (LM_mo hLM (by omega)) (n6 z)) (Or.inl (hG.resolve_right (fun q => z q.2)))
    | succ j ih =>
      intro i N τ hc hi n7 n6 hG hF t84 t85 t86 hLM
      have l9 : ∀ N : Nat → Int32, SgP N → N 7 = nI i → Tm (fun k => x_add k 9 N τ) (VW False g B h t σ) := fun N gN n7 => by
        refine Tm_suc (fun k => by rw [x_add]) ?_
        rw [n7]
        refine Tm_chk (n_in (by omega) (by omega)) ?_
        rw [n_cl (p := i) (by omega)]
        generalize N 102 + (N 101 + N 100) = x
        show Tm (fun k => x_add k 10 (upd N 6 x) (mAr τ 44 i (x &&& 65535))) _
        refine Tm_suc (fun k => by rw [x_add]) ?_
        exact ih (i + 1) _ _ hc (by omega) (by show N 7 + 1 = _; rw [n7, n_add1]) (fun z => n_shr16 x z) (Or.inl gN) (NF_tr hF (NF_ar (by decide))) t84 t85 t86 (by rw [mAr_s]; exact LM_suc hLM (n_and16 _))
      have l7 : ∀ N : Nat → Int32, SgP N → N 7 = nI i → Tm (fun k => x_add k 7 N τ) (VW False g B h t σ) := fun N gN n7 => by
        refine Tm_suc (fun k => by rw [x_add]) ?_
        rw [t85, n7]
        refine Tm_ite (fun _ => ?_) (fun _ => ?_)
        · refine Tm_suc (fun k => by rw [x_add]) ?_
          exact l9 _ gN n7
        · refine Tm_chk (n_in (by omega) (by omega)) ?_
          exact l9 _ gN n7
      have gN : SgP N := hG.resolve_right (fun q => by omega)
      refine Tm_suc (fun k => by rw [x_add]) ?_
      rw [t86, n7, t84]
      refine Tm_ite (fun q => absurd ((n_le (by omega) (by omega)).mp q) (by omega)) (fun _ => ?_)
      refine Tm_ite (fun _ => ?_) (fun _ => ?_)
      · refine Tm_suc (fun k => by rw [x_add]) ?_
        exact l7 _ gN n7
      · refine Tm_chk (n_in (by omega) (by omega)) ?_
        exact l7 _ gN n7
  -- differences
  have l20 : ∀ (c j i : Nat) (N : Nat → Int32) (τ : MS), c ≤ 64 → j + i = c → N 8 = nI i → SgQ N → NF σ τ → τ.1 84 = nI (n - 1) → τ.1 85 = nI (m - 1) → τ.1 86 = nI c → LM (τ.2.2 44) i → Tm (fun k => x_add k 20 N τ) (VW False g B h t σ) := by
    intro c j
    induction j with
    | zero =>
      intro i N τ hc hi n7 hG hF t84 t85 t86 hLM
      refine Tm_suc (fun k => by rw [x_add]) ?_
      rw [t86, n7]
      exact Tm_ite (fun _ => l30 N τ c (by omega) hF t86 (LM_mo hLM (by omega)) hG) (fun q => absurd ((n_le (by omega) (by omega)).mpr (by omega)) q)
    | succ j ih =>
      intro i N τ hc hi n7 hG hF t84 t85 t86 hLM
      have l28 : ∀ N : Nat → Int32, SgQ N → N 8 = nI i → Tm (fun k => x_add k 28 N τ) (VW False g B h t σ) := fun N gN n7 => by
        refine Tm_suc (fun k => by rw [x_add]) ?_
        rw [n7]
        refine Tm_chk (n_in (by omega) (by omega)) ?_
        rw [n_cl (p := i) (by omega)]
        show Tm (fun k => x_add k 29 (upd N 7 (N 100)) (mAr τ 44 i (N 11 &&& 65535))) _
        refine Tm_suc (fun k => by rw [x_add]) ?_
        exact ih (i + 1) _ _ hc (by omega) (by show N 8 + 1 = _; rw [n7, n_add1]) gN (NF_tr hF (NF_ar (by decide))) t84 t85 t86 (by rw [mAr_s]; exact LM_suc hLM (n_and16 _))
      have l26 : ∀ N : Nat → Int32, SgQ N → N 8 = nI i → Tm (fun k => x_add k 26 N τ) (VW False g B h t σ) := fun N gN n7 => by
        refine Tm_suc (fun k => by rw [x_add]) ?_
        refine Tm_ite (fun _ => ?_) (fun _ => l28 _ gN n7)
        refine Tm_suc (fun k => by rw [x_add]) ?_
        exact l28 _ gN n7
      have l24 : ∀ N : Nat → Int32, SgQ N → N 8 = nI i → Tm (fun k => x_add k 24 N τ) (VW False g B h t σ) := fun N gN n7 => by
        refine Tm_suc (fun k => by rw [x_add]) ?_
        refine Tm_ite (fun _ => ?_) (fun _ => l26 _ gN n7)
        refine Tm_suc (fun k => by rw [x_add]) ?_
        exact l26 _ gN n7
      have l22 : ∀ N : Nat → Int32, SgQ N → N 8 = nI i → Tm (fun k => x_add k 22 N τ) (VW False g B h t σ) := fun N gN n7 => by
        refine Tm_suc (fun k => by rw [x_add]) ?_
        rw [t85, n7]
        refine Tm_ite (fun _ => ?_) (fun _ => ?_)
        · refine Tm_suc (fun k => by rw [x_add]) ?_
          exact l24 _ gN n7
        · refine Tm_chk (n_in (by omega) (by omega)) ?_
          exact l24 _ gN n7
      refine Tm_suc (fun k => by rw [x_add]) ?_
      rw [t86, n7, t84]
      refine Tm_ite (fun q => absurd ((n_le (by omega) (by omega)).mp q) (by omega)) (fun _ => ?_)
      refine Tm_ite (fun _ => ?_) (fun _ => ?_)
      · refine Tm_suc (fun k => by rw [x_add]) ?_
        exact l22 _ hG n7
      · refine Tm_chk (n_in (by omega) (by omega)) ?_
        exact l22 _ hG n7
  have nil : LM (r2.2.2.2 44) 0 := fun i hi => absurd hi (Nat.not_lt_zero i)
  have go1 : ∀ N : Nat → Int32, (SgP N ∨ (n = 1 ∧ m = 1)) → Tm (fun k => x_add k 1 N r2.2) (VW False g B h t σ) := fun N gN => by
    have l3 : ∀ (c : Nat) (N : Nat → Int32), c ≤ 64 → N 6 = 0 → N 100 = nI c → (SgP N ∨ c = 0) → Tm (fun k => x_add k 3 N r2.2) (VW False g B h t σ) := fun c N hc n6 n100 gN => by
      refine Tm_suc (fun k => by rw [x_add]) ?_
      rw [n100]
      show Tm (fun k => x_add k 4 N (mSc r2.2 86 (nI c))) _
      refine Tm_suc (fun k => by rw [x_add]) ?_
      have n6' : N 6 ≤ 0 := by rw [n6]; decide
      refine l5 c c 0 _ _ hc (by omega) rfl (fun z => absurd n6' z) (gN.imp id (fun q => ⟨q, n6'⟩)) (NF_tr hF (NF_sc (by decide))) s84 p85 rfl nil
    refine Tm_suc (fun k => by rw [x_add]) ?_
    refine Tm_ite (fun _ => ?_) (fun _ => ?_)
    · refine Tm_suc (fun k => by rw [x_add]) ?_
      exact l3 (m - 1) _ (by omega) rfl p85 (gN.imp id (fun q => by omega))
    · exact l3 (n - 1) _ (by omega) rfl s84 (gN.imp id (fun q => by omega))
  have go16 : ∀ N : Nat → Int32, SgQ N → Tm (fun k => x_add k 16 N r2.2) (VW False g B h t σ) := fun N gN => by
    have l18 : ∀ (c : Nat) (N : Nat → Int32), c ≤ 64 → N 100 = nI c → SgQ N → Tm (fun k => x_add k 18 N r2.2) (VW False g B h t σ) := fun c N hc n100 gN => by
      refine Tm_suc (fun k => by rw [x_add]) ?_
      rw [n100]
      show Tm (fun k => x_add k 19 N (mSc r2.2 86 (nI c))) _
      refine Tm_suc (fun k => by rw [x_add]) ?_
      exact l20 c c 0 _ _ hc (by omega) rfl gN (NF_tr hF (NF_sc (by decide))) s84 p85 rfl nil
    refine Tm_suc (fun k => by rw [x_add]) ?_
    refine Tm_ob (s_cmpR42 (n := n - 1) (by omega) (by exact s84)) (fun r5 hr5 => ?_)
    rw [hr5]
    refine Tm_ite (fun _ => ?_) (fun _ => ?_)
    · refine Tm_suc (fun k => by rw [x_add]) ?_
      exact l18 (m - 1) _ (by omega) p85 gN
    · exact l18 (n - 1) _ (by omega) s84 gN
  obtain ⟨z1, z2, z3⟩ := Sg_add a5.2 bS h3
  refine Tm_ite (fun w0 => go1 _ (z1 w0)) (fun w0 => ?_)
  refine Tm_ite (fun w1 => go1 _ (z2 w0)) (fun w1 => ?_)
  exact Tm_ite (fun _ => go1 _ (z2 w0)) (fun _ => go16 _ (z3 w0 w1))
end WHW

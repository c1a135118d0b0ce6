/-! What is read of a text: its bytes alone (statements). -/
section CGS
variable {T T' : Nat → Int32} {n : Nat}
theorem gTg_c (h : ∀ i, i < n → T i = T' i) : gTg T n = gTg T' n := by
  funext f E o q v b
  unfold gTg
  by_cases c : tkK T n q = 26
  · have c' : tkK T' n q = 26 := by rw [← tkK_c h]; exact c
    rw [if_pos c, if_pos c', tkS_c h (by omega), gT_c h, G_c h]
  · have c' : ¬ tkK T' n q = 26 := by rw [← tkK_c h]; exact c
    rw [if_neg c, if_neg c']
theorem GA_c (h : ∀ i, i < n → T i = T' i) (md : Nat → Nat) (np : Nat) (E : En) : ∀ f, GA T n md np E f = GA T' n md np E f := by
  intro f
  induction f with
  | zero => funext o q v i e c b; simp only [GA]
  | succ f ih =>
    funext o q v i e c b
    unfold GA
    rw [tkK_c h, gT_c h, G_c h, ih]
theorem GA_cc (h : ∀ i, i < n → T i = T' i) : GA T n = GA T' n := by
  funext md np E f
  exact GA_c h md np E f
theorem gCl_c (h : ∀ i, i < n → T i = T' i) : gCl T n = gCl T' n := by
  funext f md np p tg E o q v b
  unfold gCl
  rw [tkK_c h, gT_c h, gW_c h, GA_cc h]
theorem GPr_c (h : ∀ i, i < n → T i = T' i) (E : En) : ∀ f, GPr T n E f = GPr T' n E f := by
  intro f
  induction f with
  | zero => funext o q v e b; simp only [GPr]
  | succ f ih =>
    funext o q v e b
    unfold GPr
    rw [tkK_c h, gT_c h, G_c h, ih]
theorem gS13_c (h : ∀ i, i < n → T i = T' i) : gS13 T n = gS13 T' n := by
  funext q v e b
  unfold gS13
  rw [gW_c h]
theorem gSm0_c (h : ∀ i, i < n → T i = T' i) : gSm0 T n = gSm0 T' n := by
  funext f E o w q v b
  unfold gSm0
  rw [tkK_c h, gT_c h, gW_c h, G_c h, GPr_c h, gS13_c h]
theorem gSm_c (h : ∀ i, i < n → T i = T' i) : gSm T n = gSm T' n := by
  funext f lp E o q v b
  unfold gSm
  rw [tkK_c h, gT_c h, gSm0_c h]
theorem gHo_c (h : ∀ i, i < n → T i = T' i) : gHo T n = gHo T' n := by
  funext f E o q v b
  unfold gHo
  rw [tkK_c h, gT_c h, gTg_c h]
theorem GPt_c (h : ∀ i, i < n → T i = T' i) (E : En) : ∀ f, GPt T n E f = GPt T' n E f := by
  intro f
  induction f with
  | zero => funext o q v i e b; simp only [GPt]
  | succ f ih =>
    funext o q v i e b
    unfold GPt
    rw [tkK_c h, gT_c h, gHo_c h, ih]
theorem gPa_c (h : ∀ i, i < n → T i = T' i) : gPa T n = gPa T' n := by
  funext f E o q v b
  unfold gPa
  rw [gT_c h, gW_c h, G_c h, GPt_c h]
theorem gE13_c (h : ∀ i, i < n → T i = T' i) : gE13 T n = gE13 T' n := by
  funext f E o q v b a c z
  unfold gE13
  rw [gW_c h, G_c h]
theorem gCa_c (h : ∀ i, i < n → T i = T' i) {f : Nat} {MD : Nat → Nat → Nat} {tg : Int32} {E : En} {o q v : Nat} {b : BT} (hk : ¬ tkK T n q = 0) : gCa T n f MD tg E o q v b = gCa T' n f MD tg E o q v b := by
  unfold gCa
  rw [tkS_c h hk, gCl_c h]
theorem gAs_c (h : ∀ i, i < n → T i = T' i) : gAs T n = gAs T' n := by
  funext f MD E o i e q v b
  have kq : tkK T n q = tkK T' n q := by rw [tkK_c h]
  unfold gAs
  by_cases c : tkK T n q = 26
  · rw [gCa_c h (by omega), tkS_c h (by omega), kq, gT_c h, gW_c h, gE13_c h]
  · have c' : ¬ tkK T' n q = 26 := by rw [← kq]; exact c
    rw [if_neg (show ¬ (tkK T n q = 26 ∧ (fd E (tkS T n q)).1 = 3) from fun z => c z.1), if_neg (show ¬ (tkK T' n q = 26 ∧ (fd E (tkS T' n q)).1 = 3) from fun z => c' z.1), kq, gT_c h, gW_c h, gE13_c h]
theorem gBh_c (h : ∀ i, i < n → T i = T' i) : gBh T n = gBh T' n := by
  funext f MD E o i e q v b
  unfold gBh
  rw [tkK_c h, gT_c h, gW_c h, gE13_c h, gTg_c h, gAs_c h]
theorem gBg_c (h : ∀ i, i < n → T i = T' i) {f : Nat} {MD : Nat → Nat → Nat} {E : En} {o q v : Nat} {b : BT} (hk : ¬ tkK T n q = 0) : gBg T n f MD E o q v b = gBg T' n f MD E o q v b := by
  unfold gBg
  rw [tkS_c h hk, gCa_c h hk, gTg_c h, gBh_c h]
theorem hT_c (h : ∀ i, i < n → T i = T' i) : hT T n = hT T' n := by
  funext q k
  unfold hT
  rw [tkK_c h, tkN_c h]
theorem hW_c (h : ∀ i, i < n → T i = T' i) : hW T n = hW T' n := by
  funext t q k
  unfold hW
  rw [tkK_c h, hT_c h]
theorem hE_c (h : ∀ i, i < n → T i = T' i) : hE T n = hE T' n := by
  funext q k
  unfold hE
  rw [hW_c h]
theorem GS_c (h : ∀ i, i < n → T i = T' i) (MD : Nat → Nat → Nat) : ∀ f, GS T n MD f = GS T' n MD f := by
  intro f
  induction f with
  | zero => funext nt E lp o q v pe i l b s; simp only [GS]
  | succ f ih =>
    funext nt E lp o q v pe i l b s
    have kq : tkK T n q = tkK T' n q := by rw [tkK_c h]
    match nt with
    | 0 => simp only [GS]; rw [tkK_c h, ih]
    | 1 =>
      simp only [GS]
      by_cases c : tkK T n q = 26
      · rw [gBg_c h (by omega), tkK_c h, gPa_c h, gSm_c h, ih]
      · have c' : ¬ tkK T' n q = 26 := by rw [← kq]; exact c
        rw [if_neg c, if_neg c', tkK_c h, gPa_c h, gSm_c h, ih]
    | 2 => simp only [GS]; rw [tkK_c h, hT_c h, hE_c h, ih]
    | 3 => simp only [GS]; rw [tkK_c h, hT_c h, hW_c h, G_c h, ih]
    | 4 => simp only [GS]; rw [hT_c h, hW_c h, hE_c h, G_c h, ih]
    | 5 => simp only [GS]; rw [tkK_c h, hT_c h, hW_c h, hE_c h, G_c h, ih]
    | _ + 6 => simp only [GS]
theorem pT_c {β : Type} (h : ∀ i, i < n → T i = T' i) : pT (β := β) T n = pT T' n := by
  funext q k
  unfold pT
  rw [tkK_c h, tkN_c h]
theorem pW_c {β : Type} (h : ∀ i, i < n → T i = T' i) : pW (β := β) T n = pW T' n := by
  funext t q k
  unfold pW
  rw [tkK_c h, pT_c h]
theorem gTl_c {β : Type} (h : ∀ i, i < n → T i = T' i) : gTl (β := β) T n = gTl T' n := by
  funext E q v b k
  have kq : tkK T n q = tkK T' n q := by rw [tkK_c h]
  unfold gTl
  by_cases c : tkK T n q = 26
  · simp only [tlC, eTl, bTl, tkS_c h (show ¬ tkK T n q = 0 by omega), keep_c h (show ¬ tkK T n q = 0 by omega), kq, pT_c h]
  · have c' : ¬ tkK T' n q = 26 := by rw [← kq]; exact c
    rw [if_neg (fun z => c z.1), if_neg (fun z => c' z.1)]
theorem gTe_c {β : Type} (h : ∀ i, i < n → T i = T' i) : gTe (β := β) T n = gTe T' n := by
  funext E q v b k
  have kq : tkK T n q = tkK T' n q := by rw [tkK_c h]
  unfold gTe
  by_cases c : tkK T n q = 26
  · simp only [teC, eTe, bTl, tkS_c h (show ¬ tkK T n q = 0 by omega), keep_c h (show ¬ tkK T n q = 0 by omega), kq, pT_c h]
  · have c' : ¬ tkK T' n q = 26 := by rw [← kq]; exact c
    rw [if_neg (fun z => c z.1), if_neg (fun z => c' z.1)]
theorem GVr_c (h : ∀ i, i < n → T i = T' i) : ∀ f, GVr T n f = GVr T' n f := by
  intro f
  induction f with
  | zero => funext E q v b; simp only [GVr]
  | succ f ih =>
    funext E q v b
    unfold GVr
    rw [gTe_c h, gTl_c h, tkK_c h, pT_c h, pW_c h, ih]
theorem gPI_c {β : Type} (h : ∀ i, i < n → T i = T' i) : gPI (β := β) T n = gPI T' n := by
  funext pr E c q v b k
  unfold gPI gPJ
  rw [tkK_c h, pT_c h, gTl_c h]
theorem GPm_c (h : ∀ i, i < n → T i = T' i) (pr : Bool) (p : Nat) : ∀ f, GPm T n pr p f = GPm T' n pr p f := by
  intro f
  induction f with
  | zero => funext E c md q v b; simp only [GPm]
  | succ f ih =>
    funext E c md q v b
    unfold GPm
    rw [gPI_c h, tkK_c h, pT_c h, ih]
theorem GVs_c (h : ∀ i, i < n → T i = T' i) : ∀ f, GVs T n f = GVs T' n f := by
  intro f
  induction f with
  | zero => funext E q v b; simp only [GVs]
  | succ f ih =>
    funext E q v b
    unfold GVs
    rw [tkK_c h, pT_c h, GVr_c h, ih]
theorem gBod_c (h : ∀ i, i < n → T i = T' i) : gBod T n = gBod T' n := by
  funext pr MD E q v b s
  unfold gBod
  rw [pW_c h, GVs_c h, GS_c h, G_c h]
theorem gCb_c (h : ∀ i, i < n → T i = T' i) : gCb T n = gCb T' n := by
  funext pr E MD c pc v b b1 s F E1 q
  unfold gCb
  rw [pT_c h, GPm_c h, gBod_c h]
theorem gCal_c (h : ∀ i, i < n → T i = T' i) : gCal T n = gCal T' n := by
  funext pr E MD c pc v b s F q
  unfold gCal
  rw [pT_c h, gCb_c h]
  congr 1
  funext q1
  have kq : tkK T n q1 = tkK T' n q1 := by rw [tkK_c h]
  by_cases e : tkK T n q1 = 26
  · simp only [nmC, eC1, tkS_c h (show ¬ tkK T n q1 = 0 by omega), keep_c h (show ¬ tkK T n q1 = 0 by omega), tkK_c h]
  · have e' : ¬ tkK T' n q1 = 26 := by rw [← kq]; exact e
    rw [if_neg (fun z => e z.1), if_neg (fun z => e' z.1)]
theorem GDs_c (h : ∀ i, i < n → T i = T' i) : ∀ f, GDs T n f = GDs T' n f := by
  intro f
  induction f with
  | zero => funext g; simp only [GDs]
  | succ f ih =>
    funext g
    unfold GDs
    rw [tkK_c h, pT_c h, GVr_c h, gCal_c h, ih]
theorem gPrg_c (h : ∀ i, i < n → T i = T' i) : gPrg T n = gPrg T' n := by
  funext g
  unfold gPrg
  have e : GS T n = GS T' n := by
    funext MD f
    exact GS_c h MD f
  rw [tkK_c h, sk_c h, GDs_c h, e]
end CGS

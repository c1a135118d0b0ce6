/-! Two readings of one text over unlike tables: statements. -/
section RST
variable {T : Nat → Int32} {n un : Nat} {R : Nat → BT → BT → Prop} {v : Nat} {b b' : BT} {f o q : Nat} {E : En}
theorem R_lnk (hC : RC un R) {i e x : Nat} (h : R v b b') : R v (bLnk i e x b) (bLnk i e x b') := by
  unfold bLnk
  exact R_ite h (R_set hC h)
theorem gTg_R (hC : RC un R) (hun : E.2.2.2.1 = un) (h : R v b b') : Rg R (gTg T n f E o q v b) (gTg T n f E o q v b') := by
  have s1 := (hC.1 v b b' h).1
  have s2 := (hC.1 v b b' h).2
  unfold gTg
  try simp only [← s1, ← s2]
  repeat' (first
    | with_reducible exact Rg_n
    | with_reducible assumption
    | with_reducible refine Rg_gT (fun q1 => ?_)
    | with_reducible refine Rg_gW (fun q1 => ?_)
    | with_reducible refine Rg_gO ?_
    | with_reducible refine Rg_ite ?_ ?_
    | (with_reducible refine Rg_gb hC (G_R hC _ _ _ _ _ _ _ _ _ _ _ _ ?_ ?_) (fun q1 v1 i1 e1 b1 b1' nm hR h1 h2 => ?_)); rotate_left 2; (try dsimp only); (try simp only [← h1, ← h2]); rotate_right 2
    | with_reducible refine G_R hC _ _ _ _ _ _ _ _ _ _ _ _ ?_ ?_
    | with_reducible refine Rg_ss ?_
    | with_reducible refine R_lnk hC ?_
    | with_reducible refine R_over hC ?_
    | with_reducible refine R_wrap hC ?_
    | with_reducible refine R_node hC ?_
    | with_reducible refine R_keep hC ?_
    | with_reducible refine R_set hC ?_
    | with_reducible refine R_ite ?_ ?_
    | exact hun)
theorem GA_R {md : Nat → Nat} {np : Nat} (hC : RC un R) (hun : E.2.2.2.1 = un) : ∀ (f o q i e c : Nat) (b b' : BT), R v b b' → Rg R (GA T n md np E f o q v i e c b) (GA T n md np E f o q v i e c b') := by
  intro f
  induction f generalizing v with
  | zero => intro o q i e c b b' _; unfold GA; exact Rg_0
  | succ f ih =>
    intro o q i e c b b' h
    have s1 := (hC.1 v b b' h).1
    have s2 := (hC.1 v b b' h).2
    unfold GA
    try simp only [← s1, ← s2]
    repeat' (first
      | with_reducible exact Rg_n
      | with_reducible assumption
      | with_reducible refine Rg_gT (fun q1 => ?_)
      | with_reducible refine Rg_gW (fun q1 => ?_)
      | with_reducible refine Rg_gO ?_
      | with_reducible refine Rg_ite ?_ ?_
      | (with_reducible refine Rg_gb hC (G_R hC _ _ _ _ _ _ _ _ _ _ _ _ ?_ ?_) (fun q1 v1 i1 e1 b1 b1' nm hR h1 h2 => ?_)); rotate_left 2; (try dsimp only); (try simp only [← h1, ← h2]); rotate_right 2
      | with_reducible refine G_R hC _ _ _ _ _ _ _ _ _ _ _ _ ?_ ?_
      | (with_reducible refine Rg_gb hC (ih _ _ _ _ _ _ _ ?_) (fun q1 v1 i1 e1 b1 b1' nm hR h1 h2 => ?_)); rotate_left 2; (try dsimp only); (try simp only [← h1, ← h2]); rotate_right 2
      | with_reducible refine ih _ _ _ _ _ _ _ ?_
      | with_reducible refine Rg_ss ?_
      | with_reducible refine R_lnk hC ?_
      | with_reducible refine R_over hC ?_
      | with_reducible refine R_wrap hC ?_
      | with_reducible refine R_node hC ?_
      | with_reducible refine R_keep hC ?_
      | with_reducible refine R_set hC ?_
      | with_reducible refine R_ite ?_ ?_
      | exact hun)
theorem gCl_R (hC : RC un R) {md : Nat → Nat} {np p : Nat} {tg : Int32} (hun : E.2.2.2.1 = un) (h : R v b b') : Rg R (gCl T n f md np p tg E o q v b) (gCl T n f md np p tg E o q v b') := by
  have s1 := (hC.1 v b b' h).1
  have s2 := (hC.1 v b b' h).2
  unfold gCl
  try simp only [← s1, ← s2]
  repeat' (first
    | with_reducible exact Rg_n
    | with_reducible assumption
    | with_reducible refine Rg_gT (fun q1 => ?_)
    | with_reducible refine Rg_gW (fun q1 => ?_)
    | with_reducible refine Rg_gO ?_
    | with_reducible refine Rg_ite ?_ ?_
    | (with_reducible refine Rg_gb hC (G_R hC _ _ _ _ _ _ _ _ _ _ _ _ ?_ ?_) (fun q1 v1 i1 e1 b1 b1' nm hR h1 h2 => ?_)); rotate_left 2; (try dsimp only); (try simp only [← h1, ← h2]); rotate_right 2
    | with_reducible refine G_R hC _ _ _ _ _ _ _ _ _ _ _ _ ?_ ?_
    | (with_reducible refine Rg_gb hC (GA_R hC ?_ _ _ _ _ _ _ _ _ ?_) (fun q1 v1 i1 e1 b1 b1' nm hR h1 h2 => ?_)); rotate_left 2; (try dsimp only); (try simp only [← h1, ← h2]); rotate_right 2
    | with_reducible refine GA_R hC ?_ _ _ _ _ _ _ _ _ ?_
    | with_reducible refine Rg_ss ?_
    | with_reducible refine R_lnk hC ?_
    | with_reducible refine R_over hC ?_
    | with_reducible refine R_wrap hC ?_
    | with_reducible refine R_node hC ?_
    | with_reducible refine R_keep hC ?_
    | with_reducible refine R_set hC ?_
    | with_reducible refine R_ite ?_ ?_
    | exact hun)
theorem GPr_R (hC : RC un R) (hun : E.2.2.2.1 = un) : ∀ (f o q e : Nat) (b b' : BT), R v b b' → Rg R (GPr T n E f o q v e b) (GPr T n E f o q v e b') := by
  intro f
  induction f generalizing v with
  | zero => intro o q e b b' _; unfold GPr; exact Rg_0
  | succ f ih =>
    intro o q e b b' h
    have s1 := (hC.1 v b b' h).1
    have s2 := (hC.1 v b b' h).2
    unfold GPr
    try simp only [← s1, ← s2]
    repeat' (first
      | with_reducible exact Rg_n
      | with_reducible assumption
      | with_reducible refine Rg_gT (fun q1 => ?_)
      | with_reducible refine Rg_gW (fun q1 => ?_)
      | with_reducible refine Rg_gO ?_
      | with_reducible refine Rg_ite ?_ ?_
      | (with_reducible refine Rg_gb hC (G_R hC _ _ _ _ _ _ _ _ _ _ _ _ ?_ ?_) (fun q1 v1 i1 e1 b1 b1' nm hR h1 h2 => ?_)); rotate_left 2; (try dsimp only); (try simp only [← h1, ← h2]); rotate_right 2
      | with_reducible refine G_R hC _ _ _ _ _ _ _ _ _ _ _ _ ?_ ?_
      | (with_reducible refine Rg_gb hC (ih _ _ _ _ _ ?_) (fun q1 v1 i1 e1 b1 b1' nm hR h1 h2 => ?_)); rotate_left 2; (try dsimp only); (try simp only [← h1, ← h2]); rotate_right 2
      | with_reducible refine ih _ _ _ _ _ ?_
      | with_reducible refine Rg_ss ?_
      | with_reducible refine R_lnk hC ?_
      | with_reducible refine R_over hC ?_
      | with_reducible refine R_wrap hC ?_
      | with_reducible refine R_node hC ?_
      | with_reducible refine R_keep hC ?_
      | with_reducible refine R_set hC ?_
      | with_reducible refine R_ite ?_ ?_
      | exact hun)
theorem gS13_R (hC : RC un R) {e : Nat} (h : R v b b') : Rg R (gS13 T n q v e b) (gS13 T n q v e b') := Rg_gW (fun _ => Rg_ss h)
theorem gSm0_R (hC : RC un R) {w : Nat} (hun : E.2.2.2.1 = un) (h : R v b b') : Rg R (gSm0 T n f E o w q v b) (gSm0 T n f E o w q v b') := by
  have s1 := (hC.1 v b b' h).1
  have s2 := (hC.1 v b b' h).2
  unfold gSm0
  try simp only [← s1, ← s2]
  repeat' (first
    | with_reducible exact Rg_n
    | with_reducible assumption
    | with_reducible refine Rg_gT (fun q1 => ?_)
    | with_reducible refine Rg_gW (fun q1 => ?_)
    | with_reducible refine Rg_gO ?_
    | with_reducible refine Rg_ite ?_ ?_
    | (with_reducible refine Rg_gb hC (G_R hC _ _ _ _ _ _ _ _ _ _ _ _ ?_ ?_) (fun q1 v1 i1 e1 b1 b1' nm hR h1 h2 => ?_)); rotate_left 2; (try dsimp only); (try simp only [← h1, ← h2]); rotate_right 2
    | with_reducible refine G_R hC _ _ _ _ _ _ _ _ _ _ _ _ ?_ ?_
    | (with_reducible refine Rg_gb hC (GPr_R hC ?_ _ _ _ _ _ _ ?_) (fun q1 v1 i1 e1 b1 b1' nm hR h1 h2 => ?_)); rotate_left 2; (try dsimp only); (try simp only [← h1, ← h2]); rotate_right 2
    | with_reducible refine GPr_R hC ?_ _ _ _ _ _ _ ?_
    | with_reducible refine gS13_R hC ?_
    | with_reducible refine Rg_ss ?_
    | with_reducible refine R_lnk hC ?_
    | with_reducible refine R_over hC ?_
    | with_reducible refine R_wrap hC ?_
    | with_reducible refine R_node hC ?_
    | with_reducible refine R_keep hC ?_
    | with_reducible refine R_set hC ?_
    | with_reducible refine R_ite ?_ ?_
    | exact hun)
theorem gSm_R (hC : RC un R) {lp : Nat} (hun : E.2.2.2.1 = un) (h : R v b b') : Rg R (gSm T n f lp E o q v b) (gSm T n f lp E o q v b') := by
  have s1 := (hC.1 v b b' h).1
  have s2 := (hC.1 v b b' h).2
  unfold gSm
  try simp only [← s1, ← s2]
  repeat' (first
    | with_reducible exact Rg_n
    | with_reducible assumption
    | with_reducible refine Rg_gT (fun q1 => ?_)
    | with_reducible refine Rg_gW (fun q1 => ?_)
    | with_reducible refine Rg_gO ?_
    | with_reducible refine Rg_ite ?_ ?_
    | (with_reducible refine Rg_gb hC (gSm0_R hC ?_ ?_) (fun q1 v1 i1 e1 b1 b1' nm hR h1 h2 => ?_)); rotate_left 2; (try dsimp only); (try simp only [← h1, ← h2]); rotate_right 2
    | with_reducible refine gSm0_R hC ?_ ?_
    | with_reducible refine Rg_ss ?_
    | with_reducible refine R_lnk hC ?_
    | with_reducible refine R_over hC ?_
    | with_reducible refine R_wrap hC ?_
    | with_reducible refine R_node hC ?_
    | with_reducible refine R_keep hC ?_
    | with_reducible refine R_set hC ?_
    | with_reducible refine R_ite ?_ ?_
    | exact hun)
theorem gHo_R (hC : RC un R) (hun : E.2.2.2.1 = un) (h : R v b b') : Rg R (gHo T n f E o q v b) (gHo T n f E o q v b') := by
  have s1 := (hC.1 v b b' h).1
  have s2 := (hC.1 v b b' h).2
  unfold gHo
  try simp only [← s1, ← s2]
  repeat' (first
    | with_reducible exact Rg_n
    | with_reducible assumption
    | with_reducible refine Rg_gT (fun q1 => ?_)
    | with_reducible refine Rg_gW (fun q1 => ?_)
    | with_reducible refine Rg_gO ?_
    | with_reducible refine Rg_ite ?_ ?_
    | (with_reducible refine Rg_gb hC (gTg_R hC ?_ ?_) (fun q1 v1 i1 e1 b1 b1' nm hR h1 h2 => ?_)); rotate_left 2; (try dsimp only); (try simp only [← h1, ← h2]); rotate_right 2
    | with_reducible refine gTg_R hC ?_ ?_
    | with_reducible refine Rg_ss ?_
    | with_reducible refine R_lnk hC ?_
    | with_reducible refine R_over hC ?_
    | with_reducible refine R_wrap hC ?_
    | with_reducible refine R_node hC ?_
    | with_reducible refine R_keep hC ?_
    | with_reducible refine R_set hC ?_
    | with_reducible refine R_ite ?_ ?_
    | exact hun)
theorem GPt_R (hC : RC un R) (hun : E.2.2.2.1 = un) : ∀ (f o q i e : Nat) (b b' : BT), R v b b' → Rg R (GPt T n E f o q v i e b) (GPt T n E f o q v i e b') := by
  intro f
  induction f generalizing v with
  | zero => intro o q i e b b' _; unfold GPt; exact Rg_0
  | succ f ih =>
    intro o q i e b b' h
    have s1 := (hC.1 v b b' h).1
    have s2 := (hC.1 v b b' h).2
    unfold GPt
    try simp only [← s1, ← s2]
    repeat' (first
      | with_reducible exact Rg_n
      | with_reducible assumption
      | with_reducible refine Rg_gT (fun q1 => ?_)
      | with_reducible refine Rg_gW (fun q1 => ?_)
      | with_reducible refine Rg_gO ?_
      | with_reducible refine Rg_ite ?_ ?_
      | (with_reducible refine Rg_gb hC (gHo_R hC ?_ ?_) (fun q1 v1 i1 e1 b1 b1' nm hR h1 h2 => ?_)); rotate_left 2; (try dsimp only); (try simp only [← h1, ← h2]); rotate_right 2
      | with_reducible refine gHo_R hC ?_ ?_
      | (with_reducible refine Rg_gb hC (ih _ _ _ _ _ _ ?_) (fun q1 v1 i1 e1 b1 b1' nm hR h1 h2 => ?_)); rotate_left 2; (try dsimp only); (try simp only [← h1, ← h2]); rotate_right 2
      | with_reducible refine ih _ _ _ _ _ _ ?_
      | with_reducible refine Rg_ss ?_
      | with_reducible refine R_lnk hC ?_
      | with_reducible refine R_over hC ?_
      | with_reducible refine R_wrap hC ?_
      | with_reducible refine R_node hC ?_
      | with_reducible refine R_keep hC ?_
      | with_reducible refine R_set hC ?_
      | with_reducible refine R_ite ?_ ?_
      | exact hun)
theorem gPa_R (hC : RC un R) (hun : E.2.2.2.1 = un) (h : R v b b') : Rg R (gPa T n f E o q v b) (gPa T n f E o q v b') := by
  have s1 := (hC.1 v b b' h).1
  have s2 := (hC.1 v b b' h).2
  unfold gPa
  try simp only [← s1, ← s2]
  repeat' (first
    | with_reducible exact Rg_n
    | with_reducible assumption
    | with_reducible refine Rg_gT (fun q1 => ?_)
    | with_reducible refine Rg_gW (fun q1 => ?_)
    | with_reducible refine Rg_gO ?_
    | with_reducible refine Rg_ite ?_ ?_
    | (with_reducible refine Rg_gb hC (G_R hC _ _ _ _ _ _ _ _ _ _ _ _ ?_ ?_) (fun q1 v1 i1 e1 b1 b1' nm hR h1 h2 => ?_)); rotate_left 2; (try dsimp only); (try simp only [← h1, ← h2]); rotate_right 2
    | with_reducible refine G_R hC _ _ _ _ _ _ _ _ _ _ _ _ ?_ ?_
    | (with_reducible refine Rg_gb hC (GPt_R hC ?_ _ _ _ _ _ _ _ ?_) (fun q1 v1 i1 e1 b1 b1' nm hR h1 h2 => ?_)); rotate_left 2; (try dsimp only); (try simp only [← h1, ← h2]); rotate_right 2
    | with_reducible refine GPt_R hC ?_ _ _ _ _ _ _ _ ?_
    | with_reducible refine Rg_ss ?_
    | with_reducible refine R_lnk hC ?_
    | with_reducible refine R_over hC ?_
    | with_reducible refine R_wrap hC ?_
    | with_reducible refine R_node hC ?_
    | with_reducible refine R_keep hC ?_
    | with_reducible refine R_set hC ?_
    | with_reducible refine R_ite ?_ ?_
    | exact hun)
theorem gE13_R (hC : RC un R) {a c z : Int32} (hun : E.2.2.2.1 = un) (h : R v b b') : Rg R (gE13 T n f E o q v b a c z) (gE13 T n f E o q v b' a c z) := by
  have s1 := (hC.1 v b b' h).1
  have s2 := (hC.1 v b b' h).2
  unfold gE13
  try simp only [← s1, ← s2]
  repeat' (first
    | with_reducible exact Rg_n
    | with_reducible assumption
    | with_reducible refine Rg_gT (fun q1 => ?_)
    | with_reducible refine Rg_gW (fun q1 => ?_)
    | with_reducible refine Rg_gO ?_
    | with_reducible refine Rg_ite ?_ ?_
    | (with_reducible refine Rg_gb hC (G_R hC _ _ _ _ _ _ _ _ _ _ _ _ ?_ ?_) (fun q1 v1 i1 e1 b1 b1' nm hR h1 h2 => ?_)); rotate_left 2; (try dsimp only); (try simp only [← h1, ← h2]); rotate_right 2
    | with_reducible refine G_R hC _ _ _ _ _ _ _ _ _ _ _ _ ?_ ?_
    | with_reducible refine Rg_ss ?_
    | with_reducible refine R_lnk hC ?_
    | with_reducible refine R_over hC ?_
    | with_reducible refine R_wrap hC ?_
    | with_reducible refine R_node hC ?_
    | with_reducible refine R_keep hC ?_
    | with_reducible refine R_set hC ?_
    | with_reducible refine R_ite ?_ ?_
    | exact hun)
theorem gCa_R (hC : RC un R) {MD : Nat → Nat → Nat} {tg : Int32} (hun : E.2.2.2.1 = un) (h : R v b b') : Rg R (gCa T n f MD tg E o q v b) (gCa T n f MD tg E o q v b') := by
  have s1 := (hC.1 v b b' h).1
  have s2 := (hC.1 v b b' h).2
  unfold gCa
  try simp only [← s1, ← s2]
  repeat' (first
    | with_reducible exact Rg_n
    | with_reducible assumption
    | with_reducible refine Rg_gT (fun q1 => ?_)
    | with_reducible refine Rg_gW (fun q1 => ?_)
    | with_reducible refine Rg_gO ?_
    | with_reducible refine Rg_ite ?_ ?_
    | (with_reducible refine Rg_gb hC (gCl_R hC ?_ ?_) (fun q1 v1 i1 e1 b1 b1' nm hR h1 h2 => ?_)); rotate_left 2; (try dsimp only); (try simp only [← h1, ← h2]); rotate_right 2
    | with_reducible refine gCl_R hC ?_ ?_
    | with_reducible refine Rg_ss ?_
    | with_reducible refine R_lnk hC ?_
    | with_reducible refine R_over hC ?_
    | with_reducible refine R_wrap hC ?_
    | with_reducible refine R_node hC ?_
    | with_reducible refine R_keep hC ?_
    | with_reducible refine R_set hC ?_
    | with_reducible refine R_ite ?_ ?_
    | exact hun)
theorem gAs_R (hC : RC un R) {MD : Nat → Nat → Nat} {i e : Nat} (hun : E.2.2.2.1 = un) (h : R v b b') : Rg R (gAs T n f MD E o i e q v b) (gAs T n f MD E o i e q v b') := by
  have s1 := (hC.1 v b b' h).1
  have s2 := (hC.1 v b b' h).2
  unfold gAs
  try simp only [← s1, ← s2]
  repeat' (first
    | with_reducible exact Rg_n
    | with_reducible assumption
    | with_reducible refine Rg_gT (fun q1 => ?_)
    | with_reducible refine Rg_gW (fun q1 => ?_)
    | with_reducible refine Rg_gO ?_
    | with_reducible refine Rg_ite ?_ ?_
    | (with_reducible refine Rg_gb hC (gCa_R hC ?_ ?_) (fun q1 v1 i1 e1 b1 b1' nm hR h1 h2 => ?_)); rotate_left 2; (try dsimp only); (try simp only [← h1, ← h2]); rotate_right 2
    | with_reducible refine gCa_R hC ?_ ?_
    | (with_reducible refine Rg_gb hC (gE13_R hC ?_ ?_) (fun q1 v1 i1 e1 b1 b1' nm hR h1 h2 => ?_)); rotate_left 2; (try dsimp only); (try simp only [← h1, ← h2]); rotate_right 2
    | with_reducible refine gE13_R hC ?_ ?_
    | with_reducible refine Rg_ss ?_
    | with_reducible refine R_lnk hC ?_
    | with_reducible refine R_over hC ?_
    | with_reducible refine R_wrap hC ?_
    | with_reducible refine R_node hC ?_
    | with_reducible refine R_keep hC ?_
    | with_reducible refine R_set hC ?_
    | with_reducible refine R_ite ?_ ?_
    | exact hun)
theorem gBh_R (hC : RC un R) {MD : Nat → Nat → Nat} {i e : Nat} (hun : E.2.2.2.1 = un) (h : R v b b') : Rg R (gBh T n f MD E o i e q v b) (gBh T n f MD E o i e q v b') := by
  have s1 := (hC.1 v b b' h).1
  have s2 := (hC.1 v b b' h).2
  unfold gBh
  try simp only [← s1, ← s2]
  repeat' (first
    | with_reducible exact Rg_n
    | with_reducible assumption
    | with_reducible refine Rg_gT (fun q1 => ?_)
    | with_reducible refine Rg_gW (fun q1 => ?_)
    | with_reducible refine Rg_gO ?_
    | with_reducible refine Rg_ite ?_ ?_
    | (with_reducible refine Rg_gb hC (gE13_R hC ?_ ?_) (fun q1 v1 i1 e1 b1 b1' nm hR h1 h2 => ?_)); rotate_left 2; (try dsimp only); (try simp only [← h1, ← h2]); rotate_right 2
    | with_reducible refine gE13_R hC ?_ ?_
    | (with_reducible refine Rg_gb hC (gTg_R hC ?_ ?_) (fun q1 v1 i1 e1 b1 b1' nm hR h1 h2 => ?_)); rotate_left 2; (try dsimp only); (try simp only [← h1, ← h2]); rotate_right 2
    | with_reducible refine gTg_R hC ?_ ?_
    | (with_reducible refine Rg_gb hC (gAs_R hC ?_ ?_) (fun q1 v1 i1 e1 b1 b1' nm hR h1 h2 => ?_)); rotate_left 2; (try dsimp only); (try simp only [← h1, ← h2]); rotate_right 2
    | with_reducible refine gAs_R hC ?_ ?_
    | with_reducible refine Rg_ss ?_
    | with_reducible refine R_lnk hC ?_
    | with_reducible refine R_over hC ?_
    | with_reducible refine R_wrap hC ?_
    | with_reducible refine R_node hC ?_
    | with_reducible refine R_keep hC ?_
    | with_reducible refine R_set hC ?_
    | with_reducible refine R_ite ?_ ?_
    | exact hun)
theorem gBg_R (hC : RC un R) {MD : Nat → Nat → Nat} (hun : E.2.2.2.1 = un) (h : R v b b') : Rg R (gBg T n f MD E o q v b) (gBg T n f MD E o q v b') := by
  have s1 := (hC.1 v b b' h).1
  have s2 := (hC.1 v b b' h).2
  unfold gBg
  try simp only [← s1, ← s2]
  repeat' (first
    | with_reducible exact Rg_n
    | with_reducible assumption
    | with_reducible refine Rg_gT (fun q1 => ?_)
    | with_reducible refine Rg_gW (fun q1 => ?_)
    | with_reducible refine Rg_gO ?_
    | with_reducible refine Rg_ite ?_ ?_
    | (with_reducible refine Rg_gb hC (gCa_R hC ?_ ?_) (fun q1 v1 i1 e1 b1 b1' nm hR h1 h2 => ?_)); rotate_left 2; (try dsimp only); (try simp only [← h1, ← h2]); rotate_right 2
    | with_reducible refine gCa_R hC ?_ ?_
    | (with_reducible refine Rg_gb hC (gTg_R hC ?_ ?_) (fun q1 v1 i1 e1 b1 b1' nm hR h1 h2 => ?_)); rotate_left 2; (try dsimp only); (try simp only [← h1, ← h2]); rotate_right 2
    | with_reducible refine gTg_R hC ?_ ?_
    | (with_reducible refine Rg_gb hC (gBh_R hC ?_ ?_) (fun q1 v1 i1 e1 b1 b1' nm hR h1 h2 => ?_)); rotate_left 2; (try dsimp only); (try simp only [← h1, ← h2]); rotate_right 2
    | with_reducible refine gBh_R hC ?_ ?_
    | with_reducible refine Rg_ss ?_
    | with_reducible refine R_lnk hC ?_
    | with_reducible refine R_over hC ?_
    | with_reducible refine R_wrap hC ?_
    | with_reducible refine R_node hC ?_
    | with_reducible refine R_keep hC ?_
    | with_reducible refine R_set hC ?_
    | with_reducible refine R_ite ?_ ?_
    | exact hun)
end RST

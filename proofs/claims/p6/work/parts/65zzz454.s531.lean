/-! The class: the params of a func; funcs are read. -/
section DYI
variable {σ σ' σ0 σ2 τ τ' τ0 : CS} {L L2 : LV} {b pr : Bool} {T : Nat → Int32} {n q q' q0 u al o v v0 v' mk mk' p sz nc a1 a2 m f w st r0 vg vg' N N0 N1 M j W np pc op b0 K : Nat} {y qh x : Int32} {l l' cs cs' : List Int32} {tb tb' A B : List Ent} {E E' E0 E1 : En} {bt bt0 : BT} {lo : Option Nat} {md : Nat → Nat} {MD : Nat → Nat → Nat} {c c' : Ct} {g : PRG} {s : SB} {F : Nat → Int32} {X : Option PRG} {S : PRG → Int32 → CS → Prop}
theorem DK_w (h : DK b N σ σ') (hl : N0 ≤ N) : DK b N0 σ σ' := ⟨h.1, h.2.1, h.2.2.1, fun i hi => h.2.2.2.1 i (by omega), ⟨by have := h.2.2.2.2.1.1; omega, h.2.2.2.2.1.2⟩, h.2.2.2.2.2⟩
theorem DPo_w {α : Type} {x : Option α} {S : α → Int32 → CS → Prop} {r : RS} (h : DPo b N x S σ a1 a2 r) (hl : N0 ≤ N) : DPo b N0 x S σ a1 a2 r := ⟨h.1, h.2.1, h.2.2.1, h.2.2.2.1, DK_w h.2.2.2.2 hl⟩
/-- what is done behind the params, by the method's block 1 -/
def PmK (T : Nat → Int32) (n : Nat) (b : Bool) (nc al N st : Nat) (E1 : En) (vg q0 b0 : Nat) (σ0 : CS) (X : Option PRG) (S : PRG → Int32 → CS → Prop) (fn : Nat → Nat → LV → CS → Option RS) (x : Option PV6) : Prop := (x = none → X = none) ∧ ∀ a : PV6, x = some a → ∀ (M a1 a2 : Nat) (L : LV) (τ : CS), Dy b σ0 N a1 a2 τ → PmS T n b nc al 0 N st 0 E1 vg σ0 M a.2.1 a.2.2.1 a.2.2.2.1 a.1 a.2.2.2.2.1 τ → tkK T n a.1 = 7 → L.1 1 = nI E1.1.length → q0 ≤ a.1 → b0 ≤ a.2.2.2.2.2.1 → Tm (fun k => fn k 1 L τ) (DPo b N X S σ0 a1 a2)
/-- a func's param -/
theorem fn_pm (hu : nc + 1 < 41) (ih : ∀ (E : En) (c : Nat) (md : Nat → Nat) (q v : Nat) (bt : BT) (x : Option PV6), GPm T n false nc f E c md q v bt = some x → 1 ≤ c → PmK T n b nc al N st E1 vg q0 b0 σ0 X S f_X5_function x → ∀ (M a1 a2 : Nat) (L : LV) (τ : CS), Dy b σ0 N a1 a2 τ → PmS T n b nc al 0 N st 0 E1 vg σ0 M E c md q v τ → L.1 1 = nI E1.1.length → uN (L.1 2) + 1 ≤ c → q0 ≤ q → b0 ≤ bt.1 → Tm (fun k => f_X5_function k 2 L τ) (DPo b N X S σ0 a1 a2)) {c : Nat} {x : Option PV6} (hG : gPI T n false E c q v bt (fun m r => GPm T n false nc f (sP r.2.1 nc (c + 1)) (c + 1) (updN md c m) r.1 r.2.2.1 r.2.2.2) = some x) (K : PmK T n b nc al N st E1 vg q0 b0 σ0 X S f_X5_function x) (dy : Dy b σ0 N a1 a2 τ) (pm : PmS T n b nc al 0 N st 0 E1 vg σ0 M E c md q v τ) (hq : q0 ≤ q) (hb : b0 ≤ bt.1) (l1 : y = nI E1.1.length) (l2 : L2.1 1 = nI E1.1.length) (l3 : uN (L2.1 2) ≤ c) : Tm (fun k => ox (f_X5_parameter k 0 (lI lZ 1 y) τ) (fun r => f_X5_function k 2 L2 r.2.1)) (DPo b N X S σ0 a1 a2) := by
  unfold gPI at hG
  rw [if_neg (fun z => by cases z.1)] at hG
  unfold gPJ at hG
  have qn : q ≤ n := pm.1.1.1.2.2.2.1
  have tb1 := tkN_b T n q qn
  by_cases c8 : c = 8
  · rw [if_pos c8] at hG
    rw [K.1 (Option.some.inj hG).symm]
    exact dt_callD (z := none) dy (Nat.le_refl _) (c_paramF (L := lI lZ 1 y) pm hu l1 (Or.inl ⟨fun z => z.2 c8, rfl⟩)) (Or.inl ⟨rfl, rfl⟩)
  rw [if_neg c8] at hG
  rcases gl_any pm.1.2.2 (by omega) (tk_ok pm.1.1.1) hG with ⟨w1, w2⟩ | ⟨w1, E', b', w2, w3, w4, w5, w6⟩
  · rw [K.1 w2]
    exact dt_callD (z := none) dy (Nat.le_refl _) (c_paramF (L := lI lZ 1 y) pm hu l1 (Or.inl ⟨fun z => w1 z.1, rfl⟩)) (Or.inl ⟨rfl, rfl⟩)
  · refine dt_callD (z := some ()) dy (Nat.le_refl _) (c_paramF (L := lI lZ 1 y) pm hu l1 (Or.inr ⟨⟨w1, c8⟩, rfl⟩)) (Or.inr ⟨_, rfl, fun τ1 ret1 n1 n2 r1 dk1 dy1 => ?_⟩)
    exact ih _ (c + 1) _ _ (v + 1) b' x w6 (by omega) K M _ _ L2 τ1 dy1 (PmS_s pm c8 r1 w2 w3 w4) l2 (by omega) (by omega) (by omega)
/-- a func's params behind the first -/
theorem fn_lp (hu : nc + 1 < 41) : ∀ (f : Nat) (E : En) (c : Nat) (md : Nat → Nat) (q v : Nat) (bt : BT) (x : Option PV6), GPm T n false nc f E c md q v bt = some x → 1 ≤ c → PmK T n b nc al N st E1 vg q0 b0 σ0 X S f_X5_function x → ∀ (M a1 a2 : Nat) (L : LV) (τ : CS), Dy b σ0 N a1 a2 τ → PmS T n b nc al 0 N st 0 E1 vg σ0 M E c md q v τ → L.1 1 = nI E1.1.length → uN (L.1 2) + 1 ≤ c → q0 ≤ q → b0 ≤ bt.1 → Tm (fun k => f_X5_function k 2 L τ) (DPo b N X S σ0 a1 a2)
  | 0, E, c, md, q, v, bt, x, hG => by cases hG
  | f + 1, E, c, md, q, v, bt, x, hG => by
    intro hc K M a1 a2 L τ dy pm l1 l2 hq hb
    rw [GPm, if_neg (by omega)] at hG
    have c8 := pm.2.1.2
    have h1 := pm.1.1
    have qn : q ≤ n := h1.1.2.2.2.1
    have tb1 := tkN_b T n q qn
    refine Tm_suc (fun k => by rw [f_X5_function]) ?_
    refine Tm_no (by rw [u_ltn (by decide) (by omega)]; show ¬ 8 < uN (L.1 2); omega) ?_
    by_cases k12 : tkK T n q = 12
    · rw [if_pos k12] at hG
      refine Tm_yes ((lx_k (kk := 12) h1 (by decide)).2 k12) ?_
      rcases pT_any hG with ⟨z1, z2⟩ | ⟨z1, z2⟩
      · rw [K.1 z2]
        exact dt_callQ (z := none) dy (Nat.le_refl _) (c_advX h1 (Or.inl ⟨z1, rfl⟩)) (Or.inl ⟨rfl, rfl⟩)
      · refine dt_callQ (z := some _) dy (Nat.le_refl _) (c_advX h1 (Or.inr ⟨z1, rfl⟩)) (Or.inr ⟨_, rfl, fun τ1 ret1 n1 n2 q1 xk1 dy1 => ?_⟩)
        have pm1 : PmS T n b nc al 0 N st 0 E1 vg σ0 M E c md (tkN T n q) v τ1 := by
          obtain ⟨⟨h1, h2, h3⟩, ⟨h4, h4'⟩, ⟨h5, h6, h7, h8, h9⟩, h10, h11⟩ := pm
          have e13 := ZK_13 (ZK_of xk1)
          exact ⟨⟨q1, ZF_k h2 xk1, h3⟩, ⟨h4, h4'⟩, ⟨(ZK_12 (ZK_of xk1)).trans h5, UnK_t h6 (UnK_Z (ZK_of xk1)), by rw [e13.1]; exact h7, by rw [e13.2.1]; exact h8, by rw [e13.2.2]; exact h9⟩, h10, h11⟩
        have l2' : uN ((lI L 2 (L.1 2 + 1)).1 2) ≤ c := by
          show uN (L.1 2 + 1) ≤ c
          rw [u_inc (by omega)]
          omega
        exact fn_pm hu (fn_lp hu f) z2 K dy1 pm1 (by omega) hb l1 l1 l2'
    · rw [if_neg k12] at hG
      refine Tm_no (fun z => k12 ((lx_k (kk := 12) h1 (by decide)).1 z)) ?_
      by_cases k7 : tkK T n q = 7
      · rw [if_pos k7] at hG
        exact K.2 _ (Option.some.inj hG).symm M a1 a2 L τ dy pm k7 l1 hq hb
      · rw [if_neg k7] at hG
        rw [K.1 (Option.some.inj hG).symm]
        refine Tm_suc (fun k => by rw [f_X5_function]) ?_
        exact dt_callQ (z := none) dy (Nat.le_refl _) (c_closesQ (kk := 7) h1 (by decide) rfl (Or.inl ⟨fun e => k7 e.1, rfl⟩)) (Or.inl ⟨rfl, rfl⟩)
/-- the head, as the reference has it -/
theorem gCal_i {c : Nat} (h : gCal T n pr E MD c pc v bt s F q = some X) : (¬ TUC T n E c q ∧ X = none) ∨ (TUC T n E c q ∧ pb (GPm T n pr c (fu n) (eC1 T n pr E c (tkN T n q) bt) 0 (fun _ => 0) (tkN T n (tkN T n (tkN T n q))) 0 (bKeep bt T (tkN T n q) (tkE T n (tkN T n q) - tkN T n q))) (fun a => pT T n a.1 (fun q5 => pb (gBod T n pr (fun p => if p = c then a.2.2.2.1 else MD p) a.2.1 q5 a.2.2.2.2.1 a.2.2.2.2.2 s) (fun z => some (some (z.1, (a.2.1.1, [], [], 0, true, true, a.2.1.2.2.2.2.2.2), (fun p => if p = c then a.2.2.2.1 else MD p), c + 1, (if pr = true then pc + 1 else pc), v, bRes bt.2.2.2.2 z.2.2.1, z.2.2.2, upF F c z.2.1 z.2.2.1.2.2.2.2))))) = some X) := by
  unfold gCal at h
  rcases pT_any h with ⟨w1, w2⟩ | ⟨w1, w2⟩
  · exact Or.inl ⟨fun z => z.1 w1, w2⟩
  by_cases k1 : nmC T n E c (tkN T n q)
  case neg =>
    rw [if_neg k1] at w2
    exact Or.inl ⟨fun z => k1 z.2.1, (Option.some.inj w2).symm⟩
  rw [if_pos k1] at w2
  rcases pT_any w2 with ⟨w3, w4⟩ | ⟨w3, w4⟩
  · exact Or.inl ⟨fun z => z.2.2.1 w3, w4⟩
  by_cases k2 : tkK T n (tkN T n (tkN T n q)) = 6
  case neg =>
    rw [if_neg k2] at w4
    exact Or.inl ⟨fun z => k2 z.2.2.2.1, (Option.some.inj w4).symm⟩
  rw [if_pos k2] at w4
  unfold gCb at w4
  rcases pT_any w4 with ⟨w5, w6⟩ | ⟨w5, w6⟩
  · exact Or.inl ⟨fun z => z.2.2.2.2 w5, w6⟩
  · exact Or.inr ⟨⟨w1, k1, w3, k2, w5⟩, w6⟩
theorem pb_ss {α β : Type} {a : α} {K : α → Option (Option β)} : pb (some (some a)) K = K a := rfl
theorem pb_nn {α β : Type} {K : α → Option (Option β)} : pb (some none) K = some none := rfl
theorem fu_s (n : Nat) : fu n = (40 * n + 39) + 1 := rfl
/-- a func -/
theorem c_function (h : DSt T n b N0 W K g σ) (hG : gCal T n false g.2.1 g.2.2.1 g.2.2.2.1 g.2.2.2.2.1 g.2.2.2.2.2.1 g.2.2.2.2.2.2.1 g.2.2.2.2.2.2.2.1 g.2.2.2.2.2.2.2.2 g.1 = some X) : Tm (fun k => f_X5_function k 0 L σ) (DPo b N0 X (fun h _ τ' => DSt T n b N0 W K h τ') σ 0 0) := by
  obtain ⟨c, N, vg, ⟨h1, h2, h3⟩, ⟨h4, h5, h6, h41⟩, ut, pg, ⟨eN, hN0, hcd⟩, ⟨bd1, bd2, bd3, bd4, hK⟩⟩ := h
  generalize g.2.1 = E at *
  generalize g.2.2.1 = MD at *
  generalize g.2.2.2.1 = nc at *
  generalize g.2.2.2.2.1 = pc at *
  generalize g.2.2.2.2.2.1 = v at *
  generalize g.2.2.2.2.2.2.1 = bt at *
  generalize g.2.2.2.2.2.2.2.1 = s at *
  generalize g.2.2.2.2.2.2.2.2 = F at *
  generalize g.1 = q at *
  refine Tm_mono (Q := DPo b N X (fun h _ τ' => DSt T n b N0 W K h τ') σ 0 0) ?_ (fun r z => DPo_w z hN0)
  have d0 := Dy_0 h1
  have evg : vg = v := (h3.1.2.1 rfl).2
  have j3 : fP b 3 ≠ 4004 := by cases b <;> decide
  have j12 : fP b 12 ≠ 4004 := by cases b <;> decide
  have j19 : fP b 19 ≠ 4004 := by cases b <;> decide
  have qn : q ≤ n := h1.1.2.2.2.1
  have t1 := tkN_b T n q qn
  have t2 := tkN_b T n _ t1.2.1
  have t3 := tkN_b T n _ t2.2.1
  refine Tm_suc (fun k => by rw [f_X5_function]) ?_
  rcases gCal_i hG with ⟨w1, w2⟩ | ⟨w1, w2⟩
  · rw [w2]
    exact dt_callD (z := none) d0 (Nat.le_refl _) (c_tellUnit (pr := false) (bt := bt) (L := lI lZ 1 1) h1 h2 h3 h6 rfl (Or.inl ⟨w1, rfl⟩)) (Or.inl ⟨rfl, rfl⟩)
  have n40 : nc < 40 := by have := h3.2.1.2.2.1; have := w1.2.1.2.2; omega
  refine dt_callD (z := some ()) d0 (Nat.le_refl _) (c_tellUnit (pr := false) (bt := bt) (L := lI lZ 1 1) h1 h2 h3 h6 rfl (Or.inr ⟨w1, rfl⟩)) (Or.inr ⟨_, rfl, fun τ1 ret1 n1 n2 r1 dk1 dy1 => ?_⟩)
  obtain ⟨r1, r2, r3, r4, r5, r6, r7, r8, r9⟩ := r1
  generalize hE1 : eC1 T n false E nc (tkN T n q) bt = E1 at *
  have E1f : E1.2.2.2.2.1 = false ∧ E1.2.2.2.2.2.1 = false := by rw [← hE1]; exact ⟨rfl, rfl⟩
  have E1p : ∀ i, i < nc → E1.2.2.2.2.2.2 i = E.2.2.2.2.2.2 i := fun i hi => by rw [← hE1]; exact if_neg (by omega)
  have E1n : E1.2.2.2.2.2.2 nc = 0 := by rw [← hE1]; exact if_pos rfl
  have E1x : ∀ x, x ∈ E1.1 → x ∈ E.1 ∨ (x.2.2.2 = nc ∧ (x.2.2.1 = 2 → True) ∧ (x.2.2.1 = 3 → ¬ True)) := fun x hx => by
    rw [← hE1] at hx
    rcases List.mem_append.1 (show x ∈ E.1 ++ [(tkS T n (tkN T n q), bt.2.1, (if false = true then 3 else 2), nc)] from hx) with z | z
    · exact Or.inl z
    · rw [List.mem_singleton.1 z]
      exact Or.inr ⟨rfl, fun _ => trivial, fun e => absurd (show (2 : Nat) = 3 from e) (by decide)⟩
  -- nothing new is allowed
  have q2 := QS_ww (σ' := uI τ1 4004 0) (u' := nc + 1) (al' := 0) (v' := 0) (p' := 0) r2 (fun j hj => uI_o (fun e => hj (Or.inr (Or.inl e)))) rfl (fun _ _ => rfl) rfl (by rw [uI_o (by decide)]; exact r2.2.2.2.2.1.2.1) (by rw [uI_s]; rfl) r2.2.2.2.2.2.2.1.1 (Nat.zero_le _) (by rw [uI_o j19]; exact r2.2.2.2.2.2.2.2)
  have ph2 := Ph_s (σ := τ1) (σ' := uI τ1 4004 0) rfl
  have dy2 : Dy b σ N (0 + n1) (0 + n2) (uI τ1 4004 0) := ⟨DK_t dy1.1 q2.2 (Nat.le_refl _), by have := dy1.2.1; omega, by have := dy1.2.2; omega⟩
  have pm2 : PmS T n b nc 0 0 N s.1 0 E1 vg σ 0 E1 0 (fun _ => 0) (tkN T n (tkN T n (tkN T n q))) 0 (uI τ1 4004 0) := ⟨⟨q2.1, ⟨r3.1, ⟨by rw [uI_o j3]; exact r3.2.1.1, r3.2.1.2⟩, by rw [uI_o (by decide)]; exact r3.2.2.1, by rw [uI_o (by decide)]; exact r3.2.2.2.1, r3.2.2.2.2⟩, r4⟩, ⟨rfl, by omega⟩, ⟨by rw [uI_o j12]; exact r5, r6, r7, r8, r9⟩, MdN_0, rfl, ⟨rfl, rfl, rfl⟩, fun _ _ => rfl, E1n⟩
  have gz : ∃ x, GPm T n false nc (fu n) E1 0 (fun _ => 0) (tkN T n (tkN T n (tkN T n q))) 0 (bKeep bt T (tkN T n q) (tkE T n (tkN T n q) - tkN T n q)) = some x := by
    rcases pb_any w2 with ⟨z, _⟩ | ⟨t, z, _⟩
    · exact ⟨_, z⟩
    · exact ⟨_, z⟩
  obtain ⟨x, hx⟩ := gz
  rw [hx] at w2
  have h16 : σ.2.2.1 (pR16 b) 0 = nI v ∧ v ≤ 60 := h1.2.2.2.2.2.2.1
  have Kq : PmK T n b nc 0 N s.1 E1 vg q 1 σ X (fun h _ τ' => DSt T n b N0 W K h τ') f_X5_function x := by
    refine ⟨fun e => ?_, fun a e M a1 a2 L' τ' dy pm k7 l1 hq hb => ?_⟩
    · rw [e, pb_nn] at w2
      exact (Option.some.inj w2).symm
    · rw [e, pb_ss] at w2
      have bq : 2 * N + 7 * (n - a.1) + 110 ≤ K := by omega
      exact c_fn1 (E := a.2.1) (bt := a.2.2.2.2.2) (bt0 := bt) (pc := if false = true then pc + 1 else pc) (F := F) (MD := MD) (md := a.2.2.2.1) pm k7 dy pg ut eN hN0 hcd n40 h16 h2.1 evg E1p E1x E1f l1 bd3 hb bd4 bq hK h41 w2
  rw [fu_s] at hx
  rw [GPm, if_pos rfl] at hx
  have e10 : (lI L 1 ret1).1 1 = nI E1.1.length := r1
  by_cases k7 : tkK T n (tkN T n (tkN T n (tkN T n q))) = 7
  · rw [if_pos k7] at hx
    refine Tm_yes ((lx_k (kk := 7) q2.1 (by decide)).2 k7) ?_
    exact Kq.2 _ (Option.some.inj hx).symm 0 _ _ (lI L 1 ret1) _ dy2 pm2 k7 e10 (by show q ≤ _; omega) bd2
  · rw [if_neg k7] at hx
    refine Tm_no (fun z => k7 ((lx_k (kk := 7) q2.1 (by decide)).1 z)) ?_
    exact fn_pm (L2 := lI (lI L 1 ret1) 2 0) (by omega) (fn_lp (by omega) _) hx Kq dy2 pm2 (by omega) bd2 r1 r1 (Nat.zero_le _)
end DYI

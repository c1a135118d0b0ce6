/-! The class: tuples of targets are read. -/
section CXF
variable {σ σ' σ0 τ τ' : CS} {L : LV} {b : Bool} {T : Nat → Int32} {n q q' u al o v mk mk' p sz szB nc0 sz0 mk0 a1 a2 m kk f e s ow a t0 g D op : Nat} {y : Int32} {l l' cs cs' ll : List Int32} {tb : List Ent} {E : En} {gl : Nat × (Nat → Nat → Prop)} {Vm : Nat → Prop} {Pc : Nat → Nat → Prop} {bt : BT} {ks : List Nat}
/-- a hole of a tuple: nothing, or a target's slot, unit, parts -/
abbrev Hol := Option (Nat × Nat × List Nat)
def hoN : List Hol → Nat
  | [] => 0
  | none :: r => 4 + hoN r
  | some z :: r => 4 + z.2.2.length + hoN r
def hoV : List Hol → Nat
  | [] => 0
  | none :: r => hoV r
  | some z :: r => wdN z.2.2 + hoV r
def hoK : List Hol → Nat
  | [] => 0
  | none :: r => hoK r
  | some z :: r => z.2.2.length + 5 + hoK r
def hoM (τ : CS) : Nat → List Hol → Prop
  | _, [] => True
  | at_, none :: r => (τ.2.2.1 41 at_ = -1 ∧ τ.2.2.1 41 (at_ + 2) = 0 ∧ τ.2.2.1 41 (at_ + 3) = 0) ∧ hoM τ (at_ + 4) r
  | at_, some z :: r => TgM τ at_ z.1 z.2.1 z.2.2 ∧ hoM τ (at_ + 4 + z.2.2.length) r
def hoG (u : Nat) (gl : Nat × (Nat → Nat → Prop)) (Vm : Nat → Prop) : List Hol → Prop
  | [] => True
  | none :: r => hoG u gl Vm r
  | some z :: r => (TgV u gl Vm z.1 z.2.1 ∧ kOK z.2.2 ∧ z.2.2.length ≤ 30000 ∧ z.1 < 1000) ∧ hoG u gl Vm r
def hoU (u : Nat) : List Hol → List (Option (Nat × Nat × List Nat))
  | [] => []
  | none :: r => none :: hoU u r
  | some z :: r => some (if z.2.1 = u then 0 else 1, z.1, z.2.2) :: hoU u r
theorem hoU_l : ∀ hs : List Hol, (hoU u hs).length = hs.length
  | [] => rfl
  | none :: r => congrArg (fun z => z + 1) (hoU_l r)
  | some z :: r => congrArg (fun z => z + 1) (hoU_l r)
theorem hoN_ap : ∀ (hs hr : List Hol), hoN (hs ++ hr) = hoN hs + hoN hr
  | [], hr => (Nat.zero_add _).symm
  | none :: r, hr => by show 4 + hoN (r ++ hr) = 4 + hoN r + hoN hr; rw [hoN_ap r hr]; omega
  | some z :: r, hr => by show 4 + z.2.2.length + hoN (r ++ hr) = 4 + z.2.2.length + hoN r + hoN hr; rw [hoN_ap r hr]; omega
theorem hoV_ap : ∀ (hs hr : List Hol), hoV (hs ++ hr) = hoV hs + hoV hr
  | [], hr => (Nat.zero_add _).symm
  | none :: r, hr => hoV_ap r hr
  | some z :: r, hr => by show wdN z.2.2 + hoV (r ++ hr) = wdN z.2.2 + hoV r + hoV hr; rw [hoV_ap r hr]; omega
theorem hoK_ap : ∀ (hs hr : List Hol), hoK (hs ++ hr) = hoK hs + hoK hr
  | [], hr => (Nat.zero_add _).symm
  | none :: r, hr => hoK_ap r hr
  | some z :: r, hr => by show z.2.2.length + 5 + hoK (r ++ hr) = z.2.2.length + 5 + hoK r + hoK hr; rw [hoK_ap r hr]; omega
theorem hoM_ap : ∀ (hs hr : List Hol) (at_ : Nat), hoM τ at_ hs → hoM τ (at_ + hoN hs) hr → hoM τ at_ (hs ++ hr)
  | [], hr, at_, _, h => h
  | none :: r, hr, at_, h, k => ⟨h.1, hoM_ap r hr (at_ + 4) h.2 (by rw [Nat.add_assoc]; exact k)⟩
  | some z :: r, hr, at_, h, k => ⟨h.1, hoM_ap r hr (at_ + 4 + z.2.2.length) h.2 (by rw [show at_ + 4 + z.2.2.length + hoN r = at_ + (4 + z.2.2.length + hoN r) by omega]; exact k)⟩
theorem hoG_ap : ∀ (hs hr : List Hol), hoG u gl Vm hs → hoG u gl Vm hr → hoG u gl Vm (hs ++ hr)
  | [], hr, _, h => h
  | none :: r, hr, h, k => hoG_ap r hr h k
  | some z :: r, hr, h, k => ⟨h.1, hoG_ap r hr h.2 k⟩
theorem hoM_k {mk' nc' sz' : Nat} (x : XK b u nc' sz' mk' τ τ') : ∀ (hs : List Hol) (at_ : Nat), hoM τ at_ hs → at_ + hoN hs ≤ mk' → hoM τ' at_ hs
  | [], _, _, _ => trivial
  | none :: r, at_, h, hm => by
    have hm' : at_ + (4 + hoN r) ≤ mk' := hm
    have z := x.2.2.2.2.2.2.1
    exact ⟨⟨by rw [z _ (by omega)]; exact h.1.1, by rw [z _ (by omega)]; exact h.1.2.1, by rw [z _ (by omega)]; exact h.1.2.2⟩, hoM_k x r (at_ + 4) h.2 (by omega)⟩
  | some z :: r, at_, h, hm => by
    have hm' : at_ + (4 + z.2.2.length + hoN r) ≤ mk' := hm
    exact ⟨TgM_k h.1 x (by omega), hoM_k x r (at_ + 4 + z.2.2.length) h.2 (by omega)⟩
theorem hoO_of (gl1 : gl.1 ≤ 1000) : ∀ (hs : List Hol) (bl : Nat), hoG u gl Vm hs → hoV hs ≤ bl → hoO gl Vm bl (hoU u hs)
  | [], _, _, _ => trivial
  | none :: r, bl, h, k => hoO_of gl1 r bl h k
  | some z :: r, bl, h, k => by
    have k' : wdN z.2.2 + hoV r ≤ bl := k
    exact ⟨⟨tgO_of h.1.1 rfl gl1, kOK_b h.1.2.1, by show wdN z.2.2 ≤ bl; omega⟩, hoO_of gl1 r (bl - wdN z.2.2) h.2 (by omega)⟩
theorem hoC_l : ∀ (hs : List Hol) (i bl : Nat), (hoC i bl (hoU u hs)).length = hoK hs
  | [], _, _ => rfl
  | none :: r, i, bl => hoC_l r (i + 1) bl
  | some z :: r, i, bl => by
    show ([em 99 (nI i)] ++ (rwL (192 + (if z.2.1 = u then 0 else 1)) z.1 (bl + 2) z.2.2 ++ ([em 37 (nI 1)] ++ hoC (i + 1) (bl - wdN z.2.2) (hoU u r)))).length = z.2.2.length + 5 + hoK r
    rw [List.length_append, List.length_append, List.length_append, rwL_l, hoC_l r]
    show 1 + (z.2.2.length + 3 + (1 + hoK r)) = _
    omega
theorem c_whL {vt N : Nat} (u42 : u < 42) (hvt : vt ≤ 90000) (hN : N ≤ 30000) : ∀ (hr : List Hol) (i bl at_ : Nat) (L' : LV) (τ : CS) (a1 a2 : Nat) (cs : List Int32), hoM σ at_ hr → hoG u gl Vm hr → hoV hr ≤ bl → bl ≤ 90000 → at_ + hoN hr ≤ mk → i + hr.length = N → L'.1 2 = nI N → L'.1 3 = nI vt → L'.1 4 = nI bl → L'.1 5 = nI at_ → L'.1 6 = nI i → Sy T n b u al σ nc0 sz0 mk a1 a2 tb o q v mk p szB cs τ → szB + cs.length + hoK hr + 1 ≤ 36864 → Tm (fun k => f_X5_writeHoles k 1 L' τ) (QPo b u nc0 sz0 mk (some ()) (fun _ _ τ => QS T n b u al tb o q v mk p (szB + (cs ++ (hoC i bl (hoU u hr) ++ [em 37 (nI (vt + 1))])).length) τ ∧ (∀ i', i' < (cs ++ (hoC i bl (hoU u hr) ++ [em 37 (nI (vt + 1))])).length → cdr b τ (szB + i') = (cs ++ (hoC i bl (hoU u hr) ++ [em 37 (nI (vt + 1))])).getD i' 0)) σ a1 a2) := by
  intro hr
  induction hr with
  | nil =>
    intro i bl at_ L' τ a1 a2 cs hm hg hv hb ha hi l2 l3 l4 l5 l6 s1 hsz
    have hi' : i = N := hi
    have hsz' : szB + cs.length + 0 + 1 ≤ 36864 := hsz
    refine Tm_suc (fun k => by rw [f_X5_writeHoles]) ?_
    rw [l2, l6]
    refine Tm_yes (by rw [n_le (by omega) (by omega)]; omega) ?_
    refine Tm_suc (fun k => by rw [f_X5_writeHoles]) ?_
    refine Tm_oP (Sy_pp s1) ?_
    rw [l3, n_add1]
    refine st_emit (op := 37) s1 rfl rfl (by omega) (fun τ2 n1 n2 s2 => ?_)
    exact Tm_some (Qfin s2.1 ⟨s2.1.1, s2.2⟩)
  | cons h r ih =>
    intro i bl at_ L' τ a1 a2 cs hm hg hv hb ha hi l2 l3 l4 l5 l6 s1 hsz
    have hi' : i + (r.length + 1) = N := hi
    have sn := s1.1.1.2.2.1
    have sn1 := sn.2.1
    have sn2 := sn.2.2
    -- the next hole
    have b3 : ∀ (L3 : LV) (τ3 : CS) (a3 a4 wd kl bl' : Nat) (cs3 : List Int32), L3.1 2 = nI N → L3.1 3 = nI vt → L3.1 4 = nI bl → L3.1 5 = nI at_ → L3.1 6 = nI i → Sy T n b u al σ nc0 sz0 mk a3 a4 tb o q v mk p szB cs3 τ3 → σ.2.2.1 41 (at_ + 2) = nI wd → σ.2.2.1 41 (at_ + 3) = nI kl → at_ + 4 + kl + hoN r ≤ mk → hoM σ (at_ + 4 + kl) r → hoG u gl Vm r → bl' = bl - wd → wd ≤ bl → hoV r ≤ bl' → szB + cs3.length + hoK r + 1 ≤ 36864 → Tm (fun k => f_X5_writeHoles k 3 L3 τ3) (QPo b u nc0 sz0 mk (some ()) (fun _ _ τ => QS T n b u al tb o q v mk p (szB + (cs3 ++ (hoC (i + 1) bl' (hoU u r) ++ [em 37 (nI (vt + 1))])).length) τ ∧ (∀ i', i' < (cs3 ++ (hoC (i + 1) bl' (hoU u r) ++ [em 37 (nI (vt + 1))])).length → cdr b τ (szB + i') = (cs3 ++ (hoC (i + 1) bl' (hoU u r) ++ [em 37 (nI (vt + 1))])).getD i' 0)) σ a3 a4) := by
      intro L3 τ3 a3 a4 wd kl bl' cs3 j2 j3 j4 j5 j6 s3 t2 t3 ha3 hm3 hg3 hbl hwd hv3 hsz3
      have sn3 := s3.1.1.2.2.1
      have sn31 := sn3.2.1
      have x3 := s3.1.2.1.2.2.2.2.2.2.1
      have e52 : L3.1 5 + 2 = nI (at_ + 2) := by rw [j5]; exact n_add (q := 2) (by omega)
      have e53 : L3.1 5 + 3 = nI (at_ + 3) := by rw [j5]; exact n_add (q := 3) (by omega)
      have e54 : L3.1 5 + 4 = nI (at_ + 4) := by rw [j5]; exact n_add (q := 4) (by omega)
      have t2' : τ3.2.2.1 41 (nI (at_ + 2)).toNatClampNeg = nI wd := by rw [n_cl (by omega), x3 _ (by omega)]; exact t2
      have t3' : τ3.2.2.1 41 (nI (at_ + 3)).toNatClampNeg = nI kl := by rw [n_cl (by omega), x3 _ (by omega)]; exact t3
      refine Tm_suc (fun k => by rw [f_X5_writeHoles]) ?_
      rw [e52, e53, e54]
      refine Tm_chk (n_in (by omega) (by omega)) (Tm_chk (n_in (by omega) (by omega)) ?_)
      rw [t2', t3', j4, n_sub (by omega) hwd, n_add (by omega)]
      refine ih (i + 1) bl' (at_ + 4 + kl) _ τ3 a3 a4 cs3 hm3 hg3 hv3 (by omega) ha3 (by omega) j2 j3 (by rw [hbl]; rfl) rfl ?_ s3 hsz3
      show L3.1 6 + 1 = _
      rw [j6, n_add1]
    have x1 := s1.1.2.1.2.2.2.2.2.2.1
    refine Tm_suc (fun k => by rw [f_X5_writeHoles]) ?_
    rw [l2, l6]
    refine Tm_no (by rw [n_le (by omega) (by omega)]; omega) ?_
    cases h with
    | none =>
      have ha' : at_ + (4 + hoN r) ≤ mk := ha
      have hsz' : szB + cs.length + hoK r + 1 ≤ 36864 := hsz
      rw [l5]
      refine Tm_chk (n_in (by omega) (by omega)) ?_
      rw [n_cl (by omega)]
      refine Tm_yes (by rw [x1 _ (by omega)]; exact hm.1.1) ?_
      exact b3 L' τ a1 a2 0 0 bl cs l2 l3 l4 l5 l6 s1 hm.1.2.1 hm.1.2.2 (by omega) hm.2 hg rfl (Nat.zero_le _) hv hsz'
    | some z =>
      have ha' : at_ + (4 + z.2.2.length + hoN r) ≤ mk := ha
      have hv' : wdN z.2.2 + hoV r ≤ bl := hv
      have hsz' : szB + cs.length + (z.2.2.length + 5 + hoK r) + 1 ≤ 36864 := hsz
      obtain ⟨⟨tv, ko, kl, s200⟩, hg2⟩ := hg
      have e42 : nI bl + 2 = nI (bl + 2) := n_add (q := 2) (by omega)
      obtain ⟨g, hgg⟩ : ∃ g, g = if z.2.1 = u then 0 else 1 := ⟨_, rfl⟩
      rw [l5]
      refine Tm_chk (n_in (by omega) (by omega)) ?_
      rw [n_cl (by omega)]
      refine Tm_no (by rw [x1 _ (by omega), hm.1.1.1]; exact n_mn (by omega)) ?_
      refine Tm_oP (Sy_pp s1) ?_
      rw [l4, e42]
      refine st_emit (op := 99) s1 rfl rfl (by omega) (fun τ2 n1 n2 s2 => ?_)
      have lc2 : ∀ w : Int32, (cs ++ [w]).length = cs.length + 1 := fun w => by rw [List.length_append]; rfl
      have tm2 := TgM_k hm.1 s2.1.2.1 (by omega)
      refine st_emitT (op := 192) (D := bl + 2) s2 u42 tm2 (by omega) hgg tv.2.2 (by decide) (by rw [lc2]; omega) rfl rfl rfl (fun τ3 ret3 n3 n4 s3 xk3 => ?_)
      refine Tm_oP (Sy_pp s3) ?_
      have lc3 : ∀ w : Int32, (cs ++ [w] ++ rwL (192 + g) z.1 (bl + 2) z.2.2).length = cs.length + z.2.2.length + 4 := fun w => by rw [List.length_append, lc2, rwL_l]; omega
      refine st_emit (op := 37) s3 rfl rfl (by rw [lc3]; omega) (fun τ4 n5 n6 s4 => ?_)
      have ea : cs ++ [em 99 (nI i)] ++ rwL (192 + g) z.1 (bl + 2) z.2.2 ++ [em 37 1] ++ (hoC (i + 1) (bl - wdN z.2.2) (hoU u r) ++ [em 37 (nI (vt + 1))]) = cs ++ (hoC i bl (hoU u (some z :: r)) ++ [em 37 (nI (vt + 1))]) := by
        rw [hgg]
        show _ = cs ++ (([em 99 (nI i)] ++ (rwL (192 + (if z.2.1 = u then 0 else 1)) z.1 (bl + 2) z.2.2 ++ ([em 37 (nI 1)] ++ hoC (i + 1) (bl - wdN z.2.2) (hoU u r)))) ++ [em 37 (nI (vt + 1))])
        simp only [List.append_assoc]
        rfl
      have lc4 : ∀ w w' : Int32, (cs ++ [w] ++ rwL (192 + g) z.1 (bl + 2) z.2.2 ++ [w']).length = cs.length + z.2.2.length + 5 := fun w w' => by rw [List.length_append, lc3]; rfl
      rw [← ea]
      have s4' : Sy T n b u al σ nc0 sz0 mk (a1 + n1 + n3 + n5) (a2 + n2 + n4 + n6) tb o q v mk p szB (cs ++ [em 99 (nI i)] ++ rwL (192 + g) z.1 (bl + 2) z.2.2 ++ [em 37 1]) τ4 := s4
      exact b3 L' τ4 _ _ (wdN z.2.2) z.2.2.length (bl - wdN z.2.2) _ l2 l3 l4 l5 l6 s4' hm.1.1.2.2.1 hm.1.1.2.2.2 (by omega) hm.2 hg2 rfl (by omega) (by omega) (by rw [lc4]; omega)
end CXF

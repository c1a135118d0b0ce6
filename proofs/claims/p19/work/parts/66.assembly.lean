/-! lawOK out of what each pair of calls keeps. -/
theorem Tm_oR {x : Nat → Option RS} {f : Nat → RS → LT} {P : RS → Prop} {Q : Int32 × (Nat × Nat) → Prop} (t : Tm x P) (h : ∀ r, P r → Tm (fun k => f k r) Q) : Tm (fun k => oR (x k) (f k)) Q := by
  obtain ⟨r, k0, h1, h2⟩ := t
  obtain ⟨q, k1, h3, h4⟩ := h r h2
  refine ⟨q, max k0 k1, fun k hk => ?_, h4⟩
  show oR (x k) (f k) = some q
  rw [h1 k (by omega)]; exact h3 k (by omega)
theorem Tm_oM {x : Nat → Option (Int32 × MS)} {f : Nat → Int32 × MS → LT} {P : Int32 × MS → Prop} {Q : Int32 × (Nat × Nat) → Prop} (t : Tm x P) (h : ∀ r, P r → Tm (fun k => f k r) Q) : Tm (fun k => oM (x k) (f k)) Q := by
  obtain ⟨r, k0, h1, h2⟩ := t
  obtain ⟨q, k1, h3, h4⟩ := h r h2
  refine ⟨q, max k0 k1, fun k hk => ?_, h4⟩
  show oM (x k) (f k) = some q
  rw [h1 k (by omega)]; exact h3 k (by omega)
theorem Tm_oY {x : Nat → Option (Int32 × CS)} {f : Nat → Int32 × CS → LT} {P : Int32 × CS → Prop} {Q : Int32 × (Nat × Nat) → Prop} (t : Tm x P) (h : ∀ r, P r → Tm (fun k => f k r) Q) : Tm (fun k => oY (x k) (f k)) Q := by
  obtain ⟨r, k0, h1, h2⟩ := t
  obtain ⟨q, k1, h3, h4⟩ := h r h2
  refine ⟨q, max k0 k1, fun k hk => ?_, h4⟩
  show oY (x k) (f k) = some q
  rw [h1 k (by omega)]; exact h3 k (by omega)
theorem Tm_adL {c : Nat × Nat} {x : Nat → LT} {Q : Int32 × (Nat × Nat) → Prop} (t : Tm x (fun q => Q (q.1, (c.1 + q.2.1, c.2 + q.2.2)))) : Tm (fun k => adL c (x k)) Q := by
  obtain ⟨r, k0, h1, h2⟩ := t
  exact ⟨_, k0, fun k hk => by show adL c (x k) = _; rw [h1 k hk]; rfl, h2⟩
theorem s_thrown (L : Nat → Int32) (σ : MS) : Tm (fun k => x_thrown k 0 L σ) (fun r => r = (σ.1 2, σ)) := by
  refine Tm_suc (fun k => by rw [x_thrown]) ?_
  exact Tm_some rfl
/-- a pair of calls: it keeps I, it throws what the law catches, it makes what it may; E: what is compared -/
def callR (I : Nat → CS → MS → Prop) (ΦC ΦS : CS → Nat) (j : Nat) (cs : Nat → Prop) (gC : CS → Nat → Option RS) (gM : MS → Nat → Option (Int32 × MS)) (E : RS → Int32 × MS → Prop) : Prop := ∀ σ τ, I j σ τ → Tm (gC σ) (fun r => cs r.1.1 ∧ r.2.2.1 + ΦC r.2.1 ≤ ΦC σ + 2 ∧ r.2.2.2 + ΦS r.2.1 ≤ ΦS σ + 12 ∧ Tm (gM τ) (fun q => I (j + 1) r.2.1 q.2 ∧ E r q))
theorem wv_z {n e : Nat} {c1 c2 : Int32} (h1 : ¬ c1 = 0) (h2 : ¬ c2 = 0) (h : wv n c1 c2 e = 0) : e = 0 := by
  unfold wv at h
  by_cases q : e = 0
  · exact q
  · rw [if_neg q] at h
    by_cases y : e = n
    · rw [if_pos y] at h; exact absurd h h1
    · rw [if_neg y] at h; exact absurd h h2
theorem out_eq {w : Nat → Int64} {e : Nat} {x y : Int32} (h : e = 0) (hx : x = y) : nbCmp (wo w e x (0 : Int32).toNatClampNeg) y.toInt64 = 0 := by
  subst h
  subst hx
  show nbCmp (vp_updL w 0 x.toInt64 0) x.toInt64 = 0
  rw [show vp_updL w 0 x.toInt64 0 = x.toInt64 from rfl]
  unfold nbCmp
  rw [if_neg (fun z => Int64.lt_irrefl z), if_pos rfl]
def callY (I : Nat → CS → MS → Prop) (ΦC ΦS : CS → Nat) (j : Nat) (gC : CS → Nat → Option (Int32 × CS)) (gM : MS → Nat → Option (Int32 × MS)) : Prop := ∀ σ τ, I j σ τ → Tm (gC σ) (fun r => ΦC r.2 ≤ ΦC σ ∧ ΦS r.2 ≤ ΦS σ ∧ Tm (gM τ) (fun q => I (j + 1) r.2 q.2))
def callYE (I : Nat → CS → MS → Prop) (ΦC ΦS : CS → Nat) (j : Nat) (gC : CS → Nat → Option (Int32 × CS)) (gM : MS → Nat → Option (Int32 × MS)) (E : Int32 × CS → Int32 × MS → Prop) : Prop := ∀ σ τ, I j σ τ → Tm (gC σ) (fun r => ΦC r.2 ≤ ΦC σ ∧ ΦS r.2 ≤ ΦS σ ∧ Tm (gM τ) (fun q => I (j + 1) r.2 q.2 ∧ E r q))
set_option maxHeartbeats 4000000 in
theorem lawOK_of (I : Nat → CS → MS → Prop) (ΦC ΦS : CS → Nat) (hI0 : I 0 cs0 ms0) (hC0 : 135 + (ΦC cs0 + 2 * 512) ≤ 601024) (hS0 : 3256183 + (ΦS cs0 + 12 * 512) ≤ 7293034)
    (h_feed : ∀ j : Nat, j < 512 → ∀ a1 : Int32, ∀ a2 : Int32, ∀ a3 : Int32, ∀ a4 : Int32, ∀ a5 : Int32, callR I ΦC ΦS j (fun x => x = 0 ∨ x = 4) (fun σ k => f_X11_feed k 0 (lI (lI (lI (lI (lI lZ 1 a1) 2 a2) 3 a3) 4 a4) 5 a5) σ) (fun τ k => x_feed k 0 (upd (upd (upd (upd (upd (fun _ => 0) 1 a1) 2 a2) 3 a3) 4 a4) 5 a5) τ) (fun _ _ => True))
    (h_end : ∀ j : Nat, j < 512 → ∀ a1 : Int32, callR I ΦC ΦS j (fun x => x = 0 ∨ x = 1) (fun σ k => f_X11_end k 0 (lI lZ 1 a1) σ) (fun τ k => x_end k 0 (upd (fun _ => 0) 1 a1) τ) (fun _ _ => True))
    (h_program : ∀ j : Nat, j < 512 → callR I ΦC ΦS j (fun x => x = 0) (fun σ k => f_X11_program k 0 lZ σ) (fun τ k => x_program k 0 (fun _ => 0) τ) (fun _ _ => True))
    (h_fault : ∀ j : Nat, j < 512 → callY I ΦC ΦS j (fun σ k => y_X11_fault k 0 lZ σ) (fun τ k => x_fault_ k 0 (fun _ => 0) τ))
    (h_start : ∀ j : Nat, j < 512 → ∀ a1 : Int32, ∀ a2 : Int32, callR I ΦC ΦS j (fun x => x = 0 ∨ x = 2) (fun σ k => f_X11_start k 0 (lJ lZ 1 ((((((a1.toInt64)) <<< ((32 : Int32).toInt64 &&& 63))) ||| ((((a2.toInt64)) &&& 4294967295))))) σ) (fun τ k => x_start k 0 (fun _ => 0) (updW (fun _ => 0) 1 ((((((a1.toInt64)) <<< ((32 : Int32).toInt64 &&& 63))) ||| ((((a2.toInt64)) &&& 4294967295))))) τ) (fun _ _ => True))
    (h_step : ∀ j : Nat, j < 512 → ∀ a1 : Int32, callR I ΦC ΦS j (fun x => x = 0 ∨ x = 2 ∨ x = 1) (fun σ k => f_X11_step k 0 (lI lZ 1 a1) σ) (fun τ k => x_step k 0 (upd (fun _ => 0) 1 a1) τ) (fun _ _ => True))
    (h_back : ∀ j : Nat, j < 512 → ∀ a1 : Int32, callR I ΦC ΦS j (fun x => x = 0 ∨ x = 2 ∨ x = 1) (fun σ k => f_X11_back k 0 (lI lZ 1 a1) σ) (fun τ k => x_back k 0 (upd (fun _ => 0) 1 a1) τ) (fun _ _ => True))
    (h_state : ∀ j : Nat, j < 512 → ∀ a1 : Int32, callR I ΦC ΦS j (fun x => x = 0 ∨ x = 3 ∨ x = 2) (fun σ k => f_X11_state k 0 (lI lZ 1 a1) σ) (fun τ k => x_state k 0 (upd (fun _ => 0) 1 a1) τ) (fun _ _ => True))
    (h_out : ∀ j : Nat, j < 512 → ∀ a1 : Int32, callR I ΦC ΦS j (fun x => x = 0 ∨ x = 3) (fun σ k => f_X11_out k 0 (lI lZ 1 a1) σ) (fun τ k => x_out k 0 (upd (fun _ => 0) 1 a1) τ) (fun _ _ => True))
    (h_value : ∀ j : Nat, j < 512 → callR I ΦC ΦS j (fun x => x = 0 ∨ x = 2 ∨ x = 1) (fun σ k => f_X11_value k 0 lZ σ) (fun τ k => x_value k 0 (fun _ => 0) τ) (fun _ _ => True))
    (h_work : ∀ j : Nat, j < 512 → callR I ΦC ΦS j (fun x => x = 0 ∨ x = 2) (fun σ k => f_X11_work k 0 lZ σ) (fun τ k => x_work k 0 (fun _ => 0) (fun _ => 0) τ) (fun _ _ => True))
    (h_view : ∀ j : Nat, j < 512 → callR I ΦC ΦS j (fun x => x = 0 ∨ x = 2 ∨ x = 4) (fun σ k => f_X11_view k 0 lZ σ) (fun τ k => x_view k 0 (fun _ => 0) τ) (fun _ _ => True))
    (h_round : ∀ j : Nat, j < 512 → callR I ΦC ΦS j (fun x => x = 0 ∨ x = 2) (fun σ k => f_X11_round k 0 lZ σ) (fun τ k => x_round k 0 (fun _ => 0) τ) (fun _ _ => True))
    (h_seen : ∀ j : Nat, j < 512 → ∀ a1 : Int32, ∀ a2 : Int32, callR I ΦC ΦS j (fun x => x = 0 ∨ x = 3 ∨ x = 2) (fun σ k => f_X11_seen k 0 (lI (lI lZ 1 a1) 2 a2) σ) (fun τ k => x_seen k 0 (upd (upd (fun _ => 0) 1 a1) 2 a2) τ) (fun _ _ => True))
    (h_shown : ∀ j : Nat, j < 512 → ∀ a1 : Int32, callR I ΦC ΦS j (fun x => x = 0 ∨ x = 3) (fun σ k => f_X11_shown k 0 (lI lZ 1 a1) σ) (fun τ k => x_shown k 0 (upd (fun _ => 0) 1 a1) τ) (fun _ _ => True))
    (h_shape : ∀ j : Nat, j < 512 → ∀ a1 : Int32, callR I ΦC ΦS j (fun x => x = 0 ∨ x = 3) (fun σ k => f_X11_shape k 0 (lI lZ 1 a1) σ) (fun τ k => x_shape k 0 (upd (fun _ => 0) 1 a1) τ) (fun _ _ => True))
    (h_order : ∀ j : Nat, j < 512 → callY I ΦC ΦS j (fun σ k => y_X11_order k 0 lZ σ) (fun τ k => x_order k 0 (fun _ => 0) τ))
    (h_count : ∀ j : Nat, j < 512 → ∀ a1 : Int32, callR I ΦC ΦS j (fun x => x = 0 ∨ x = 3) (fun σ k => f_X11_count k 0 (lI lZ 1 a1) σ) (fun τ k => x_count k 0 (upd (fun _ => 0) 1 a1) τ) (fun r q => q.2.1 2 = wv 3 1 1 r.1.1 ∧ (r.1.1 = 0 → r.1.2 = q.1)))
    (h_none : ∀ j : Nat, j < 512 → ∀ σ τ, I j σ τ → I (j + 1) σ τ) : lawOK := by
  intro n f hL
  have main : ∀ (m j : Nat) (σ : CS) (w : Nat → Int64) (τ : MS), j + m = 512 → n ≤ 6 * 512 → I j σ τ → Tm (fun k => lawF n f k (nI (6 * j)) (σ, w, τ)) (fun r => r.1 = 1 ∧ r.2.1 ≤ ΦC σ + 2 * m ∧ r.2.2 ≤ ΦS σ + 12 * m) := by
    intro m
    induction m with
    | zero =>
      intro j σ w τ hj hn hI
      refine Tm_suc (fun k => lawF_s n f k _ σ w τ) ?_
      refine Tm_ite (fun _ => Tm_some ⟨rfl, Nat.zero_le _, Nat.zero_le _⟩) (fun c => absurd ?_ c)
      have e1 : (nI n).toInt = n := i_ofNat (by omega)
      have e2 : (nI (6 * j)).toInt = (6 * j : Nat) := i_ofNat (by omega)
      have e3 : (nI n - 6).toInt = (n : Int) - 6 := by rw [i_sub] <;> rw [e1, show (6 : Int32).toInt = 6 from rfl] <;> omega
      rw [i_lt, e2, e3]; omega
    | succ m ih =>
      intro j σ w τ hjm hn hI
      have hj : j < 512 := by omega
      refine Tm_suc (fun k => lawF_s n f k _ σ w τ) ?_
      have e1 : (nI n).toInt = n := i_ofNat (by omega)
      have e2 : (nI (6 * j)).toInt = (6 * j : Nat) := i_ofNat (by omega)
      have e3 : (nI n - 6).toInt = (n : Int) - 6 := by rw [i_sub] <;> rw [e1, show (6 : Int32).toInt = 6 from rfl] <;> omega
      have nx6 : nI (6 * j) + 6 = nI (6 * (j + 1)) := (Int32.ofNat_add (6 * j) 6).symm
      refine Tm_ite (fun _ => Tm_some ⟨rfl, Nat.zero_le _, Nat.zero_le _⟩) (fun c => ?_)
      rw [i_lt, e2, e3] at c
      have inb : ∀ a : Int32, (0 ≤ a.toInt ∧ a.toInt ≤ 5) → ¬ (nI (6 * j) + a < 0 ∨ n ≤ (nI (6 * j) + a).toNatClampNeg) := fun a ha => by
        have e4 : (nI (6 * j) + a).toInt = (6 * j : Nat) + a.toInt := by rw [i_add] <;> rw [e2] <;> omega
        exact i_in (by omega) (by omega)
      refine Tm_chk (i_in (by omega) (by omega)) ?_
      refine Tm_ite (fun _ => ?_) (fun _ => ?_)
      · skip
        refine Tm_chk (inb 1 (by decide)) ?_
        refine Tm_chk (inb 2 (by decide)) ?_
        refine Tm_chk (inb 3 (by decide)) ?_
        refine Tm_chk (inb 4 (by decide)) ?_
        refine Tm_chk (inb 5 (by decide)) ?_
        refine Tm_oR (h_feed j hj _ _ _ _ _ σ τ hI) (fun r hr => ?_)
        refine Tm_chk (hr.1) ?_
        refine Tm_adL ?_
        refine Tm_chk (inb 1 (by decide)) ?_
        refine Tm_chk (inb 2 (by decide)) ?_
        refine Tm_chk (inb 3 (by decide)) ?_
        refine Tm_chk (inb 4 (by decide)) ?_
        refine Tm_chk (inb 5 (by decide)) ?_
        refine Tm_oM hr.2.2.2 (fun q hq => ?_)
        replace hq := hq.1
        rw [nx6]
        have h1 := hr.2.1
        have h2 := hr.2.2.1
        exact Tm_mono (ih (j + 1) _ _ _ (by omega) (by omega) hq) (fun x hx => ⟨hx.1, by show _ + _ ≤ _; omega, by show _ + _ ≤ _; omega⟩)
      refine Tm_ite (fun _ => ?_) (fun _ => ?_)
      · skip
        refine Tm_chk (inb 1 (by decide)) ?_
        refine Tm_oR (h_end j hj _ σ τ hI) (fun r hr => ?_)
        refine Tm_chk (hr.1) ?_
        refine Tm_adL ?_
        refine Tm_chk (inb 1 (by decide)) ?_
        refine Tm_oM hr.2.2.2 (fun q hq => ?_)
        replace hq := hq.1
        rw [nx6]
        have h1 := hr.2.1
        have h2 := hr.2.2.1
        exact Tm_mono (ih (j + 1) _ _ _ (by omega) (by omega) hq) (fun x hx => ⟨hx.1, by show _ + _ ≤ _; omega, by show _ + _ ≤ _; omega⟩)
      refine Tm_ite (fun _ => ?_) (fun _ => ?_)
      · skip
        refine Tm_oR (h_program j hj σ τ hI) (fun r hr => ?_)
        refine Tm_chk (hr.1) ?_
        refine Tm_adL ?_
        refine Tm_oM hr.2.2.2 (fun q hq => ?_)
        replace hq := hq.1
        rw [nx6]
        have h1 := hr.2.1
        have h2 := hr.2.2.1
        exact Tm_mono (ih (j + 1) _ _ _ (by omega) (by omega) hq) (fun x hx => ⟨hx.1, by show _ + _ ≤ _; omega, by show _ + _ ≤ _; omega⟩)
      refine Tm_ite (fun _ => ?_) (fun _ => ?_)
      · skip
        refine Tm_oY (h_fault j hj σ τ hI) (fun r hr => ?_)
        refine Tm_oM hr.2.2 (fun q hq => ?_)
        rw [nx6]
        have h1 := hr.1
        have h2 := hr.2.1
        exact Tm_mono (ih (j + 1) _ _ _ (by omega) (by omega) hq) (fun x hx => ⟨hx.1, by omega, by omega⟩)
      refine Tm_ite (fun _ => ?_) (fun _ => ?_)
      · skip
        refine Tm_chk (inb 1 (by decide)) ?_
        refine Tm_chk (inb 2 (by decide)) ?_
        refine Tm_oR (h_start j hj _ _ σ τ hI) (fun r hr => ?_)
        refine Tm_chk (hr.1) ?_
        refine Tm_adL ?_
        refine Tm_chk (inb 1 (by decide)) ?_
        refine Tm_chk (inb 2 (by decide)) ?_
        refine Tm_oM hr.2.2.2 (fun q hq => ?_)
        replace hq := hq.1
        rw [nx6]
        have h1 := hr.2.1
        have h2 := hr.2.2.1
        exact Tm_mono (ih (j + 1) _ _ _ (by omega) (by omega) hq) (fun x hx => ⟨hx.1, by show _ + _ ≤ _; omega, by show _ + _ ≤ _; omega⟩)
      refine Tm_ite (fun _ => ?_) (fun _ => ?_)
      · skip
        refine Tm_chk (inb 1 (by decide)) ?_
        refine Tm_oR (h_step j hj _ σ τ hI) (fun r hr => ?_)
        refine Tm_chk (hr.1) ?_
        refine Tm_adL ?_
        refine Tm_chk (inb 1 (by decide)) ?_
        refine Tm_oM hr.2.2.2 (fun q hq => ?_)
        replace hq := hq.1
        rw [nx6]
        have h1 := hr.2.1
        have h2 := hr.2.2.1
        exact Tm_mono (ih (j + 1) _ _ _ (by omega) (by omega) hq) (fun x hx => ⟨hx.1, by show _ + _ ≤ _; omega, by show _ + _ ≤ _; omega⟩)
      refine Tm_ite (fun _ => ?_) (fun _ => ?_)
      · skip
        refine Tm_chk (inb 1 (by decide)) ?_
        refine Tm_oR (h_back j hj _ σ τ hI) (fun r hr => ?_)
        refine Tm_chk (hr.1) ?_
        refine Tm_adL ?_
        refine Tm_chk (inb 1 (by decide)) ?_
        refine Tm_oM hr.2.2.2 (fun q hq => ?_)
        replace hq := hq.1
        rw [nx6]
        have h1 := hr.2.1
        have h2 := hr.2.2.1
        exact Tm_mono (ih (j + 1) _ _ _ (by omega) (by omega) hq) (fun x hx => ⟨hx.1, by show _ + _ ≤ _; omega, by show _ + _ ≤ _; omega⟩)
      refine Tm_ite (fun _ => ?_) (fun _ => ?_)
      · skip
        refine Tm_chk (inb 1 (by decide)) ?_
        refine Tm_oR (h_state j hj _ σ τ hI) (fun r hr => ?_)
        refine Tm_chk (hr.1) ?_
        refine Tm_adL ?_
        refine Tm_chk (inb 1 (by decide)) ?_
        refine Tm_oM hr.2.2.2 (fun q hq => ?_)
        replace hq := hq.1
        rw [nx6]
        have h1 := hr.2.1
        have h2 := hr.2.2.1
        exact Tm_mono (ih (j + 1) _ _ _ (by omega) (by omega) hq) (fun x hx => ⟨hx.1, by show _ + _ ≤ _; omega, by show _ + _ ≤ _; omega⟩)
      refine Tm_ite (fun _ => ?_) (fun _ => ?_)
      · skip
        refine Tm_chk (inb 1 (by decide)) ?_
        refine Tm_oR (h_out j hj _ σ τ hI) (fun r hr => ?_)
        refine Tm_chk (hr.1) ?_
        refine Tm_adL ?_
        refine Tm_chk (inb 1 (by decide)) ?_
        refine Tm_oM hr.2.2.2 (fun q hq => ?_)
        replace hq := hq.1
        rw [nx6]
        have h1 := hr.2.1
        have h2 := hr.2.2.1
        exact Tm_mono (ih (j + 1) _ _ _ (by omega) (by omega) hq) (fun x hx => ⟨hx.1, by show _ + _ ≤ _; omega, by show _ + _ ≤ _; omega⟩)
      refine Tm_ite (fun _ => ?_) (fun _ => ?_)
      · skip
        refine Tm_oR (h_value j hj σ τ hI) (fun r hr => ?_)
        refine Tm_chk (hr.1) ?_
        refine Tm_adL ?_
        refine Tm_oM hr.2.2.2 (fun q hq => ?_)
        replace hq := hq.1
        rw [nx6]
        have h1 := hr.2.1
        have h2 := hr.2.2.1
        exact Tm_mono (ih (j + 1) _ _ _ (by omega) (by omega) hq) (fun x hx => ⟨hx.1, by show _ + _ ≤ _; omega, by show _ + _ ≤ _; omega⟩)
      refine Tm_ite (fun _ => ?_) (fun _ => ?_)
      · skip
        refine Tm_oR (h_work j hj σ τ hI) (fun r hr => ?_)
        refine Tm_chk (hr.1) ?_
        refine Tm_adL ?_
        refine Tm_oM hr.2.2.2 (fun q hq => ?_)
        replace hq := hq.1
        rw [nx6]
        have h1 := hr.2.1
        have h2 := hr.2.2.1
        exact Tm_mono (ih (j + 1) _ _ _ (by omega) (by omega) hq) (fun x hx => ⟨hx.1, by show _ + _ ≤ _; omega, by show _ + _ ≤ _; omega⟩)
      refine Tm_ite (fun _ => ?_) (fun _ => ?_)
      · skip
        refine Tm_oR (h_view j hj σ τ hI) (fun r hr => ?_)
        refine Tm_chk (hr.1) ?_
        refine Tm_adL ?_
        refine Tm_oM hr.2.2.2 (fun q hq => ?_)
        replace hq := hq.1
        rw [nx6]
        have h1 := hr.2.1
        have h2 := hr.2.2.1
        exact Tm_mono (ih (j + 1) _ _ _ (by omega) (by omega) hq) (fun x hx => ⟨hx.1, by show _ + _ ≤ _; omega, by show _ + _ ≤ _; omega⟩)
      refine Tm_ite (fun _ => ?_) (fun _ => ?_)
      · skip
        refine Tm_oR (h_round j hj σ τ hI) (fun r hr => ?_)
        refine Tm_chk (hr.1) ?_
        refine Tm_adL ?_
        refine Tm_oM hr.2.2.2 (fun q hq => ?_)
        replace hq := hq.1
        rw [nx6]
        have h1 := hr.2.1
        have h2 := hr.2.2.1
        exact Tm_mono (ih (j + 1) _ _ _ (by omega) (by omega) hq) (fun x hx => ⟨hx.1, by show _ + _ ≤ _; omega, by show _ + _ ≤ _; omega⟩)
      refine Tm_ite (fun _ => ?_) (fun _ => ?_)
      · skip
        refine Tm_chk (inb 1 (by decide)) ?_
        refine Tm_chk (inb 2 (by decide)) ?_
        refine Tm_oR (h_seen j hj _ _ σ τ hI) (fun r hr => ?_)
        refine Tm_chk (hr.1) ?_
        refine Tm_adL ?_
        refine Tm_chk (inb 1 (by decide)) ?_
        refine Tm_chk (inb 2 (by decide)) ?_
        refine Tm_oM hr.2.2.2 (fun q hq => ?_)
        replace hq := hq.1
        rw [nx6]
        have h1 := hr.2.1
        have h2 := hr.2.2.1
        exact Tm_mono (ih (j + 1) _ _ _ (by omega) (by omega) hq) (fun x hx => ⟨hx.1, by show _ + _ ≤ _; omega, by show _ + _ ≤ _; omega⟩)
      refine Tm_ite (fun _ => ?_) (fun _ => ?_)
      · skip
        refine Tm_chk (inb 1 (by decide)) ?_
        refine Tm_oR (h_shown j hj _ σ τ hI) (fun r hr => ?_)
        refine Tm_chk (hr.1) ?_
        refine Tm_adL ?_
        refine Tm_chk (inb 1 (by decide)) ?_
        refine Tm_oM hr.2.2.2 (fun q hq => ?_)
        replace hq := hq.1
        rw [nx6]
        have h1 := hr.2.1
        have h2 := hr.2.2.1
        exact Tm_mono (ih (j + 1) _ _ _ (by omega) (by omega) hq) (fun x hx => ⟨hx.1, by show _ + _ ≤ _; omega, by show _ + _ ≤ _; omega⟩)
      refine Tm_ite (fun _ => ?_) (fun _ => ?_)
      · skip
        refine Tm_chk (inb 1 (by decide)) ?_
        refine Tm_oR (h_shape j hj _ σ τ hI) (fun r hr => ?_)
        refine Tm_chk (hr.1) ?_
        refine Tm_adL ?_
        refine Tm_chk (inb 1 (by decide)) ?_
        refine Tm_oM hr.2.2.2 (fun q hq => ?_)
        replace hq := hq.1
        rw [nx6]
        have h1 := hr.2.1
        have h2 := hr.2.2.1
        exact Tm_mono (ih (j + 1) _ _ _ (by omega) (by omega) hq) (fun x hx => ⟨hx.1, by show _ + _ ≤ _; omega, by show _ + _ ≤ _; omega⟩)
      refine Tm_ite (fun _ => ?_) (fun _ => ?_)
      · skip
        refine Tm_oY (h_order j hj σ τ hI) (fun r hr => ?_)
        refine Tm_oM hr.2.2 (fun q hq => ?_)
        rw [nx6]
        have h1 := hr.1
        have h2 := hr.2.1
        exact Tm_mono (ih (j + 1) _ _ _ (by omega) (by omega) hq) (fun x hx => ⟨hx.1, by omega, by omega⟩)
      refine Tm_ite (fun _ => ?_) (fun _ => ?_)
      · skip
        refine Tm_chk (inb 1 (by decide)) ?_
        refine Tm_oR (h_count j hj _ σ τ hI) (fun r hr => ?_)
        refine Tm_chk (hr.1) ?_
        refine Tm_adL ?_
        refine Tm_chk (inb 1 (by decide)) ?_
        refine Tm_oM hr.2.2.2 (fun q hq => ?_)
        refine Tm_oM (s_thrown _ _) (fun q2 hq2 => ?_)
        subst hq2
        have hq9 := hq.2
        replace hq := hq.1
        refine Tm_ite (fun _ => ?_) (fun c9 => absurd hq9.1 c9)
        refine Tm_ite (fun c8 => ?_) (fun _ => ?_)
        · refine Tm_ite (fun _ => ?_) (fun c9 => absurd (out_eq (wv_z (by decide) (by decide) c8) (hq9.2 (wv_z (by decide) (by decide) c8))) c9)
          rw [nx6]
          have h1 := hr.2.1
          have h2 := hr.2.2.1
          exact Tm_mono (ih (j + 1) _ _ _ (by omega) (by omega) hq) (fun x hx => ⟨hx.1, by show _ + _ ≤ _; omega, by show _ + _ ≤ _; omega⟩)
        · rw [nx6]
          have h1 := hr.2.1
          have h2 := hr.2.2.1
          exact Tm_mono (ih (j + 1) _ _ _ (by omega) (by omega) hq) (fun x hx => ⟨hx.1, by show _ + _ ≤ _; omega, by show _ + _ ≤ _; omega⟩)
      rw [nx6]
      exact Tm_mono (ih (j + 1) σ w τ (by omega) (by omega) (h_none j hj σ τ hI)) (fun x hx => ⟨hx.1, by omega, by omega⟩)
  have hn : n ≤ 6 * 512 := hL
  obtain ⟨r, k0, h1, h2⟩ := main 512 0 cs0 (fun _ => 0) ms0 rfl hn hI0
  refine ⟨k0, r, h1 k0 (Nat.le_refl _), h2.1, ?_, ?_⟩
  · omega
  · omega

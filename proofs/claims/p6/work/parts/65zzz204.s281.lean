/-! Trees of nodes: more may be read or made. -/
section WLC
variable {T : Nat → Nat → Int32} {FN : Nat → Nat → Prop} {lc lc' : Nat → Prop}
theorem WN_lc (hl : ∀ j, lc j → lc' j) : ∀ (f nt O r K : Nat) (x : Int32), WN T FN f nt O r K lc x → WN T FN f nt O r K lc' x := by
  intro f
  induction f with
  | zero => intro _ _ _ _ _ h; exact h.elim
  | succ f ih =>
    intro nt O r K x h
    unfold WN at h ⊢
    rcases h with ⟨e, h4, n, k, ch, a1, a2, a3, a4, a5, a6, a7⟩ | ⟨e, n, a1, a2, hor⟩ | ⟨e, n, a1, a2, hor⟩ | ⟨e, hor⟩ | ⟨e, hor⟩ | ⟨e, n, a1, a2, a3, hor⟩ | ⟨e, hor⟩
    · exact Or.inl ⟨e, h4, n, k, ch, a1, a2, a3, a4, a5, fun i p1 p2 => ⟨(a6 i p1 p2).1, ih _ _ _ _ _ (a6 i p1 p2).2⟩, ih _ _ _ _ _ a7⟩
    · refine Or.inr (Or.inl ⟨e, n, a1, a2, hor.imp id (fun z => ⟨z.1, ?_, fun y => ?_⟩)⟩)
      · obtain ⟨O1, r1, lo, w⟩ := z.2.1
        exact ⟨O1, r1, lo, ih _ _ _ _ _ w⟩
      · obtain ⟨O1, r1, lo, w⟩ := z.2.2 y
        exact ⟨O1, r1, lo, ih _ _ _ _ _ w⟩
    · refine Or.inr (Or.inr (Or.inl ⟨e, n, a1, a2, ?_⟩))
      rcases hor with h | h | h | ⟨x4, s, x6, hs, x5⟩ | ⟨x4, h1, fn, m, c, x5, hF, hm, x8, hc1, hc2, w⟩ | ⟨x4, xr, O1, r1, lo, w⟩ | ⟨x4, h1, m, hm, w⟩ | ⟨x4, h1, w6, w7, w8⟩ | ⟨x4, h1, m, hm, hmK, w6, w7, w8⟩ | ⟨x4, h1, m, hm, hmK, w6, w7⟩ | ⟨x4, h1, w⟩
      · exact Or.inl h
      · exact Or.inr (Or.inl h)
      · exact Or.inr (Or.inr (Or.inl (h.imp id (fun h => h.imp id (fun h => h.imp id (fun h => ⟨h.1, hl _ h.2⟩))))))
      · exact Or.inr (Or.inr (Or.inr (Or.inl ⟨x4, s, x6, hs, x5.imp id (hl _)⟩)))
      · exact Or.inr (Or.inr (Or.inr (Or.inr (Or.inl ⟨x4, h1, fn, m, c, x5, hF, hm, x8, hc1, hc2, ih _ _ _ _ _ w⟩))))
      · exact Or.inr (Or.inr (Or.inr (Or.inr (Or.inr (Or.inl ⟨x4, fun z => (xr z).imp (hl _) id, O1, r1, lo, ih _ _ _ _ _ w⟩)))))
      · exact Or.inr (Or.inr (Or.inr (Or.inr (Or.inr (Or.inr (Or.inl ⟨x4, h1, m, hm, ih _ _ _ _ _ w⟩))))))
      · exact Or.inr (Or.inr (Or.inr (Or.inr (Or.inr (Or.inr (Or.inr (Or.inl ⟨x4, h1, ih _ _ _ _ _ w6, w7.imp id (ih _ _ _ _ _), ih _ _ _ _ _ w8⟩)))))))
      · exact Or.inr (Or.inr (Or.inr (Or.inr (Or.inr (Or.inr (Or.inr (Or.inr (Or.inl ⟨x4, h1, m, hm, hmK, ih _ _ _ _ _ w6, w7.imp id (ih _ _ _ _ _), ih _ _ _ _ _ w8⟩))))))))
      · exact Or.inr (Or.inr (Or.inr (Or.inr (Or.inr (Or.inr (Or.inr (Or.inr (Or.inr (Or.inl ⟨x4, h1, m, hm, hmK, ih _ _ _ _ _ w6, ih _ _ _ _ _ w7⟩)))))))))
      · exact Or.inr (Or.inr (Or.inr (Or.inr (Or.inr (Or.inr (Or.inr (Or.inr (Or.inr (Or.inr ⟨x4, h1, ih _ _ _ _ _ w⟩)))))))))
    · refine Or.inr (Or.inr (Or.inr (Or.inl ⟨e, hor.imp id (fun z => ?_)⟩)))
      obtain ⟨m, n, rm, a1, a2, w0, w9⟩ := z
      exact ⟨m, n, rm, a1, a2, ih _ _ _ _ _ w0, ih _ _ _ _ _ w9⟩
    · refine Or.inr (Or.inr (Or.inr (Or.inr (Or.inl ⟨e, hor.imp id (fun z => ?_)⟩))))
      obtain ⟨m, n, q, rm, a1, a2, k1, hq, w6, w7, w9⟩ := z
      exact ⟨m, n, q, rm, a1, a2, k1, hq, ih _ _ _ _ _ w6, ih _ _ _ _ _ w7, ih _ _ _ _ _ w9⟩
    · exact Or.inr (Or.inr (Or.inr (Or.inr (Or.inr (Or.inl ⟨e, n, a1, a2, ih _ _ _ _ _ a3, hor.imp id (fun z => ⟨ih _ _ _ _ _ z.1, ih _ _ _ _ _ z.2⟩)⟩)))))
    · refine Or.inr (Or.inr (Or.inr (Or.inr (Or.inr (Or.inr ⟨e, hor.imp id (fun z => ?_)⟩)))))
      obtain ⟨m, n, s, rm, a1, a2, x6, hs, x5, w9⟩ := z
      exact ⟨m, n, s, rm, a1, a2, x6, hs, ⟨x5.1.imp id (hl _), hl _ x5.2⟩, ih _ _ _ _ _ w9⟩
theorem WX_lc {O r K : Nat} {x : Int32} (hl : ∀ j, lc j → lc' j) (h : WX T FN O r K lc x) : WX T FN O r K lc' x := by
  obtain ⟨F, h⟩ := h
  exact ⟨F, WN_lc hl F 0 O r K x h⟩
/-- larger tables -/
theorem WN_tb {T' : Nat → Nat → Int32} (h4 : ∀ a i, 4 ≤ a → a ≤ 9 → (1 ≤ i ∧ i < LNo T % 70001) → T' a i = T a i) (h12 : ∀ i, i < LPo T % 70001 → T' 12 i = T 12 i) (hN : LNo T % 70001 ≤ LNo T' % 70001) (hP : LPo T % 70001 ≤ LPo T' % 70001) : ∀ (f nt O r K : Nat) (lc : Nat → Prop) (x : Int32), WN T FN f nt O r K lc x → WN T' FN f nt O r K lc x := by
  intro f
  induction f with
  | zero => intro _ _ _ _ _ _ h; exact h.elim
  | succ f ih =>
    intro nt O r K lc x h
    have lt : ∀ {n : Nat}, (1 ≤ n ∧ n < LNo T % 70001) → (1 ≤ n ∧ n < LNo T' % 70001) := fun h => ⟨h.1, Nat.lt_of_lt_of_le h.2 hN⟩
    unfold WN at h ⊢
    rcases h with ⟨e, h4', n, k, ch, a1, a2, a3, a4, a5, a6, a7⟩ | ⟨e, n, a1, a2, hor⟩ | ⟨e, n, a1, a2, hor⟩ | ⟨e, hor⟩ | ⟨e, hor⟩ | ⟨e, n, a1, a2, a3, hor⟩ | ⟨e, hor⟩
    · refine Or.inl ⟨e, h4', n, k, ch, a1, a2, fun i hi => lt (a3 i hi), fun i hi => ⟨?_, ?_⟩, ?_, fun i p1 p2 => ⟨?_, ih _ _ _ _ _ _ (a6 i p1 p2).2⟩, ih _ _ _ _ _ _ a7⟩
      · rw [h4 6 _ (by decide) (by decide) (a3 (i + 1) (by omega))]; exact (a4 i hi).1
      · rw [h4 9 _ (by decide) (by decide) (a3 i (by omega))]; exact (a4 i hi).2
      · rw [h4 4 _ (by decide) (by decide) (a3 0 (by omega))]; exact a5
      · rw [h4 4 _ (by decide) (by decide) (a3 i p2)]; exact (a6 i p1 p2).1
    · refine Or.inr (Or.inl ⟨e, n, a1, lt a2, ?_⟩)
      rw [h4 4 n (by decide) (by decide) a2, h4 7 n (by decide) (by decide) a2, h4 8 n (by decide) (by decide) a2]
      refine hor.imp id (fun z => ⟨z.1, ?_, fun y => ?_⟩)
      · obtain ⟨O1, r1, lo, w⟩ := z.2.1
        exact ⟨O1, r1, lo, ih _ _ _ _ _ _ w⟩
      · obtain ⟨O1, r1, lo, w⟩ := z.2.2 y
        exact ⟨O1, r1, lo, ih _ _ _ _ _ _ w⟩
    · refine Or.inr (Or.inr (Or.inl ⟨e, n, a1, lt a2, ?_⟩))
      rw [h4 4 n (by decide) (by decide) a2, h4 5 n (by decide) (by decide) a2, h4 6 n (by decide) (by decide) a2, h4 7 n (by decide) (by decide) a2, h4 8 n (by decide) (by decide) a2]
      rcases hor with ⟨x4, p, q, x5, x6, hq, hpq, hc⟩ | ⟨x4, p, q, x5, x6, hq, hpq, hpq2⟩ | h | h | ⟨x4, h1, fn, m, c, x5, hF, hm, x8, hc1, hc2, w⟩ | ⟨x4, xr, O1, r1, lo, w⟩ | ⟨x4, h1, m, hm, w⟩ | ⟨x4, h1, w6, w7, w8⟩ | ⟨x4, h1, m, hm, hmK, w6, w7, w8⟩ | ⟨x4, h1, m, hm, hmK, w6, w7⟩ | ⟨x4, h1, w⟩
      · exact Or.inl ⟨x4, p, q, x5, x6, hq, by omega, fun i hi => by rw [h12 (p + i) (by omega)]; exact hc i hi⟩
      · exact Or.inr (Or.inl ⟨x4, p, q, x5, x6, hq, hpq, by omega⟩)
      · exact Or.inr (Or.inr (Or.inl h))
      · exact Or.inr (Or.inr (Or.inr (Or.inl h)))
      · exact Or.inr (Or.inr (Or.inr (Or.inr (Or.inl ⟨x4, h1, fn, m, c, x5, hF, hm, x8, hc1, hc2, ih _ _ _ _ _ _ w⟩))))
      · exact Or.inr (Or.inr (Or.inr (Or.inr (Or.inr (Or.inl ⟨x4, xr, O1, r1, lo, ih _ _ _ _ _ _ w⟩)))))
      · exact Or.inr (Or.inr (Or.inr (Or.inr (Or.inr (Or.inr (Or.inl ⟨x4, h1, m, hm, ih _ _ _ _ _ _ w⟩))))))
      · exact Or.inr (Or.inr (Or.inr (Or.inr (Or.inr (Or.inr (Or.inr (Or.inl ⟨x4, h1, ih _ _ _ _ _ _ w6, w7.imp id (ih _ _ _ _ _ _), ih _ _ _ _ _ _ w8⟩)))))))
      · exact Or.inr (Or.inr (Or.inr (Or.inr (Or.inr (Or.inr (Or.inr (Or.inr (Or.inl ⟨x4, h1, m, hm, hmK, ih _ _ _ _ _ _ w6, w7.imp id (ih _ _ _ _ _ _), ih _ _ _ _ _ _ w8⟩))))))))
      · exact Or.inr (Or.inr (Or.inr (Or.inr (Or.inr (Or.inr (Or.inr (Or.inr (Or.inr (Or.inl ⟨x4, h1, m, hm, hmK, ih _ _ _ _ _ _ w6, ih _ _ _ _ _ _ w7⟩)))))))))
      · exact Or.inr (Or.inr (Or.inr (Or.inr (Or.inr (Or.inr (Or.inr (Or.inr (Or.inr (Or.inr ⟨x4, h1, ih _ _ _ _ _ _ w⟩)))))))))
    · refine Or.inr (Or.inr (Or.inr (Or.inl ⟨e, hor.imp id (fun z => ?_)⟩)))
      obtain ⟨m, n, rm, a1, a2, w0, w9⟩ := z
      refine ⟨m, n, rm, a1, lt a2, ih _ _ _ _ _ _ w0, ?_⟩
      rw [h4 9 n (by decide) (by decide) a2]; exact ih _ _ _ _ _ _ w9
    · refine Or.inr (Or.inr (Or.inr (Or.inr (Or.inl ⟨e, hor.imp id (fun z => ?_)⟩))))
      obtain ⟨m, n, q, rm, a1, a2, k1, hq, w6, w7, w9⟩ := z
      refine ⟨m, n, q, rm, a1, lt a2, k1, hq, ?_, ?_, ?_⟩
      · rw [h4 6 n (by decide) (by decide) a2]; exact ih _ _ _ _ _ _ w6
      · rw [h4 7 n (by decide) (by decide) a2]; exact ih _ _ _ _ _ _ w7
      · rw [h4 9 n (by decide) (by decide) a2]; exact ih _ _ _ _ _ _ w9
    · refine Or.inr (Or.inr (Or.inr (Or.inr (Or.inr (Or.inl ⟨e, n, a1, lt a2, ?_, ?_⟩)))))
      · rw [h4 6 n (by decide) (by decide) a2]; exact ih _ _ _ _ _ _ a3
      · rw [h4 5 n (by decide) (by decide) a2, h4 9 n (by decide) (by decide) a2]
        exact hor.imp id (fun z => ⟨ih _ _ _ _ _ _ z.1, ih _ _ _ _ _ _ z.2⟩)
    · refine Or.inr (Or.inr (Or.inr (Or.inr (Or.inr (Or.inr ⟨e, hor.imp id (fun z => ?_)⟩)))))
      obtain ⟨m, n, s, rm, a1, a2, x6, hs, x5, w9⟩ := z
      refine ⟨m, n, s, rm, a1, lt a2, ?_, hs, ?_, ?_⟩
      · rw [h4 6 n (by decide) (by decide) a2]; exact x6
      · rw [h4 5 n (by decide) (by decide) a2]; exact x5
      · rw [h4 9 n (by decide) (by decide) a2]; exact ih _ _ _ _ _ _ w9
end WLC

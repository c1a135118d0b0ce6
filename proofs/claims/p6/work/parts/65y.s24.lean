/-! What a text is: the grammar as a function of its own, with the nodes that the reference lays. Tokens by the places where they begin; their kinds: 0 none, 1 to 24 signs, 25 the end, 26 a name, 27 a number, 28 a string, from 32 on words. -/
def tkc (km wm : Int32) : Nat := if km = 0 then 25 else if km = 1 then 26 else if km = 2 then 27 else if km = 3 then 28 else if km = 4 then wm.toNatClampNeg else if km = 5 then 32 + wm.toNatClampNeg else 0
def tkK (T : Nat → Int32) (n q : Nat) : Nat := tkc (tokM 0 T n q).1 (tokM 0 T n q).2.1
def tkE (T : Nat → Int32) (n q : Nat) : Nat := (tokM 0 T n q).2.2
def tkN (T : Nat → Int32) (n q : Nat) : Nat := sk T n (tkE T n q)
def tkS (T : Nat → Int32) (n q : Nat) : List Int32 := seg T q (tkE T n q)
/-- a name that is told within: bytes, place in the pool, slot -/
abbrev Nm := List Int32 × Nat × Nat
/-- a name of the program: bytes, place, kind, number -/
abbrev Gn := List Int32 × Nat × Nat × Nat
/-- what is laid: nodes, pooled, the six tables, the pool, which slots count -/
abbrev BT := Nat × Nat × (Nat → Nat → Int32) × (Nat → Int32) × (Nat → Int32)
/-- what is around: the program's names, those seen (the newest first), those of rows (likewise), the unit, whether newat and random may stand, how many params -/
abbrev En := List Gn × List Nm × List Nm × Nat × Bool × Bool × (Nat → Nat)
/-- the next token, variables, what it is (1 a variable, 2 with parts), node or list (0: none) or how many, what is laid, names told -/
abbrev RT := Nat × Nat × Nat × Nat × BT × List Nm
abbrev RG := Option (Option RT)
def hd (e : Nat) : Int32 := if e = 0 then -1 else nI e
def bNode (b : BT) (k x y z : Int32) : BT := (b.1 + 1, b.2.1, updG (updG (updG (updG (updG (updG b.2.2.1 4 (upd (b.2.2.1 4) b.1 k)) 5 (upd (b.2.2.1 5) b.1 x)) 6 (upd (b.2.2.1 6) b.1 y)) 7 (upd (b.2.2.1 7) b.1 z)) 8 (upd (b.2.2.1 8) b.1 (-1))) 9 (upd (b.2.2.1 9) b.1 (-1)), b.2.2.2)
def bSet (b : BT) (j l : Nat) (x : Int32) : BT := (b.1, b.2.1, updG b.2.2.1 j (upd (b.2.2.1 j) l x), b.2.2.2)
def bOver (b : BT) (k x : Int32) (l : Nat) (z : Int32) : BT := bSet (bNode b k x (nI l) z) 9 l (nI b.1)
def bWrap (b : BT) (k x y z u : Int32) : BT := bSet (bNode b k x y z) 8 b.1 u
def bKeep (b : BT) (T : Nat → Int32) (f m : Nat) : BT := (b.1, b.2.1 + m, b.2.2.1, (fun i => if b.2.1 ≤ i ∧ i < b.2.1 + m then T (f + (i - b.2.1)) else b.2.2.2.1 i), b.2.2.2.2)
def bSlot (b : BT) (i : Nat) (x : Int32) : BT := (b.1, b.2.1, b.2.2.1, b.2.2.2.1, upd b.2.2.2.2 i x)
def gb (x : RG) (k : RT → RG) : RG := match x with
  | none => none
  | some none => some none
  | some (some r) => k r
/-- the next token is taken -/
def gT (T : Nat → Int32) (n q : Nat) (k : Nat → RG) : RG := if tkK T n (tkN T n q) = 0 then some none else k (tkN T n q)
/-- this token is wanted here -/
def gW (T : Nat → Int32) (n t q : Nat) (k : Nat → RG) : RG := if tkK T n q = t then gT T n q k else some none
/-- one more is open -/
def gO (o : Nat) (k : RG) : RG := if o = 20 then some none else k
def fd (E : En) (bs : List Int32) : Nat × Nat × Int32 := match E.2.1.find? (fun x => decide (x.1 = bs)) with
  | some x => (1, x.2.2, if E.2.2.2.1 = 0 then 0 else 1)
  | none => match E.1.find? (fun x => decide (x.1 = bs)) with
    | some x => (x.2.2.1, x.2.2.2, 0)
    | none => (0, 0, 0)
/-- a name of an iter is told: row names from c on -/
def gN (T : Nat → Int32) (n : Nat) (E : En) (c g q v : Nat) (b : BT) (k : Nat → Nat → Nat → BT → Nm → RG) : RG :=
  if tkK T n q = 26 then
    if ((E.2.2.1.take (E.2.2.1.length - c)).find? (fun x => decide (x.1 = tkS T n q))).isSome then some none
    else if v = 60 then some none
    else gT T n q (fun q1 => k q1 (v + 1) b.1 (bNode (bKeep (bSlot b (60 * E.2.2.2.1 + v) (nI g)) T q (tkE T n q - q)) 31 (if E.2.2.2.1 = 0 then 0 else 1) (nI v) 0) (tkS T n q, b.2.1, v))
  else some none
abbrev isRl (k : Nat) : Prop := (17 ≤ k ∧ k ≤ 22) ∨ k = 46 ∨ k = 47 ∨ k = 48
def opr (k : Nat) : Int32 := if k ≤ 24 then nI k else 100 + nI (k - 32)
abbrev isFn (k : Nat) (dr : Bool) : Prop := (71 ≤ k ∧ k ≤ 79) ∨ k = 82 ∨ (k = 84 ∧ dr = true)
def seeN (E : En) (ns : List Nm) : En := (E.1, ns ++ E.2.1, E.2.2)
def rowN (E : En) (ns : List Nm) : En := (E.1, E.2.1, ns ++ E.2.2.1, E.2.2.2)
/-- exps: 0 exp, 1 behind an operand of or, 2 and, 3 likewise, 4 not, 5 rel, 6 sum, 7 likewise, 8 term, 9 likewise, 10 power, 11 prefix, 12 parts, 13 primary, 14 exps of a call, 15 members, 16 elseifs, 17 iters, 18 names of a pattern. o: open, q: the token, v: variables; i, e, c, g by the kind -/
def G (T : Nat → Int32) (n : Nat) : Nat → Nat → En → Nat → Nat → Nat → Nat → Nat → Nat → Nat → BT → RG
  | 0, _, _, _, _, _, _, _, _, _, _ => none
  | f + 1, nt, E, o, q, v, i, e, c, g, b => match nt with
    | 0 => gb (G T n f 2 E o q v 0 0 0 0 b) (fun r => G T n f 1 E o r.1 r.2.1 r.2.2.1 r.2.2.2.1 0 0 r.2.2.2.2.1)
    | 1 => if tkK T n q = 65 then gT T n q (fun q1 => gb (G T n f 2 E o q1 v 0 0 0 0 b) (fun r => G T n f 1 E o r.1 r.2.1 0 r.2.2.2.2.1.1 0 0 (bOver r.2.2.2.2.1 25 0 e (nI r.2.2.2.1)))) else some (some (q, v, i, e, b, []))
    | 2 => gb (G T n f 4 E o q v 0 0 0 0 b) (fun r => G T n f 3 E o r.1 r.2.1 r.2.2.1 r.2.2.2.1 0 0 r.2.2.2.2.1)
    | 3 => if tkK T n q = 64 then gT T n q (fun q1 => gb (G T n f 4 E o q1 v 0 0 0 0 b) (fun r => G T n f 3 E o r.1 r.2.1 0 r.2.2.2.2.1.1 0 0 (bOver r.2.2.2.2.1 24 0 e (nI r.2.2.2.1)))) else some (some (q, v, i, e, b, []))
    | 4 => if tkK T n q = 66 then gO o (gT T n q (fun q1 => gb (G T n f 4 E (o + 1) q1 v 0 0 0 0 b) (fun r => some (some (r.1, r.2.1, 0, r.2.2.2.2.1.1, bNode r.2.2.2.2.1 19 0 (nI r.2.2.2.1) 0, []))))) else G T n f 5 E o q v 0 0 0 0 b
    | 5 => gb (G T n f 6 E o q v 0 0 0 0 b) (fun r => if isRl (tkK T n r.1) then gT T n r.1 (fun q1 => gb (G T n f 6 E o q1 r.2.1 0 0 0 0 r.2.2.2.2.1) (fun s => some (some (s.1, s.2.1, 0, s.2.2.2.2.1.1, bOver s.2.2.2.2.1 16 (opr (tkK T n r.1)) r.2.2.2.1 (nI s.2.2.2.1), [])))) else some (some (r.1, r.2.1, r.2.2.1, r.2.2.2.1, r.2.2.2.2.1, [])))
    | 6 => gb (G T n f 8 E o q v 0 0 0 0 b) (fun r => G T n f 7 E o r.1 r.2.1 r.2.2.1 r.2.2.2.1 0 0 r.2.2.2.2.1)
    | 7 => if tkK T n q = 2 ∨ tkK T n q = 3 then gT T n q (fun q1 => gb (G T n f 8 E o q1 v 0 0 0 0 b) (fun r => G T n f 7 E o r.1 r.2.1 0 r.2.2.2.2.1.1 0 0 (bOver r.2.2.2.2.1 16 (opr (tkK T n q)) e (nI r.2.2.2.1)))) else some (some (q, v, i, e, b, []))
    | 8 => gb (G T n f 10 E o q v 0 0 0 0 b) (fun r => G T n f 9 E o r.1 r.2.1 r.2.2.1 r.2.2.2.1 0 0 r.2.2.2.2.1)
    | 9 => if tkK T n q = 4 ∨ tkK T n q = 67 ∨ tkK T n q = 68 then gT T n q (fun q1 => gb (G T n f 10 E o q1 v 0 0 0 0 b) (fun r => G T n f 9 E o r.1 r.2.1 0 r.2.2.2.2.1.1 0 0 (bOver r.2.2.2.2.1 16 (opr (tkK T n q)) e (nI r.2.2.2.1)))) else some (some (q, v, i, e, b, []))
    | 10 => gb (G T n f 11 E o q v 0 0 0 0 b) (fun r => if tkK T n r.1 = 5 then gO o (gT T n r.1 (fun q1 => gb (G T n f 10 E (o + 1) q1 r.2.1 0 0 0 0 r.2.2.2.2.1) (fun s => some (some (s.1, s.2.1, 0, s.2.2.2.2.1.1, bOver s.2.2.2.2.1 16 5 r.2.2.2.1 (nI s.2.2.2.1), []))))) else some (some (r.1, r.2.1, r.2.2.1, r.2.2.2.1, r.2.2.2.2.1, [])))
    | 11 => if tkK T n q = 3 ∨ tkK T n q = 23 then gO o (gT T n q (fun q1 => gb (G T n f 11 E (o + 1) q1 v 0 0 0 0 b) (fun r => some (some (r.1, r.2.1, 0, r.2.2.2.2.1.1, bNode r.2.2.2.2.1 (if tkK T n q = 3 then 17 else 18) 0 (nI r.2.2.2.1) 0, [])))))
      else if tkK T n q = 2 ∨ tkK T n q = 4 ∨ tkK T n q = 81 ∨ tkK T n q = 80 then gO o (gT T n q (fun q1 => gW T n 24 q1 (fun q2 => gb (G T n f 11 E (o + 1) q2 v 0 0 0 0 b) (fun r => some (some (r.1, r.2.1, 0, r.2.2.2.2.1.1, bNode r.2.2.2.2.1 20 (opr (tkK T n q)) (nI r.2.2.2.1) 0, []))))))
      else gb (G T n f 13 E o q v 0 0 0 0 b) (fun r => G T n f 12 E o r.1 r.2.1 r.2.2.1 r.2.2.2.1 0 0 r.2.2.2.2.1)
    | 12 => if tkK T n q = 6 ∨ tkK T n q = 8 then gO o (gT T n q (fun q1 => gb (G T n f 0 E (o + 1) q1 v 0 0 0 0 b) (fun r =>
          if tkK T n q = 6 ∧ tkK T n r.1 = 16 then gT T n r.1 (fun q2 => gb (G T n f 0 E (o + 1) q2 r.2.1 0 0 0 0 r.2.2.2.2.1) (fun s => gW T n 7 s.1 (fun q3 => G T n f 12 E o q3 s.2.1 (if i = 0 then 0 else 2) s.2.2.2.2.1.1 0 0 (bSet (bOver s.2.2.2.2.1 22 0 e (nI r.2.2.2.1)) 8 s.2.2.2.2.1.1 (nI s.2.2.2.1)))))
          else gW T n (if tkK T n q = 8 then 9 else 7) r.1 (fun q2 => G T n f 12 E o q2 r.2.1 (if i = 0 then 0 else 2) r.2.2.2.2.1.1 0 0 (bOver r.2.2.2.2.1 (if tkK T n q = 8 then 23 else 21) 0 e (nI r.2.2.2.1))))))
      else some (some (q, v, i, e, b, []))
    | 13 => if tkK T n q = 27 then gT T n q (fun q1 => some (some (q1, v, 0, b.1, bNode (bKeep b T q (tkE T n q - q)) 1 (nI b.2.1) (nI (tkE T n q - q)) 0, [])))
      else if tkK T n q = 28 then gT T n q (fun q1 => some (some (q1, v, 0, b.1, bNode (bKeep b T (q + 1) (tkE T n q - 2 - q)) 2 (nI b.2.1) (nI (tkE T n q - 2 - q)) 0, [])))
      else if tkK T n q = 26 then gT T n q (fun q1 =>
        if (fd E (tkS T n q)).1 = 1 then some (some (q1, v, 1, b.1, bNode b 7 (fd E (tkS T n q)).2.2 (nI (fd E (tkS T n q)).2.1) 0, []))
        else if (fd E (tkS T n q)).1 = 2 ∧ tkK T n q1 = 6 then gO o (gT T n q1 (fun q2 => gb (G T n f 14 E (o + 1) q2 v 0 0 0 0 b) (fun r =>
          if tkK T n r.1 = 7 ∧ r.2.2.1 = E.2.2.2.2.2.2 (fd E (tkS T n q)).2.1 then gT T n r.1 (fun q3 => some (some (q3, r.2.1, 0, r.2.2.2.2.1.1, bWrap r.2.2.2.2.1 8 (nI (fd E (tkS T n q)).2.1) (hd r.2.2.2.1) (nI r.2.2.1) (nI (o + 1)), []))) else some none)))
        else some none)
      else if tkK T n q = 6 then gO o (gT T n q (fun q1 => gb (G T n f 0 E (o + 1) q1 v 0 0 0 0 b) (fun r => gW T n 7 r.1 (fun q2 => some (some (q2, r.2.1, 0, r.2.2.2.2.1.1, bOver r.2.2.2.2.1 26 0 r.2.2.2.1 0, []))))))
      else if tkK T n q = 8 ∨ tkK T n q = 10 then gO o (gT T n q (fun q1 =>
        if tkK T n q1 = tkK T n q + 1 then gT T n q1 (fun q2 => some (some (q2, v, 0, b.1, bNode b (if tkK T n q = 8 then 10 else 11) 0 (-1) 0, [])))
        else if tkK T n q1 = 45 then gT T n q1 (fun q2 => gb (G T n f 17 E (o + 1) q2 v 0 0 E.2.2.1.length 0 b) (fun r =>
          if tkK T n r.1 = 15 then gT T n r.1 (fun q3 => gb (G T n f 0 (seeN E r.2.2.2.2.2) (o + 1) q3 r.2.1 0 0 0 0 r.2.2.2.2.1) (fun s => gW T n 14 s.1 (fun q4 => gb (G T n f 0 (seeN E r.2.2.2.2.2) (o + 1) q4 s.2.1 0 0 0 0 s.2.2.2.2.1) (fun t => gW T n (tkK T n q + 1) t.1 (fun q5 => some (some (q5, t.2.1, 0, t.2.2.2.2.1.1, bWrap t.2.2.2.2.1 13 (if tkK T n q = 8 then 1 else 0) (hd r.2.2.2.1) (nI s.2.2.2.1) (nI t.2.2.2.1), [])))))))
          else gW T n 14 r.1 (fun q4 => gb (G T n f 0 (seeN E r.2.2.2.2.2) (o + 1) q4 r.2.1 0 0 0 0 r.2.2.2.2.1) (fun t => gW T n (tkK T n q + 1) t.1 (fun q5 => some (some (q5, t.2.1, 0, t.2.2.2.2.1.1, bWrap t.2.2.2.2.1 13 (if tkK T n q = 8 then 1 else 0) (hd r.2.2.2.1) (-1) (nI t.2.2.2.1), [])))))))
        else gb (G T n f 0 E (o + 1) q1 v 0 0 0 0 b) (fun r =>
          if tkK T n r.1 = 16 then gT T n r.1 (fun q2 => gb (G T n f 0 E (o + 1) q2 r.2.1 0 0 0 0 r.2.2.2.2.1) (fun s => gW T n (tkK T n q + 1) s.1 (fun q3 => some (some (q3, s.2.1, 0, s.2.2.2.2.1.1, bWrap s.2.2.2.2.1 12 (if tkK T n q = 8 then 1 else 0) (nI r.2.2.2.1) (-1) (nI s.2.2.2.1), [])))))
          else gb (G T n f 15 E (o + 1) r.1 r.2.1 r.2.2.2.1 r.2.2.2.1 1 (if tkK T n q = 8 then 1 else 0) r.2.2.2.2.1) (fun s => gW T n (tkK T n q + 1) s.1 (fun q3 => some (some (q3, s.2.1, 0, s.2.2.2.1, s.2.2.2.2.1, [])))))))
      else if tkK T n q = 60 ∨ tkK T n q = 61 ∨ tkK T n q = 62 then gT T n q (fun q1 => some (some (q1, v, 0, b.1, bNode b (if tkK T n q = 60 then 3 else if tkK T n q = 61 then 4 else 5) 0 0 0, [])))
      else if tkK T n q = 69 ∨ tkK T n q = 70 then gO o (gT T n q (fun q1 => gb (G T n f 17 E (o + 1) q1 v 0 0 E.2.2.1.length 0 b) (fun r => gW T n 15 r.1 (fun q2 => gb (G T n f 0 (seeN E r.2.2.2.2.2) (o + 1) q2 r.2.1 0 0 0 0 r.2.2.2.2.1) (fun s => some (some (s.1, s.2.1, 0, s.2.2.2.2.1.1, bNode s.2.2.2.2.1 14 (if tkK T n q = 69 then 1 else 0) (hd r.2.2.2.1) (nI s.2.2.2.1), [])))))))
      else if tkK T n q = 39 then gO o (gT T n q (fun q1 => gb (G T n f 0 E (o + 1) q1 v 0 0 0 0 b) (fun r => gW T n 40 r.1 (fun q2 => gb (G T n f 0 E (o + 1) q2 r.2.1 0 0 0 0 r.2.2.2.2.1) (fun s => gb (G T n f 16 E (o + 1) s.1 s.2.1 s.2.2.2.2.1.1 s.2.2.2.2.1.1 0 0 (bNode s.2.2.2.2.1 33 (nI r.2.2.2.1) (nI s.2.2.2.1) 0)) (fun t => gW T n 42 t.1 (fun q3 => gb (G T n f 0 E (o + 1) q3 t.2.1 0 0 0 0 t.2.2.2.2.1) (fun u => gW T n 38 u.1 (fun q4 => some (some (q4, u.2.1, 0, u.2.2.2.2.1.1 + 1, bNode (bSet (bNode u.2.2.2.2.1 33 (-1) (nI u.2.2.2.1) 0) 9 t.2.2.2.1 (nI u.2.2.2.2.1.1)) 15 0 (nI s.2.2.2.2.1.1) 0, [])))))))))))
      else if tkK T n q = 83 ∧ E.2.2.2.2.1 = true then gT T n q (fun q1 => some (some (q1, v, 0, b.1, bNode b 6 0 0 0, [])))
      else if isFn (tkK T n q) E.2.2.2.2.2.1 then gT T n q (fun q1 => if tkK T n q1 = 6 then gO o (gT T n q1 (fun q2 => gb (G T n f 0 E (o + 1) q2 v 0 0 0 0 b) (fun r => gW T n 7 r.1 (fun q3 => some (some (q3, r.2.1, 0, r.2.2.2.2.1.1, bNode r.2.2.2.2.1 9 (nI (tkK T n q - 32)) (nI r.2.2.2.1) 0, [])))))) else some none)
      else some none
    | 14 => if c = 0 then (if tkK T n q = 7 then some (some (q, v, 0, 0, b, [])) else gb (G T n f 0 E o q v 0 0 0 0 b) (fun r => G T n f 14 E o r.1 r.2.1 r.2.2.2.1 r.2.2.2.1 1 0 r.2.2.2.2.1))
      else if tkK T n q = 12 then gT T n q (fun q1 => gb (G T n f 0 E o q1 v 0 0 0 0 b) (fun r => G T n f 14 E o r.1 r.2.1 i r.2.2.2.1 (c + 1) 0 (bSet r.2.2.2.2.1 9 e (nI r.2.2.2.1))))
      else some (some (q, v, c, i, b, []))
    | 15 => if tkK T n q = 12 then gT T n q (fun q1 => gb (G T n f 0 E o q1 v 0 0 0 0 b) (fun r =>
          if c = 1 ∧ tkK T n r.1 = 16 then gT T n r.1 (fun q2 => gb (G T n f 0 E o q2 r.2.1 0 0 0 0 r.2.2.2.2.1) (fun s => some (some (s.1, s.2.1, 0, s.2.2.2.2.1.1, bWrap s.2.2.2.2.1 12 (nI g) (nI i) (nI r.2.2.2.1) (nI s.2.2.2.1), []))))
          else G T n f 15 E o r.1 r.2.1 i r.2.2.2.1 (c + 1) g (bSet r.2.2.2.2.1 9 e (nI r.2.2.2.1))))
      else some (some (q, v, 0, b.1, bNode b (if g = 1 then 10 else 11) 0 (nI i) (nI c), []))
    | 16 => if tkK T n q = 41 then gT T n q (fun q1 => gb (G T n f 0 E o q1 v 0 0 0 0 b) (fun r => gW T n 40 r.1 (fun q2 => gb (G T n f 0 E o q2 r.2.1 0 0 0 0 r.2.2.2.2.1) (fun s => G T n f 16 E o s.1 s.2.1 i s.2.2.2.2.1.1 0 0 (bSet (bNode s.2.2.2.2.1 33 (nI r.2.2.2.1) (nI s.2.2.2.1) 0) 9 e (nI s.2.2.2.2.1.1))))))
      else some (some (q, v, i, e, b, []))
    | 17 => if tkK T n q = 10 then gO o (gT T n q (fun q1 => gN T n E c g q1 v b (fun q2 v2 e2 b2 nm => gb (G T n f 18 (rowN E [nm]) (o + 1) q2 v2 0 e2 c g b2) (fun r => gW T n 11 r.1 (fun q3 => gW T n 46 q3 (fun q4 => gb (G T n f 6 (rowN E (r.2.2.2.2.2 ++ [nm])) o q4 r.2.1 0 0 0 0 r.2.2.2.2.1) (fun s =>
          if tkK T n s.1 = 12 then gT T n s.1 (fun q5 => gb (G T n f 17 (rowN (seeN E (r.2.2.2.2.2 ++ [nm])) (r.2.2.2.2.2 ++ [nm])) o q5 s.2.1 (if i = 0 then s.2.2.2.2.1.1 else i) s.2.2.2.2.1.1 c g (if i = 0 then bNode s.2.2.2.2.1 30 1 (nI e2) (nI s.2.2.2.1) else bSet (bNode s.2.2.2.2.1 30 1 (nI e2) (nI s.2.2.2.1)) 9 e (nI s.2.2.2.2.1.1))) (fun t => some (some (t.1, t.2.1, 0, t.2.2.2.1, t.2.2.2.2.1, t.2.2.2.2.2 ++ (r.2.2.2.2.2 ++ [nm])))))
          else some (some (s.1, s.2.1, 0, (if i = 0 then s.2.2.2.2.1.1 else i), (if i = 0 then bNode s.2.2.2.2.1 30 1 (nI e2) (nI s.2.2.2.1) else bSet (bNode s.2.2.2.2.1 30 1 (nI e2) (nI s.2.2.2.1)) 9 e (nI s.2.2.2.2.1.1)), r.2.2.2.2.2 ++ [nm])))))))))
      else gN T n E c g q v b (fun q1 v1 e1 b1 nm => gW T n 46 q1 (fun q2 => gb (G T n f 6 (rowN E [nm]) o q2 v1 0 0 0 0 b1) (fun s =>
          if tkK T n s.1 = 12 then gT T n s.1 (fun q3 => gb (G T n f 17 (rowN (seeN E [nm]) [nm]) o q3 s.2.1 (if i = 0 then s.2.2.2.2.1.1 else i) s.2.2.2.2.1.1 c g (if i = 0 then bNode s.2.2.2.2.1 30 0 (nI e1) (nI s.2.2.2.1) else bSet (bNode s.2.2.2.2.1 30 0 (nI e1) (nI s.2.2.2.1)) 9 e (nI s.2.2.2.2.1.1))) (fun t => some (some (t.1, t.2.1, 0, t.2.2.2.1, t.2.2.2.2.1, t.2.2.2.2.2 ++ [nm]))))
          else some (some (s.1, s.2.1, 0, (if i = 0 then s.2.2.2.2.1.1 else i), (if i = 0 then bNode s.2.2.2.2.1 30 0 (nI e1) (nI s.2.2.2.1) else bSet (bNode s.2.2.2.2.1 30 0 (nI e1) (nI s.2.2.2.1)) 9 e (nI s.2.2.2.2.1.1)), [nm])))))
    | 18 => if tkK T n q = 12 then gT T n q (fun q1 => gN T n E c g q1 v b (fun q2 v2 e2 b2 nm => gb (G T n f 18 (rowN E [nm]) o q2 v2 0 e2 c g (bSet b2 9 e (nI e2))) (fun r => some (some (r.1, r.2.1, 0, 0, r.2.2.2.2.1, r.2.2.2.2.2 ++ [nm])))))
      else some (some (q, v, 0, 0, b, []))
    | _ => none

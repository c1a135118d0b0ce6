theorem G_0 {T : Nat → Int32} {n f : Nat} {E : En} {o q v i e c g : Nat} {b : BT} : G T n (f + 1) 0 E o q v i e c g b = (gb (G T n f 2 E o q v 0 0 0 0 b) (fun r => G T n f 1 E o r.1 r.2.1 r.2.2.1 r.2.2.2.1 0 0 r.2.2.2.2.1)) := rfl
theorem G_1 {T : Nat → Int32} {n f : Nat} {E : En} {o q v i e c g : Nat} {b : BT} : G T n (f + 1) 1 E o q v i e c g b = (if tkK T n q = 65 then gT T n q (fun q1 => gb (G T n f 2 E o q1 v 0 0 0 0 b) (fun r => G T n f 1 E o r.1 r.2.1 0 r.2.2.2.2.1.1 0 0 (bOver r.2.2.2.2.1 25 0 e (nI r.2.2.2.1)))) else some (Sum.inr (q, v, i, e, b, []))) := rfl
theorem G_2 {T : Nat → Int32} {n f : Nat} {E : En} {o q v i e c g : Nat} {b : BT} : G T n (f + 1) 2 E o q v i e c g b = (gb (G T n f 4 E o q v 0 0 0 0 b) (fun r => G T n f 3 E o r.1 r.2.1 r.2.2.1 r.2.2.2.1 0 0 r.2.2.2.2.1)) := rfl
theorem G_3 {T : Nat → Int32} {n f : Nat} {E : En} {o q v i e c g : Nat} {b : BT} : G T n (f + 1) 3 E o q v i e c g b = (if tkK T n q = 64 then gT T n q (fun q1 => gb (G T n f 4 E o q1 v 0 0 0 0 b) (fun r => G T n f 3 E o r.1 r.2.1 0 r.2.2.2.2.1.1 0 0 (bOver r.2.2.2.2.1 24 0 e (nI r.2.2.2.1)))) else some (Sum.inr (q, v, i, e, b, []))) := rfl
theorem G_4 {T : Nat → Int32} {n f : Nat} {E : En} {o q v i e c g : Nat} {b : BT} : G T n (f + 1) 4 E o q v i e c g b = (if tkK T n q = 66 then gO o q (gT T n q (fun q1 => gb (G T n f 4 E (o + 1) q1 v 0 0 0 0 b) (fun r => some (Sum.inr (r.1, r.2.1, 0, r.2.2.2.2.1.1, bNode r.2.2.2.2.1 19 0 (nI r.2.2.2.1) 0, []))))) else G T n f 5 E o q v 0 0 0 0 b) := rfl
theorem G_5 {T : Nat → Int32} {n f : Nat} {E : En} {o q v i e c g : Nat} {b : BT} : G T n (f + 1) 5 E o q v i e c g b = (gb (G T n f 6 E o q v 0 0 0 0 b) (fun r => if isRl (tkK T n r.1) then gT T n r.1 (fun q1 => gb (G T n f 6 E o q1 r.2.1 0 0 0 0 r.2.2.2.2.1) (fun s => some (Sum.inr (s.1, s.2.1, 0, s.2.2.2.2.1.1, bOver s.2.2.2.2.1 16 (opr (tkK T n r.1)) r.2.2.2.1 (nI s.2.2.2.1), [])))) else some (Sum.inr (r.1, r.2.1, r.2.2.1, r.2.2.2.1, r.2.2.2.2.1, [])))) := rfl
theorem G_6 {T : Nat → Int32} {n f : Nat} {E : En} {o q v i e c g : Nat} {b : BT} : G T n (f + 1) 6 E o q v i e c g b = (gb (G T n f 8 E o q v 0 0 0 0 b) (fun r => G T n f 7 E o r.1 r.2.1 r.2.2.1 r.2.2.2.1 0 0 r.2.2.2.2.1)) := rfl
theorem G_7 {T : Nat → Int32} {n f : Nat} {E : En} {o q v i e c g : Nat} {b : BT} : G T n (f + 1) 7 E o q v i e c g b = (if tkK T n q = 2 ∨ tkK T n q = 3 then gT T n q (fun q1 => gb (G T n f 8 E o q1 v 0 0 0 0 b) (fun r => G T n f 7 E o r.1 r.2.1 0 r.2.2.2.2.1.1 0 0 (bOver r.2.2.2.2.1 16 (opr (tkK T n q)) e (nI r.2.2.2.1)))) else some (Sum.inr (q, v, i, e, b, []))) := rfl
theorem G_8 {T : Nat → Int32} {n f : Nat} {E : En} {o q v i e c g : Nat} {b : BT} : G T n (f + 1) 8 E o q v i e c g b = (gb (G T n f 10 E o q v 0 0 0 0 b) (fun r => G T n f 9 E o r.1 r.2.1 r.2.2.1 r.2.2.2.1 0 0 r.2.2.2.2.1)) := rfl
theorem G_9 {T : Nat → Int32} {n f : Nat} {E : En} {o q v i e c g : Nat} {b : BT} : G T n (f + 1) 9 E o q v i e c g b = (if tkK T n q = 4 ∨ tkK T n q = 67 ∨ tkK T n q = 68 then gT T n q (fun q1 => gb (G T n f 10 E o q1 v 0 0 0 0 b) (fun r => G T n f 9 E o r.1 r.2.1 0 r.2.2.2.2.1.1 0 0 (bOver r.2.2.2.2.1 16 (opr (tkK T n q)) e (nI r.2.2.2.1)))) else some (Sum.inr (q, v, i, e, b, []))) := rfl
theorem G_10 {T : Nat → Int32} {n f : Nat} {E : En} {o q v i e c g : Nat} {b : BT} : G T n (f + 1) 10 E o q v i e c g b = (gb (G T n f 11 E o q v 0 0 0 0 b) (fun r => if tkK T n r.1 = 5 then gO o r.1 (gT T n r.1 (fun q1 => gb (G T n f 10 E (o + 1) q1 r.2.1 0 0 0 0 r.2.2.2.2.1) (fun s => some (Sum.inr (s.1, s.2.1, 0, s.2.2.2.2.1.1, bOver s.2.2.2.2.1 16 5 r.2.2.2.1 (nI s.2.2.2.1), []))))) else some (Sum.inr (r.1, r.2.1, r.2.2.1, r.2.2.2.1, r.2.2.2.2.1, [])))) := rfl
theorem G_11 {T : Nat → Int32} {n f : Nat} {E : En} {o q v i e c g : Nat} {b : BT} : G T n (f + 1) 11 E o q v i e c g b = (if tkK T n q = 3 ∨ tkK T n q = 23 then gO o q (gT T n q (fun q1 => gb (G T n f 11 E (o + 1) q1 v 0 0 0 0 b) (fun r => some (Sum.inr (r.1, r.2.1, 0, r.2.2.2.2.1.1, bNode r.2.2.2.2.1 (if tkK T n q = 3 then 17 else 18) 0 (nI r.2.2.2.1) 0, [])))))
      else if tkK T n q = 2 ∨ tkK T n q = 4 ∨ tkK T n q = 81 ∨ tkK T n q = 80 then gO o q (gT T n q (fun q1 => gW T n 24 q1 (fun q2 => gb (G T n f 11 E (o + 1) q2 v 0 0 0 0 b) (fun r => some (Sum.inr (r.1, r.2.1, 0, r.2.2.2.2.1.1, bNode r.2.2.2.2.1 20 (opr (tkK T n q)) (nI r.2.2.2.1) 0, []))))))
      else gb (G T n f 13 E o q v 0 0 0 0 b) (fun r => G T n f 12 E o r.1 r.2.1 r.2.2.1 r.2.2.2.1 0 0 r.2.2.2.2.1)) := rfl
theorem G_12 {T : Nat → Int32} {n f : Nat} {E : En} {o q v i e c g : Nat} {b : BT} : G T n (f + 1) 12 E o q v i e c g b = (if tkK T n q = 6 ∨ tkK T n q = 8 then gO o q (gT T n q (fun q1 => gb (G T n f 0 E (o + 1) q1 v 0 0 0 0 b) (fun r =>
          if tkK T n q = 6 ∧ tkK T n r.1 = 16 then gT T n r.1 (fun q2 => gb (G T n f 0 E (o + 1) q2 r.2.1 0 0 0 0 r.2.2.2.2.1) (fun s => gW T n 7 s.1 (fun q3 => G T n f 12 E o q3 s.2.1 (if i = 0 then 0 else 2) s.2.2.2.2.1.1 0 0 (bSet (bOver s.2.2.2.2.1 22 0 e (nI r.2.2.2.1)) 8 s.2.2.2.2.1.1 (nI s.2.2.2.1)))))
          else gW T n (if tkK T n q = 8 then 9 else 7) r.1 (fun q2 => G T n f 12 E o q2 r.2.1 (if i = 0 then 0 else 2) r.2.2.2.2.1.1 0 0 (bOver r.2.2.2.2.1 (if tkK T n q = 8 then 23 else 21) 0 e (nI r.2.2.2.1))))))
      else some (Sum.inr (q, v, i, e, b, []))) := rfl
theorem G_13 {T : Nat → Int32} {n f : Nat} {E : En} {o q v i e c g : Nat} {b : BT} : G T n (f + 1) 13 E o q v i e c g b = (if tkK T n q = 27 then gT T n q (fun q1 => some (Sum.inr (q1, v, 0, b.1, bNode (bKeep b T q (tkE T n q - q)) 1 (nI b.2.1) (nI (tkE T n q - q)) 0, [])))
      else if tkK T n q = 28 then gT T n q (fun q1 => some (Sum.inr (q1, v, 0, b.1, bNode (bKeep b T (q + 1) (tkE T n q - 2 - q)) 2 (nI b.2.1) (nI (tkE T n q - 2 - q)) 0, [])))
      else if tkK T n q = 26 then gT T n q (fun q1 =>
        if (fd E (tkS T n q)).1 = 1 then some (Sum.inr (q1, v, 1, b.1, bNode b 7 (fd E (tkS T n q)).2.2 (nI (fd E (tkS T n q)).2.1) 0, []))
        else if (fd E (tkS T n q)).1 = 2 ∧ tkK T n q1 = 6 then gO o q1 (gT T n q1 (fun q2 => gb (G T n f 14 E (o + 1) q2 v 0 0 0 0 b) (fun r =>
          if tkK T n r.1 = 7 ∧ r.2.2.1 = E.2.2.2.2.2.2 (fd E (tkS T n q)).2.1 then gT T n r.1 (fun q3 => some (Sum.inr (q3, r.2.1, 0, r.2.2.2.2.1.1, bWrap r.2.2.2.2.1 8 (nI (fd E (tkS T n q)).2.1) (hd r.2.2.2.1) (nI r.2.2.1) (nI (o + 1)), []))) else some (Sum.inl (if tkK T n r.1 = 7 then 6 else 2, r.1)))))
        else some (Sum.inl (5, q)))
      else if tkK T n q = 6 then gO o q (gT T n q (fun q1 => gb (G T n f 0 E (o + 1) q1 v 0 0 0 0 b) (fun r => gW T n 7 r.1 (fun q2 => some (Sum.inr (q2, r.2.1, 0, r.2.2.2.2.1.1, bOver r.2.2.2.2.1 26 0 r.2.2.2.1 0, []))))))
      else if tkK T n q = 8 ∨ tkK T n q = 10 then gO o q (gT T n q (fun q1 =>
        if tkK T n q1 = tkK T n q + 1 then gT T n q1 (fun q2 => some (Sum.inr (q2, v, 0, b.1, bNode b (if tkK T n q = 8 then 10 else 11) 0 (-1) 0, [])))
        else if tkK T n q1 = 45 then gT T n q1 (fun q2 => gb (G T n f 17 E (o + 1) q2 v 0 0 E.2.2.1.length 0 b) (fun r =>
          if tkK T n r.1 = 15 then gT T n r.1 (fun q3 => gb (G T n f 0 (seeN E r.2.2.2.2.2) (o + 1) q3 r.2.1 0 0 0 0 r.2.2.2.2.1) (fun s => gW T n 14 s.1 (fun q4 => gb (G T n f 0 (seeN E r.2.2.2.2.2) (o + 1) q4 s.2.1 0 0 0 0 s.2.2.2.2.1) (fun t => gW T n (tkK T n q + 1) t.1 (fun q5 => some (Sum.inr (q5, t.2.1, 0, t.2.2.2.2.1.1, bWrap t.2.2.2.2.1 13 (if tkK T n q = 8 then 1 else 0) (hd r.2.2.2.1) (nI s.2.2.2.1) (nI t.2.2.2.1), [])))))))
          else gW T n 14 r.1 (fun q4 => gb (G T n f 0 (seeN E r.2.2.2.2.2) (o + 1) q4 r.2.1 0 0 0 0 r.2.2.2.2.1) (fun t => gW T n (tkK T n q + 1) t.1 (fun q5 => some (Sum.inr (q5, t.2.1, 0, t.2.2.2.2.1.1, bWrap t.2.2.2.2.1 13 (if tkK T n q = 8 then 1 else 0) (hd r.2.2.2.1) (-1) (nI t.2.2.2.1), [])))))))
        else gb (G T n f 0 E (o + 1) q1 v 0 0 0 0 b) (fun r =>
          if tkK T n r.1 = 16 then gT T n r.1 (fun q2 => gb (G T n f 0 E (o + 1) q2 r.2.1 0 0 0 0 r.2.2.2.2.1) (fun s => gW T n (tkK T n q + 1) s.1 (fun q3 => some (Sum.inr (q3, s.2.1, 0, s.2.2.2.2.1.1, bWrap s.2.2.2.2.1 12 (if tkK T n q = 8 then 1 else 0) (nI r.2.2.2.1) (-1) (nI s.2.2.2.1), [])))))
          else gb (G T n f 15 E (o + 1) r.1 r.2.1 r.2.2.2.1 r.2.2.2.1 1 (if tkK T n q = 8 then 1 else 0) r.2.2.2.2.1) (fun s => gW T n (tkK T n q + 1) s.1 (fun q3 => some (Sum.inr (q3, s.2.1, 0, s.2.2.2.1, s.2.2.2.2.1, [])))))))
      else if tkK T n q = 60 ∨ tkK T n q = 61 ∨ tkK T n q = 62 then gT T n q (fun q1 => some (Sum.inr (q1, v, 0, b.1, bNode b (if tkK T n q = 60 then 3 else if tkK T n q = 61 then 4 else 5) 0 0 0, [])))
      else if tkK T n q = 69 ∨ tkK T n q = 70 then gO o q (gT T n q (fun q1 => gb (G T n f 17 E (o + 1) q1 v 0 0 E.2.2.1.length 0 b) (fun r => gW T n 15 r.1 (fun q2 => gb (G T n f 0 (seeN E r.2.2.2.2.2) (o + 1) q2 r.2.1 0 0 0 0 r.2.2.2.2.1) (fun s => some (Sum.inr (s.1, s.2.1, 0, s.2.2.2.2.1.1, bNode s.2.2.2.2.1 14 (if tkK T n q = 69 then 1 else 0) (hd r.2.2.2.1) (nI s.2.2.2.1), [])))))))
      else if tkK T n q = 39 then gO o q (gT T n q (fun q1 => gb (G T n f 0 E (o + 1) q1 v 0 0 0 0 b) (fun r => gW T n 40 r.1 (fun q2 => gb (G T n f 0 E (o + 1) q2 r.2.1 0 0 0 0 r.2.2.2.2.1) (fun s => gb (G T n f 16 E (o + 1) s.1 s.2.1 s.2.2.2.2.1.1 s.2.2.2.2.1.1 0 0 (bNode s.2.2.2.2.1 33 (nI r.2.2.2.1) (nI s.2.2.2.1) 0)) (fun t => gW T n 42 t.1 (fun q3 => gb (G T n f 0 E (o + 1) q3 t.2.1 0 0 0 0 t.2.2.2.2.1) (fun u => gW T n 38 u.1 (fun q4 => some (Sum.inr (q4, u.2.1, 0, u.2.2.2.2.1.1 + 1, bNode (bSet (bNode u.2.2.2.2.1 33 (-1) (nI u.2.2.2.1) 0) 9 t.2.2.2.1 (nI u.2.2.2.2.1.1)) 15 0 (nI s.2.2.2.2.1.1) 0, [])))))))))))
      else if tkK T n q = 83 ∧ E.2.2.2.2.1 = true then gT T n q (fun q1 => some (Sum.inr (q1, v, 0, b.1, bNode b 6 0 0 0, [])))
      else if isFn (tkK T n q) E.2.2.2.2.2.1 then gT T n q (fun q1 => if tkK T n q1 = 6 then gO o q1 (gT T n q1 (fun q2 => gb (G T n f 0 E (o + 1) q2 v 0 0 0 0 b) (fun r => gW T n 7 r.1 (fun q3 => some (Sum.inr (q3, r.2.1, 0, r.2.2.2.2.1.1, bNode r.2.2.2.2.1 9 (nI (tkK T n q - 32)) (nI r.2.2.2.1) 0, [])))))) else some (Sum.inl (2, q1)))
      else some (Sum.inl (2, q))) := rfl
theorem G_14 {T : Nat → Int32} {n f : Nat} {E : En} {o q v i e c g : Nat} {b : BT} : G T n (f + 1) 14 E o q v i e c g b = (if c = 0 then (if tkK T n q = 7 then some (Sum.inr (q, v, 0, 0, b, [])) else gb (G T n f 0 E o q v 0 0 0 0 b) (fun r => G T n f 14 E o r.1 r.2.1 r.2.2.2.1 r.2.2.2.1 1 0 r.2.2.2.2.1))
      else if tkK T n q = 12 then gT T n q (fun q1 => gb (G T n f 0 E o q1 v 0 0 0 0 b) (fun r => G T n f 14 E o r.1 r.2.1 i r.2.2.2.1 (c + 1) 0 (bSet r.2.2.2.2.1 9 e (nI r.2.2.2.1))))
      else some (Sum.inr (q, v, c, i, b, []))) := rfl
theorem G_15 {T : Nat → Int32} {n f : Nat} {E : En} {o q v i e c g : Nat} {b : BT} : G T n (f + 1) 15 E o q v i e c g b = (if tkK T n q = 12 then gT T n q (fun q1 => gb (G T n f 0 E o q1 v 0 0 0 0 b) (fun r =>
          if c = 1 ∧ tkK T n r.1 = 16 then gT T n r.1 (fun q2 => gb (G T n f 0 E o q2 r.2.1 0 0 0 0 r.2.2.2.2.1) (fun s => some (Sum.inr (s.1, s.2.1, 0, s.2.2.2.2.1.1, bWrap s.2.2.2.2.1 12 (nI g) (nI i) (nI r.2.2.2.1) (nI s.2.2.2.1), []))))
          else G T n f 15 E o r.1 r.2.1 i r.2.2.2.1 (c + 1) g (bSet r.2.2.2.2.1 9 e (nI r.2.2.2.1))))
      else some (Sum.inr (q, v, 0, b.1, bNode b (if g = 1 then 10 else 11) 0 (nI i) (nI c), []))) := rfl
theorem G_16 {T : Nat → Int32} {n f : Nat} {E : En} {o q v i e c g : Nat} {b : BT} : G T n (f + 1) 16 E o q v i e c g b = (if tkK T n q = 41 then gT T n q (fun q1 => gb (G T n f 0 E o q1 v 0 0 0 0 b) (fun r => gW T n 40 r.1 (fun q2 => gb (G T n f 0 E o q2 r.2.1 0 0 0 0 r.2.2.2.2.1) (fun s => G T n f 16 E o s.1 s.2.1 i s.2.2.2.2.1.1 0 0 (bSet (bNode s.2.2.2.2.1 33 (nI r.2.2.2.1) (nI s.2.2.2.1) 0) 9 e (nI s.2.2.2.2.1.1))))))
      else some (Sum.inr (q, v, i, e, b, []))) := rfl
theorem G_17 {T : Nat → Int32} {n f : Nat} {E : En} {o q v i e c g : Nat} {b : BT} : G T n (f + 1) 17 E o q v i e c g b = (if tkK T n q = 10 then gO o q (gT T n q (fun q1 => gN T n E c g q1 v b (fun q2 v2 e2 b2 nm => gb (G T n f 18 (rowN E [nm]) (o + 1) q2 v2 0 e2 c g b2) (fun r => gW T n 11 r.1 (fun q3 => gW T n 46 q3 (fun q4 => gb (G T n f 6 (rowN E (r.2.2.2.2.2 ++ [nm])) o q4 r.2.1 0 0 0 0 r.2.2.2.2.1) (fun s =>
          if tkK T n s.1 = 12 then gT T n s.1 (fun q5 => gb (G T n f 17 (rowN (seeN E (r.2.2.2.2.2 ++ [nm])) (r.2.2.2.2.2 ++ [nm])) o q5 s.2.1 (if i = 0 then s.2.2.2.2.1.1 else i) s.2.2.2.2.1.1 c g (if i = 0 then bNode s.2.2.2.2.1 30 1 (nI e2) (nI s.2.2.2.1) else bSet (bNode s.2.2.2.2.1 30 1 (nI e2) (nI s.2.2.2.1)) 9 e (nI s.2.2.2.2.1.1))) (fun t => some (Sum.inr (t.1, t.2.1, 0, t.2.2.2.1, t.2.2.2.2.1, t.2.2.2.2.2 ++ (r.2.2.2.2.2 ++ [nm])))))
          else some (Sum.inr (s.1, s.2.1, 0, (if i = 0 then s.2.2.2.2.1.1 else i), (if i = 0 then bNode s.2.2.2.2.1 30 1 (nI e2) (nI s.2.2.2.1) else bSet (bNode s.2.2.2.2.1 30 1 (nI e2) (nI s.2.2.2.1)) 9 e (nI s.2.2.2.2.1.1)), r.2.2.2.2.2 ++ [nm])))))))))
      else gN T n E c g q v b (fun q1 v1 e1 b1 nm => gW T n 46 q1 (fun q2 => gb (G T n f 6 (rowN E [nm]) o q2 v1 0 0 0 0 b1) (fun s =>
          if tkK T n s.1 = 12 then gT T n s.1 (fun q3 => gb (G T n f 17 (rowN (seeN E [nm]) [nm]) o q3 s.2.1 (if i = 0 then s.2.2.2.2.1.1 else i) s.2.2.2.2.1.1 c g (if i = 0 then bNode s.2.2.2.2.1 30 0 (nI e1) (nI s.2.2.2.1) else bSet (bNode s.2.2.2.2.1 30 0 (nI e1) (nI s.2.2.2.1)) 9 e (nI s.2.2.2.2.1.1))) (fun t => some (Sum.inr (t.1, t.2.1, 0, t.2.2.2.1, t.2.2.2.2.1, t.2.2.2.2.2 ++ [nm]))))
          else some (Sum.inr (s.1, s.2.1, 0, (if i = 0 then s.2.2.2.2.1.1 else i), (if i = 0 then bNode s.2.2.2.2.1 30 0 (nI e1) (nI s.2.2.2.1) else bSet (bNode s.2.2.2.2.1 30 0 (nI e1) (nI s.2.2.2.1)) 9 e (nI s.2.2.2.2.1.1)), [nm])))))) := rfl
theorem G_18 {T : Nat → Int32} {n f : Nat} {E : En} {o q v i e c g : Nat} {b : BT} : G T n (f + 1) 18 E o q v i e c g b = (if tkK T n q = 12 then gT T n q (fun q1 => gN T n E c g q1 v b (fun q2 v2 e2 b2 nm => gb (G T n f 18 (rowN E [nm]) o q2 v2 0 e2 c g (bSet b2 9 e (nI e2))) (fun r => some (Sum.inr (r.1, r.2.1, 0, 0, r.2.2.2.2.1, r.2.2.2.2.2 ++ [nm])))))
      else some (Sum.inr (q, v, 0, 0, b, []))) := rfl
abbrev GM (T : Nat → Int32) (n f : Nat) : Prop := ∀ (nt : Nat) (E : En) (o q v i e c g : Nat) (b : BT) (r : RT), q ≤ n → v ≤ 60 → G T n f nt E o q v i e c g b = some (Sum.inr r) → ∀ M : Nat, M ≤ b.1 → 1 ≤ M → Nd0 nt M b i e c → MoN nt n b q v r ∧ Nd1 nt M r
theorem gm_0 {T : Nat → Int32} {n f : Nat} (ih : GM T n f) {E : En} {o q v i e c g : Nat} {b : BT} {r : RT} (hq : q ≤ n) (hv : v ≤ 60) (hG : G T n (f + 1) 0 E o q v i e c g b = some (Sum.inr r)) {M : Nat} (hM : M ≤ b.1) (hm1 : 1 ≤ M) (hN : Nd0 0 M b i e c) : MoN 0 n b q v r ∧ Nd1 0 M r := by
  rw [G_0] at hG
  obtain ⟨s1, g1, hG⟩ := gb_s hG
  have x1 := ih _ _ _ _ _ _ _ _ _ _ s1 (by omega) (by omega) g1 M (by first | omega | (simp only [bNode_1, bNode_p, bSet_1, bSet_p, bOver_1, bOver_p, bWrap_1, bWrap_p, bKeep_1, bKeep_p, bSlot_1, bSlot_p]; omega)) hm1 (trivial)
  obtain ⟨a1, b1, c1, d1, e1, f1, h1, i1⟩ := (x1.1 : Mo n _ _ _ s1)
  have j1 := x1.2
  have j1 : M ≤ s1.2.2.2.1 ∧ s1.2.2.2.1 < s1.2.2.2.2.1.1 := j1
  try simp only [bNode_1, bNode_p, bSet_1, bSet_p, bOver_1, bOver_p, bWrap_1, bWrap_p, bKeep_1, bKeep_p, bSlot_1, bSlot_p] at a1 b1 c1 d1 e1 f1 h1 i1
  try dsimp only at hG
  have x2 := ih _ _ _ _ _ _ _ _ _ _ r (by omega) (by omega) hG M (by first | omega | (simp only [bNode_1, bNode_p, bSet_1, bSet_p, bOver_1, bOver_p, bWrap_1, bWrap_p, bKeep_1, bKeep_p, bSlot_1, bSlot_p]; omega)) hm1 ((⟨by omega, by first | omega | (simp only [bNode_1, bNode_p, bSet_1, bSet_p, bOver_1, bOver_p, bWrap_1, bWrap_p, bKeep_1, bKeep_p, bSlot_1, bSlot_p]; omega)⟩ : M ≤ _ ∧ _ < _))
  obtain ⟨a2, b2, c2, d2, e2, f2, h2, i2⟩ := (x2.1 : Mo n _ _ _ r)
  have j2 := x2.2
  have j2 : M ≤ r.2.2.2.1 ∧ r.2.2.2.1 < r.2.2.2.2.1.1 := j2
  try simp only [bNode_1, bNode_p, bSet_1, bSet_p, bOver_1, bOver_p, bWrap_1, bWrap_p, bKeep_1, bKeep_p, bSlot_1, bSlot_p] at a2 b2 c2 d2 e2 f2 h2 i2
  exact ⟨(by unfold Mo; omega : Mo n b q v r), j2⟩
theorem gm_1 {T : Nat → Int32} {n f : Nat} (ih : GM T n f) {E : En} {o q v i e c g : Nat} {b : BT} {r : RT} (hq : q ≤ n) (hv : v ≤ 60) (hG : G T n (f + 1) 1 E o q v i e c g b = some (Sum.inr r)) {M : Nat} (hM : M ≤ b.1) (hm1 : 1 ≤ M) (hN : Nd0 1 M b i e c) : MoN 1 n b q v r ∧ Nd1 1 M r := by
  rw [G_1] at hG
  have hN : M ≤ e ∧ e < b.1 := hN
  by_cases y1 : tkK T n q = 65
  · rw [if_pos y1] at hG
    obtain ⟨t2, hG⟩ := gT_s hG
    have u2 := tkN_b T n q (by omega)
    try dsimp only at hG
    obtain ⟨s3, g3, hG⟩ := gb_s hG
    have x3 := ih _ _ _ _ _ _ _ _ _ _ s3 (by omega) (by omega) g3 M (by first | omega | (simp only [bNode_1, bNode_p, bSet_1, bSet_p, bOver_1, bOver_p, bWrap_1, bWrap_p, bKeep_1, bKeep_p, bSlot_1, bSlot_p]; omega)) hm1 (trivial)
    obtain ⟨a3, b3, c3, d3, e3, f3, h3, i3⟩ := (x3.1 : Mo n _ _ _ s3)
    have j3 := x3.2
    have j3 : M ≤ s3.2.2.2.1 ∧ s3.2.2.2.1 < s3.2.2.2.2.1.1 := j3
    try simp only [bNode_1, bNode_p, bSet_1, bSet_p, bOver_1, bOver_p, bWrap_1, bWrap_p, bKeep_1, bKeep_p, bSlot_1, bSlot_p] at a3 b3 c3 d3 e3 f3 h3 i3
    try dsimp only at hG
    have x4 := ih _ _ _ _ _ _ _ _ _ _ r (by omega) (by omega) hG M (by first | omega | (simp only [bNode_1, bNode_p, bSet_1, bSet_p, bOver_1, bOver_p, bWrap_1, bWrap_p, bKeep_1, bKeep_p, bSlot_1, bSlot_p]; omega)) hm1 ((⟨by omega, by first | omega | (simp only [bNode_1, bNode_p, bSet_1, bSet_p, bOver_1, bOver_p, bWrap_1, bWrap_p, bKeep_1, bKeep_p, bSlot_1, bSlot_p]; omega)⟩ : M ≤ _ ∧ _ < _))
    obtain ⟨a4, b4, c4, d4, e4, f4, h4, i4⟩ := (x4.1 : Mo n _ _ _ r)
    have j4 := x4.2
    have j4 : M ≤ r.2.2.2.1 ∧ r.2.2.2.1 < r.2.2.2.2.1.1 := j4
    try simp only [bNode_1, bNode_p, bSet_1, bSet_p, bOver_1, bOver_p, bWrap_1, bWrap_p, bKeep_1, bKeep_p, bSlot_1, bSlot_p] at a4 b4 c4 d4 e4 f4 h4 i4
    exact ⟨(by unfold Mo; omega : Mo n b q v r), j4⟩
  · rw [if_neg y1] at hG
    cases hG
    exact ⟨(by unfold Mo; simp only [bNode_1, bNode_p, bSet_1, bSet_p, bOver_1, bOver_p, bWrap_1, bWrap_p, bKeep_1, bKeep_p, bSlot_1, bSlot_p]; omega : Mo n b q v _), (by first | omega | (simp only [bNode_1, bNode_p, bSet_1, bSet_p, bOver_1, bOver_p, bWrap_1, bWrap_p, bKeep_1, bKeep_p, bSlot_1, bSlot_p]; omega) : M ≤ _ ∧ _ < _)⟩
theorem gm_2 {T : Nat → Int32} {n f : Nat} (ih : GM T n f) {E : En} {o q v i e c g : Nat} {b : BT} {r : RT} (hq : q ≤ n) (hv : v ≤ 60) (hG : G T n (f + 1) 2 E o q v i e c g b = some (Sum.inr r)) {M : Nat} (hM : M ≤ b.1) (hm1 : 1 ≤ M) (hN : Nd0 2 M b i e c) : MoN 2 n b q v r ∧ Nd1 2 M r := by
  rw [G_2] at hG
  obtain ⟨s1, g1, hG⟩ := gb_s hG
  have x1 := ih _ _ _ _ _ _ _ _ _ _ s1 (by omega) (by omega) g1 M (by first | omega | (simp only [bNode_1, bNode_p, bSet_1, bSet_p, bOver_1, bOver_p, bWrap_1, bWrap_p, bKeep_1, bKeep_p, bSlot_1, bSlot_p]; omega)) hm1 (trivial)
  obtain ⟨a1, b1, c1, d1, e1, f1, h1, i1⟩ := (x1.1 : Mo n _ _ _ s1)
  have j1 := x1.2
  have j1 : M ≤ s1.2.2.2.1 ∧ s1.2.2.2.1 < s1.2.2.2.2.1.1 := j1
  try simp only [bNode_1, bNode_p, bSet_1, bSet_p, bOver_1, bOver_p, bWrap_1, bWrap_p, bKeep_1, bKeep_p, bSlot_1, bSlot_p] at a1 b1 c1 d1 e1 f1 h1 i1
  try dsimp only at hG
  have x2 := ih _ _ _ _ _ _ _ _ _ _ r (by omega) (by omega) hG M (by first | omega | (simp only [bNode_1, bNode_p, bSet_1, bSet_p, bOver_1, bOver_p, bWrap_1, bWrap_p, bKeep_1, bKeep_p, bSlot_1, bSlot_p]; omega)) hm1 ((⟨by omega, by first | omega | (simp only [bNode_1, bNode_p, bSet_1, bSet_p, bOver_1, bOver_p, bWrap_1, bWrap_p, bKeep_1, bKeep_p, bSlot_1, bSlot_p]; omega)⟩ : M ≤ _ ∧ _ < _))
  obtain ⟨a2, b2, c2, d2, e2, f2, h2, i2⟩ := (x2.1 : Mo n _ _ _ r)
  have j2 := x2.2
  have j2 : M ≤ r.2.2.2.1 ∧ r.2.2.2.1 < r.2.2.2.2.1.1 := j2
  try simp only [bNode_1, bNode_p, bSet_1, bSet_p, bOver_1, bOver_p, bWrap_1, bWrap_p, bKeep_1, bKeep_p, bSlot_1, bSlot_p] at a2 b2 c2 d2 e2 f2 h2 i2
  exact ⟨(by unfold Mo; omega : Mo n b q v r), j2⟩
theorem gm_3 {T : Nat → Int32} {n f : Nat} (ih : GM T n f) {E : En} {o q v i e c g : Nat} {b : BT} {r : RT} (hq : q ≤ n) (hv : v ≤ 60) (hG : G T n (f + 1) 3 E o q v i e c g b = some (Sum.inr r)) {M : Nat} (hM : M ≤ b.1) (hm1 : 1 ≤ M) (hN : Nd0 3 M b i e c) : MoN 3 n b q v r ∧ Nd1 3 M r := by
  rw [G_3] at hG
  have hN : M ≤ e ∧ e < b.1 := hN
  by_cases y1 : tkK T n q = 64
  · rw [if_pos y1] at hG
    obtain ⟨t2, hG⟩ := gT_s hG
    have u2 := tkN_b T n q (by omega)
    try dsimp only at hG
    obtain ⟨s3, g3, hG⟩ := gb_s hG
    have x3 := ih _ _ _ _ _ _ _ _ _ _ s3 (by omega) (by omega) g3 M (by first | omega | (simp only [bNode_1, bNode_p, bSet_1, bSet_p, bOver_1, bOver_p, bWrap_1, bWrap_p, bKeep_1, bKeep_p, bSlot_1, bSlot_p]; omega)) hm1 (trivial)
    obtain ⟨a3, b3, c3, d3, e3, f3, h3, i3⟩ := (x3.1 : Mo n _ _ _ s3)
    have j3 := x3.2
    have j3 : M ≤ s3.2.2.2.1 ∧ s3.2.2.2.1 < s3.2.2.2.2.1.1 := j3
    try simp only [bNode_1, bNode_p, bSet_1, bSet_p, bOver_1, bOver_p, bWrap_1, bWrap_p, bKeep_1, bKeep_p, bSlot_1, bSlot_p] at a3 b3 c3 d3 e3 f3 h3 i3
    try dsimp only at hG
    have x4 := ih _ _ _ _ _ _ _ _ _ _ r (by omega) (by omega) hG M (by first | omega | (simp only [bNode_1, bNode_p, bSet_1, bSet_p, bOver_1, bOver_p, bWrap_1, bWrap_p, bKeep_1, bKeep_p, bSlot_1, bSlot_p]; omega)) hm1 ((⟨by omega, by first | omega | (simp only [bNode_1, bNode_p, bSet_1, bSet_p, bOver_1, bOver_p, bWrap_1, bWrap_p, bKeep_1, bKeep_p, bSlot_1, bSlot_p]; omega)⟩ : M ≤ _ ∧ _ < _))
    obtain ⟨a4, b4, c4, d4, e4, f4, h4, i4⟩ := (x4.1 : Mo n _ _ _ r)
    have j4 := x4.2
    have j4 : M ≤ r.2.2.2.1 ∧ r.2.2.2.1 < r.2.2.2.2.1.1 := j4
    try simp only [bNode_1, bNode_p, bSet_1, bSet_p, bOver_1, bOver_p, bWrap_1, bWrap_p, bKeep_1, bKeep_p, bSlot_1, bSlot_p] at a4 b4 c4 d4 e4 f4 h4 i4
    exact ⟨(by unfold Mo; omega : Mo n b q v r), j4⟩
  · rw [if_neg y1] at hG
    cases hG
    exact ⟨(by unfold Mo; simp only [bNode_1, bNode_p, bSet_1, bSet_p, bOver_1, bOver_p, bWrap_1, bWrap_p, bKeep_1, bKeep_p, bSlot_1, bSlot_p]; omega : Mo n b q v _), (by first | omega | (simp only [bNode_1, bNode_p, bSet_1, bSet_p, bOver_1, bOver_p, bWrap_1, bWrap_p, bKeep_1, bKeep_p, bSlot_1, bSlot_p]; omega) : M ≤ _ ∧ _ < _)⟩
theorem gm_4 {T : Nat → Int32} {n f : Nat} (ih : GM T n f) {E : En} {o q v i e c g : Nat} {b : BT} {r : RT} (hq : q ≤ n) (hv : v ≤ 60) (hG : G T n (f + 1) 4 E o q v i e c g b = some (Sum.inr r)) {M : Nat} (hM : M ≤ b.1) (hm1 : 1 ≤ M) (hN : Nd0 4 M b i e c) : MoN 4 n b q v r ∧ Nd1 4 M r := by
  rw [G_4] at hG
  by_cases y1 : tkK T n q = 66
  · rw [if_pos y1] at hG
    obtain ⟨_, hG⟩ := gO_s hG
    obtain ⟨t2, hG⟩ := gT_s hG
    have u2 := tkN_b T n q (by omega)
    try dsimp only at hG
    obtain ⟨s3, g3, hG⟩ := gb_s hG
    have x3 := ih _ _ _ _ _ _ _ _ _ _ s3 (by omega) (by omega) g3 M (by first | omega | (simp only [bNode_1, bNode_p, bSet_1, bSet_p, bOver_1, bOver_p, bWrap_1, bWrap_p, bKeep_1, bKeep_p, bSlot_1, bSlot_p]; omega)) hm1 (trivial)
    obtain ⟨a3, b3, c3, d3, e3, f3, h3, i3⟩ := (x3.1 : Mo n _ _ _ s3)
    have j3 := x3.2
    have j3 : M ≤ s3.2.2.2.1 ∧ s3.2.2.2.1 < s3.2.2.2.2.1.1 := j3
    try simp only [bNode_1, bNode_p, bSet_1, bSet_p, bOver_1, bOver_p, bWrap_1, bWrap_p, bKeep_1, bKeep_p, bSlot_1, bSlot_p] at a3 b3 c3 d3 e3 f3 h3 i3
    try dsimp only at hG
    cases hG
    exact ⟨(by unfold Mo; simp only [bNode_1, bNode_p, bSet_1, bSet_p, bOver_1, bOver_p, bWrap_1, bWrap_p, bKeep_1, bKeep_p, bSlot_1, bSlot_p]; omega : Mo n b q v _), (by first | omega | (simp only [bNode_1, bNode_p, bSet_1, bSet_p, bOver_1, bOver_p, bWrap_1, bWrap_p, bKeep_1, bKeep_p, bSlot_1, bSlot_p]; omega) : M ≤ _ ∧ _ < _)⟩
  · rw [if_neg y1] at hG
    have x4 := ih _ _ _ _ _ _ _ _ _ _ r (by omega) (by omega) hG M (by first | omega | (simp only [bNode_1, bNode_p, bSet_1, bSet_p, bOver_1, bOver_p, bWrap_1, bWrap_p, bKeep_1, bKeep_p, bSlot_1, bSlot_p]; omega)) hm1 (trivial)
    obtain ⟨a4, b4, c4, d4, e4, f4, h4, i4⟩ := (x4.1 : Mo n _ _ _ r)
    have j4 := x4.2
    have j4 : M ≤ r.2.2.2.1 ∧ r.2.2.2.1 < r.2.2.2.2.1.1 := j4
    try simp only [bNode_1, bNode_p, bSet_1, bSet_p, bOver_1, bOver_p, bWrap_1, bWrap_p, bKeep_1, bKeep_p, bSlot_1, bSlot_p] at a4 b4 c4 d4 e4 f4 h4 i4
    exact ⟨(by unfold Mo; omega : Mo n b q v r), j4⟩
theorem gm_5 {T : Nat → Int32} {n f : Nat} (ih : GM T n f) {E : En} {o q v i e c g : Nat} {b : BT} {r : RT} (hq : q ≤ n) (hv : v ≤ 60) (hG : G T n (f + 1) 5 E o q v i e c g b = some (Sum.inr r)) {M : Nat} (hM : M ≤ b.1) (hm1 : 1 ≤ M) (hN : Nd0 5 M b i e c) : MoN 5 n b q v r ∧ Nd1 5 M r := by
  rw [G_5] at hG
  obtain ⟨s1, g1, hG⟩ := gb_s hG
  have x1 := ih _ _ _ _ _ _ _ _ _ _ s1 (by omega) (by omega) g1 M (by first | omega | (simp only [bNode_1, bNode_p, bSet_1, bSet_p, bOver_1, bOver_p, bWrap_1, bWrap_p, bKeep_1, bKeep_p, bSlot_1, bSlot_p]; omega)) hm1 (trivial)
  obtain ⟨a1, b1, c1, d1, e1, f1, h1, i1⟩ := (x1.1 : Mo n _ _ _ s1)
  have j1 := x1.2
  have j1 : M ≤ s1.2.2.2.1 ∧ s1.2.2.2.1 < s1.2.2.2.2.1.1 := j1
  try simp only [bNode_1, bNode_p, bSet_1, bSet_p, bOver_1, bOver_p, bWrap_1, bWrap_p, bKeep_1, bKeep_p, bSlot_1, bSlot_p] at a1 b1 c1 d1 e1 f1 h1 i1
  try dsimp only at hG
  by_cases y2 : isRl (tkK T n s1.1)
  · rw [if_pos y2] at hG
    obtain ⟨t3, hG⟩ := gT_s hG
    have u3 := tkN_b T n s1.1 (by omega)
    try dsimp only at hG
    obtain ⟨s4, g4, hG⟩ := gb_s hG
    have x4 := ih _ _ _ _ _ _ _ _ _ _ s4 (by omega) (by omega) g4 M (by first | omega | (simp only [bNode_1, bNode_p, bSet_1, bSet_p, bOver_1, bOver_p, bWrap_1, bWrap_p, bKeep_1, bKeep_p, bSlot_1, bSlot_p]; omega)) hm1 (trivial)
    obtain ⟨a4, b4, c4, d4, e4, f4, h4, i4⟩ := (x4.1 : Mo n _ _ _ s4)
    have j4 := x4.2
    have j4 : M ≤ s4.2.2.2.1 ∧ s4.2.2.2.1 < s4.2.2.2.2.1.1 := j4
    try simp only [bNode_1, bNode_p, bSet_1, bSet_p, bOver_1, bOver_p, bWrap_1, bWrap_p, bKeep_1, bKeep_p, bSlot_1, bSlot_p] at a4 b4 c4 d4 e4 f4 h4 i4
    try dsimp only at hG
    cases hG
    exact ⟨(by unfold Mo; simp only [bNode_1, bNode_p, bSet_1, bSet_p, bOver_1, bOver_p, bWrap_1, bWrap_p, bKeep_1, bKeep_p, bSlot_1, bSlot_p]; omega : Mo n b q v _), (by first | omega | (simp only [bNode_1, bNode_p, bSet_1, bSet_p, bOver_1, bOver_p, bWrap_1, bWrap_p, bKeep_1, bKeep_p, bSlot_1, bSlot_p]; omega) : M ≤ _ ∧ _ < _)⟩
  · rw [if_neg y2] at hG
    cases hG
    exact ⟨(by unfold Mo; simp only [bNode_1, bNode_p, bSet_1, bSet_p, bOver_1, bOver_p, bWrap_1, bWrap_p, bKeep_1, bKeep_p, bSlot_1, bSlot_p]; omega : Mo n b q v _), (by first | omega | (simp only [bNode_1, bNode_p, bSet_1, bSet_p, bOver_1, bOver_p, bWrap_1, bWrap_p, bKeep_1, bKeep_p, bSlot_1, bSlot_p]; omega) : M ≤ _ ∧ _ < _)⟩
theorem gm_6 {T : Nat → Int32} {n f : Nat} (ih : GM T n f) {E : En} {o q v i e c g : Nat} {b : BT} {r : RT} (hq : q ≤ n) (hv : v ≤ 60) (hG : G T n (f + 1) 6 E o q v i e c g b = some (Sum.inr r)) {M : Nat} (hM : M ≤ b.1) (hm1 : 1 ≤ M) (hN : Nd0 6 M b i e c) : MoN 6 n b q v r ∧ Nd1 6 M r := by
  rw [G_6] at hG
  obtain ⟨s1, g1, hG⟩ := gb_s hG
  have x1 := ih _ _ _ _ _ _ _ _ _ _ s1 (by omega) (by omega) g1 M (by first | omega | (simp only [bNode_1, bNode_p, bSet_1, bSet_p, bOver_1, bOver_p, bWrap_1, bWrap_p, bKeep_1, bKeep_p, bSlot_1, bSlot_p]; omega)) hm1 (trivial)
  obtain ⟨a1, b1, c1, d1, e1, f1, h1, i1⟩ := (x1.1 : Mo n _ _ _ s1)
  have j1 := x1.2
  have j1 : M ≤ s1.2.2.2.1 ∧ s1.2.2.2.1 < s1.2.2.2.2.1.1 := j1
  try simp only [bNode_1, bNode_p, bSet_1, bSet_p, bOver_1, bOver_p, bWrap_1, bWrap_p, bKeep_1, bKeep_p, bSlot_1, bSlot_p] at a1 b1 c1 d1 e1 f1 h1 i1
  try dsimp only at hG
  have x2 := ih _ _ _ _ _ _ _ _ _ _ r (by omega) (by omega) hG M (by first | omega | (simp only [bNode_1, bNode_p, bSet_1, bSet_p, bOver_1, bOver_p, bWrap_1, bWrap_p, bKeep_1, bKeep_p, bSlot_1, bSlot_p]; omega)) hm1 ((⟨by omega, by first | omega | (simp only [bNode_1, bNode_p, bSet_1, bSet_p, bOver_1, bOver_p, bWrap_1, bWrap_p, bKeep_1, bKeep_p, bSlot_1, bSlot_p]; omega)⟩ : M ≤ _ ∧ _ < _))
  obtain ⟨a2, b2, c2, d2, e2, f2, h2, i2⟩ := (x2.1 : Mo n _ _ _ r)
  have j2 := x2.2
  have j2 : M ≤ r.2.2.2.1 ∧ r.2.2.2.1 < r.2.2.2.2.1.1 := j2
  try simp only [bNode_1, bNode_p, bSet_1, bSet_p, bOver_1, bOver_p, bWrap_1, bWrap_p, bKeep_1, bKeep_p, bSlot_1, bSlot_p] at a2 b2 c2 d2 e2 f2 h2 i2
  exact ⟨(by unfold Mo; omega : Mo n b q v r), j2⟩
theorem gm_7 {T : Nat → Int32} {n f : Nat} (ih : GM T n f) {E : En} {o q v i e c g : Nat} {b : BT} {r : RT} (hq : q ≤ n) (hv : v ≤ 60) (hG : G T n (f + 1) 7 E o q v i e c g b = some (Sum.inr r)) {M : Nat} (hM : M ≤ b.1) (hm1 : 1 ≤ M) (hN : Nd0 7 M b i e c) : MoN 7 n b q v r ∧ Nd1 7 M r := by
  rw [G_7] at hG
  have hN : M ≤ e ∧ e < b.1 := hN
  by_cases y1 : tkK T n q = 2 ∨ tkK T n q = 3
  · rw [if_pos y1] at hG
    obtain ⟨t2, hG⟩ := gT_s hG
    have u2 := tkN_b T n q (by omega)
    try dsimp only at hG
    obtain ⟨s3, g3, hG⟩ := gb_s hG
    have x3 := ih _ _ _ _ _ _ _ _ _ _ s3 (by omega) (by omega) g3 M (by first | omega | (simp only [bNode_1, bNode_p, bSet_1, bSet_p, bOver_1, bOver_p, bWrap_1, bWrap_p, bKeep_1, bKeep_p, bSlot_1, bSlot_p]; omega)) hm1 (trivial)
    obtain ⟨a3, b3, c3, d3, e3, f3, h3, i3⟩ := (x3.1 : Mo n _ _ _ s3)
    have j3 := x3.2
    have j3 : M ≤ s3.2.2.2.1 ∧ s3.2.2.2.1 < s3.2.2.2.2.1.1 := j3
    try simp only [bNode_1, bNode_p, bSet_1, bSet_p, bOver_1, bOver_p, bWrap_1, bWrap_p, bKeep_1, bKeep_p, bSlot_1, bSlot_p] at a3 b3 c3 d3 e3 f3 h3 i3
    try dsimp only at hG
    have x4 := ih _ _ _ _ _ _ _ _ _ _ r (by omega) (by omega) hG M (by first | omega | (simp only [bNode_1, bNode_p, bSet_1, bSet_p, bOver_1, bOver_p, bWrap_1, bWrap_p, bKeep_1, bKeep_p, bSlot_1, bSlot_p]; omega)) hm1 ((⟨by omega, by first | omega | (simp only [bNode_1, bNode_p, bSet_1, bSet_p, bOver_1, bOver_p, bWrap_1, bWrap_p, bKeep_1, bKeep_p, bSlot_1, bSlot_p]; omega)⟩ : M ≤ _ ∧ _ < _))
    obtain ⟨a4, b4, c4, d4, e4, f4, h4, i4⟩ := (x4.1 : Mo n _ _ _ r)
    have j4 := x4.2
    have j4 : M ≤ r.2.2.2.1 ∧ r.2.2.2.1 < r.2.2.2.2.1.1 := j4
    try simp only [bNode_1, bNode_p, bSet_1, bSet_p, bOver_1, bOver_p, bWrap_1, bWrap_p, bKeep_1, bKeep_p, bSlot_1, bSlot_p] at a4 b4 c4 d4 e4 f4 h4 i4
    exact ⟨(by unfold Mo; omega : Mo n b q v r), j4⟩
  · rw [if_neg y1] at hG
    cases hG
    exact ⟨(by unfold Mo; simp only [bNode_1, bNode_p, bSet_1, bSet_p, bOver_1, bOver_p, bWrap_1, bWrap_p, bKeep_1, bKeep_p, bSlot_1, bSlot_p]; omega : Mo n b q v _), (by first | omega | (simp only [bNode_1, bNode_p, bSet_1, bSet_p, bOver_1, bOver_p, bWrap_1, bWrap_p, bKeep_1, bKeep_p, bSlot_1, bSlot_p]; omega) : M ≤ _ ∧ _ < _)⟩
theorem gm_8 {T : Nat → Int32} {n f : Nat} (ih : GM T n f) {E : En} {o q v i e c g : Nat} {b : BT} {r : RT} (hq : q ≤ n) (hv : v ≤ 60) (hG : G T n (f + 1) 8 E o q v i e c g b = some (Sum.inr r)) {M : Nat} (hM : M ≤ b.1) (hm1 : 1 ≤ M) (hN : Nd0 8 M b i e c) : MoN 8 n b q v r ∧ Nd1 8 M r := by
  rw [G_8] at hG
  obtain ⟨s1, g1, hG⟩ := gb_s hG
  have x1 := ih _ _ _ _ _ _ _ _ _ _ s1 (by omega) (by omega) g1 M (by first | omega | (simp only [bNode_1, bNode_p, bSet_1, bSet_p, bOver_1, bOver_p, bWrap_1, bWrap_p, bKeep_1, bKeep_p, bSlot_1, bSlot_p]; omega)) hm1 (trivial)
  obtain ⟨a1, b1, c1, d1, e1, f1, h1, i1⟩ := (x1.1 : Mo n _ _ _ s1)
  have j1 := x1.2
  have j1 : M ≤ s1.2.2.2.1 ∧ s1.2.2.2.1 < s1.2.2.2.2.1.1 := j1
  try simp only [bNode_1, bNode_p, bSet_1, bSet_p, bOver_1, bOver_p, bWrap_1, bWrap_p, bKeep_1, bKeep_p, bSlot_1, bSlot_p] at a1 b1 c1 d1 e1 f1 h1 i1
  try dsimp only at hG
  have x2 := ih _ _ _ _ _ _ _ _ _ _ r (by omega) (by omega) hG M (by first | omega | (simp only [bNode_1, bNode_p, bSet_1, bSet_p, bOver_1, bOver_p, bWrap_1, bWrap_p, bKeep_1, bKeep_p, bSlot_1, bSlot_p]; omega)) hm1 ((⟨by omega, by first | omega | (simp only [bNode_1, bNode_p, bSet_1, bSet_p, bOver_1, bOver_p, bWrap_1, bWrap_p, bKeep_1, bKeep_p, bSlot_1, bSlot_p]; omega)⟩ : M ≤ _ ∧ _ < _))
  obtain ⟨a2, b2, c2, d2, e2, f2, h2, i2⟩ := (x2.1 : Mo n _ _ _ r)
  have j2 := x2.2
  have j2 : M ≤ r.2.2.2.1 ∧ r.2.2.2.1 < r.2.2.2.2.1.1 := j2
  try simp only [bNode_1, bNode_p, bSet_1, bSet_p, bOver_1, bOver_p, bWrap_1, bWrap_p, bKeep_1, bKeep_p, bSlot_1, bSlot_p] at a2 b2 c2 d2 e2 f2 h2 i2
  exact ⟨(by unfold Mo; omega : Mo n b q v r), j2⟩
theorem gm_9 {T : Nat → Int32} {n f : Nat} (ih : GM T n f) {E : En} {o q v i e c g : Nat} {b : BT} {r : RT} (hq : q ≤ n) (hv : v ≤ 60) (hG : G T n (f + 1) 9 E o q v i e c g b = some (Sum.inr r)) {M : Nat} (hM : M ≤ b.1) (hm1 : 1 ≤ M) (hN : Nd0 9 M b i e c) : MoN 9 n b q v r ∧ Nd1 9 M r := by
  rw [G_9] at hG
  have hN : M ≤ e ∧ e < b.1 := hN
  by_cases y1 : tkK T n q = 4 ∨ tkK T n q = 67 ∨ tkK T n q = 68
  · rw [if_pos y1] at hG
    obtain ⟨t2, hG⟩ := gT_s hG
    have u2 := tkN_b T n q (by omega)
    try dsimp only at hG
    obtain ⟨s3, g3, hG⟩ := gb_s hG
    have x3 := ih _ _ _ _ _ _ _ _ _ _ s3 (by omega) (by omega) g3 M (by first | omega | (simp only [bNode_1, bNode_p, bSet_1, bSet_p, bOver_1, bOver_p, bWrap_1, bWrap_p, bKeep_1, bKeep_p, bSlot_1, bSlot_p]; omega)) hm1 (trivial)
    obtain ⟨a3, b3, c3, d3, e3, f3, h3, i3⟩ := (x3.1 : Mo n _ _ _ s3)
    have j3 := x3.2
    have j3 : M ≤ s3.2.2.2.1 ∧ s3.2.2.2.1 < s3.2.2.2.2.1.1 := j3
    try simp only [bNode_1, bNode_p, bSet_1, bSet_p, bOver_1, bOver_p, bWrap_1, bWrap_p, bKeep_1, bKeep_p, bSlot_1, bSlot_p] at a3 b3 c3 d3 e3 f3 h3 i3
    try dsimp only at hG
    have x4 := ih _ _ _ _ _ _ _ _ _ _ r (by omega) (by omega) hG M (by first | omega | (simp only [bNode_1, bNode_p, bSet_1, bSet_p, bOver_1, bOver_p, bWrap_1, bWrap_p, bKeep_1, bKeep_p, bSlot_1, bSlot_p]; omega)) hm1 ((⟨by omega, by first | omega | (simp only [bNode_1, bNode_p, bSet_1, bSet_p, bOver_1, bOver_p, bWrap_1, bWrap_p, bKeep_1, bKeep_p, bSlot_1, bSlot_p]; omega)⟩ : M ≤ _ ∧ _ < _))
    obtain ⟨a4, b4, c4, d4, e4, f4, h4, i4⟩ := (x4.1 : Mo n _ _ _ r)
    have j4 := x4.2
    have j4 : M ≤ r.2.2.2.1 ∧ r.2.2.2.1 < r.2.2.2.2.1.1 := j4
    try simp only [bNode_1, bNode_p, bSet_1, bSet_p, bOver_1, bOver_p, bWrap_1, bWrap_p, bKeep_1, bKeep_p, bSlot_1, bSlot_p] at a4 b4 c4 d4 e4 f4 h4 i4
    exact ⟨(by unfold Mo; omega : Mo n b q v r), j4⟩
  · rw [if_neg y1] at hG
    cases hG
    exact ⟨(by unfold Mo; simp only [bNode_1, bNode_p, bSet_1, bSet_p, bOver_1, bOver_p, bWrap_1, bWrap_p, bKeep_1, bKeep_p, bSlot_1, bSlot_p]; omega : Mo n b q v _), (by first | omega | (simp only [bNode_1, bNode_p, bSet_1, bSet_p, bOver_1, bOver_p, bWrap_1, bWrap_p, bKeep_1, bKeep_p, bSlot_1, bSlot_p]; omega) : M ≤ _ ∧ _ < _)⟩
theorem gm_10 {T : Nat → Int32} {n f : Nat} (ih : GM T n f) {E : En} {o q v i e c g : Nat} {b : BT} {r : RT} (hq : q ≤ n) (hv : v ≤ 60) (hG : G T n (f + 1) 10 E o q v i e c g b = some (Sum.inr r)) {M : Nat} (hM : M ≤ b.1) (hm1 : 1 ≤ M) (hN : Nd0 10 M b i e c) : MoN 10 n b q v r ∧ Nd1 10 M r := by
  rw [G_10] at hG
  obtain ⟨s1, g1, hG⟩ := gb_s hG
  have x1 := ih _ _ _ _ _ _ _ _ _ _ s1 (by omega) (by omega) g1 M (by first | omega | (simp only [bNode_1, bNode_p, bSet_1, bSet_p, bOver_1, bOver_p, bWrap_1, bWrap_p, bKeep_1, bKeep_p, bSlot_1, bSlot_p]; omega)) hm1 (trivial)
  obtain ⟨a1, b1, c1, d1, e1, f1, h1, i1⟩ := (x1.1 : Mo n _ _ _ s1)
  have j1 := x1.2
  have j1 : M ≤ s1.2.2.2.1 ∧ s1.2.2.2.1 < s1.2.2.2.2.1.1 := j1
  try simp only [bNode_1, bNode_p, bSet_1, bSet_p, bOver_1, bOver_p, bWrap_1, bWrap_p, bKeep_1, bKeep_p, bSlot_1, bSlot_p] at a1 b1 c1 d1 e1 f1 h1 i1
  try dsimp only at hG
  by_cases y2 : tkK T n s1.1 = 5
  · rw [if_pos y2] at hG
    obtain ⟨_, hG⟩ := gO_s hG
    obtain ⟨t3, hG⟩ := gT_s hG
    have u3 := tkN_b T n s1.1 (by omega)
    try dsimp only at hG
    obtain ⟨s4, g4, hG⟩ := gb_s hG
    have x4 := ih _ _ _ _ _ _ _ _ _ _ s4 (by omega) (by omega) g4 M (by first | omega | (simp only [bNode_1, bNode_p, bSet_1, bSet_p, bOver_1, bOver_p, bWrap_1, bWrap_p, bKeep_1, bKeep_p, bSlot_1, bSlot_p]; omega)) hm1 (trivial)
    obtain ⟨a4, b4, c4, d4, e4, f4, h4, i4⟩ := (x4.1 : Mo n _ _ _ s4)
    have j4 := x4.2
    have j4 : M ≤ s4.2.2.2.1 ∧ s4.2.2.2.1 < s4.2.2.2.2.1.1 := j4
    try simp only [bNode_1, bNode_p, bSet_1, bSet_p, bOver_1, bOver_p, bWrap_1, bWrap_p, bKeep_1, bKeep_p, bSlot_1, bSlot_p] at a4 b4 c4 d4 e4 f4 h4 i4
    try dsimp only at hG
    cases hG
    exact ⟨(by unfold Mo; simp only [bNode_1, bNode_p, bSet_1, bSet_p, bOver_1, bOver_p, bWrap_1, bWrap_p, bKeep_1, bKeep_p, bSlot_1, bSlot_p]; omega : Mo n b q v _), (by first | omega | (simp only [bNode_1, bNode_p, bSet_1, bSet_p, bOver_1, bOver_p, bWrap_1, bWrap_p, bKeep_1, bKeep_p, bSlot_1, bSlot_p]; omega) : M ≤ _ ∧ _ < _)⟩
  · rw [if_neg y2] at hG
    cases hG
    exact ⟨(by unfold Mo; simp only [bNode_1, bNode_p, bSet_1, bSet_p, bOver_1, bOver_p, bWrap_1, bWrap_p, bKeep_1, bKeep_p, bSlot_1, bSlot_p]; omega : Mo n b q v _), (by first | omega | (simp only [bNode_1, bNode_p, bSet_1, bSet_p, bOver_1, bOver_p, bWrap_1, bWrap_p, bKeep_1, bKeep_p, bSlot_1, bSlot_p]; omega) : M ≤ _ ∧ _ < _)⟩
theorem gm_11 {T : Nat → Int32} {n f : Nat} (ih : GM T n f) {E : En} {o q v i e c g : Nat} {b : BT} {r : RT} (hq : q ≤ n) (hv : v ≤ 60) (hG : G T n (f + 1) 11 E o q v i e c g b = some (Sum.inr r)) {M : Nat} (hM : M ≤ b.1) (hm1 : 1 ≤ M) (hN : Nd0 11 M b i e c) : MoN 11 n b q v r ∧ Nd1 11 M r := by
  rw [G_11] at hG
  by_cases y1 : tkK T n q = 3 ∨ tkK T n q = 23
  · rw [if_pos y1] at hG
    obtain ⟨_, hG⟩ := gO_s hG
    obtain ⟨t2, hG⟩ := gT_s hG
    have u2 := tkN_b T n q (by omega)
    try dsimp only at hG
    obtain ⟨s3, g3, hG⟩ := gb_s hG
    have x3 := ih _ _ _ _ _ _ _ _ _ _ s3 (by omega) (by omega) g3 M (by first | omega | (simp only [bNode_1, bNode_p, bSet_1, bSet_p, bOver_1, bOver_p, bWrap_1, bWrap_p, bKeep_1, bKeep_p, bSlot_1, bSlot_p]; omega)) hm1 (trivial)
    obtain ⟨a3, b3, c3, d3, e3, f3, h3, i3⟩ := (x3.1 : Mo n _ _ _ s3)
    have j3 := x3.2
    have j3 : M ≤ s3.2.2.2.1 ∧ s3.2.2.2.1 < s3.2.2.2.2.1.1 := j3
    try simp only [bNode_1, bNode_p, bSet_1, bSet_p, bOver_1, bOver_p, bWrap_1, bWrap_p, bKeep_1, bKeep_p, bSlot_1, bSlot_p] at a3 b3 c3 d3 e3 f3 h3 i3
    try dsimp only at hG
    cases hG
    exact ⟨(by unfold Mo; simp only [bNode_1, bNode_p, bSet_1, bSet_p, bOver_1, bOver_p, bWrap_1, bWrap_p, bKeep_1, bKeep_p, bSlot_1, bSlot_p]; omega : Mo n b q v _), (by first | omega | (simp only [bNode_1, bNode_p, bSet_1, bSet_p, bOver_1, bOver_p, bWrap_1, bWrap_p, bKeep_1, bKeep_p, bSlot_1, bSlot_p]; omega) : M ≤ _ ∧ _ < _)⟩
  · rw [if_neg y1] at hG
    by_cases y4 : tkK T n q = 2 ∨ tkK T n q = 4 ∨ tkK T n q = 81 ∨ tkK T n q = 80
    · rw [if_pos y4] at hG
      obtain ⟨_, hG⟩ := gO_s hG
      obtain ⟨t5, hG⟩ := gT_s hG
      have u5 := tkN_b T n q (by omega)
      try dsimp only at hG
      obtain ⟨w6, t6, hG⟩ := gW_s hG
      have u6 := tkN_b T n (tkN T n q) (by omega)
      try dsimp only at hG
      obtain ⟨s7, g7, hG⟩ := gb_s hG
      have x7 := ih _ _ _ _ _ _ _ _ _ _ s7 (by omega) (by omega) g7 M (by first | omega | (simp only [bNode_1, bNode_p, bSet_1, bSet_p, bOver_1, bOver_p, bWrap_1, bWrap_p, bKeep_1, bKeep_p, bSlot_1, bSlot_p]; omega)) hm1 (trivial)
      obtain ⟨a7, b7, c7, d7, e7, f7, h7, i7⟩ := (x7.1 : Mo n _ _ _ s7)
      have j7 := x7.2
      have j7 : M ≤ s7.2.2.2.1 ∧ s7.2.2.2.1 < s7.2.2.2.2.1.1 := j7
      try simp only [bNode_1, bNode_p, bSet_1, bSet_p, bOver_1, bOver_p, bWrap_1, bWrap_p, bKeep_1, bKeep_p, bSlot_1, bSlot_p] at a7 b7 c7 d7 e7 f7 h7 i7
      try dsimp only at hG
      cases hG
      exact ⟨(by unfold Mo; simp only [bNode_1, bNode_p, bSet_1, bSet_p, bOver_1, bOver_p, bWrap_1, bWrap_p, bKeep_1, bKeep_p, bSlot_1, bSlot_p]; omega : Mo n b q v _), (by first | omega | (simp only [bNode_1, bNode_p, bSet_1, bSet_p, bOver_1, bOver_p, bWrap_1, bWrap_p, bKeep_1, bKeep_p, bSlot_1, bSlot_p]; omega) : M ≤ _ ∧ _ < _)⟩
    · rw [if_neg y4] at hG
      obtain ⟨s8, g8, hG⟩ := gb_s hG
      have x8 := ih _ _ _ _ _ _ _ _ _ _ s8 (by omega) (by omega) g8 M (by first | omega | (simp only [bNode_1, bNode_p, bSet_1, bSet_p, bOver_1, bOver_p, bWrap_1, bWrap_p, bKeep_1, bKeep_p, bSlot_1, bSlot_p]; omega)) hm1 (trivial)
      obtain ⟨a8, b8, c8, d8, e8, f8, h8, i8⟩ := (x8.1 : Mo n _ _ _ s8)
      have j8 := x8.2
      have j8 : M ≤ s8.2.2.2.1 ∧ s8.2.2.2.1 < s8.2.2.2.2.1.1 := j8
      try simp only [bNode_1, bNode_p, bSet_1, bSet_p, bOver_1, bOver_p, bWrap_1, bWrap_p, bKeep_1, bKeep_p, bSlot_1, bSlot_p] at a8 b8 c8 d8 e8 f8 h8 i8
      try dsimp only at hG
      have x9 := ih _ _ _ _ _ _ _ _ _ _ r (by omega) (by omega) hG M (by first | omega | (simp only [bNode_1, bNode_p, bSet_1, bSet_p, bOver_1, bOver_p, bWrap_1, bWrap_p, bKeep_1, bKeep_p, bSlot_1, bSlot_p]; omega)) hm1 ((⟨by omega, by first | omega | (simp only [bNode_1, bNode_p, bSet_1, bSet_p, bOver_1, bOver_p, bWrap_1, bWrap_p, bKeep_1, bKeep_p, bSlot_1, bSlot_p]; omega)⟩ : M ≤ _ ∧ _ < _))
      obtain ⟨a9, b9, c9, d9, e9, f9, h9, i9⟩ := (x9.1 : Mo n _ _ _ r)
      have j9 := x9.2
      have j9 : M ≤ r.2.2.2.1 ∧ r.2.2.2.1 < r.2.2.2.2.1.1 := j9
      try simp only [bNode_1, bNode_p, bSet_1, bSet_p, bOver_1, bOver_p, bWrap_1, bWrap_p, bKeep_1, bKeep_p, bSlot_1, bSlot_p] at a9 b9 c9 d9 e9 f9 h9 i9
      exact ⟨(by unfold Mo; omega : Mo n b q v r), j9⟩
theorem gm_12 {T : Nat → Int32} {n f : Nat} (ih : GM T n f) {E : En} {o q v i e c g : Nat} {b : BT} {r : RT} (hq : q ≤ n) (hv : v ≤ 60) (hG : G T n (f + 1) 12 E o q v i e c g b = some (Sum.inr r)) {M : Nat} (hM : M ≤ b.1) (hm1 : 1 ≤ M) (hN : Nd0 12 M b i e c) : MoN 12 n b q v r ∧ Nd1 12 M r := by
  rw [G_12] at hG
  have hN : M ≤ e ∧ e < b.1 := hN
  by_cases y1 : tkK T n q = 6 ∨ tkK T n q = 8
  · rw [if_pos y1] at hG
    obtain ⟨_, hG⟩ := gO_s hG
    obtain ⟨t2, hG⟩ := gT_s hG
    have u2 := tkN_b T n q (by omega)
    try dsimp only at hG
    obtain ⟨s3, g3, hG⟩ := gb_s hG
    have x3 := ih _ _ _ _ _ _ _ _ _ _ s3 (by omega) (by omega) g3 M (by first | omega | (simp only [bNode_1, bNode_p, bSet_1, bSet_p, bOver_1, bOver_p, bWrap_1, bWrap_p, bKeep_1, bKeep_p, bSlot_1, bSlot_p]; omega)) hm1 (trivial)
    obtain ⟨a3, b3, c3, d3, e3, f3, h3, i3⟩ := (x3.1 : Mo n _ _ _ s3)
    have j3 := x3.2
    have j3 : M ≤ s3.2.2.2.1 ∧ s3.2.2.2.1 < s3.2.2.2.2.1.1 := j3
    try simp only [bNode_1, bNode_p, bSet_1, bSet_p, bOver_1, bOver_p, bWrap_1, bWrap_p, bKeep_1, bKeep_p, bSlot_1, bSlot_p] at a3 b3 c3 d3 e3 f3 h3 i3
    try dsimp only at hG
    by_cases y4 : tkK T n q = 6 ∧ tkK T n s3.1 = 16
    · rw [if_pos y4] at hG
      obtain ⟨t5, hG⟩ := gT_s hG
      have u5 := tkN_b T n s3.1 (by omega)
      try dsimp only at hG
      obtain ⟨s6, g6, hG⟩ := gb_s hG
      have x6 := ih _ _ _ _ _ _ _ _ _ _ s6 (by omega) (by omega) g6 M (by first | omega | (simp only [bNode_1, bNode_p, bSet_1, bSet_p, bOver_1, bOver_p, bWrap_1, bWrap_p, bKeep_1, bKeep_p, bSlot_1, bSlot_p]; omega)) hm1 (trivial)
      obtain ⟨a6, b6, c6, d6, e6, f6, h6, i6⟩ := (x6.1 : Mo n _ _ _ s6)
      have j6 := x6.2
      have j6 : M ≤ s6.2.2.2.1 ∧ s6.2.2.2.1 < s6.2.2.2.2.1.1 := j6
      try simp only [bNode_1, bNode_p, bSet_1, bSet_p, bOver_1, bOver_p, bWrap_1, bWrap_p, bKeep_1, bKeep_p, bSlot_1, bSlot_p] at a6 b6 c6 d6 e6 f6 h6 i6
      try dsimp only at hG
      obtain ⟨w7, t7, hG⟩ := gW_s hG
      have u7 := tkN_b T n s6.1 (by omega)
      try dsimp only at hG
      have x8 := ih _ _ _ _ _ _ _ _ _ _ r (by omega) (by omega) hG M (by first | omega | (simp only [bNode_1, bNode_p, bSet_1, bSet_p, bOver_1, bOver_p, bWrap_1, bWrap_p, bKeep_1, bKeep_p, bSlot_1, bSlot_p]; omega)) hm1 ((⟨by omega, by first | omega | (simp only [bNode_1, bNode_p, bSet_1, bSet_p, bOver_1, bOver_p, bWrap_1, bWrap_p, bKeep_1, bKeep_p, bSlot_1, bSlot_p]; omega)⟩ : M ≤ _ ∧ _ < _))
      obtain ⟨a8, b8, c8, d8, e8, f8, h8, i8⟩ := (x8.1 : Mo n _ _ _ r)
      have j8 := x8.2
      have j8 : M ≤ r.2.2.2.1 ∧ r.2.2.2.1 < r.2.2.2.2.1.1 := j8
      try simp only [bNode_1, bNode_p, bSet_1, bSet_p, bOver_1, bOver_p, bWrap_1, bWrap_p, bKeep_1, bKeep_p, bSlot_1, bSlot_p] at a8 b8 c8 d8 e8 f8 h8 i8
      exact ⟨(by unfold Mo; omega : Mo n b q v r), j8⟩
    · rw [if_neg y4] at hG
      obtain ⟨w9, t9, hG⟩ := gW_s hG
      have u9 := tkN_b T n s3.1 (by omega)
      try dsimp only at hG
      have x10 := ih _ _ _ _ _ _ _ _ _ _ r (by omega) (by omega) hG M (by first | omega | (simp only [bNode_1, bNode_p, bSet_1, bSet_p, bOver_1, bOver_p, bWrap_1, bWrap_p, bKeep_1, bKeep_p, bSlot_1, bSlot_p]; omega)) hm1 ((⟨by omega, by first | omega | (simp only [bNode_1, bNode_p, bSet_1, bSet_p, bOver_1, bOver_p, bWrap_1, bWrap_p, bKeep_1, bKeep_p, bSlot_1, bSlot_p]; omega)⟩ : M ≤ _ ∧ _ < _))
      obtain ⟨a10, b10, c10, d10, e10, f10, h10, i10⟩ := (x10.1 : Mo n _ _ _ r)
      have j10 := x10.2
      have j10 : M ≤ r.2.2.2.1 ∧ r.2.2.2.1 < r.2.2.2.2.1.1 := j10
      try simp only [bNode_1, bNode_p, bSet_1, bSet_p, bOver_1, bOver_p, bWrap_1, bWrap_p, bKeep_1, bKeep_p, bSlot_1, bSlot_p] at a10 b10 c10 d10 e10 f10 h10 i10
      exact ⟨(by unfold Mo; omega : Mo n b q v r), j10⟩
  · rw [if_neg y1] at hG
    cases hG
    exact ⟨(by unfold Mo; simp only [bNode_1, bNode_p, bSet_1, bSet_p, bOver_1, bOver_p, bWrap_1, bWrap_p, bKeep_1, bKeep_p, bSlot_1, bSlot_p]; omega : Mo n b q v _), (by first | omega | (simp only [bNode_1, bNode_p, bSet_1, bSet_p, bOver_1, bOver_p, bWrap_1, bWrap_p, bKeep_1, bKeep_p, bSlot_1, bSlot_p]; omega) : M ≤ _ ∧ _ < _)⟩
theorem gm_13 {T : Nat → Int32} {n f : Nat} (ih : GM T n f) {E : En} {o q v i e c g : Nat} {b : BT} {r : RT} (hq : q ≤ n) (hv : v ≤ 60) (hG : G T n (f + 1) 13 E o q v i e c g b = some (Sum.inr r)) {M : Nat} (hM : M ≤ b.1) (hm1 : 1 ≤ M) (hN : Nd0 13 M b i e c) : MoN 13 n b q v r ∧ Nd1 13 M r := by
  rw [G_13] at hG
  by_cases y1 : tkK T n q = 27
  · rw [if_pos y1] at hG
    obtain ⟨t2, hG⟩ := gT_s hG
    have u2 := tkN_b T n q (by omega)
    try dsimp only at hG
    have z := tkE_b T n q (by omega)
    cases hG
    exact ⟨(by unfold Mo; simp only [bNode_1, bNode_p, bSet_1, bSet_p, bOver_1, bOver_p, bWrap_1, bWrap_p, bKeep_1, bKeep_p, bSlot_1, bSlot_p]; omega : Mo n b q v _), (by first | omega | (simp only [bNode_1, bNode_p, bSet_1, bSet_p, bOver_1, bOver_p, bWrap_1, bWrap_p, bKeep_1, bKeep_p, bSlot_1, bSlot_p]; omega) : M ≤ _ ∧ _ < _)⟩
  · rw [if_neg y1] at hG
    by_cases y3 : tkK T n q = 28
    · rw [if_pos y3] at hG
      obtain ⟨t4, hG⟩ := gT_s hG
      have u4 := tkN_b T n q (by omega)
      try dsimp only at hG
      have z := tkE_b T n q (by omega)
      cases hG
      exact ⟨(by unfold Mo; simp only [bNode_1, bNode_p, bSet_1, bSet_p, bOver_1, bOver_p, bWrap_1, bWrap_p, bKeep_1, bKeep_p, bSlot_1, bSlot_p]; omega : Mo n b q v _), (by first | omega | (simp only [bNode_1, bNode_p, bSet_1, bSet_p, bOver_1, bOver_p, bWrap_1, bWrap_p, bKeep_1, bKeep_p, bSlot_1, bSlot_p]; omega) : M ≤ _ ∧ _ < _)⟩
    · rw [if_neg y3] at hG
      by_cases y5 : tkK T n q = 26
      · rw [if_pos y5] at hG
        obtain ⟨t6, hG⟩ := gT_s hG
        have u6 := tkN_b T n q (by omega)
        try dsimp only at hG
        by_cases y7 : (fd E (tkS T n q)).1 = 1
        · rw [if_pos y7] at hG
          cases hG
          exact ⟨(by unfold Mo; simp only [bNode_1, bNode_p, bSet_1, bSet_p, bOver_1, bOver_p, bWrap_1, bWrap_p, bKeep_1, bKeep_p, bSlot_1, bSlot_p]; omega : Mo n b q v _), (by first | omega | (simp only [bNode_1, bNode_p, bSet_1, bSet_p, bOver_1, bOver_p, bWrap_1, bWrap_p, bKeep_1, bKeep_p, bSlot_1, bSlot_p]; omega) : M ≤ _ ∧ _ < _)⟩
        · rw [if_neg y7] at hG
          by_cases y8 : (fd E (tkS T n q)).1 = 2 ∧ tkK T n (tkN T n q) = 6
          · rw [if_pos y8] at hG
            obtain ⟨_, hG⟩ := gO_s hG
            obtain ⟨t9, hG⟩ := gT_s hG
            have u9 := tkN_b T n (tkN T n q) (by omega)
            try dsimp only at hG
            obtain ⟨s10, g10, hG⟩ := gb_s hG
            have x10 := ih _ _ _ _ _ _ _ _ _ _ s10 (by omega) (by omega) g10 M (by first | omega | (simp only [bNode_1, bNode_p, bSet_1, bSet_p, bOver_1, bOver_p, bWrap_1, bWrap_p, bKeep_1, bKeep_p, bSlot_1, bSlot_p]; omega)) hm1 (Or.inl rfl)
            obtain ⟨a10, b10, c10, d10, e10, f10, h10, i10⟩ := (x10.1 : Mo n _ _ _ s10)
            have j10 := x10.2
            have j10 : (s10.2.2.1 = 0 ∧ s10.2.2.2.1 = 0) ∨ (M ≤ s10.2.2.2.1 ∧ s10.2.2.2.1 < s10.2.2.2.2.1.1) := j10
            try simp only [bNode_1, bNode_p, bSet_1, bSet_p, bOver_1, bOver_p, bWrap_1, bWrap_p, bKeep_1, bKeep_p, bSlot_1, bSlot_p] at a10 b10 c10 d10 e10 f10 h10 i10
            try dsimp only at hG
            by_cases y11 : tkK T n s10.1 = 7 ∧ s10.2.2.1 = E.2.2.2.2.2.2 (fd E (tkS T n q)).2.1
            · rw [if_pos y11] at hG
              obtain ⟨t12, hG⟩ := gT_s hG
              have u12 := tkN_b T n s10.1 (by omega)
              try dsimp only at hG
              cases hG
              exact ⟨(by unfold Mo; simp only [bNode_1, bNode_p, bSet_1, bSet_p, bOver_1, bOver_p, bWrap_1, bWrap_p, bKeep_1, bKeep_p, bSlot_1, bSlot_p]; omega : Mo n b q v _), (by first | omega | (simp only [bNode_1, bNode_p, bSet_1, bSet_p, bOver_1, bOver_p, bWrap_1, bWrap_p, bKeep_1, bKeep_p, bSlot_1, bSlot_p]; omega) : M ≤ _ ∧ _ < _)⟩
            · rw [if_neg y11] at hG
              cases hG
          · rw [if_neg y8] at hG
            cases hG
      · rw [if_neg y5] at hG
        by_cases y13 : tkK T n q = 6
        · rw [if_pos y13] at hG
          obtain ⟨_, hG⟩ := gO_s hG
          obtain ⟨t14, hG⟩ := gT_s hG
          have u14 := tkN_b T n q (by omega)
          try dsimp only at hG
          obtain ⟨s15, g15, hG⟩ := gb_s hG
          have x15 := ih _ _ _ _ _ _ _ _ _ _ s15 (by omega) (by omega) g15 M (by first | omega | (simp only [bNode_1, bNode_p, bSet_1, bSet_p, bOver_1, bOver_p, bWrap_1, bWrap_p, bKeep_1, bKeep_p, bSlot_1, bSlot_p]; omega)) hm1 (trivial)
          obtain ⟨a15, b15, c15, d15, e15, f15, h15, i15⟩ := (x15.1 : Mo n _ _ _ s15)
          have j15 := x15.2
          have j15 : M ≤ s15.2.2.2.1 ∧ s15.2.2.2.1 < s15.2.2.2.2.1.1 := j15
          try simp only [bNode_1, bNode_p, bSet_1, bSet_p, bOver_1, bOver_p, bWrap_1, bWrap_p, bKeep_1, bKeep_p, bSlot_1, bSlot_p] at a15 b15 c15 d15 e15 f15 h15 i15
          try dsimp only at hG
          obtain ⟨w16, t16, hG⟩ := gW_s hG
          have u16 := tkN_b T n s15.1 (by omega)
          try dsimp only at hG
          cases hG
          exact ⟨(by unfold Mo; simp only [bNode_1, bNode_p, bSet_1, bSet_p, bOver_1, bOver_p, bWrap_1, bWrap_p, bKeep_1, bKeep_p, bSlot_1, bSlot_p]; omega : Mo n b q v _), (by first | omega | (simp only [bNode_1, bNode_p, bSet_1, bSet_p, bOver_1, bOver_p, bWrap_1, bWrap_p, bKeep_1, bKeep_p, bSlot_1, bSlot_p]; omega) : M ≤ _ ∧ _ < _)⟩
        · rw [if_neg y13] at hG
          by_cases y17 : tkK T n q = 8 ∨ tkK T n q = 10
          · rw [if_pos y17] at hG
            obtain ⟨_, hG⟩ := gO_s hG
            obtain ⟨t18, hG⟩ := gT_s hG
            have u18 := tkN_b T n q (by omega)
            try dsimp only at hG
            by_cases y19 : tkK T n (tkN T n q) = tkK T n q + 1
            · rw [if_pos y19] at hG
              obtain ⟨t20, hG⟩ := gT_s hG
              have u20 := tkN_b T n (tkN T n q) (by omega)
              try dsimp only at hG
              cases hG
              exact ⟨(by unfold Mo; simp only [bNode_1, bNode_p, bSet_1, bSet_p, bOver_1, bOver_p, bWrap_1, bWrap_p, bKeep_1, bKeep_p, bSlot_1, bSlot_p]; omega : Mo n b q v _), (by first | omega | (simp only [bNode_1, bNode_p, bSet_1, bSet_p, bOver_1, bOver_p, bWrap_1, bWrap_p, bKeep_1, bKeep_p, bSlot_1, bSlot_p]; omega) : M ≤ _ ∧ _ < _)⟩
            · rw [if_neg y19] at hG
              by_cases y21 : tkK T n (tkN T n q) = 45
              · rw [if_pos y21] at hG
                obtain ⟨t22, hG⟩ := gT_s hG
                have u22 := tkN_b T n (tkN T n q) (by omega)
                try dsimp only at hG
                obtain ⟨s23, g23, hG⟩ := gb_s hG
                have x23 := ih _ _ _ _ _ _ _ _ _ _ s23 (by omega) (by omega) g23 M (by first | omega | (simp only [bNode_1, bNode_p, bSet_1, bSet_p, bOver_1, bOver_p, bWrap_1, bWrap_p, bKeep_1, bKeep_p, bSlot_1, bSlot_p]; omega)) hm1 (Or.inl rfl)
                obtain ⟨a23, b23, c23, d23, e23, f23, h23, i23⟩ := (x23.1 : Mo n _ _ _ s23)
                have j23 := x23.2
                have j23 : M ≤ s23.2.2.2.1 ∧ s23.2.2.2.1 < s23.2.2.2.2.1.1 := j23
                try simp only [bNode_1, bNode_p, bSet_1, bSet_p, bOver_1, bOver_p, bWrap_1, bWrap_p, bKeep_1, bKeep_p, bSlot_1, bSlot_p] at a23 b23 c23 d23 e23 f23 h23 i23
                try dsimp only at hG
                by_cases y24 : tkK T n s23.1 = 15
                · rw [if_pos y24] at hG
                  obtain ⟨t25, hG⟩ := gT_s hG
                  have u25 := tkN_b T n s23.1 (by omega)
                  try dsimp only at hG
                  obtain ⟨s26, g26, hG⟩ := gb_s hG
                  have x26 := ih _ _ _ _ _ _ _ _ _ _ s26 (by omega) (by omega) g26 M (by first | omega | (simp only [bNode_1, bNode_p, bSet_1, bSet_p, bOver_1, bOver_p, bWrap_1, bWrap_p, bKeep_1, bKeep_p, bSlot_1, bSlot_p]; omega)) hm1 (trivial)
                  obtain ⟨a26, b26, c26, d26, e26, f26, h26, i26⟩ := (x26.1 : Mo n _ _ _ s26)
                  have j26 := x26.2
                  have j26 : M ≤ s26.2.2.2.1 ∧ s26.2.2.2.1 < s26.2.2.2.2.1.1 := j26
                  try simp only [bNode_1, bNode_p, bSet_1, bSet_p, bOver_1, bOver_p, bWrap_1, bWrap_p, bKeep_1, bKeep_p, bSlot_1, bSlot_p] at a26 b26 c26 d26 e26 f26 h26 i26
                  try dsimp only at hG
                  obtain ⟨w27, t27, hG⟩ := gW_s hG
                  have u27 := tkN_b T n s26.1 (by omega)
                  try dsimp only at hG
                  obtain ⟨s28, g28, hG⟩ := gb_s hG
                  have x28 := ih _ _ _ _ _ _ _ _ _ _ s28 (by omega) (by omega) g28 M (by first | omega | (simp only [bNode_1, bNode_p, bSet_1, bSet_p, bOver_1, bOver_p, bWrap_1, bWrap_p, bKeep_1, bKeep_p, bSlot_1, bSlot_p]; omega)) hm1 (trivial)
                  obtain ⟨a28, b28, c28, d28, e28, f28, h28, i28⟩ := (x28.1 : Mo n _ _ _ s28)
                  have j28 := x28.2
                  have j28 : M ≤ s28.2.2.2.1 ∧ s28.2.2.2.1 < s28.2.2.2.2.1.1 := j28
                  try simp only [bNode_1, bNode_p, bSet_1, bSet_p, bOver_1, bOver_p, bWrap_1, bWrap_p, bKeep_1, bKeep_p, bSlot_1, bSlot_p] at a28 b28 c28 d28 e28 f28 h28 i28
                  try dsimp only at hG
                  obtain ⟨w29, t29, hG⟩ := gW_s hG
                  have u29 := tkN_b T n s28.1 (by omega)
                  try dsimp only at hG
                  cases hG
                  exact ⟨(by unfold Mo; simp only [bNode_1, bNode_p, bSet_1, bSet_p, bOver_1, bOver_p, bWrap_1, bWrap_p, bKeep_1, bKeep_p, bSlot_1, bSlot_p]; omega : Mo n b q v _), (by first | omega | (simp only [bNode_1, bNode_p, bSet_1, bSet_p, bOver_1, bOver_p, bWrap_1, bWrap_p, bKeep_1, bKeep_p, bSlot_1, bSlot_p]; omega) : M ≤ _ ∧ _ < _)⟩
                · rw [if_neg y24] at hG
                  obtain ⟨w30, t30, hG⟩ := gW_s hG
                  have u30 := tkN_b T n s23.1 (by omega)
                  try dsimp only at hG
                  obtain ⟨s31, g31, hG⟩ := gb_s hG
                  have x31 := ih _ _ _ _ _ _ _ _ _ _ s31 (by omega) (by omega) g31 M (by first | omega | (simp only [bNode_1, bNode_p, bSet_1, bSet_p, bOver_1, bOver_p, bWrap_1, bWrap_p, bKeep_1, bKeep_p, bSlot_1, bSlot_p]; omega)) hm1 (trivial)
                  obtain ⟨a31, b31, c31, d31, e31, f31, h31, i31⟩ := (x31.1 : Mo n _ _ _ s31)
                  have j31 := x31.2
                  have j31 : M ≤ s31.2.2.2.1 ∧ s31.2.2.2.1 < s31.2.2.2.2.1.1 := j31
                  try simp only [bNode_1, bNode_p, bSet_1, bSet_p, bOver_1, bOver_p, bWrap_1, bWrap_p, bKeep_1, bKeep_p, bSlot_1, bSlot_p] at a31 b31 c31 d31 e31 f31 h31 i31
                  try dsimp only at hG
                  obtain ⟨w32, t32, hG⟩ := gW_s hG
                  have u32 := tkN_b T n s31.1 (by omega)
                  try dsimp only at hG
                  cases hG
                  exact ⟨(by unfold Mo; simp only [bNode_1, bNode_p, bSet_1, bSet_p, bOver_1, bOver_p, bWrap_1, bWrap_p, bKeep_1, bKeep_p, bSlot_1, bSlot_p]; omega : Mo n b q v _), (by first | omega | (simp only [bNode_1, bNode_p, bSet_1, bSet_p, bOver_1, bOver_p, bWrap_1, bWrap_p, bKeep_1, bKeep_p, bSlot_1, bSlot_p]; omega) : M ≤ _ ∧ _ < _)⟩
              · rw [if_neg y21] at hG
                obtain ⟨s33, g33, hG⟩ := gb_s hG
                have x33 := ih _ _ _ _ _ _ _ _ _ _ s33 (by omega) (by omega) g33 M (by first | omega | (simp only [bNode_1, bNode_p, bSet_1, bSet_p, bOver_1, bOver_p, bWrap_1, bWrap_p, bKeep_1, bKeep_p, bSlot_1, bSlot_p]; omega)) hm1 (trivial)
                obtain ⟨a33, b33, c33, d33, e33, f33, h33, i33⟩ := (x33.1 : Mo n _ _ _ s33)
                have j33 := x33.2
                have j33 : M ≤ s33.2.2.2.1 ∧ s33.2.2.2.1 < s33.2.2.2.2.1.1 := j33
                try simp only [bNode_1, bNode_p, bSet_1, bSet_p, bOver_1, bOver_p, bWrap_1, bWrap_p, bKeep_1, bKeep_p, bSlot_1, bSlot_p] at a33 b33 c33 d33 e33 f33 h33 i33
                try dsimp only at hG
                by_cases y34 : tkK T n s33.1 = 16
                · rw [if_pos y34] at hG
                  obtain ⟨t35, hG⟩ := gT_s hG
                  have u35 := tkN_b T n s33.1 (by omega)
                  try dsimp only at hG
                  obtain ⟨s36, g36, hG⟩ := gb_s hG
                  have x36 := ih _ _ _ _ _ _ _ _ _ _ s36 (by omega) (by omega) g36 M (by first | omega | (simp only [bNode_1, bNode_p, bSet_1, bSet_p, bOver_1, bOver_p, bWrap_1, bWrap_p, bKeep_1, bKeep_p, bSlot_1, bSlot_p]; omega)) hm1 (trivial)
                  obtain ⟨a36, b36, c36, d36, e36, f36, h36, i36⟩ := (x36.1 : Mo n _ _ _ s36)
                  have j36 := x36.2
                  have j36 : M ≤ s36.2.2.2.1 ∧ s36.2.2.2.1 < s36.2.2.2.2.1.1 := j36
                  try simp only [bNode_1, bNode_p, bSet_1, bSet_p, bOver_1, bOver_p, bWrap_1, bWrap_p, bKeep_1, bKeep_p, bSlot_1, bSlot_p] at a36 b36 c36 d36 e36 f36 h36 i36
                  try dsimp only at hG
                  obtain ⟨w37, t37, hG⟩ := gW_s hG
                  have u37 := tkN_b T n s36.1 (by omega)
                  try dsimp only at hG
                  cases hG
                  exact ⟨(by unfold Mo; simp only [bNode_1, bNode_p, bSet_1, bSet_p, bOver_1, bOver_p, bWrap_1, bWrap_p, bKeep_1, bKeep_p, bSlot_1, bSlot_p]; omega : Mo n b q v _), (by first | omega | (simp only [bNode_1, bNode_p, bSet_1, bSet_p, bOver_1, bOver_p, bWrap_1, bWrap_p, bKeep_1, bKeep_p, bSlot_1, bSlot_p]; omega) : M ≤ _ ∧ _ < _)⟩
                · rw [if_neg y34] at hG
                  obtain ⟨s38, g38, hG⟩ := gb_s hG
                  have x38 := ih _ _ _ _ _ _ _ _ _ _ s38 (by omega) (by omega) g38 M (by first | omega | (simp only [bNode_1, bNode_p, bSet_1, bSet_p, bOver_1, bOver_p, bWrap_1, bWrap_p, bKeep_1, bKeep_p, bSlot_1, bSlot_p]; omega)) hm1 ((⟨by omega, by omega, by omega, by omega⟩ : M ≤ _ ∧ _ < _ ∧ M ≤ _ ∧ _ < _))
                  obtain ⟨a38, b38, c38, d38, e38, f38, h38, i38⟩ := (x38.1 : Mo1 n _ _ _ s38)
                  have j38 := x38.2
                  have j38 : M ≤ s38.2.2.2.1 ∧ s38.2.2.2.1 < s38.2.2.2.2.1.1 := j38
                  try simp only [bNode_1, bNode_p, bSet_1, bSet_p, bOver_1, bOver_p, bWrap_1, bWrap_p, bKeep_1, bKeep_p, bSlot_1, bSlot_p] at a38 b38 c38 d38 e38 f38 h38 i38
                  try dsimp only at hG
                  obtain ⟨w39, t39, hG⟩ := gW_s hG
                  have u39 := tkN_b T n s38.1 (by omega)
                  try dsimp only at hG
                  cases hG
                  exact ⟨(by unfold Mo; simp only [bNode_1, bNode_p, bSet_1, bSet_p, bOver_1, bOver_p, bWrap_1, bWrap_p, bKeep_1, bKeep_p, bSlot_1, bSlot_p]; omega : Mo n b q v _), (by first | omega | (simp only [bNode_1, bNode_p, bSet_1, bSet_p, bOver_1, bOver_p, bWrap_1, bWrap_p, bKeep_1, bKeep_p, bSlot_1, bSlot_p]; omega) : M ≤ _ ∧ _ < _)⟩
          · rw [if_neg y17] at hG
            by_cases y40 : tkK T n q = 60 ∨ tkK T n q = 61 ∨ tkK T n q = 62
            · rw [if_pos y40] at hG
              obtain ⟨t41, hG⟩ := gT_s hG
              have u41 := tkN_b T n q (by omega)
              try dsimp only at hG
              cases hG
              exact ⟨(by unfold Mo; simp only [bNode_1, bNode_p, bSet_1, bSet_p, bOver_1, bOver_p, bWrap_1, bWrap_p, bKeep_1, bKeep_p, bSlot_1, bSlot_p]; omega : Mo n b q v _), (by first | omega | (simp only [bNode_1, bNode_p, bSet_1, bSet_p, bOver_1, bOver_p, bWrap_1, bWrap_p, bKeep_1, bKeep_p, bSlot_1, bSlot_p]; omega) : M ≤ _ ∧ _ < _)⟩
            · rw [if_neg y40] at hG
              by_cases y42 : tkK T n q = 69 ∨ tkK T n q = 70
              · rw [if_pos y42] at hG
                obtain ⟨_, hG⟩ := gO_s hG
                obtain ⟨t43, hG⟩ := gT_s hG
                have u43 := tkN_b T n q (by omega)
                try dsimp only at hG
                obtain ⟨s44, g44, hG⟩ := gb_s hG
                have x44 := ih _ _ _ _ _ _ _ _ _ _ s44 (by omega) (by omega) g44 M (by first | omega | (simp only [bNode_1, bNode_p, bSet_1, bSet_p, bOver_1, bOver_p, bWrap_1, bWrap_p, bKeep_1, bKeep_p, bSlot_1, bSlot_p]; omega)) hm1 (Or.inl rfl)
                obtain ⟨a44, b44, c44, d44, e44, f44, h44, i44⟩ := (x44.1 : Mo n _ _ _ s44)
                have j44 := x44.2
                have j44 : M ≤ s44.2.2.2.1 ∧ s44.2.2.2.1 < s44.2.2.2.2.1.1 := j44
                try simp only [bNode_1, bNode_p, bSet_1, bSet_p, bOver_1, bOver_p, bWrap_1, bWrap_p, bKeep_1, bKeep_p, bSlot_1, bSlot_p] at a44 b44 c44 d44 e44 f44 h44 i44
                try dsimp only at hG
                obtain ⟨w45, t45, hG⟩ := gW_s hG
                have u45 := tkN_b T n s44.1 (by omega)
                try dsimp only at hG
                obtain ⟨s46, g46, hG⟩ := gb_s hG
                have x46 := ih _ _ _ _ _ _ _ _ _ _ s46 (by omega) (by omega) g46 M (by first | omega | (simp only [bNode_1, bNode_p, bSet_1, bSet_p, bOver_1, bOver_p, bWrap_1, bWrap_p, bKeep_1, bKeep_p, bSlot_1, bSlot_p]; omega)) hm1 (trivial)
                obtain ⟨a46, b46, c46, d46, e46, f46, h46, i46⟩ := (x46.1 : Mo n _ _ _ s46)
                have j46 := x46.2
                have j46 : M ≤ s46.2.2.2.1 ∧ s46.2.2.2.1 < s46.2.2.2.2.1.1 := j46
                try simp only [bNode_1, bNode_p, bSet_1, bSet_p, bOver_1, bOver_p, bWrap_1, bWrap_p, bKeep_1, bKeep_p, bSlot_1, bSlot_p] at a46 b46 c46 d46 e46 f46 h46 i46
                try dsimp only at hG
                cases hG
                exact ⟨(by unfold Mo; simp only [bNode_1, bNode_p, bSet_1, bSet_p, bOver_1, bOver_p, bWrap_1, bWrap_p, bKeep_1, bKeep_p, bSlot_1, bSlot_p]; omega : Mo n b q v _), (by first | omega | (simp only [bNode_1, bNode_p, bSet_1, bSet_p, bOver_1, bOver_p, bWrap_1, bWrap_p, bKeep_1, bKeep_p, bSlot_1, bSlot_p]; omega) : M ≤ _ ∧ _ < _)⟩
              · rw [if_neg y42] at hG
                by_cases y47 : tkK T n q = 39
                · rw [if_pos y47] at hG
                  obtain ⟨_, hG⟩ := gO_s hG
                  obtain ⟨t48, hG⟩ := gT_s hG
                  have u48 := tkN_b T n q (by omega)
                  try dsimp only at hG
                  obtain ⟨s49, g49, hG⟩ := gb_s hG
                  have x49 := ih _ _ _ _ _ _ _ _ _ _ s49 (by omega) (by omega) g49 M (by first | omega | (simp only [bNode_1, bNode_p, bSet_1, bSet_p, bOver_1, bOver_p, bWrap_1, bWrap_p, bKeep_1, bKeep_p, bSlot_1, bSlot_p]; omega)) hm1 (trivial)
                  obtain ⟨a49, b49, c49, d49, e49, f49, h49, i49⟩ := (x49.1 : Mo n _ _ _ s49)
                  have j49 := x49.2
                  have j49 : M ≤ s49.2.2.2.1 ∧ s49.2.2.2.1 < s49.2.2.2.2.1.1 := j49
                  try simp only [bNode_1, bNode_p, bSet_1, bSet_p, bOver_1, bOver_p, bWrap_1, bWrap_p, bKeep_1, bKeep_p, bSlot_1, bSlot_p] at a49 b49 c49 d49 e49 f49 h49 i49
                  try dsimp only at hG
                  obtain ⟨w50, t50, hG⟩ := gW_s hG
                  have u50 := tkN_b T n s49.1 (by omega)
                  try dsimp only at hG
                  obtain ⟨s51, g51, hG⟩ := gb_s hG
                  have x51 := ih _ _ _ _ _ _ _ _ _ _ s51 (by omega) (by omega) g51 M (by first | omega | (simp only [bNode_1, bNode_p, bSet_1, bSet_p, bOver_1, bOver_p, bWrap_1, bWrap_p, bKeep_1, bKeep_p, bSlot_1, bSlot_p]; omega)) hm1 (trivial)
                  obtain ⟨a51, b51, c51, d51, e51, f51, h51, i51⟩ := (x51.1 : Mo n _ _ _ s51)
                  have j51 := x51.2
                  have j51 : M ≤ s51.2.2.2.1 ∧ s51.2.2.2.1 < s51.2.2.2.2.1.1 := j51
                  try simp only [bNode_1, bNode_p, bSet_1, bSet_p, bOver_1, bOver_p, bWrap_1, bWrap_p, bKeep_1, bKeep_p, bSlot_1, bSlot_p] at a51 b51 c51 d51 e51 f51 h51 i51
                  try dsimp only at hG
                  obtain ⟨s52, g52, hG⟩ := gb_s hG
                  have x52 := ih _ _ _ _ _ _ _ _ _ _ s52 (by omega) (by omega) g52 M (by first | omega | (simp only [bNode_1, bNode_p, bSet_1, bSet_p, bOver_1, bOver_p, bWrap_1, bWrap_p, bKeep_1, bKeep_p, bSlot_1, bSlot_p]; omega)) hm1 ((⟨by omega, by first | omega | (simp only [bNode_1, bNode_p, bSet_1, bSet_p, bOver_1, bOver_p, bWrap_1, bWrap_p, bKeep_1, bKeep_p, bSlot_1, bSlot_p]; omega)⟩ : M ≤ _ ∧ _ < _))
                  obtain ⟨a52, b52, c52, d52, e52, f52, h52, i52⟩ := (x52.1 : Mo n _ _ _ s52)
                  have j52 := x52.2
                  have j52 : M ≤ s52.2.2.2.1 ∧ s52.2.2.2.1 < s52.2.2.2.2.1.1 := j52
                  try simp only [bNode_1, bNode_p, bSet_1, bSet_p, bOver_1, bOver_p, bWrap_1, bWrap_p, bKeep_1, bKeep_p, bSlot_1, bSlot_p] at a52 b52 c52 d52 e52 f52 h52 i52
                  try dsimp only at hG
                  obtain ⟨w53, t53, hG⟩ := gW_s hG
                  have u53 := tkN_b T n s52.1 (by omega)
                  try dsimp only at hG
                  obtain ⟨s54, g54, hG⟩ := gb_s hG
                  have x54 := ih _ _ _ _ _ _ _ _ _ _ s54 (by omega) (by omega) g54 M (by first | omega | (simp only [bNode_1, bNode_p, bSet_1, bSet_p, bOver_1, bOver_p, bWrap_1, bWrap_p, bKeep_1, bKeep_p, bSlot_1, bSlot_p]; omega)) hm1 (trivial)
                  obtain ⟨a54, b54, c54, d54, e54, f54, h54, i54⟩ := (x54.1 : Mo n _ _ _ s54)
                  have j54 := x54.2
                  have j54 : M ≤ s54.2.2.2.1 ∧ s54.2.2.2.1 < s54.2.2.2.2.1.1 := j54
                  try simp only [bNode_1, bNode_p, bSet_1, bSet_p, bOver_1, bOver_p, bWrap_1, bWrap_p, bKeep_1, bKeep_p, bSlot_1, bSlot_p] at a54 b54 c54 d54 e54 f54 h54 i54
                  try dsimp only at hG
                  obtain ⟨w55, t55, hG⟩ := gW_s hG
                  have u55 := tkN_b T n s54.1 (by omega)
                  try dsimp only at hG
                  cases hG
                  exact ⟨(by unfold Mo; simp only [bNode_1, bNode_p, bSet_1, bSet_p, bOver_1, bOver_p, bWrap_1, bWrap_p, bKeep_1, bKeep_p, bSlot_1, bSlot_p]; omega : Mo n b q v _), (by first | omega | (simp only [bNode_1, bNode_p, bSet_1, bSet_p, bOver_1, bOver_p, bWrap_1, bWrap_p, bKeep_1, bKeep_p, bSlot_1, bSlot_p]; omega) : M ≤ _ ∧ _ < _)⟩
                · rw [if_neg y47] at hG
                  by_cases y56 : tkK T n q = 83 ∧ E.2.2.2.2.1 = true
                  · rw [if_pos y56] at hG
                    obtain ⟨t57, hG⟩ := gT_s hG
                    have u57 := tkN_b T n q (by omega)
                    try dsimp only at hG
                    cases hG
                    exact ⟨(by unfold Mo; simp only [bNode_1, bNode_p, bSet_1, bSet_p, bOver_1, bOver_p, bWrap_1, bWrap_p, bKeep_1, bKeep_p, bSlot_1, bSlot_p]; omega : Mo n b q v _), (by first | omega | (simp only [bNode_1, bNode_p, bSet_1, bSet_p, bOver_1, bOver_p, bWrap_1, bWrap_p, bKeep_1, bKeep_p, bSlot_1, bSlot_p]; omega) : M ≤ _ ∧ _ < _)⟩
                  · rw [if_neg y56] at hG
                    by_cases y58 : isFn (tkK T n q) E.2.2.2.2.2.1
                    · rw [if_pos y58] at hG
                      obtain ⟨t59, hG⟩ := gT_s hG
                      have u59 := tkN_b T n q (by omega)
                      try dsimp only at hG
                      by_cases y60 : tkK T n (tkN T n q) = 6
                      · rw [if_pos y60] at hG
                        obtain ⟨_, hG⟩ := gO_s hG
                        obtain ⟨t61, hG⟩ := gT_s hG
                        have u61 := tkN_b T n (tkN T n q) (by omega)
                        try dsimp only at hG
                        obtain ⟨s62, g62, hG⟩ := gb_s hG
                        have x62 := ih _ _ _ _ _ _ _ _ _ _ s62 (by omega) (by omega) g62 M (by first | omega | (simp only [bNode_1, bNode_p, bSet_1, bSet_p, bOver_1, bOver_p, bWrap_1, bWrap_p, bKeep_1, bKeep_p, bSlot_1, bSlot_p]; omega)) hm1 (trivial)
                        obtain ⟨a62, b62, c62, d62, e62, f62, h62, i62⟩ := (x62.1 : Mo n _ _ _ s62)
                        have j62 := x62.2
                        have j62 : M ≤ s62.2.2.2.1 ∧ s62.2.2.2.1 < s62.2.2.2.2.1.1 := j62
                        try simp only [bNode_1, bNode_p, bSet_1, bSet_p, bOver_1, bOver_p, bWrap_1, bWrap_p, bKeep_1, bKeep_p, bSlot_1, bSlot_p] at a62 b62 c62 d62 e62 f62 h62 i62
                        try dsimp only at hG
                        obtain ⟨w63, t63, hG⟩ := gW_s hG
                        have u63 := tkN_b T n s62.1 (by omega)
                        try dsimp only at hG
                        cases hG
                        exact ⟨(by unfold Mo; simp only [bNode_1, bNode_p, bSet_1, bSet_p, bOver_1, bOver_p, bWrap_1, bWrap_p, bKeep_1, bKeep_p, bSlot_1, bSlot_p]; omega : Mo n b q v _), (by first | omega | (simp only [bNode_1, bNode_p, bSet_1, bSet_p, bOver_1, bOver_p, bWrap_1, bWrap_p, bKeep_1, bKeep_p, bSlot_1, bSlot_p]; omega) : M ≤ _ ∧ _ < _)⟩
                      · rw [if_neg y60] at hG
                        cases hG
                    · rw [if_neg y58] at hG
                      cases hG
theorem gm_14 {T : Nat → Int32} {n f : Nat} (ih : GM T n f) {E : En} {o q v i e c g : Nat} {b : BT} {r : RT} (hq : q ≤ n) (hv : v ≤ 60) (hG : G T n (f + 1) 14 E o q v i e c g b = some (Sum.inr r)) {M : Nat} (hM : M ≤ b.1) (hm1 : 1 ≤ M) (hN : Nd0 14 M b i e c) : MoN 14 n b q v r ∧ Nd1 14 M r := by
  rw [G_14] at hG
  have hN : c = 0 ∨ (M ≤ i ∧ i < b.1 ∧ M ≤ e ∧ e < b.1) := hN
  by_cases y1 : c = 0
  · rw [if_pos y1] at hG
    by_cases y2 : tkK T n q = 7
    · rw [if_pos y2] at hG
      cases hG
      exact ⟨(by unfold Mo; dsimp only; omega : Mo n b q v _), Or.inl ⟨rfl, rfl⟩⟩
    · rw [if_neg y2] at hG
      obtain ⟨s3, g3, hG⟩ := gb_s hG
      have x3 := ih _ _ _ _ _ _ _ _ _ _ s3 (by omega) (by omega) g3 M (by first | omega | (simp only [bNode_1, bNode_p, bSet_1, bSet_p, bOver_1, bOver_p, bWrap_1, bWrap_p, bKeep_1, bKeep_p, bSlot_1, bSlot_p]; omega)) hm1 (trivial)
      obtain ⟨a3, b3, c3, d3, e3, f3, h3, i3⟩ := (x3.1 : Mo n _ _ _ s3)
      have j3 := x3.2
      have j3 : M ≤ s3.2.2.2.1 ∧ s3.2.2.2.1 < s3.2.2.2.2.1.1 := j3
      try simp only [bNode_1, bNode_p, bSet_1, bSet_p, bOver_1, bOver_p, bWrap_1, bWrap_p, bKeep_1, bKeep_p, bSlot_1, bSlot_p] at a3 b3 c3 d3 e3 f3 h3 i3
      try dsimp only at hG
      have x4 := ih _ _ _ _ _ _ _ _ _ _ r (by omega) (by omega) hG M (by first | omega | (simp only [bNode_1, bNode_p, bSet_1, bSet_p, bOver_1, bOver_p, bWrap_1, bWrap_p, bKeep_1, bKeep_p, bSlot_1, bSlot_p]; omega)) hm1 (Or.inr ⟨by omega, by omega, by omega, by omega⟩)
      obtain ⟨a4, b4, c4, d4, e4, f4, h4, i4⟩ := (x4.1 : Mo n _ _ _ r)
      have j4 := x4.2
      have j4 : (r.2.2.1 = 0 ∧ r.2.2.2.1 = 0) ∨ (M ≤ r.2.2.2.1 ∧ r.2.2.2.1 < r.2.2.2.2.1.1) := j4
      try simp only [bNode_1, bNode_p, bSet_1, bSet_p, bOver_1, bOver_p, bWrap_1, bWrap_p, bKeep_1, bKeep_p, bSlot_1, bSlot_p] at a4 b4 c4 d4 e4 f4 h4 i4
      exact ⟨(by unfold Mo; omega : Mo n b q v r), j4⟩
  · rw [if_neg y1] at hG
    by_cases y5 : tkK T n q = 12
    · rw [if_pos y5] at hG
      obtain ⟨t6, hG⟩ := gT_s hG
      have u6 := tkN_b T n q (by omega)
      try dsimp only at hG
      obtain ⟨s7, g7, hG⟩ := gb_s hG
      have x7 := ih _ _ _ _ _ _ _ _ _ _ s7 (by omega) (by omega) g7 M (by first | omega | (simp only [bNode_1, bNode_p, bSet_1, bSet_p, bOver_1, bOver_p, bWrap_1, bWrap_p, bKeep_1, bKeep_p, bSlot_1, bSlot_p]; omega)) hm1 (trivial)
      obtain ⟨a7, b7, c7, d7, e7, f7, h7, i7⟩ := (x7.1 : Mo n _ _ _ s7)
      have j7 := x7.2
      have j7 : M ≤ s7.2.2.2.1 ∧ s7.2.2.2.1 < s7.2.2.2.2.1.1 := j7
      try simp only [bNode_1, bNode_p, bSet_1, bSet_p, bOver_1, bOver_p, bWrap_1, bWrap_p, bKeep_1, bKeep_p, bSlot_1, bSlot_p] at a7 b7 c7 d7 e7 f7 h7 i7
      try dsimp only at hG
      have x8 := ih _ _ _ _ _ _ _ _ _ _ r (by omega) (by omega) hG M (by first | omega | (simp only [bNode_1, bNode_p, bSet_1, bSet_p, bOver_1, bOver_p, bWrap_1, bWrap_p, bKeep_1, bKeep_p, bSlot_1, bSlot_p]; omega)) hm1 (Or.inr ⟨by omega, by first | omega | (simp only [bNode_1, bNode_p, bSet_1, bSet_p, bOver_1, bOver_p, bWrap_1, bWrap_p, bKeep_1, bKeep_p, bSlot_1, bSlot_p]; omega), by omega, by first | omega | (simp only [bNode_1, bNode_p, bSet_1, bSet_p, bOver_1, bOver_p, bWrap_1, bWrap_p, bKeep_1, bKeep_p, bSlot_1, bSlot_p]; omega)⟩)
      obtain ⟨a8, b8, c8, d8, e8, f8, h8, i8⟩ := (x8.1 : Mo n _ _ _ r)
      have j8 := x8.2
      have j8 : (r.2.2.1 = 0 ∧ r.2.2.2.1 = 0) ∨ (M ≤ r.2.2.2.1 ∧ r.2.2.2.1 < r.2.2.2.2.1.1) := j8
      try simp only [bNode_1, bNode_p, bSet_1, bSet_p, bOver_1, bOver_p, bWrap_1, bWrap_p, bKeep_1, bKeep_p, bSlot_1, bSlot_p] at a8 b8 c8 d8 e8 f8 h8 i8
      exact ⟨(by unfold Mo; omega : Mo n b q v r), j8⟩
    · rw [if_neg y5] at hG
      cases hG
      exact ⟨(by unfold Mo; dsimp only; omega : Mo n b q v _), Or.inr (by dsimp only; omega)⟩
theorem gm_15 {T : Nat → Int32} {n f : Nat} (ih : GM T n f) {E : En} {o q v i e c g : Nat} {b : BT} {r : RT} (hq : q ≤ n) (hv : v ≤ 60) (hG : G T n (f + 1) 15 E o q v i e c g b = some (Sum.inr r)) {M : Nat} (hM : M ≤ b.1) (hm1 : 1 ≤ M) (hN : Nd0 15 M b i e c) : MoN 15 n b q v r ∧ Nd1 15 M r := by
  rw [G_15] at hG
  have hN : M ≤ i ∧ i < b.1 ∧ M ≤ e ∧ e < b.1 := hN
  by_cases y1 : tkK T n q = 12
  · rw [if_pos y1] at hG
    obtain ⟨t2, hG⟩ := gT_s hG
    have u2 := tkN_b T n q (by omega)
    try dsimp only at hG
    obtain ⟨s3, g3, hG⟩ := gb_s hG
    have x3 := ih _ _ _ _ _ _ _ _ _ _ s3 (by omega) (by omega) g3 M (by first | omega | (simp only [bNode_1, bNode_p, bSet_1, bSet_p, bOver_1, bOver_p, bWrap_1, bWrap_p, bKeep_1, bKeep_p, bSlot_1, bSlot_p]; omega)) hm1 (trivial)
    obtain ⟨a3, b3, c3, d3, e3, f3, h3, i3⟩ := (x3.1 : Mo n _ _ _ s3)
    have j3 := x3.2
    have j3 : M ≤ s3.2.2.2.1 ∧ s3.2.2.2.1 < s3.2.2.2.2.1.1 := j3
    try simp only [bNode_1, bNode_p, bSet_1, bSet_p, bOver_1, bOver_p, bWrap_1, bWrap_p, bKeep_1, bKeep_p, bSlot_1, bSlot_p] at a3 b3 c3 d3 e3 f3 h3 i3
    try dsimp only at hG
    by_cases y4 : c = 1 ∧ tkK T n s3.1 = 16
    · rw [if_pos y4] at hG
      obtain ⟨t5, hG⟩ := gT_s hG
      have u5 := tkN_b T n s3.1 (by omega)
      try dsimp only at hG
      obtain ⟨s6, g6, hG⟩ := gb_s hG
      have x6 := ih _ _ _ _ _ _ _ _ _ _ s6 (by omega) (by omega) g6 M (by first | omega | (simp only [bNode_1, bNode_p, bSet_1, bSet_p, bOver_1, bOver_p, bWrap_1, bWrap_p, bKeep_1, bKeep_p, bSlot_1, bSlot_p]; omega)) hm1 (trivial)
      obtain ⟨a6, b6, c6, d6, e6, f6, h6, i6⟩ := (x6.1 : Mo n _ _ _ s6)
      have j6 := x6.2
      have j6 : M ≤ s6.2.2.2.1 ∧ s6.2.2.2.1 < s6.2.2.2.2.1.1 := j6
      try simp only [bNode_1, bNode_p, bSet_1, bSet_p, bOver_1, bOver_p, bWrap_1, bWrap_p, bKeep_1, bKeep_p, bSlot_1, bSlot_p] at a6 b6 c6 d6 e6 f6 h6 i6
      try dsimp only at hG
      cases hG
      exact ⟨(by unfold Mo1; simp only [bNode_1, bNode_p, bSet_1, bSet_p, bOver_1, bOver_p, bWrap_1, bWrap_p, bKeep_1, bKeep_p, bSlot_1, bSlot_p]; omega : Mo1 n b q v _), (by first | omega | (simp only [bNode_1, bNode_p, bSet_1, bSet_p, bOver_1, bOver_p, bWrap_1, bWrap_p, bKeep_1, bKeep_p, bSlot_1, bSlot_p]; omega) : M ≤ _ ∧ _ < _)⟩
    · rw [if_neg y4] at hG
      have x7 := ih _ _ _ _ _ _ _ _ _ _ r (by omega) (by omega) hG M (by first | omega | (simp only [bNode_1, bNode_p, bSet_1, bSet_p, bOver_1, bOver_p, bWrap_1, bWrap_p, bKeep_1, bKeep_p, bSlot_1, bSlot_p]; omega)) hm1 ((⟨by omega, by first | omega | (simp only [bNode_1, bNode_p, bSet_1, bSet_p, bOver_1, bOver_p, bWrap_1, bWrap_p, bKeep_1, bKeep_p, bSlot_1, bSlot_p]; omega), by omega, by first | omega | (simp only [bNode_1, bNode_p, bSet_1, bSet_p, bOver_1, bOver_p, bWrap_1, bWrap_p, bKeep_1, bKeep_p, bSlot_1, bSlot_p]; omega)⟩ : M ≤ _ ∧ _ < _ ∧ M ≤ _ ∧ _ < _))
      obtain ⟨a7, b7, c7, d7, e7, f7, h7, i7⟩ := (x7.1 : Mo1 n _ _ _ r)
      have j7 := x7.2
      have j7 : M ≤ r.2.2.2.1 ∧ r.2.2.2.1 < r.2.2.2.2.1.1 := j7
      try simp only [bNode_1, bNode_p, bSet_1, bSet_p, bOver_1, bOver_p, bWrap_1, bWrap_p, bKeep_1, bKeep_p, bSlot_1, bSlot_p] at a7 b7 c7 d7 e7 f7 h7 i7
      exact ⟨(by unfold Mo1; omega : Mo1 n b q v r), j7⟩
  · rw [if_neg y1] at hG
    cases hG
    exact ⟨(by unfold Mo1; simp only [bNode_1, bNode_p, bSet_1, bSet_p, bOver_1, bOver_p, bWrap_1, bWrap_p, bKeep_1, bKeep_p, bSlot_1, bSlot_p]; omega : Mo1 n b q v _), (by first | omega | (simp only [bNode_1, bNode_p, bSet_1, bSet_p, bOver_1, bOver_p, bWrap_1, bWrap_p, bKeep_1, bKeep_p, bSlot_1, bSlot_p]; omega) : M ≤ _ ∧ _ < _)⟩
theorem gm_16 {T : Nat → Int32} {n f : Nat} (ih : GM T n f) {E : En} {o q v i e c g : Nat} {b : BT} {r : RT} (hq : q ≤ n) (hv : v ≤ 60) (hG : G T n (f + 1) 16 E o q v i e c g b = some (Sum.inr r)) {M : Nat} (hM : M ≤ b.1) (hm1 : 1 ≤ M) (hN : Nd0 16 M b i e c) : MoN 16 n b q v r ∧ Nd1 16 M r := by
  rw [G_16] at hG
  have hN : M ≤ e ∧ e < b.1 := hN
  by_cases y1 : tkK T n q = 41
  · rw [if_pos y1] at hG
    obtain ⟨t2, hG⟩ := gT_s hG
    have u2 := tkN_b T n q (by omega)
    try dsimp only at hG
    obtain ⟨s3, g3, hG⟩ := gb_s hG
    have x3 := ih _ _ _ _ _ _ _ _ _ _ s3 (by omega) (by omega) g3 M (by first | omega | (simp only [bNode_1, bNode_p, bSet_1, bSet_p, bOver_1, bOver_p, bWrap_1, bWrap_p, bKeep_1, bKeep_p, bSlot_1, bSlot_p]; omega)) hm1 (trivial)
    obtain ⟨a3, b3, c3, d3, e3, f3, h3, i3⟩ := (x3.1 : Mo n _ _ _ s3)
    have j3 := x3.2
    have j3 : M ≤ s3.2.2.2.1 ∧ s3.2.2.2.1 < s3.2.2.2.2.1.1 := j3
    try simp only [bNode_1, bNode_p, bSet_1, bSet_p, bOver_1, bOver_p, bWrap_1, bWrap_p, bKeep_1, bKeep_p, bSlot_1, bSlot_p] at a3 b3 c3 d3 e3 f3 h3 i3
    try dsimp only at hG
    obtain ⟨w4, t4, hG⟩ := gW_s hG
    have u4 := tkN_b T n s3.1 (by omega)
    try dsimp only at hG
    obtain ⟨s5, g5, hG⟩ := gb_s hG
    have x5 := ih _ _ _ _ _ _ _ _ _ _ s5 (by omega) (by omega) g5 M (by first | omega | (simp only [bNode_1, bNode_p, bSet_1, bSet_p, bOver_1, bOver_p, bWrap_1, bWrap_p, bKeep_1, bKeep_p, bSlot_1, bSlot_p]; omega)) hm1 (trivial)
    obtain ⟨a5, b5, c5, d5, e5, f5, h5, i5⟩ := (x5.1 : Mo n _ _ _ s5)
    have j5 := x5.2
    have j5 : M ≤ s5.2.2.2.1 ∧ s5.2.2.2.1 < s5.2.2.2.2.1.1 := j5
    try simp only [bNode_1, bNode_p, bSet_1, bSet_p, bOver_1, bOver_p, bWrap_1, bWrap_p, bKeep_1, bKeep_p, bSlot_1, bSlot_p] at a5 b5 c5 d5 e5 f5 h5 i5
    try dsimp only at hG
    have x6 := ih _ _ _ _ _ _ _ _ _ _ r (by omega) (by omega) hG M (by first | omega | (simp only [bNode_1, bNode_p, bSet_1, bSet_p, bOver_1, bOver_p, bWrap_1, bWrap_p, bKeep_1, bKeep_p, bSlot_1, bSlot_p]; omega)) hm1 ((⟨by omega, by first | omega | (simp only [bNode_1, bNode_p, bSet_1, bSet_p, bOver_1, bOver_p, bWrap_1, bWrap_p, bKeep_1, bKeep_p, bSlot_1, bSlot_p]; omega)⟩ : M ≤ _ ∧ _ < _))
    obtain ⟨a6, b6, c6, d6, e6, f6, h6, i6⟩ := (x6.1 : Mo n _ _ _ r)
    have j6 := x6.2
    have j6 : M ≤ r.2.2.2.1 ∧ r.2.2.2.1 < r.2.2.2.2.1.1 := j6
    try simp only [bNode_1, bNode_p, bSet_1, bSet_p, bOver_1, bOver_p, bWrap_1, bWrap_p, bKeep_1, bKeep_p, bSlot_1, bSlot_p] at a6 b6 c6 d6 e6 f6 h6 i6
    exact ⟨(by unfold Mo; omega : Mo n b q v r), j6⟩
  · rw [if_neg y1] at hG
    cases hG
    exact ⟨(by unfold Mo; simp only [bNode_1, bNode_p, bSet_1, bSet_p, bOver_1, bOver_p, bWrap_1, bWrap_p, bKeep_1, bKeep_p, bSlot_1, bSlot_p]; omega : Mo n b q v _), (by first | omega | (simp only [bNode_1, bNode_p, bSet_1, bSet_p, bOver_1, bOver_p, bWrap_1, bWrap_p, bKeep_1, bKeep_p, bSlot_1, bSlot_p]; omega) : M ≤ _ ∧ _ < _)⟩
theorem gm_17 {T : Nat → Int32} {n f : Nat} (ih : GM T n f) {E : En} {o q v i e c g : Nat} {b : BT} {r : RT} (hq : q ≤ n) (hv : v ≤ 60) (hG : G T n (f + 1) 17 E o q v i e c g b = some (Sum.inr r)) {M : Nat} (hM : M ≤ b.1) (hm1 : 1 ≤ M) (hN : Nd0 17 M b i e c) : MoN 17 n b q v r ∧ Nd1 17 M r := by
  rw [G_17] at hG
  have hN : i = 0 ∨ (M ≤ i ∧ i < b.1 ∧ M ≤ e ∧ e < b.1) := hN
  by_cases y1 : tkK T n q = 10
  · rw [if_pos y1] at hG
    obtain ⟨_, hG⟩ := gO_s hG
    obtain ⟨t2, hG⟩ := gT_s hG
    have u2 := tkN_b T n q (by omega)
    try dsimp only at hG
    obtain ⟨w3, v3, hG⟩ := gN_s hG
    have u3 := tkN_b T n (tkN T n q) (by omega)
    have z3 := tkE_b T n (tkN T n q) (by omega)
    try dsimp only at hG
    obtain ⟨s4, g4, hG⟩ := gb_s hG
    have x4 := ih _ _ _ _ _ _ _ _ _ _ s4 (by omega) (by omega) g4 M (by first | omega | (simp only [bNode_1, bNode_p, bSet_1, bSet_p, bOver_1, bOver_p, bWrap_1, bWrap_p, bKeep_1, bKeep_p, bSlot_1, bSlot_p]; omega)) hm1 (trivial)
    obtain ⟨a4, b4, c4, d4, e4, f4, h4, i4⟩ := (x4.1 : Mo n _ _ _ s4)
    have j4 := x4.2
    try simp only [bNode_1, bNode_p, bSet_1, bSet_p, bOver_1, bOver_p, bWrap_1, bWrap_p, bKeep_1, bKeep_p, bSlot_1, bSlot_p] at a4 b4 c4 d4 e4 f4 h4 i4
    try dsimp only at hG
    obtain ⟨w5, t5, hG⟩ := gW_s hG
    have u5 := tkN_b T n s4.1 (by omega)
    try dsimp only at hG
    obtain ⟨w6, t6, hG⟩ := gW_s hG
    have u6 := tkN_b T n (tkN T n s4.1) (by omega)
    try dsimp only at hG
    obtain ⟨s7, g7, hG⟩ := gb_s hG
    have x7 := ih _ _ _ _ _ _ _ _ _ _ s7 (by omega) (by omega) g7 M (by first | omega | (simp only [bNode_1, bNode_p, bSet_1, bSet_p, bOver_1, bOver_p, bWrap_1, bWrap_p, bKeep_1, bKeep_p, bSlot_1, bSlot_p]; omega)) hm1 (trivial)
    obtain ⟨a7, b7, c7, d7, e7, f7, h7, i7⟩ := (x7.1 : Mo n _ _ _ s7)
    have j7 := x7.2
    have j7 : M ≤ s7.2.2.2.1 ∧ s7.2.2.2.1 < s7.2.2.2.2.1.1 := j7
    try simp only [bNode_1, bNode_p, bSet_1, bSet_p, bOver_1, bOver_p, bWrap_1, bWrap_p, bKeep_1, bKeep_p, bSlot_1, bSlot_p] at a7 b7 c7 d7 e7 f7 h7 i7
    try dsimp only at hG
    by_cases hi : i = 0
    · simp only [if_pos hi] at hG
      by_cases y8 : tkK T n s7.1 = 12
      · rw [if_pos y8] at hG
        obtain ⟨t9, hG⟩ := gT_s hG
        have u9 := tkN_b T n s7.1 (by omega)
        try dsimp only at hG
        obtain ⟨s10, g10, hG⟩ := gb_s hG
        have x10 := ih _ _ _ _ _ _ _ _ _ _ s10 (by omega) (by omega) g10 M (by first | omega | (simp only [bNode_1, bNode_p, bSet_1, bSet_p, bOver_1, bOver_p, bWrap_1, bWrap_p, bKeep_1, bKeep_p, bSlot_1, bSlot_p]; omega)) hm1 (Or.inr ⟨by first | omega | (simp only [bNode_1, bNode_p, bSet_1, bSet_p, bOver_1, bOver_p, bWrap_1, bWrap_p, bKeep_1, bKeep_p, bSlot_1, bSlot_p]; omega), by first | omega | (simp only [bNode_1, bNode_p, bSet_1, bSet_p, bOver_1, bOver_p, bWrap_1, bWrap_p, bKeep_1, bKeep_p, bSlot_1, bSlot_p]; omega), by first | omega | (simp only [bNode_1, bNode_p, bSet_1, bSet_p, bOver_1, bOver_p, bWrap_1, bWrap_p, bKeep_1, bKeep_p, bSlot_1, bSlot_p]; omega), by first | omega | (simp only [bNode_1, bNode_p, bSet_1, bSet_p, bOver_1, bOver_p, bWrap_1, bWrap_p, bKeep_1, bKeep_p, bSlot_1, bSlot_p]; omega)⟩)
        obtain ⟨a10, b10, c10, d10, e10, f10, h10, i10⟩ := (x10.1 : Mo n _ _ _ s10)
        have j10 := x10.2
        have j10 : M ≤ s10.2.2.2.1 ∧ s10.2.2.2.1 < s10.2.2.2.2.1.1 := j10
        try simp only [bNode_1, bNode_p, bSet_1, bSet_p, bOver_1, bOver_p, bWrap_1, bWrap_p, bKeep_1, bKeep_p, bSlot_1, bSlot_p] at a10 b10 c10 d10 e10 f10 h10 i10
        try dsimp only at hG
        cases hG
        exact ⟨(by unfold Mo; simp only [bNode_1, bNode_p, bSet_1, bSet_p, bOver_1, bOver_p, bWrap_1, bWrap_p, bKeep_1, bKeep_p, bSlot_1, bSlot_p]; omega : Mo n b q v _), (by first | omega | (simp only [bNode_1, bNode_p, bSet_1, bSet_p, bOver_1, bOver_p, bWrap_1, bWrap_p, bKeep_1, bKeep_p, bSlot_1, bSlot_p]; omega) : M ≤ _ ∧ _ < _)⟩
      · rw [if_neg y8] at hG
        cases hG
        exact ⟨(by unfold Mo; simp only [bNode_1, bNode_p, bSet_1, bSet_p, bOver_1, bOver_p, bWrap_1, bWrap_p, bKeep_1, bKeep_p, bSlot_1, bSlot_p]; omega : Mo n b q v _), (by first | omega | (simp only [bNode_1, bNode_p, bSet_1, bSet_p, bOver_1, bOver_p, bWrap_1, bWrap_p, bKeep_1, bKeep_p, bSlot_1, bSlot_p]; omega) : M ≤ _ ∧ _ < _)⟩
    · simp only [if_neg hi] at hG
      by_cases y11 : tkK T n s7.1 = 12
      · rw [if_pos y11] at hG
        obtain ⟨t12, hG⟩ := gT_s hG
        have u12 := tkN_b T n s7.1 (by omega)
        try dsimp only at hG
        obtain ⟨s13, g13, hG⟩ := gb_s hG
        have x13 := ih _ _ _ _ _ _ _ _ _ _ s13 (by omega) (by omega) g13 M (by first | omega | (simp only [bNode_1, bNode_p, bSet_1, bSet_p, bOver_1, bOver_p, bWrap_1, bWrap_p, bKeep_1, bKeep_p, bSlot_1, bSlot_p]; omega)) hm1 (Or.inr ⟨by omega, by first | omega | (simp only [bNode_1, bNode_p, bSet_1, bSet_p, bOver_1, bOver_p, bWrap_1, bWrap_p, bKeep_1, bKeep_p, bSlot_1, bSlot_p]; omega), by first | omega | (simp only [bNode_1, bNode_p, bSet_1, bSet_p, bOver_1, bOver_p, bWrap_1, bWrap_p, bKeep_1, bKeep_p, bSlot_1, bSlot_p]; omega), by first | omega | (simp only [bNode_1, bNode_p, bSet_1, bSet_p, bOver_1, bOver_p, bWrap_1, bWrap_p, bKeep_1, bKeep_p, bSlot_1, bSlot_p]; omega)⟩)
        obtain ⟨a13, b13, c13, d13, e13, f13, h13, i13⟩ := (x13.1 : Mo n _ _ _ s13)
        have j13 := x13.2
        have j13 : M ≤ s13.2.2.2.1 ∧ s13.2.2.2.1 < s13.2.2.2.2.1.1 := j13
        try simp only [bNode_1, bNode_p, bSet_1, bSet_p, bOver_1, bOver_p, bWrap_1, bWrap_p, bKeep_1, bKeep_p, bSlot_1, bSlot_p] at a13 b13 c13 d13 e13 f13 h13 i13
        try dsimp only at hG
        cases hG
        exact ⟨(by unfold Mo; simp only [bNode_1, bNode_p, bSet_1, bSet_p, bOver_1, bOver_p, bWrap_1, bWrap_p, bKeep_1, bKeep_p, bSlot_1, bSlot_p]; omega : Mo n b q v _), (by first | omega | (simp only [bNode_1, bNode_p, bSet_1, bSet_p, bOver_1, bOver_p, bWrap_1, bWrap_p, bKeep_1, bKeep_p, bSlot_1, bSlot_p]; omega) : M ≤ _ ∧ _ < _)⟩
      · rw [if_neg y11] at hG
        cases hG
        exact ⟨(by unfold Mo; simp only [bNode_1, bNode_p, bSet_1, bSet_p, bOver_1, bOver_p, bWrap_1, bWrap_p, bKeep_1, bKeep_p, bSlot_1, bSlot_p]; omega : Mo n b q v _), (by first | omega | (simp only [bNode_1, bNode_p, bSet_1, bSet_p, bOver_1, bOver_p, bWrap_1, bWrap_p, bKeep_1, bKeep_p, bSlot_1, bSlot_p]; omega) : M ≤ _ ∧ _ < _)⟩
  · rw [if_neg y1] at hG
    obtain ⟨w14, v14, hG⟩ := gN_s hG
    have u14 := tkN_b T n q (by omega)
    have z14 := tkE_b T n q (by omega)
    try dsimp only at hG
    obtain ⟨w15, t15, hG⟩ := gW_s hG
    have u15 := tkN_b T n (tkN T n q) (by omega)
    try dsimp only at hG
    obtain ⟨s16, g16, hG⟩ := gb_s hG
    have x16 := ih _ _ _ _ _ _ _ _ _ _ s16 (by omega) (by omega) g16 M (by first | omega | (simp only [bNode_1, bNode_p, bSet_1, bSet_p, bOver_1, bOver_p, bWrap_1, bWrap_p, bKeep_1, bKeep_p, bSlot_1, bSlot_p]; omega)) hm1 (trivial)
    obtain ⟨a16, b16, c16, d16, e16, f16, h16, i16⟩ := (x16.1 : Mo n _ _ _ s16)
    have j16 := x16.2
    have j16 : M ≤ s16.2.2.2.1 ∧ s16.2.2.2.1 < s16.2.2.2.2.1.1 := j16
    try simp only [bNode_1, bNode_p, bSet_1, bSet_p, bOver_1, bOver_p, bWrap_1, bWrap_p, bKeep_1, bKeep_p, bSlot_1, bSlot_p] at a16 b16 c16 d16 e16 f16 h16 i16
    try dsimp only at hG
    by_cases hi : i = 0
    · simp only [if_pos hi] at hG
      by_cases y17 : tkK T n s16.1 = 12
      · rw [if_pos y17] at hG
        obtain ⟨t18, hG⟩ := gT_s hG
        have u18 := tkN_b T n s16.1 (by omega)
        try dsimp only at hG
        obtain ⟨s19, g19, hG⟩ := gb_s hG
        have x19 := ih _ _ _ _ _ _ _ _ _ _ s19 (by omega) (by omega) g19 M (by first | omega | (simp only [bNode_1, bNode_p, bSet_1, bSet_p, bOver_1, bOver_p, bWrap_1, bWrap_p, bKeep_1, bKeep_p, bSlot_1, bSlot_p]; omega)) hm1 (Or.inr ⟨by first | omega | (simp only [bNode_1, bNode_p, bSet_1, bSet_p, bOver_1, bOver_p, bWrap_1, bWrap_p, bKeep_1, bKeep_p, bSlot_1, bSlot_p]; omega), by first | omega | (simp only [bNode_1, bNode_p, bSet_1, bSet_p, bOver_1, bOver_p, bWrap_1, bWrap_p, bKeep_1, bKeep_p, bSlot_1, bSlot_p]; omega), by first | omega | (simp only [bNode_1, bNode_p, bSet_1, bSet_p, bOver_1, bOver_p, bWrap_1, bWrap_p, bKeep_1, bKeep_p, bSlot_1, bSlot_p]; omega), by first | omega | (simp only [bNode_1, bNode_p, bSet_1, bSet_p, bOver_1, bOver_p, bWrap_1, bWrap_p, bKeep_1, bKeep_p, bSlot_1, bSlot_p]; omega)⟩)
        obtain ⟨a19, b19, c19, d19, e19, f19, h19, i19⟩ := (x19.1 : Mo n _ _ _ s19)
        have j19 := x19.2
        have j19 : M ≤ s19.2.2.2.1 ∧ s19.2.2.2.1 < s19.2.2.2.2.1.1 := j19
        try simp only [bNode_1, bNode_p, bSet_1, bSet_p, bOver_1, bOver_p, bWrap_1, bWrap_p, bKeep_1, bKeep_p, bSlot_1, bSlot_p] at a19 b19 c19 d19 e19 f19 h19 i19
        try dsimp only at hG
        cases hG
        exact ⟨(by unfold Mo; simp only [bNode_1, bNode_p, bSet_1, bSet_p, bOver_1, bOver_p, bWrap_1, bWrap_p, bKeep_1, bKeep_p, bSlot_1, bSlot_p]; omega : Mo n b q v _), (by first | omega | (simp only [bNode_1, bNode_p, bSet_1, bSet_p, bOver_1, bOver_p, bWrap_1, bWrap_p, bKeep_1, bKeep_p, bSlot_1, bSlot_p]; omega) : M ≤ _ ∧ _ < _)⟩
      · rw [if_neg y17] at hG
        cases hG
        exact ⟨(by unfold Mo; simp only [bNode_1, bNode_p, bSet_1, bSet_p, bOver_1, bOver_p, bWrap_1, bWrap_p, bKeep_1, bKeep_p, bSlot_1, bSlot_p]; omega : Mo n b q v _), (by first | omega | (simp only [bNode_1, bNode_p, bSet_1, bSet_p, bOver_1, bOver_p, bWrap_1, bWrap_p, bKeep_1, bKeep_p, bSlot_1, bSlot_p]; omega) : M ≤ _ ∧ _ < _)⟩
    · simp only [if_neg hi] at hG
      by_cases y20 : tkK T n s16.1 = 12
      · rw [if_pos y20] at hG
        obtain ⟨t21, hG⟩ := gT_s hG
        have u21 := tkN_b T n s16.1 (by omega)
        try dsimp only at hG
        obtain ⟨s22, g22, hG⟩ := gb_s hG
        have x22 := ih _ _ _ _ _ _ _ _ _ _ s22 (by omega) (by omega) g22 M (by first | omega | (simp only [bNode_1, bNode_p, bSet_1, bSet_p, bOver_1, bOver_p, bWrap_1, bWrap_p, bKeep_1, bKeep_p, bSlot_1, bSlot_p]; omega)) hm1 (Or.inr ⟨by omega, by first | omega | (simp only [bNode_1, bNode_p, bSet_1, bSet_p, bOver_1, bOver_p, bWrap_1, bWrap_p, bKeep_1, bKeep_p, bSlot_1, bSlot_p]; omega), by first | omega | (simp only [bNode_1, bNode_p, bSet_1, bSet_p, bOver_1, bOver_p, bWrap_1, bWrap_p, bKeep_1, bKeep_p, bSlot_1, bSlot_p]; omega), by first | omega | (simp only [bNode_1, bNode_p, bSet_1, bSet_p, bOver_1, bOver_p, bWrap_1, bWrap_p, bKeep_1, bKeep_p, bSlot_1, bSlot_p]; omega)⟩)
        obtain ⟨a22, b22, c22, d22, e22, f22, h22, i22⟩ := (x22.1 : Mo n _ _ _ s22)
        have j22 := x22.2
        have j22 : M ≤ s22.2.2.2.1 ∧ s22.2.2.2.1 < s22.2.2.2.2.1.1 := j22
        try simp only [bNode_1, bNode_p, bSet_1, bSet_p, bOver_1, bOver_p, bWrap_1, bWrap_p, bKeep_1, bKeep_p, bSlot_1, bSlot_p] at a22 b22 c22 d22 e22 f22 h22 i22
        try dsimp only at hG
        cases hG
        exact ⟨(by unfold Mo; simp only [bNode_1, bNode_p, bSet_1, bSet_p, bOver_1, bOver_p, bWrap_1, bWrap_p, bKeep_1, bKeep_p, bSlot_1, bSlot_p]; omega : Mo n b q v _), (by first | omega | (simp only [bNode_1, bNode_p, bSet_1, bSet_p, bOver_1, bOver_p, bWrap_1, bWrap_p, bKeep_1, bKeep_p, bSlot_1, bSlot_p]; omega) : M ≤ _ ∧ _ < _)⟩
      · rw [if_neg y20] at hG
        cases hG
        exact ⟨(by unfold Mo; simp only [bNode_1, bNode_p, bSet_1, bSet_p, bOver_1, bOver_p, bWrap_1, bWrap_p, bKeep_1, bKeep_p, bSlot_1, bSlot_p]; omega : Mo n b q v _), (by first | omega | (simp only [bNode_1, bNode_p, bSet_1, bSet_p, bOver_1, bOver_p, bWrap_1, bWrap_p, bKeep_1, bKeep_p, bSlot_1, bSlot_p]; omega) : M ≤ _ ∧ _ < _)⟩
theorem gm_18 {T : Nat → Int32} {n f : Nat} (ih : GM T n f) {E : En} {o q v i e c g : Nat} {b : BT} {r : RT} (hq : q ≤ n) (hv : v ≤ 60) (hG : G T n (f + 1) 18 E o q v i e c g b = some (Sum.inr r)) {M : Nat} (hM : M ≤ b.1) (hm1 : 1 ≤ M) (hN : Nd0 18 M b i e c) : MoN 18 n b q v r ∧ Nd1 18 M r := by
  rw [G_18] at hG
  by_cases y1 : tkK T n q = 12
  · rw [if_pos y1] at hG
    obtain ⟨t2, hG⟩ := gT_s hG
    have u2 := tkN_b T n q (by omega)
    try dsimp only at hG
    obtain ⟨w3, v3, hG⟩ := gN_s hG
    have u3 := tkN_b T n (tkN T n q) (by omega)
    have z3 := tkE_b T n (tkN T n q) (by omega)
    try dsimp only at hG
    obtain ⟨s4, g4, hG⟩ := gb_s hG
    have x4 := ih _ _ _ _ _ _ _ _ _ _ s4 (by omega) (by omega) g4 M (by first | omega | (simp only [bNode_1, bNode_p, bSet_1, bSet_p, bOver_1, bOver_p, bWrap_1, bWrap_p, bKeep_1, bKeep_p, bSlot_1, bSlot_p]; omega)) hm1 (trivial)
    obtain ⟨a4, b4, c4, d4, e4, f4, h4, i4⟩ := (x4.1 : Mo n _ _ _ s4)
    have j4 := x4.2
    try simp only [bNode_1, bNode_p, bSet_1, bSet_p, bOver_1, bOver_p, bWrap_1, bWrap_p, bKeep_1, bKeep_p, bSlot_1, bSlot_p] at a4 b4 c4 d4 e4 f4 h4 i4
    try dsimp only at hG
    cases hG
    exact ⟨(by unfold Mo; simp only [bNode_1, bNode_p, bSet_1, bSet_p, bOver_1, bOver_p, bWrap_1, bWrap_p, bKeep_1, bKeep_p, bSlot_1, bSlot_p]; omega : Mo n b q v _), trivial⟩
  · rw [if_neg y1] at hG
    cases hG
    exact ⟨(by unfold Mo; simp only [bNode_1, bNode_p, bSet_1, bSet_p, bOver_1, bOver_p, bWrap_1, bWrap_p, bKeep_1, bKeep_p, bSlot_1, bSlot_p]; omega : Mo n b q v _), trivial⟩
theorem g_mono (T : Nat → Int32) (n : Nat) : ∀ f : Nat, GM T n f
  | 0 => fun nt E o q v i e c g b r _ _ hG => by simp only [G] at hG; cases hG
  | f + 1 => fun nt E o q v i e c g b r hq hv hG M hM hm1 hN => by
    have ih := g_mono T n f
    match nt, hG, hN with
    | 0, hG, hN => exact gm_0 ih hq hv hG hM hm1 hN
    | 1, hG, hN => exact gm_1 ih hq hv hG hM hm1 hN
    | 2, hG, hN => exact gm_2 ih hq hv hG hM hm1 hN
    | 3, hG, hN => exact gm_3 ih hq hv hG hM hm1 hN
    | 4, hG, hN => exact gm_4 ih hq hv hG hM hm1 hN
    | 5, hG, hN => exact gm_5 ih hq hv hG hM hm1 hN
    | 6, hG, hN => exact gm_6 ih hq hv hG hM hm1 hN
    | 7, hG, hN => exact gm_7 ih hq hv hG hM hm1 hN
    | 8, hG, hN => exact gm_8 ih hq hv hG hM hm1 hN
    | 9, hG, hN => exact gm_9 ih hq hv hG hM hm1 hN
    | 10, hG, hN => exact gm_10 ih hq hv hG hM hm1 hN
    | 11, hG, hN => exact gm_11 ih hq hv hG hM hm1 hN
    | 12, hG, hN => exact gm_12 ih hq hv hG hM hm1 hN
    | 13, hG, hN => exact gm_13 ih hq hv hG hM hm1 hN
    | 14, hG, hN => exact gm_14 ih hq hv hG hM hm1 hN
    | 15, hG, hN => exact gm_15 ih hq hv hG hM hm1 hN
    | 16, hG, hN => exact gm_16 ih hq hv hG hM hm1 hN
    | 17, hG, hN => exact gm_17 ih hq hv hG hM hm1 hN
    | 18, hG, hN => exact gm_18 ih hq hv hG hM hm1 hN
    | nt + 19, hG, hN => simp only [G] at hG; cases hG

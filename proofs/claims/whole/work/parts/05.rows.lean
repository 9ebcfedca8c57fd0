theorem g_iconst {Z : ZT} {X : XT} {cc : ByteArray} {own : String} {nL : Nat} {R : Room} {pc pc' : Nat} {L : List (Option Value)} {S : List Value} {w : va_W} {n : Int} {v : Int32} (h : OK Z X cc own nL R) (hd : decode cc pc = .ok (.iconst n, 1)) (hv : Int32.ofInt n = v) (hp : pc + 1 = pc') (k : GG Z X pc' L (.int v :: S) w) : GG Z X pc L S w := by
  obtain ⟨p, l, e, R0, s, m, args, below, meth, c, ce, sl, nL', A, Q⟩ := X
  obtain ⟨⟨hx, hb, hml⟩, hown, hts, hlk, hK, hST, hA, rfl, rfl, hce, hsl⟩ := h
  subst hp
  intro H locs ls hP hD hS hl
  exact lv_iconst hx hb hd hv (k H locs ls hP hD hS hl)
theorem g_bipush {Z : ZT} {X : XT} {cc : ByteArray} {own : String} {nL : Nat} {R : Room} {pc pc' : Nat} {L : List (Option Value)} {S : List Value} {w : va_W} {n : Int} {v : Int32} (h : OK Z X cc own nL R) (hd : decode cc pc = .ok (.bipush n, 2)) (hv : (Int8.ofInt n).toInt32 = v) (hp : pc + 2 = pc') (k : GG Z X pc' L (.int v :: S) w) : GG Z X pc L S w := by
  obtain ⟨p, l, e, R0, s, m, args, below, meth, c, ce, sl, nL', A, Q⟩ := X
  obtain ⟨⟨hx, hb, hml⟩, hown, hts, hlk, hK, hST, hA, rfl, rfl, hce, hsl⟩ := h
  subst hp
  intro H locs ls hP hD hS hl
  exact lv_bipush hx hb hd hv (k H locs ls hP hD hS hl)
theorem g_sipush {Z : ZT} {X : XT} {cc : ByteArray} {own : String} {nL : Nat} {R : Room} {pc pc' : Nat} {L : List (Option Value)} {S : List Value} {w : va_W} {n : Int} {v : Int32} (h : OK Z X cc own nL R) (hd : decode cc pc = .ok (.sipush n, 3)) (hv : (Int16.ofInt n).toInt32 = v) (hp : pc + 3 = pc') (k : GG Z X pc' L (.int v :: S) w) : GG Z X pc L S w := by
  obtain ⟨p, l, e, R0, s, m, args, below, meth, c, ce, sl, nL', A, Q⟩ := X
  obtain ⟨⟨hx, hb, hml⟩, hown, hts, hlk, hK, hST, hA, rfl, rfl, hce, hsl⟩ := h
  subst hp
  intro H locs ls hP hD hS hl
  exact lv_sipush hx hb hd hv (k H locs ls hP hD hS hl)
theorem g_lconst {Z : ZT} {X : XT} {cc : ByteArray} {own : String} {nL : Nat} {R : Room} {pc pc' : Nat} {L : List (Option Value)} {S : List Value} {w : va_W} {n : Fin 2} {v : Int64} (h : OK Z X cc own nL R) (hd : decode cc pc = .ok (.lconst n, 1)) (hv : Int64.ofNat (n : Nat) = v) (hp : pc + 1 = pc') (k : GG Z X pc' L (.long v :: S) w) : GG Z X pc L S w := by
  obtain ⟨p, l, e, R0, s, m, args, below, meth, c, ce, sl, nL', A, Q⟩ := X
  obtain ⟨⟨hx, hb, hml⟩, hown, hts, hlk, hK, hST, hA, rfl, rfl, hce, hsl⟩ := h
  subst hp
  intro H locs ls hP hD hS hl
  exact lv_lconst hx hb hd hv (k H locs ls hP hD hS hl)
theorem g_ldc {Z : ZT} {X : XT} {cc : ByteArray} {own : String} {nL : Nat} {R : Room} {pc pc' : Nat} {L : List (Option Value)} {S : List Value} {w : va_W} {n : Nat} {v : Int32} (h : OK Z X cc own nL R) (hd : decode cc pc = .ok (.ldc n, 2)) (hc : Cond.constant own n v ∈ tblG) (hp : pc + 2 = pc') (k : GG Z X pc' L (.int v :: S) w) : GG Z X pc L S w := by
  obtain ⟨p, l, e, R0, s, m, args, below, meth, c, ce, sl, nL', A, Q⟩ := X
  obtain ⟨⟨hx, hb, hml⟩, hown, hts, hlk, hK, hST, hA, rfl, rfl, hce, hsl⟩ := h
  subst hp
  intro H locs ls hP hD hS hl
  exact lv_ldc hx hb hown (hts _ hc) hd (k H locs ls hP hD hS hl)
theorem g_ldc2 {Z : ZT} {X : XT} {cc : ByteArray} {own : String} {nL : Nat} {R : Room} {pc pc' : Nat} {L : List (Option Value)} {S : List Value} {w : va_W} {n : Nat} {v : Int64} (h : OK Z X cc own nL R) (hd : decode cc pc = .ok (.ldc2_w n, 3)) (hc : Cond.constantLong own n v ∈ tblG) (hp : pc + 3 = pc') (k : GG Z X pc' L (.long v :: S) w) : GG Z X pc L S w := by
  obtain ⟨p, l, e, R0, s, m, args, below, meth, c, ce, sl, nL', A, Q⟩ := X
  obtain ⟨⟨hx, hb, hml⟩, hown, hts, hlk, hK, hST, hA, rfl, rfl, hce, hsl⟩ := h
  subst hp
  intro H locs ls hP hD hS hl
  exact lv_ldc2 hx hb hown (hts _ hc) hd (k H locs ls hP hD hS hl)
theorem g_iload_n {Z : ZT} {X : XT} {cc : ByteArray} {own : String} {nL : Nat} {R : Room} {pc pc' : Nat} {L : List (Option Value)} {S : List Value} {w : va_W} {k4 : Fin 4} {i : Nat} {x : Int32} (h : OK Z X cc own nL R) (hd : decode cc pc = .ok (.iload_n k4, 1)) (hi : (k4 : Nat) = i) (hL : L[i]? = some (some (.int x))) (hp : pc + 1 = pc') (k : GG Z X pc' L (.int x :: S) w) : GG Z X pc L S w := by
  obtain ⟨p, l, e, R0, s, m, args, below, meth, c, ce, sl, nL', A, Q⟩ := X
  obtain ⟨⟨hx, hb, hml⟩, hown, hts, hlk, hK, hST, hA, rfl, rfl, hce, hsl⟩ := h
  subst hp
  intro H locs ls hP hD hS hl
  exact lv_iload_n hx hb hd hi (hl.2.2 (i, _) ((lcs0 L (i, _)).mpr hL)) (k H locs ls hP hD hS hl)
theorem g_lload_n {Z : ZT} {X : XT} {cc : ByteArray} {own : String} {nL : Nat} {R : Room} {pc pc' : Nat} {L : List (Option Value)} {S : List Value} {w : va_W} {k4 : Fin 4} {i : Nat} {x : Int64} (h : OK Z X cc own nL R) (hd : decode cc pc = .ok (.lload_n k4, 1)) (hi : (k4 : Nat) = i) (hL : L[i]? = some (some (.long x))) (hp : pc + 1 = pc') (k : GG Z X pc' L (.long x :: S) w) : GG Z X pc L S w := by
  obtain ⟨p, l, e, R0, s, m, args, below, meth, c, ce, sl, nL', A, Q⟩ := X
  obtain ⟨⟨hx, hb, hml⟩, hown, hts, hlk, hK, hST, hA, rfl, rfl, hce, hsl⟩ := h
  subst hp
  intro H locs ls hP hD hS hl
  exact lv_lload_n hx hb hd hi (hl.2.2 (i, _) ((lcs0 L (i, _)).mpr hL)) (k H locs ls hP hD hS hl)
theorem g_aload_n {Z : ZT} {X : XT} {cc : ByteArray} {own : String} {nL : Nat} {R : Room} {pc pc' : Nat} {L : List (Option Value)} {S : List Value} {w : va_W} {k4 : Fin 4} {i : Nat} {x : Nat} (h : OK Z X cc own nL R) (hd : decode cc pc = .ok (.aload_n k4, 1)) (hi : (k4 : Nat) = i) (hL : L[i]? = some (some (.ref x))) (hp : pc + 1 = pc') (k : GG Z X pc' L (.ref x :: S) w) : GG Z X pc L S w := by
  obtain ⟨p, l, e, R0, s, m, args, below, meth, c, ce, sl, nL', A, Q⟩ := X
  obtain ⟨⟨hx, hb, hml⟩, hown, hts, hlk, hK, hST, hA, rfl, rfl, hce, hsl⟩ := h
  subst hp
  intro H locs ls hP hD hS hl
  exact lv_aload_n hx hb hd hi (hl.2.2 (i, _) ((lcs0 L (i, _)).mpr hL)) (k H locs ls hP hD hS hl)
theorem g_iload {Z : ZT} {X : XT} {cc : ByteArray} {own : String} {nL : Nat} {R : Room} {pc pc' : Nat} {L : List (Option Value)} {S : List Value} {w : va_W} {i : Nat} {x : Int32} (h : OK Z X cc own nL R) (hd : decode cc pc = .ok (.iload i, 2)) (hL : L[i]? = some (some (.int x))) (hp : pc + 2 = pc') (k : GG Z X pc' L (.int x :: S) w) : GG Z X pc L S w := by
  obtain ⟨p, l, e, R0, s, m, args, below, meth, c, ce, sl, nL', A, Q⟩ := X
  obtain ⟨⟨hx, hb, hml⟩, hown, hts, hlk, hK, hST, hA, rfl, rfl, hce, hsl⟩ := h
  subst hp
  intro H locs ls hP hD hS hl
  exact lv_iload hx hb hd (hl.2.2 (i, _) ((lcs0 L (i, _)).mpr hL)) (k H locs ls hP hD hS hl)
theorem g_lload {Z : ZT} {X : XT} {cc : ByteArray} {own : String} {nL : Nat} {R : Room} {pc pc' : Nat} {L : List (Option Value)} {S : List Value} {w : va_W} {i : Nat} {x : Int64} (h : OK Z X cc own nL R) (hd : decode cc pc = .ok (.lload i, 2)) (hL : L[i]? = some (some (.long x))) (hp : pc + 2 = pc') (k : GG Z X pc' L (.long x :: S) w) : GG Z X pc L S w := by
  obtain ⟨p, l, e, R0, s, m, args, below, meth, c, ce, sl, nL', A, Q⟩ := X
  obtain ⟨⟨hx, hb, hml⟩, hown, hts, hlk, hK, hST, hA, rfl, rfl, hce, hsl⟩ := h
  subst hp
  intro H locs ls hP hD hS hl
  exact lv_lload hx hb hd (hl.2.2 (i, _) ((lcs0 L (i, _)).mpr hL)) (k H locs ls hP hD hS hl)
theorem g_istore_nC {Z : ZT} {X : XT} {cc : ByteArray} {own : String} {nL : Nat} {R : Room} {pc pc' : Nat} {L : List (Option Value)} {S : List Value} {w : va_W} {k4 : Fin 4} {i : Nat} {x : Int32} (h : OK Z X cc own nL R) (hd : decode cc pc = .ok (.istore_n k4, 1)) (hi : (k4 : Nat) = i) (hv : pv L i = true) (hn : i < nL) (hp : pc + 1 = pc') (k : GG Z X pc' (L.set i (some (.int x))) S w) : GG Z X pc L (.int x :: S) w := by
  obtain ⟨p, l, e, R0, s, m, args, below, meth, c, ce, sl, nL', A, Q⟩ := X
  obtain ⟨⟨hx, hb, hml⟩, hown, hts, hlk, hK, hST, hA, rfl, rfl, hce, hsl⟩ := h
  subst hp
  intro H locs ls hP hD hS hl
  exact lv_istore_n hx hb hd hi hl hn rfl (fun ls' hl' => k H locs ls' hP hD hS (lvh_mono hl' (lcs_set hv)))
theorem g_istoreC {Z : ZT} {X : XT} {cc : ByteArray} {own : String} {nL : Nat} {R : Room} {pc pc' : Nat} {L : List (Option Value)} {S : List Value} {w : va_W} {i : Nat} {x : Int32} (h : OK Z X cc own nL R) (hd : decode cc pc = .ok (.istore i, 2)) (hv : pv L i = true) (hn : i < nL) (hp : pc + 2 = pc') (k : GG Z X pc' (L.set i (some (.int x))) S w) : GG Z X pc L (.int x :: S) w := by
  obtain ⟨p, l, e, R0, s, m, args, below, meth, c, ce, sl, nL', A, Q⟩ := X
  obtain ⟨⟨hx, hb, hml⟩, hown, hts, hlk, hK, hST, hA, rfl, rfl, hce, hsl⟩ := h
  subst hp
  intro H locs ls hP hD hS hl
  exact lv_istore hx hb hd hl hn rfl (fun ls' hl' => k H locs ls' hP hD hS (lvh_mono hl' (lcs_set hv)))
theorem g_astore_nC {Z : ZT} {X : XT} {cc : ByteArray} {own : String} {nL : Nat} {R : Room} {pc pc' : Nat} {L : List (Option Value)} {S : List Value} {w : va_W} {k4 : Fin 4} {i : Nat} {x : Nat} (h : OK Z X cc own nL R) (hd : decode cc pc = .ok (.astore_n k4, 1)) (hi : (k4 : Nat) = i) (hv : pv L i = true) (hn : i < nL) (hp : pc + 1 = pc') (k : GG Z X pc' (L.set i (some (.ref x))) S w) : GG Z X pc L (.ref x :: S) w := by
  obtain ⟨p, l, e, R0, s, m, args, below, meth, c, ce, sl, nL', A, Q⟩ := X
  obtain ⟨⟨hx, hb, hml⟩, hown, hts, hlk, hK, hST, hA, rfl, rfl, hce, hsl⟩ := h
  subst hp
  intro H locs ls hP hD hS hl
  exact lv_astore_n hx hb hd hi hl hn rfl (fun ls' hl' => k H locs ls' hP hD hS (lvh_mono hl' (lcs_set hv)))
theorem g_lstore_nC {Z : ZT} {X : XT} {cc : ByteArray} {own : String} {nL : Nat} {R : Room} {pc pc' : Nat} {L : List (Option Value)} {S : List Value} {w : va_W} {k4 : Fin 4} {i : Nat} {x : Int64} (h : OK Z X cc own nL R) (hd : decode cc pc = .ok (.lstore_n k4, 1)) (hi : (k4 : Nat) = i) (hv : pv L i = true) (hn : i + 1 < nL) (hp : pc + 1 = pc') (k : GG Z X pc' ((L.set i (some (.long x))).set (i + 1) none) S w) : GG Z X pc L (.long x :: S) w := by
  obtain ⟨p, l, e, R0, s, m, args, below, meth, c, ce, sl, nL', A, Q⟩ := X
  obtain ⟨⟨hx, hb, hml⟩, hown, hts, hlk, hK, hST, hA, rfl, rfl, hce, hsl⟩ := h
  subst hp
  intro H locs ls hP hD hS hl
  exact lv_lstore_n hx hb hd hi hl hn rfl (fun ls' hl' => k H locs ls' hP hD hS (lvh_mono hl' (lcs_set2 hv)))
theorem g_lstoreC {Z : ZT} {X : XT} {cc : ByteArray} {own : String} {nL : Nat} {R : Room} {pc pc' : Nat} {L : List (Option Value)} {S : List Value} {w : va_W} {i : Nat} {x : Int64} (h : OK Z X cc own nL R) (hd : decode cc pc = .ok (.lstore i, 2)) (hv : pv L i = true) (hn : i + 1 < nL) (hp : pc + 2 = pc') (k : GG Z X pc' ((L.set i (some (.long x))).set (i + 1) none) S w) : GG Z X pc L (.long x :: S) w := by
  obtain ⟨p, l, e, R0, s, m, args, below, meth, c, ce, sl, nL', A, Q⟩ := X
  obtain ⟨⟨hx, hb, hml⟩, hown, hts, hlk, hK, hST, hA, rfl, rfl, hce, hsl⟩ := h
  subst hp
  intro H locs ls hP hD hS hl
  exact lv_lstore hx hb hd hl hn rfl (fun ls' hl' => k H locs ls' hP hD hS (lvh_mono hl' (lcs_set2 hv)))
theorem g_iincC {Z : ZT} {X : XT} {cc : ByteArray} {own : String} {nL : Nat} {R : Room} {pc pc' : Nat} {L : List (Option Value)} {S : List Value} {w : va_W} {i : Nat} {n : Int} {x v : Int32} (h : OK Z X cc own nL R) (hd : decode cc pc = .ok (.iinc i n, 3)) (hL : L[i]? = some (some (.int x))) (hv : x + Int32.ofInt n = v) (hpv : pv L i = true) (hn : i < nL) (hp : pc + 3 = pc') (k : GG Z X pc' (L.set i (some (.int v))) S w) : GG Z X pc L S w := by
  obtain ⟨p, l, e, R0, s, m, args, below, meth, c, ce, sl, nL', A, Q⟩ := X
  obtain ⟨⟨hx, hb, hml⟩, hown, hts, hlk, hK, hST, hA, rfl, rfl, hce, hsl⟩ := h
  subst hp
  intro H locs ls hP hD hS hl
  obtain ⟨j, hj⟩ := List.getElem?_of_mem ((lcs0 L (i, .int x)).mpr hL)
  exact lv_iinc hx hb hd hl hj hv hn rfl (fun ls' hl' => k H locs ls' hP hD hS (lvh_mono hl' (lcs_set hpv)))
theorem g_istore0 {Z : ZT} {X : XT} {cc : ByteArray} {own : String} {nL : Nat} {R : Room} {pc pc' : Nat} {S : List Value} {w : va_W} {b : Option Value} {t : List (Option Value)} {x : Int32} (h : OK Z X cc own nL R) (hd : decode cc pc = .ok (.istore_n 0, 1))  (hn : 0 < nL) (hp : pc + 1 = pc') (k : GG Z X pc' (some (.int x) :: t) S w) : GG Z X pc (b :: t) (.int x :: S) w := g_istore_nC h hd rfl rfl hn hp k
theorem g_astore0 {Z : ZT} {X : XT} {cc : ByteArray} {own : String} {nL : Nat} {R : Room} {pc pc' : Nat} {S : List Value} {w : va_W} {b : Option Value} {t : List (Option Value)} {x : Nat} (h : OK Z X cc own nL R) (hd : decode cc pc = .ok (.astore_n 0, 1))  (hn : 0 < nL) (hp : pc + 1 = pc') (k : GG Z X pc' (some (.ref x) :: t) S w) : GG Z X pc (b :: t) (.ref x :: S) w := g_astore_nC h hd rfl rfl hn hp k
theorem g_lstore0 {Z : ZT} {X : XT} {cc : ByteArray} {own : String} {nL : Nat} {R : Room} {pc pc' : Nat} {S : List Value} {w : va_W} {b : Option Value} {t : List (Option Value)} {b2 : Option Value} {x : Int64} (h : OK Z X cc own nL R) (hd : decode cc pc = .ok (.lstore_n 0, 1))  (hn : 1 < nL) (hp : pc + 1 = pc') (k : GG Z X pc' (some (.long x) :: none :: t) S w) : GG Z X pc (b :: b2 :: t) (.long x :: S) w := g_lstore_nC h hd rfl rfl hn hp k
theorem g_iinc0 {Z : ZT} {X : XT} {cc : ByteArray} {own : String} {nL : Nat} {R : Room} {pc pc' : Nat} {S : List Value} {w : va_W} {t : List (Option Value)} {x v : Int32} {n : Int} (h : OK Z X cc own nL R) (hd : decode cc pc = .ok (.iinc 0 n, 3))  (hv : x + Int32.ofInt n = v) (hn : 0 < nL) (hp : pc + 3 = pc') (k : GG Z X pc' (some (.int v) :: t) S w) : GG Z X pc (some (.int x) :: t) S w := g_iincC (x := x) h hd (by rfl) hv rfl hn hp k
theorem g_istore1 {Z : ZT} {X : XT} {cc : ByteArray} {own : String} {nL : Nat} {R : Room} {pc pc' : Nat} {S : List Value} {w : va_W} {a0 : Option Value} {b : Option Value} {t : List (Option Value)} {x : Int32} (h : OK Z X cc own nL R) (hd : decode cc pc = .ok (.istore_n 1, 1)) (ha : nl a0 = true) (hn : 1 < nL) (hp : pc + 1 = pc') (k : GG Z X pc' (a0 :: some (.int x) :: t) S w) : GG Z X pc (a0 :: b :: t) (.int x :: S) w := g_istore_nC h hd rfl (by exact ha) hn hp k
theorem g_astore1 {Z : ZT} {X : XT} {cc : ByteArray} {own : String} {nL : Nat} {R : Room} {pc pc' : Nat} {S : List Value} {w : va_W} {a0 : Option Value} {b : Option Value} {t : List (Option Value)} {x : Nat} (h : OK Z X cc own nL R) (hd : decode cc pc = .ok (.astore_n 1, 1)) (ha : nl a0 = true) (hn : 1 < nL) (hp : pc + 1 = pc') (k : GG Z X pc' (a0 :: some (.ref x) :: t) S w) : GG Z X pc (a0 :: b :: t) (.ref x :: S) w := g_astore_nC h hd rfl (by exact ha) hn hp k
theorem g_lstore1 {Z : ZT} {X : XT} {cc : ByteArray} {own : String} {nL : Nat} {R : Room} {pc pc' : Nat} {S : List Value} {w : va_W} {a0 : Option Value} {b : Option Value} {t : List (Option Value)} {b2 : Option Value} {x : Int64} (h : OK Z X cc own nL R) (hd : decode cc pc = .ok (.lstore_n 1, 1)) (ha : nl a0 = true) (hn : 2 < nL) (hp : pc + 1 = pc') (k : GG Z X pc' (a0 :: some (.long x) :: none :: t) S w) : GG Z X pc (a0 :: b :: b2 :: t) (.long x :: S) w := g_lstore_nC h hd rfl (by exact ha) hn hp k
theorem g_iinc1 {Z : ZT} {X : XT} {cc : ByteArray} {own : String} {nL : Nat} {R : Room} {pc pc' : Nat} {S : List Value} {w : va_W} {a0 : Option Value} {t : List (Option Value)} {x v : Int32} {n : Int} (h : OK Z X cc own nL R) (hd : decode cc pc = .ok (.iinc 1 n, 3)) (ha : nl a0 = true) (hv : x + Int32.ofInt n = v) (hn : 1 < nL) (hp : pc + 3 = pc') (k : GG Z X pc' (a0 :: some (.int v) :: t) S w) : GG Z X pc (a0 :: some (.int x) :: t) S w := g_iincC (x := x) h hd (by rfl) hv (by exact ha) hn hp k
theorem g_istore2 {Z : ZT} {X : XT} {cc : ByteArray} {own : String} {nL : Nat} {R : Room} {pc pc' : Nat} {S : List Value} {w : va_W} {a0 a1 : Option Value} {b : Option Value} {t : List (Option Value)} {x : Int32} (h : OK Z X cc own nL R) (hd : decode cc pc = .ok (.istore_n 2, 1)) (ha : nl a1 = true) (hn : 2 < nL) (hp : pc + 1 = pc') (k : GG Z X pc' (a0 :: a1 :: some (.int x) :: t) S w) : GG Z X pc (a0 :: a1 :: b :: t) (.int x :: S) w := g_istore_nC h hd rfl (by exact ha) hn hp k
theorem g_astore2 {Z : ZT} {X : XT} {cc : ByteArray} {own : String} {nL : Nat} {R : Room} {pc pc' : Nat} {S : List Value} {w : va_W} {a0 a1 : Option Value} {b : Option Value} {t : List (Option Value)} {x : Nat} (h : OK Z X cc own nL R) (hd : decode cc pc = .ok (.astore_n 2, 1)) (ha : nl a1 = true) (hn : 2 < nL) (hp : pc + 1 = pc') (k : GG Z X pc' (a0 :: a1 :: some (.ref x) :: t) S w) : GG Z X pc (a0 :: a1 :: b :: t) (.ref x :: S) w := g_astore_nC h hd rfl (by exact ha) hn hp k
theorem g_lstore2 {Z : ZT} {X : XT} {cc : ByteArray} {own : String} {nL : Nat} {R : Room} {pc pc' : Nat} {S : List Value} {w : va_W} {a0 a1 : Option Value} {b : Option Value} {t : List (Option Value)} {b2 : Option Value} {x : Int64} (h : OK Z X cc own nL R) (hd : decode cc pc = .ok (.lstore_n 2, 1)) (ha : nl a1 = true) (hn : 3 < nL) (hp : pc + 1 = pc') (k : GG Z X pc' (a0 :: a1 :: some (.long x) :: none :: t) S w) : GG Z X pc (a0 :: a1 :: b :: b2 :: t) (.long x :: S) w := g_lstore_nC h hd rfl (by exact ha) hn hp k
theorem g_iinc2 {Z : ZT} {X : XT} {cc : ByteArray} {own : String} {nL : Nat} {R : Room} {pc pc' : Nat} {S : List Value} {w : va_W} {a0 a1 : Option Value} {t : List (Option Value)} {x v : Int32} {n : Int} (h : OK Z X cc own nL R) (hd : decode cc pc = .ok (.iinc 2 n, 3)) (ha : nl a1 = true) (hv : x + Int32.ofInt n = v) (hn : 2 < nL) (hp : pc + 3 = pc') (k : GG Z X pc' (a0 :: a1 :: some (.int v) :: t) S w) : GG Z X pc (a0 :: a1 :: some (.int x) :: t) S w := g_iincC (x := x) h hd (by rfl) hv (by exact ha) hn hp k
theorem g_istore3 {Z : ZT} {X : XT} {cc : ByteArray} {own : String} {nL : Nat} {R : Room} {pc pc' : Nat} {S : List Value} {w : va_W} {a0 a1 a2 : Option Value} {b : Option Value} {t : List (Option Value)} {x : Int32} (h : OK Z X cc own nL R) (hd : decode cc pc = .ok (.istore_n 3, 1)) (ha : nl a2 = true) (hn : 3 < nL) (hp : pc + 1 = pc') (k : GG Z X pc' (a0 :: a1 :: a2 :: some (.int x) :: t) S w) : GG Z X pc (a0 :: a1 :: a2 :: b :: t) (.int x :: S) w := g_istore_nC h hd rfl (by exact ha) hn hp k
theorem g_astore3 {Z : ZT} {X : XT} {cc : ByteArray} {own : String} {nL : Nat} {R : Room} {pc pc' : Nat} {S : List Value} {w : va_W} {a0 a1 a2 : Option Value} {b : Option Value} {t : List (Option Value)} {x : Nat} (h : OK Z X cc own nL R) (hd : decode cc pc = .ok (.astore_n 3, 1)) (ha : nl a2 = true) (hn : 3 < nL) (hp : pc + 1 = pc') (k : GG Z X pc' (a0 :: a1 :: a2 :: some (.ref x) :: t) S w) : GG Z X pc (a0 :: a1 :: a2 :: b :: t) (.ref x :: S) w := g_astore_nC h hd rfl (by exact ha) hn hp k
theorem g_lstore3 {Z : ZT} {X : XT} {cc : ByteArray} {own : String} {nL : Nat} {R : Room} {pc pc' : Nat} {S : List Value} {w : va_W} {a0 a1 a2 : Option Value} {b : Option Value} {t : List (Option Value)} {b2 : Option Value} {x : Int64} (h : OK Z X cc own nL R) (hd : decode cc pc = .ok (.lstore_n 3, 1)) (ha : nl a2 = true) (hn : 4 < nL) (hp : pc + 1 = pc') (k : GG Z X pc' (a0 :: a1 :: a2 :: some (.long x) :: none :: t) S w) : GG Z X pc (a0 :: a1 :: a2 :: b :: b2 :: t) (.long x :: S) w := g_lstore_nC h hd rfl (by exact ha) hn hp k
theorem g_iinc3 {Z : ZT} {X : XT} {cc : ByteArray} {own : String} {nL : Nat} {R : Room} {pc pc' : Nat} {S : List Value} {w : va_W} {a0 a1 a2 : Option Value} {t : List (Option Value)} {x v : Int32} {n : Int} (h : OK Z X cc own nL R) (hd : decode cc pc = .ok (.iinc 3 n, 3)) (ha : nl a2 = true) (hv : x + Int32.ofInt n = v) (hn : 3 < nL) (hp : pc + 3 = pc') (k : GG Z X pc' (a0 :: a1 :: a2 :: some (.int v) :: t) S w) : GG Z X pc (a0 :: a1 :: a2 :: some (.int x) :: t) S w := g_iincC (x := x) h hd (by rfl) hv (by exact ha) hn hp k
theorem g_istore4 {Z : ZT} {X : XT} {cc : ByteArray} {own : String} {nL : Nat} {R : Room} {pc pc' : Nat} {S : List Value} {w : va_W} {a0 a1 a2 a3 : Option Value} {b : Option Value} {t : List (Option Value)} {x : Int32} (h : OK Z X cc own nL R) (hd : decode cc pc = .ok (.istore 4, 2)) (ha : nl a3 = true) (hn : 4 < nL) (hp : pc + 2 = pc') (k : GG Z X pc' (a0 :: a1 :: a2 :: a3 :: some (.int x) :: t) S w) : GG Z X pc (a0 :: a1 :: a2 :: a3 :: b :: t) (.int x :: S) w := g_istoreC h hd (by exact ha) hn hp k
theorem g_lstore4 {Z : ZT} {X : XT} {cc : ByteArray} {own : String} {nL : Nat} {R : Room} {pc pc' : Nat} {S : List Value} {w : va_W} {a0 a1 a2 a3 : Option Value} {b : Option Value} {t : List (Option Value)} {b2 : Option Value} {x : Int64} (h : OK Z X cc own nL R) (hd : decode cc pc = .ok (.lstore 4, 2)) (ha : nl a3 = true) (hn : 5 < nL) (hp : pc + 2 = pc') (k : GG Z X pc' (a0 :: a1 :: a2 :: a3 :: some (.long x) :: none :: t) S w) : GG Z X pc (a0 :: a1 :: a2 :: a3 :: b :: b2 :: t) (.long x :: S) w := g_lstoreC h hd (by exact ha) hn hp k
theorem g_iinc4 {Z : ZT} {X : XT} {cc : ByteArray} {own : String} {nL : Nat} {R : Room} {pc pc' : Nat} {S : List Value} {w : va_W} {a0 a1 a2 a3 : Option Value} {t : List (Option Value)} {x v : Int32} {n : Int} (h : OK Z X cc own nL R) (hd : decode cc pc = .ok (.iinc 4 n, 3)) (ha : nl a3 = true) (hv : x + Int32.ofInt n = v) (hn : 4 < nL) (hp : pc + 3 = pc') (k : GG Z X pc' (a0 :: a1 :: a2 :: a3 :: some (.int v) :: t) S w) : GG Z X pc (a0 :: a1 :: a2 :: a3 :: some (.int x) :: t) S w := g_iincC (x := x) h hd (by rfl) hv (by exact ha) hn hp k
theorem g_istore5 {Z : ZT} {X : XT} {cc : ByteArray} {own : String} {nL : Nat} {R : Room} {pc pc' : Nat} {S : List Value} {w : va_W} {a0 a1 a2 a3 a4 : Option Value} {b : Option Value} {t : List (Option Value)} {x : Int32} (h : OK Z X cc own nL R) (hd : decode cc pc = .ok (.istore 5, 2)) (ha : nl a4 = true) (hn : 5 < nL) (hp : pc + 2 = pc') (k : GG Z X pc' (a0 :: a1 :: a2 :: a3 :: a4 :: some (.int x) :: t) S w) : GG Z X pc (a0 :: a1 :: a2 :: a3 :: a4 :: b :: t) (.int x :: S) w := g_istoreC h hd (by exact ha) hn hp k
theorem g_lstore5 {Z : ZT} {X : XT} {cc : ByteArray} {own : String} {nL : Nat} {R : Room} {pc pc' : Nat} {S : List Value} {w : va_W} {a0 a1 a2 a3 a4 : Option Value} {b : Option Value} {t : List (Option Value)} {b2 : Option Value} {x : Int64} (h : OK Z X cc own nL R) (hd : decode cc pc = .ok (.lstore 5, 2)) (ha : nl a4 = true) (hn : 6 < nL) (hp : pc + 2 = pc') (k : GG Z X pc' (a0 :: a1 :: a2 :: a3 :: a4 :: some (.long x) :: none :: t) S w) : GG Z X pc (a0 :: a1 :: a2 :: a3 :: a4 :: b :: b2 :: t) (.long x :: S) w := g_lstoreC h hd (by exact ha) hn hp k
theorem g_iinc5 {Z : ZT} {X : XT} {cc : ByteArray} {own : String} {nL : Nat} {R : Room} {pc pc' : Nat} {S : List Value} {w : va_W} {a0 a1 a2 a3 a4 : Option Value} {t : List (Option Value)} {x v : Int32} {n : Int} (h : OK Z X cc own nL R) (hd : decode cc pc = .ok (.iinc 5 n, 3)) (ha : nl a4 = true) (hv : x + Int32.ofInt n = v) (hn : 5 < nL) (hp : pc + 3 = pc') (k : GG Z X pc' (a0 :: a1 :: a2 :: a3 :: a4 :: some (.int v) :: t) S w) : GG Z X pc (a0 :: a1 :: a2 :: a3 :: a4 :: some (.int x) :: t) S w := g_iincC (x := x) h hd (by rfl) hv (by exact ha) hn hp k
theorem g_istore6 {Z : ZT} {X : XT} {cc : ByteArray} {own : String} {nL : Nat} {R : Room} {pc pc' : Nat} {S : List Value} {w : va_W} {a0 a1 a2 a3 a4 a5 : Option Value} {b : Option Value} {t : List (Option Value)} {x : Int32} (h : OK Z X cc own nL R) (hd : decode cc pc = .ok (.istore 6, 2)) (ha : nl a5 = true) (hn : 6 < nL) (hp : pc + 2 = pc') (k : GG Z X pc' (a0 :: a1 :: a2 :: a3 :: a4 :: a5 :: some (.int x) :: t) S w) : GG Z X pc (a0 :: a1 :: a2 :: a3 :: a4 :: a5 :: b :: t) (.int x :: S) w := g_istoreC h hd (by exact ha) hn hp k
theorem g_lstore6 {Z : ZT} {X : XT} {cc : ByteArray} {own : String} {nL : Nat} {R : Room} {pc pc' : Nat} {S : List Value} {w : va_W} {a0 a1 a2 a3 a4 a5 : Option Value} {b : Option Value} {t : List (Option Value)} {b2 : Option Value} {x : Int64} (h : OK Z X cc own nL R) (hd : decode cc pc = .ok (.lstore 6, 2)) (ha : nl a5 = true) (hn : 7 < nL) (hp : pc + 2 = pc') (k : GG Z X pc' (a0 :: a1 :: a2 :: a3 :: a4 :: a5 :: some (.long x) :: none :: t) S w) : GG Z X pc (a0 :: a1 :: a2 :: a3 :: a4 :: a5 :: b :: b2 :: t) (.long x :: S) w := g_lstoreC h hd (by exact ha) hn hp k
theorem g_iinc6 {Z : ZT} {X : XT} {cc : ByteArray} {own : String} {nL : Nat} {R : Room} {pc pc' : Nat} {S : List Value} {w : va_W} {a0 a1 a2 a3 a4 a5 : Option Value} {t : List (Option Value)} {x v : Int32} {n : Int} (h : OK Z X cc own nL R) (hd : decode cc pc = .ok (.iinc 6 n, 3)) (ha : nl a5 = true) (hv : x + Int32.ofInt n = v) (hn : 6 < nL) (hp : pc + 3 = pc') (k : GG Z X pc' (a0 :: a1 :: a2 :: a3 :: a4 :: a5 :: some (.int v) :: t) S w) : GG Z X pc (a0 :: a1 :: a2 :: a3 :: a4 :: a5 :: some (.int x) :: t) S w := g_iincC (x := x) h hd (by rfl) hv (by exact ha) hn hp k
theorem g_istore7 {Z : ZT} {X : XT} {cc : ByteArray} {own : String} {nL : Nat} {R : Room} {pc pc' : Nat} {S : List Value} {w : va_W} {a0 a1 a2 a3 a4 a5 a6 : Option Value} {b : Option Value} {t : List (Option Value)} {x : Int32} (h : OK Z X cc own nL R) (hd : decode cc pc = .ok (.istore 7, 2)) (ha : nl a6 = true) (hn : 7 < nL) (hp : pc + 2 = pc') (k : GG Z X pc' (a0 :: a1 :: a2 :: a3 :: a4 :: a5 :: a6 :: some (.int x) :: t) S w) : GG Z X pc (a0 :: a1 :: a2 :: a3 :: a4 :: a5 :: a6 :: b :: t) (.int x :: S) w := g_istoreC h hd (by exact ha) hn hp k
theorem g_lstore7 {Z : ZT} {X : XT} {cc : ByteArray} {own : String} {nL : Nat} {R : Room} {pc pc' : Nat} {S : List Value} {w : va_W} {a0 a1 a2 a3 a4 a5 a6 : Option Value} {b : Option Value} {t : List (Option Value)} {b2 : Option Value} {x : Int64} (h : OK Z X cc own nL R) (hd : decode cc pc = .ok (.lstore 7, 2)) (ha : nl a6 = true) (hn : 8 < nL) (hp : pc + 2 = pc') (k : GG Z X pc' (a0 :: a1 :: a2 :: a3 :: a4 :: a5 :: a6 :: some (.long x) :: none :: t) S w) : GG Z X pc (a0 :: a1 :: a2 :: a3 :: a4 :: a5 :: a6 :: b :: b2 :: t) (.long x :: S) w := g_lstoreC h hd (by exact ha) hn hp k
theorem g_iinc7 {Z : ZT} {X : XT} {cc : ByteArray} {own : String} {nL : Nat} {R : Room} {pc pc' : Nat} {S : List Value} {w : va_W} {a0 a1 a2 a3 a4 a5 a6 : Option Value} {t : List (Option Value)} {x v : Int32} {n : Int} (h : OK Z X cc own nL R) (hd : decode cc pc = .ok (.iinc 7 n, 3)) (ha : nl a6 = true) (hv : x + Int32.ofInt n = v) (hn : 7 < nL) (hp : pc + 3 = pc') (k : GG Z X pc' (a0 :: a1 :: a2 :: a3 :: a4 :: a5 :: a6 :: some (.int v) :: t) S w) : GG Z X pc (a0 :: a1 :: a2 :: a3 :: a4 :: a5 :: a6 :: some (.int x) :: t) S w := g_iincC (x := x) h hd (by rfl) hv (by exact ha) hn hp k
theorem g_istore8 {Z : ZT} {X : XT} {cc : ByteArray} {own : String} {nL : Nat} {R : Room} {pc pc' : Nat} {S : List Value} {w : va_W} {a0 a1 a2 a3 a4 a5 a6 a7 : Option Value} {b : Option Value} {t : List (Option Value)} {x : Int32} (h : OK Z X cc own nL R) (hd : decode cc pc = .ok (.istore 8, 2)) (ha : nl a7 = true) (hn : 8 < nL) (hp : pc + 2 = pc') (k : GG Z X pc' (a0 :: a1 :: a2 :: a3 :: a4 :: a5 :: a6 :: a7 :: some (.int x) :: t) S w) : GG Z X pc (a0 :: a1 :: a2 :: a3 :: a4 :: a5 :: a6 :: a7 :: b :: t) (.int x :: S) w := g_istoreC h hd (by exact ha) hn hp k
theorem g_lstore8 {Z : ZT} {X : XT} {cc : ByteArray} {own : String} {nL : Nat} {R : Room} {pc pc' : Nat} {S : List Value} {w : va_W} {a0 a1 a2 a3 a4 a5 a6 a7 : Option Value} {b : Option Value} {t : List (Option Value)} {b2 : Option Value} {x : Int64} (h : OK Z X cc own nL R) (hd : decode cc pc = .ok (.lstore 8, 2)) (ha : nl a7 = true) (hn : 9 < nL) (hp : pc + 2 = pc') (k : GG Z X pc' (a0 :: a1 :: a2 :: a3 :: a4 :: a5 :: a6 :: a7 :: some (.long x) :: none :: t) S w) : GG Z X pc (a0 :: a1 :: a2 :: a3 :: a4 :: a5 :: a6 :: a7 :: b :: b2 :: t) (.long x :: S) w := g_lstoreC h hd (by exact ha) hn hp k
theorem g_iinc8 {Z : ZT} {X : XT} {cc : ByteArray} {own : String} {nL : Nat} {R : Room} {pc pc' : Nat} {S : List Value} {w : va_W} {a0 a1 a2 a3 a4 a5 a6 a7 : Option Value} {t : List (Option Value)} {x v : Int32} {n : Int} (h : OK Z X cc own nL R) (hd : decode cc pc = .ok (.iinc 8 n, 3)) (ha : nl a7 = true) (hv : x + Int32.ofInt n = v) (hn : 8 < nL) (hp : pc + 3 = pc') (k : GG Z X pc' (a0 :: a1 :: a2 :: a3 :: a4 :: a5 :: a6 :: a7 :: some (.int v) :: t) S w) : GG Z X pc (a0 :: a1 :: a2 :: a3 :: a4 :: a5 :: a6 :: a7 :: some (.int x) :: t) S w := g_iincC (x := x) h hd (by rfl) hv (by exact ha) hn hp k
theorem g_istore9 {Z : ZT} {X : XT} {cc : ByteArray} {own : String} {nL : Nat} {R : Room} {pc pc' : Nat} {S : List Value} {w : va_W} {a0 a1 a2 a3 a4 a5 a6 a7 a8 : Option Value} {b : Option Value} {t : List (Option Value)} {x : Int32} (h : OK Z X cc own nL R) (hd : decode cc pc = .ok (.istore 9, 2)) (ha : nl a8 = true) (hn : 9 < nL) (hp : pc + 2 = pc') (k : GG Z X pc' (a0 :: a1 :: a2 :: a3 :: a4 :: a5 :: a6 :: a7 :: a8 :: some (.int x) :: t) S w) : GG Z X pc (a0 :: a1 :: a2 :: a3 :: a4 :: a5 :: a6 :: a7 :: a8 :: b :: t) (.int x :: S) w := g_istoreC h hd (by exact ha) hn hp k
theorem g_lstore9 {Z : ZT} {X : XT} {cc : ByteArray} {own : String} {nL : Nat} {R : Room} {pc pc' : Nat} {S : List Value} {w : va_W} {a0 a1 a2 a3 a4 a5 a6 a7 a8 : Option Value} {b : Option Value} {t : List (Option Value)} {b2 : Option Value} {x : Int64} (h : OK Z X cc own nL R) (hd : decode cc pc = .ok (.lstore 9, 2)) (ha : nl a8 = true) (hn : 10 < nL) (hp : pc + 2 = pc') (k : GG Z X pc' (a0 :: a1 :: a2 :: a3 :: a4 :: a5 :: a6 :: a7 :: a8 :: some (.long x) :: none :: t) S w) : GG Z X pc (a0 :: a1 :: a2 :: a3 :: a4 :: a5 :: a6 :: a7 :: a8 :: b :: b2 :: t) (.long x :: S) w := g_lstoreC h hd (by exact ha) hn hp k
theorem g_iinc9 {Z : ZT} {X : XT} {cc : ByteArray} {own : String} {nL : Nat} {R : Room} {pc pc' : Nat} {S : List Value} {w : va_W} {a0 a1 a2 a3 a4 a5 a6 a7 a8 : Option Value} {t : List (Option Value)} {x v : Int32} {n : Int} (h : OK Z X cc own nL R) (hd : decode cc pc = .ok (.iinc 9 n, 3)) (ha : nl a8 = true) (hv : x + Int32.ofInt n = v) (hn : 9 < nL) (hp : pc + 3 = pc') (k : GG Z X pc' (a0 :: a1 :: a2 :: a3 :: a4 :: a5 :: a6 :: a7 :: a8 :: some (.int v) :: t) S w) : GG Z X pc (a0 :: a1 :: a2 :: a3 :: a4 :: a5 :: a6 :: a7 :: a8 :: some (.int x) :: t) S w := g_iincC (x := x) h hd (by rfl) hv (by exact ha) hn hp k
theorem g_istore10 {Z : ZT} {X : XT} {cc : ByteArray} {own : String} {nL : Nat} {R : Room} {pc pc' : Nat} {S : List Value} {w : va_W} {a0 a1 a2 a3 a4 a5 a6 a7 a8 a9 : Option Value} {b : Option Value} {t : List (Option Value)} {x : Int32} (h : OK Z X cc own nL R) (hd : decode cc pc = .ok (.istore 10, 2)) (ha : nl a9 = true) (hn : 10 < nL) (hp : pc + 2 = pc') (k : GG Z X pc' (a0 :: a1 :: a2 :: a3 :: a4 :: a5 :: a6 :: a7 :: a8 :: a9 :: some (.int x) :: t) S w) : GG Z X pc (a0 :: a1 :: a2 :: a3 :: a4 :: a5 :: a6 :: a7 :: a8 :: a9 :: b :: t) (.int x :: S) w := g_istoreC h hd (by exact ha) hn hp k
theorem g_lstore10 {Z : ZT} {X : XT} {cc : ByteArray} {own : String} {nL : Nat} {R : Room} {pc pc' : Nat} {S : List Value} {w : va_W} {a0 a1 a2 a3 a4 a5 a6 a7 a8 a9 : Option Value} {b : Option Value} {t : List (Option Value)} {b2 : Option Value} {x : Int64} (h : OK Z X cc own nL R) (hd : decode cc pc = .ok (.lstore 10, 2)) (ha : nl a9 = true) (hn : 11 < nL) (hp : pc + 2 = pc') (k : GG Z X pc' (a0 :: a1 :: a2 :: a3 :: a4 :: a5 :: a6 :: a7 :: a8 :: a9 :: some (.long x) :: none :: t) S w) : GG Z X pc (a0 :: a1 :: a2 :: a3 :: a4 :: a5 :: a6 :: a7 :: a8 :: a9 :: b :: b2 :: t) (.long x :: S) w := g_lstoreC h hd (by exact ha) hn hp k
theorem g_iinc10 {Z : ZT} {X : XT} {cc : ByteArray} {own : String} {nL : Nat} {R : Room} {pc pc' : Nat} {S : List Value} {w : va_W} {a0 a1 a2 a3 a4 a5 a6 a7 a8 a9 : Option Value} {t : List (Option Value)} {x v : Int32} {n : Int} (h : OK Z X cc own nL R) (hd : decode cc pc = .ok (.iinc 10 n, 3)) (ha : nl a9 = true) (hv : x + Int32.ofInt n = v) (hn : 10 < nL) (hp : pc + 3 = pc') (k : GG Z X pc' (a0 :: a1 :: a2 :: a3 :: a4 :: a5 :: a6 :: a7 :: a8 :: a9 :: some (.int v) :: t) S w) : GG Z X pc (a0 :: a1 :: a2 :: a3 :: a4 :: a5 :: a6 :: a7 :: a8 :: a9 :: some (.int x) :: t) S w := g_iincC (x := x) h hd (by rfl) hv (by exact ha) hn hp k
theorem g_iadd {Z : ZT} {X : XT} {cc : ByteArray} {own : String} {nL : Nat} {R : Room} {pc pc' : Nat} {L : List (Option Value)} {S : List Value} {w : va_W} {x y : Int32} (h : OK Z X cc own nL R) (hd : decode cc pc = .ok (.iadd, 1))  (hp : pc + 1 = pc') (k : GG Z X pc' L (.int (x + y) :: S) w) : GG Z X pc L (.int y :: .int x :: S) w := by
  obtain ⟨p, l, e, R0, s, m, args, below, meth, c, ce, sl, nL', A, Q⟩ := X
  obtain ⟨⟨hx, hb, hml⟩, hown, hts, hlk, hK, hST, hA, rfl, rfl, hce, hsl⟩ := h
  subst hp
  intro H locs ls hP hD hS hl
  exact lv_iadd hx hb hd (k H locs ls hP hD hS hl)
theorem g_isub {Z : ZT} {X : XT} {cc : ByteArray} {own : String} {nL : Nat} {R : Room} {pc pc' : Nat} {L : List (Option Value)} {S : List Value} {w : va_W} {x y : Int32} (h : OK Z X cc own nL R) (hd : decode cc pc = .ok (.isub, 1))  (hp : pc + 1 = pc') (k : GG Z X pc' L (.int (x - y) :: S) w) : GG Z X pc L (.int y :: .int x :: S) w := by
  obtain ⟨p, l, e, R0, s, m, args, below, meth, c, ce, sl, nL', A, Q⟩ := X
  obtain ⟨⟨hx, hb, hml⟩, hown, hts, hlk, hK, hST, hA, rfl, rfl, hce, hsl⟩ := h
  subst hp
  intro H locs ls hP hD hS hl
  exact lv_isub hx hb hd (k H locs ls hP hD hS hl)
theorem g_imul {Z : ZT} {X : XT} {cc : ByteArray} {own : String} {nL : Nat} {R : Room} {pc pc' : Nat} {L : List (Option Value)} {S : List Value} {w : va_W} {x y : Int32} (h : OK Z X cc own nL R) (hd : decode cc pc = .ok (.imul, 1))  (hp : pc + 1 = pc') (k : GG Z X pc' L (.int (x * y) :: S) w) : GG Z X pc L (.int y :: .int x :: S) w := by
  obtain ⟨p, l, e, R0, s, m, args, below, meth, c, ce, sl, nL', A, Q⟩ := X
  obtain ⟨⟨hx, hb, hml⟩, hown, hts, hlk, hK, hST, hA, rfl, rfl, hce, hsl⟩ := h
  subst hp
  intro H locs ls hP hD hS hl
  exact lv_imul hx hb hd (k H locs ls hP hD hS hl)
theorem g_iand {Z : ZT} {X : XT} {cc : ByteArray} {own : String} {nL : Nat} {R : Room} {pc pc' : Nat} {L : List (Option Value)} {S : List Value} {w : va_W} {x y : Int32} (h : OK Z X cc own nL R) (hd : decode cc pc = .ok (.iand, 1))  (hp : pc + 1 = pc') (k : GG Z X pc' L (.int (x &&& y) :: S) w) : GG Z X pc L (.int y :: .int x :: S) w := by
  obtain ⟨p, l, e, R0, s, m, args, below, meth, c, ce, sl, nL', A, Q⟩ := X
  obtain ⟨⟨hx, hb, hml⟩, hown, hts, hlk, hK, hST, hA, rfl, rfl, hce, hsl⟩ := h
  subst hp
  intro H locs ls hP hD hS hl
  exact lv_iand hx hb hd (k H locs ls hP hD hS hl)
theorem g_ladd {Z : ZT} {X : XT} {cc : ByteArray} {own : String} {nL : Nat} {R : Room} {pc pc' : Nat} {L : List (Option Value)} {S : List Value} {w : va_W} {x y : Int64} (h : OK Z X cc own nL R) (hd : decode cc pc = .ok (.ladd, 1))  (hp : pc + 1 = pc') (k : GG Z X pc' L (.long (x + y) :: S) w) : GG Z X pc L (.long y :: .long x :: S) w := by
  obtain ⟨p, l, e, R0, s, m, args, below, meth, c, ce, sl, nL', A, Q⟩ := X
  obtain ⟨⟨hx, hb, hml⟩, hown, hts, hlk, hK, hST, hA, rfl, rfl, hce, hsl⟩ := h
  subst hp
  intro H locs ls hP hD hS hl
  exact lv_ladd hx hb hd (k H locs ls hP hD hS hl)
theorem g_lsub {Z : ZT} {X : XT} {cc : ByteArray} {own : String} {nL : Nat} {R : Room} {pc pc' : Nat} {L : List (Option Value)} {S : List Value} {w : va_W} {x y : Int64} (h : OK Z X cc own nL R) (hd : decode cc pc = .ok (.lsub, 1))  (hp : pc + 1 = pc') (k : GG Z X pc' L (.long (x - y) :: S) w) : GG Z X pc L (.long y :: .long x :: S) w := by
  obtain ⟨p, l, e, R0, s, m, args, below, meth, c, ce, sl, nL', A, Q⟩ := X
  obtain ⟨⟨hx, hb, hml⟩, hown, hts, hlk, hK, hST, hA, rfl, rfl, hce, hsl⟩ := h
  subst hp
  intro H locs ls hP hD hS hl
  exact lv_lsub hx hb hd (k H locs ls hP hD hS hl)
theorem g_lmul {Z : ZT} {X : XT} {cc : ByteArray} {own : String} {nL : Nat} {R : Room} {pc pc' : Nat} {L : List (Option Value)} {S : List Value} {w : va_W} {x y : Int64} (h : OK Z X cc own nL R) (hd : decode cc pc = .ok (.lmul, 1))  (hp : pc + 1 = pc') (k : GG Z X pc' L (.long (x * y) :: S) w) : GG Z X pc L (.long y :: .long x :: S) w := by
  obtain ⟨p, l, e, R0, s, m, args, below, meth, c, ce, sl, nL', A, Q⟩ := X
  obtain ⟨⟨hx, hb, hml⟩, hown, hts, hlk, hK, hST, hA, rfl, rfl, hce, hsl⟩ := h
  subst hp
  intro H locs ls hP hD hS hl
  exact lv_lmul hx hb hd (k H locs ls hP hD hS hl)
theorem g_idiv {Z : ZT} {X : XT} {cc : ByteArray} {own : String} {nL : Nat} {R : Room} {pc pc' : Nat} {L : List (Option Value)} {S : List Value} {w : va_W} {x y : Int32} (h : OK Z X cc own nL R) (hd : decode cc pc = .ok (.idiv, 1)) (hne : ¬ y = 0) (hp : pc + 1 = pc') (k : GG Z X pc' L (.int (x / y) :: S) w) : GG Z X pc L (.int y :: .int x :: S) w := by
  obtain ⟨p, l, e, R0, s, m, args, below, meth, c, ce, sl, nL', A, Q⟩ := X
  obtain ⟨⟨hx, hb, hml⟩, hown, hts, hlk, hK, hST, hA, rfl, rfl, hce, hsl⟩ := h
  subst hp
  intro H locs ls hP hD hS hl
  exact lv_idiv hx hb hd hne (k H locs ls hP hD hS hl)
theorem g_irem {Z : ZT} {X : XT} {cc : ByteArray} {own : String} {nL : Nat} {R : Room} {pc pc' : Nat} {L : List (Option Value)} {S : List Value} {w : va_W} {x y : Int32} (h : OK Z X cc own nL R) (hd : decode cc pc = .ok (.irem, 1)) (hne : ¬ y = 0) (hp : pc + 1 = pc') (k : GG Z X pc' L (.int (x - x / y * y) :: S) w) : GG Z X pc L (.int y :: .int x :: S) w := by
  obtain ⟨p, l, e, R0, s, m, args, below, meth, c, ce, sl, nL', A, Q⟩ := X
  obtain ⟨⟨hx, hb, hml⟩, hown, hts, hlk, hK, hST, hA, rfl, rfl, hce, hsl⟩ := h
  subst hp
  intro H locs ls hP hD hS hl
  exact lv_irem hx hb hd hne (k H locs ls hP hD hS hl)
theorem g_ldiv {Z : ZT} {X : XT} {cc : ByteArray} {own : String} {nL : Nat} {R : Room} {pc pc' : Nat} {L : List (Option Value)} {S : List Value} {w : va_W} {x y : Int64} (h : OK Z X cc own nL R) (hd : decode cc pc = .ok (.ldiv, 1)) (hne : ¬ y = 0) (hp : pc + 1 = pc') (k : GG Z X pc' L (.long (x / y) :: S) w) : GG Z X pc L (.long y :: .long x :: S) w := by
  obtain ⟨p, l, e, R0, s, m, args, below, meth, c, ce, sl, nL', A, Q⟩ := X
  obtain ⟨⟨hx, hb, hml⟩, hown, hts, hlk, hK, hST, hA, rfl, rfl, hce, hsl⟩ := h
  subst hp
  intro H locs ls hP hD hS hl
  exact lv_ldiv hx hb hd hne (k H locs ls hP hD hS hl)
theorem g_lrem {Z : ZT} {X : XT} {cc : ByteArray} {own : String} {nL : Nat} {R : Room} {pc pc' : Nat} {L : List (Option Value)} {S : List Value} {w : va_W} {x y : Int64} (h : OK Z X cc own nL R) (hd : decode cc pc = .ok (.lrem, 1)) (hne : ¬ y = 0) (hp : pc + 1 = pc') (k : GG Z X pc' L (.long (x - x / y * y) :: S) w) : GG Z X pc L (.long y :: .long x :: S) w := by
  obtain ⟨p, l, e, R0, s, m, args, below, meth, c, ce, sl, nL', A, Q⟩ := X
  obtain ⟨⟨hx, hb, hml⟩, hown, hts, hlk, hK, hST, hA, rfl, rfl, hce, hsl⟩ := h
  subst hp
  intro H locs ls hP hD hS hl
  exact lv_lrem hx hb hd hne (k H locs ls hP hD hS hl)
theorem g_ineg {Z : ZT} {X : XT} {cc : ByteArray} {own : String} {nL : Nat} {R : Room} {pc pc' : Nat} {L : List (Option Value)} {S : List Value} {w : va_W} {x v : Int32} (h : OK Z X cc own nL R) (hd : decode cc pc = .ok (.ineg, 1)) (hv : -x = v) (hp : pc + 1 = pc') (k : GG Z X pc' L (.int v :: S) w) : GG Z X pc L (.int x :: S) w := by
  obtain ⟨p, l, e, R0, s, m, args, below, meth, c, ce, sl, nL', A, Q⟩ := X
  obtain ⟨⟨hx, hb, hml⟩, hown, hts, hlk, hK, hST, hA, rfl, rfl, hce, hsl⟩ := h
  subst hp
  intro H locs ls hP hD hS hl
  subst hv; exact lv_ineg hx hb hd (k H locs ls hP hD hS hl)
theorem g_lneg {Z : ZT} {X : XT} {cc : ByteArray} {own : String} {nL : Nat} {R : Room} {pc pc' : Nat} {L : List (Option Value)} {S : List Value} {w : va_W} {x v : Int64} (h : OK Z X cc own nL R) (hd : decode cc pc = .ok (.lneg, 1)) (hv : -x = v) (hp : pc + 1 = pc') (k : GG Z X pc' L (.long v :: S) w) : GG Z X pc L (.long x :: S) w := by
  obtain ⟨p, l, e, R0, s, m, args, below, meth, c, ce, sl, nL', A, Q⟩ := X
  obtain ⟨⟨hx, hb, hml⟩, hown, hts, hlk, hK, hST, hA, rfl, rfl, hce, hsl⟩ := h
  subst hp
  intro H locs ls hP hD hS hl
  subst hv; exact lv_lneg hx hb hd (k H locs ls hP hD hS hl)
theorem g_i2l {Z : ZT} {X : XT} {cc : ByteArray} {own : String} {nL : Nat} {R : Room} {pc pc' : Nat} {L : List (Option Value)} {S : List Value} {w : va_W} {x : Int32} (h : OK Z X cc own nL R) (hd : decode cc pc = .ok (.i2l, 1))  (hp : pc + 1 = pc') (k : GG Z X pc' L (.long x.toInt64 :: S) w) : GG Z X pc L (.int x :: S) w := by
  obtain ⟨p, l, e, R0, s, m, args, below, meth, c, ce, sl, nL', A, Q⟩ := X
  obtain ⟨⟨hx, hb, hml⟩, hown, hts, hlk, hK, hST, hA, rfl, rfl, hce, hsl⟩ := h
  subst hp
  intro H locs ls hP hD hS hl
  exact lv_i2l hx hb hd rfl (k H locs ls hP hD hS hl)
theorem g_l2i {Z : ZT} {X : XT} {cc : ByteArray} {own : String} {nL : Nat} {R : Room} {pc pc' : Nat} {L : List (Option Value)} {S : List Value} {w : va_W} {x : Int64} (h : OK Z X cc own nL R) (hd : decode cc pc = .ok (.l2i, 1))  (hp : pc + 1 = pc') (k : GG Z X pc' L (.int x.toInt32 :: S) w) : GG Z X pc L (.long x :: S) w := by
  obtain ⟨p, l, e, R0, s, m, args, below, meth, c, ce, sl, nL', A, Q⟩ := X
  obtain ⟨⟨hx, hb, hml⟩, hown, hts, hlk, hK, hST, hA, rfl, rfl, hce, hsl⟩ := h
  subst hp
  intro H locs ls hP hD hS hl
  exact lv_l2i hx hb hd rfl (k H locs ls hP hD hS hl)
theorem g_lcmp {Z : ZT} {X : XT} {cc : ByteArray} {own : String} {nL : Nat} {R : Room} {pc pc' : Nat} {L : List (Option Value)} {S : List Value} {w : va_W} {x y : Int64} (h : OK Z X cc own nL R) (hd : decode cc pc = .ok (.lcmp, 1))  (hp : pc + 1 = pc') (k : GG Z X pc' L (.int (lg_cmp x y) :: S) w) : GG Z X pc L (.long y :: .long x :: S) w := by
  obtain ⟨p, l, e, R0, s, m, args, below, meth, c, ce, sl, nL', A, Q⟩ := X
  obtain ⟨⟨hx, hb, hml⟩, hown, hts, hlk, hK, hST, hA, rfl, rfl, hce, hsl⟩ := h
  subst hp
  intro H locs ls hP hD hS hl
  exact W.lcmp hx hb hd (k H locs ls hP hD hS hl)
theorem g_iaddN {Z : ZT} {X : XT} {cc : ByteArray} {own : String} {nL : Nat} {R : Room} {pc pc' : Nat} {L : List (Option Value)} {S : List Value} {w : va_W} {a b : Nat} (h : OK Z X cc own nL R) (hd : decode cc pc = .ok (.iadd, 1))  (hp : pc + 1 = pc') (k : GG Z X pc' L (.int (nI (a + b)) :: S) w) : GG Z X pc L (.int (nI b) :: .int (nI a) :: S) w := by
  obtain ⟨p, l, e, R0, s, m, args, below, meth, c, ce, sl, nL', A, Q⟩ := X
  obtain ⟨⟨hx, hb, hml⟩, hown, hts, hlk, hK, hST, hA, rfl, rfl, hce, hsl⟩ := h
  subst hp
  intro H locs ls hP hD hS hl
  exact lv_iadd hx hb hd (by rw [nI_add]; exact k H locs ls hP hD hS hl)
theorem g_imulN {Z : ZT} {X : XT} {cc : ByteArray} {own : String} {nL : Nat} {R : Room} {pc pc' : Nat} {L : List (Option Value)} {S : List Value} {w : va_W} {a b : Nat} (h : OK Z X cc own nL R) (hd : decode cc pc = .ok (.imul, 1))  (hp : pc + 1 = pc') (k : GG Z X pc' L (.int (nI (a * b)) :: S) w) : GG Z X pc L (.int (nI b) :: .int (nI a) :: S) w := by
  obtain ⟨p, l, e, R0, s, m, args, below, meth, c, ce, sl, nL', A, Q⟩ := X
  obtain ⟨⟨hx, hb, hml⟩, hown, hts, hlk, hK, hST, hA, rfl, rfl, hce, hsl⟩ := h
  subst hp
  intro H locs ls hP hD hS hl
  exact lv_imul hx hb hd (by rw [pk_mul]; exact k H locs ls hP hD hS hl)
theorem g_isubN {Z : ZT} {X : XT} {cc : ByteArray} {own : String} {nL : Nat} {R : Room} {pc pc' : Nat} {L : List (Option Value)} {S : List Value} {w : va_W} {a b : Nat} (h : OK Z X cc own nL R) (hd : decode cc pc = .ok (.isub, 1)) (hba : b ≤ a) (hp : pc + 1 = pc') (k : GG Z X pc' L (.int (nI (a - b)) :: S) w) : GG Z X pc L (.int (nI b) :: .int (nI a) :: S) w := by
  obtain ⟨p, l, e, R0, s, m, args, below, meth, c, ce, sl, nL', A, Q⟩ := X
  obtain ⟨⟨hx, hb, hml⟩, hown, hts, hlk, hK, hST, hA, rfl, rfl, hce, hsl⟩ := h
  subst hp
  intro H locs ls hP hD hS hl
  exact lv_isub hx hb hd (by rw [pk_sub hba]; exact k H locs ls hP hD hS hl)
theorem g_idivN {Z : ZT} {X : XT} {cc : ByteArray} {own : String} {nL : Nat} {R : Room} {pc pc' : Nat} {L : List (Option Value)} {S : List Value} {w : va_W} {a b : Nat} (h : OK Z X cc own nL R) (hd : decode cc pc = .ok (.idiv, 1)) (ha : a < 2 ^ 31) (h0 : 0 < b) (hb1 : b < 2 ^ 31) (hp : pc + 1 = pc') (k : GG Z X pc' L (.int (nI (a / b)) :: S) w) : GG Z X pc L (.int (nI b) :: .int (nI a) :: S) w := by
  obtain ⟨p, l, e, R0, s, m, args, below, meth, c, ce, sl, nL', A, Q⟩ := X
  obtain ⟨⟨hx, hb, hml⟩, hown, hts, hlk, hK, hST, hA, rfl, rfl, hce, hsl⟩ := h
  subst hp
  intro H locs ls hP hD hS hl
  exact lv_idiv hx hb hd (fun q => absurd q (nI_ne0 h0 hb1)) (by rw [pk_div ha h0 hb1]; exact k H locs ls hP hD hS hl)
theorem g_iremN {Z : ZT} {X : XT} {cc : ByteArray} {own : String} {nL : Nat} {R : Room} {pc pc' : Nat} {L : List (Option Value)} {S : List Value} {w : va_W} {a b : Nat} (h : OK Z X cc own nL R) (hd : decode cc pc = .ok (.irem, 1)) (ha : a < 2 ^ 31) (h0 : 0 < b) (hb1 : b < 2 ^ 31) (hp : pc + 1 = pc') (k : GG Z X pc' L (.int (nI (a % b)) :: S) w) : GG Z X pc L (.int (nI b) :: .int (nI a) :: S) w := by
  obtain ⟨p, l, e, R0, s, m, args, below, meth, c, ce, sl, nL', A, Q⟩ := X
  obtain ⟨⟨hx, hb, hml⟩, hown, hts, hlk, hK, hST, hA, rfl, rfl, hce, hsl⟩ := h
  subst hp
  intro H locs ls hP hD hS hl
  exact lv_irem hx hb hd (fun q => absurd q (nI_ne0 h0 hb1)) (by rw [pk_rem ha h0 hb1]; exact k H locs ls hP hD hS hl)
theorem g_dupI {Z : ZT} {X : XT} {cc : ByteArray} {own : String} {nL : Nat} {R : Room} {pc pc' : Nat} {L : List (Option Value)} {S : List Value} {w : va_W} {x : Int32} (h : OK Z X cc own nL R) (hd : decode cc pc = .ok (.dup, 1))  (hp : pc + 1 = pc') (k : GG Z X pc' L (.int x :: .int x :: S) w) : GG Z X pc L (.int x :: S) w := by
  obtain ⟨p, l, e, R0, s, m, args, below, meth, c, ce, sl, nL', A, Q⟩ := X
  obtain ⟨⟨hx, hb, hml⟩, hown, hts, hlk, hK, hST, hA, rfl, rfl, hce, hsl⟩ := h
  subst hp
  intro H locs ls hP hD hS hl
  exact lv_dup hx hb hd rfl (k H locs ls hP hD hS hl)
theorem g_dupR {Z : ZT} {X : XT} {cc : ByteArray} {own : String} {nL : Nat} {R : Room} {pc pc' : Nat} {L : List (Option Value)} {S : List Value} {w : va_W} {x : Nat} (h : OK Z X cc own nL R) (hd : decode cc pc = .ok (.dup, 1))  (hp : pc + 1 = pc') (k : GG Z X pc' L (.ref x :: .ref x :: S) w) : GG Z X pc L (.ref x :: S) w := by
  obtain ⟨p, l, e, R0, s, m, args, below, meth, c, ce, sl, nL', A, Q⟩ := X
  obtain ⟨⟨hx, hb, hml⟩, hown, hts, hlk, hK, hST, hA, rfl, rfl, hce, hsl⟩ := h
  subst hp
  intro H locs ls hP hD hS hl
  exact lv_dup hx hb hd rfl (k H locs ls hP hD hS hl)
theorem g_dup2 {Z : ZT} {X : XT} {cc : ByteArray} {own : String} {nL : Nat} {R : Room} {pc pc' : Nat} {L : List (Option Value)} {S : List Value} {w : va_W} {x y : Int32} {a : Nat} (h : OK Z X cc own nL R) (hd : decode cc pc = .ok (.dup2, 1))  (hp : pc + 1 = pc') (k : GG Z X pc' L (.int x :: .ref a :: .int x :: .ref a :: S) w) : GG Z X pc L (.int x :: .ref a :: S) w := by
  obtain ⟨p, l, e, R0, s, m, args, below, meth, c, ce, sl, nL', A, Q⟩ := X
  obtain ⟨⟨hx, hb, hml⟩, hown, hts, hlk, hK, hST, hA, rfl, rfl, hce, hsl⟩ := h
  subst hp
  intro H locs ls hP hD hS hl
  exact lv_dup2_11 hx hb hd rfl rfl (k H locs ls hP hD hS hl)
theorem g_goto {Z : ZT} {X : XT} {cc : ByteArray} {own : String} {nL : Nat} {R : Room} {pc pc' : Nat} {L : List (Option Value)} {S : List Value} {w : va_W} {off : Int} (h : OK Z X cc own nL R) (hd : decode cc pc = .ok (.goto off, 3)) (hp : (pc : Int) + off = (pc' : Int)) (k : GG Z X pc' L S w) : GG Z X pc L S w := by
  obtain ⟨p, l, e, R0, s, m, args, below, meth, c, ce, sl, nL', A, Q⟩ := X
  obtain ⟨⟨hx, hb, hml⟩, hown, hts, hlk, hK, hST, hA, rfl, rfl, hce, hsl⟩ := h
  intro H locs ls hP hD hS hl
  exact lv_goto hx hb hd hp (k H locs ls hP hD hS hl)
theorem g_ifnull {Z : ZT} {X : XT} {cc : ByteArray} {own : String} {nL : Nat} {R : Room} {pc pc' : Nat} {L : List (Option Value)} {S : List Value} {w : va_W} {off : Int} {x : Nat} (h : OK Z X cc own nL R) (hd : decode cc pc = .ok (.ifnull off, 3)) (hp : pc + 3 = pc') (k : GG Z X pc' L S w) : GG Z X pc L (.ref x :: S) w := by
  obtain ⟨p, l, e, R0, s, m, args, below, meth, c, ce, sl, nL', A, Q⟩ := X
  obtain ⟨⟨hx, hb, hml⟩, hown, hts, hlk, hK, hST, hA, rfl, rfl, hce, hsl⟩ := h
  subst hp
  intro H locs ls hP hD hS hl
  exact lv_ifnull hx hb hd (k H locs ls hP hD hS hl)
theorem g_if_eq {Z : ZT} {X : XT} {cc : ByteArray} {own : String} {nL : Nat} {R : Room} {pc pc' : Nat} {L : List (Option Value)} {S : List Value} {w : va_W} {x : Int32} {tg : Nat} {off : Int} (h : OK Z X cc own nL R) (hd : decode cc pc = .ok (.ifCond .eq off, 3)) (ht : (pc : Int) + off = (tg : Int)) (hp : pc + 3 = pc') (kt : x = 0 → GG Z X tg L S w) (kf : ¬ x = 0 → GG Z X pc' L S w) : GG Z X pc L (.int x :: S) w := by
  obtain ⟨p, l, e, R0, s, m, args, below, meth, c, ce, sl, nL', A, Q⟩ := X
  obtain ⟨⟨hx, hb, hml⟩, hown, hts, hlk, hK, hST, hA, rfl, rfl, hce, hsl⟩ := h
  subst hp
  intro H locs ls hP hD hS hl
  exact lv_if_eq hx hb hd ht (fun q => kt q H locs ls hP hD hS hl) (fun q => kf q H locs ls hP hD hS hl)
theorem g_if_eqT {Z : ZT} {X : XT} {cc : ByteArray} {own : String} {nL : Nat} {R : Room} {pc : Nat} {L : List (Option Value)} {S : List Value} {w : va_W} {x : Int32} {tg : Nat} {off : Int} (h : OK Z X cc own nL R) (hd : decode cc pc = .ok (.ifCond .eq off, 3)) (ht : (pc : Int) + off = (tg : Int)) (hq : x = 0) (kt : GG Z X tg L S w) : GG Z X pc L (.int x :: S) w := g_if_eq h hd ht rfl (fun _ => kt) (fun q => absurd hq q)
theorem g_if_eqF {Z : ZT} {X : XT} {cc : ByteArray} {own : String} {nL : Nat} {R : Room} {pc pc' : Nat} {L : List (Option Value)} {S : List Value} {w : va_W} {x : Int32} {tg : Nat} {off : Int} (h : OK Z X cc own nL R) (hd : decode cc pc = .ok (.ifCond .eq off, 3)) (ht : (pc : Int) + off = (tg : Int)) (hp : pc + 3 = pc') (hq : ¬ x = 0) (kf : GG Z X pc' L S w) : GG Z X pc L (.int x :: S) w := g_if_eq h hd ht hp (fun q => absurd q hq) (fun _ => kf)
theorem g_icmp_eq {Z : ZT} {X : XT} {cc : ByteArray} {own : String} {nL : Nat} {R : Room} {pc pc' : Nat} {L : List (Option Value)} {S : List Value} {w : va_W} {x y : Int32} {tg : Nat} {off : Int} (h : OK Z X cc own nL R) (hd : decode cc pc = .ok (.if_icmp .eq off, 3)) (ht : (pc : Int) + off = (tg : Int)) (hp : pc + 3 = pc') (kt : x = y → GG Z X tg L S w) (kf : ¬ x = y → GG Z X pc' L S w) : GG Z X pc L (.int y :: .int x :: S) w := by
  obtain ⟨p, l, e, R0, s, m, args, below, meth, c, ce, sl, nL', A, Q⟩ := X
  obtain ⟨⟨hx, hb, hml⟩, hown, hts, hlk, hK, hST, hA, rfl, rfl, hce, hsl⟩ := h
  subst hp
  intro H locs ls hP hD hS hl
  exact lv_icmp_eq hx hb hd ht (fun q => kt q H locs ls hP hD hS hl) (fun q => kf q H locs ls hP hD hS hl)
theorem g_icmp_eqT {Z : ZT} {X : XT} {cc : ByteArray} {own : String} {nL : Nat} {R : Room} {pc : Nat} {L : List (Option Value)} {S : List Value} {w : va_W} {x y : Int32} {tg : Nat} {off : Int} (h : OK Z X cc own nL R) (hd : decode cc pc = .ok (.if_icmp .eq off, 3)) (ht : (pc : Int) + off = (tg : Int)) (hq : x = y) (kt : GG Z X tg L S w) : GG Z X pc L (.int y :: .int x :: S) w := g_icmp_eq h hd ht rfl (fun _ => kt) (fun q => absurd hq q)
theorem g_icmp_eqF {Z : ZT} {X : XT} {cc : ByteArray} {own : String} {nL : Nat} {R : Room} {pc pc' : Nat} {L : List (Option Value)} {S : List Value} {w : va_W} {x y : Int32} {tg : Nat} {off : Int} (h : OK Z X cc own nL R) (hd : decode cc pc = .ok (.if_icmp .eq off, 3)) (ht : (pc : Int) + off = (tg : Int)) (hp : pc + 3 = pc') (hq : ¬ x = y) (kf : GG Z X pc' L S w) : GG Z X pc L (.int y :: .int x :: S) w := g_icmp_eq h hd ht hp (fun q => absurd q hq) (fun _ => kf)
theorem g_if_ne {Z : ZT} {X : XT} {cc : ByteArray} {own : String} {nL : Nat} {R : Room} {pc pc' : Nat} {L : List (Option Value)} {S : List Value} {w : va_W} {x : Int32} {tg : Nat} {off : Int} (h : OK Z X cc own nL R) (hd : decode cc pc = .ok (.ifCond .ne off, 3)) (ht : (pc : Int) + off = (tg : Int)) (hp : pc + 3 = pc') (kt : ¬ x = 0 → GG Z X tg L S w) (kf : x = 0 → GG Z X pc' L S w) : GG Z X pc L (.int x :: S) w := by
  obtain ⟨p, l, e, R0, s, m, args, below, meth, c, ce, sl, nL', A, Q⟩ := X
  obtain ⟨⟨hx, hb, hml⟩, hown, hts, hlk, hK, hST, hA, rfl, rfl, hce, hsl⟩ := h
  subst hp
  intro H locs ls hP hD hS hl
  exact lv_if_ne hx hb hd ht (fun q => kt q H locs ls hP hD hS hl) (fun q => kf q H locs ls hP hD hS hl)
theorem g_if_neT {Z : ZT} {X : XT} {cc : ByteArray} {own : String} {nL : Nat} {R : Room} {pc : Nat} {L : List (Option Value)} {S : List Value} {w : va_W} {x : Int32} {tg : Nat} {off : Int} (h : OK Z X cc own nL R) (hd : decode cc pc = .ok (.ifCond .ne off, 3)) (ht : (pc : Int) + off = (tg : Int)) (hq : ¬ x = 0) (kt : GG Z X tg L S w) : GG Z X pc L (.int x :: S) w := g_if_ne h hd ht rfl (fun _ => kt) (fun q => absurd q hq)
theorem g_if_neF {Z : ZT} {X : XT} {cc : ByteArray} {own : String} {nL : Nat} {R : Room} {pc pc' : Nat} {L : List (Option Value)} {S : List Value} {w : va_W} {x : Int32} {tg : Nat} {off : Int} (h : OK Z X cc own nL R) (hd : decode cc pc = .ok (.ifCond .ne off, 3)) (ht : (pc : Int) + off = (tg : Int)) (hp : pc + 3 = pc') (hq : x = 0) (kf : GG Z X pc' L S w) : GG Z X pc L (.int x :: S) w := g_if_ne h hd ht hp (fun q => absurd hq q) (fun _ => kf)
theorem g_icmp_ne {Z : ZT} {X : XT} {cc : ByteArray} {own : String} {nL : Nat} {R : Room} {pc pc' : Nat} {L : List (Option Value)} {S : List Value} {w : va_W} {x y : Int32} {tg : Nat} {off : Int} (h : OK Z X cc own nL R) (hd : decode cc pc = .ok (.if_icmp .ne off, 3)) (ht : (pc : Int) + off = (tg : Int)) (hp : pc + 3 = pc') (kt : ¬ x = y → GG Z X tg L S w) (kf : x = y → GG Z X pc' L S w) : GG Z X pc L (.int y :: .int x :: S) w := by
  obtain ⟨p, l, e, R0, s, m, args, below, meth, c, ce, sl, nL', A, Q⟩ := X
  obtain ⟨⟨hx, hb, hml⟩, hown, hts, hlk, hK, hST, hA, rfl, rfl, hce, hsl⟩ := h
  subst hp
  intro H locs ls hP hD hS hl
  exact lv_icmp_ne hx hb hd ht (fun q => kt q H locs ls hP hD hS hl) (fun q => kf q H locs ls hP hD hS hl)
theorem g_icmp_neT {Z : ZT} {X : XT} {cc : ByteArray} {own : String} {nL : Nat} {R : Room} {pc : Nat} {L : List (Option Value)} {S : List Value} {w : va_W} {x y : Int32} {tg : Nat} {off : Int} (h : OK Z X cc own nL R) (hd : decode cc pc = .ok (.if_icmp .ne off, 3)) (ht : (pc : Int) + off = (tg : Int)) (hq : ¬ x = y) (kt : GG Z X tg L S w) : GG Z X pc L (.int y :: .int x :: S) w := g_icmp_ne h hd ht rfl (fun _ => kt) (fun q => absurd q hq)
theorem g_icmp_neF {Z : ZT} {X : XT} {cc : ByteArray} {own : String} {nL : Nat} {R : Room} {pc pc' : Nat} {L : List (Option Value)} {S : List Value} {w : va_W} {x y : Int32} {tg : Nat} {off : Int} (h : OK Z X cc own nL R) (hd : decode cc pc = .ok (.if_icmp .ne off, 3)) (ht : (pc : Int) + off = (tg : Int)) (hp : pc + 3 = pc') (hq : x = y) (kf : GG Z X pc' L S w) : GG Z X pc L (.int y :: .int x :: S) w := g_icmp_ne h hd ht hp (fun q => absurd hq q) (fun _ => kf)
theorem g_if_lt {Z : ZT} {X : XT} {cc : ByteArray} {own : String} {nL : Nat} {R : Room} {pc pc' : Nat} {L : List (Option Value)} {S : List Value} {w : va_W} {x : Int32} {tg : Nat} {off : Int} (h : OK Z X cc own nL R) (hd : decode cc pc = .ok (.ifCond .lt off, 3)) (ht : (pc : Int) + off = (tg : Int)) (hp : pc + 3 = pc') (kt : x < 0 → GG Z X tg L S w) (kf : ¬ x < 0 → GG Z X pc' L S w) : GG Z X pc L (.int x :: S) w := by
  obtain ⟨p, l, e, R0, s, m, args, below, meth, c, ce, sl, nL', A, Q⟩ := X
  obtain ⟨⟨hx, hb, hml⟩, hown, hts, hlk, hK, hST, hA, rfl, rfl, hce, hsl⟩ := h
  subst hp
  intro H locs ls hP hD hS hl
  exact lv_if_lt hx hb hd ht (fun q => kt q H locs ls hP hD hS hl) (fun q => kf q H locs ls hP hD hS hl)
theorem g_if_ltT {Z : ZT} {X : XT} {cc : ByteArray} {own : String} {nL : Nat} {R : Room} {pc : Nat} {L : List (Option Value)} {S : List Value} {w : va_W} {x : Int32} {tg : Nat} {off : Int} (h : OK Z X cc own nL R) (hd : decode cc pc = .ok (.ifCond .lt off, 3)) (ht : (pc : Int) + off = (tg : Int)) (hq : x < 0) (kt : GG Z X tg L S w) : GG Z X pc L (.int x :: S) w := g_if_lt h hd ht rfl (fun _ => kt) (fun q => absurd hq q)
theorem g_if_ltF {Z : ZT} {X : XT} {cc : ByteArray} {own : String} {nL : Nat} {R : Room} {pc pc' : Nat} {L : List (Option Value)} {S : List Value} {w : va_W} {x : Int32} {tg : Nat} {off : Int} (h : OK Z X cc own nL R) (hd : decode cc pc = .ok (.ifCond .lt off, 3)) (ht : (pc : Int) + off = (tg : Int)) (hp : pc + 3 = pc') (hq : ¬ x < 0) (kf : GG Z X pc' L S w) : GG Z X pc L (.int x :: S) w := g_if_lt h hd ht hp (fun q => absurd q hq) (fun _ => kf)
theorem g_icmp_lt {Z : ZT} {X : XT} {cc : ByteArray} {own : String} {nL : Nat} {R : Room} {pc pc' : Nat} {L : List (Option Value)} {S : List Value} {w : va_W} {x y : Int32} {tg : Nat} {off : Int} (h : OK Z X cc own nL R) (hd : decode cc pc = .ok (.if_icmp .lt off, 3)) (ht : (pc : Int) + off = (tg : Int)) (hp : pc + 3 = pc') (kt : x < y → GG Z X tg L S w) (kf : ¬ x < y → GG Z X pc' L S w) : GG Z X pc L (.int y :: .int x :: S) w := by
  obtain ⟨p, l, e, R0, s, m, args, below, meth, c, ce, sl, nL', A, Q⟩ := X
  obtain ⟨⟨hx, hb, hml⟩, hown, hts, hlk, hK, hST, hA, rfl, rfl, hce, hsl⟩ := h
  subst hp
  intro H locs ls hP hD hS hl
  exact lv_icmp_lt hx hb hd ht (fun q => kt q H locs ls hP hD hS hl) (fun q => kf q H locs ls hP hD hS hl)
theorem g_icmp_ltT {Z : ZT} {X : XT} {cc : ByteArray} {own : String} {nL : Nat} {R : Room} {pc : Nat} {L : List (Option Value)} {S : List Value} {w : va_W} {x y : Int32} {tg : Nat} {off : Int} (h : OK Z X cc own nL R) (hd : decode cc pc = .ok (.if_icmp .lt off, 3)) (ht : (pc : Int) + off = (tg : Int)) (hq : x < y) (kt : GG Z X tg L S w) : GG Z X pc L (.int y :: .int x :: S) w := g_icmp_lt h hd ht rfl (fun _ => kt) (fun q => absurd hq q)
theorem g_icmp_ltF {Z : ZT} {X : XT} {cc : ByteArray} {own : String} {nL : Nat} {R : Room} {pc pc' : Nat} {L : List (Option Value)} {S : List Value} {w : va_W} {x y : Int32} {tg : Nat} {off : Int} (h : OK Z X cc own nL R) (hd : decode cc pc = .ok (.if_icmp .lt off, 3)) (ht : (pc : Int) + off = (tg : Int)) (hp : pc + 3 = pc') (hq : ¬ x < y) (kf : GG Z X pc' L S w) : GG Z X pc L (.int y :: .int x :: S) w := g_icmp_lt h hd ht hp (fun q => absurd q hq) (fun _ => kf)
theorem g_if_ge {Z : ZT} {X : XT} {cc : ByteArray} {own : String} {nL : Nat} {R : Room} {pc pc' : Nat} {L : List (Option Value)} {S : List Value} {w : va_W} {x : Int32} {tg : Nat} {off : Int} (h : OK Z X cc own nL R) (hd : decode cc pc = .ok (.ifCond .ge off, 3)) (ht : (pc : Int) + off = (tg : Int)) (hp : pc + 3 = pc') (kt : 0 ≤ x → GG Z X tg L S w) (kf : ¬ 0 ≤ x → GG Z X pc' L S w) : GG Z X pc L (.int x :: S) w := by
  obtain ⟨p, l, e, R0, s, m, args, below, meth, c, ce, sl, nL', A, Q⟩ := X
  obtain ⟨⟨hx, hb, hml⟩, hown, hts, hlk, hK, hST, hA, rfl, rfl, hce, hsl⟩ := h
  subst hp
  intro H locs ls hP hD hS hl
  exact lv_if_ge hx hb hd ht (fun q => kt q H locs ls hP hD hS hl) (fun q => kf q H locs ls hP hD hS hl)
theorem g_if_geT {Z : ZT} {X : XT} {cc : ByteArray} {own : String} {nL : Nat} {R : Room} {pc : Nat} {L : List (Option Value)} {S : List Value} {w : va_W} {x : Int32} {tg : Nat} {off : Int} (h : OK Z X cc own nL R) (hd : decode cc pc = .ok (.ifCond .ge off, 3)) (ht : (pc : Int) + off = (tg : Int)) (hq : 0 ≤ x) (kt : GG Z X tg L S w) : GG Z X pc L (.int x :: S) w := g_if_ge h hd ht rfl (fun _ => kt) (fun q => absurd hq q)
theorem g_if_geF {Z : ZT} {X : XT} {cc : ByteArray} {own : String} {nL : Nat} {R : Room} {pc pc' : Nat} {L : List (Option Value)} {S : List Value} {w : va_W} {x : Int32} {tg : Nat} {off : Int} (h : OK Z X cc own nL R) (hd : decode cc pc = .ok (.ifCond .ge off, 3)) (ht : (pc : Int) + off = (tg : Int)) (hp : pc + 3 = pc') (hq : ¬ 0 ≤ x) (kf : GG Z X pc' L S w) : GG Z X pc L (.int x :: S) w := g_if_ge h hd ht hp (fun q => absurd q hq) (fun _ => kf)
theorem g_icmp_ge {Z : ZT} {X : XT} {cc : ByteArray} {own : String} {nL : Nat} {R : Room} {pc pc' : Nat} {L : List (Option Value)} {S : List Value} {w : va_W} {x y : Int32} {tg : Nat} {off : Int} (h : OK Z X cc own nL R) (hd : decode cc pc = .ok (.if_icmp .ge off, 3)) (ht : (pc : Int) + off = (tg : Int)) (hp : pc + 3 = pc') (kt : y ≤ x → GG Z X tg L S w) (kf : ¬ y ≤ x → GG Z X pc' L S w) : GG Z X pc L (.int y :: .int x :: S) w := by
  obtain ⟨p, l, e, R0, s, m, args, below, meth, c, ce, sl, nL', A, Q⟩ := X
  obtain ⟨⟨hx, hb, hml⟩, hown, hts, hlk, hK, hST, hA, rfl, rfl, hce, hsl⟩ := h
  subst hp
  intro H locs ls hP hD hS hl
  exact lv_icmp_ge hx hb hd ht (fun q => kt q H locs ls hP hD hS hl) (fun q => kf q H locs ls hP hD hS hl)
theorem g_icmp_geT {Z : ZT} {X : XT} {cc : ByteArray} {own : String} {nL : Nat} {R : Room} {pc : Nat} {L : List (Option Value)} {S : List Value} {w : va_W} {x y : Int32} {tg : Nat} {off : Int} (h : OK Z X cc own nL R) (hd : decode cc pc = .ok (.if_icmp .ge off, 3)) (ht : (pc : Int) + off = (tg : Int)) (hq : y ≤ x) (kt : GG Z X tg L S w) : GG Z X pc L (.int y :: .int x :: S) w := g_icmp_ge h hd ht rfl (fun _ => kt) (fun q => absurd hq q)
theorem g_icmp_geF {Z : ZT} {X : XT} {cc : ByteArray} {own : String} {nL : Nat} {R : Room} {pc pc' : Nat} {L : List (Option Value)} {S : List Value} {w : va_W} {x y : Int32} {tg : Nat} {off : Int} (h : OK Z X cc own nL R) (hd : decode cc pc = .ok (.if_icmp .ge off, 3)) (ht : (pc : Int) + off = (tg : Int)) (hp : pc + 3 = pc') (hq : ¬ y ≤ x) (kf : GG Z X pc' L S w) : GG Z X pc L (.int y :: .int x :: S) w := g_icmp_ge h hd ht hp (fun q => absurd q hq) (fun _ => kf)
theorem g_if_gt {Z : ZT} {X : XT} {cc : ByteArray} {own : String} {nL : Nat} {R : Room} {pc pc' : Nat} {L : List (Option Value)} {S : List Value} {w : va_W} {x : Int32} {tg : Nat} {off : Int} (h : OK Z X cc own nL R) (hd : decode cc pc = .ok (.ifCond .gt off, 3)) (ht : (pc : Int) + off = (tg : Int)) (hp : pc + 3 = pc') (kt : 0 < x → GG Z X tg L S w) (kf : ¬ 0 < x → GG Z X pc' L S w) : GG Z X pc L (.int x :: S) w := by
  obtain ⟨p, l, e, R0, s, m, args, below, meth, c, ce, sl, nL', A, Q⟩ := X
  obtain ⟨⟨hx, hb, hml⟩, hown, hts, hlk, hK, hST, hA, rfl, rfl, hce, hsl⟩ := h
  subst hp
  intro H locs ls hP hD hS hl
  exact lv_if_gt hx hb hd ht (fun q => kt q H locs ls hP hD hS hl) (fun q => kf q H locs ls hP hD hS hl)
theorem g_if_gtT {Z : ZT} {X : XT} {cc : ByteArray} {own : String} {nL : Nat} {R : Room} {pc : Nat} {L : List (Option Value)} {S : List Value} {w : va_W} {x : Int32} {tg : Nat} {off : Int} (h : OK Z X cc own nL R) (hd : decode cc pc = .ok (.ifCond .gt off, 3)) (ht : (pc : Int) + off = (tg : Int)) (hq : 0 < x) (kt : GG Z X tg L S w) : GG Z X pc L (.int x :: S) w := g_if_gt h hd ht rfl (fun _ => kt) (fun q => absurd hq q)
theorem g_if_gtF {Z : ZT} {X : XT} {cc : ByteArray} {own : String} {nL : Nat} {R : Room} {pc pc' : Nat} {L : List (Option Value)} {S : List Value} {w : va_W} {x : Int32} {tg : Nat} {off : Int} (h : OK Z X cc own nL R) (hd : decode cc pc = .ok (.ifCond .gt off, 3)) (ht : (pc : Int) + off = (tg : Int)) (hp : pc + 3 = pc') (hq : ¬ 0 < x) (kf : GG Z X pc' L S w) : GG Z X pc L (.int x :: S) w := g_if_gt h hd ht hp (fun q => absurd q hq) (fun _ => kf)
theorem g_icmp_gt {Z : ZT} {X : XT} {cc : ByteArray} {own : String} {nL : Nat} {R : Room} {pc pc' : Nat} {L : List (Option Value)} {S : List Value} {w : va_W} {x y : Int32} {tg : Nat} {off : Int} (h : OK Z X cc own nL R) (hd : decode cc pc = .ok (.if_icmp .gt off, 3)) (ht : (pc : Int) + off = (tg : Int)) (hp : pc + 3 = pc') (kt : y < x → GG Z X tg L S w) (kf : ¬ y < x → GG Z X pc' L S w) : GG Z X pc L (.int y :: .int x :: S) w := by
  obtain ⟨p, l, e, R0, s, m, args, below, meth, c, ce, sl, nL', A, Q⟩ := X
  obtain ⟨⟨hx, hb, hml⟩, hown, hts, hlk, hK, hST, hA, rfl, rfl, hce, hsl⟩ := h
  subst hp
  intro H locs ls hP hD hS hl
  exact lv_icmp_gt hx hb hd ht (fun q => kt q H locs ls hP hD hS hl) (fun q => kf q H locs ls hP hD hS hl)
theorem g_icmp_gtT {Z : ZT} {X : XT} {cc : ByteArray} {own : String} {nL : Nat} {R : Room} {pc : Nat} {L : List (Option Value)} {S : List Value} {w : va_W} {x y : Int32} {tg : Nat} {off : Int} (h : OK Z X cc own nL R) (hd : decode cc pc = .ok (.if_icmp .gt off, 3)) (ht : (pc : Int) + off = (tg : Int)) (hq : y < x) (kt : GG Z X tg L S w) : GG Z X pc L (.int y :: .int x :: S) w := g_icmp_gt h hd ht rfl (fun _ => kt) (fun q => absurd hq q)
theorem g_icmp_gtF {Z : ZT} {X : XT} {cc : ByteArray} {own : String} {nL : Nat} {R : Room} {pc pc' : Nat} {L : List (Option Value)} {S : List Value} {w : va_W} {x y : Int32} {tg : Nat} {off : Int} (h : OK Z X cc own nL R) (hd : decode cc pc = .ok (.if_icmp .gt off, 3)) (ht : (pc : Int) + off = (tg : Int)) (hp : pc + 3 = pc') (hq : ¬ y < x) (kf : GG Z X pc' L S w) : GG Z X pc L (.int y :: .int x :: S) w := g_icmp_gt h hd ht hp (fun q => absurd q hq) (fun _ => kf)
theorem g_if_le {Z : ZT} {X : XT} {cc : ByteArray} {own : String} {nL : Nat} {R : Room} {pc pc' : Nat} {L : List (Option Value)} {S : List Value} {w : va_W} {x : Int32} {tg : Nat} {off : Int} (h : OK Z X cc own nL R) (hd : decode cc pc = .ok (.ifCond .le off, 3)) (ht : (pc : Int) + off = (tg : Int)) (hp : pc + 3 = pc') (kt : x ≤ 0 → GG Z X tg L S w) (kf : ¬ x ≤ 0 → GG Z X pc' L S w) : GG Z X pc L (.int x :: S) w := by
  obtain ⟨p, l, e, R0, s, m, args, below, meth, c, ce, sl, nL', A, Q⟩ := X
  obtain ⟨⟨hx, hb, hml⟩, hown, hts, hlk, hK, hST, hA, rfl, rfl, hce, hsl⟩ := h
  subst hp
  intro H locs ls hP hD hS hl
  exact lv_if_le hx hb hd ht (fun q => kt q H locs ls hP hD hS hl) (fun q => kf q H locs ls hP hD hS hl)
theorem g_if_leT {Z : ZT} {X : XT} {cc : ByteArray} {own : String} {nL : Nat} {R : Room} {pc : Nat} {L : List (Option Value)} {S : List Value} {w : va_W} {x : Int32} {tg : Nat} {off : Int} (h : OK Z X cc own nL R) (hd : decode cc pc = .ok (.ifCond .le off, 3)) (ht : (pc : Int) + off = (tg : Int)) (hq : x ≤ 0) (kt : GG Z X tg L S w) : GG Z X pc L (.int x :: S) w := g_if_le h hd ht rfl (fun _ => kt) (fun q => absurd hq q)
theorem g_if_leF {Z : ZT} {X : XT} {cc : ByteArray} {own : String} {nL : Nat} {R : Room} {pc pc' : Nat} {L : List (Option Value)} {S : List Value} {w : va_W} {x : Int32} {tg : Nat} {off : Int} (h : OK Z X cc own nL R) (hd : decode cc pc = .ok (.ifCond .le off, 3)) (ht : (pc : Int) + off = (tg : Int)) (hp : pc + 3 = pc') (hq : ¬ x ≤ 0) (kf : GG Z X pc' L S w) : GG Z X pc L (.int x :: S) w := g_if_le h hd ht hp (fun q => absurd q hq) (fun _ => kf)
theorem g_icmp_le {Z : ZT} {X : XT} {cc : ByteArray} {own : String} {nL : Nat} {R : Room} {pc pc' : Nat} {L : List (Option Value)} {S : List Value} {w : va_W} {x y : Int32} {tg : Nat} {off : Int} (h : OK Z X cc own nL R) (hd : decode cc pc = .ok (.if_icmp .le off, 3)) (ht : (pc : Int) + off = (tg : Int)) (hp : pc + 3 = pc') (kt : x ≤ y → GG Z X tg L S w) (kf : ¬ x ≤ y → GG Z X pc' L S w) : GG Z X pc L (.int y :: .int x :: S) w := by
  obtain ⟨p, l, e, R0, s, m, args, below, meth, c, ce, sl, nL', A, Q⟩ := X
  obtain ⟨⟨hx, hb, hml⟩, hown, hts, hlk, hK, hST, hA, rfl, rfl, hce, hsl⟩ := h
  subst hp
  intro H locs ls hP hD hS hl
  exact lv_icmp_le hx hb hd ht (fun q => kt q H locs ls hP hD hS hl) (fun q => kf q H locs ls hP hD hS hl)
theorem g_icmp_leT {Z : ZT} {X : XT} {cc : ByteArray} {own : String} {nL : Nat} {R : Room} {pc : Nat} {L : List (Option Value)} {S : List Value} {w : va_W} {x y : Int32} {tg : Nat} {off : Int} (h : OK Z X cc own nL R) (hd : decode cc pc = .ok (.if_icmp .le off, 3)) (ht : (pc : Int) + off = (tg : Int)) (hq : x ≤ y) (kt : GG Z X tg L S w) : GG Z X pc L (.int y :: .int x :: S) w := g_icmp_le h hd ht rfl (fun _ => kt) (fun q => absurd hq q)
theorem g_icmp_leF {Z : ZT} {X : XT} {cc : ByteArray} {own : String} {nL : Nat} {R : Room} {pc pc' : Nat} {L : List (Option Value)} {S : List Value} {w : va_W} {x y : Int32} {tg : Nat} {off : Int} (h : OK Z X cc own nL R) (hd : decode cc pc = .ok (.if_icmp .le off, 3)) (ht : (pc : Int) + off = (tg : Int)) (hp : pc + 3 = pc') (hq : ¬ x ≤ y) (kf : GG Z X pc' L S w) : GG Z X pc L (.int y :: .int x :: S) w := g_icmp_le h hd ht hp (fun q => absurd q hq) (fun _ => kf)
theorem g_lcmp_ge {Z : ZT} {X : XT} {cc : ByteArray} {own : String} {nL : Nat} {R : Room} {pc pc' : Nat} {L : List (Option Value)} {S : List Value} {w : va_W} {x y : Int64} {pc1 tg : Nat} {off : Int} (h : OK Z X cc own nL R) (hd : decode cc pc = .ok (.lcmp, 1)) (hp1 : pc + 1 = pc1) (hd1 : decode cc pc1 = .ok (.ifCond .ge off, 3)) (ht : (pc1 : Int) + off = (tg : Int)) (hp : pc1 + 3 = pc') (kt : y ≤ x → GG Z X tg L S w) (kf : ¬ y ≤ x → GG Z X pc' L S w) : GG Z X pc L (.long y :: .long x :: S) w :=
  g_lcmp h hd hp1 (g_if_ge h hd1 ht hp (fun q => kt ((lg_cmp_ge x y).mp q)) (fun q => kf (fun z => q ((lg_cmp_ge x y).mpr z))))
theorem g_lcmp_le {Z : ZT} {X : XT} {cc : ByteArray} {own : String} {nL : Nat} {R : Room} {pc pc' : Nat} {L : List (Option Value)} {S : List Value} {w : va_W} {x y : Int64} {pc1 tg : Nat} {off : Int} (h : OK Z X cc own nL R) (hd : decode cc pc = .ok (.lcmp, 1)) (hp1 : pc + 1 = pc1) (hd1 : decode cc pc1 = .ok (.ifCond .le off, 3)) (ht : (pc1 : Int) + off = (tg : Int)) (hp : pc1 + 3 = pc') (kt : x ≤ y → GG Z X tg L S w) (kf : ¬ x ≤ y → GG Z X pc' L S w) : GG Z X pc L (.long y :: .long x :: S) w :=
  g_lcmp h hd hp1 (g_if_le h hd1 ht hp (fun q => kt ((lg_cmp_le x y).mp q)) (fun q => kf (fun z => q ((lg_cmp_le x y).mpr z))))
theorem g_lcmp_gt {Z : ZT} {X : XT} {cc : ByteArray} {own : String} {nL : Nat} {R : Room} {pc pc' : Nat} {L : List (Option Value)} {S : List Value} {w : va_W} {x y : Int64} {pc1 tg : Nat} {off : Int} (h : OK Z X cc own nL R) (hd : decode cc pc = .ok (.lcmp, 1)) (hp1 : pc + 1 = pc1) (hd1 : decode cc pc1 = .ok (.ifCond .gt off, 3)) (ht : (pc1 : Int) + off = (tg : Int)) (hp : pc1 + 3 = pc') (kt : y < x → GG Z X tg L S w) (kf : ¬ y < x → GG Z X pc' L S w) : GG Z X pc L (.long y :: .long x :: S) w :=
  g_lcmp h hd hp1 (g_if_gt h hd1 ht hp (fun q => kt ((lg_cmp_gt x y).mp q)) (fun q => kf (fun z => q ((lg_cmp_gt x y).mpr z))))
theorem g_lcmp_lt {Z : ZT} {X : XT} {cc : ByteArray} {own : String} {nL : Nat} {R : Room} {pc pc' : Nat} {L : List (Option Value)} {S : List Value} {w : va_W} {x y : Int64} {pc1 tg : Nat} {off : Int} (h : OK Z X cc own nL R) (hd : decode cc pc = .ok (.lcmp, 1)) (hp1 : pc + 1 = pc1) (hd1 : decode cc pc1 = .ok (.ifCond .lt off, 3)) (ht : (pc1 : Int) + off = (tg : Int)) (hp : pc1 + 3 = pc') (kt : x < y → GG Z X tg L S w) (kf : ¬ x < y → GG Z X pc' L S w) : GG Z X pc L (.long y :: .long x :: S) w :=
  g_lcmp h hd hp1 (g_if_lt h hd1 ht hp (fun q => kt ((lg_cmp_lt x y).mp q)) (fun q => kf (fun z => q ((lg_cmp_lt x y).mpr z))))
theorem g_lcmp_eq {Z : ZT} {X : XT} {cc : ByteArray} {own : String} {nL : Nat} {R : Room} {pc pc' : Nat} {L : List (Option Value)} {S : List Value} {w : va_W} {x y : Int64} {pc1 tg : Nat} {off : Int} (h : OK Z X cc own nL R) (hd : decode cc pc = .ok (.lcmp, 1)) (hp1 : pc + 1 = pc1) (hd1 : decode cc pc1 = .ok (.ifCond .eq off, 3)) (ht : (pc1 : Int) + off = (tg : Int)) (hp : pc1 + 3 = pc') (kt : x = y → GG Z X tg L S w) (kf : ¬ x = y → GG Z X pc' L S w) : GG Z X pc L (.long y :: .long x :: S) w :=
  g_lcmp h hd hp1 (g_if_eq h hd1 ht hp (fun q => kt ((lg_cmp_eq x y).mp q)) (fun q => kf (fun z => q ((lg_cmp_eq x y).mpr z))))
theorem g_lcmp_ne {Z : ZT} {X : XT} {cc : ByteArray} {own : String} {nL : Nat} {R : Room} {pc pc' : Nat} {L : List (Option Value)} {S : List Value} {w : va_W} {x y : Int64} {pc1 tg : Nat} {off : Int} (h : OK Z X cc own nL R) (hd : decode cc pc = .ok (.lcmp, 1)) (hp1 : pc + 1 = pc1) (hd1 : decode cc pc1 = .ok (.ifCond .ne off, 3)) (ht : (pc1 : Int) + off = (tg : Int)) (hp : pc1 + 3 = pc') (kt : ¬ x = y → GG Z X tg L S w) (kf : x = y → GG Z X pc' L S w) : GG Z X pc L (.long y :: .long x :: S) w :=
  g_lcmp h hd hp1 (g_if_ne h hd1 ht hp (fun q => kt (fun z => q ((lg_cmp_eq x y).mpr z))) (fun q => kf ((lg_cmp_eq x y).mp q)))
def bI (P : Prop) [Decidable P] : Int32 := if P then 1 else 0
theorem bI_0 {P : Prop} [Decidable P] : bI P = 0 ↔ ¬ P := by unfold bI; by_cases h : P <;> simp [h]
theorem bI_1 {P : Prop} [Decidable P] (h : P) : bI P = 1 := if_pos h
theorem bI_n {P : Prop} [Decidable P] (h : ¬ P) : bI P = 0 := if_neg h
theorem bI_z (P : Prop) [Decidable P] : narrow .boolean (.int (bI P)) = .int (bI P) := by unfold bI; by_cases h : P <;> simp [h] <;> rfl
theorem g_ifb_eq {Z : ZT} {X : XT} {cc : ByteArray} {own : String} {nL : Nat} {R : Room} {pc pc' : Nat} {L : List (Option Value)} {S : List Value} {w : va_W} {P : Prop} [Decidable P] {tg : Nat} {off : Int} (h : OK Z X cc own nL R) (hd : decode cc pc = .ok (.ifCond .eq off, 3)) (ht : (pc : Int) + off = (tg : Int)) (hp : pc + 3 = pc') (kt : ¬ P → GG Z X tg L S w) (kf : P → GG Z X pc' L S w) : GG Z X pc L (.int (bI P) :: S) w := g_if_eq h hd ht hp (fun q => kt (bI_0.mp q)) (fun q => kf (Classical.byContradiction fun z => q (bI_0.mpr z)))
theorem g_ifb_ne {Z : ZT} {X : XT} {cc : ByteArray} {own : String} {nL : Nat} {R : Room} {pc pc' : Nat} {L : List (Option Value)} {S : List Value} {w : va_W} {P : Prop} [Decidable P] {tg : Nat} {off : Int} (h : OK Z X cc own nL R) (hd : decode cc pc = .ok (.ifCond .ne off, 3)) (ht : (pc : Int) + off = (tg : Int)) (hp : pc + 3 = pc') (kt : P → GG Z X tg L S w) (kf : ¬ P → GG Z X pc' L S w) : GG Z X pc L (.int (bI P) :: S) w := g_if_ne h hd ht hp (fun q => kt (Classical.byContradiction fun z => q (bI_0.mpr z))) (fun q => kf (bI_0.mp q))
theorem g_iret {Z : ZT} {X : XT} {cc : ByteArray} {own : String} {nL : Nat} {R : Room} {pc : Nat} {L : List (Option Value)} {w : va_W} {v : Option Value} {w' : va_W} {x : Int32} (h : OK Z X cc own nL R) (hr : RT Z X (some .int) v w') (hd : decode cc pc = .ok (.ireturn, 1))  (hv : v = some (.int x)) (hw : w = w') : GG Z X pc L [.int x] w := by
  subst hv
  subst hw
  obtain ⟨p, l, e, R0, s, m, args, below, meth, c, ce, sl, nL', A, Q⟩ := X
  obtain ⟨⟨hx, hb, hml⟩, hown, hts, hlk, hK, hST, hA, rfl, rfl, hce, hsl⟩ := h
  obtain ⟨hrt, rfl⟩ := hr
  intro H locs ls hP hD hS hl
  exact W.iret hx hb hrt (fun t ht hW => ⟨⟨rfl, by rw [ht]; exact hP, va_K.moved hW.alike hK, hD⟩, hS.F ht⟩) hS.2.2 hd hlk
theorem g_zret {Z : ZT} {X : XT} {cc : ByteArray} {own : String} {nL : Nat} {R : Room} {pc : Nat} {L : List (Option Value)} {w : va_W} {v : Option Value} {w' : va_W} {x : Int32} (h : OK Z X cc own nL R) (hr : RT Z X (some .boolean) v w') (hd : decode cc pc = .ok (.ireturn, 1)) (hz : narrow .boolean (.int x) = .int x) (hv : v = some (.int x)) (hw : w = w') : GG Z X pc L [.int x] w := by
  subst hv
  subst hw
  obtain ⟨p, l, e, R0, s, m, args, below, meth, c, ce, sl, nL', A, Q⟩ := X
  obtain ⟨⟨hx, hb, hml⟩, hown, hts, hlk, hK, hST, hA, rfl, rfl, hce, hsl⟩ := h
  obtain ⟨hrt, rfl⟩ := hr
  intro H locs ls hP hD hS hl
  exact W.zret hx hb hrt hz (fun t ht hW => ⟨⟨rfl, by rw [ht]; exact hP, va_K.moved hW.alike hK, hD⟩, hS.F ht⟩) hS.2.2 hd hlk
theorem g_lret {Z : ZT} {X : XT} {cc : ByteArray} {own : String} {nL : Nat} {R : Room} {pc : Nat} {L : List (Option Value)} {w : va_W} {v : Option Value} {w' : va_W} {x : Int64} (h : OK Z X cc own nL R) (hr : RT Z X (some .long) v w') (hd : decode cc pc = .ok (.lreturn, 1))  (hv : v = some (.long x)) (hw : w = w') : GG Z X pc L [.long x] w := by
  subst hv
  subst hw
  obtain ⟨p, l, e, R0, s, m, args, below, meth, c, ce, sl, nL', A, Q⟩ := X
  obtain ⟨⟨hx, hb, hml⟩, hown, hts, hlk, hK, hST, hA, rfl, rfl, hce, hsl⟩ := h
  obtain ⟨hrt, rfl⟩ := hr
  intro H locs ls hP hD hS hl
  exact W.lret hx hb hrt (fun t ht hW => ⟨⟨rfl, by rw [ht]; exact hP, va_K.moved hW.alike hK, hD⟩, hS.F ht⟩) hS.2.2 hd hlk
theorem g_vret {Z : ZT} {X : XT} {cc : ByteArray} {own : String} {nL : Nat} {R : Room} {pc : Nat} {L : List (Option Value)} {w : va_W} {v : Option Value} {w' : va_W}  (h : OK Z X cc own nL R) (hr : RT Z X none v w') (hd : decode cc pc = .ok (.return_, 1))  (hv : v = none) (hw : w = w') : GG Z X pc L [] w := by
  subst hv
  subst hw
  obtain ⟨p, l, e, R0, s, m, args, below, meth, c, ce, sl, nL', A, Q⟩ := X
  obtain ⟨⟨hx, hb, hml⟩, hown, hts, hlk, hK, hST, hA, rfl, rfl, hce, hsl⟩ := h
  obtain ⟨hrt, rfl⟩ := hr
  intro H locs ls hP hD hS hl
  exact W.vret hx hb hrt (fun t ht hW => ⟨⟨rfl, by rw [ht]; exact hP, va_K.moved hW.alike hK, hD⟩, hS.F ht⟩) hS.2.2 hd hlk
theorem GG.cast {Z : ZT} {X : XT} {pc : Nat} {L L' : List (Option Value)} {S S' : List Value} {w w' : va_W} (k : GG Z X pc L' S' w') (hL : L = L') (hS : S = S') (hw : w = w') : GG Z X pc L S w := by subst hL; subst hS; subst hw; exact k
theorem g_getf {Z : ZT} {X : XT} {cc : ByteArray} {own : String} {nL : Nat} {R : Room} {pc pc' : Nat} {L : List (Option Value)} {S : List Value} {w : va_W} {idx q0 ci N : Nat} {C : String} {T : u_T} {a : Nat} {fs : List Value} {v : Value} (kf : Nat) (hin : ∀ x ∈ u_ws C T N, x ∈ tblG) (hc : clsL[ci]? = some (C, T, N)) (hk : kf < N) (hlink : Cond.fieldLink own idx (T kf).1 (T kf).2.1 (T kf).2.2.1 ∈ tblG) (h : OK Z X cc own nL R) (hd : decode cc pc = .ok (.getfield idx, 3)) (he : w[q0]? = some (a, .inr (ci, fs))) (hv : fs[kf]? = some v) (hp : pc + 3 = pc') (k : GG Z X pc' L (v :: S) w) : GG Z X pc L (.ref a :: S) w := by
  obtain ⟨p, l, e, R0, s, m, args, below, meth, c, ce, sl, nL', A, Q⟩ := X
  obtain ⟨⟨hx, hb, hml⟩, hown, hts, hlk, hK, hST, hA, rfl, rfl, hce, hsl⟩ := h
  subst hp
  intro H locs ls hP hD hS hl
  exact va_get (D := Z.1) hx hb hts hin hown hK hP q0 he hc kf hk (hts _ hlink) (fun _ h9 => h9) hv hd (k H locs ls hP hD hS hl)
theorem g_putf {Z : ZT} {X : XT} {cc : ByteArray} {own : String} {nL : Nat} {R : Room} {pc pc' : Nat} {L : List (Option Value)} {S : List Value} {w : va_W} {idx q0 ci N : Nat} {C : String} {T : u_T} {ty0 : Nat → FieldType} {a : Nat} {fs : List Value} {v : Value} {ty : FieldType} (kf : Nat) (hin : ∀ x ∈ u_ws C T N, x ∈ tblG) (hty : ∀ k, k < N → parseFieldDescriptor (T k).2.2.1 = some (ty0 k)) (hnm : ∀ a, a < N → ∀ b, b < N → a ≠ b → (T a).2.1 ≠ (T b).2.1) (hc : clsL[ci]? = some (C, T, N)) (hk : kf < N) (hlink : Cond.fieldLink own idx (T kf).1 (T kf).2.1 (T kf).2.2.1 ∈ tblG) (hfin : (T kf).2.2.2 = false) (hpd : parseFieldDescriptor (T kf).2.2.1 = some ty) (hnar : narrow ty v = v) (hfit : fits ty v = true) (h : OK Z X cc own nL R) (hd : decode cc pc = .ok (.putfield idx, 3)) (he : w[q0]? = some (a, .inr (ci, fs))) (hl1 : kf < fs.length) (hp : pc + 3 = pc') (k : GG Z X pc' L S (w.set q0 (a, .inr (ci, fs.set kf v)))) : GG Z X pc L (v :: .ref a :: S) w := by
  obtain ⟨p, l, e, R0, s, m, args, below, meth, c, ce, sl, nL', A, Q⟩ := X
  obtain ⟨⟨hx, hb, hml⟩, hown, hts, hlk, hK, hST, hA, rfl, rfl, hce, hsl⟩ := h
  subst hp
  intro H locs ls hP hD hS hl
  exact va_put (D := Z.1) hx hb hts hin ty0 hty hnm hown hK hP hD hS q0 he hc kf hk (hts _ hlink) (fun _ h9 => h9) hfin hpd hnar hfit hl1 hd (fun H1 locs1 hP1 hD1 hS1 => k H1 locs1 ls hP1 hD1 hS1 hl)
theorem g_ial {Z : ZT} {X : XT} {cc : ByteArray} {own : String} {nL : Nat} {R : Room} {pc pc' : Nat} {L : List (Option Value)} {S : List Value} {w : va_W} {q0 a n : Nat} {f : Nat → Int32} {i : Int32} {j : Nat} (h : OK Z X cc own nL R) (hd : decode cc pc = .ok (.iaload, 1)) (he : w[q0]? = some (a, .inl (Z.2.1 0, n, .inl f))) (hi : i = nI j) (hj : j < n) (hn : n < 2 ^ 31) (hp : pc + 1 = pc') (k : GG Z X pc' L (.int (f j) :: S) w) : GG Z X pc L (.int i :: .ref a :: S) w := by
  obtain ⟨p, l, e, R0, s, m, args, below, meth, c, ce, sl, nL', A, Q⟩ := X
  obtain ⟨⟨hx, hb, hml⟩, hown, hts, hlk, hK, hST, hA, rfl, rfl, hce, hsl⟩ := h
  subst hp
  subst hi
  intro H locs ls hP hD hS hl
  have e : (nI j).toNatClampNeg = j := nI_clamp (Nat.lt_trans hj hn)
  exact va_iald (D := Z.1) hx hb hK hP q0 0 he rfl (vp_in_nI hj hn) hd (by rw [e]; exact k H locs ls hP hD hS hl)
theorem g_lal {Z : ZT} {X : XT} {cc : ByteArray} {own : String} {nL : Nat} {R : Room} {pc pc' : Nat} {L : List (Option Value)} {S : List Value} {w : va_W} {q0 a n : Nat} {f : Nat → Int64} {i : Int32} {j : Nat} (h : OK Z X cc own nL R) (hd : decode cc pc = .ok (.laload, 1)) (he : w[q0]? = some (a, .inl (Z.2.1 1, n, .inr (.inl f)))) (hi : i = nI j) (hj : j < n) (hn : n < 2 ^ 31) (hp : pc + 1 = pc') (k : GG Z X pc' L (.long (f j) :: S) w) : GG Z X pc L (.int i :: .ref a :: S) w := by
  obtain ⟨p, l, e, R0, s, m, args, below, meth, c, ce, sl, nL', A, Q⟩ := X
  obtain ⟨⟨hx, hb, hml⟩, hown, hts, hlk, hK, hST, hA, rfl, rfl, hce, hsl⟩ := h
  subst hp
  subst hi
  intro H locs ls hP hD hS hl
  have e : (nI j).toNatClampNeg = j := nI_clamp (Nat.lt_trans hj hn)
  exact va_lald (D := Z.1) hx hb hK hP q0 1 he rfl (vp_in_nI hj hn) hd (by rw [e]; exact k H locs ls hP hD hS hl)
theorem g_zal {Z : ZT} {X : XT} {cc : ByteArray} {own : String} {nL : Nat} {R : Room} {pc pc' : Nat} {L : List (Option Value)} {S : List Value} {w : va_W} {q0 a n : Nat} {f : Nat → Int32} {i : Int32} {j : Nat} (h : OK Z X cc own nL R) (hd : decode cc pc = .ok (.baload, 1)) (he : w[q0]? = some (a, .inl (Z.2.1 2, n, .inl f))) (hi : i = nI j) (hj : j < n) (hn : n < 2 ^ 31) (hp : pc + 1 = pc') (k : GG Z X pc' L (.int (f j) :: S) w) : GG Z X pc L (.int i :: .ref a :: S) w := by
  obtain ⟨p, l, e, R0, s, m, args, below, meth, c, ce, sl, nL', A, Q⟩ := X
  obtain ⟨⟨hx, hb, hml⟩, hown, hts, hlk, hK, hST, hA, rfl, rfl, hce, hsl⟩ := h
  subst hp
  subst hi
  intro H locs ls hP hD hS hl
  have e : (nI j).toNatClampNeg = j := nI_clamp (Nat.lt_trans hj hn)
  exact va_zald (D := Z.1) hx hb hK hP q0 2 he rfl (vp_in_nI hj hn) hd (by rw [e]; exact k H locs ls hP hD hS hl)
theorem g_ias {Z : ZT} {X : XT} {cc : ByteArray} {own : String} {nL : Nat} {R : Room} {pc pc' : Nat} {L : List (Option Value)} {S : List Value} {w : va_W} {q0 a n : Nat} {f : Nat → Int32} {i : Int32} {x : Int32} {j : Nat} (h : OK Z X cc own nL R) (hd : decode cc pc = .ok (.iastore, 1)) (he : w[q0]? = some (a, .inl (Z.2.1 0, n, .inl (f)))) (hi : i = nI j) (hj : j < n) (hn : n < 2 ^ 31) (hp : pc + 1 = pc') (k : GG Z X pc' L S (w.set q0 (a, .inl (Z.2.1 0, n, .inl (upd f j x))))) : GG Z X pc L (.int x :: .int i :: .ref a :: S) w := by
  obtain ⟨p, l, e, R0, s, m, args, below, meth, c, ce, sl, nL', A, Q⟩ := X
  obtain ⟨⟨hx, hb, hml⟩, hown, hts, hlk, hK, hST, hA, rfl, rfl, hce, hsl⟩ := h
  subst hp
  subst hi
  intro H locs ls hP hD hS hl
  have e : (nI j).toNatClampNeg = j := nI_clamp (Nat.lt_trans hj hn)
  refine va_iast (D := Z.1) hx hb hK hP hD hS q0 0 he rfl (vp_in_nI hj hn) hd (fun H1 locs1 hP1 hD1 hS1 => ?_)
  rw [e] at hP1 hD1
  exact k H1 locs1 ls hP1 hD1 hS1 hl
theorem g_las {Z : ZT} {X : XT} {cc : ByteArray} {own : String} {nL : Nat} {R : Room} {pc pc' : Nat} {L : List (Option Value)} {S : List Value} {w : va_W} {q0 a n : Nat} {f : Nat → Int64} {i : Int32} {x : Int64} {j : Nat} (h : OK Z X cc own nL R) (hd : decode cc pc = .ok (.lastore, 1)) (he : w[q0]? = some (a, .inl (Z.2.1 1, n, .inr (.inl (f))))) (hi : i = nI j) (hj : j < n) (hn : n < 2 ^ 31) (hp : pc + 1 = pc') (k : GG Z X pc' L S (w.set q0 (a, .inl (Z.2.1 1, n, .inr (.inl (vp_updL f j x)))))) : GG Z X pc L (.long x :: .int i :: .ref a :: S) w := by
  obtain ⟨p, l, e, R0, s, m, args, below, meth, c, ce, sl, nL', A, Q⟩ := X
  obtain ⟨⟨hx, hb, hml⟩, hown, hts, hlk, hK, hST, hA, rfl, rfl, hce, hsl⟩ := h
  subst hp
  subst hi
  intro H locs ls hP hD hS hl
  have e : (nI j).toNatClampNeg = j := nI_clamp (Nat.lt_trans hj hn)
  refine va_last (D := Z.1) hx hb hK hP hD hS q0 1 he rfl (vp_in_nI hj hn) hd (fun H1 locs1 hP1 hD1 hS1 => ?_)
  rw [e] at hP1 hD1
  exact k H1 locs1 ls hP1 hD1 hS1 hl
theorem g_zas {Z : ZT} {X : XT} {cc : ByteArray} {own : String} {nL : Nat} {R : Room} {pc pc' : Nat} {L : List (Option Value)} {S : List Value} {w : va_W} {q0 a n : Nat} {f : Nat → Int32} {i : Int32} {x : Int32} {j : Nat} (h : OK Z X cc own nL R) (hd : decode cc pc = .ok (.bastore, 1)) (he : w[q0]? = some (a, .inl (Z.2.1 2, n, .inl (f)))) (hi : i = nI j) (hj : j < n) (hn : n < 2 ^ 31) (hp : pc + 1 = pc') (k : GG Z X pc' L S (w.set q0 (a, .inl (Z.2.1 2, n, .inl (upd f j (vp_nar .boolean x)))))) : GG Z X pc L (.int x :: .int i :: .ref a :: S) w := by
  obtain ⟨p, l, e, R0, s, m, args, below, meth, c, ce, sl, nL', A, Q⟩ := X
  obtain ⟨⟨hx, hb, hml⟩, hown, hts, hlk, hK, hST, hA, rfl, rfl, hce, hsl⟩ := h
  subst hp
  subst hi
  intro H locs ls hP hD hS hl
  have e : (nI j).toNatClampNeg = j := nI_clamp (Nat.lt_trans hj hn)
  refine va_zast (D := Z.1) hx hb hK hP hD hS q0 2 he rfl (vp_in_nI hj hn) hd (fun H1 locs1 hP1 hD1 hS1 => ?_)
  rw [e] at hP1 hD1
  exact k H1 locs1 ls hP1 hD1 hS1 hl
theorem g_alen0 {Z : ZT} {X : XT} {cc : ByteArray} {own : String} {nL : Nat} {R : Room} {pc pc' : Nat} {L : List (Option Value)} {S : List Value} {w : va_W} {q0 a n : Nat} {f : _} (h : OK Z X cc own nL R) (hd : decode cc pc = .ok (.arraylength, 1)) (he : w[q0]? = some (a, .inl (Z.2.1 0, n, f))) (hp : pc + 1 = pc') (k : GG Z X pc' L (.int (nI n) :: S) w) : GG Z X pc L (.ref a :: S) w := by
  obtain ⟨p, l, e, R0, s, m, args, below, meth, c, ce, sl, nL', A, Q⟩ := X
  obtain ⟨⟨hx, hb, hml⟩, hown, hts, hlk, hK, hST, hA, rfl, rfl, hce, hsl⟩ := h
  subst hp
  intro H locs ls hP hD hS hl
  exact va_alen (D := Z.1) hx hb hK hP q0 0 he (ty := .int) rfl (v := nI n) rfl hd (k H locs ls hP hD hS hl)
theorem g_alen1 {Z : ZT} {X : XT} {cc : ByteArray} {own : String} {nL : Nat} {R : Room} {pc pc' : Nat} {L : List (Option Value)} {S : List Value} {w : va_W} {q0 a n : Nat} {f : _} (h : OK Z X cc own nL R) (hd : decode cc pc = .ok (.arraylength, 1)) (he : w[q0]? = some (a, .inl (Z.2.1 1, n, f))) (hp : pc + 1 = pc') (k : GG Z X pc' L (.int (nI n) :: S) w) : GG Z X pc L (.ref a :: S) w := by
  obtain ⟨p, l, e, R0, s, m, args, below, meth, c, ce, sl, nL', A, Q⟩ := X
  obtain ⟨⟨hx, hb, hml⟩, hown, hts, hlk, hK, hST, hA, rfl, rfl, hce, hsl⟩ := h
  subst hp
  intro H locs ls hP hD hS hl
  exact va_alen (D := Z.1) hx hb hK hP q0 1 he (ty := .long) rfl (v := nI n) rfl hd (k H locs ls hP hD hS hl)
theorem g_alen2 {Z : ZT} {X : XT} {cc : ByteArray} {own : String} {nL : Nat} {R : Room} {pc pc' : Nat} {L : List (Option Value)} {S : List Value} {w : va_W} {q0 a n : Nat} {f : _} (h : OK Z X cc own nL R) (hd : decode cc pc = .ok (.arraylength, 1)) (he : w[q0]? = some (a, .inl (Z.2.1 2, n, f))) (hp : pc + 1 = pc') (k : GG Z X pc' L (.int (nI n) :: S) w) : GG Z X pc L (.ref a :: S) w := by
  obtain ⟨p, l, e, R0, s, m, args, below, meth, c, ce, sl, nL', A, Q⟩ := X
  obtain ⟨⟨hx, hb, hml⟩, hown, hts, hlk, hK, hST, hA, rfl, rfl, hce, hsl⟩ := h
  subst hp
  intro H locs ls hP hD hS hl
  exact va_alen (D := Z.1) hx hb hK hP q0 2 he (ty := .boolean) rfl (v := nI n) rfl hd (k H locs ls hP hD hS hl)
theorem g_getAll {Z : ZT} {X : XT} {cc : ByteArray} {own : String} {nL : Nat} {R : Room} {pc pc' : Nat} {L : List (Option Value)} {S : List Value} {w : va_W} {idx : Nat} (hlink : Cond.fieldLink own idx "WhoPays$Rings" "ALL" "[I" ∈ tblG) (h : OK Z X cc own nL R) (hd : decode cc pc = .ok (.getstatic idx, 3)) (hp : pc + 3 = pc') (k : GG Z X pc' L (.ref (Z.2.2 21) :: S) w) : GG Z X pc L S w := by
  obtain ⟨p, l, e, R0, s, m, args, below, meth, c, ce, sl, nL', A, Q⟩ := X
  obtain ⟨⟨hx, hb, hml⟩, hown, hts, hlk, hK, hST, hA, rfl, rfl, hce, hsl⟩ := h
  subst hp
  intro H locs ls hP hD hS hl
  exact va_gets hx hb hST.1 hS hown (hts _ hlink) (fun _ h9 => h9) hd (k H locs ls hP hD hS hl)
theorem g_ialAll {Z : ZT} {X : XT} {cc : ByteArray} {own : String} {nL : Nat} {R : Room} {pc pc' : Nat} {L : List (Option Value)} {S : List Value} {w : va_W} {i : Int32} {j : Nat} (h : OK Z X cc own nL R) (hd : decode cc pc = .ok (.iaload, 1)) (hi : i = nI j) (hj : j < 20) (hp : pc + 1 = pc') (k : GG Z X pc' L (.int (allR j) :: S) w) : GG Z X pc L (.int i :: .ref (Z.2.2 21) :: S) w := by
  obtain ⟨p, l, e, R0, s, m, args, below, meth, c, ce, sl, nL', A, Q⟩ := X
  obtain ⟨⟨hx, hb, hml⟩, hown, hts, hlk, hK, hST, hA, rfl, rfl, hce, hsl⟩ := h
  subst hp
  subst hi
  intro H locs ls hP hD hS hl
  have e : (nI j).toNatClampNeg = j := nI_clamp (Nat.lt_trans hj (by decide))
  exact va_ti hx hb hST.2.1 hS (vp_in_nI hj (by decide)) (v := .int (allR j)) (by rw [e]) hd (k H locs ls hP hD hS hl)
theorem g_alenAll {Z : ZT} {X : XT} {cc : ByteArray} {own : String} {nL : Nat} {R : Room} {pc pc' : Nat} {L : List (Option Value)} {S : List Value} {w : va_W} (h : OK Z X cc own nL R) (hd : decode cc pc = .ok (.arraylength, 1)) (hp : pc + 1 = pc') (k : GG Z X pc' L (.int (nI 20) :: S) w) : GG Z X pc L (.ref (Z.2.2 21) :: S) w := by
  obtain ⟨p, l, e, R0, s, m, args, below, meth, c, ce, sl, nL', A, Q⟩ := X
  obtain ⟨⟨hx, hb, hml⟩, hown, hts, hlk, hK, hST, hA, rfl, rfl, hce, hsl⟩ := h
  subst hp
  intro H locs ls hP hD hS hl
  obtain ⟨cell, h1, h2, h3, h4, h5, h6, h7⟩ := hST.2.1
  exact W.alen (n := nI 20) hx hb (by rw [hS.2.1 _ (Array.getElem?_eq_some_iff.mp h1).1 h7]; exact h1) h2 h5 rfl rfl hd (k H locs ls hP hD hS hl)
theorem g_mmax {Z : ZT} {X : XT} {cc : ByteArray} {own : String} {nL : Nat} {R : Room} {pc pc' : Nat} {L : List (Option Value)} {S : List Value} {w : va_W} {idx : Nat} {x y : Int32} (hlink : Cond.methodLink own idx Lib.Math.max.name ∈ tblG) (hst : Cond.static Lib.Math.max.name ∈ tblG) (hin : Cond.initialized "java/lang/Math" ∈ tblG) (hco : Cond.code Lib.Math.max.name Lib.Math.max.code 2 (some .int) ∈ tblG) (h : OK Z X cc own nL R) (hd : decode cc pc = .ok (.invokestatic idx, 3)) (hfr : 1 ≤ R.frames ∧ 21 ≤ R.locals) (h8 : (S.map fun v => v.category).sum ≤ 8) (hp : pc + 3 = pc') (k : GG Z X pc' L (.int (if x < y then y else x) :: S) w) : GG Z X pc L (.int y :: .int x :: S) w := by
  obtain ⟨p, l, e, R0, s, m, args, below, meth, c, ce, sl, nL', A, Q⟩ := X
  obtain ⟨⟨hx, hb, hml⟩, hown, hts, hlk, hK, hST, hA, rfl, rfl, hce, hsl⟩ := h
  subst hp
  intro H locs ls hP hD hS hl
  exact va_mmax hx hb (hml.trans hl.1.symm) hown (hts _ hlink) (hts _ hst) (hts _ hin) (hts _ hco) hfr.1 (by omega) hce hsl hd (k H locs ls hP hD hS hl)
theorem g_mmin {Z : ZT} {X : XT} {cc : ByteArray} {own : String} {nL : Nat} {R : Room} {pc pc' : Nat} {L : List (Option Value)} {S : List Value} {w : va_W} {idx : Nat} {x y : Int32} (hlink : Cond.methodLink own idx Lib.Math.min.name ∈ tblG) (hst : Cond.static Lib.Math.min.name ∈ tblG) (hin : Cond.initialized "java/lang/Math" ∈ tblG) (hco : Cond.code Lib.Math.min.name Lib.Math.min.code 2 (some .int) ∈ tblG) (h : OK Z X cc own nL R) (hd : decode cc pc = .ok (.invokestatic idx, 3)) (hfr : 1 ≤ R.frames ∧ 21 ≤ R.locals) (h8 : (S.map fun v => v.category).sum ≤ 8) (hp : pc + 3 = pc') (k : GG Z X pc' L (.int (if y < x then y else x) :: S) w) : GG Z X pc L (.int y :: .int x :: S) w := by
  obtain ⟨p, l, e, R0, s, m, args, below, meth, c, ce, sl, nL', A, Q⟩ := X
  obtain ⟨⟨hx, hb, hml⟩, hown, hts, hlk, hK, hST, hA, rfl, rfl, hce, hsl⟩ := h
  subst hp
  intro H locs ls hP hD hS hl
  exact va_mmin hx hb (hml.trans hl.1.symm) hown (hts _ hlink) (hts _ hst) (hts _ hin) (hts _ hco) hfr.1 (by omega) hce hsl hd (k H locs ls hP hD hS hl)
theorem g_mabs {Z : ZT} {X : XT} {cc : ByteArray} {own : String} {nL : Nat} {R : Room} {pc pc' : Nat} {L : List (Option Value)} {S : List Value} {w : va_W} {idx : Nat} {x : Int64} (hlink : Cond.methodLink own idx Lib.MathLoose.abs_long.x ∈ tblG) (hst : Cond.static Lib.MathLoose.abs_long.x ∈ tblG) (hin : Cond.initialized "java/lang/Math" ∈ tblG) (hco : Cond.code Lib.MathLoose.abs_long.x Lib.MathLoose.abs_long.code 2 (some .long) ∈ tblG) (h : OK Z X cc own nL R) (hd : decode cc pc = .ok (.invokestatic idx, 3)) (hfr : 1 ≤ R.frames ∧ 21 ≤ R.locals) (h8 : (S.map fun v => v.category).sum ≤ 8) (hp : pc + 3 = pc') (k : GG Z X pc' L (.long (if 0 < x then x else -x) :: S) w) : GG Z X pc L (.long x :: S) w := by
  obtain ⟨p, l, e, R0, s, m, args, below, meth, c, ce, sl, nL', A, Q⟩ := X
  obtain ⟨⟨hx, hb, hml⟩, hown, hts, hlk, hK, hST, hA, rfl, rfl, hce, hsl⟩ := h
  subst hp
  intro H locs ls hP hD hS hl
  exact va_mabs_long hx hb (hml.trans hl.1.symm) hown (hts _ hlink) (hts _ hst) (hts _ hin) (hts _ hco) hfr.1 (by omega) hce hsl hd (k H locs ls hP hD hS hl)

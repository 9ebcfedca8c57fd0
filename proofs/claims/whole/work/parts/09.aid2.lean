section TS
variable {Z : ZT} {X : XT} {cc : ByteArray} {own : String} {nL : Nat} {R : Room} {pc tg len : Nat} {L : List (Option Value)} {S : List Value} {w : va_W} {x : Int32} {dflt lo hi off : Int} {offs : Array Int}
theorem g_tabIn (h : OK Z X cc own nL R) (hd : decode cc pc = .ok (.tableswitch dflt lo hi offs, len)) (h1 : ¬ x.toInt < lo) (h2 : ¬ hi < x.toInt) (ho : offs[(x.toInt - lo).toNat]? = some off) (ht : (pc : Int) + off = (tg : Int)) (k : GG Z X tg L S w) : GG Z X pc L (.int x :: S) w := by
  obtain ⟨p, l, e, R0, s, m, args, below, meth, c, ce, sl, nL', A, Q⟩ := X
  obtain ⟨⟨hx, hb, hml⟩, hown, hts, hlk, hK, hST, hA, rfl, rfl, hce, hsl⟩ := h
  intro H locs ls hP hD hS hl
  exact lv_tableIn hx hb hd h1 h2 ho ht (k H locs ls hP hD hS hl)
theorem g_tabOut (h : OK Z X cc own nL R) (hd : decode cc pc = .ok (.tableswitch dflt lo hi offs, len)) (h1 : x.toInt < lo ∨ hi < x.toInt) (ht : (pc : Int) + dflt = (tg : Int)) (k : GG Z X tg L S w) : GG Z X pc L (.int x :: S) w := by
  obtain ⟨p, l, e, R0, s, m, args, below, meth, c, ce, sl, nL', A, Q⟩ := X
  obtain ⟨⟨hx, hb, hml⟩, hown, hts, hlk, hK, hST, hA, rfl, rfl, hce, hsl⟩ := h
  intro H locs ls hP hD hS hl
  exact lv_tableOut hx hb hd h1 ht (k H locs ls hP hD hS hl)
theorem g_look {ps : Array (Int × Int)} (h : OK Z X cc own nL R) (hd : decode cc pc = .ok (.lookupswitch dflt ps, len)) (hp : (ps.toList.zip (ps.toList.drop 1)).all (fun (a, next) => a.1 < next.1) = true) (ho : Op.lookupswitch.offset ps.toList dflt x.toInt = off) (ht : (pc : Int) + off = (tg : Int)) (k : GG Z X tg L S w) : GG Z X pc L (.int x :: S) w := by
  obtain ⟨p, l, e, R0, s, m, args, below, meth, c, ce, sl, nL', A, Q⟩ := X
  obtain ⟨⟨hx, hb, hml⟩, hown, hts, hlk, hK, hST, hA, rfl, rfl, hce, hsl⟩ := h
  intro H locs ls hP hD hS hl
  exact lv_lookup hx hb hd hp ho ht (k H locs ls hP hD hS hl)
end TS

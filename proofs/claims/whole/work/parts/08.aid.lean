theorem inc1 (a : Nat) : nI a + Int32.ofInt 1 = nI (a + 1) := nI_1 a
theorem dec1 (a : Nat) : nI (a + 1) + Int32.ofInt (-1) = nI a := pk_m1 a
theorem lp {P : Nat → Prop} (N : Nat) (hx : P N) (hs : ∀ j, j < N → P (j + 1) → P j) : P 0 := by
  have key : ∀ k, k ≤ N → P (N - k) := by
    intro k
    induction k with
    | zero => exact fun _ => hx
    | succ k ih =>
      intro hk
      refine hs _ (by omega) ?_
      rw [show N - (k + 1) + 1 = N - k by omega]
      exact ih (by omega)
  have := key N (Nat.le_refl _)
  rwa [Nat.sub_self] at this
section CC
variable {Z : ZT} {X : XT} {cc : ByteArray} {own : String} {nL : Nat} {R : Room} {pc pc' : Nat} {L : List (Option Value)} {S rest : List Value} {w w' : va_W} {y : MethodName} {bytes : ByteArray} {maxL d n index q0 ci : Nat} {ret : Option FieldType} {b : Nat} {As : List Value} {x : Value} {q : vw_C} {fs : List Value}
theorem g_callV1 (h : OK Z X cc own nL R) (hd : decode cc pc = .ok (.invokevirtual index, 3)) (cf : CF 0 own index y bytes maxL ret n) (hM : MM Z y bytes maxL ret d (.ref b :: As) w (some x) w')
    (hq : w[q0]? = some (b, .inr (ci, fs))) (hc : clsL[ci]? = some q) (hqc : q.1 = y.cls) (hn : As.length = n) (hR : d + 1 ≤ R.frames ∧ 8 + (maxL + 11) + 30 * d ≤ R.locals) (hst : S = As.reverse ++ .ref b :: rest) (h8 : (rest.map fun v => v.category).sum ≤ 8) (hp : pc + 3 = pc')
    (k : GG Z X pc' L (x :: rest) w') : GG Z X pc L S w := g_callV h hd cf hM hq hc hqc hn hR hst h8 hp k
theorem g_callV0 (h : OK Z X cc own nL R) (hd : decode cc pc = .ok (.invokevirtual index, 3)) (cf : CF 0 own index y bytes maxL ret n) (hM : MM Z y bytes maxL ret d (.ref b :: As) w none w')
    (hq : w[q0]? = some (b, .inr (ci, fs))) (hc : clsL[ci]? = some q) (hqc : q.1 = y.cls) (hn : As.length = n) (hR : d + 1 ≤ R.frames ∧ 8 + (maxL + 11) + 30 * d ≤ R.locals) (hst : S = As.reverse ++ .ref b :: rest) (h8 : (rest.map fun v => v.category).sum ≤ 8) (hp : pc + 3 = pc')
    (k : GG Z X pc' L rest w') : GG Z X pc L S w := g_callV h hd cf hM hq hc hqc hn hR hst h8 hp k
theorem g_callS1 (h : OK Z X cc own nL R) (hd : decode cc pc = .ok (.invokestatic index, 3)) (cf : CF 1 own index y bytes maxL ret n) (hM : MM Z y bytes maxL ret d As w (some x) w') (hn : As.length = n) (hR : d + 1 ≤ R.frames ∧ 8 + (maxL + 11) + 30 * d ≤ R.locals) (hst : S = As.reverse ++ rest) (h8 : (rest.map fun v => v.category).sum ≤ 8) (hp : pc + 3 = pc')
    (k : GG Z X pc' L (x :: rest) w') : GG Z X pc L S w := g_callS h hd cf hM hn hR hst h8 hp k
theorem g_callN1 (h : OK Z X cc own nL R) (hd : decode cc pc = .ok (.invokestatic index, 3)) (cf : CF 2 own index y bytes maxL ret n) (hM : MM Z y bytes maxL ret d As w (some x) w') (hn : As.length = n) (hR : d + 1 ≤ R.frames ∧ 8 + (maxL + 11) + 30 * d ≤ R.locals) (hst : S = As.reverse ++ rest) (h8 : (rest.map fun v => v.category).sum ≤ 8) (hp : pc + 3 = pc')
    (k : GG Z X pc' L (x :: rest) w') : GG Z X pc L S w := g_callN h hd cf hM hn hR hst h8 hp k
theorem g_callN0 (h : OK Z X cc own nL R) (hd : decode cc pc = .ok (.invokestatic index, 3)) (cf : CF 2 own index y bytes maxL ret n) (hM : MM Z y bytes maxL ret d As w none w') (hn : As.length = n) (hR : d + 1 ≤ R.frames ∧ 8 + (maxL + 11) + 30 * d ≤ R.locals) (hst : S = As.reverse ++ rest) (h8 : (rest.map fun v => v.category).sum ≤ 8) (hp : pc + 3 = pc')
    (k : GG Z X pc' L rest w') : GG Z X pc L S w := g_callN h hd cf hM hn hR hst h8 hp k
end CC
/-- the first list's known values are the second's -/
def LSub : List (Option Value) → List (Option Value) → Prop
  | [], _ => True
  | none :: t, L => LSub t L.tail
  | some v :: t, L => L.head? = some (some v) ∧ LSub t L.tail
theorem LSub.get : ∀ (L' L : List (Option Value)), LSub L' L → ∀ (i : Nat) (v : Value), L'[i]? = some (some v) → L[i]? = some (some v)
  | [], L, _, i, v, h => by simp at h
  | none :: t, L, hs, i, v, h => by
    cases i with
    | zero => simp at h
    | succ i =>
      have := LSub.get t L.tail hs i v (by simpa using h)
      cases L with
      | nil => simp at this
      | cons a l => simpa using this
  | some u :: t, L, hs, i, v, h => by
    cases L with
    | nil => simp [LSub] at hs
    | cons a l =>
      cases i with
      | zero =>
        have h1 := hs.1
        simp at h1 h
        simp [h1, h]
      | succ i =>
        have := LSub.get t l hs.2 i v (by simpa using h)
        simpa using this
theorem GG.castW {Z : ZT} {X : XT} {pc : Nat} {L L' : List (Option Value)} {S S' : List Value} {w w' : va_W} (k : GG Z X pc L' S' w') (hL : LSub L' L) (hS : S = S') (hw : w = w') : GG Z X pc L S w := by
  subst hS
  subst hw
  obtain ⟨p, l, e, R0, s, m, args, below, meth, c, ce, sl, nL', A, Q⟩ := X
  intro H locs ls hP hD hS hl
  exact k H locs ls hP hD hS (lvh_mono hl (fun q hq => (lcs0 L q).mpr (hL.get L' L q.1 q.2 ((lcs0 L' q).mp hq))))
/-! the bare spellings of the numbers' own functions -/
def jrem (x y : Int64) : Int64 := x - x / y * y
def labs (x : Int64) : Int64 := if 0 < x then x else -x
def cdv : Nat → Int64 → Int64 → Int64
  | 0, b, _ => b
  | k + 1, b, s => if s = 0 then b else cdv k s (jrem b s)

/-! the class and the reference side by side -/
def fb4 (f : Nat → Nat) : Nat := f 0 + f 1 + f 2 + f 3
def fb5 (f : Nat → Nat) : Nat := f 0 + f 1 + f 2 + f 3 + f 4
def dsum (d : Nat → Nat → Nat) : Nat := fb4 (fun i => fb5 (d i))
/-- the books: m houses, the toll, what went outside, coins, debts (column 4: outside), within k calls of a new object -/
def RelP (k m tt po : Nat) (c : Nat → Nat) (d : Nat → Nat → Nat) : Prop :=
  (1 ≤ m ∧ m ≤ 4 ∧ tt ≤ 5) ∧ (∀ i j, i < 4 → j < 5 → d i j ≤ 50) ∧ (∀ i, i < 4 → d i i = 0) ∧ (∀ i, m ≤ i → i < 4 → c i = 0 ∧ ∀ j, j < 5 → d i j = 0) ∧ (∀ i j, i < 4 → m ≤ j → j < 4 → d i j = 0) ∧
  (∀ i, i < 4 → c i + dsum d ≤ 1000 + 50 * k) ∧ po + dsum d ≤ 50 * k
/-- the class's rows hold the books -/
def RelC (coin debt : Nat → Int32) (c : Nat → Nat) (d : Nat → Nat → Nat) : Prop := (∀ i, i < 4 → coin i = nI (c i)) ∧ ∀ i j, i < 4 → j < 5 → debt (i * 5 + j) = nI (d i j)
/-- the reference's rows hold the books -/
def RelR (m : Nat) (cash : Nat → Int64) (debts : Nat → Int32) (c : Nat → Nat) (d : Nat → Nat → Nat) : Prop := (∀ i, i < 4 → cash i = lN (c i)) ∧ (∀ i j, i < m → j < m → debts (5 * i + j) = nI (d i j)) ∧ ∀ i, i < m → debts (5 * i + m) = nI (d i 4)
def Rel (Z : ZT) (k : Nat) (wc wr : va_W) : Prop := ∃ (m tt po : Nat) (c : Nat → Nat) (d : Nat → Nat → Nat) (coin debt fall : Nat → Int32) (shr mat rgt : Nat → Int64) (pen last : Int32) (below : Int64) (cash : Nat → Int64) (debts fallen : Nat → Int32) (rounds : Int32) (shares : Nat → Int64) (under : Int64) (table right tried : Nat → Int64) (falls : Nat → Int32) (rsize : Int32) (ro r : Nat → Nat) (found : Int32) (hh : Int64),
  RelP k m tt po c d ∧ RelC coin debt c d ∧ RelR m cash debts c d ∧
  wc = wC Z (nI m) (nI tt) (nI po) coin debt fall shr mat rgt pen last below ∧
  wr = wR Z (nI m) (nI tt) (lN po) cash debts fallen rounds shares under table right tried falls rsize (fun q => nI (ro q)) (fun q => nI (r q)) found hh
theorem Rel.rcC {Z : ZT} {k : Nat} {wc wr : va_W} (h : Rel Z k wc wr) : wc[0]? = some (Z.2.2 0, .inr (3, [.ref (Z.2.2 1), .ref (Z.2.2 2), .ref (Z.2.2 3)])) := by
  obtain ⟨m, tt, po, c, d, coin, debt, fall, shr, mat, rgt, pen, last, below, cash, debts, fallen, rounds, shares, under, table, right, tried, falls, rsize, ro, r, found, hh, h1, h2, h3, rfl, rfl⟩ := h
  rfl
theorem Rel.rcR {Z : ZT} {k : Nat} {wc wr : va_W} (h : Rel Z k wc wr) : ∃ fs, wr[0]? = some (Z.2.2 10, .inr (4, fs)) := by
  obtain ⟨m, tt, po, c, d, coin, debt, fall, shr, mat, rgt, pen, last, below, cash, debts, fallen, rounds, shares, under, table, right, tried, falls, rsize, ro, r, found, hh, h1, h2, h3, rfl, rfl⟩ := h
  exact ⟨_, rfl⟩
/-- one call on both sides: the same int, and the books agree behind it -/
def StI (Z : ZT) (yc : MethodName) (cc : ByteArray) (mlc dc : Nat) (yr : MethodName) (cr : ByteArray) (mlr dr : Nat) (as : List Value) : Prop := ∀ (k : Nat) (wc wr : va_W), k < 512 → Rel Z k wc wr → ∃ (x : Int32) (wc' wr' : va_W), MM Z yc cc mlc (some .int) dc (.ref (Z.2.2 0) :: as) wc (some (.int x)) wc' ∧ MM Z yr cr mlr (some .int) dr (.ref (Z.2.2 10) :: as) wr (some (.int x)) wr' ∧ Rel Z (k + 1) wc' wr'
def StJ (Z : ZT) (yc : MethodName) (cc : ByteArray) (mlc dc : Nat) (yr : MethodName) (cr : ByteArray) (mlr dr : Nat) (as : List Value) : Prop := ∀ (k : Nat) (wc wr : va_W), k < 512 → Rel Z k wc wr → ∃ (x : Int64) (wc' wr' : va_W), MM Z yc cc mlc (some .long) dc (.ref (Z.2.2 0) :: as) wc (some (.long x)) wc' ∧ MM Z yr cr mlr (some .long) dr (.ref (Z.2.2 10) :: as) wr (some (.long x)) wr' ∧ Rel Z (k + 1) wc' wr'
theorem RelP.up {k m tt po : Nat} {c : Nat → Nat} {d : Nat → Nat → Nat} (h : RelP k m tt po c d) : RelP (k + 1) m tt po c d := by
  obtain ⟨h1, h2, h3, h4, h5, h6, h7⟩ := h
  exact ⟨h1, h2, h3, h4, h5, fun i hi => by have := h6 i hi; omega, by omega⟩
theorem Rel.up {Z : ZT} {k : Nat} {wc wr : va_W} (h : Rel Z k wc wr) : Rel Z (k + 1) wc wr := by
  obtain ⟨m, tt, po, c, d, coin, debt, fall, shr, mat, rgt, pen, last, below, cash, debts, fallen, rounds, shares, under, table, right, tried, falls, rsize, ro, r, found, hh, h1, h2, h3, rfl, rfl⟩ := h
  exact ⟨m, tt, po, c, d, coin, debt, fall, shr, mat, rgt, pen, last, below, cash, debts, fallen, rounds, shares, under, table, right, tried, falls, rsize, ro, r, found, hh, h1.up, h2, h3, rfl, rfl⟩
def Steps (Z : ZT) : Prop := (∀ a : Int32, StI Z yX3_houses cX3_houses 2 2 yX4_houses cX4_houses 3 1 [.int a]) ∧ (∀ a b : Int32, StI Z yX3_cash cX3_cash 4 2 yX4_cash cX4_cash 4 2 [.int a, .int b]) ∧ (∀ a b c : Int32, StI Z yX3_owe cX3_owe 6 2 yX4_owe cX4_owe 5 2 [.int a, .int b, .int c]) ∧ (∀ a : Int32, StI Z yX3_toll cX3_toll 3 0 yX4_toll cX4_toll 3 1 [.int a]) ∧ (∀ a : Int32, StI Z yX3_cashOf cX3_cashOf 2 2 yX4_cashOf cX4_cashOf 2 2 [.int a]) ∧ (∀ a b : Int32, StI Z yX3_debt cX3_debt 3 2 yX4_debt cX4_debt 3 2 [.int a, .int b]) ∧ (∀ a : Int32, StI Z yX3_owes cX3_owes 2 3 yX4_owes cX4_owes 2 2 [.int a]) ∧ (∀ a : Int32, StI Z yX3_falls cX3_falls 2 6 yX4_falls cX4_falls 2 4 [.int a]) ∧ (StI Z yX3_rounds cX3_rounds 1 6 yX4_rounds cX4_rounds 1 4 []) ∧ (∀ a b : Int32, StJ Z yX3_share cX3_share 3 6 yX4_share cX4_share 3 4 [.int a, .int b]) ∧ (∀ a b : Int32, StJ Z yX3_gross cX3_gross 3 6 yX4_gross cX4_gross 3 4 [.int a, .int b]) ∧ (∀ a b c : Int32, StJ Z yX3_pays cX3_pays 6 6 yX4_pays cX4_pays 4 4 [.int a, .int b, .int c]) ∧ (∀ a b : Int32, StJ Z yX3_left cX3_left 3 6 yX4_left cX4_left 3 4 [.int a, .int b]) ∧ (∀ a : Int32, StJ Z yX3_lost cX3_lost 2 6 yX4_lost cX4_lost 5 4 [.int a]) ∧ (∀ a : Int32, StI Z yX3_drag cX3_drag 2 6 yX4_drag cX4_drag 6 4 [.int a]) ∧ (∀ a : Int32, StI Z yX3_help cX3_help 2 5 yX4_help cX4_help 2 2 [.int a]) ∧ (StI Z yX3_best cX3_best 5 5 yX4_best cX4_best 4 2 []) ∧ (∀ a : Int32, StI Z yX3_net cX3_net 2 3 yX4_net cX4_net 4 2 [.int a]) ∧ (StI Z yX3_rings cX3_rings 1 4 yX4_rings cX4_rings 1 2 []) ∧ (∀ a : Int32, StI Z yX3_ring cX3_ring 2 4 yX4_ring cX4_ring 4 2 [.int a]) ∧ (StI Z yX3_cancel cX3_cancel 2 4 yX4_cancel cX4_cancel 1 3 []) ∧ (StI Z yX3_cancelAll cX3_cancelAll 5 4 yX4_cancelAll cX4_cancelAll 3 3 []) ∧ (StI Z yX3_day cX3_day 1 4 yX4_day cX4_day 1 2 []) ∧ (StI Z yX3_days cX3_days 2 4 yX4_days cX4_days 2 2 []) ∧ (∀ a : Int32, StI Z yX3_count cX3_count 2 4 yX4_count cX4_count 5 1 [.int a]) ∧ (StJ Z yX3_digest cX3_digest 5 6 yX4_digest cX4_digest 3 4 [])

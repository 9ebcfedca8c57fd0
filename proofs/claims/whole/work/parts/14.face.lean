theorem hsO {i m : Nat} (h : i < m) (hm : m ≤ 4) : ¬ nI i < 0 ∧ ¬ nI m ≤ nI i := ⟨nI_pos (by omega), nI_ge h (by omega)⟩
theorem hpO {j m : Nat} (h : j ≤ m) (hm : m ≤ 4) : ¬ nI j < 0 ∧ ¬ nI m < nI j := ⟨nI_pos (by omega), nI_nlt h (by omega)⟩
def cm (m j : Nat) : Nat := if j = m then 4 else j
theorem col_lt {m j : Nat} (h : j ≤ m) (hm : m ≤ 4) : cm m j < 5 := by unfold cm; split <;> omega
theorem col_eq {m j : Nat} (h : j ≤ m) (hm : m ≤ 4) : (if nI j = nI m then nI 4 else nI j) = nI (cm m j) := by
  unfold cm
  by_cases e : j = m
  · rw [if_pos e, if_pos (by rw [e])]
  · rw [if_neg e, if_neg (fun q => e ((nI_eq (by omega) (by omega)).mp q))]
theorem M_X0_columnOf_N {Z : ZT} {m : Nat} {toll : Int32} {paid : Int32} {coin : Nat → Int32} {debt : Nat → Int32} {fall : Nat → Int32} {shr : Nat → Int64} {mat : Nat → Int64} {rgt : Nat → Int64} {pen : Int32} {last : Int32} {below : Int64} {i : Nat} (g0 : i ≤ m) (g1 : m ≤ 4) : MM Z yX0_columnOf cX0_columnOf 2 (some .int) 0 [.ref (Z.2.2 1), .int (nI i)] (wC Z (nI m) toll paid coin debt fall shr mat rgt pen last below) (some (.int (nI (cm m i)))) (wC Z (nI m) toll paid coin debt fall shr mat rgt pen last below) := by
  rw [← col_eq g0 g1]
  exact M_X0_columnOf
def frk (debt : Nat → Int32) : Nat → Nat → Option Nat
  | 0, _ => none
  | k + 1, j => if lm debt (fg j) (sz (fg j)) ≤ 0 then frk debt k (j + 1) else some j
/-- the first ring -/
def fr (debt : Nat → Int32) : Option Nat := frk debt 20 0
theorem frk_lt {debt : Nat → Int32} : ∀ {k j q : Nat}, frk debt k j = some q → j ≤ q ∧ q < j + k
  | 0, j, q, h => by simp [frk] at h
  | k + 1, j, q, h => by
    rw [frk] at h
    split at h
    · have := frk_lt h
      omega
    · cases h
      omega
theorem fr_lt {debt : Nat → Int32} {q : Nat} (h : fr debt = some q) : q < 20 := by have := frk_lt h; omega
theorem fgo_0 {debt : Nat → Int32} : ∀ {k j : Nat}, fgo debt (nI 0) k j 0 = match frk debt k j with | none => (-1) | some q => nI (fg q)
  | 0, j => rfl
  | k + 1, j => by
    rw [fgo, frk]
    by_cases h : lm debt (fg j) (sz (fg j)) ≤ 0
    · rw [if_pos h, if_pos h]
      exact fgo_0
    · rw [if_neg h, if_neg h, if_pos rfl]
def caC : Nat → (Nat → Int32) → Int32 → Int32 × (Nat → Int32)
  | 0, d, a => (a, d)
  | k + 1, d, a => match fr d with
    | none => (a, d)
    | some q => caC k (ls d (fg q) (lm d (fg q) (sz (fg q))) (sz (fg q))) (a + nI (sz (fg q)) * lm d (fg q) (sz (fg q)))
theorem caC_none {k : Nat} {d : Nat → Int32} {a : Int32} (h : fr d = none) : caC (k + 1) d a = (a, d) := by rw [caC, h]
theorem caC_some {k q : Nat} {d : Nat → Int32} {a : Int32} (h : fr d = some q) : caC (k + 1) d a = caC k (ls d (fg q) (lm d (fg q) (sz (fg q))) (sz (fg q))) (a + nI (sz (fg q)) * lm d (fg q) (sz (fg q))) := by rw [caC, h]
abbrev sT : Type := Int32 × (Nat → Int32) × (Nat → Int32)
def dyl : Nat → Nat → sT → Nat × sT
  | 0, c, s => (c, s)
  | k + 1, c, s => if nI (pDay 4 (0, s.1, s.2.1, s.2.2)).1 ≤ 0 then (c, (pDay 4 (0, s.1, s.2.1, s.2.2)).2) else dyl k (c + 1) (pDay 4 (0, s.1, s.2.1, s.2.2)).2
abbrev bC (coin debt : Nat → Int32) (s : Int32 × Int32) (i : Nat) : Prop := ¬ hN coin debt i = (-1) ∧ (s.1 = (-1) ∨ ¬ s.2 ≤ hN coin debt i)
def bB (coin debt : Nat → Int32) : Nat → Int32 × Int32
  | 0 => (-1, -1)
  | i + 1 => if bC coin debt (bB coin debt i) i then (nI i, hN coin debt i) else bB coin debt i
def dg1 (debt : Nat → Int32) (i : Nat) (h : Int64) : Nat → Int64
  | 0 => h
  | j + 1 => 31 * dg1 debt i h j + (debt (i * 5 + j)).toInt64
def dg2 (m : Nat) (coin debt : Nat → Int32) (h : Int64) : Nat → Int64
  | 0 => h
  | i + 1 => 31 * dg1 debt i (31 * dg2 m coin debt h i + (coin i).toInt64) m + (debt (i * 5 + 4)).toInt64
def dg3 (q : cT) (h : Int64) : Nat → Int64
  | 0 => h
  | i + 1 => 31 * (31 * (31 * dg3 q h i + (q.1 i).toInt64) + lT (q.2.1 i) q.2.2.2.2.2 (nI 0)) + lT (q.2.1 i) q.2.2.2.2.2 (nI 1)
theorem M_X2_fig_none {Z : ZT} {n : Int32} {toll : Int32} {paid : Int32} {coin : Nat → Int32} {debt : Nat → Int32} {fall : Nat → Int32} {shr : Nat → Int64} {mat : Nat → Int64} {rgt : Nat → Int64} {pen : Int32} {last : Int32} {below : Int64} (g0 : fr debt = none) : MM Z yX2_figuresOf cX2_figuresOf 5 (some .int) 3 [.ref (Z.2.2 3), .int (nI 0)] (wC Z n toll paid coin debt fall shr mat rgt pen last below) (some (.int ((-1)))) (wC Z n toll paid coin debt fall shr mat rgt pen last below) := by
  have e : fgo debt (nI 0) 20 0 0 = (-1) := by rw [fgo_0]; show (match fr debt with | none => (-1) | some q => nI (fg q)) = _; rw [g0]
  rw [← e]
  exact M_X2_figuresOf
theorem M_X2_fig_some {Z : ZT} {n : Int32} {toll : Int32} {paid : Int32} {coin : Nat → Int32} {debt : Nat → Int32} {fall : Nat → Int32} {shr : Nat → Int64} {mat : Nat → Int64} {rgt : Nat → Int64} {pen : Int32} {last : Int32} {below : Int64} {q : Nat} (g0 : fr debt = some q) : MM Z yX2_figuresOf cX2_figuresOf 5 (some .int) 3 [.ref (Z.2.2 3), .int (nI 0)] (wC Z n toll paid coin debt fall shr mat rgt pen last below) (some (.int (nI (fg q)))) (wC Z n toll paid coin debt fall shr mat rgt pen last below) := by
  have e : fgo debt (nI 0) 20 0 0 = nI (fg q) := by rw [fgo_0]; show (match fr debt with | none => (-1) | some q => nI (fg q)) = _; rw [g0]
  rw [← e]
  exact M_X2_figuresOf
set_option maxRecDepth 20000 in
set_option maxHeartbeats 4000000 in
theorem M_houses_O {Z : ZT} {n : Int32} {toll : Int32} {paid : Int32} {coin : Nat → Int32} {debt : Nat → Int32} {fall : Nat → Int32} {shr : Nat → Int64} {mat : Nat → Int64} {rgt : Nat → Int64} {pen : Int32} {last : Int32} {below : Int64} {v : Int32}  (g0 : v < nI 1 ∨ nI 4 < v) : MM Z yX3_houses cX3_houses 2 (some .int) 2 [.ref (Z.2.2 0), .int v] (wC Z n toll paid coin debt fall shr mat rgt pen last below) (some (.int (-102))) (wC Z n toll paid coin debt fall shr mat rgt pen last below) := by
  refine MM.intro (by decide) [some (.ref (Z.2.2 0)), some (.int v)] rfl (Nat.le_of_ble_eq_true rfl) (fun X (h : OK Z X cX3_houses RX3 2 (rmd 2)) hr => ?_)
  refine g_iload_n (i := 1) h dX3_houses_0 rfl rfl (pc' := 1) rfl ?_
  refine g_iconst (v := nI 1) h dX3_houses_1 (by decide) (pc' := 2) rfl ?_
  refine g_icmp_lt (tg := 10) h dX3_houses_2 (by decide) (pc' := 5) rfl (fun c1 => ?_) (fun c1 => ?_)
  · skip
    refine g_bipush (v := (-102)) h dX3_houses_10 (by decide) (pc' := 12) rfl ?_
    exact g_iret h hr dX3_houses_12 (by first | rfl | simp only [if_pos c1] | simp [c1]) rfl
  · skip
    refine g_iload_n (i := 1) h dX3_houses_5 rfl rfl (pc' := 6) rfl ?_
    refine g_iconst (v := nI 4) h dX3_houses_6 (by decide) (pc' := 7) rfl ?_
    refine g_icmp_le (tg := 13) h dX3_houses_7 (by decide) (pc' := 10) rfl (fun c2 => ?_) (fun c2 => ?_)
    · skip
      exact absurd g0 (fun q => by rcases q with q | q; exact c1 q; exact Int32.not_lt.mpr c2 q)
    · skip
      refine g_bipush (v := (-102)) h dX3_houses_10 (by decide) (pc' := 12) rfl ?_
      exact g_iret h hr dX3_houses_12 (by first | rfl | simp only [if_neg c1, if_neg c2] | simp [c1, c2]) rfl
set_option maxRecDepth 20000 in
set_option maxHeartbeats 4000000 in
theorem M_houses {Z : ZT} {n : Int32} {toll : Int32} {paid : Int32} {coin : Nat → Int32} {debt : Nat → Int32} {fall : Nat → Int32} {shr : Nat → Int64} {mat : Nat → Int64} {rgt : Nat → Int64} {pen : Int32} {last : Int32} {below : Int64} {v : Nat}  (g0 : 1 ≤ v) (g1 : v ≤ 4) : MM Z yX3_houses cX3_houses 2 (some .int) 2 [.ref (Z.2.2 0), .int (nI v)] (wC Z n toll paid coin debt fall shr mat rgt pen last below) (some (.int (nI v))) (wC Z (nI v) (nI 0) (nI 0) (zf coin 4) (zf debt 20) fall shr mat rgt pen last below) := by
  refine MM.intro (by decide) [some (.ref (Z.2.2 0)), some (.int (nI v))] rfl (Nat.le_of_ble_eq_true rfl) (fun X (h : OK Z X cX3_houses RX3 2 (rmd 2)) hr => ?_)
  refine g_iload_n (i := 1) h dX3_houses_0 rfl rfl (pc' := 1) rfl ?_
  refine g_iconst (v := nI 1) h dX3_houses_1 (by decide) (pc' := 2) rfl ?_
  refine g_icmp_ltF (tg := 10) h dX3_houses_2 (by decide) (pc' := 5) rfl (nI_nlt g0 (by omega)) ?_
  refine g_iload_n (i := 1) h dX3_houses_5 rfl rfl (pc' := 6) rfl ?_
  refine g_iconst (v := nI 4) h dX3_houses_6 (by decide) (pc' := 7) rfl ?_
  refine g_icmp_leT (tg := 13) h dX3_houses_7 (by decide) (nI_le g1 (by omega)) ?_
  refine g_aload_n (i := 0) h dX3_houses_13 rfl rfl (pc' := 14) rfl ?_
  refine gf_X3_10 h dX3_houses_14 (pc' := 17) rfl ?_
  refine g_iload_n (i := 1) h dX3_houses_17 rfl rfl (pc' := 18) rfl ?_
  refine g_callV0 (q0 := 1) h dX3_houses_18 cf_X3_32 (M_X0_open (m := nI v) ) rfl rfl rfl rfl (by decide) rfl (Nat.le_of_ble_eq_true rfl) (pc' := 21) rfl ?_
  refine g_iload_n (i := 1) h dX3_houses_21 rfl rfl (pc' := 22) rfl ?_
  exact g_iret h hr dX3_houses_22 rfl rfl
set_option maxRecDepth 20000 in
set_option maxHeartbeats 4000000 in
theorem M_cash_U {Z : ZT} {m : Nat} {toll : Int32} {paid : Int32} {coin : Nat → Int32} {debt : Nat → Int32} {fall : Nat → Int32} {shr : Nat → Int64} {mat : Nat → Int64} {rgt : Nat → Int64} {pen : Int32} {last : Int32} {below : Int64} {i : Int32} {v : Int32}  (g0 : ¬ (¬ i < 0 ∧ ¬ nI m ≤ i)) : MM Z yX3_cash cX3_cash 4 (some .int) 2 [.ref (Z.2.2 0), .int i, .int v] (wC Z (nI m) toll paid coin debt fall shr mat rgt pen last below) (some (.int (-101))) (wC Z (nI m) toll paid coin debt fall shr mat rgt pen last below) := by
  refine MM.intro (by decide) [some (.ref (Z.2.2 0)), some (.int i), some (.int v), none] rfl (Nat.le_of_ble_eq_true rfl) (fun X (h : OK Z X cX3_cash RX3 4 (rmd 2)) hr => ?_)
  refine g_aload_n (i := 0) h dX3_cash_0 rfl rfl (pc' := 1) rfl ?_
  refine gf_X3_10 h dX3_cash_1 (pc' := 4) rfl ?_
  refine g_iload_n (i := 1) h dX3_cash_4 rfl rfl (pc' := 5) rfl ?_
  refine g_callV1 (q0 := 1) h dX3_cash_5 cf_X3_36 (M_X0_isHouse (i := i) ) rfl rfl rfl rfl (by decide) rfl (Nat.le_of_ble_eq_true rfl) (pc' := 8) rfl ?_
  refine g_if_neF (tg := 14) h dX3_cash_8 (by decide) (pc' := 11) rfl (bI_n g0) ?_
  refine g_bipush (v := (-101)) h dX3_cash_11 (by decide) (pc' := 13) rfl ?_
  exact g_iret h hr dX3_cash_13 rfl rfl
set_option maxRecDepth 20000 in
set_option maxHeartbeats 4000000 in
theorem M_cash_O {Z : ZT} {m : Nat} {toll : Int32} {paid : Int32} {coin : Nat → Int32} {debt : Nat → Int32} {fall : Nat → Int32} {shr : Nat → Int64} {mat : Nat → Int64} {rgt : Nat → Int64} {pen : Int32} {last : Int32} {below : Int64} {i : Nat} {v : Int32}  (g0 : i < m) (g1 : m ≤ 4) (g2 : v < 0 ∨ ¬ v ≤ nI 1000) : MM Z yX3_cash cX3_cash 4 (some .int) 2 [.ref (Z.2.2 0), .int (nI i), .int v] (wC Z (nI m) toll paid coin debt fall shr mat rgt pen last below) (some (.int (-102))) (wC Z (nI m) toll paid coin debt fall shr mat rgt pen last below) := by
  refine MM.intro (by decide) [some (.ref (Z.2.2 0)), some (.int (nI i)), some (.int v), none] rfl (Nat.le_of_ble_eq_true rfl) (fun X (h : OK Z X cX3_cash RX3 4 (rmd 2)) hr => ?_)
  refine g_aload_n (i := 0) h dX3_cash_0 rfl rfl (pc' := 1) rfl ?_
  refine gf_X3_10 h dX3_cash_1 (pc' := 4) rfl ?_
  refine g_iload_n (i := 1) h dX3_cash_4 rfl rfl (pc' := 5) rfl ?_
  refine g_callV1 (q0 := 1) h dX3_cash_5 cf_X3_36 (M_X0_isHouse (i := nI i) ) rfl rfl rfl rfl (by decide) rfl (Nat.le_of_ble_eq_true rfl) (pc' := 8) rfl ?_
  refine g_if_neT (tg := 14) h dX3_cash_8 (by decide) (fun q => (bI_0.mp q) (hsO g0 g1)) ?_
  refine g_iload_n (i := 2) h dX3_cash_14 rfl rfl (pc' := 15) rfl ?_
  refine g_if_lt (tg := 25) h dX3_cash_15 (by decide) (pc' := 18) rfl (fun c1 => ?_) (fun c1 => ?_)
  · skip
    refine g_bipush (v := (-102)) h dX3_cash_25 (by decide) (pc' := 27) rfl ?_
    exact g_iret h hr dX3_cash_27 (by first | rfl | simp only [if_pos c1] | simp [c1]) rfl
  · skip
    refine g_iload_n (i := 2) h dX3_cash_18 rfl rfl (pc' := 19) rfl ?_
    refine g_sipush (v := nI 1000) h dX3_cash_19 (by decide) (pc' := 22) rfl ?_
    refine g_icmp_le (tg := 28) h dX3_cash_22 (by decide) (pc' := 25) rfl (fun c2 => ?_) (fun c2 => ?_)
    · skip
      exact absurd g2 (fun q => by rcases q with q | q; exact c1 q; exact q c2)
    · skip
      refine g_bipush (v := (-102)) h dX3_cash_25 (by decide) (pc' := 27) rfl ?_
      exact g_iret h hr dX3_cash_27 (by first | rfl | simp only [if_neg c1, if_neg c2] | simp [c1, c2]) rfl
set_option maxRecDepth 20000 in
set_option maxHeartbeats 4000000 in
theorem M_cash {Z : ZT} {m : Nat} {toll : Int32} {paid : Int32} {coin : Nat → Int32} {debt : Nat → Int32} {fall : Nat → Int32} {shr : Nat → Int64} {mat : Nat → Int64} {rgt : Nat → Int64} {pen : Int32} {last : Int32} {below : Int64} {i : Nat} {v : Int32}  (g0 : i < m) (g1 : m ≤ 4) (g2 : ¬ v < 0) (g3 : v ≤ nI 1000) : MM Z yX3_cash cX3_cash 4 (some .int) 2 [.ref (Z.2.2 0), .int (nI i), .int v] (wC Z (nI m) toll paid coin debt fall shr mat rgt pen last below) (some (.int (coin i))) (wC Z (nI m) toll paid (upd coin i v) debt fall shr mat rgt pen last below) := by
  refine MM.intro (by decide) [some (.ref (Z.2.2 0)), some (.int (nI i)), some (.int v), none] rfl (Nat.le_of_ble_eq_true rfl) (fun X (h : OK Z X cX3_cash RX3 4 (rmd 2)) hr => ?_)
  refine g_aload_n (i := 0) h dX3_cash_0 rfl rfl (pc' := 1) rfl ?_
  refine gf_X3_10 h dX3_cash_1 (pc' := 4) rfl ?_
  refine g_iload_n (i := 1) h dX3_cash_4 rfl rfl (pc' := 5) rfl ?_
  refine g_callV1 (q0 := 1) h dX3_cash_5 cf_X3_36 (M_X0_isHouse (i := nI i) ) rfl rfl rfl rfl (by decide) rfl (Nat.le_of_ble_eq_true rfl) (pc' := 8) rfl ?_
  refine g_if_neT (tg := 14) h dX3_cash_8 (by decide) (fun q => (bI_0.mp q) (hsO g0 g1)) ?_
  refine g_iload_n (i := 2) h dX3_cash_14 rfl rfl (pc' := 15) rfl ?_
  refine g_if_ltF (tg := 25) h dX3_cash_15 (by decide) (pc' := 18) rfl g2 ?_
  refine g_iload_n (i := 2) h dX3_cash_18 rfl rfl (pc' := 19) rfl ?_
  refine g_sipush (v := nI 1000) h dX3_cash_19 (by decide) (pc' := 22) rfl ?_
  refine g_icmp_leT (tg := 28) h dX3_cash_22 (by decide) g3 ?_
  refine g_aload_n (i := 0) h dX3_cash_28 rfl rfl (pc' := 29) rfl ?_
  refine gf_X3_10 h dX3_cash_29 (pc' := 32) rfl ?_
  refine g_iload_n (i := 1) h dX3_cash_32 rfl rfl (pc' := 33) rfl ?_
  refine g_callV1 (q0 := 1) h dX3_cash_33 cf_X3_40 (M_X0_coins (i := i) (by omega)) rfl rfl rfl rfl (by decide) rfl (Nat.le_of_ble_eq_true rfl) (pc' := 36) rfl ?_
  refine g_istore3 h dX3_cash_36 rfl (by decide) (pc' := 37) rfl ?_
  refine g_aload_n (i := 0) h dX3_cash_37 rfl rfl (pc' := 38) rfl ?_
  refine gf_X3_10 h dX3_cash_38 (pc' := 41) rfl ?_
  refine g_iload_n (i := 1) h dX3_cash_41 rfl rfl (pc' := 42) rfl ?_
  refine g_iload_n (i := 2) h dX3_cash_42 rfl rfl (pc' := 43) rfl ?_
  refine g_callV0 (q0 := 1) h dX3_cash_43 cf_X3_44 (M_X0_setCoins (i := i) (v := v) (by omega)) rfl rfl rfl rfl (by decide) rfl (Nat.le_of_ble_eq_true rfl) (pc' := 46) rfl ?_
  refine g_iload_n (i := 3) h dX3_cash_46 rfl rfl (pc' := 47) rfl ?_
  exact g_iret h hr dX3_cash_47 rfl rfl
set_option maxRecDepth 20000 in
set_option maxHeartbeats 4000000 in
theorem M_owe_U {Z : ZT} {m : Nat} {toll : Int32} {paid : Int32} {coin : Nat → Int32} {debt : Nat → Int32} {fall : Nat → Int32} {shr : Nat → Int64} {mat : Nat → Int64} {rgt : Nat → Int64} {pen : Int32} {last : Int32} {below : Int64} {i : Int32} {j : Int32} {v : Int32}  (g0 : ¬ (¬ i < 0 ∧ ¬ nI m ≤ i)) : MM Z yX3_owe cX3_owe 6 (some .int) 2 [.ref (Z.2.2 0), .int i, .int j, .int v] (wC Z (nI m) toll paid coin debt fall shr mat rgt pen last below) (some (.int (-101))) (wC Z (nI m) toll paid coin debt fall shr mat rgt pen last below) := by
  refine MM.intro (by decide) [some (.ref (Z.2.2 0)), some (.int i), some (.int j), some (.int v), none, none] rfl (Nat.le_of_ble_eq_true rfl) (fun X (h : OK Z X cX3_owe RX3 6 (rmd 2)) hr => ?_)
  refine g_aload_n (i := 0) h dX3_owe_0 rfl rfl (pc' := 1) rfl ?_
  refine gf_X3_10 h dX3_owe_1 (pc' := 4) rfl ?_
  refine g_iload_n (i := 1) h dX3_owe_4 rfl rfl (pc' := 5) rfl ?_
  refine g_callV1 (q0 := 1) h dX3_owe_5 cf_X3_36 (M_X0_isHouse (i := i) ) rfl rfl rfl rfl (by decide) rfl (Nat.le_of_ble_eq_true rfl) (pc' := 8) rfl ?_
  refine g_if_eqT (tg := 22) h dX3_owe_8 (by decide) (bI_n g0) ?_
  refine g_bipush (v := (-101)) h dX3_owe_22 (by decide) (pc' := 24) rfl ?_
  exact g_iret h hr dX3_owe_24 rfl rfl
set_option maxRecDepth 20000 in
set_option maxHeartbeats 4000000 in
theorem M_owe_UP {Z : ZT} {m : Nat} {toll : Int32} {paid : Int32} {coin : Nat → Int32} {debt : Nat → Int32} {fall : Nat → Int32} {shr : Nat → Int64} {mat : Nat → Int64} {rgt : Nat → Int64} {pen : Int32} {last : Int32} {below : Int64} {i : Nat} {j : Int32} {v : Int32}  (g0 : i < m) (g1 : m ≤ 4) (g2 : ¬ (¬ j < 0 ∧ ¬ nI m < j)) : MM Z yX3_owe cX3_owe 6 (some .int) 2 [.ref (Z.2.2 0), .int (nI i), .int j, .int v] (wC Z (nI m) toll paid coin debt fall shr mat rgt pen last below) (some (.int (-101))) (wC Z (nI m) toll paid coin debt fall shr mat rgt pen last below) := by
  refine MM.intro (by decide) [some (.ref (Z.2.2 0)), some (.int (nI i)), some (.int j), some (.int v), none, none] rfl (Nat.le_of_ble_eq_true rfl) (fun X (h : OK Z X cX3_owe RX3 6 (rmd 2)) hr => ?_)
  refine g_aload_n (i := 0) h dX3_owe_0 rfl rfl (pc' := 1) rfl ?_
  refine gf_X3_10 h dX3_owe_1 (pc' := 4) rfl ?_
  refine g_iload_n (i := 1) h dX3_owe_4 rfl rfl (pc' := 5) rfl ?_
  refine g_callV1 (q0 := 1) h dX3_owe_5 cf_X3_36 (M_X0_isHouse (i := nI i) ) rfl rfl rfl rfl (by decide) rfl (Nat.le_of_ble_eq_true rfl) (pc' := 8) rfl ?_
  refine g_if_eqF (tg := 22) h dX3_owe_8 (by decide) (pc' := 11) rfl (fun q => (bI_0.mp q) (hsO g0 g1)) ?_
  refine g_aload_n (i := 0) h dX3_owe_11 rfl rfl (pc' := 12) rfl ?_
  refine gf_X3_10 h dX3_owe_12 (pc' := 15) rfl ?_
  refine g_iload_n (i := 2) h dX3_owe_15 rfl rfl (pc' := 16) rfl ?_
  refine g_callV1 (q0 := 1) h dX3_owe_16 cf_X3_48 (M_X0_isPayee (i := j) ) rfl rfl rfl rfl (by decide) rfl (Nat.le_of_ble_eq_true rfl) (pc' := 19) rfl ?_
  refine g_if_neF (tg := 25) h dX3_owe_19 (by decide) (pc' := 22) rfl (bI_n g2) ?_
  refine g_bipush (v := (-101)) h dX3_owe_22 (by decide) (pc' := 24) rfl ?_
  exact g_iret h hr dX3_owe_24 rfl rfl
set_option maxRecDepth 20000 in
set_option maxHeartbeats 4000000 in
theorem M_owe_O {Z : ZT} {m : Nat} {toll : Int32} {paid : Int32} {coin : Nat → Int32} {debt : Nat → Int32} {fall : Nat → Int32} {shr : Nat → Int64} {mat : Nat → Int64} {rgt : Nat → Int64} {pen : Int32} {last : Int32} {below : Int64} {i : Nat} {j : Nat} {v : Int32}  (g0 : i < m) (g1 : m ≤ 4) (g2 : j ≤ m) (g3 : v < 0 ∨ nI 50 < v ∨ i = j) : MM Z yX3_owe cX3_owe 6 (some .int) 2 [.ref (Z.2.2 0), .int (nI i), .int (nI j), .int v] (wC Z (nI m) toll paid coin debt fall shr mat rgt pen last below) (some (.int (-102))) (wC Z (nI m) toll paid coin debt fall shr mat rgt pen last below) := by
  refine MM.intro (by decide) [some (.ref (Z.2.2 0)), some (.int (nI i)), some (.int (nI j)), some (.int v), none, none] rfl (Nat.le_of_ble_eq_true rfl) (fun X (h : OK Z X cX3_owe RX3 6 (rmd 2)) hr => ?_)
  refine g_aload_n (i := 0) h dX3_owe_0 rfl rfl (pc' := 1) rfl ?_
  refine gf_X3_10 h dX3_owe_1 (pc' := 4) rfl ?_
  refine g_iload_n (i := 1) h dX3_owe_4 rfl rfl (pc' := 5) rfl ?_
  refine g_callV1 (q0 := 1) h dX3_owe_5 cf_X3_36 (M_X0_isHouse (i := nI i) ) rfl rfl rfl rfl (by decide) rfl (Nat.le_of_ble_eq_true rfl) (pc' := 8) rfl ?_
  refine g_if_eqF (tg := 22) h dX3_owe_8 (by decide) (pc' := 11) rfl (fun q => (bI_0.mp q) (hsO g0 g1)) ?_
  refine g_aload_n (i := 0) h dX3_owe_11 rfl rfl (pc' := 12) rfl ?_
  refine gf_X3_10 h dX3_owe_12 (pc' := 15) rfl ?_
  refine g_iload_n (i := 2) h dX3_owe_15 rfl rfl (pc' := 16) rfl ?_
  refine g_callV1 (q0 := 1) h dX3_owe_16 cf_X3_48 (M_X0_isPayee (i := nI j) ) rfl rfl rfl rfl (by decide) rfl (Nat.le_of_ble_eq_true rfl) (pc' := 19) rfl ?_
  refine g_if_neT (tg := 25) h dX3_owe_19 (by decide) (fun q => (bI_0.mp q) (hpO g2 g1)) ?_
  refine g_iload_n (i := 3) h dX3_owe_25 rfl rfl (pc' := 26) rfl ?_
  refine g_if_lt (tg := 40) h dX3_owe_26 (by decide) (pc' := 29) rfl (fun c1 => ?_) (fun c1 => ?_)
  · skip
    refine g_bipush (v := (-102)) h dX3_owe_40 (by decide) (pc' := 42) rfl ?_
    exact g_iret h hr dX3_owe_42 (by first | rfl | simp only [if_pos c1] | simp [c1]) rfl
  · skip
    refine g_iload_n (i := 3) h dX3_owe_29 rfl rfl (pc' := 30) rfl ?_
    refine g_bipush (v := nI 50) h dX3_owe_30 (by decide) (pc' := 32) rfl ?_
    refine g_icmp_gt (tg := 40) h dX3_owe_32 (by decide) (pc' := 35) rfl (fun c2 => ?_) (fun c2 => ?_)
    · skip
      refine g_bipush (v := (-102)) h dX3_owe_40 (by decide) (pc' := 42) rfl ?_
      exact g_iret h hr dX3_owe_42 (by first | rfl | simp only [if_neg c1, if_pos c2] | simp [c1, c2]) rfl
    · skip
      refine g_iload_n (i := 1) h dX3_owe_35 rfl rfl (pc' := 36) rfl ?_
      refine g_iload_n (i := 2) h dX3_owe_36 rfl rfl (pc' := 37) rfl ?_
      refine g_icmp_ne (tg := 43) h dX3_owe_37 (by decide) (pc' := 40) rfl (fun c3 => ?_) (fun c3 => ?_)
      · skip
        exact absurd g3 (fun q => by rcases q with q | q | q; exact c1 q; exact c2 q; exact c3 (by rw [q]))
      · skip
        refine g_bipush (v := (-102)) h dX3_owe_40 (by decide) (pc' := 42) rfl ?_
        exact g_iret h hr dX3_owe_42 (by first | rfl | simp only [if_neg c1, if_neg c2, if_pos c3] | simp [c1, c2, c3]) rfl
set_option maxRecDepth 20000 in
set_option maxHeartbeats 4000000 in
theorem M_owe {Z : ZT} {m : Nat} {toll : Int32} {paid : Int32} {coin : Nat → Int32} {debt : Nat → Int32} {fall : Nat → Int32} {shr : Nat → Int64} {mat : Nat → Int64} {rgt : Nat → Int64} {pen : Int32} {last : Int32} {below : Int64} {i : Nat} {j : Nat} {v : Int32}  (g0 : i < m) (g1 : m ≤ 4) (g2 : j ≤ m) (g3 : ¬ v < 0) (g4 : ¬ nI 50 < v) (g5 : ¬ i = j) : MM Z yX3_owe cX3_owe 6 (some .int) 2 [.ref (Z.2.2 0), .int (nI i), .int (nI j), .int v] (wC Z (nI m) toll paid coin debt fall shr mat rgt pen last below) (some (.int (debt (i * 5 + cm m j)))) (wC Z (nI m) toll paid coin (upd debt (i * 5 + cm m j) v) fall shr mat rgt pen last below) := by
  refine MM.intro (by decide) [some (.ref (Z.2.2 0)), some (.int (nI i)), some (.int (nI j)), some (.int v), none, none] rfl (Nat.le_of_ble_eq_true rfl) (fun X (h : OK Z X cX3_owe RX3 6 (rmd 2)) hr => ?_)
  refine g_aload_n (i := 0) h dX3_owe_0 rfl rfl (pc' := 1) rfl ?_
  refine gf_X3_10 h dX3_owe_1 (pc' := 4) rfl ?_
  refine g_iload_n (i := 1) h dX3_owe_4 rfl rfl (pc' := 5) rfl ?_
  refine g_callV1 (q0 := 1) h dX3_owe_5 cf_X3_36 (M_X0_isHouse (i := nI i) ) rfl rfl rfl rfl (by decide) rfl (Nat.le_of_ble_eq_true rfl) (pc' := 8) rfl ?_
  refine g_if_eqF (tg := 22) h dX3_owe_8 (by decide) (pc' := 11) rfl (fun q => (bI_0.mp q) (hsO g0 g1)) ?_
  refine g_aload_n (i := 0) h dX3_owe_11 rfl rfl (pc' := 12) rfl ?_
  refine gf_X3_10 h dX3_owe_12 (pc' := 15) rfl ?_
  refine g_iload_n (i := 2) h dX3_owe_15 rfl rfl (pc' := 16) rfl ?_
  refine g_callV1 (q0 := 1) h dX3_owe_16 cf_X3_48 (M_X0_isPayee (i := nI j) ) rfl rfl rfl rfl (by decide) rfl (Nat.le_of_ble_eq_true rfl) (pc' := 19) rfl ?_
  refine g_if_neT (tg := 25) h dX3_owe_19 (by decide) (fun q => (bI_0.mp q) (hpO g2 g1)) ?_
  refine g_iload_n (i := 3) h dX3_owe_25 rfl rfl (pc' := 26) rfl ?_
  refine g_if_ltF (tg := 40) h dX3_owe_26 (by decide) (pc' := 29) rfl g3 ?_
  refine g_iload_n (i := 3) h dX3_owe_29 rfl rfl (pc' := 30) rfl ?_
  refine g_bipush (v := nI 50) h dX3_owe_30 (by decide) (pc' := 32) rfl ?_
  refine g_icmp_gtF (tg := 40) h dX3_owe_32 (by decide) (pc' := 35) rfl g4 ?_
  refine g_iload_n (i := 1) h dX3_owe_35 rfl rfl (pc' := 36) rfl ?_
  refine g_iload_n (i := 2) h dX3_owe_36 rfl rfl (pc' := 37) rfl ?_
  refine g_icmp_neT (tg := 43) h dX3_owe_37 (by decide) (fun q => g5 ((nI_eq (by omega) (by omega)).mp q)) ?_
  refine g_aload_n (i := 0) h dX3_owe_43 rfl rfl (pc' := 44) rfl ?_
  refine gf_X3_10 h dX3_owe_44 (pc' := 47) rfl ?_
  refine g_iload_n (i := 2) h dX3_owe_47 rfl rfl (pc' := 48) rfl ?_
  refine g_callV1 (q0 := 1) h dX3_owe_48 cf_X3_51 (M_X0_columnOf_N (i := j) g2 g1) rfl rfl rfl rfl (by decide) rfl (Nat.le_of_ble_eq_true rfl) (pc' := 51) rfl ?_
  refine g_istore4 h dX3_owe_51 rfl (by decide) (pc' := 53) rfl ?_
  refine g_aload_n (i := 0) h dX3_owe_53 rfl rfl (pc' := 54) rfl ?_
  refine gf_X3_10 h dX3_owe_54 (pc' := 57) rfl ?_
  refine g_iload_n (i := 1) h dX3_owe_57 rfl rfl (pc' := 58) rfl ?_
  refine g_iload h dX3_owe_58 rfl (pc' := 60) rfl ?_
  refine g_callV1 (q0 := 1) h dX3_owe_60 cf_X3_54 (M_X0_owed (i := i) (c := cm m j) (by omega) (col_lt g2 g1)) rfl rfl rfl rfl (by decide) rfl (Nat.le_of_ble_eq_true rfl) (pc' := 63) rfl ?_
  refine g_istore5 h dX3_owe_63 rfl (by decide) (pc' := 65) rfl ?_
  refine g_aload_n (i := 0) h dX3_owe_65 rfl rfl (pc' := 66) rfl ?_
  refine gf_X3_10 h dX3_owe_66 (pc' := 69) rfl ?_
  refine g_iload_n (i := 1) h dX3_owe_69 rfl rfl (pc' := 70) rfl ?_
  refine g_iload h dX3_owe_70 rfl (pc' := 72) rfl ?_
  refine g_iload_n (i := 3) h dX3_owe_72 rfl rfl (pc' := 73) rfl ?_
  refine g_callV0 (q0 := 1) h dX3_owe_73 cf_X3_58 (M_X0_setOwed (i := i) (c := cm m j) (v := v) (by omega) (col_lt g2 g1)) rfl rfl rfl rfl (by decide) rfl (Nat.le_of_ble_eq_true rfl) (pc' := 76) rfl ?_
  refine g_iload h dX3_owe_76 rfl (pc' := 78) rfl ?_
  exact g_iret h hr dX3_owe_78 rfl rfl
set_option maxRecDepth 20000 in
set_option maxHeartbeats 4000000 in
theorem M_toll_O {Z : ZT} {m : Nat} {toll : Int32} {paid : Int32} {coin : Nat → Int32} {debt : Nat → Int32} {fall : Nat → Int32} {shr : Nat → Int64} {mat : Nat → Int64} {rgt : Nat → Int64} {pen : Int32} {last : Int32} {below : Int64} {v : Int32}  (g0 : v < 0 ∨ ¬ v ≤ nI 5) : MM Z yX3_toll cX3_toll 3 (some .int) 0 [.ref (Z.2.2 0), .int v] (wC Z (nI m) toll paid coin debt fall shr mat rgt pen last below) (some (.int (-102))) (wC Z (nI m) toll paid coin debt fall shr mat rgt pen last below) := by
  refine MM.intro (by decide) [some (.ref (Z.2.2 0)), some (.int v), none] rfl (Nat.le_of_ble_eq_true rfl) (fun X (h : OK Z X cX3_toll RX3 3 (rmd 0)) hr => ?_)
  refine g_iload_n (i := 1) h dX3_toll_0 rfl rfl (pc' := 1) rfl ?_
  refine g_if_lt (tg := 9) h dX3_toll_1 (by decide) (pc' := 4) rfl (fun c1 => ?_) (fun c1 => ?_)
  · skip
    refine g_bipush (v := (-102)) h dX3_toll_9 (by decide) (pc' := 11) rfl ?_
    exact g_iret h hr dX3_toll_11 (by first | rfl | simp only [if_pos c1] | simp [c1]) rfl
  · skip
    refine g_iload_n (i := 1) h dX3_toll_4 rfl rfl (pc' := 5) rfl ?_
    refine g_iconst (v := nI 5) h dX3_toll_5 (by decide) (pc' := 6) rfl ?_
    refine g_icmp_le (tg := 12) h dX3_toll_6 (by decide) (pc' := 9) rfl (fun c2 => ?_) (fun c2 => ?_)
    · skip
      exact absurd g0 (fun q => by rcases q with q | q; exact c1 q; exact q c2)
    · skip
      refine g_bipush (v := (-102)) h dX3_toll_9 (by decide) (pc' := 11) rfl ?_
      exact g_iret h hr dX3_toll_11 (by first | rfl | simp only [if_neg c1, if_neg c2] | simp [c1, c2]) rfl
set_option maxRecDepth 20000 in
set_option maxHeartbeats 4000000 in
theorem M_toll {Z : ZT} {m : Nat} {toll : Int32} {paid : Int32} {coin : Nat → Int32} {debt : Nat → Int32} {fall : Nat → Int32} {shr : Nat → Int64} {mat : Nat → Int64} {rgt : Nat → Int64} {pen : Int32} {last : Int32} {below : Int64} {v : Int32}  (g0 : ¬ v < 0) (g1 : v ≤ nI 5) : MM Z yX3_toll cX3_toll 3 (some .int) 0 [.ref (Z.2.2 0), .int v] (wC Z (nI m) toll paid coin debt fall shr mat rgt pen last below) (some (.int toll)) (wC Z (nI m) v paid coin debt fall shr mat rgt pen last below) := by
  refine MM.intro (by decide) [some (.ref (Z.2.2 0)), some (.int v), none] rfl (Nat.le_of_ble_eq_true rfl) (fun X (h : OK Z X cX3_toll RX3 3 (rmd 0)) hr => ?_)
  refine g_iload_n (i := 1) h dX3_toll_0 rfl rfl (pc' := 1) rfl ?_
  refine g_if_ltF (tg := 9) h dX3_toll_1 (by decide) (pc' := 4) rfl g0 ?_
  refine g_iload_n (i := 1) h dX3_toll_4 rfl rfl (pc' := 5) rfl ?_
  refine g_iconst (v := nI 5) h dX3_toll_5 (by decide) (pc' := 6) rfl ?_
  refine g_icmp_leT (tg := 12) h dX3_toll_6 (by decide) g1 ?_
  refine g_aload_n (i := 0) h dX3_toll_12 rfl rfl (pc' := 13) rfl ?_
  refine gf_X3_10 h dX3_toll_13 (pc' := 16) rfl ?_
  refine gf_X3_62 h dX3_toll_16 (pc' := 19) rfl ?_
  refine g_istore2 h dX3_toll_19 rfl (by decide) (pc' := 20) rfl ?_
  refine g_aload_n (i := 0) h dX3_toll_20 rfl rfl (pc' := 21) rfl ?_
  refine gf_X3_10 h dX3_toll_21 (pc' := 24) rfl ?_
  refine g_iload_n (i := 1) h dX3_toll_24 rfl rfl (pc' := 25) rfl ?_
  refine pf_X3_62 h dX3_toll_25 (pc' := 28) rfl ?_
  refine g_iload_n (i := 2) h dX3_toll_28 rfl rfl (pc' := 29) rfl ?_
  exact g_iret h hr dX3_toll_29 rfl rfl
set_option maxRecDepth 20000 in
set_option maxHeartbeats 4000000 in
theorem M_cashOf_U {Z : ZT} {m : Nat} {toll : Int32} {paid : Int32} {coin : Nat → Int32} {debt : Nat → Int32} {fall : Nat → Int32} {shr : Nat → Int64} {mat : Nat → Int64} {rgt : Nat → Int64} {pen : Int32} {last : Int32} {below : Int64} {i : Int32}  (g0 : ¬ (¬ i < 0 ∧ ¬ nI m ≤ i)) : MM Z yX3_cashOf cX3_cashOf 2 (some .int) 2 [.ref (Z.2.2 0), .int i] (wC Z (nI m) toll paid coin debt fall shr mat rgt pen last below) (some (.int (-101))) (wC Z (nI m) toll paid coin debt fall shr mat rgt pen last below) := by
  refine MM.intro (by decide) [some (.ref (Z.2.2 0)), some (.int i)] rfl (Nat.le_of_ble_eq_true rfl) (fun X (h : OK Z X cX3_cashOf RX3 2 (rmd 2)) hr => ?_)
  refine g_aload_n (i := 0) h dX3_cashOf_0 rfl rfl (pc' := 1) rfl ?_
  refine gf_X3_10 h dX3_cashOf_1 (pc' := 4) rfl ?_
  refine g_iload_n (i := 1) h dX3_cashOf_4 rfl rfl (pc' := 5) rfl ?_
  refine g_callV1 (q0 := 1) h dX3_cashOf_5 cf_X3_36 (M_X0_isHouse (i := i) ) rfl rfl rfl rfl (by decide) rfl (Nat.le_of_ble_eq_true rfl) (pc' := 8) rfl ?_
  refine g_if_eqT (tg := 22) h dX3_cashOf_8 (by decide) (bI_n g0) ?_
  refine g_bipush (v := (-101)) h dX3_cashOf_22 (by decide) (pc' := 24) rfl ?_
  exact g_iret h hr dX3_cashOf_24 rfl rfl
set_option maxRecDepth 20000 in
set_option maxHeartbeats 4000000 in
theorem M_cashOf {Z : ZT} {m : Nat} {toll : Int32} {paid : Int32} {coin : Nat → Int32} {debt : Nat → Int32} {fall : Nat → Int32} {shr : Nat → Int64} {mat : Nat → Int64} {rgt : Nat → Int64} {pen : Int32} {last : Int32} {below : Int64} {i : Nat}  (g0 : i < m) (g1 : m ≤ 4) : MM Z yX3_cashOf cX3_cashOf 2 (some .int) 2 [.ref (Z.2.2 0), .int (nI i)] (wC Z (nI m) toll paid coin debt fall shr mat rgt pen last below) (some (.int (coin i))) (wC Z (nI m) toll paid coin debt fall shr mat rgt pen last below) := by
  refine MM.intro (by decide) [some (.ref (Z.2.2 0)), some (.int (nI i))] rfl (Nat.le_of_ble_eq_true rfl) (fun X (h : OK Z X cX3_cashOf RX3 2 (rmd 2)) hr => ?_)
  refine g_aload_n (i := 0) h dX3_cashOf_0 rfl rfl (pc' := 1) rfl ?_
  refine gf_X3_10 h dX3_cashOf_1 (pc' := 4) rfl ?_
  refine g_iload_n (i := 1) h dX3_cashOf_4 rfl rfl (pc' := 5) rfl ?_
  refine g_callV1 (q0 := 1) h dX3_cashOf_5 cf_X3_36 (M_X0_isHouse (i := nI i) ) rfl rfl rfl rfl (by decide) rfl (Nat.le_of_ble_eq_true rfl) (pc' := 8) rfl ?_
  refine g_if_eqF (tg := 22) h dX3_cashOf_8 (by decide) (pc' := 11) rfl (fun q => (bI_0.mp q) (hsO g0 g1)) ?_
  refine g_aload_n (i := 0) h dX3_cashOf_11 rfl rfl (pc' := 12) rfl ?_
  refine gf_X3_10 h dX3_cashOf_12 (pc' := 15) rfl ?_
  refine g_iload_n (i := 1) h dX3_cashOf_15 rfl rfl (pc' := 16) rfl ?_
  refine g_callV1 (q0 := 1) h dX3_cashOf_16 cf_X3_40 (M_X0_coins (i := i) (by omega)) rfl rfl rfl rfl (by decide) rfl (Nat.le_of_ble_eq_true rfl) (pc' := 19) rfl ?_
  refine g_goto (pc' := 24) h dX3_cashOf_19 (by decide) ?_
  exact g_iret h hr dX3_cashOf_24 rfl rfl
set_option maxRecDepth 20000 in
set_option maxHeartbeats 4000000 in
theorem M_owes_U {Z : ZT} {m : Nat} {toll : Int32} {paid : Int32} {coin : Nat → Int32} {debt : Nat → Int32} {fall : Nat → Int32} {shr : Nat → Int64} {mat : Nat → Int64} {rgt : Nat → Int64} {pen : Int32} {last : Int32} {below : Int64} {i : Int32}  (g0 : ¬ (¬ i < 0 ∧ ¬ nI m ≤ i)) : MM Z yX3_owes cX3_owes 2 (some .int) 3 [.ref (Z.2.2 0), .int i] (wC Z (nI m) toll paid coin debt fall shr mat rgt pen last below) (some (.int (-101))) (wC Z (nI m) toll paid coin debt fall shr mat rgt pen last below) := by
  refine MM.intro (by decide) [some (.ref (Z.2.2 0)), some (.int i)] rfl (Nat.le_of_ble_eq_true rfl) (fun X (h : OK Z X cX3_owes RX3 2 (rmd 3)) hr => ?_)
  refine g_aload_n (i := 0) h dX3_owes_0 rfl rfl (pc' := 1) rfl ?_
  refine gf_X3_10 h dX3_owes_1 (pc' := 4) rfl ?_
  refine g_iload_n (i := 1) h dX3_owes_4 rfl rfl (pc' := 5) rfl ?_
  refine g_callV1 (q0 := 1) h dX3_owes_5 cf_X3_36 (M_X0_isHouse (i := i) ) rfl rfl rfl rfl (by decide) rfl (Nat.le_of_ble_eq_true rfl) (pc' := 8) rfl ?_
  refine g_if_eqT (tg := 22) h dX3_owes_8 (by decide) (bI_n g0) ?_
  refine g_bipush (v := (-101)) h dX3_owes_22 (by decide) (pc' := 24) rfl ?_
  exact g_iret h hr dX3_owes_24 rfl rfl
set_option maxRecDepth 20000 in
set_option maxHeartbeats 4000000 in
theorem M_owes {Z : ZT} {m : Nat} {toll : Int32} {paid : Int32} {coin : Nat → Int32} {debt : Nat → Int32} {fall : Nat → Int32} {shr : Nat → Int64} {mat : Nat → Int64} {rgt : Nat → Int64} {pen : Int32} {last : Int32} {below : Int64} {i : Nat}  (g0 : i < m) (g1 : m ≤ 4) : MM Z yX3_owes cX3_owes 2 (some .int) 3 [.ref (Z.2.2 0), .int (nI i)] (wC Z (nI m) toll paid coin debt fall shr mat rgt pen last below) (some (.int (oB debt i))) (wC Z (nI m) toll paid coin debt fall shr mat rgt pen last below) := by
  refine MM.intro (by decide) [some (.ref (Z.2.2 0)), some (.int (nI i))] rfl (Nat.le_of_ble_eq_true rfl) (fun X (h : OK Z X cX3_owes RX3 2 (rmd 3)) hr => ?_)
  refine g_aload_n (i := 0) h dX3_owes_0 rfl rfl (pc' := 1) rfl ?_
  refine gf_X3_10 h dX3_owes_1 (pc' := 4) rfl ?_
  refine g_iload_n (i := 1) h dX3_owes_4 rfl rfl (pc' := 5) rfl ?_
  refine g_callV1 (q0 := 1) h dX3_owes_5 cf_X3_36 (M_X0_isHouse (i := nI i) ) rfl rfl rfl rfl (by decide) rfl (Nat.le_of_ble_eq_true rfl) (pc' := 8) rfl ?_
  refine g_if_eqF (tg := 22) h dX3_owes_8 (by decide) (pc' := 11) rfl (fun q => (bI_0.mp q) (hsO g0 g1)) ?_
  refine g_aload_n (i := 0) h dX3_owes_11 rfl rfl (pc' := 12) rfl ?_
  refine gf_X3_10 h dX3_owes_12 (pc' := 15) rfl ?_
  refine g_iload_n (i := 1) h dX3_owes_15 rfl rfl (pc' := 16) rfl ?_
  refine g_callV1 (q0 := 1) h dX3_owes_16 cf_X3_66 (M_X0_allOwedBy (i := i) (by omega)) rfl rfl rfl rfl (by decide) rfl (Nat.le_of_ble_eq_true rfl) (pc' := 19) rfl ?_
  refine g_goto (pc' := 24) h dX3_owes_19 (by decide) ?_
  exact g_iret h hr dX3_owes_24 rfl rfl
set_option maxRecDepth 20000 in
set_option maxHeartbeats 4000000 in
theorem M_help_U {Z : ZT} {m : Nat} {toll : Int32} {paid : Int32} {coin : Nat → Int32} {debt : Nat → Int32} {fall : Nat → Int32} {shr : Nat → Int64} {mat : Nat → Int64} {rgt : Nat → Int64} {pen : Int32} {last : Int32} {below : Int64} {i : Int32}  (g0 : ¬ (¬ i < 0 ∧ ¬ nI m ≤ i)) : MM Z yX3_help cX3_help 2 (some .int) 5 [.ref (Z.2.2 0), .int i] (wC Z (nI m) toll paid coin debt fall shr mat rgt pen last below) (some (.int (-101))) (wC Z (nI m) toll paid coin debt fall shr mat rgt pen last below) := by
  refine MM.intro (by decide) [some (.ref (Z.2.2 0)), some (.int i)] rfl (Nat.le_of_ble_eq_true rfl) (fun X (h : OK Z X cX3_help RX3 2 (rmd 5)) hr => ?_)
  refine g_aload_n (i := 0) h dX3_help_0 rfl rfl (pc' := 1) rfl ?_
  refine gf_X3_10 h dX3_help_1 (pc' := 4) rfl ?_
  refine g_iload_n (i := 1) h dX3_help_4 rfl rfl (pc' := 5) rfl ?_
  refine g_callV1 (q0 := 1) h dX3_help_5 cf_X3_36 (M_X0_isHouse (i := i) ) rfl rfl rfl rfl (by decide) rfl (Nat.le_of_ble_eq_true rfl) (pc' := 8) rfl ?_
  refine g_if_eqT (tg := 22) h dX3_help_8 (by decide) (bI_n g0) ?_
  refine g_bipush (v := (-101)) h dX3_help_22 (by decide) (pc' := 24) rfl ?_
  exact g_iret h hr dX3_help_24 rfl rfl
set_option maxRecDepth 20000 in
set_option maxHeartbeats 4000000 in
theorem M_help {Z : ZT} {m : Nat} {toll : Int32} {paid : Int32} {coin : Nat → Int32} {debt : Nat → Int32} {fall : Nat → Int32} {shr : Nat → Int64} {mat : Nat → Int64} {rgt : Nat → Int64} {pen : Int32} {last : Int32} {below : Int64} {i : Nat}  (g0 : i < m) (g1 : m ≤ 4) : MM Z yX3_help cX3_help 2 (some .int) 5 [.ref (Z.2.2 0), .int (nI i)] (wC Z (nI m) toll paid coin debt fall shr mat rgt pen last below) (some (.int (hN coin debt i))) (wC Z (nI m) toll paid coin debt fall shr mat rgt pen last below) := by
  refine MM.intro (by decide) [some (.ref (Z.2.2 0)), some (.int (nI i))] rfl (Nat.le_of_ble_eq_true rfl) (fun X (h : OK Z X cX3_help RX3 2 (rmd 5)) hr => ?_)
  refine g_aload_n (i := 0) h dX3_help_0 rfl rfl (pc' := 1) rfl ?_
  refine gf_X3_10 h dX3_help_1 (pc' := 4) rfl ?_
  refine g_iload_n (i := 1) h dX3_help_4 rfl rfl (pc' := 5) rfl ?_
  refine g_callV1 (q0 := 1) h dX3_help_5 cf_X3_36 (M_X0_isHouse (i := nI i) ) rfl rfl rfl rfl (by decide) rfl (Nat.le_of_ble_eq_true rfl) (pc' := 8) rfl ?_
  refine g_if_eqF (tg := 22) h dX3_help_8 (by decide) (pc' := 11) rfl (fun q => (bI_0.mp q) (hsO g0 g1)) ?_
  refine g_aload_n (i := 0) h dX3_help_11 rfl rfl (pc' := 12) rfl ?_
  refine gf_X3_10 h dX3_help_12 (pc' := 15) rfl ?_
  refine g_iload_n (i := 1) h dX3_help_15 rfl rfl (pc' := 16) rfl ?_
  refine g_callV1 (q0 := 1) h dX3_help_16 cf_X3_113 (M_X0_helpNeeded (i := i) (by omega)) rfl rfl rfl rfl (by decide) rfl (Nat.le_of_ble_eq_true rfl) (pc' := 19) rfl ?_
  refine g_goto (pc' := 24) h dX3_help_19 (by decide) ?_
  exact g_iret h hr dX3_help_24 rfl rfl
set_option maxRecDepth 20000 in
set_option maxHeartbeats 4000000 in
theorem M_net_U {Z : ZT} {m : Nat} {toll : Int32} {paid : Int32} {coin : Nat → Int32} {debt : Nat → Int32} {fall : Nat → Int32} {shr : Nat → Int64} {mat : Nat → Int64} {rgt : Nat → Int64} {pen : Int32} {last : Int32} {below : Int64} {i : Int32}  (g0 : ¬ (¬ i < 0 ∧ ¬ nI m ≤ i)) : MM Z yX3_net cX3_net 2 (some .int) 3 [.ref (Z.2.2 0), .int i] (wC Z (nI m) toll paid coin debt fall shr mat rgt pen last below) (some (.int (-1000000))) (wC Z (nI m) toll paid coin debt fall shr mat rgt pen last below) := by
  refine MM.intro (by decide) [some (.ref (Z.2.2 0)), some (.int i)] rfl (Nat.le_of_ble_eq_true rfl) (fun X (h : OK Z X cX3_net RX3 2 (rmd 3)) hr => ?_)
  refine g_aload_n (i := 0) h dX3_net_0 rfl rfl (pc' := 1) rfl ?_
  refine gf_X3_10 h dX3_net_1 (pc' := 4) rfl ?_
  refine g_iload_n (i := 1) h dX3_net_4 rfl rfl (pc' := 5) rfl ?_
  refine g_callV1 (q0 := 1) h dX3_net_5 cf_X3_36 (M_X0_isHouse (i := i) ) rfl rfl rfl rfl (by decide) rfl (Nat.le_of_ble_eq_true rfl) (pc' := 8) rfl ?_
  refine g_if_eqT (tg := 31) h dX3_net_8 (by decide) (bI_n g0) ?_
  refine g_ldc h dX3_net_31 co_X3_122 (pc' := 33) rfl ?_
  exact g_iret h hr dX3_net_33 rfl rfl
set_option maxRecDepth 20000 in
set_option maxHeartbeats 4000000 in
theorem M_net {Z : ZT} {m : Nat} {toll : Int32} {paid : Int32} {coin : Nat → Int32} {debt : Nat → Int32} {fall : Nat → Int32} {shr : Nat → Int64} {mat : Nat → Int64} {rgt : Nat → Int64} {pen : Int32} {last : Int32} {below : Int64} {i : Nat}  (g0 : i < m) (g1 : m ≤ 4) : MM Z yX3_net cX3_net 2 (some .int) 3 [.ref (Z.2.2 0), .int (nI i)] (wC Z (nI m) toll paid coin debt fall shr mat rgt pen last below) (some (.int (oT debt i - oB debt i))) (wC Z (nI m) toll paid coin debt fall shr mat rgt pen last below) := by
  refine MM.intro (by decide) [some (.ref (Z.2.2 0)), some (.int (nI i))] rfl (Nat.le_of_ble_eq_true rfl) (fun X (h : OK Z X cX3_net RX3 2 (rmd 3)) hr => ?_)
  refine g_aload_n (i := 0) h dX3_net_0 rfl rfl (pc' := 1) rfl ?_
  refine gf_X3_10 h dX3_net_1 (pc' := 4) rfl ?_
  refine g_iload_n (i := 1) h dX3_net_4 rfl rfl (pc' := 5) rfl ?_
  refine g_callV1 (q0 := 1) h dX3_net_5 cf_X3_36 (M_X0_isHouse (i := nI i) ) rfl rfl rfl rfl (by decide) rfl (Nat.le_of_ble_eq_true rfl) (pc' := 8) rfl ?_
  refine g_if_eqF (tg := 31) h dX3_net_8 (by decide) (pc' := 11) rfl (fun q => (bI_0.mp q) (hsO g0 g1)) ?_
  refine g_aload_n (i := 0) h dX3_net_11 rfl rfl (pc' := 12) rfl ?_
  refine gf_X3_10 h dX3_net_12 (pc' := 15) rfl ?_
  refine g_iload_n (i := 1) h dX3_net_15 rfl rfl (pc' := 16) rfl ?_
  refine g_callV1 (q0 := 1) h dX3_net_16 cf_X3_119 (M_X0_allOwedTo (c := i) (by omega)) rfl rfl rfl rfl (by decide) rfl (Nat.le_of_ble_eq_true rfl) (pc' := 19) rfl ?_
  refine g_aload_n (i := 0) h dX3_net_19 rfl rfl (pc' := 20) rfl ?_
  refine gf_X3_10 h dX3_net_20 (pc' := 23) rfl ?_
  refine g_iload_n (i := 1) h dX3_net_23 rfl rfl (pc' := 24) rfl ?_
  refine g_callV1 (q0 := 1) h dX3_net_24 cf_X3_66 (M_X0_allOwedBy (i := i) (by omega)) rfl rfl rfl rfl (by decide) rfl (Nat.le_of_ble_eq_true rfl) (pc' := 27) rfl ?_
  refine g_isub h dX3_net_27 (pc' := 28) rfl ?_
  refine g_goto (pc' := 33) h dX3_net_28 (by decide) ?_
  exact g_iret h hr dX3_net_33 rfl rfl
set_option maxRecDepth 20000 in
set_option maxHeartbeats 4000000 in
theorem M_falls_U {Z : ZT} {m : Nat} {toll : Int32} {paid : Int32} {coin : Nat → Int32} {debt : Nat → Int32} {fall : Nat → Int32} {shr : Nat → Int64} {mat : Nat → Int64} {rgt : Nat → Int64} {pen : Int32} {last : Int32} {below : Int64} {i : Int32}  (g0 : ¬ (¬ i < 0 ∧ ¬ nI m ≤ i)) : MM Z yX3_falls cX3_falls 2 (some .int) 6 [.ref (Z.2.2 0), .int i] (wC Z (nI m) toll paid coin debt fall shr mat rgt pen last below) (some (.int (-101))) (wC Z (nI m) toll paid coin debt fall shr mat rgt pen last below) := by
  refine MM.intro (by decide) [some (.ref (Z.2.2 0)), some (.int i)] rfl (Nat.le_of_ble_eq_true rfl) (fun X (h : OK Z X cX3_falls RX3 2 (rmd 6)) hr => ?_)
  refine g_aload_n (i := 0) h dX3_falls_0 rfl rfl (pc' := 1) rfl ?_
  refine gf_X3_10 h dX3_falls_1 (pc' := 4) rfl ?_
  refine g_iload_n (i := 1) h dX3_falls_4 rfl rfl (pc' := 5) rfl ?_
  refine g_callV1 (q0 := 1) h dX3_falls_5 cf_X3_36 (M_X0_isHouse (i := i) ) rfl rfl rfl rfl (by decide) rfl (Nat.le_of_ble_eq_true rfl) (pc' := 8) rfl ?_
  refine g_if_neF (tg := 14) h dX3_falls_8 (by decide) (pc' := 11) rfl (bI_n g0) ?_
  refine g_bipush (v := (-101)) h dX3_falls_11 (by decide) (pc' := 13) rfl ?_
  exact g_iret h hr dX3_falls_13 rfl rfl
set_option maxRecDepth 20000 in
set_option maxHeartbeats 4000000 in
theorem M_falls {Z : ZT} {m : Nat} {toll : Int32} {paid : Int32} {coin : Nat → Int32} {debt : Nat → Int32} {fall : Nat → Int32} {shr : Nat → Int64} {mat : Nat → Int64} {rgt : Nat → Int64} {pen : Int32} {last : Int32} {below : Int64} {i : Nat}  (g0 : i < m) (g1 : m ≤ 4) : MM Z yX3_falls cX3_falls 2 (some .int) 6 [.ref (Z.2.2 0), .int (nI i)] (wC Z (nI m) toll paid coin debt fall shr mat rgt pen last below) (some (.int ((cst toll (-1) coin debt fall shr mat rgt).1 i))) (wC Z (nI m) toll paid coin debt ((cst toll (-1) coin debt fall shr mat rgt).1) ((cst toll (-1) coin debt fall shr mat rgt).2.1) ((cst toll (-1) coin debt fall shr mat rgt).2.2.1) ((cst toll (-1) coin debt fall shr mat rgt).2.2.2.1) (-1) ((cst toll (-1) coin debt fall shr mat rgt).2.2.2.2.1) ((cst toll (-1) coin debt fall shr mat rgt).2.2.2.2.2)) := by
  refine MM.intro (by decide) [some (.ref (Z.2.2 0)), some (.int (nI i))] rfl (Nat.le_of_ble_eq_true rfl) (fun X (h : OK Z X cX3_falls RX3 2 (rmd 6)) hr => ?_)
  refine g_aload_n (i := 0) h dX3_falls_0 rfl rfl (pc' := 1) rfl ?_
  refine gf_X3_10 h dX3_falls_1 (pc' := 4) rfl ?_
  refine g_iload_n (i := 1) h dX3_falls_4 rfl rfl (pc' := 5) rfl ?_
  refine g_callV1 (q0 := 1) h dX3_falls_5 cf_X3_36 (M_X0_isHouse (i := nI i) ) rfl rfl rfl rfl (by decide) rfl (Nat.le_of_ble_eq_true rfl) (pc' := 8) rfl ?_
  refine g_if_neT (tg := 14) h dX3_falls_8 (by decide) (fun q => (bI_0.mp q) (hsO g0 g1)) ?_
  refine g_aload_n (i := 0) h dX3_falls_14 rfl rfl (pc' := 15) rfl ?_
  refine gf_X3_21 h dX3_falls_15 (pc' := 18) rfl ?_
  refine g_iconst (v := (-1)) h dX3_falls_18 (by decide) (pc' := 19) rfl ?_
  refine g_callV0 (q0 := 2) h dX3_falls_19 cf_X3_69 (M_X1_settle (p := (-1)) ) rfl rfl rfl rfl (by decide) rfl (Nat.le_of_ble_eq_true rfl) (pc' := 22) rfl ?_
  refine g_aload_n (i := 0) h dX3_falls_22 rfl rfl (pc' := 23) rfl ?_
  refine gf_X3_21 h dX3_falls_23 (pc' := 26) rfl ?_
  refine g_iload_n (i := 1) h dX3_falls_26 rfl rfl (pc' := 27) rfl ?_
  refine g_callV1 (q0 := 2) h dX3_falls_27 cf_X3_72 (M_X1_roundOfFall (i := i) (by omega)) rfl rfl rfl rfl (by decide) rfl (Nat.le_of_ble_eq_true rfl) (pc' := 30) rfl ?_
  exact g_iret h hr dX3_falls_30 rfl rfl
set_option maxRecDepth 20000 in
set_option maxHeartbeats 4000000 in
theorem M_drag_U {Z : ZT} {m : Nat} {toll : Int32} {paid : Int32} {coin : Nat → Int32} {debt : Nat → Int32} {fall : Nat → Int32} {shr : Nat → Int64} {mat : Nat → Int64} {rgt : Nat → Int64} {pen : Int32} {last : Int32} {below : Int64} {i : Int32}  (g0 : ¬ (¬ i < 0 ∧ ¬ nI m ≤ i)) : MM Z yX3_drag cX3_drag 2 (some .int) 6 [.ref (Z.2.2 0), .int i] (wC Z (nI m) toll paid coin debt fall shr mat rgt pen last below) (some (.int (-101))) (wC Z (nI m) toll paid coin debt fall shr mat rgt pen last below) := by
  refine MM.intro (by decide) [some (.ref (Z.2.2 0)), some (.int i)] rfl (Nat.le_of_ble_eq_true rfl) (fun X (h : OK Z X cX3_drag RX3 2 (rmd 6)) hr => ?_)
  refine g_aload_n (i := 0) h dX3_drag_0 rfl rfl (pc' := 1) rfl ?_
  refine gf_X3_10 h dX3_drag_1 (pc' := 4) rfl ?_
  refine g_iload_n (i := 1) h dX3_drag_4 rfl rfl (pc' := 5) rfl ?_
  refine g_callV1 (q0 := 1) h dX3_drag_5 cf_X3_36 (M_X0_isHouse (i := i) ) rfl rfl rfl rfl (by decide) rfl (Nat.le_of_ble_eq_true rfl) (pc' := 8) rfl ?_
  refine g_if_neF (tg := 14) h dX3_drag_8 (by decide) (pc' := 11) rfl (bI_n g0) ?_
  refine g_bipush (v := (-101)) h dX3_drag_11 (by decide) (pc' := 13) rfl ?_
  exact g_iret h hr dX3_drag_13 rfl rfl
set_option maxRecDepth 20000 in
set_option maxHeartbeats 4000000 in
theorem M_drag {Z : ZT} {m : Nat} {toll : Int32} {paid : Int32} {coin : Nat → Int32} {debt : Nat → Int32} {fall : Nat → Int32} {shr : Nat → Int64} {mat : Nat → Int64} {rgt : Nat → Int64} {pen : Int32} {last : Int32} {below : Int64} {i : Nat}  (g0 : i < m) (g1 : m ≤ 4) : MM Z yX3_drag cX3_drag 2 (some .int) 6 [.ref (Z.2.2 0), .int (nI i)] (wC Z (nI m) toll paid coin debt fall shr mat rgt pen last below) (some (.int (nI (fC (cst toll (nI i) coin debt fall shr mat rgt).1 4)))) (wC Z (nI m) toll paid coin debt ((cst toll (nI i) coin debt fall shr mat rgt).1) ((cst toll (nI i) coin debt fall shr mat rgt).2.1) ((cst toll (nI i) coin debt fall shr mat rgt).2.2.1) ((cst toll (nI i) coin debt fall shr mat rgt).2.2.2.1) (nI i) ((cst toll (nI i) coin debt fall shr mat rgt).2.2.2.2.1) ((cst toll (nI i) coin debt fall shr mat rgt).2.2.2.2.2)) := by
  refine MM.intro (by decide) [some (.ref (Z.2.2 0)), some (.int (nI i))] rfl (Nat.le_of_ble_eq_true rfl) (fun X (h : OK Z X cX3_drag RX3 2 (rmd 6)) hr => ?_)
  refine g_aload_n (i := 0) h dX3_drag_0 rfl rfl (pc' := 1) rfl ?_
  refine gf_X3_10 h dX3_drag_1 (pc' := 4) rfl ?_
  refine g_iload_n (i := 1) h dX3_drag_4 rfl rfl (pc' := 5) rfl ?_
  refine g_callV1 (q0 := 1) h dX3_drag_5 cf_X3_36 (M_X0_isHouse (i := nI i) ) rfl rfl rfl rfl (by decide) rfl (Nat.le_of_ble_eq_true rfl) (pc' := 8) rfl ?_
  refine g_if_neT (tg := 14) h dX3_drag_8 (by decide) (fun q => (bI_0.mp q) (hsO g0 g1)) ?_
  refine g_aload_n (i := 0) h dX3_drag_14 rfl rfl (pc' := 15) rfl ?_
  refine gf_X3_21 h dX3_drag_15 (pc' := 18) rfl ?_
  refine g_iload_n (i := 1) h dX3_drag_18 rfl rfl (pc' := 19) rfl ?_
  refine g_callV0 (q0 := 2) h dX3_drag_19 cf_X3_69 (M_X1_settle (p := nI i) ) rfl rfl rfl rfl (by decide) rfl (Nat.le_of_ble_eq_true rfl) (pc' := 22) rfl ?_
  refine g_aload_n (i := 0) h dX3_drag_22 rfl rfl (pc' := 23) rfl ?_
  refine gf_X3_21 h dX3_drag_23 (pc' := 26) rfl ?_
  refine g_callV1 (q0 := 2) h dX3_drag_26 cf_X3_109 (M_X1_fallenCount  ) rfl rfl rfl rfl (by decide) rfl (Nat.le_of_ble_eq_true rfl) (pc' := 29) rfl ?_
  exact g_iret h hr dX3_drag_29 rfl rfl
set_option maxRecDepth 20000 in
set_option maxHeartbeats 4000000 in
theorem M_rounds {Z : ZT} {m : Nat} {toll : Int32} {paid : Int32} {coin : Nat → Int32} {debt : Nat → Int32} {fall : Nat → Int32} {shr : Nat → Int64} {mat : Nat → Int64} {rgt : Nat → Int64} {pen : Int32} {last : Int32} {below : Int64}    : MM Z yX3_rounds cX3_rounds 1 (some .int) 6 [.ref (Z.2.2 0)] (wC Z (nI m) toll paid coin debt fall shr mat rgt pen last below) (some (.int ((cst toll (-1) coin debt fall shr mat rgt).2.2.2.2.1))) (wC Z (nI m) toll paid coin debt ((cst toll (-1) coin debt fall shr mat rgt).1) ((cst toll (-1) coin debt fall shr mat rgt).2.1) ((cst toll (-1) coin debt fall shr mat rgt).2.2.1) ((cst toll (-1) coin debt fall shr mat rgt).2.2.2.1) (-1) ((cst toll (-1) coin debt fall shr mat rgt).2.2.2.2.1) ((cst toll (-1) coin debt fall shr mat rgt).2.2.2.2.2)) := by
  refine MM.intro (by decide) [some (.ref (Z.2.2 0))] rfl (Nat.le_of_ble_eq_true rfl) (fun X (h : OK Z X cX3_rounds RX3 1 (rmd 6)) hr => ?_)
  refine g_aload_n (i := 0) h dX3_rounds_0 rfl rfl (pc' := 1) rfl ?_
  refine gf_X3_21 h dX3_rounds_1 (pc' := 4) rfl ?_
  refine g_iconst (v := (-1)) h dX3_rounds_4 (by decide) (pc' := 5) rfl ?_
  refine g_callV0 (q0 := 2) h dX3_rounds_5 cf_X3_69 (M_X1_settle (p := (-1)) ) rfl rfl rfl rfl (by decide) rfl (Nat.le_of_ble_eq_true rfl) (pc' := 8) rfl ?_
  refine g_aload_n (i := 0) h dX3_rounds_8 rfl rfl (pc' := 9) rfl ?_
  refine gf_X3_21 h dX3_rounds_9 (pc' := 12) rfl ?_
  refine gf_X3_75 h dX3_rounds_12 (pc' := 15) rfl ?_
  exact g_iret h hr dX3_rounds_15 rfl rfl
set_option maxRecDepth 20000 in
set_option maxHeartbeats 4000000 in
theorem M_debt_U {Z : ZT} {m : Nat} {toll : Int32} {paid : Int32} {coin : Nat → Int32} {debt : Nat → Int32} {fall : Nat → Int32} {shr : Nat → Int64} {mat : Nat → Int64} {rgt : Nat → Int64} {pen : Int32} {last : Int32} {below : Int64} {i : Int32} {j : Int32}  (g0 : ¬ (¬ i < 0 ∧ ¬ nI m ≤ i)) : MM Z yX3_debt cX3_debt 3 (some .int) 2 [.ref (Z.2.2 0), .int i, .int j] (wC Z (nI m) toll paid coin debt fall shr mat rgt pen last below) (some (.int (-101))) (wC Z (nI m) toll paid coin debt fall shr mat rgt pen last below) := by
  refine MM.intro (by decide) [some (.ref (Z.2.2 0)), some (.int i), some (.int j)] rfl (Nat.le_of_ble_eq_true rfl) (fun X (h : OK Z X cX3_debt RX3 3 (rmd 2)) hr => ?_)
  refine g_aload_n (i := 0) h dX3_debt_0 rfl rfl (pc' := 1) rfl ?_
  refine gf_X3_10 h dX3_debt_1 (pc' := 4) rfl ?_
  refine g_iload_n (i := 1) h dX3_debt_4 rfl rfl (pc' := 5) rfl ?_
  refine g_callV1 (q0 := 1) h dX3_debt_5 cf_X3_36 (M_X0_isHouse (i := i) ) rfl rfl rfl rfl (by decide) rfl (Nat.le_of_ble_eq_true rfl) (pc' := 8) rfl ?_
  refine g_if_eqT (tg := 22) h dX3_debt_8 (by decide) (bI_n g0) ?_
  refine g_bipush (v := (-101)) h dX3_debt_22 (by decide) (pc' := 24) rfl ?_
  exact g_iret h hr dX3_debt_24 rfl rfl
set_option maxRecDepth 20000 in
set_option maxHeartbeats 4000000 in
theorem M_debt_UP {Z : ZT} {m : Nat} {toll : Int32} {paid : Int32} {coin : Nat → Int32} {debt : Nat → Int32} {fall : Nat → Int32} {shr : Nat → Int64} {mat : Nat → Int64} {rgt : Nat → Int64} {pen : Int32} {last : Int32} {below : Int64} {i : Nat} {j : Int32}  (g0 : i < m) (g1 : m ≤ 4) (g2 : ¬ (¬ j < 0 ∧ ¬ nI m < j)) : MM Z yX3_debt cX3_debt 3 (some .int) 2 [.ref (Z.2.2 0), .int (nI i), .int j] (wC Z (nI m) toll paid coin debt fall shr mat rgt pen last below) (some (.int (-101))) (wC Z (nI m) toll paid coin debt fall shr mat rgt pen last below) := by
  refine MM.intro (by decide) [some (.ref (Z.2.2 0)), some (.int (nI i)), some (.int j)] rfl (Nat.le_of_ble_eq_true rfl) (fun X (h : OK Z X cX3_debt RX3 3 (rmd 2)) hr => ?_)
  refine g_aload_n (i := 0) h dX3_debt_0 rfl rfl (pc' := 1) rfl ?_
  refine gf_X3_10 h dX3_debt_1 (pc' := 4) rfl ?_
  refine g_iload_n (i := 1) h dX3_debt_4 rfl rfl (pc' := 5) rfl ?_
  refine g_callV1 (q0 := 1) h dX3_debt_5 cf_X3_36 (M_X0_isHouse (i := nI i) ) rfl rfl rfl rfl (by decide) rfl (Nat.le_of_ble_eq_true rfl) (pc' := 8) rfl ?_
  refine g_if_eqF (tg := 22) h dX3_debt_8 (by decide) (pc' := 11) rfl (fun q => (bI_0.mp q) (hsO g0 g1)) ?_
  refine g_aload_n (i := 0) h dX3_debt_11 rfl rfl (pc' := 12) rfl ?_
  refine gf_X3_10 h dX3_debt_12 (pc' := 15) rfl ?_
  refine g_iload_n (i := 2) h dX3_debt_15 rfl rfl (pc' := 16) rfl ?_
  refine g_callV1 (q0 := 1) h dX3_debt_16 cf_X3_48 (M_X0_isPayee (i := j) ) rfl rfl rfl rfl (by decide) rfl (Nat.le_of_ble_eq_true rfl) (pc' := 19) rfl ?_
  refine g_if_neF (tg := 25) h dX3_debt_19 (by decide) (pc' := 22) rfl (bI_n g2) ?_
  refine g_bipush (v := (-101)) h dX3_debt_22 (by decide) (pc' := 24) rfl ?_
  exact g_iret h hr dX3_debt_24 rfl rfl
set_option maxRecDepth 20000 in
set_option maxHeartbeats 4000000 in
theorem M_debt {Z : ZT} {m : Nat} {toll : Int32} {paid : Int32} {coin : Nat → Int32} {debt : Nat → Int32} {fall : Nat → Int32} {shr : Nat → Int64} {mat : Nat → Int64} {rgt : Nat → Int64} {pen : Int32} {last : Int32} {below : Int64} {i : Nat} {j : Nat}  (g0 : i < m) (g1 : m ≤ 4) (g2 : j ≤ m) : MM Z yX3_debt cX3_debt 3 (some .int) 2 [.ref (Z.2.2 0), .int (nI i), .int (nI j)] (wC Z (nI m) toll paid coin debt fall shr mat rgt pen last below) (some (.int (debt (i * 5 + cm m j)))) (wC Z (nI m) toll paid coin debt fall shr mat rgt pen last below) := by
  refine MM.intro (by decide) [some (.ref (Z.2.2 0)), some (.int (nI i)), some (.int (nI j))] rfl (Nat.le_of_ble_eq_true rfl) (fun X (h : OK Z X cX3_debt RX3 3 (rmd 2)) hr => ?_)
  refine g_aload_n (i := 0) h dX3_debt_0 rfl rfl (pc' := 1) rfl ?_
  refine gf_X3_10 h dX3_debt_1 (pc' := 4) rfl ?_
  refine g_iload_n (i := 1) h dX3_debt_4 rfl rfl (pc' := 5) rfl ?_
  refine g_callV1 (q0 := 1) h dX3_debt_5 cf_X3_36 (M_X0_isHouse (i := nI i) ) rfl rfl rfl rfl (by decide) rfl (Nat.le_of_ble_eq_true rfl) (pc' := 8) rfl ?_
  refine g_if_eqF (tg := 22) h dX3_debt_8 (by decide) (pc' := 11) rfl (fun q => (bI_0.mp q) (hsO g0 g1)) ?_
  refine g_aload_n (i := 0) h dX3_debt_11 rfl rfl (pc' := 12) rfl ?_
  refine gf_X3_10 h dX3_debt_12 (pc' := 15) rfl ?_
  refine g_iload_n (i := 2) h dX3_debt_15 rfl rfl (pc' := 16) rfl ?_
  refine g_callV1 (q0 := 1) h dX3_debt_16 cf_X3_48 (M_X0_isPayee (i := nI j) ) rfl rfl rfl rfl (by decide) rfl (Nat.le_of_ble_eq_true rfl) (pc' := 19) rfl ?_
  refine g_if_neT (tg := 25) h dX3_debt_19 (by decide) (fun q => (bI_0.mp q) (hpO g2 g1)) ?_
  refine g_aload_n (i := 0) h dX3_debt_25 rfl rfl (pc' := 26) rfl ?_
  refine gf_X3_10 h dX3_debt_26 (pc' := 29) rfl ?_
  refine g_iload_n (i := 1) h dX3_debt_29 rfl rfl (pc' := 30) rfl ?_
  refine g_aload_n (i := 0) h dX3_debt_30 rfl rfl (pc' := 31) rfl ?_
  refine gf_X3_10 h dX3_debt_31 (pc' := 34) rfl ?_
  refine g_iload_n (i := 2) h dX3_debt_34 rfl rfl (pc' := 35) rfl ?_
  refine g_callV1 (q0 := 1) h dX3_debt_35 cf_X3_51 (M_X0_columnOf_N (i := j) g2 g1) rfl rfl rfl rfl (by decide) rfl (Nat.le_of_ble_eq_true rfl) (pc' := 38) rfl ?_
  refine g_callV1 (q0 := 1) h dX3_debt_38 cf_X3_54 (M_X0_owed (i := i) (c := cm m j) (by omega) (col_lt g2 g1)) rfl rfl rfl rfl (by decide) rfl (Nat.le_of_ble_eq_true rfl) (pc' := 41) rfl ?_
  exact g_iret h hr dX3_debt_41 rfl rfl
set_option maxRecDepth 20000 in
set_option maxHeartbeats 4000000 in
theorem M_share_U {Z : ZT} {m : Nat} {toll : Int32} {paid : Int32} {coin : Nat → Int32} {debt : Nat → Int32} {fall : Nat → Int32} {shr : Nat → Int64} {mat : Nat → Int64} {rgt : Nat → Int64} {pen : Int32} {last : Int32} {below : Int64} {i : Int32} {part : Int32}  (g0 : ¬ (¬ i < 0 ∧ ¬ nI m ≤ i)) : MM Z yX3_share cX3_share 3 (some .long) 6 [.ref (Z.2.2 0), .int i, .int part] (wC Z (nI m) toll paid coin debt fall shr mat rgt pen last below) (some (.long (-101))) (wC Z (nI m) toll paid coin debt fall shr mat rgt pen last below) := by
  refine MM.intro (by decide) [some (.ref (Z.2.2 0)), some (.int i), some (.int part)] rfl (Nat.le_of_ble_eq_true rfl) (fun X (h : OK Z X cX3_share RX3 3 (rmd 6)) hr => ?_)
  refine g_aload_n (i := 0) h dX3_share_0 rfl rfl (pc' := 1) rfl ?_
  refine gf_X3_10 h dX3_share_1 (pc' := 4) rfl ?_
  refine g_iload_n (i := 1) h dX3_share_4 rfl rfl (pc' := 5) rfl ?_
  refine g_callV1 (q0 := 1) h dX3_share_5 cf_X3_36 (M_X0_isHouse (i := i) ) rfl rfl rfl rfl (by decide) rfl (Nat.le_of_ble_eq_true rfl) (pc' := 8) rfl ?_
  refine g_if_neF (tg := 15) h dX3_share_8 (by decide) (pc' := 11) rfl (bI_n g0) ?_
  refine g_ldc2 h dX3_share_11 co_X3_78 (pc' := 14) rfl ?_
  exact g_lret h hr dX3_share_14 rfl rfl
set_option maxRecDepth 20000 in
set_option maxHeartbeats 4000000 in
theorem M_share_O {Z : ZT} {m : Nat} {toll : Int32} {paid : Int32} {coin : Nat → Int32} {debt : Nat → Int32} {fall : Nat → Int32} {shr : Nat → Int64} {mat : Nat → Int64} {rgt : Nat → Int64} {pen : Int32} {last : Int32} {below : Int64} {i : Nat} {part : Int32}  (g0 : i < m) (g1 : m ≤ 4) (g2 : ¬ (part = 0 ∨ part = nI 1)) : MM Z yX3_share cX3_share 3 (some .long) 6 [.ref (Z.2.2 0), .int (nI i), .int part] (wC Z (nI m) toll paid coin debt fall shr mat rgt pen last below) (some (.long (-102))) (wC Z (nI m) toll paid coin debt fall shr mat rgt pen last below) := by
  refine MM.intro (by decide) [some (.ref (Z.2.2 0)), some (.int (nI i)), some (.int part)] rfl (Nat.le_of_ble_eq_true rfl) (fun X (h : OK Z X cX3_share RX3 3 (rmd 6)) hr => ?_)
  refine g_aload_n (i := 0) h dX3_share_0 rfl rfl (pc' := 1) rfl ?_
  refine gf_X3_10 h dX3_share_1 (pc' := 4) rfl ?_
  refine g_iload_n (i := 1) h dX3_share_4 rfl rfl (pc' := 5) rfl ?_
  refine g_callV1 (q0 := 1) h dX3_share_5 cf_X3_36 (M_X0_isHouse (i := nI i) ) rfl rfl rfl rfl (by decide) rfl (Nat.le_of_ble_eq_true rfl) (pc' := 8) rfl ?_
  refine g_if_neT (tg := 15) h dX3_share_8 (by decide) (fun q => (bI_0.mp q) (hsO g0 g1)) ?_
  refine g_iload_n (i := 2) h dX3_share_15 rfl rfl (pc' := 16) rfl ?_
  refine g_callS1 h dX3_share_16 cf_X3_80 (M_X3_isPart (p := part) ) rfl (by decide) rfl (Nat.le_of_ble_eq_true rfl) (pc' := 19) rfl ?_
  refine g_if_neF (tg := 26) h dX3_share_19 (by decide) (pc' := 22) rfl (bI_n g2) ?_
  refine g_ldc2 h dX3_share_22 co_X3_83 (pc' := 25) rfl ?_
  exact g_lret h hr dX3_share_25 rfl rfl
set_option maxRecDepth 20000 in
set_option maxHeartbeats 4000000 in
theorem M_share {Z : ZT} {m : Nat} {toll : Int32} {paid : Int32} {coin : Nat → Int32} {debt : Nat → Int32} {fall : Nat → Int32} {shr : Nat → Int64} {mat : Nat → Int64} {rgt : Nat → Int64} {pen : Int32} {last : Int32} {below : Int64} {i : Nat} {part : Int32}  (g0 : i < m) (g1 : m ≤ 4) (g2 : part = 0 ∨ part = nI 1) : MM Z yX3_share cX3_share 3 (some .long) 6 [.ref (Z.2.2 0), .int (nI i), .int part] (wC Z (nI m) toll paid coin debt fall shr mat rgt pen last below) (some (.long (lT ((cst toll (-1) coin debt fall shr mat rgt).2.1 i) (cst toll (-1) coin debt fall shr mat rgt).2.2.2.2.2 part))) (wC Z (nI m) toll paid coin debt ((cst toll (-1) coin debt fall shr mat rgt).1) ((cst toll (-1) coin debt fall shr mat rgt).2.1) ((cst toll (-1) coin debt fall shr mat rgt).2.2.1) ((cst toll (-1) coin debt fall shr mat rgt).2.2.2.1) (-1) ((cst toll (-1) coin debt fall shr mat rgt).2.2.2.2.1) ((cst toll (-1) coin debt fall shr mat rgt).2.2.2.2.2)) := by
  refine MM.intro (by decide) [some (.ref (Z.2.2 0)), some (.int (nI i)), some (.int part)] rfl (Nat.le_of_ble_eq_true rfl) (fun X (h : OK Z X cX3_share RX3 3 (rmd 6)) hr => ?_)
  refine g_aload_n (i := 0) h dX3_share_0 rfl rfl (pc' := 1) rfl ?_
  refine gf_X3_10 h dX3_share_1 (pc' := 4) rfl ?_
  refine g_iload_n (i := 1) h dX3_share_4 rfl rfl (pc' := 5) rfl ?_
  refine g_callV1 (q0 := 1) h dX3_share_5 cf_X3_36 (M_X0_isHouse (i := nI i) ) rfl rfl rfl rfl (by decide) rfl (Nat.le_of_ble_eq_true rfl) (pc' := 8) rfl ?_
  refine g_if_neT (tg := 15) h dX3_share_8 (by decide) (fun q => (bI_0.mp q) (hsO g0 g1)) ?_
  refine g_iload_n (i := 2) h dX3_share_15 rfl rfl (pc' := 16) rfl ?_
  refine g_callS1 h dX3_share_16 cf_X3_80 (M_X3_isPart (p := part) ) rfl (by decide) rfl (Nat.le_of_ble_eq_true rfl) (pc' := 19) rfl ?_
  refine g_if_neT (tg := 26) h dX3_share_19 (by decide) (fun q => (bI_0.mp q) g2) ?_
  refine g_aload_n (i := 0) h dX3_share_26 rfl rfl (pc' := 27) rfl ?_
  refine gf_X3_21 h dX3_share_27 (pc' := 30) rfl ?_
  refine g_iconst (v := (-1)) h dX3_share_30 (by decide) (pc' := 31) rfl ?_
  refine g_callV0 (q0 := 2) h dX3_share_31 cf_X3_69 (M_X1_settle (p := (-1)) ) rfl rfl rfl rfl (by decide) rfl (Nat.le_of_ble_eq_true rfl) (pc' := 34) rfl ?_
  refine g_aload_n (i := 0) h dX3_share_34 rfl rfl (pc' := 35) rfl ?_
  refine gf_X3_21 h dX3_share_35 (pc' := 38) rfl ?_
  refine g_iload_n (i := 1) h dX3_share_38 rfl rfl (pc' := 39) rfl ?_
  refine g_callV1 (q0 := 2) h dX3_share_39 cf_X3_85 (M_X1_shareAbove (i := i) (by omega)) rfl rfl rfl rfl (by decide) rfl (Nat.le_of_ble_eq_true rfl) (pc' := 42) rfl ?_
  refine g_aload_n (i := 0) h dX3_share_42 rfl rfl (pc' := 43) rfl ?_
  refine gf_X3_21 h dX3_share_43 (pc' := 46) rfl ?_
  refine gf_X3_89 h dX3_share_46 (pc' := 49) rfl ?_
  refine g_iload_n (i := 2) h dX3_share_49 rfl rfl (pc' := 50) rfl ?_
  refine g_callS1 h dX3_share_50 cf_X3_93 (M_X3_lowestTerms (a := ((cst toll (-1) coin debt fall shr mat rgt).2.1) i) (b := (cst toll (-1) coin debt fall shr mat rgt).2.2.2.2.2) (p := part) ) rfl (by decide) rfl (Nat.le_of_ble_eq_true rfl) (pc' := 53) rfl ?_
  exact g_lret h hr dX3_share_53 rfl rfl
set_option maxRecDepth 20000 in
set_option maxHeartbeats 4000000 in
theorem M_gross_U {Z : ZT} {m : Nat} {toll : Int32} {paid : Int32} {coin : Nat → Int32} {debt : Nat → Int32} {fall : Nat → Int32} {shr : Nat → Int64} {mat : Nat → Int64} {rgt : Nat → Int64} {pen : Int32} {last : Int32} {below : Int64} {i : Int32} {part : Int32}  (g0 : ¬ (¬ i < 0 ∧ ¬ nI m ≤ i)) : MM Z yX3_gross cX3_gross 3 (some .long) 6 [.ref (Z.2.2 0), .int i, .int part] (wC Z (nI m) toll paid coin debt fall shr mat rgt pen last below) (some (.long (-101))) (wC Z (nI m) toll paid coin debt fall shr mat rgt pen last below) := by
  refine MM.intro (by decide) [some (.ref (Z.2.2 0)), some (.int i), some (.int part)] rfl (Nat.le_of_ble_eq_true rfl) (fun X (h : OK Z X cX3_gross RX3 3 (rmd 6)) hr => ?_)
  refine g_aload_n (i := 0) h dX3_gross_0 rfl rfl (pc' := 1) rfl ?_
  refine gf_X3_10 h dX3_gross_1 (pc' := 4) rfl ?_
  refine g_iload_n (i := 1) h dX3_gross_4 rfl rfl (pc' := 5) rfl ?_
  refine g_callV1 (q0 := 1) h dX3_gross_5 cf_X3_36 (M_X0_isHouse (i := i) ) rfl rfl rfl rfl (by decide) rfl (Nat.le_of_ble_eq_true rfl) (pc' := 8) rfl ?_
  refine g_if_neF (tg := 15) h dX3_gross_8 (by decide) (pc' := 11) rfl (bI_n g0) ?_
  refine g_ldc2 h dX3_gross_11 co_X3_78 (pc' := 14) rfl ?_
  exact g_lret h hr dX3_gross_14 rfl rfl
set_option maxRecDepth 20000 in
set_option maxHeartbeats 4000000 in
theorem M_gross_O {Z : ZT} {m : Nat} {toll : Int32} {paid : Int32} {coin : Nat → Int32} {debt : Nat → Int32} {fall : Nat → Int32} {shr : Nat → Int64} {mat : Nat → Int64} {rgt : Nat → Int64} {pen : Int32} {last : Int32} {below : Int64} {i : Nat} {part : Int32}  (g0 : i < m) (g1 : m ≤ 4) (g2 : ¬ (part = 0 ∨ part = nI 1)) : MM Z yX3_gross cX3_gross 3 (some .long) 6 [.ref (Z.2.2 0), .int (nI i), .int part] (wC Z (nI m) toll paid coin debt fall shr mat rgt pen last below) (some (.long (-102))) (wC Z (nI m) toll paid coin debt fall shr mat rgt pen last below) := by
  refine MM.intro (by decide) [some (.ref (Z.2.2 0)), some (.int (nI i)), some (.int part)] rfl (Nat.le_of_ble_eq_true rfl) (fun X (h : OK Z X cX3_gross RX3 3 (rmd 6)) hr => ?_)
  refine g_aload_n (i := 0) h dX3_gross_0 rfl rfl (pc' := 1) rfl ?_
  refine gf_X3_10 h dX3_gross_1 (pc' := 4) rfl ?_
  refine g_iload_n (i := 1) h dX3_gross_4 rfl rfl (pc' := 5) rfl ?_
  refine g_callV1 (q0 := 1) h dX3_gross_5 cf_X3_36 (M_X0_isHouse (i := nI i) ) rfl rfl rfl rfl (by decide) rfl (Nat.le_of_ble_eq_true rfl) (pc' := 8) rfl ?_
  refine g_if_neT (tg := 15) h dX3_gross_8 (by decide) (fun q => (bI_0.mp q) (hsO g0 g1)) ?_
  refine g_iload_n (i := 2) h dX3_gross_15 rfl rfl (pc' := 16) rfl ?_
  refine g_callS1 h dX3_gross_16 cf_X3_80 (M_X3_isPart (p := part) ) rfl (by decide) rfl (Nat.le_of_ble_eq_true rfl) (pc' := 19) rfl ?_
  refine g_if_neF (tg := 26) h dX3_gross_19 (by decide) (pc' := 22) rfl (bI_n g2) ?_
  refine g_ldc2 h dX3_gross_22 co_X3_83 (pc' := 25) rfl ?_
  exact g_lret h hr dX3_gross_25 rfl rfl
set_option maxRecDepth 20000 in
set_option maxHeartbeats 4000000 in
theorem M_gross {Z : ZT} {m : Nat} {toll : Int32} {paid : Int32} {coin : Nat → Int32} {debt : Nat → Int32} {fall : Nat → Int32} {shr : Nat → Int64} {mat : Nat → Int64} {rgt : Nat → Int64} {pen : Int32} {last : Int32} {below : Int64} {i : Nat} {part : Int32}  (g0 : i < m) (g1 : m ≤ 4) (g2 : part = 0 ∨ part = nI 1) : MM Z yX3_gross cX3_gross 3 (some .long) 6 [.ref (Z.2.2 0), .int (nI i), .int part] (wC Z (nI m) toll paid coin debt fall shr mat rgt pen last below) (some (.long (lT ((gA (cst toll (-1) coin debt fall shr mat rgt).2.2.2.2.2 (-1) coin debt (cst toll (-1) coin debt fall shr mat rgt).2.1 i 4)) (cst toll (-1) coin debt fall shr mat rgt).2.2.2.2.2 part))) (wC Z (nI m) toll paid coin debt ((cst toll (-1) coin debt fall shr mat rgt).1) ((cst toll (-1) coin debt fall shr mat rgt).2.1) ((cst toll (-1) coin debt fall shr mat rgt).2.2.1) ((cst toll (-1) coin debt fall shr mat rgt).2.2.2.1) (-1) ((cst toll (-1) coin debt fall shr mat rgt).2.2.2.2.1) ((cst toll (-1) coin debt fall shr mat rgt).2.2.2.2.2)) := by
  refine MM.intro (by decide) [some (.ref (Z.2.2 0)), some (.int (nI i)), some (.int part)] rfl (Nat.le_of_ble_eq_true rfl) (fun X (h : OK Z X cX3_gross RX3 3 (rmd 6)) hr => ?_)
  refine g_aload_n (i := 0) h dX3_gross_0 rfl rfl (pc' := 1) rfl ?_
  refine gf_X3_10 h dX3_gross_1 (pc' := 4) rfl ?_
  refine g_iload_n (i := 1) h dX3_gross_4 rfl rfl (pc' := 5) rfl ?_
  refine g_callV1 (q0 := 1) h dX3_gross_5 cf_X3_36 (M_X0_isHouse (i := nI i) ) rfl rfl rfl rfl (by decide) rfl (Nat.le_of_ble_eq_true rfl) (pc' := 8) rfl ?_
  refine g_if_neT (tg := 15) h dX3_gross_8 (by decide) (fun q => (bI_0.mp q) (hsO g0 g1)) ?_
  refine g_iload_n (i := 2) h dX3_gross_15 rfl rfl (pc' := 16) rfl ?_
  refine g_callS1 h dX3_gross_16 cf_X3_80 (M_X3_isPart (p := part) ) rfl (by decide) rfl (Nat.le_of_ble_eq_true rfl) (pc' := 19) rfl ?_
  refine g_if_neT (tg := 26) h dX3_gross_19 (by decide) (fun q => (bI_0.mp q) g2) ?_
  refine g_aload_n (i := 0) h dX3_gross_26 rfl rfl (pc' := 27) rfl ?_
  refine gf_X3_21 h dX3_gross_27 (pc' := 30) rfl ?_
  refine g_iconst (v := (-1)) h dX3_gross_30 (by decide) (pc' := 31) rfl ?_
  refine g_callV0 (q0 := 2) h dX3_gross_31 cf_X3_69 (M_X1_settle (p := (-1)) ) rfl rfl rfl rfl (by decide) rfl (Nat.le_of_ble_eq_true rfl) (pc' := 34) rfl ?_
  refine g_aload_n (i := 0) h dX3_gross_34 rfl rfl (pc' := 35) rfl ?_
  refine gf_X3_21 h dX3_gross_35 (pc' := 38) rfl ?_
  refine g_iload_n (i := 1) h dX3_gross_38 rfl rfl (pc' := 39) rfl ?_
  refine g_callV1 (q0 := 2) h dX3_gross_39 cf_X3_97 (M_X1_grossAbove (i := i) (by omega)) rfl rfl rfl rfl (by decide) rfl (Nat.le_of_ble_eq_true rfl) (pc' := 42) rfl ?_
  refine g_aload_n (i := 0) h dX3_gross_42 rfl rfl (pc' := 43) rfl ?_
  refine gf_X3_21 h dX3_gross_43 (pc' := 46) rfl ?_
  refine gf_X3_89 h dX3_gross_46 (pc' := 49) rfl ?_
  refine g_iload_n (i := 2) h dX3_gross_49 rfl rfl (pc' := 50) rfl ?_
  refine g_callS1 h dX3_gross_50 cf_X3_93 (M_X3_lowestTerms (a := gA ((cst toll (-1) coin debt fall shr mat rgt).2.2.2.2.2) (-1) coin debt ((cst toll (-1) coin debt fall shr mat rgt).2.1) i 4) (b := (cst toll (-1) coin debt fall shr mat rgt).2.2.2.2.2) (p := part) ) rfl (by decide) rfl (Nat.le_of_ble_eq_true rfl) (pc' := 53) rfl ?_
  exact g_lret h hr dX3_gross_53 rfl rfl
set_option maxRecDepth 20000 in
set_option maxHeartbeats 4000000 in
theorem M_left_U {Z : ZT} {m : Nat} {toll : Int32} {paid : Int32} {coin : Nat → Int32} {debt : Nat → Int32} {fall : Nat → Int32} {shr : Nat → Int64} {mat : Nat → Int64} {rgt : Nat → Int64} {pen : Int32} {last : Int32} {below : Int64} {i : Int32} {part : Int32}  (g0 : ¬ (¬ i < 0 ∧ ¬ nI m ≤ i)) : MM Z yX3_left cX3_left 3 (some .long) 6 [.ref (Z.2.2 0), .int i, .int part] (wC Z (nI m) toll paid coin debt fall shr mat rgt pen last below) (some (.long (-101))) (wC Z (nI m) toll paid coin debt fall shr mat rgt pen last below) := by
  refine MM.intro (by decide) [some (.ref (Z.2.2 0)), some (.int i), some (.int part)] rfl (Nat.le_of_ble_eq_true rfl) (fun X (h : OK Z X cX3_left RX3 3 (rmd 6)) hr => ?_)
  refine g_aload_n (i := 0) h dX3_left_0 rfl rfl (pc' := 1) rfl ?_
  refine gf_X3_10 h dX3_left_1 (pc' := 4) rfl ?_
  refine g_iload_n (i := 1) h dX3_left_4 rfl rfl (pc' := 5) rfl ?_
  refine g_callV1 (q0 := 1) h dX3_left_5 cf_X3_36 (M_X0_isHouse (i := i) ) rfl rfl rfl rfl (by decide) rfl (Nat.le_of_ble_eq_true rfl) (pc' := 8) rfl ?_
  refine g_if_neF (tg := 15) h dX3_left_8 (by decide) (pc' := 11) rfl (bI_n g0) ?_
  refine g_ldc2 h dX3_left_11 co_X3_78 (pc' := 14) rfl ?_
  exact g_lret h hr dX3_left_14 rfl rfl
set_option maxRecDepth 20000 in
set_option maxHeartbeats 4000000 in
theorem M_left_O {Z : ZT} {m : Nat} {toll : Int32} {paid : Int32} {coin : Nat → Int32} {debt : Nat → Int32} {fall : Nat → Int32} {shr : Nat → Int64} {mat : Nat → Int64} {rgt : Nat → Int64} {pen : Int32} {last : Int32} {below : Int64} {i : Nat} {part : Int32}  (g0 : i < m) (g1 : m ≤ 4) (g2 : ¬ (part = 0 ∨ part = nI 1)) : MM Z yX3_left cX3_left 3 (some .long) 6 [.ref (Z.2.2 0), .int (nI i), .int part] (wC Z (nI m) toll paid coin debt fall shr mat rgt pen last below) (some (.long (-102))) (wC Z (nI m) toll paid coin debt fall shr mat rgt pen last below) := by
  refine MM.intro (by decide) [some (.ref (Z.2.2 0)), some (.int (nI i)), some (.int part)] rfl (Nat.le_of_ble_eq_true rfl) (fun X (h : OK Z X cX3_left RX3 3 (rmd 6)) hr => ?_)
  refine g_aload_n (i := 0) h dX3_left_0 rfl rfl (pc' := 1) rfl ?_
  refine gf_X3_10 h dX3_left_1 (pc' := 4) rfl ?_
  refine g_iload_n (i := 1) h dX3_left_4 rfl rfl (pc' := 5) rfl ?_
  refine g_callV1 (q0 := 1) h dX3_left_5 cf_X3_36 (M_X0_isHouse (i := nI i) ) rfl rfl rfl rfl (by decide) rfl (Nat.le_of_ble_eq_true rfl) (pc' := 8) rfl ?_
  refine g_if_neT (tg := 15) h dX3_left_8 (by decide) (fun q => (bI_0.mp q) (hsO g0 g1)) ?_
  refine g_iload_n (i := 2) h dX3_left_15 rfl rfl (pc' := 16) rfl ?_
  refine g_callS1 h dX3_left_16 cf_X3_80 (M_X3_isPart (p := part) ) rfl (by decide) rfl (Nat.le_of_ble_eq_true rfl) (pc' := 19) rfl ?_
  refine g_if_neF (tg := 26) h dX3_left_19 (by decide) (pc' := 22) rfl (bI_n g2) ?_
  refine g_ldc2 h dX3_left_22 co_X3_83 (pc' := 25) rfl ?_
  exact g_lret h hr dX3_left_25 rfl rfl
set_option maxRecDepth 20000 in
set_option maxHeartbeats 4000000 in
theorem M_left {Z : ZT} {m : Nat} {toll : Int32} {paid : Int32} {coin : Nat → Int32} {debt : Nat → Int32} {fall : Nat → Int32} {shr : Nat → Int64} {mat : Nat → Int64} {rgt : Nat → Int64} {pen : Int32} {last : Int32} {below : Int64} {i : Nat} {part : Int32}  (g0 : i < m) (g1 : m ≤ 4) (g2 : part = 0 ∨ part = nI 1) : MM Z yX3_left cX3_left 3 (some .long) 6 [.ref (Z.2.2 0), .int (nI i), .int part] (wC Z (nI m) toll paid coin debt fall shr mat rgt pen last below) (some (.long (lT ((if fl (cst toll (-1) coin debt fall shr mat rgt).1 i then 0 else gA (cst toll (-1) coin debt fall shr mat rgt).2.2.2.2.2 (-1) coin debt (cst toll (-1) coin debt fall shr mat rgt).2.1 i 4 - (cst toll (-1) coin debt fall shr mat rgt).2.2.2.2.2 * (oB debt i).toInt64)) (cst toll (-1) coin debt fall shr mat rgt).2.2.2.2.2 part))) (wC Z (nI m) toll paid coin debt ((cst toll (-1) coin debt fall shr mat rgt).1) ((cst toll (-1) coin debt fall shr mat rgt).2.1) ((cst toll (-1) coin debt fall shr mat rgt).2.2.1) ((cst toll (-1) coin debt fall shr mat rgt).2.2.2.1) (-1) ((cst toll (-1) coin debt fall shr mat rgt).2.2.2.2.1) ((cst toll (-1) coin debt fall shr mat rgt).2.2.2.2.2)) := by
  refine MM.intro (by decide) [some (.ref (Z.2.2 0)), some (.int (nI i)), some (.int part)] rfl (Nat.le_of_ble_eq_true rfl) (fun X (h : OK Z X cX3_left RX3 3 (rmd 6)) hr => ?_)
  refine g_aload_n (i := 0) h dX3_left_0 rfl rfl (pc' := 1) rfl ?_
  refine gf_X3_10 h dX3_left_1 (pc' := 4) rfl ?_
  refine g_iload_n (i := 1) h dX3_left_4 rfl rfl (pc' := 5) rfl ?_
  refine g_callV1 (q0 := 1) h dX3_left_5 cf_X3_36 (M_X0_isHouse (i := nI i) ) rfl rfl rfl rfl (by decide) rfl (Nat.le_of_ble_eq_true rfl) (pc' := 8) rfl ?_
  refine g_if_neT (tg := 15) h dX3_left_8 (by decide) (fun q => (bI_0.mp q) (hsO g0 g1)) ?_
  refine g_iload_n (i := 2) h dX3_left_15 rfl rfl (pc' := 16) rfl ?_
  refine g_callS1 h dX3_left_16 cf_X3_80 (M_X3_isPart (p := part) ) rfl (by decide) rfl (Nat.le_of_ble_eq_true rfl) (pc' := 19) rfl ?_
  refine g_if_neT (tg := 26) h dX3_left_19 (by decide) (fun q => (bI_0.mp q) g2) ?_
  refine g_aload_n (i := 0) h dX3_left_26 rfl rfl (pc' := 27) rfl ?_
  refine gf_X3_21 h dX3_left_27 (pc' := 30) rfl ?_
  refine g_iconst (v := (-1)) h dX3_left_30 (by decide) (pc' := 31) rfl ?_
  refine g_callV0 (q0 := 2) h dX3_left_31 cf_X3_69 (M_X1_settle (p := (-1)) ) rfl rfl rfl rfl (by decide) rfl (Nat.le_of_ble_eq_true rfl) (pc' := 34) rfl ?_
  refine g_aload_n (i := 0) h dX3_left_34 rfl rfl (pc' := 35) rfl ?_
  refine gf_X3_21 h dX3_left_35 (pc' := 38) rfl ?_
  refine g_iload_n (i := 1) h dX3_left_38 rfl rfl (pc' := 39) rfl ?_
  refine g_callV1 (q0 := 2) h dX3_left_39 cf_X3_100 (M_X1_leftAbove (i := i) (by omega)) rfl rfl rfl rfl (by decide) rfl (Nat.le_of_ble_eq_true rfl) (pc' := 42) rfl ?_
  refine g_aload_n (i := 0) h dX3_left_42 rfl rfl (pc' := 43) rfl ?_
  refine gf_X3_21 h dX3_left_43 (pc' := 46) rfl ?_
  refine gf_X3_89 h dX3_left_46 (pc' := 49) rfl ?_
  refine g_iload_n (i := 2) h dX3_left_49 rfl rfl (pc' := 50) rfl ?_
  refine g_callS1 h dX3_left_50 cf_X3_93 (M_X3_lowestTerms (a := if fl ((cst toll (-1) coin debt fall shr mat rgt).1) i then 0 else gA ((cst toll (-1) coin debt fall shr mat rgt).2.2.2.2.2) (-1) coin debt ((cst toll (-1) coin debt fall shr mat rgt).2.1) i 4 - ((cst toll (-1) coin debt fall shr mat rgt).2.2.2.2.2) * (oB debt i).toInt64) (b := (cst toll (-1) coin debt fall shr mat rgt).2.2.2.2.2) (p := part) ) rfl (by decide) rfl (Nat.le_of_ble_eq_true rfl) (pc' := 53) rfl ?_
  exact g_lret h hr dX3_left_53 rfl rfl
set_option maxRecDepth 20000 in
set_option maxHeartbeats 4000000 in
theorem M_pays_U {Z : ZT} {m : Nat} {toll : Int32} {paid : Int32} {coin : Nat → Int32} {debt : Nat → Int32} {fall : Nat → Int32} {shr : Nat → Int64} {mat : Nat → Int64} {rgt : Nat → Int64} {pen : Int32} {last : Int32} {below : Int64} {i : Int32} {j : Int32} {part : Int32}  (g0 : ¬ (¬ i < 0 ∧ ¬ nI m ≤ i)) : MM Z yX3_pays cX3_pays 6 (some .long) 6 [.ref (Z.2.2 0), .int i, .int j, .int part] (wC Z (nI m) toll paid coin debt fall shr mat rgt pen last below) (some (.long (-101))) (wC Z (nI m) toll paid coin debt fall shr mat rgt pen last below) := by
  refine MM.intro (by decide) [some (.ref (Z.2.2 0)), some (.int i), some (.int j), some (.int part), none, none] rfl (Nat.le_of_ble_eq_true rfl) (fun X (h : OK Z X cX3_pays RX3 6 (rmd 6)) hr => ?_)
  refine g_aload_n (i := 0) h dX3_pays_0 rfl rfl (pc' := 1) rfl ?_
  refine gf_X3_10 h dX3_pays_1 (pc' := 4) rfl ?_
  refine g_iload_n (i := 1) h dX3_pays_4 rfl rfl (pc' := 5) rfl ?_
  refine g_callV1 (q0 := 1) h dX3_pays_5 cf_X3_36 (M_X0_isHouse (i := i) ) rfl rfl rfl rfl (by decide) rfl (Nat.le_of_ble_eq_true rfl) (pc' := 8) rfl ?_
  refine g_if_eqT (tg := 22) h dX3_pays_8 (by decide) (bI_n g0) ?_
  refine g_ldc2 h dX3_pays_22 co_X3_78 (pc' := 25) rfl ?_
  exact g_lret h hr dX3_pays_25 rfl rfl
set_option maxRecDepth 20000 in
set_option maxHeartbeats 4000000 in
theorem M_pays_UP {Z : ZT} {m : Nat} {toll : Int32} {paid : Int32} {coin : Nat → Int32} {debt : Nat → Int32} {fall : Nat → Int32} {shr : Nat → Int64} {mat : Nat → Int64} {rgt : Nat → Int64} {pen : Int32} {last : Int32} {below : Int64} {i : Nat} {j : Int32} {part : Int32}  (g0 : i < m) (g1 : m ≤ 4) (g2 : ¬ (¬ j < 0 ∧ ¬ nI m < j)) : MM Z yX3_pays cX3_pays 6 (some .long) 6 [.ref (Z.2.2 0), .int (nI i), .int j, .int part] (wC Z (nI m) toll paid coin debt fall shr mat rgt pen last below) (some (.long (-101))) (wC Z (nI m) toll paid coin debt fall shr mat rgt pen last below) := by
  refine MM.intro (by decide) [some (.ref (Z.2.2 0)), some (.int (nI i)), some (.int j), some (.int part), none, none] rfl (Nat.le_of_ble_eq_true rfl) (fun X (h : OK Z X cX3_pays RX3 6 (rmd 6)) hr => ?_)
  refine g_aload_n (i := 0) h dX3_pays_0 rfl rfl (pc' := 1) rfl ?_
  refine gf_X3_10 h dX3_pays_1 (pc' := 4) rfl ?_
  refine g_iload_n (i := 1) h dX3_pays_4 rfl rfl (pc' := 5) rfl ?_
  refine g_callV1 (q0 := 1) h dX3_pays_5 cf_X3_36 (M_X0_isHouse (i := nI i) ) rfl rfl rfl rfl (by decide) rfl (Nat.le_of_ble_eq_true rfl) (pc' := 8) rfl ?_
  refine g_if_eqF (tg := 22) h dX3_pays_8 (by decide) (pc' := 11) rfl (fun q => (bI_0.mp q) (hsO g0 g1)) ?_
  refine g_aload_n (i := 0) h dX3_pays_11 rfl rfl (pc' := 12) rfl ?_
  refine gf_X3_10 h dX3_pays_12 (pc' := 15) rfl ?_
  refine g_iload_n (i := 2) h dX3_pays_15 rfl rfl (pc' := 16) rfl ?_
  refine g_callV1 (q0 := 1) h dX3_pays_16 cf_X3_48 (M_X0_isPayee (i := j) ) rfl rfl rfl rfl (by decide) rfl (Nat.le_of_ble_eq_true rfl) (pc' := 19) rfl ?_
  refine g_if_neF (tg := 26) h dX3_pays_19 (by decide) (pc' := 22) rfl (bI_n g2) ?_
  refine g_ldc2 h dX3_pays_22 co_X3_78 (pc' := 25) rfl ?_
  exact g_lret h hr dX3_pays_25 rfl rfl
set_option maxRecDepth 20000 in
set_option maxHeartbeats 4000000 in
theorem M_pays_O {Z : ZT} {m : Nat} {toll : Int32} {paid : Int32} {coin : Nat → Int32} {debt : Nat → Int32} {fall : Nat → Int32} {shr : Nat → Int64} {mat : Nat → Int64} {rgt : Nat → Int64} {pen : Int32} {last : Int32} {below : Int64} {i : Nat} {j : Nat} {part : Int32}  (g0 : i < m) (g1 : m ≤ 4) (g2 : j ≤ m) (g3 : ¬ (part = 0 ∨ part = nI 1)) : MM Z yX3_pays cX3_pays 6 (some .long) 6 [.ref (Z.2.2 0), .int (nI i), .int (nI j), .int part] (wC Z (nI m) toll paid coin debt fall shr mat rgt pen last below) (some (.long (-102))) (wC Z (nI m) toll paid coin debt fall shr mat rgt pen last below) := by
  refine MM.intro (by decide) [some (.ref (Z.2.2 0)), some (.int (nI i)), some (.int (nI j)), some (.int part), none, none] rfl (Nat.le_of_ble_eq_true rfl) (fun X (h : OK Z X cX3_pays RX3 6 (rmd 6)) hr => ?_)
  refine g_aload_n (i := 0) h dX3_pays_0 rfl rfl (pc' := 1) rfl ?_
  refine gf_X3_10 h dX3_pays_1 (pc' := 4) rfl ?_
  refine g_iload_n (i := 1) h dX3_pays_4 rfl rfl (pc' := 5) rfl ?_
  refine g_callV1 (q0 := 1) h dX3_pays_5 cf_X3_36 (M_X0_isHouse (i := nI i) ) rfl rfl rfl rfl (by decide) rfl (Nat.le_of_ble_eq_true rfl) (pc' := 8) rfl ?_
  refine g_if_eqF (tg := 22) h dX3_pays_8 (by decide) (pc' := 11) rfl (fun q => (bI_0.mp q) (hsO g0 g1)) ?_
  refine g_aload_n (i := 0) h dX3_pays_11 rfl rfl (pc' := 12) rfl ?_
  refine gf_X3_10 h dX3_pays_12 (pc' := 15) rfl ?_
  refine g_iload_n (i := 2) h dX3_pays_15 rfl rfl (pc' := 16) rfl ?_
  refine g_callV1 (q0 := 1) h dX3_pays_16 cf_X3_48 (M_X0_isPayee (i := nI j) ) rfl rfl rfl rfl (by decide) rfl (Nat.le_of_ble_eq_true rfl) (pc' := 19) rfl ?_
  refine g_if_neT (tg := 26) h dX3_pays_19 (by decide) (fun q => (bI_0.mp q) (hpO g2 g1)) ?_
  refine g_iload_n (i := 3) h dX3_pays_26 rfl rfl (pc' := 27) rfl ?_
  refine g_callS1 h dX3_pays_27 cf_X3_80 (M_X3_isPart (p := part) ) rfl (by decide) rfl (Nat.le_of_ble_eq_true rfl) (pc' := 30) rfl ?_
  refine g_if_neF (tg := 37) h dX3_pays_30 (by decide) (pc' := 33) rfl (bI_n g3) ?_
  refine g_ldc2 h dX3_pays_33 co_X3_83 (pc' := 36) rfl ?_
  exact g_lret h hr dX3_pays_36 rfl rfl
set_option maxRecDepth 20000 in
set_option maxHeartbeats 4000000 in
theorem M_pays {Z : ZT} {m : Nat} {toll : Int32} {paid : Int32} {coin : Nat → Int32} {debt : Nat → Int32} {fall : Nat → Int32} {shr : Nat → Int64} {mat : Nat → Int64} {rgt : Nat → Int64} {pen : Int32} {last : Int32} {below : Int64} {i : Nat} {j : Nat} {part : Int32}  (g0 : i < m) (g1 : m ≤ 4) (g2 : j ≤ m) (g3 : part = 0 ∨ part = nI 1) : MM Z yX3_pays cX3_pays 6 (some .long) 6 [.ref (Z.2.2 0), .int (nI i), .int (nI j), .int part] (wC Z (nI m) toll paid coin debt fall shr mat rgt pen last below) (some (.long (lT ((cst toll (-1) coin debt fall shr mat rgt).2.1 i * (debt (i * 5 + cm m j)).toInt64) (cst toll (-1) coin debt fall shr mat rgt).2.2.2.2.2 part))) (wC Z (nI m) toll paid coin debt ((cst toll (-1) coin debt fall shr mat rgt).1) ((cst toll (-1) coin debt fall shr mat rgt).2.1) ((cst toll (-1) coin debt fall shr mat rgt).2.2.1) ((cst toll (-1) coin debt fall shr mat rgt).2.2.2.1) (-1) ((cst toll (-1) coin debt fall shr mat rgt).2.2.2.2.1) ((cst toll (-1) coin debt fall shr mat rgt).2.2.2.2.2)) := by
  refine MM.intro (by decide) [some (.ref (Z.2.2 0)), some (.int (nI i)), some (.int (nI j)), some (.int part), none, none] rfl (Nat.le_of_ble_eq_true rfl) (fun X (h : OK Z X cX3_pays RX3 6 (rmd 6)) hr => ?_)
  refine g_aload_n (i := 0) h dX3_pays_0 rfl rfl (pc' := 1) rfl ?_
  refine gf_X3_10 h dX3_pays_1 (pc' := 4) rfl ?_
  refine g_iload_n (i := 1) h dX3_pays_4 rfl rfl (pc' := 5) rfl ?_
  refine g_callV1 (q0 := 1) h dX3_pays_5 cf_X3_36 (M_X0_isHouse (i := nI i) ) rfl rfl rfl rfl (by decide) rfl (Nat.le_of_ble_eq_true rfl) (pc' := 8) rfl ?_
  refine g_if_eqF (tg := 22) h dX3_pays_8 (by decide) (pc' := 11) rfl (fun q => (bI_0.mp q) (hsO g0 g1)) ?_
  refine g_aload_n (i := 0) h dX3_pays_11 rfl rfl (pc' := 12) rfl ?_
  refine gf_X3_10 h dX3_pays_12 (pc' := 15) rfl ?_
  refine g_iload_n (i := 2) h dX3_pays_15 rfl rfl (pc' := 16) rfl ?_
  refine g_callV1 (q0 := 1) h dX3_pays_16 cf_X3_48 (M_X0_isPayee (i := nI j) ) rfl rfl rfl rfl (by decide) rfl (Nat.le_of_ble_eq_true rfl) (pc' := 19) rfl ?_
  refine g_if_neT (tg := 26) h dX3_pays_19 (by decide) (fun q => (bI_0.mp q) (hpO g2 g1)) ?_
  refine g_iload_n (i := 3) h dX3_pays_26 rfl rfl (pc' := 27) rfl ?_
  refine g_callS1 h dX3_pays_27 cf_X3_80 (M_X3_isPart (p := part) ) rfl (by decide) rfl (Nat.le_of_ble_eq_true rfl) (pc' := 30) rfl ?_
  refine g_if_neT (tg := 37) h dX3_pays_30 (by decide) (fun q => (bI_0.mp q) g3) ?_
  refine g_aload_n (i := 0) h dX3_pays_37 rfl rfl (pc' := 38) rfl ?_
  refine gf_X3_21 h dX3_pays_38 (pc' := 41) rfl ?_
  refine g_iconst (v := (-1)) h dX3_pays_41 (by decide) (pc' := 42) rfl ?_
  refine g_callV0 (q0 := 2) h dX3_pays_42 cf_X3_69 (M_X1_settle (p := (-1)) ) rfl rfl rfl rfl (by decide) rfl (Nat.le_of_ble_eq_true rfl) (pc' := 45) rfl ?_
  refine g_aload_n (i := 0) h dX3_pays_45 rfl rfl (pc' := 46) rfl ?_
  refine gf_X3_21 h dX3_pays_46 (pc' := 49) rfl ?_
  refine g_iload_n (i := 1) h dX3_pays_49 rfl rfl (pc' := 50) rfl ?_
  refine g_callV1 (q0 := 2) h dX3_pays_50 cf_X3_85 (M_X1_shareAbove (i := i) (by omega)) rfl rfl rfl rfl (by decide) rfl (Nat.le_of_ble_eq_true rfl) (pc' := 53) rfl ?_
  refine g_aload_n (i := 0) h dX3_pays_53 rfl rfl (pc' := 54) rfl ?_
  refine gf_X3_10 h dX3_pays_54 (pc' := 57) rfl ?_
  refine g_iload_n (i := 1) h dX3_pays_57 rfl rfl (pc' := 58) rfl ?_
  refine g_aload_n (i := 0) h dX3_pays_58 rfl rfl (pc' := 59) rfl ?_
  refine gf_X3_10 h dX3_pays_59 (pc' := 62) rfl ?_
  refine g_iload_n (i := 2) h dX3_pays_62 rfl rfl (pc' := 63) rfl ?_
  refine g_callV1 (q0 := 1) h dX3_pays_63 cf_X3_51 (M_X0_columnOf_N (i := j) g2 g1) rfl rfl rfl rfl (by decide) rfl (Nat.le_of_ble_eq_true rfl) (pc' := 66) rfl ?_
  refine g_callV1 (q0 := 1) h dX3_pays_66 cf_X3_54 (M_X0_owed (i := i) (c := cm m j) (by omega) (col_lt g2 g1)) rfl rfl rfl rfl (by decide) rfl (Nat.le_of_ble_eq_true rfl) (pc' := 69) rfl ?_
  refine g_i2l h dX3_pays_69 (pc' := 70) rfl ?_
  refine g_lmul h dX3_pays_70 (pc' := 71) rfl ?_
  refine g_lstore4 h dX3_pays_71 rfl (by decide) (pc' := 73) rfl ?_
  refine g_lload h dX3_pays_73 rfl (pc' := 75) rfl ?_
  refine g_aload_n (i := 0) h dX3_pays_75 rfl rfl (pc' := 76) rfl ?_
  refine gf_X3_21 h dX3_pays_76 (pc' := 79) rfl ?_
  refine gf_X3_89 h dX3_pays_79 (pc' := 82) rfl ?_
  refine g_iload_n (i := 3) h dX3_pays_82 rfl rfl (pc' := 83) rfl ?_
  refine g_callS1 h dX3_pays_83 cf_X3_93 (M_X3_lowestTerms (a := (((cst toll (-1) coin debt fall shr mat rgt).2.1) i) * ((debt (i * 5 + (cm m j))).toInt64)) (b := (cst toll (-1) coin debt fall shr mat rgt).2.2.2.2.2) (p := part) ) rfl (by decide) rfl (Nat.le_of_ble_eq_true rfl) (pc' := 86) rfl ?_
  exact g_lret h hr dX3_pays_86 rfl rfl
set_option maxRecDepth 20000 in
set_option maxHeartbeats 4000000 in
theorem M_lost_O {Z : ZT} {m : Nat} {toll : Int32} {paid : Int32} {coin : Nat → Int32} {debt : Nat → Int32} {fall : Nat → Int32} {shr : Nat → Int64} {mat : Nat → Int64} {rgt : Nat → Int64} {pen : Int32} {last : Int32} {below : Int64} {part : Int32}  (g0 : ¬ (part = 0 ∨ part = nI 1)) : MM Z yX3_lost cX3_lost 2 (some .long) 6 [.ref (Z.2.2 0), .int part] (wC Z (nI m) toll paid coin debt fall shr mat rgt pen last below) (some (.long (-102))) (wC Z (nI m) toll paid coin debt fall shr mat rgt pen last below) := by
  refine MM.intro (by decide) [some (.ref (Z.2.2 0)), some (.int part)] rfl (Nat.le_of_ble_eq_true rfl) (fun X (h : OK Z X cX3_lost RX3 2 (rmd 6)) hr => ?_)
  refine g_iload_n (i := 1) h dX3_lost_0 rfl rfl (pc' := 1) rfl ?_
  refine g_callS1 h dX3_lost_1 cf_X3_80 (M_X3_isPart (p := part) ) rfl (by decide) rfl (Nat.le_of_ble_eq_true rfl) (pc' := 4) rfl ?_
  refine g_if_neF (tg := 11) h dX3_lost_4 (by decide) (pc' := 7) rfl (bI_n g0) ?_
  refine g_ldc2 h dX3_lost_7 co_X3_83 (pc' := 10) rfl ?_
  exact g_lret h hr dX3_lost_10 rfl rfl
set_option maxRecDepth 20000 in
set_option maxHeartbeats 4000000 in
theorem M_lost {Z : ZT} {m : Nat} {toll : Int32} {paid : Int32} {coin : Nat → Int32} {debt : Nat → Int32} {fall : Nat → Int32} {shr : Nat → Int64} {mat : Nat → Int64} {rgt : Nat → Int64} {pen : Int32} {last : Int32} {below : Int64} {part : Int32}  (g0 : part = 0 ∨ part = nI 1) : MM Z yX3_lost cX3_lost 2 (some .long) 6 [.ref (Z.2.2 0), .int part] (wC Z (nI m) toll paid coin debt fall shr mat rgt pen last below) (some (.long (lT (lA toll (cst toll (-1) coin debt fall shr mat rgt).2.2.2.2.2 (-1) coin debt (cst toll (-1) coin debt fall shr mat rgt).2.1 (cst toll (-1) coin debt fall shr mat rgt).1 4) ((cst toll (-1) coin debt fall shr mat rgt).2.2.2.2.2 * 10) part))) (wC Z (nI m) toll paid coin debt ((cst toll (-1) coin debt fall shr mat rgt).1) ((cst toll (-1) coin debt fall shr mat rgt).2.1) ((cst toll (-1) coin debt fall shr mat rgt).2.2.1) ((cst toll (-1) coin debt fall shr mat rgt).2.2.2.1) (-1) ((cst toll (-1) coin debt fall shr mat rgt).2.2.2.2.1) ((cst toll (-1) coin debt fall shr mat rgt).2.2.2.2.2)) := by
  refine MM.intro (by decide) [some (.ref (Z.2.2 0)), some (.int part)] rfl (Nat.le_of_ble_eq_true rfl) (fun X (h : OK Z X cX3_lost RX3 2 (rmd 6)) hr => ?_)
  refine g_iload_n (i := 1) h dX3_lost_0 rfl rfl (pc' := 1) rfl ?_
  refine g_callS1 h dX3_lost_1 cf_X3_80 (M_X3_isPart (p := part) ) rfl (by decide) rfl (Nat.le_of_ble_eq_true rfl) (pc' := 4) rfl ?_
  refine g_if_neT (tg := 11) h dX3_lost_4 (by decide) (fun q => (bI_0.mp q) g0) ?_
  refine g_aload_n (i := 0) h dX3_lost_11 rfl rfl (pc' := 12) rfl ?_
  refine gf_X3_21 h dX3_lost_12 (pc' := 15) rfl ?_
  refine g_iconst (v := (-1)) h dX3_lost_15 (by decide) (pc' := 16) rfl ?_
  refine g_callV0 (q0 := 2) h dX3_lost_16 cf_X3_69 (M_X1_settle (p := (-1)) ) rfl rfl rfl rfl (by decide) rfl (Nat.le_of_ble_eq_true rfl) (pc' := 19) rfl ?_
  refine g_aload_n (i := 0) h dX3_lost_19 rfl rfl (pc' := 20) rfl ?_
  refine gf_X3_21 h dX3_lost_20 (pc' := 23) rfl ?_
  refine g_callV1 (q0 := 2) h dX3_lost_23 cf_X3_103 (M_X1_lostAbove  ) rfl rfl rfl rfl (by decide) rfl (Nat.le_of_ble_eq_true rfl) (pc' := 26) rfl ?_
  refine g_aload_n (i := 0) h dX3_lost_26 rfl rfl (pc' := 27) rfl ?_
  refine gf_X3_21 h dX3_lost_27 (pc' := 30) rfl ?_
  refine gf_X3_89 h dX3_lost_30 (pc' := 33) rfl ?_
  refine g_ldc2 h dX3_lost_33 co_X3_107 (pc' := 36) rfl ?_
  refine g_lmul h dX3_lost_36 (pc' := 37) rfl ?_
  refine g_iload_n (i := 1) h dX3_lost_37 rfl rfl (pc' := 38) rfl ?_
  refine g_callS1 h dX3_lost_38 cf_X3_93 (M_X3_lowestTerms (a := lA toll ((cst toll (-1) coin debt fall shr mat rgt).2.2.2.2.2) (-1) coin debt ((cst toll (-1) coin debt fall shr mat rgt).2.1) ((cst toll (-1) coin debt fall shr mat rgt).1) 4) (b := ((cst toll (-1) coin debt fall shr mat rgt).2.2.2.2.2) * (10)) (p := part) ) rfl (by decide) rfl (Nat.le_of_ble_eq_true rfl) (pc' := 41) rfl ?_
  exact g_lret h hr dX3_lost_41 rfl rfl
set_option maxRecDepth 20000 in
set_option maxHeartbeats 4000000 in
theorem M_best {Z : ZT} {m : Nat} {toll : Int32} {paid : Int32} {coin : Nat → Int32} {debt : Nat → Int32} {fall : Nat → Int32} {shr : Nat → Int64} {mat : Nat → Int64} {rgt : Nat → Int64} {pen : Int32} {last : Int32} {below : Int64}   (g0 : m ≤ 4) : MM Z yX3_best cX3_best 5 (some .int) 5 [.ref (Z.2.2 0)] (wC Z (nI m) toll paid coin debt fall shr mat rgt pen last below) (some (.int ((bB coin debt m).1))) (wC Z (nI m) toll paid coin debt fall shr mat rgt pen last below) := by
  refine MM.intro (by decide) [some (.ref (Z.2.2 0)), none, none, none, none] rfl (Nat.le_of_ble_eq_true rfl) (fun X (h : OK Z X cX3_best RX3 5 (rmd 5)) hr => ?_)
  refine g_iconst (v := (-1)) h dX3_best_0 (by decide) (pc' := 1) rfl ?_
  refine g_istore1 h dX3_best_1 rfl (by decide) (pc' := 2) rfl ?_
  refine g_iconst (v := (-1)) h dX3_best_2 (by decide) (pc' := 3) rfl ?_
  refine g_istore2 h dX3_best_3 rfl (by decide) (pc' := 4) rfl ?_
  refine g_iconst (v := nI 0) h dX3_best_4 (by decide) (pc' := 5) rfl ?_
  refine g_istore3 h dX3_best_5 rfl (by decide) (pc' := 6) rfl ?_
  refine GG.castW (lp (P := fun j => GG Z X 6 [some (.ref (Z.2.2 0)), some (.int ((bB coin debt j).1)), some (.int ((bB coin debt j).2)), some (.int (nI j)), none] [] (wC Z (nI m) toll paid coin debt fall shr mat rgt pen last below)) m ?_ ?_) ⟨rfl, rfl, rfl, rfl, trivial⟩ rfl rfl
  · skip
    refine g_iload_n (i := 3) h dX3_best_6 rfl rfl (pc' := 7) rfl ?_
    refine g_aload_n (i := 0) h dX3_best_7 rfl rfl (pc' := 8) rfl ?_
    refine gf_X3_10 h dX3_best_8 (pc' := 11) rfl ?_
    refine gf_X3_116 h dX3_best_11 (pc' := 14) rfl ?_
    refine g_icmp_geT (tg := 55) h dX3_best_14 (by decide) (Int32.le_refl _) ?_
    refine g_iload_n (i := 1) h dX3_best_55 rfl rfl (pc' := 56) rfl ?_
    exact g_iret h hr dX3_best_56 rfl rfl
  · intro j hj ih6
    refine g_iload_n (i := 3) h dX3_best_6 rfl rfl (pc' := 7) rfl ?_
    refine g_aload_n (i := 0) h dX3_best_7 rfl rfl (pc' := 8) rfl ?_
    refine gf_X3_10 h dX3_best_8 (pc' := 11) rfl ?_
    refine gf_X3_116 h dX3_best_11 (pc' := 14) rfl ?_
    refine g_icmp_geF (tg := 55) h dX3_best_14 (by decide) (pc' := 17) rfl (nI_ge hj (by omega)) ?_
    refine g_aload_n (i := 0) h dX3_best_17 rfl rfl (pc' := 18) rfl ?_
    refine gf_X3_10 h dX3_best_18 (pc' := 21) rfl ?_
    refine g_iload_n (i := 3) h dX3_best_21 rfl rfl (pc' := 22) rfl ?_
    refine g_callV1 (q0 := 1) h dX3_best_22 cf_X3_113 (M_X0_helpNeeded (i := j) (by omega)) rfl rfl rfl rfl (by decide) rfl (Nat.le_of_ble_eq_true rfl) (pc' := 25) rfl ?_
    refine g_istore4 h dX3_best_25 rfl (by decide) (pc' := 27) rfl ?_
    refine g_iload h dX3_best_27 rfl (pc' := 29) rfl ?_
    refine g_iconst (v := (-1)) h dX3_best_29 (by decide) (pc' := 30) rfl ?_
    refine g_icmp_eq (tg := 49) h dX3_best_30 (by decide) (pc' := 33) rfl (fun c1 => ?_) (fun c1 => ?_)
    · skip
      refine g_iinc3 (v := nI (j + 1)) h dX3_best_49 rfl (inc1 j) (by decide) (pc' := 52) rfl ?_
      refine g_goto (pc' := 6) h dX3_best_52 (by decide) ?_
      first | have hq : bC coin debt (bB coin debt j) j := ⟨c1, Or.inl c2⟩ | have hq : bC coin debt (bB coin debt j) j := ⟨c1, Or.inr c3⟩ | have hq : ¬ bC coin debt (bB coin debt j) j := (fun q => q.1 c1) | have hq : ¬ bC coin debt (bB coin debt j) j := (fun q => q.2.elim c2 (fun z => z c3))
      exact GG.castW ih6 ⟨rfl, (by simp only [List.head?_cons, List.tail_cons, bB]; first | rw [if_pos hq] | rw [if_neg hq]), (by simp only [List.head?_cons, List.tail_cons, bB]; first | rw [if_pos hq] | rw [if_neg hq]), rfl, trivial⟩ rfl rfl
    · skip
      refine g_iload_n (i := 1) h dX3_best_33 rfl rfl (pc' := 34) rfl ?_
      refine g_iconst (v := (-1)) h dX3_best_34 (by decide) (pc' := 35) rfl ?_
      refine g_icmp_eq (tg := 44) h dX3_best_35 (by decide) (pc' := 38) rfl (fun c2 => ?_) (fun c2 => ?_)
      · skip
        refine g_iload_n (i := 3) h dX3_best_44 rfl rfl (pc' := 45) rfl ?_
        refine g_istore1 h dX3_best_45 rfl (by decide) (pc' := 46) rfl ?_
        refine g_iload h dX3_best_46 rfl (pc' := 48) rfl ?_
        refine g_istore2 h dX3_best_48 rfl (by decide) (pc' := 49) rfl ?_
        refine g_iinc3 (v := nI (j + 1)) h dX3_best_49 rfl (inc1 j) (by decide) (pc' := 52) rfl ?_
        refine g_goto (pc' := 6) h dX3_best_52 (by decide) ?_
        first | have hq : bC coin debt (bB coin debt j) j := ⟨c1, Or.inl c2⟩ | have hq : bC coin debt (bB coin debt j) j := ⟨c1, Or.inr c3⟩ | have hq : ¬ bC coin debt (bB coin debt j) j := (fun q => q.1 c1) | have hq : ¬ bC coin debt (bB coin debt j) j := (fun q => q.2.elim c2 (fun z => z c3))
        exact GG.castW ih6 ⟨rfl, (by simp only [List.head?_cons, List.tail_cons, bB]; first | rw [if_pos hq] | rw [if_neg hq]), (by simp only [List.head?_cons, List.tail_cons, bB]; first | rw [if_pos hq] | rw [if_neg hq]), rfl, trivial⟩ rfl rfl
      · skip
        refine g_iload h dX3_best_38 rfl (pc' := 40) rfl ?_
        refine g_iload_n (i := 2) h dX3_best_40 rfl rfl (pc' := 41) rfl ?_
        refine g_icmp_ge (tg := 49) h dX3_best_41 (by decide) (pc' := 44) rfl (fun c3 => ?_) (fun c3 => ?_)
        · skip
          refine g_iinc3 (v := nI (j + 1)) h dX3_best_49 rfl (inc1 j) (by decide) (pc' := 52) rfl ?_
          refine g_goto (pc' := 6) h dX3_best_52 (by decide) ?_
          first | have hq : bC coin debt (bB coin debt j) j := ⟨c1, Or.inl c2⟩ | have hq : bC coin debt (bB coin debt j) j := ⟨c1, Or.inr c3⟩ | have hq : ¬ bC coin debt (bB coin debt j) j := (fun q => q.1 c1) | have hq : ¬ bC coin debt (bB coin debt j) j := (fun q => q.2.elim c2 (fun z => z c3))
          exact GG.castW ih6 ⟨rfl, (by simp only [List.head?_cons, List.tail_cons, bB]; first | rw [if_pos hq] | rw [if_neg hq]), (by simp only [List.head?_cons, List.tail_cons, bB]; first | rw [if_pos hq] | rw [if_neg hq]), rfl, trivial⟩ rfl rfl
        · skip
          refine g_iload_n (i := 3) h dX3_best_44 rfl rfl (pc' := 45) rfl ?_
          refine g_istore1 h dX3_best_45 rfl (by decide) (pc' := 46) rfl ?_
          refine g_iload h dX3_best_46 rfl (pc' := 48) rfl ?_
          refine g_istore2 h dX3_best_48 rfl (by decide) (pc' := 49) rfl ?_
          refine g_iinc3 (v := nI (j + 1)) h dX3_best_49 rfl (inc1 j) (by decide) (pc' := 52) rfl ?_
          refine g_goto (pc' := 6) h dX3_best_52 (by decide) ?_
          first | have hq : bC coin debt (bB coin debt j) j := ⟨c1, Or.inl c2⟩ | have hq : bC coin debt (bB coin debt j) j := ⟨c1, Or.inr c3⟩ | have hq : ¬ bC coin debt (bB coin debt j) j := (fun q => q.1 c1) | have hq : ¬ bC coin debt (bB coin debt j) j := (fun q => q.2.elim c2 (fun z => z c3))
          exact GG.castW ih6 ⟨rfl, (by simp only [List.head?_cons, List.tail_cons, bB]; first | rw [if_pos hq] | rw [if_neg hq]), (by simp only [List.head?_cons, List.tail_cons, bB]; first | rw [if_pos hq] | rw [if_neg hq]), rfl, trivial⟩ rfl rfl
set_option maxRecDepth 20000 in
set_option maxHeartbeats 4000000 in
theorem M_rings {Z : ZT} {m : Nat} {toll : Int32} {paid : Int32} {coin : Nat → Int32} {debt : Nat → Int32} {fall : Nat → Int32} {shr : Nat → Int64} {mat : Nat → Int64} {rgt : Nat → Int64} {pen : Int32} {last : Int32} {below : Int64}    : MM Z yX3_rings cX3_rings 1 (some .int) 4 [.ref (Z.2.2 0)] (wC Z (nI m) toll paid coin debt fall shr mat rgt pen last below) (some (.int (nI (hm debt 20)))) (wC Z (nI m) toll paid coin debt fall shr mat rgt pen last below) := by
  refine MM.intro (by decide) [some (.ref (Z.2.2 0))] rfl (Nat.le_of_ble_eq_true rfl) (fun X (h : OK Z X cX3_rings RX3 1 (rmd 4)) hr => ?_)
  refine g_aload_n (i := 0) h dX3_rings_0 rfl rfl (pc' := 1) rfl ?_
  refine gf_X3_28 h dX3_rings_1 (pc' := 4) rfl ?_
  refine g_callV1 (q0 := 3) h dX3_rings_4 cf_X3_123 (M_X2_howMany  ) rfl rfl rfl rfl (by decide) rfl (Nat.le_of_ble_eq_true rfl) (pc' := 7) rfl ?_
  exact g_iret h hr dX3_rings_7 rfl rfl
set_option maxRecDepth 20000 in
set_option maxHeartbeats 4000000 in
theorem M_ring {Z : ZT} {m : Nat} {toll : Int32} {paid : Int32} {coin : Nat → Int32} {debt : Nat → Int32} {fall : Nat → Int32} {shr : Nat → Int64} {mat : Nat → Int64} {rgt : Nat → Int64} {pen : Int32} {last : Int32} {below : Int64} {k : Int32}   : MM Z yX3_ring cX3_ring 2 (some .int) 4 [.ref (Z.2.2 0), .int k] (wC Z (nI m) toll paid coin debt fall shr mat rgt pen last below) (some (.int (fgo debt k 20 0 0))) (wC Z (nI m) toll paid coin debt fall shr mat rgt pen last below) := by
  refine MM.intro (by decide) [some (.ref (Z.2.2 0)), some (.int k)] rfl (Nat.le_of_ble_eq_true rfl) (fun X (h : OK Z X cX3_ring RX3 2 (rmd 4)) hr => ?_)
  refine g_aload_n (i := 0) h dX3_ring_0 rfl rfl (pc' := 1) rfl ?_
  refine gf_X3_28 h dX3_ring_1 (pc' := 4) rfl ?_
  refine g_iload_n (i := 1) h dX3_ring_4 rfl rfl (pc' := 5) rfl ?_
  refine g_callV1 (q0 := 3) h dX3_ring_5 cf_X3_126 (M_X2_figuresOf (q := k) ) rfl rfl rfl rfl (by decide) rfl (Nat.le_of_ble_eq_true rfl) (pc' := 8) rfl ?_
  exact g_iret h hr dX3_ring_8 rfl rfl
set_option maxRecDepth 20000 in
set_option maxHeartbeats 4000000 in
theorem M_cancel_none {Z : ZT} {m : Nat} {toll : Int32} {paid : Int32} {coin : Nat → Int32} {debt : Nat → Int32} {fall : Nat → Int32} {shr : Nat → Int64} {mat : Nat → Int64} {rgt : Nat → Int64} {pen : Int32} {last : Int32} {below : Int64}   (g0 : fr debt = none) : MM Z yX3_cancel cX3_cancel 2 (some .int) 4 [.ref (Z.2.2 0)] (wC Z (nI m) toll paid coin debt fall shr mat rgt pen last below) (some (.int (nI 0))) (wC Z (nI m) toll paid coin debt fall shr mat rgt pen last below) := by
  refine MM.intro (by decide) [some (.ref (Z.2.2 0)), none] rfl (Nat.le_of_ble_eq_true rfl) (fun X (h : OK Z X cX3_cancel RX3 2 (rmd 4)) hr => ?_)
  refine g_aload_n (i := 0) h dX3_cancel_0 rfl rfl (pc' := 1) rfl ?_
  refine gf_X3_28 h dX3_cancel_1 (pc' := 4) rfl ?_
  refine g_iconst (v := nI 0) h dX3_cancel_4 (by decide) (pc' := 5) rfl ?_
  refine g_callV1 (q0 := 3) h dX3_cancel_5 cf_X3_126 (M_X2_fig_none  g0) rfl rfl rfl rfl (by decide) rfl (Nat.le_of_ble_eq_true rfl) (pc' := 8) rfl ?_
  refine g_istore1 h dX3_cancel_8 rfl (by decide) (pc' := 9) rfl ?_
  refine g_iload_n (i := 1) h dX3_cancel_9 rfl rfl (pc' := 10) rfl ?_
  refine g_iconst (v := (-1)) h dX3_cancel_10 (by decide) (pc' := 11) rfl ?_
  refine g_icmp_neF (tg := 18) h dX3_cancel_11 (by decide) (pc' := 14) rfl rfl ?_
  refine g_iconst (v := nI 0) h dX3_cancel_14 (by decide) (pc' := 15) rfl ?_
  refine g_goto (pc' := 26) h dX3_cancel_15 (by decide) ?_
  exact g_iret h hr dX3_cancel_26 rfl rfl
theorem fg_ne : ∀ k, k < 20 → ¬ nI (fg k) = (-1) := by decide
set_option maxRecDepth 20000 in
set_option maxHeartbeats 4000000 in
theorem M_cancel {Z : ZT} {m : Nat} {toll : Int32} {paid : Int32} {coin : Nat → Int32} {debt : Nat → Int32} {fall : Nat → Int32} {shr : Nat → Int64} {mat : Nat → Int64} {rgt : Nat → Int64} {pen : Int32} {last : Int32} {below : Int64}  {q1 : Nat} (g0 : fr debt = some q1) : MM Z yX3_cancel cX3_cancel 2 (some .int) 4 [.ref (Z.2.2 0)] (wC Z (nI m) toll paid coin debt fall shr mat rgt pen last below) (some (.int (lm (debt) (fg q1) (sz (fg q1))))) (wC Z (nI m) toll paid coin (ls debt (fg q1) (lm (debt) (fg q1) (sz (fg q1))) (sz (fg q1))) fall shr mat rgt pen last below) := by
  refine MM.intro (by decide) [some (.ref (Z.2.2 0)), none] rfl (Nat.le_of_ble_eq_true rfl) (fun X (h : OK Z X cX3_cancel RX3 2 (rmd 4)) hr => ?_)
  refine g_aload_n (i := 0) h dX3_cancel_0 rfl rfl (pc' := 1) rfl ?_
  refine gf_X3_28 h dX3_cancel_1 (pc' := 4) rfl ?_
  refine g_iconst (v := nI 0) h dX3_cancel_4 (by decide) (pc' := 5) rfl ?_
  refine g_callV1 (q0 := 3) h dX3_cancel_5 cf_X3_126 (M_X2_fig_some  g0) rfl rfl rfl rfl (by decide) rfl (Nat.le_of_ble_eq_true rfl) (pc' := 8) rfl ?_
  refine g_istore1 h dX3_cancel_8 rfl (by decide) (pc' := 9) rfl ?_
  refine g_iload_n (i := 1) h dX3_cancel_9 rfl rfl (pc' := 10) rfl ?_
  refine g_iconst (v := (-1)) h dX3_cancel_10 (by decide) (pc' := 11) rfl ?_
  refine g_icmp_neT (tg := 18) h dX3_cancel_11 (by decide) (fg_ne _ (fr_lt g0)) ?_
  refine g_aload_n (i := 0) h dX3_cancel_18 rfl rfl (pc' := 19) rfl ?_
  refine gf_X3_28 h dX3_cancel_19 (pc' := 22) rfl ?_
  refine g_iload_n (i := 1) h dX3_cancel_22 rfl rfl (pc' := 23) rfl ?_
  refine g_callV1 (q0 := 3) h dX3_cancel_23 cf_X3_129 (M_X2_lessen (g := fg q1) (ok_fg _ (fr_lt g0)).1 (ok_fg _ (fr_lt g0)).2.1 (ok_fg _ (fr_lt g0)).2.2) rfl rfl rfl rfl (by decide) rfl (Nat.le_of_ble_eq_true rfl) (pc' := 26) rfl ?_
  exact g_iret h hr dX3_cancel_26 rfl rfl
set_option maxRecDepth 20000 in
set_option maxHeartbeats 4000000 in
theorem M_cancelAll {Z : ZT} {m : Nat} {toll : Int32} {paid : Int32} {coin : Nat → Int32} {debt : Nat → Int32} {fall : Nat → Int32} {shr : Nat → Int64} {mat : Nat → Int64} {rgt : Nat → Int64} {pen : Int32} {last : Int32} {below : Int64}    : MM Z yX3_cancelAll cX3_cancelAll 5 (some .int) 4 [.ref (Z.2.2 0)] (wC Z (nI m) toll paid coin debt fall shr mat rgt pen last below) (some (.int ((caC 20 debt (nI 0)).1))) (wC Z (nI m) toll paid coin ((caC 20 debt (nI 0)).2) fall shr mat rgt pen last below) := by
  refine MM.intro (by decide) [some (.ref (Z.2.2 0)), none, none, none, none] rfl (Nat.le_of_ble_eq_true rfl) (fun X (h : OK Z X cX3_cancelAll RX3 5 (rmd 4)) hr => ?_)
  refine g_iconst (v := nI 0) h dX3_cancelAll_0 (by decide) (pc' := 1) rfl ?_
  refine g_istore1 h dX3_cancelAll_1 rfl (by decide) (pc' := 2) rfl ?_
  refine g_iconst (v := nI 0) h dX3_cancelAll_2 (by decide) (pc' := 3) rfl ?_
  refine g_istore2 h dX3_cancelAll_3 rfl (by decide) (pc' := 4) rfl ?_
  have key4 : ∀ (k : Nat) (j : Nat) (d : Nat → Int32) (a : Int32), (j + k = 20) → (caC 20 debt (nI 0) = caC k d a) → GG Z X 4 [some (.ref (Z.2.2 0)), some (.int a), some (.int (nI j)), none, none] [] (wC Z (nI m) toll paid coin d fall shr mat rgt pen last below) := by
    intro k
    induction k with
    | zero =>
      intro j d a e4_0 e4_1
      refine g_iload_n (i := 2) h dX3_cancelAll_4 rfl rfl (pc' := 5) rfl ?_
      refine g_bipush (v := nI 20) h dX3_cancelAll_5 (by decide) (pc' := 7) rfl ?_
      refine g_icmp_geT (tg := 57) h dX3_cancelAll_7 (by decide) (by rw [show j = 20 by omega]; exact Int32.le_refl _) ?_
      refine g_iload_n (i := 1) h dX3_cancelAll_57 rfl rfl (pc' := 58) rfl ?_
      exact g_iret h hr dX3_cancelAll_58 (by first | rw [e4_1, caC_none hfr] | (rw [e4_1]; rfl)) (by first | rw [e4_1, caC_none hfr] | (rw [e4_1]; rfl))
    | succ k ih4 =>
      intro j d a e4_0 e4_1
      have hj : j < 20 := by omega
      refine g_iload_n (i := 2) h dX3_cancelAll_4 rfl rfl (pc' := 5) rfl ?_
      refine g_bipush (v := nI 20) h dX3_cancelAll_5 (by decide) (pc' := 7) rfl ?_
      refine g_icmp_geF (tg := 57) h dX3_cancelAll_7 (by decide) (pc' := 10) rfl (nI_ge hj (by decide)) ?_
      refine g_aload_n (i := 0) h dX3_cancelAll_10 rfl rfl (pc' := 11) rfl ?_
      refine gf_X3_28 h dX3_cancelAll_11 (pc' := 14) rfl ?_
      refine g_iconst (v := nI 0) h dX3_cancelAll_14 (by decide) (pc' := 15) rfl ?_
      rcases hfr : fr d with _ | q1
      · skip
        refine g_callV1 (q0 := 3) h dX3_cancelAll_15 cf_X3_126 (M_X2_fig_none  hfr) rfl rfl rfl rfl (by decide) rfl (Nat.le_of_ble_eq_true rfl) (pc' := 18) rfl ?_
        refine g_istore3 h dX3_cancelAll_18 rfl (by decide) (pc' := 19) rfl ?_
        refine g_iload_n (i := 3) h dX3_cancelAll_19 rfl rfl (pc' := 20) rfl ?_
        refine g_iconst (v := (-1)) h dX3_cancelAll_20 (by decide) (pc' := 21) rfl ?_
        refine g_icmp_neF (tg := 27) h dX3_cancelAll_21 (by decide) (pc' := 24) rfl rfl ?_
        refine g_goto (pc' := 57) h dX3_cancelAll_24 (by decide) ?_
        refine g_iload_n (i := 1) h dX3_cancelAll_57 rfl rfl (pc' := 58) rfl ?_
        exact g_iret h hr dX3_cancelAll_58 (by first | rw [e4_1, caC_none hfr] | (rw [e4_1]; rfl)) (by first | rw [e4_1, caC_none hfr] | (rw [e4_1]; rfl))
      · skip
        refine g_callV1 (q0 := 3) h dX3_cancelAll_15 cf_X3_126 (M_X2_fig_some  hfr) rfl rfl rfl rfl (by decide) rfl (Nat.le_of_ble_eq_true rfl) (pc' := 18) rfl ?_
        refine g_istore3 h dX3_cancelAll_18 rfl (by decide) (pc' := 19) rfl ?_
        refine g_iload_n (i := 3) h dX3_cancelAll_19 rfl rfl (pc' := 20) rfl ?_
        refine g_iconst (v := (-1)) h dX3_cancelAll_20 (by decide) (pc' := 21) rfl ?_
        refine g_icmp_neT (tg := 27) h dX3_cancelAll_21 (by decide) (fg_ne _ (fr_lt hfr)) ?_
        refine g_aload_n (i := 0) h dX3_cancelAll_27 rfl rfl (pc' := 28) rfl ?_
        refine gf_X3_28 h dX3_cancelAll_28 (pc' := 31) rfl ?_
        refine g_iload_n (i := 3) h dX3_cancelAll_31 rfl rfl (pc' := 32) rfl ?_
        refine g_callV1 (q0 := 3) h dX3_cancelAll_32 cf_X3_132 (M_X2_sizeOf (g := fg q1) (ok_fg _ (fr_lt hfr)).1 (ok_fg _ (fr_lt hfr)).2.1) rfl rfl rfl rfl (by decide) rfl (Nat.le_of_ble_eq_true rfl) (pc' := 35) rfl ?_
        refine g_istore4 h dX3_cancelAll_35 rfl (by decide) (pc' := 37) rfl ?_
        refine g_iload_n (i := 1) h dX3_cancelAll_37 rfl rfl (pc' := 38) rfl ?_
        refine g_iload h dX3_cancelAll_38 rfl (pc' := 40) rfl ?_
        refine g_aload_n (i := 0) h dX3_cancelAll_40 rfl rfl (pc' := 41) rfl ?_
        refine gf_X3_28 h dX3_cancelAll_41 (pc' := 44) rfl ?_
        refine g_iload_n (i := 3) h dX3_cancelAll_44 rfl rfl (pc' := 45) rfl ?_
        refine g_callV1 (q0 := 3) h dX3_cancelAll_45 cf_X3_129 (M_X2_lessen (g := fg q1) (ok_fg _ (fr_lt hfr)).1 (ok_fg _ (fr_lt hfr)).2.1 (ok_fg _ (fr_lt hfr)).2.2) rfl rfl rfl rfl (by decide) rfl (Nat.le_of_ble_eq_true rfl) (pc' := 48) rfl ?_
        refine g_imul h dX3_cancelAll_48 (pc' := 49) rfl ?_
        refine g_iadd h dX3_cancelAll_49 (pc' := 50) rfl ?_
        refine g_istore1 h dX3_cancelAll_50 rfl (by decide) (pc' := 51) rfl ?_
        refine g_iinc2 (v := nI (j + 1)) h dX3_cancelAll_51 rfl (inc1 j) (by decide) (pc' := 54) rfl ?_
        refine g_goto (pc' := 4) h dX3_cancelAll_54 (by decide) ?_
        exact GG.castW (ih4 (j + 1) (ls d (fg q1) (lm d (fg q1) (sz (fg q1))) (sz (fg q1))) (a + nI (sz (fg q1)) * lm d (fg q1) (sz (fg q1))) (by omega) (e4_1.trans (caC_some hfr))) ⟨rfl, rfl, rfl, trivial⟩ rfl rfl
  exact GG.castW (key4 20 0 debt (nI 0) rfl rfl) ⟨rfl, rfl, rfl, trivial⟩ rfl rfl
set_option maxRecDepth 20000 in
set_option maxHeartbeats 4000000 in
theorem M_day {Z : ZT} {m : Nat} {toll : Int32} {paid : Int32} {coin : Nat → Int32} {debt : Nat → Int32} {fall : Nat → Int32} {shr : Nat → Int64} {mat : Nat → Int64} {rgt : Nat → Int64} {pen : Int32} {last : Int32} {below : Int64}    : MM Z yX3_day cX3_day 1 (some .int) 4 [.ref (Z.2.2 0)] (wC Z (nI m) toll paid coin debt fall shr mat rgt pen last below) (some (.int (nI ((pDay 4 (0, paid, coin, debt)).1)))) (wC Z (nI m) toll ((pDay 4 (0, paid, coin, debt)).2.1) ((pDay 4 (0, paid, coin, debt)).2.2.1) ((pDay 4 (0, paid, coin, debt)).2.2.2) fall shr mat rgt pen last below) := by
  refine MM.intro (by decide) [some (.ref (Z.2.2 0))] rfl (Nat.le_of_ble_eq_true rfl) (fun X (h : OK Z X cX3_day RX3 1 (rmd 4)) hr => ?_)
  refine g_aload_n (i := 0) h dX3_day_0 rfl rfl (pc' := 1) rfl ?_
  refine gf_X3_10 h dX3_day_1 (pc' := 4) rfl ?_
  refine g_callV1 (q0 := 1) h dX3_day_4 cf_X3_135 (M_X0_passDay  ) rfl rfl rfl rfl (by decide) rfl (Nat.le_of_ble_eq_true rfl) (pc' := 7) rfl ?_
  exact g_iret h hr dX3_day_7 rfl rfl
set_option maxRecDepth 20000 in
set_option maxHeartbeats 4000000 in
theorem M_days {Z : ZT} {m : Nat} {toll : Int32} {paid : Int32} {coin : Nat → Int32} {debt : Nat → Int32} {fall : Nat → Int32} {shr : Nat → Int64} {mat : Nat → Int64} {rgt : Nat → Int64} {pen : Int32} {last : Int32} {below : Int64}    : MM Z yX3_days cX3_days 2 (some .int) 4 [.ref (Z.2.2 0)] (wC Z (nI m) toll paid coin debt fall shr mat rgt pen last below) (some (.int (nI ((dyl 20 0 (paid, coin, debt)).1)))) (wC Z (nI m) toll ((dyl 20 0 (paid, coin, debt)).2.1) ((dyl 20 0 (paid, coin, debt)).2.2.1) ((dyl 20 0 (paid, coin, debt)).2.2.2) fall shr mat rgt pen last below) := by
  refine MM.intro (by decide) [some (.ref (Z.2.2 0)), none] rfl (Nat.le_of_ble_eq_true rfl) (fun X (h : OK Z X cX3_days RX3 2 (rmd 4)) hr => ?_)
  refine g_iconst (v := nI 0) h dX3_days_0 (by decide) (pc' := 1) rfl ?_
  refine g_istore1 h dX3_days_1 rfl (by decide) (pc' := 2) rfl ?_
  have key2 : ∀ (k : Nat) (c : Nat) (s : sT), (c + k = 20) → (dyl 20 0 (paid, coin, debt) = dyl k c s) → GG Z X 2 [some (.ref (Z.2.2 0)), some (.int (nI c))] [] (wC Z (nI m) toll s.1 s.2.1 s.2.2 fall shr mat rgt pen last below) := by
    intro k
    induction k with
    | zero =>
      intro c s e2_0 e2_1
      refine g_iload_n (i := 1) h dX3_days_2 rfl rfl (pc' := 3) rfl ?_
      refine g_bipush (v := nI 20) h dX3_days_3 (by decide) (pc' := 5) rfl ?_
      refine g_icmp_geT (tg := 24) h dX3_days_5 (by decide) (by rw [show c = 20 by omega]; exact Int32.le_refl _) ?_
      refine g_iload_n (i := 1) h dX3_days_24 rfl rfl (pc' := 25) rfl ?_
      exact g_iret h hr dX3_days_25 (by rw [e2_1]; simp only [dyl, ]) (by rw [e2_1]; simp only [dyl, ])
    | succ k ih2 =>
      intro c s e2_0 e2_1
      have hj : c < 20 := by omega
      refine g_iload_n (i := 1) h dX3_days_2 rfl rfl (pc' := 3) rfl ?_
      refine g_bipush (v := nI 20) h dX3_days_3 (by decide) (pc' := 5) rfl ?_
      refine g_icmp_geF (tg := 24) h dX3_days_5 (by decide) (pc' := 8) rfl (nI_ge hj (by decide)) ?_
      refine g_aload_n (i := 0) h dX3_days_8 rfl rfl (pc' := 9) rfl ?_
      refine gf_X3_10 h dX3_days_9 (pc' := 12) rfl ?_
      refine g_callV1 (q0 := 1) h dX3_days_12 cf_X3_135 (M_X0_passDay  ) rfl rfl rfl rfl (by decide) rfl (Nat.le_of_ble_eq_true rfl) (pc' := 15) rfl ?_
      refine g_if_le (tg := 24) h dX3_days_15 (by decide) (pc' := 18) rfl (fun c1 => ?_) (fun c1 => ?_)
      · skip
        refine g_iload_n (i := 1) h dX3_days_24 rfl rfl (pc' := 25) rfl ?_
        exact g_iret h hr dX3_days_25 (by rw [e2_1]; simp only [dyl, if_pos c1]) (by rw [e2_1]; simp only [dyl, if_pos c1])
      · skip
        refine g_iinc1 (v := nI (c + 1)) h dX3_days_18 rfl (inc1 c) (by decide) (pc' := 21) rfl ?_
        refine g_goto (pc' := 2) h dX3_days_21 (by decide) ?_
        exact GG.castW (ih2 (c + 1) (pDay 4 (0, s.1, s.2.1, s.2.2)).2 (by omega) (e2_1.trans (if_neg c1))) ⟨rfl, rfl, trivial⟩ rfl rfl
  exact GG.castW (key2 20 0 (paid, coin, debt) rfl rfl) ⟨rfl, rfl, trivial⟩ rfl rfl
set_option maxRecDepth 20000 in
set_option maxHeartbeats 4000000 in
theorem M_count_0 {Z : ZT} {m : Nat} {toll : Int32} {paid : Int32} {coin : Nat → Int32} {debt : Nat → Int32} {fall : Nat → Int32} {shr : Nat → Int64} {mat : Nat → Int64} {rgt : Nat → Int64} {pen : Int32} {last : Int32} {below : Int64}    : MM Z yX3_count cX3_count 2 (some .int) 4 [.ref (Z.2.2 0), .int (nI 0)] (wC Z (nI m) toll paid coin debt fall shr mat rgt pen last below) (some (.int (nI m))) (wC Z (nI m) toll paid coin debt fall shr mat rgt pen last below) := by
  refine MM.intro (by decide) [some (.ref (Z.2.2 0)), some (.int (nI 0))] rfl (Nat.le_of_ble_eq_true rfl) (fun X (h : OK Z X cX3_count RX3 2 (rmd 4)) hr => ?_)
  refine g_iload_n (i := 1) h dX3_count_0 rfl rfl (pc' := 1) rfl ?_
  refine g_tabIn (off := 43) (tg := 44) h dX3_count_1 (by decide) (by decide) (by decide) (by decide) ?_
  refine g_aload_n (i := 0) h dX3_count_44 rfl rfl (pc' := 45) rfl ?_
  refine gf_X3_10 h dX3_count_45 (pc' := 48) rfl ?_
  refine gf_X3_116 h dX3_count_48 (pc' := 51) rfl ?_
  exact g_iret h hr dX3_count_51 rfl rfl
set_option maxRecDepth 20000 in
set_option maxHeartbeats 4000000 in
theorem M_count_1 {Z : ZT} {m : Nat} {toll : Int32} {paid : Int32} {coin : Nat → Int32} {debt : Nat → Int32} {fall : Nat → Int32} {shr : Nat → Int64} {mat : Nat → Int64} {rgt : Nat → Int64} {pen : Int32} {last : Int32} {below : Int64}    : MM Z yX3_count cX3_count 2 (some .int) 4 [.ref (Z.2.2 0), .int (nI 1)] (wC Z (nI m) toll paid coin debt fall shr mat rgt pen last below) (some (.int toll)) (wC Z (nI m) toll paid coin debt fall shr mat rgt pen last below) := by
  refine MM.intro (by decide) [some (.ref (Z.2.2 0)), some (.int (nI 1))] rfl (Nat.le_of_ble_eq_true rfl) (fun X (h : OK Z X cX3_count RX3 2 (rmd 4)) hr => ?_)
  refine g_iload_n (i := 1) h dX3_count_0 rfl rfl (pc' := 1) rfl ?_
  refine g_tabIn (off := 51) (tg := 52) h dX3_count_1 (by decide) (by decide) (by decide) (by decide) ?_
  refine g_aload_n (i := 0) h dX3_count_52 rfl rfl (pc' := 53) rfl ?_
  refine gf_X3_10 h dX3_count_53 (pc' := 56) rfl ?_
  refine gf_X3_62 h dX3_count_56 (pc' := 59) rfl ?_
  exact g_iret h hr dX3_count_59 rfl rfl
set_option maxRecDepth 20000 in
set_option maxHeartbeats 4000000 in
theorem M_count_2 {Z : ZT} {m : Nat} {toll : Int32} {paid : Int32} {coin : Nat → Int32} {debt : Nat → Int32} {fall : Nat → Int32} {shr : Nat → Int64} {mat : Nat → Int64} {rgt : Nat → Int64} {pen : Int32} {last : Int32} {below : Int64}    : MM Z yX3_count cX3_count 2 (some .int) 4 [.ref (Z.2.2 0), .int (nI 2)] (wC Z (nI m) toll paid coin debt fall shr mat rgt pen last below) (some (.int (sI coin 4))) (wC Z (nI m) toll paid coin debt fall shr mat rgt pen last below) := by
  refine MM.intro (by decide) [some (.ref (Z.2.2 0)), some (.int (nI 2))] rfl (Nat.le_of_ble_eq_true rfl) (fun X (h : OK Z X cX3_count RX3 2 (rmd 4)) hr => ?_)
  refine g_iload_n (i := 1) h dX3_count_0 rfl rfl (pc' := 1) rfl ?_
  refine g_tabIn (off := 59) (tg := 60) h dX3_count_1 (by decide) (by decide) (by decide) (by decide) ?_
  refine g_aload_n (i := 0) h dX3_count_60 rfl rfl (pc' := 61) rfl ?_
  refine gf_X3_10 h dX3_count_61 (pc' := 64) rfl ?_
  refine g_callV1 (q0 := 1) h dX3_count_64 cf_X3_138 (M_X0_allCoins  ) rfl rfl rfl rfl (by decide) rfl (Nat.le_of_ble_eq_true rfl) (pc' := 67) rfl ?_
  exact g_iret h hr dX3_count_67 rfl rfl
set_option maxRecDepth 20000 in
set_option maxHeartbeats 4000000 in
theorem M_count_3 {Z : ZT} {m : Nat} {toll : Int32} {paid : Int32} {coin : Nat → Int32} {debt : Nat → Int32} {fall : Nat → Int32} {shr : Nat → Int64} {mat : Nat → Int64} {rgt : Nat → Int64} {pen : Int32} {last : Int32} {below : Int64}    : MM Z yX3_count cX3_count 2 (some .int) 4 [.ref (Z.2.2 0), .int (nI 3)] (wC Z (nI m) toll paid coin debt fall shr mat rgt pen last below) (some (.int (sI (oB debt) 4))) (wC Z (nI m) toll paid coin debt fall shr mat rgt pen last below) := by
  refine MM.intro (by decide) [some (.ref (Z.2.2 0)), some (.int (nI 3))] rfl (Nat.le_of_ble_eq_true rfl) (fun X (h : OK Z X cX3_count RX3 2 (rmd 4)) hr => ?_)
  refine g_iload_n (i := 1) h dX3_count_0 rfl rfl (pc' := 1) rfl ?_
  refine g_tabIn (off := 67) (tg := 68) h dX3_count_1 (by decide) (by decide) (by decide) (by decide) ?_
  refine g_aload_n (i := 0) h dX3_count_68 rfl rfl (pc' := 69) rfl ?_
  refine gf_X3_10 h dX3_count_69 (pc' := 72) rfl ?_
  refine g_callV1 (q0 := 1) h dX3_count_72 cf_X3_141 (M_X0_allDebts  ) rfl rfl rfl rfl (by decide) rfl (Nat.le_of_ble_eq_true rfl) (pc' := 75) rfl ?_
  exact g_iret h hr dX3_count_75 rfl rfl
set_option maxRecDepth 20000 in
set_option maxHeartbeats 4000000 in
theorem M_count_4 {Z : ZT} {m : Nat} {toll : Int32} {paid : Int32} {coin : Nat → Int32} {debt : Nat → Int32} {fall : Nat → Int32} {shr : Nat → Int64} {mat : Nat → Int64} {rgt : Nat → Int64} {pen : Int32} {last : Int32} {below : Int64}    : MM Z yX3_count cX3_count 2 (some .int) 4 [.ref (Z.2.2 0), .int (nI 4)] (wC Z (nI m) toll paid coin debt fall shr mat rgt pen last below) (some (.int (oT debt 4))) (wC Z (nI m) toll paid coin debt fall shr mat rgt pen last below) := by
  refine MM.intro (by decide) [some (.ref (Z.2.2 0)), some (.int (nI 4))] rfl (Nat.le_of_ble_eq_true rfl) (fun X (h : OK Z X cX3_count RX3 2 (rmd 4)) hr => ?_)
  refine g_iload_n (i := 1) h dX3_count_0 rfl rfl (pc' := 1) rfl ?_
  refine g_tabIn (off := 75) (tg := 76) h dX3_count_1 (by decide) (by decide) (by decide) (by decide) ?_
  refine g_aload_n (i := 0) h dX3_count_76 rfl rfl (pc' := 77) rfl ?_
  refine gf_X3_10 h dX3_count_77 (pc' := 80) rfl ?_
  refine g_iconst (v := nI 4) h dX3_count_80 (by decide) (pc' := 81) rfl ?_
  refine g_callV1 (q0 := 1) h dX3_count_81 cf_X3_119 (M_X0_allOwedTo (c := 4) (by omega)) rfl rfl rfl rfl (by decide) rfl (Nat.le_of_ble_eq_true rfl) (pc' := 84) rfl ?_
  exact g_iret h hr dX3_count_84 rfl rfl
set_option maxRecDepth 20000 in
set_option maxHeartbeats 4000000 in
theorem M_count_5 {Z : ZT} {m : Nat} {toll : Int32} {paid : Int32} {coin : Nat → Int32} {debt : Nat → Int32} {fall : Nat → Int32} {shr : Nat → Int64} {mat : Nat → Int64} {rgt : Nat → Int64} {pen : Int32} {last : Int32} {below : Int64}    : MM Z yX3_count cX3_count 2 (some .int) 4 [.ref (Z.2.2 0), .int (nI 5)] (wC Z (nI m) toll paid coin debt fall shr mat rgt pen last below) (some (.int (nI (dC debt 4)))) (wC Z (nI m) toll paid coin debt fall shr mat rgt pen last below) := by
  refine MM.intro (by decide) [some (.ref (Z.2.2 0)), some (.int (nI 5))] rfl (Nat.le_of_ble_eq_true rfl) (fun X (h : OK Z X cX3_count RX3 2 (rmd 4)) hr => ?_)
  refine g_iload_n (i := 1) h dX3_count_0 rfl rfl (pc' := 1) rfl ?_
  refine g_tabIn (off := 84) (tg := 85) h dX3_count_1 (by decide) (by decide) (by decide) (by decide) ?_
  refine g_aload_n (i := 0) h dX3_count_85 rfl rfl (pc' := 86) rfl ?_
  refine gf_X3_10 h dX3_count_86 (pc' := 89) rfl ?_
  refine g_callV1 (q0 := 1) h dX3_count_89 cf_X3_144 (M_X0_debtorCount  ) rfl rfl rfl rfl (by decide) rfl (Nat.le_of_ble_eq_true rfl) (pc' := 92) rfl ?_
  exact g_iret h hr dX3_count_92 rfl rfl
set_option maxRecDepth 20000 in
set_option maxHeartbeats 4000000 in
theorem M_count_6 {Z : ZT} {m : Nat} {toll : Int32} {paid : Int32} {coin : Nat → Int32} {debt : Nat → Int32} {fall : Nat → Int32} {shr : Nat → Int64} {mat : Nat → Int64} {rgt : Nat → Int64} {pen : Int32} {last : Int32} {below : Int64}    : MM Z yX3_count cX3_count 2 (some .int) 4 [.ref (Z.2.2 0), .int (nI 6)] (wC Z (nI m) toll paid coin debt fall shr mat rgt pen last below) (some (.int paid)) (wC Z (nI m) toll paid coin debt fall shr mat rgt pen last below) := by
  refine MM.intro (by decide) [some (.ref (Z.2.2 0)), some (.int (nI 6))] rfl (Nat.le_of_ble_eq_true rfl) (fun X (h : OK Z X cX3_count RX3 2 (rmd 4)) hr => ?_)
  refine g_iload_n (i := 1) h dX3_count_0 rfl rfl (pc' := 1) rfl ?_
  refine g_tabIn (off := 92) (tg := 93) h dX3_count_1 (by decide) (by decide) (by decide) (by decide) ?_
  refine g_aload_n (i := 0) h dX3_count_93 rfl rfl (pc' := 94) rfl ?_
  refine gf_X3_10 h dX3_count_94 (pc' := 97) rfl ?_
  refine gf_X3_147 h dX3_count_97 (pc' := 100) rfl ?_
  exact g_iret h hr dX3_count_100 rfl rfl
set_option maxRecDepth 20000 in
set_option maxHeartbeats 4000000 in
theorem M_count_O {Z : ZT} {m : Nat} {toll : Int32} {paid : Int32} {coin : Nat → Int32} {debt : Nat → Int32} {fall : Nat → Int32} {shr : Nat → Int64} {mat : Nat → Int64} {rgt : Nat → Int64} {pen : Int32} {last : Int32} {below : Int64} {v : Int32}  (g0 : v.toInt < 0 ∨ 6 < v.toInt) : MM Z yX3_count cX3_count 2 (some .int) 4 [.ref (Z.2.2 0), .int v] (wC Z (nI m) toll paid coin debt fall shr mat rgt pen last below) (some (.int (-102))) (wC Z (nI m) toll paid coin debt fall shr mat rgt pen last below) := by
  refine MM.intro (by decide) [some (.ref (Z.2.2 0)), some (.int v)] rfl (Nat.le_of_ble_eq_true rfl) (fun X (h : OK Z X cX3_count RX3 2 (rmd 4)) hr => ?_)
  refine g_iload_n (i := 1) h dX3_count_0 rfl rfl (pc' := 1) rfl ?_
  refine g_tabOut (tg := 101) h dX3_count_1 g0 (by decide) ?_
  refine g_bipush (v := (-102)) h dX3_count_101 (by decide) (pc' := 103) rfl ?_
  exact g_iret h hr dX3_count_103 rfl rfl
set_option maxRecDepth 20000 in
set_option maxHeartbeats 4000000 in
theorem M_digest {Z : ZT} {m : Nat} {toll : Int32} {paid : Int32} {coin : Nat → Int32} {debt : Nat → Int32} {fall : Nat → Int32} {shr : Nat → Int64} {mat : Nat → Int64} {rgt : Nat → Int64} {pen : Int32} {last : Int32} {below : Int64}   (g0 : m ≤ 4) : MM Z yX3_digest cX3_digest 5 (some .long) 6 [.ref (Z.2.2 0)] (wC Z (nI m) toll paid coin debt fall shr mat rgt pen last below) (some (.long (31 * dg3 (cst toll (-1) coin debt fall shr mat rgt) (dg2 m coin debt (31 * (31 * 173 + (nI m).toInt64) + toll.toInt64) m) m + paid.toInt64))) (wC Z (nI m) toll paid coin debt ((cst toll (-1) coin debt fall shr mat rgt).1) ((cst toll (-1) coin debt fall shr mat rgt).2.1) ((cst toll (-1) coin debt fall shr mat rgt).2.2.1) ((cst toll (-1) coin debt fall shr mat rgt).2.2.2.1) (-1) ((cst toll (-1) coin debt fall shr mat rgt).2.2.2.2.1) ((cst toll (-1) coin debt fall shr mat rgt).2.2.2.2.2)) := by
  refine MM.intro (by decide) [some (.ref (Z.2.2 0)), none, none, none, none] rfl (Nat.le_of_ble_eq_true rfl) (fun X (h : OK Z X cX3_digest RX3 5 (rmd 6)) hr => ?_)
  refine g_ldc2 h dX3_digest_0 co_X3_150 (pc' := 3) rfl ?_
  refine g_lstore1 h dX3_digest_3 rfl (by decide) (pc' := 4) rfl ?_
  refine g_ldc2 h dX3_digest_4 co_X3_152 (pc' := 7) rfl ?_
  refine g_lload_n (i := 1) h dX3_digest_7 rfl rfl (pc' := 8) rfl ?_
  refine g_lmul h dX3_digest_8 (pc' := 9) rfl ?_
  refine g_aload_n (i := 0) h dX3_digest_9 rfl rfl (pc' := 10) rfl ?_
  refine gf_X3_10 h dX3_digest_10 (pc' := 13) rfl ?_
  refine gf_X3_116 h dX3_digest_13 (pc' := 16) rfl ?_
  refine g_i2l h dX3_digest_16 (pc' := 17) rfl ?_
  refine g_ladd h dX3_digest_17 (pc' := 18) rfl ?_
  refine g_lstore1 h dX3_digest_18 rfl (by decide) (pc' := 19) rfl ?_
  refine g_ldc2 h dX3_digest_19 co_X3_152 (pc' := 22) rfl ?_
  refine g_lload_n (i := 1) h dX3_digest_22 rfl rfl (pc' := 23) rfl ?_
  refine g_lmul h dX3_digest_23 (pc' := 24) rfl ?_
  refine g_aload_n (i := 0) h dX3_digest_24 rfl rfl (pc' := 25) rfl ?_
  refine gf_X3_10 h dX3_digest_25 (pc' := 28) rfl ?_
  refine gf_X3_62 h dX3_digest_28 (pc' := 31) rfl ?_
  refine g_i2l h dX3_digest_31 (pc' := 32) rfl ?_
  refine g_ladd h dX3_digest_32 (pc' := 33) rfl ?_
  refine g_lstore1 h dX3_digest_33 rfl (by decide) (pc' := 34) rfl ?_
  refine g_iconst (v := nI 0) h dX3_digest_34 (by decide) (pc' := 35) rfl ?_
  refine g_istore3 h dX3_digest_35 rfl (by decide) (pc' := 36) rfl ?_
  refine GG.castW (lp (P := fun i => GG Z X 36 [some (.ref (Z.2.2 0)), some (.long (dg2 m coin debt (31 * (31 * 173 + (nI m).toInt64) + toll.toInt64) i)), none, some (.int (nI i)), none] [] (wC Z (nI m) toll paid coin debt fall shr mat rgt pen last below)) m ?_ ?_) ⟨rfl, rfl, rfl, trivial⟩ rfl rfl
  · skip
    refine g_iload_n (i := 3) h dX3_digest_36 rfl rfl (pc' := 37) rfl ?_
    refine g_aload_n (i := 0) h dX3_digest_37 rfl rfl (pc' := 38) rfl ?_
    refine gf_X3_10 h dX3_digest_38 (pc' := 41) rfl ?_
    refine gf_X3_116 h dX3_digest_41 (pc' := 44) rfl ?_
    refine g_icmp_geT (tg := 125) h dX3_digest_44 (by decide) (Int32.le_refl _) ?_
    refine g_aload_n (i := 0) h dX3_digest_125 rfl rfl (pc' := 126) rfl ?_
    refine gf_X3_21 h dX3_digest_126 (pc' := 129) rfl ?_
    refine g_iconst (v := (-1)) h dX3_digest_129 (by decide) (pc' := 130) rfl ?_
    refine g_callV0 (q0 := 2) h dX3_digest_130 cf_X3_69 (M_X1_settle (p := (-1)) ) rfl rfl rfl rfl (by decide) rfl (Nat.le_of_ble_eq_true rfl) (pc' := 133) rfl ?_
    refine g_iconst (v := nI 0) h dX3_digest_133 (by decide) (pc' := 134) rfl ?_
    refine g_istore3 h dX3_digest_134 rfl (by decide) (pc' := 135) rfl ?_
    refine GG.castW (lp (P := fun i => GG Z X 135 [some (.ref (Z.2.2 0)), some (.long (dg3 (cst toll (-1) coin debt fall shr mat rgt) (dg2 m coin debt (31 * (31 * 173 + (nI m).toInt64) + toll.toInt64) m) i)), none, some (.int (nI i)), none] [] (wC Z (nI m) toll paid coin debt ((cst toll (-1) coin debt fall shr mat rgt).1) ((cst toll (-1) coin debt fall shr mat rgt).2.1) ((cst toll (-1) coin debt fall shr mat rgt).2.2.1) ((cst toll (-1) coin debt fall shr mat rgt).2.2.2.1) (-1) ((cst toll (-1) coin debt fall shr mat rgt).2.2.2.2.1) ((cst toll (-1) coin debt fall shr mat rgt).2.2.2.2.2))) m ?_ ?_) ⟨rfl, rfl, rfl, trivial⟩ rfl rfl
    · skip
      refine g_iload_n (i := 3) h dX3_digest_135 rfl rfl (pc' := 136) rfl ?_
      refine g_aload_n (i := 0) h dX3_digest_136 rfl rfl (pc' := 137) rfl ?_
      refine gf_X3_10 h dX3_digest_137 (pc' := 140) rfl ?_
      refine gf_X3_116 h dX3_digest_140 (pc' := 143) rfl ?_
      refine g_icmp_geT (tg := 220) h dX3_digest_143 (by decide) (Int32.le_refl _) ?_
      refine g_ldc2 h dX3_digest_220 co_X3_152 (pc' := 223) rfl ?_
      refine g_lload_n (i := 1) h dX3_digest_223 rfl rfl (pc' := 224) rfl ?_
      refine g_lmul h dX3_digest_224 (pc' := 225) rfl ?_
      refine g_aload_n (i := 0) h dX3_digest_225 rfl rfl (pc' := 226) rfl ?_
      refine gf_X3_10 h dX3_digest_226 (pc' := 229) rfl ?_
      refine gf_X3_147 h dX3_digest_229 (pc' := 232) rfl ?_
      refine g_i2l h dX3_digest_232 (pc' := 233) rfl ?_
      refine g_ladd h dX3_digest_233 (pc' := 234) rfl ?_
      exact g_lret h hr dX3_digest_234 rfl rfl
    · intro i hi ih135
      refine g_iload_n (i := 3) h dX3_digest_135 rfl rfl (pc' := 136) rfl ?_
      refine g_aload_n (i := 0) h dX3_digest_136 rfl rfl (pc' := 137) rfl ?_
      refine gf_X3_10 h dX3_digest_137 (pc' := 140) rfl ?_
      refine gf_X3_116 h dX3_digest_140 (pc' := 143) rfl ?_
      refine g_icmp_geF (tg := 220) h dX3_digest_143 (by decide) (pc' := 146) rfl (nI_ge hi (by omega)) ?_
      refine g_ldc2 h dX3_digest_146 co_X3_152 (pc' := 149) rfl ?_
      refine g_lload_n (i := 1) h dX3_digest_149 rfl rfl (pc' := 150) rfl ?_
      refine g_lmul h dX3_digest_150 (pc' := 151) rfl ?_
      refine g_aload_n (i := 0) h dX3_digest_151 rfl rfl (pc' := 152) rfl ?_
      refine gf_X3_21 h dX3_digest_152 (pc' := 155) rfl ?_
      refine g_iload_n (i := 3) h dX3_digest_155 rfl rfl (pc' := 156) rfl ?_
      refine g_callV1 (q0 := 2) h dX3_digest_156 cf_X3_72 (M_X1_roundOfFall (i := i) (by omega)) rfl rfl rfl rfl (by decide) rfl (Nat.le_of_ble_eq_true rfl) (pc' := 159) rfl ?_
      refine g_i2l h dX3_digest_159 (pc' := 160) rfl ?_
      refine g_ladd h dX3_digest_160 (pc' := 161) rfl ?_
      refine g_lstore1 h dX3_digest_161 rfl (by decide) (pc' := 162) rfl ?_
      refine g_ldc2 h dX3_digest_162 co_X3_152 (pc' := 165) rfl ?_
      refine g_lload_n (i := 1) h dX3_digest_165 rfl rfl (pc' := 166) rfl ?_
      refine g_lmul h dX3_digest_166 (pc' := 167) rfl ?_
      refine g_aload_n (i := 0) h dX3_digest_167 rfl rfl (pc' := 168) rfl ?_
      refine gf_X3_21 h dX3_digest_168 (pc' := 171) rfl ?_
      refine g_iload_n (i := 3) h dX3_digest_171 rfl rfl (pc' := 172) rfl ?_
      refine g_callV1 (q0 := 2) h dX3_digest_172 cf_X3_85 (M_X1_shareAbove (i := i) (by omega)) rfl rfl rfl rfl (by decide) rfl (Nat.le_of_ble_eq_true rfl) (pc' := 175) rfl ?_
      refine g_aload_n (i := 0) h dX3_digest_175 rfl rfl (pc' := 176) rfl ?_
      refine gf_X3_21 h dX3_digest_176 (pc' := 179) rfl ?_
      refine gf_X3_89 h dX3_digest_179 (pc' := 182) rfl ?_
      refine g_iconst (v := nI 0) h dX3_digest_182 (by decide) (pc' := 183) rfl ?_
      refine g_callS1 h dX3_digest_183 cf_X3_93 (M_X3_lowestTerms (a := ((cst toll (-1) coin debt fall shr mat rgt).2.1) i) (b := (cst toll (-1) coin debt fall shr mat rgt).2.2.2.2.2) (p := nI 0) ) rfl (by decide) rfl (Nat.le_of_ble_eq_true rfl) (pc' := 186) rfl ?_
      refine g_ladd h dX3_digest_186 (pc' := 187) rfl ?_
      refine g_lstore1 h dX3_digest_187 rfl (by decide) (pc' := 188) rfl ?_
      refine g_ldc2 h dX3_digest_188 co_X3_152 (pc' := 191) rfl ?_
      refine g_lload_n (i := 1) h dX3_digest_191 rfl rfl (pc' := 192) rfl ?_
      refine g_lmul h dX3_digest_192 (pc' := 193) rfl ?_
      refine g_aload_n (i := 0) h dX3_digest_193 rfl rfl (pc' := 194) rfl ?_
      refine gf_X3_21 h dX3_digest_194 (pc' := 197) rfl ?_
      refine g_iload_n (i := 3) h dX3_digest_197 rfl rfl (pc' := 198) rfl ?_
      refine g_callV1 (q0 := 2) h dX3_digest_198 cf_X3_85 (M_X1_shareAbove (i := i) (by omega)) rfl rfl rfl rfl (by decide) rfl (Nat.le_of_ble_eq_true rfl) (pc' := 201) rfl ?_
      refine g_aload_n (i := 0) h dX3_digest_201 rfl rfl (pc' := 202) rfl ?_
      refine gf_X3_21 h dX3_digest_202 (pc' := 205) rfl ?_
      refine gf_X3_89 h dX3_digest_205 (pc' := 208) rfl ?_
      refine g_iconst (v := nI 1) h dX3_digest_208 (by decide) (pc' := 209) rfl ?_
      refine g_callS1 h dX3_digest_209 cf_X3_93 (M_X3_lowestTerms (a := ((cst toll (-1) coin debt fall shr mat rgt).2.1) i) (b := (cst toll (-1) coin debt fall shr mat rgt).2.2.2.2.2) (p := nI 1) ) rfl (by decide) rfl (Nat.le_of_ble_eq_true rfl) (pc' := 212) rfl ?_
      refine g_ladd h dX3_digest_212 (pc' := 213) rfl ?_
      refine g_lstore1 h dX3_digest_213 rfl (by decide) (pc' := 214) rfl ?_
      refine g_iinc3 (v := nI (i + 1)) h dX3_digest_214 rfl (inc1 i) (by decide) (pc' := 217) rfl ?_
      refine g_goto (pc' := 135) h dX3_digest_217 (by decide) ?_
      exact GG.castW ih135 ⟨rfl, rfl, rfl, trivial⟩ rfl rfl
  · intro i hi ih36
    refine g_iload_n (i := 3) h dX3_digest_36 rfl rfl (pc' := 37) rfl ?_
    refine g_aload_n (i := 0) h dX3_digest_37 rfl rfl (pc' := 38) rfl ?_
    refine gf_X3_10 h dX3_digest_38 (pc' := 41) rfl ?_
    refine gf_X3_116 h dX3_digest_41 (pc' := 44) rfl ?_
    refine g_icmp_geF (tg := 125) h dX3_digest_44 (by decide) (pc' := 47) rfl (nI_ge hi (by omega)) ?_
    refine g_ldc2 h dX3_digest_47 co_X3_152 (pc' := 50) rfl ?_
    refine g_lload_n (i := 1) h dX3_digest_50 rfl rfl (pc' := 51) rfl ?_
    refine g_lmul h dX3_digest_51 (pc' := 52) rfl ?_
    refine g_aload_n (i := 0) h dX3_digest_52 rfl rfl (pc' := 53) rfl ?_
    refine gf_X3_10 h dX3_digest_53 (pc' := 56) rfl ?_
    refine g_iload_n (i := 3) h dX3_digest_56 rfl rfl (pc' := 57) rfl ?_
    refine g_callV1 (q0 := 1) h dX3_digest_57 cf_X3_40 (M_X0_coins (i := i) (by omega)) rfl rfl rfl rfl (by decide) rfl (Nat.le_of_ble_eq_true rfl) (pc' := 60) rfl ?_
    refine g_i2l h dX3_digest_60 (pc' := 61) rfl ?_
    refine g_ladd h dX3_digest_61 (pc' := 62) rfl ?_
    refine g_lstore1 h dX3_digest_62 rfl (by decide) (pc' := 63) rfl ?_
    refine g_iconst (v := nI 0) h dX3_digest_63 (by decide) (pc' := 64) rfl ?_
    refine g_istore4 h dX3_digest_64 rfl (by decide) (pc' := 66) rfl ?_
    refine GG.castW (lp (P := fun j => GG Z X 66 [some (.ref (Z.2.2 0)), some (.long (dg1 debt i (31 * dg2 m coin debt (31 * (31 * 173 + (nI m).toInt64) + toll.toInt64) i + (coin i).toInt64) j)), none, some (.int (nI i)), some (.int (nI j))] [] (wC Z (nI m) toll paid coin debt fall shr mat rgt pen last below)) m ?_ ?_) ⟨rfl, rfl, rfl, rfl, trivial⟩ rfl rfl
    · skip
      refine g_iload h dX3_digest_66 rfl (pc' := 68) rfl ?_
      refine g_aload_n (i := 0) h dX3_digest_68 rfl rfl (pc' := 69) rfl ?_
      refine gf_X3_10 h dX3_digest_69 (pc' := 72) rfl ?_
      refine gf_X3_116 h dX3_digest_72 (pc' := 75) rfl ?_
      refine g_icmp_geT (tg := 102) h dX3_digest_75 (by decide) (Int32.le_refl _) ?_
      refine g_ldc2 h dX3_digest_102 co_X3_152 (pc' := 105) rfl ?_
      refine g_lload_n (i := 1) h dX3_digest_105 rfl rfl (pc' := 106) rfl ?_
      refine g_lmul h dX3_digest_106 (pc' := 107) rfl ?_
      refine g_aload_n (i := 0) h dX3_digest_107 rfl rfl (pc' := 108) rfl ?_
      refine gf_X3_10 h dX3_digest_108 (pc' := 111) rfl ?_
      refine g_iload_n (i := 3) h dX3_digest_111 rfl rfl (pc' := 112) rfl ?_
      refine g_iconst (v := nI 4) h dX3_digest_112 (by decide) (pc' := 113) rfl ?_
      refine g_callV1 (q0 := 1) h dX3_digest_113 cf_X3_54 (M_X0_owed (i := i) (c := 4) (by omega) (by omega)) rfl rfl rfl rfl (by decide) rfl (Nat.le_of_ble_eq_true rfl) (pc' := 116) rfl ?_
      refine g_i2l h dX3_digest_116 (pc' := 117) rfl ?_
      refine g_ladd h dX3_digest_117 (pc' := 118) rfl ?_
      refine g_lstore1 h dX3_digest_118 rfl (by decide) (pc' := 119) rfl ?_
      refine g_iinc3 (v := nI (i + 1)) h dX3_digest_119 rfl (inc1 i) (by decide) (pc' := 122) rfl ?_
      refine g_goto (pc' := 36) h dX3_digest_122 (by decide) ?_
      exact GG.castW ih36 ⟨rfl, rfl, rfl, trivial⟩ rfl rfl
    · intro j hj ih66
      refine g_iload h dX3_digest_66 rfl (pc' := 68) rfl ?_
      refine g_aload_n (i := 0) h dX3_digest_68 rfl rfl (pc' := 69) rfl ?_
      refine gf_X3_10 h dX3_digest_69 (pc' := 72) rfl ?_
      refine gf_X3_116 h dX3_digest_72 (pc' := 75) rfl ?_
      refine g_icmp_geF (tg := 102) h dX3_digest_75 (by decide) (pc' := 78) rfl (nI_ge hj (by omega)) ?_
      refine g_ldc2 h dX3_digest_78 co_X3_152 (pc' := 81) rfl ?_
      refine g_lload_n (i := 1) h dX3_digest_81 rfl rfl (pc' := 82) rfl ?_
      refine g_lmul h dX3_digest_82 (pc' := 83) rfl ?_
      refine g_aload_n (i := 0) h dX3_digest_83 rfl rfl (pc' := 84) rfl ?_
      refine gf_X3_10 h dX3_digest_84 (pc' := 87) rfl ?_
      refine g_iload_n (i := 3) h dX3_digest_87 rfl rfl (pc' := 88) rfl ?_
      refine g_iload h dX3_digest_88 rfl (pc' := 90) rfl ?_
      refine g_callV1 (q0 := 1) h dX3_digest_90 cf_X3_54 (M_X0_owed (i := i) (c := j) (by omega) (by omega)) rfl rfl rfl rfl (by decide) rfl (Nat.le_of_ble_eq_true rfl) (pc' := 93) rfl ?_
      refine g_i2l h dX3_digest_93 (pc' := 94) rfl ?_
      refine g_ladd h dX3_digest_94 (pc' := 95) rfl ?_
      refine g_lstore1 h dX3_digest_95 rfl (by decide) (pc' := 96) rfl ?_
      refine g_iinc4 (v := nI (j + 1)) h dX3_digest_96 rfl (inc1 j) (by decide) (pc' := 99) rfl ?_
      refine g_goto (pc' := 66) h dX3_digest_99 (by decide) ?_
      exact GG.castW ih66 ⟨rfl, rfl, rfl, rfl, trivial⟩ rfl rfl

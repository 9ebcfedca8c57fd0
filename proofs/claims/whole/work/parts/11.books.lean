theorem nI0 : nI 0 = 0 := rfl
theorem nI1 : nI 1 = 1 := rfl
/-- the first j cells at nothing -/
def zf (f : Nat → Int32) (j : Nat) : Nat → Int32 := fun k => if k < j then nI 0 else f k
theorem zf_0 (f : Nat → Int32) : zf f 0 = f := by funext k; simp [zf]
theorem zf_s (f : Nat → Int32) (j : Nat) : upd (zf f j) j (nI 0) = zf f (j + 1) := by
  funext k
  simp only [upd, zf]
  by_cases h : k = j
  · subst h; simp
  · by_cases h2 : k < j
    · simp [h, h2, Nat.lt_succ_of_lt h2]
    · simp [h, h2, show ¬ k < j + 1 by omega]
def sI (f : Nat → Int32) : Nat → Int32
  | 0 => nI 0
  | k + 1 => sI f k + f k
/-- what a house owes, what is owed to a column -/
def oB (debt : Nat → Int32) (i : Nat) : Int32 := sI (fun k => debt (i * 5 + k)) 5
def oT (debt : Nat → Int32) (c : Nat) : Int32 := sI (fun i => debt (i * 5 + c)) 4
def dC (debt : Nat → Int32) : Nat → Nat
  | 0 => 0
  | i + 1 => if oB debt i ≤ 0 then dC debt i else dC debt i + 1
def sf (coin debt : Nat → Int32) (i : Nat) : Int32 := (oB debt i - coin i) - oT debt i
def bad (f : Nat → Int32) (i : Nat) : Nat → Bool
  | 0 => false
  | k + 1 => bad f i k || (decide (k ≠ i) && decide (¬ f k ≤ 0))
theorem bad_le {f : Nat → Int32} {i j : Nat} : ∀ {n : Nat}, j ≤ n → bad f i j = true → bad f i n = true
  | 0, h, hb => by rw [show j = 0 by omega] at hb; exact hb
  | n + 1, h, hb => by
    by_cases e : j = n + 1
    · rw [← e]; exact hb
    · rw [bad, bad_le (by omega) hb]; rfl
def hN (coin debt : Nat → Int32) (i : Nat) : Int32 := if bad (sf coin debt) i 4 = true then (-1) else if nI 0 < sf coin debt i then sf coin debt i else nI 0
abbrev pays (coin debt : Nat → Int32) (i c : Nat) : Prop := ¬ debt (i * 5 + c) = 0 ∧ debt (i * 5 + c) ≤ coin i
def pwN (coin debt : Nat → Int32) (i c : Nat) : Nat := if pays coin debt i c then 1 else 0
def pwD (coin debt : Nat → Int32) (i c : Nat) : Nat → Int32 := if pays coin debt i c then upd debt (i * 5 + c) (nI 0) else debt
def pwP (paid : Int32) (coin debt : Nat → Int32) (i c : Nat) : Int32 := if pays coin debt i c ∧ c = 4 then paid + debt (i * 5 + c) else paid
def pwC1 (coin debt : Nat → Int32) (i c : Nat) : Nat → Int32 := upd coin i (coin i - debt (i * 5 + c))
def pwC (coin debt : Nat → Int32) (i c : Nat) : Nat → Int32 := if pays coin debt i c then (if c = 4 then pwC1 coin debt i c else upd (pwC1 coin debt i c) c (pwC1 coin debt i c c + debt (i * 5 + c))) else coin
/-- how many debts were paid, what went outside, the coins, the debts -/
abbrev dT : Type := Nat × Int32 × (Nat → Int32) × (Nat → Int32)
def pStep (i c : Nat) (t : dT) : dT := (t.1 + pwN t.2.2.1 t.2.2.2 i c, pwP t.2.1 t.2.2.1 t.2.2.2 i c, pwC t.2.2.1 t.2.2.2 i c, pwD t.2.2.1 t.2.2.2 i c)
def pRow (i : Nat) : Nat → dT → dT
  | 0, t => pStep i 4 t
  | j + 1, t => pStep i j (pRow i j t)
def pDay : Nat → dT → dT
  | 0, t => t
  | i + 1, t => pRow i 4 (pDay i t)
set_option maxRecDepth 20000 in
set_option maxHeartbeats 4000000 in
theorem M_X0_open {Z : ZT} {n : Int32} {toll : Int32} {paid : Int32} {coin : Nat → Int32} {debt : Nat → Int32} {fall : Nat → Int32} {shr : Nat → Int64} {mat : Nat → Int64} {rgt : Nat → Int64} {pen : Int32} {last : Int32} {below : Int64} {m : Int32}   : MM Z yX0_open cX0_open 3 none 1 [.ref (Z.2.2 1), .int m] (wC Z n toll paid coin debt fall shr mat rgt pen last below) none (wC Z m (nI 0) (nI 0) (zf coin 4) (zf debt 20) fall shr mat rgt pen last below) := by
  refine MM.intro (by decide) [some (.ref (Z.2.2 1)), some (.int m), none] rfl (Nat.le_of_ble_eq_true rfl) (fun X (h : OK Z X cX0_open RX0 3 (rmd 1)) hr => ?_)
  refine g_aload_n (i := 0) h dX0_open_0 rfl rfl (pc' := 1) rfl ?_
  refine g_iload_n (i := 1) h dX0_open_1 rfl rfl (pc' := 2) rfl ?_
  refine pf_X0_11 h dX0_open_2 (pc' := 5) rfl ?_
  refine g_aload_n (i := 0) h dX0_open_5 rfl rfl (pc' := 6) rfl ?_
  refine g_iconst (v := nI 0) h dX0_open_6 (by decide) (pc' := 7) rfl ?_
  refine pf_X0_15 h dX0_open_7 (pc' := 10) rfl ?_
  refine g_aload_n (i := 0) h dX0_open_10 rfl rfl (pc' := 11) rfl ?_
  refine g_iconst (v := nI 0) h dX0_open_11 (by decide) (pc' := 12) rfl ?_
  refine pf_X0_18 h dX0_open_12 (pc' := 15) rfl ?_
  refine g_iconst (v := nI 0) h dX0_open_15 (by decide) (pc' := 16) rfl ?_
  refine g_istore2 h dX0_open_16 rfl (by decide) (pc' := 17) rfl ?_
  refine GG.castW (lp (P := fun j => GG Z X 17 [some (.ref (Z.2.2 1)), some (.int m), some (.int (nI j))] [] (wC Z m (nI 0) (nI 0) (zf coin j) debt fall shr mat rgt pen last below)) 4 ?_ ?_) ⟨rfl, rfl, rfl, trivial⟩ rfl (by rw [zf_0])
  · skip
    refine g_iload_n (i := 2) h dX0_open_17 rfl rfl (pc' := 18) rfl ?_
    refine g_iconst (v := nI 4) h dX0_open_18 (by decide) (pc' := 19) rfl ?_
    refine g_icmp_geT (tg := 37) h dX0_open_19 (by decide) (Int32.le_refl _) ?_
    refine g_iconst (v := nI 0) h dX0_open_37 (by decide) (pc' := 38) rfl ?_
    refine g_istore2 h dX0_open_38 rfl (by decide) (pc' := 39) rfl ?_
    refine GG.castW (lp (P := fun j => GG Z X 39 [some (.ref (Z.2.2 1)), some (.int m), some (.int (nI j))] [] (wC Z m (nI 0) (nI 0) (zf coin 4) (zf debt j) fall shr mat rgt pen last below)) 20 ?_ ?_) ⟨rfl, rfl, rfl, trivial⟩ rfl (by rw [zf_0])
    · skip
      refine g_iload_n (i := 2) h dX0_open_39 rfl rfl (pc' := 40) rfl ?_
      refine g_bipush (v := nI 20) h dX0_open_40 (by decide) (pc' := 42) rfl ?_
      refine g_icmp_geT (tg := 60) h dX0_open_42 (by decide) (Int32.le_refl _) ?_
      exact g_vret h hr dX0_open_60 rfl rfl
    · intro j hj ih39
      refine g_iload_n (i := 2) h dX0_open_39 rfl rfl (pc' := 40) rfl ?_
      refine g_bipush (v := nI 20) h dX0_open_40 (by decide) (pc' := 42) rfl ?_
      refine g_icmp_geF (tg := 60) h dX0_open_42 (by decide) (pc' := 45) rfl (nI_ge hj (by omega)) ?_
      refine g_aload_n (i := 0) h dX0_open_45 rfl rfl (pc' := 46) rfl ?_
      refine gf_X0_25 h dX0_open_46 (pc' := 49) rfl ?_
      refine g_iload_n (i := 2) h dX0_open_49 rfl rfl (pc' := 50) rfl ?_
      refine g_iconst (v := nI 0) h dX0_open_50 (by decide) (pc' := 51) rfl ?_
      refine g_callN0 h dX0_open_51 cf_X0_28 (M_X3_put_5 (k := j) (x := nI 0) (by omega)) rfl (by decide) rfl (Nat.le_of_ble_eq_true rfl) (pc' := 54) rfl ?_
      refine g_iinc2 (v := nI (j + 1)) h dX0_open_54 rfl (inc1 j) (by decide) (pc' := 57) rfl ?_
      refine g_goto (pc' := 39) h dX0_open_57 (by decide) ?_
      exact GG.castW ih39 ⟨rfl, rfl, rfl, trivial⟩ rfl (by rw [zf_s])
  · intro j hj ih17
    refine g_iload_n (i := 2) h dX0_open_17 rfl rfl (pc' := 18) rfl ?_
    refine g_iconst (v := nI 4) h dX0_open_18 (by decide) (pc' := 19) rfl ?_
    refine g_icmp_geF (tg := 37) h dX0_open_19 (by decide) (pc' := 22) rfl (nI_ge hj (by omega)) ?_
    refine g_aload_n (i := 0) h dX0_open_22 rfl rfl (pc' := 23) rfl ?_
    refine gf_X0_21 h dX0_open_23 (pc' := 26) rfl ?_
    refine g_iload_n (i := 2) h dX0_open_26 rfl rfl (pc' := 27) rfl ?_
    refine g_iconst (v := nI 0) h dX0_open_27 (by decide) (pc' := 28) rfl ?_
    refine g_callN0 h dX0_open_28 cf_X0_28 (M_X3_put_4 (k := j) (x := nI 0) (by omega)) rfl (by decide) rfl (Nat.le_of_ble_eq_true rfl) (pc' := 31) rfl ?_
    refine g_iinc2 (v := nI (j + 1)) h dX0_open_31 rfl (inc1 j) (by decide) (pc' := 34) rfl ?_
    refine g_goto (pc' := 17) h dX0_open_34 (by decide) ?_
    exact GG.castW ih17 ⟨rfl, rfl, rfl, trivial⟩ rfl (by rw [zf_s])
set_option maxRecDepth 20000 in
set_option maxHeartbeats 4000000 in
theorem M_X0_isHouse {Z : ZT} {n : Int32} {toll : Int32} {paid : Int32} {coin : Nat → Int32} {debt : Nat → Int32} {fall : Nat → Int32} {shr : Nat → Int64} {mat : Nat → Int64} {rgt : Nat → Int64} {pen : Int32} {last : Int32} {below : Int64} {i : Int32}   : MM Z yX0_isHouse cX0_isHouse 2 (some .boolean) 0 [.ref (Z.2.2 1), .int i] (wC Z n toll paid coin debt fall shr mat rgt pen last below) (some (.int (bI (¬ i < 0 ∧ ¬ n ≤ i)))) (wC Z n toll paid coin debt fall shr mat rgt pen last below) := by
  refine MM.intro (by decide) [some (.ref (Z.2.2 1)), some (.int i)] rfl (Nat.le_of_ble_eq_true rfl) (fun X (h : OK Z X cX0_isHouse RX0 2 (rmd 0)) hr => ?_)
  refine g_iload_n (i := 1) h dX0_isHouse_0 rfl rfl (pc' := 1) rfl ?_
  refine g_if_lt (tg := 16) h dX0_isHouse_1 (by decide) (pc' := 4) rfl (fun c1 => ?_) (fun c1 => ?_)
  · skip
    refine g_iconst (v := nI 0) h dX0_isHouse_16 (by decide) (pc' := 17) rfl ?_
    exact g_zret h hr dX0_isHouse_17 (by decide) (by simp [bI, c1, nI0, nI1]) rfl
  · skip
    refine g_iload_n (i := 1) h dX0_isHouse_4 rfl rfl (pc' := 5) rfl ?_
    refine g_aload_n (i := 0) h dX0_isHouse_5 rfl rfl (pc' := 6) rfl ?_
    refine gf_X0_11 h dX0_isHouse_6 (pc' := 9) rfl ?_
    refine g_icmp_ge (tg := 16) h dX0_isHouse_9 (by decide) (pc' := 12) rfl (fun c2 => ?_) (fun c2 => ?_)
    · skip
      refine g_iconst (v := nI 0) h dX0_isHouse_16 (by decide) (pc' := 17) rfl ?_
      exact g_zret h hr dX0_isHouse_17 (by decide) (by simp [bI, c1, c2, nI0, nI1]) rfl
    · skip
      refine g_iconst (v := nI 1) h dX0_isHouse_12 (by decide) (pc' := 13) rfl ?_
      refine g_goto (pc' := 17) h dX0_isHouse_13 (by decide) ?_
      exact g_zret h hr dX0_isHouse_17 (by decide) (by simp [bI, c1, c2, nI0, nI1]) rfl
set_option maxRecDepth 20000 in
set_option maxHeartbeats 4000000 in
theorem M_X0_isPayee {Z : ZT} {n : Int32} {toll : Int32} {paid : Int32} {coin : Nat → Int32} {debt : Nat → Int32} {fall : Nat → Int32} {shr : Nat → Int64} {mat : Nat → Int64} {rgt : Nat → Int64} {pen : Int32} {last : Int32} {below : Int64} {i : Int32}   : MM Z yX0_isPayee cX0_isPayee 2 (some .boolean) 0 [.ref (Z.2.2 1), .int i] (wC Z n toll paid coin debt fall shr mat rgt pen last below) (some (.int (bI (¬ i < 0 ∧ ¬ n < i)))) (wC Z n toll paid coin debt fall shr mat rgt pen last below) := by
  refine MM.intro (by decide) [some (.ref (Z.2.2 1)), some (.int i)] rfl (Nat.le_of_ble_eq_true rfl) (fun X (h : OK Z X cX0_isPayee RX0 2 (rmd 0)) hr => ?_)
  refine g_iload_n (i := 1) h dX0_isPayee_0 rfl rfl (pc' := 1) rfl ?_
  refine g_if_lt (tg := 16) h dX0_isPayee_1 (by decide) (pc' := 4) rfl (fun c1 => ?_) (fun c1 => ?_)
  · skip
    refine g_iconst (v := nI 0) h dX0_isPayee_16 (by decide) (pc' := 17) rfl ?_
    exact g_zret h hr dX0_isPayee_17 (by decide) (by simp [bI, c1, nI0, nI1]) rfl
  · skip
    refine g_iload_n (i := 1) h dX0_isPayee_4 rfl rfl (pc' := 5) rfl ?_
    refine g_aload_n (i := 0) h dX0_isPayee_5 rfl rfl (pc' := 6) rfl ?_
    refine gf_X0_11 h dX0_isPayee_6 (pc' := 9) rfl ?_
    refine g_icmp_gt (tg := 16) h dX0_isPayee_9 (by decide) (pc' := 12) rfl (fun c2 => ?_) (fun c2 => ?_)
    · skip
      refine g_iconst (v := nI 0) h dX0_isPayee_16 (by decide) (pc' := 17) rfl ?_
      exact g_zret h hr dX0_isPayee_17 (by decide) (by simp [bI, c1, c2, nI0, nI1]) rfl
    · skip
      refine g_iconst (v := nI 1) h dX0_isPayee_12 (by decide) (pc' := 13) rfl ?_
      refine g_goto (pc' := 17) h dX0_isPayee_13 (by decide) ?_
      exact g_zret h hr dX0_isPayee_17 (by decide) (by simp [bI, c1, c2, nI0, nI1]) rfl
set_option maxRecDepth 20000 in
set_option maxHeartbeats 4000000 in
theorem M_X0_columnOf {Z : ZT} {n : Int32} {toll : Int32} {paid : Int32} {coin : Nat → Int32} {debt : Nat → Int32} {fall : Nat → Int32} {shr : Nat → Int64} {mat : Nat → Int64} {rgt : Nat → Int64} {pen : Int32} {last : Int32} {below : Int64} {i : Int32}   : MM Z yX0_columnOf cX0_columnOf 2 (some .int) 0 [.ref (Z.2.2 1), .int i] (wC Z n toll paid coin debt fall shr mat rgt pen last below) (some (.int (if i = n then nI 4 else i))) (wC Z n toll paid coin debt fall shr mat rgt pen last below) := by
  refine MM.intro (by decide) [some (.ref (Z.2.2 1)), some (.int i)] rfl (Nat.le_of_ble_eq_true rfl) (fun X (h : OK Z X cX0_columnOf RX0 2 (rmd 0)) hr => ?_)
  refine g_iload_n (i := 1) h dX0_columnOf_0 rfl rfl (pc' := 1) rfl ?_
  refine g_aload_n (i := 0) h dX0_columnOf_1 rfl rfl (pc' := 2) rfl ?_
  refine gf_X0_11 h dX0_columnOf_2 (pc' := 5) rfl ?_
  refine g_icmp_ne (tg := 12) h dX0_columnOf_5 (by decide) (pc' := 8) rfl (fun c1 => ?_) (fun c1 => ?_)
  · skip
    refine g_iload_n (i := 1) h dX0_columnOf_12 rfl rfl (pc' := 13) rfl ?_
    exact g_iret h hr dX0_columnOf_13 (by first | rfl | simp only [if_neg c1] | simp [c1]) rfl
  · skip
    refine g_iconst (v := nI 4) h dX0_columnOf_8 (by decide) (pc' := 9) rfl ?_
    refine g_goto (pc' := 13) h dX0_columnOf_9 (by decide) ?_
    exact g_iret h hr dX0_columnOf_13 (by first | rfl | simp only [if_pos c1] | simp [c1]) rfl
set_option maxRecDepth 20000 in
set_option maxHeartbeats 4000000 in
theorem M_X0_coins {Z : ZT} {n : Int32} {toll : Int32} {paid : Int32} {coin : Nat → Int32} {debt : Nat → Int32} {fall : Nat → Int32} {shr : Nat → Int64} {mat : Nat → Int64} {rgt : Nat → Int64} {pen : Int32} {last : Int32} {below : Int64} {i : Nat}  (g0 : i < 4) : MM Z yX0_coins cX0_coins 2 (some .int) 1 [.ref (Z.2.2 1), .int (nI i)] (wC Z n toll paid coin debt fall shr mat rgt pen last below) (some (.int (coin i))) (wC Z n toll paid coin debt fall shr mat rgt pen last below) := by
  refine MM.intro (by decide) [some (.ref (Z.2.2 1)), some (.int (nI i))] rfl (Nat.le_of_ble_eq_true rfl) (fun X (h : OK Z X cX0_coins RX0 2 (rmd 1)) hr => ?_)
  refine g_aload_n (i := 0) h dX0_coins_0 rfl rfl (pc' := 1) rfl ?_
  refine gf_X0_21 h dX0_coins_1 (pc' := 4) rfl ?_
  refine g_iload_n (i := 1) h dX0_coins_4 rfl rfl (pc' := 5) rfl ?_
  refine g_callN1 h dX0_coins_5 cf_X0_32 (M_X3_at_4 (k := i) (by omega)) rfl (by decide) rfl (Nat.le_of_ble_eq_true rfl) (pc' := 8) rfl ?_
  exact g_iret h hr dX0_coins_8 rfl rfl
set_option maxRecDepth 20000 in
set_option maxHeartbeats 4000000 in
theorem M_X0_setCoins {Z : ZT} {n : Int32} {toll : Int32} {paid : Int32} {coin : Nat → Int32} {debt : Nat → Int32} {fall : Nat → Int32} {shr : Nat → Int64} {mat : Nat → Int64} {rgt : Nat → Int64} {pen : Int32} {last : Int32} {below : Int64} {i : Nat} {v : Int32}  (g0 : i < 4) : MM Z yX0_setCoins cX0_setCoins 3 none 1 [.ref (Z.2.2 1), .int (nI i), .int v] (wC Z n toll paid coin debt fall shr mat rgt pen last below) none (wC Z n toll paid (upd coin i v) debt fall shr mat rgt pen last below) := by
  refine MM.intro (by decide) [some (.ref (Z.2.2 1)), some (.int (nI i)), some (.int v)] rfl (Nat.le_of_ble_eq_true rfl) (fun X (h : OK Z X cX0_setCoins RX0 3 (rmd 1)) hr => ?_)
  refine g_aload_n (i := 0) h dX0_setCoins_0 rfl rfl (pc' := 1) rfl ?_
  refine gf_X0_21 h dX0_setCoins_1 (pc' := 4) rfl ?_
  refine g_iload_n (i := 1) h dX0_setCoins_4 rfl rfl (pc' := 5) rfl ?_
  refine g_iload_n (i := 2) h dX0_setCoins_5 rfl rfl (pc' := 6) rfl ?_
  refine g_callN0 h dX0_setCoins_6 cf_X0_28 (M_X3_put_4 (k := i) (x := v) (by omega)) rfl (by decide) rfl (Nat.le_of_ble_eq_true rfl) (pc' := 9) rfl ?_
  exact g_vret h hr dX0_setCoins_9 rfl rfl
set_option maxRecDepth 20000 in
set_option maxHeartbeats 4000000 in
theorem M_X0_owed {Z : ZT} {n : Int32} {toll : Int32} {paid : Int32} {coin : Nat → Int32} {debt : Nat → Int32} {fall : Nat → Int32} {shr : Nat → Int64} {mat : Nat → Int64} {rgt : Nat → Int64} {pen : Int32} {last : Int32} {below : Int64} {i : Nat} {c : Nat}  (g0 : i < 4) (g1 : c < 5) : MM Z yX0_owed cX0_owed 3 (some .int) 1 [.ref (Z.2.2 1), .int (nI i), .int (nI c)] (wC Z n toll paid coin debt fall shr mat rgt pen last below) (some (.int (debt (i * 5 + c)))) (wC Z n toll paid coin debt fall shr mat rgt pen last below) := by
  refine MM.intro (by decide) [some (.ref (Z.2.2 1)), some (.int (nI i)), some (.int (nI c))] rfl (Nat.le_of_ble_eq_true rfl) (fun X (h : OK Z X cX0_owed RX0 3 (rmd 1)) hr => ?_)
  refine g_aload_n (i := 0) h dX0_owed_0 rfl rfl (pc' := 1) rfl ?_
  refine gf_X0_25 h dX0_owed_1 (pc' := 4) rfl ?_
  refine g_iload_n (i := 1) h dX0_owed_4 rfl rfl (pc' := 5) rfl ?_
  refine g_iconst (v := nI 5) h dX0_owed_5 (by decide) (pc' := 6) rfl ?_
  refine g_imulN h dX0_owed_6 (pc' := 7) rfl ?_
  refine g_iload_n (i := 2) h dX0_owed_7 rfl rfl (pc' := 8) rfl ?_
  refine g_iaddN h dX0_owed_8 (pc' := 9) rfl ?_
  refine g_callN1 h dX0_owed_9 cf_X0_32 (M_X3_at_5 (k := (i * 5) + c) (by omega)) rfl (by decide) rfl (Nat.le_of_ble_eq_true rfl) (pc' := 12) rfl ?_
  exact g_iret h hr dX0_owed_12 rfl rfl
set_option maxRecDepth 20000 in
set_option maxHeartbeats 4000000 in
theorem M_X0_setOwed {Z : ZT} {n : Int32} {toll : Int32} {paid : Int32} {coin : Nat → Int32} {debt : Nat → Int32} {fall : Nat → Int32} {shr : Nat → Int64} {mat : Nat → Int64} {rgt : Nat → Int64} {pen : Int32} {last : Int32} {below : Int64} {i : Nat} {c : Nat} {v : Int32}  (g0 : i < 4) (g1 : c < 5) : MM Z yX0_setOwed cX0_setOwed 4 none 1 [.ref (Z.2.2 1), .int (nI i), .int (nI c), .int v] (wC Z n toll paid coin debt fall shr mat rgt pen last below) none (wC Z n toll paid coin (upd debt (i * 5 + c) v) fall shr mat rgt pen last below) := by
  refine MM.intro (by decide) [some (.ref (Z.2.2 1)), some (.int (nI i)), some (.int (nI c)), some (.int v)] rfl (Nat.le_of_ble_eq_true rfl) (fun X (h : OK Z X cX0_setOwed RX0 4 (rmd 1)) hr => ?_)
  refine g_aload_n (i := 0) h dX0_setOwed_0 rfl rfl (pc' := 1) rfl ?_
  refine gf_X0_25 h dX0_setOwed_1 (pc' := 4) rfl ?_
  refine g_iload_n (i := 1) h dX0_setOwed_4 rfl rfl (pc' := 5) rfl ?_
  refine g_iconst (v := nI 5) h dX0_setOwed_5 (by decide) (pc' := 6) rfl ?_
  refine g_imulN h dX0_setOwed_6 (pc' := 7) rfl ?_
  refine g_iload_n (i := 2) h dX0_setOwed_7 rfl rfl (pc' := 8) rfl ?_
  refine g_iaddN h dX0_setOwed_8 (pc' := 9) rfl ?_
  refine g_iload_n (i := 3) h dX0_setOwed_9 rfl rfl (pc' := 10) rfl ?_
  refine g_callN0 h dX0_setOwed_10 cf_X0_28 (M_X3_put_5 (k := (i * 5) + c) (x := v) (by omega)) rfl (by decide) rfl (Nat.le_of_ble_eq_true rfl) (pc' := 13) rfl ?_
  exact g_vret h hr dX0_setOwed_13 rfl rfl
set_option maxRecDepth 20000 in
set_option maxHeartbeats 4000000 in
theorem M_X0_allOwedBy {Z : ZT} {n : Int32} {toll : Int32} {paid : Int32} {coin : Nat → Int32} {debt : Nat → Int32} {fall : Nat → Int32} {shr : Nat → Int64} {mat : Nat → Int64} {rgt : Nat → Int64} {pen : Int32} {last : Int32} {below : Int64} {i : Nat}  (g0 : i < 4) : MM Z yX0_allOwedBy cX0_allOwedBy 4 (some .int) 2 [.ref (Z.2.2 1), .int (nI i)] (wC Z n toll paid coin debt fall shr mat rgt pen last below) (some (.int (oB debt i))) (wC Z n toll paid coin debt fall shr mat rgt pen last below) := by
  refine MM.intro (by decide) [some (.ref (Z.2.2 1)), some (.int (nI i)), none, none] rfl (Nat.le_of_ble_eq_true rfl) (fun X (h : OK Z X cX0_allOwedBy RX0 4 (rmd 2)) hr => ?_)
  refine g_iconst (v := nI 0) h dX0_allOwedBy_0 (by decide) (pc' := 1) rfl ?_
  refine g_istore2 h dX0_allOwedBy_1 rfl (by decide) (pc' := 2) rfl ?_
  refine g_iconst (v := nI 0) h dX0_allOwedBy_2 (by decide) (pc' := 3) rfl ?_
  refine g_istore3 h dX0_allOwedBy_3 rfl (by decide) (pc' := 4) rfl ?_
  refine GG.castW (lp (P := fun j => GG Z X 4 [some (.ref (Z.2.2 1)), some (.int (nI i)), some (.int (sI (fun k => debt (i * 5 + k)) j)), some (.int (nI j))] [] (wC Z n toll paid coin debt fall shr mat rgt pen last below)) 5 ?_ ?_) ⟨rfl, rfl, rfl, rfl, trivial⟩ rfl rfl
  · skip
    refine g_iload_n (i := 3) h dX0_allOwedBy_4 rfl rfl (pc' := 5) rfl ?_
    refine g_iconst (v := nI 5) h dX0_allOwedBy_5 (by decide) (pc' := 6) rfl ?_
    refine g_icmp_geT (tg := 24) h dX0_allOwedBy_6 (by decide) (Int32.le_refl _) ?_
    refine g_iload_n (i := 2) h dX0_allOwedBy_24 rfl rfl (pc' := 25) rfl ?_
    exact g_iret h hr dX0_allOwedBy_25 rfl rfl
  · intro j hj ih4
    refine g_iload_n (i := 3) h dX0_allOwedBy_4 rfl rfl (pc' := 5) rfl ?_
    refine g_iconst (v := nI 5) h dX0_allOwedBy_5 (by decide) (pc' := 6) rfl ?_
    refine g_icmp_geF (tg := 24) h dX0_allOwedBy_6 (by decide) (pc' := 9) rfl (nI_ge hj (by omega)) ?_
    refine g_iload_n (i := 2) h dX0_allOwedBy_9 rfl rfl (pc' := 10) rfl ?_
    refine g_aload_n (i := 0) h dX0_allOwedBy_10 rfl rfl (pc' := 11) rfl ?_
    refine g_iload_n (i := 1) h dX0_allOwedBy_11 rfl rfl (pc' := 12) rfl ?_
    refine g_iload_n (i := 3) h dX0_allOwedBy_12 rfl rfl (pc' := 13) rfl ?_
    refine g_callV1 (q0 := 1) h dX0_allOwedBy_13 cf_X0_36 (M_X0_owed (i := i) (c := j) (by omega) (by omega)) rfl rfl rfl rfl (by decide) rfl (Nat.le_of_ble_eq_true rfl) (pc' := 16) rfl ?_
    refine g_iadd h dX0_allOwedBy_16 (pc' := 17) rfl ?_
    refine g_istore2 h dX0_allOwedBy_17 rfl (by decide) (pc' := 18) rfl ?_
    refine g_iinc3 (v := nI (j + 1)) h dX0_allOwedBy_18 rfl (inc1 j) (by decide) (pc' := 21) rfl ?_
    refine g_goto (pc' := 4) h dX0_allOwedBy_21 (by decide) ?_
    exact GG.castW ih4 ⟨rfl, rfl, rfl, rfl, trivial⟩ rfl rfl
set_option maxRecDepth 20000 in
set_option maxHeartbeats 4000000 in
theorem M_X0_allOwedTo {Z : ZT} {n : Int32} {toll : Int32} {paid : Int32} {coin : Nat → Int32} {debt : Nat → Int32} {fall : Nat → Int32} {shr : Nat → Int64} {mat : Nat → Int64} {rgt : Nat → Int64} {pen : Int32} {last : Int32} {below : Int64} {c : Nat}  (g0 : c < 5) : MM Z yX0_allOwedTo cX0_allOwedTo 4 (some .int) 2 [.ref (Z.2.2 1), .int (nI c)] (wC Z n toll paid coin debt fall shr mat rgt pen last below) (some (.int (oT debt c))) (wC Z n toll paid coin debt fall shr mat rgt pen last below) := by
  refine MM.intro (by decide) [some (.ref (Z.2.2 1)), some (.int (nI c)), none, none] rfl (Nat.le_of_ble_eq_true rfl) (fun X (h : OK Z X cX0_allOwedTo RX0 4 (rmd 2)) hr => ?_)
  refine g_iconst (v := nI 0) h dX0_allOwedTo_0 (by decide) (pc' := 1) rfl ?_
  refine g_istore2 h dX0_allOwedTo_1 rfl (by decide) (pc' := 2) rfl ?_
  refine g_iconst (v := nI 0) h dX0_allOwedTo_2 (by decide) (pc' := 3) rfl ?_
  refine g_istore3 h dX0_allOwedTo_3 rfl (by decide) (pc' := 4) rfl ?_
  refine GG.castW (lp (P := fun j => GG Z X 4 [some (.ref (Z.2.2 1)), some (.int (nI c)), some (.int (sI (fun i => debt (i * 5 + c)) j)), some (.int (nI j))] [] (wC Z n toll paid coin debt fall shr mat rgt pen last below)) 4 ?_ ?_) ⟨rfl, rfl, rfl, rfl, trivial⟩ rfl rfl
  · skip
    refine g_iload_n (i := 3) h dX0_allOwedTo_4 rfl rfl (pc' := 5) rfl ?_
    refine g_iconst (v := nI 4) h dX0_allOwedTo_5 (by decide) (pc' := 6) rfl ?_
    refine g_icmp_geT (tg := 24) h dX0_allOwedTo_6 (by decide) (Int32.le_refl _) ?_
    refine g_iload_n (i := 2) h dX0_allOwedTo_24 rfl rfl (pc' := 25) rfl ?_
    exact g_iret h hr dX0_allOwedTo_25 rfl rfl
  · intro j hj ih4
    refine g_iload_n (i := 3) h dX0_allOwedTo_4 rfl rfl (pc' := 5) rfl ?_
    refine g_iconst (v := nI 4) h dX0_allOwedTo_5 (by decide) (pc' := 6) rfl ?_
    refine g_icmp_geF (tg := 24) h dX0_allOwedTo_6 (by decide) (pc' := 9) rfl (nI_ge hj (by omega)) ?_
    refine g_iload_n (i := 2) h dX0_allOwedTo_9 rfl rfl (pc' := 10) rfl ?_
    refine g_aload_n (i := 0) h dX0_allOwedTo_10 rfl rfl (pc' := 11) rfl ?_
    refine g_iload_n (i := 3) h dX0_allOwedTo_11 rfl rfl (pc' := 12) rfl ?_
    refine g_iload_n (i := 1) h dX0_allOwedTo_12 rfl rfl (pc' := 13) rfl ?_
    refine g_callV1 (q0 := 1) h dX0_allOwedTo_13 cf_X0_36 (M_X0_owed (i := j) (c := c) (by omega) (by omega)) rfl rfl rfl rfl (by decide) rfl (Nat.le_of_ble_eq_true rfl) (pc' := 16) rfl ?_
    refine g_iadd h dX0_allOwedTo_16 (pc' := 17) rfl ?_
    refine g_istore2 h dX0_allOwedTo_17 rfl (by decide) (pc' := 18) rfl ?_
    refine g_iinc3 (v := nI (j + 1)) h dX0_allOwedTo_18 rfl (inc1 j) (by decide) (pc' := 21) rfl ?_
    refine g_goto (pc' := 4) h dX0_allOwedTo_21 (by decide) ?_
    exact GG.castW ih4 ⟨rfl, rfl, rfl, rfl, trivial⟩ rfl rfl
set_option maxRecDepth 20000 in
set_option maxHeartbeats 4000000 in
theorem M_X0_allCoins {Z : ZT} {n : Int32} {toll : Int32} {paid : Int32} {coin : Nat → Int32} {debt : Nat → Int32} {fall : Nat → Int32} {shr : Nat → Int64} {mat : Nat → Int64} {rgt : Nat → Int64} {pen : Int32} {last : Int32} {below : Int64}    : MM Z yX0_allCoins cX0_allCoins 3 (some .int) 2 [.ref (Z.2.2 1)] (wC Z n toll paid coin debt fall shr mat rgt pen last below) (some (.int (sI coin 4))) (wC Z n toll paid coin debt fall shr mat rgt pen last below) := by
  refine MM.intro (by decide) [some (.ref (Z.2.2 1)), none, none] rfl (Nat.le_of_ble_eq_true rfl) (fun X (h : OK Z X cX0_allCoins RX0 3 (rmd 2)) hr => ?_)
  refine g_iconst (v := nI 0) h dX0_allCoins_0 (by decide) (pc' := 1) rfl ?_
  refine g_istore1 h dX0_allCoins_1 rfl (by decide) (pc' := 2) rfl ?_
  refine g_iconst (v := nI 0) h dX0_allCoins_2 (by decide) (pc' := 3) rfl ?_
  refine g_istore2 h dX0_allCoins_3 rfl (by decide) (pc' := 4) rfl ?_
  refine GG.castW (lp (P := fun j => GG Z X 4 [some (.ref (Z.2.2 1)), some (.int (sI coin j)), some (.int (nI j))] [] (wC Z n toll paid coin debt fall shr mat rgt pen last below)) 4 ?_ ?_) ⟨rfl, rfl, rfl, trivial⟩ rfl rfl
  · skip
    refine g_iload_n (i := 2) h dX0_allCoins_4 rfl rfl (pc' := 5) rfl ?_
    refine g_iconst (v := nI 4) h dX0_allCoins_5 (by decide) (pc' := 6) rfl ?_
    refine g_icmp_geT (tg := 23) h dX0_allCoins_6 (by decide) (Int32.le_refl _) ?_
    refine g_iload_n (i := 1) h dX0_allCoins_23 rfl rfl (pc' := 24) rfl ?_
    exact g_iret h hr dX0_allCoins_24 rfl rfl
  · intro j hj ih4
    refine g_iload_n (i := 2) h dX0_allCoins_4 rfl rfl (pc' := 5) rfl ?_
    refine g_iconst (v := nI 4) h dX0_allCoins_5 (by decide) (pc' := 6) rfl ?_
    refine g_icmp_geF (tg := 23) h dX0_allCoins_6 (by decide) (pc' := 9) rfl (nI_ge hj (by omega)) ?_
    refine g_iload_n (i := 1) h dX0_allCoins_9 rfl rfl (pc' := 10) rfl ?_
    refine g_aload_n (i := 0) h dX0_allCoins_10 rfl rfl (pc' := 11) rfl ?_
    refine g_iload_n (i := 2) h dX0_allCoins_11 rfl rfl (pc' := 12) rfl ?_
    refine g_callV1 (q0 := 1) h dX0_allCoins_12 cf_X0_40 (M_X0_coins (i := j) (by omega)) rfl rfl rfl rfl (by decide) rfl (Nat.le_of_ble_eq_true rfl) (pc' := 15) rfl ?_
    refine g_iadd h dX0_allCoins_15 (pc' := 16) rfl ?_
    refine g_istore1 h dX0_allCoins_16 rfl (by decide) (pc' := 17) rfl ?_
    refine g_iinc2 (v := nI (j + 1)) h dX0_allCoins_17 rfl (inc1 j) (by decide) (pc' := 20) rfl ?_
    refine g_goto (pc' := 4) h dX0_allCoins_20 (by decide) ?_
    exact GG.castW ih4 ⟨rfl, rfl, rfl, trivial⟩ rfl rfl
set_option maxRecDepth 20000 in
set_option maxHeartbeats 4000000 in
theorem M_X0_allDebts {Z : ZT} {n : Int32} {toll : Int32} {paid : Int32} {coin : Nat → Int32} {debt : Nat → Int32} {fall : Nat → Int32} {shr : Nat → Int64} {mat : Nat → Int64} {rgt : Nat → Int64} {pen : Int32} {last : Int32} {below : Int64}    : MM Z yX0_allDebts cX0_allDebts 3 (some .int) 3 [.ref (Z.2.2 1)] (wC Z n toll paid coin debt fall shr mat rgt pen last below) (some (.int (sI (oB debt) 4))) (wC Z n toll paid coin debt fall shr mat rgt pen last below) := by
  refine MM.intro (by decide) [some (.ref (Z.2.2 1)), none, none] rfl (Nat.le_of_ble_eq_true rfl) (fun X (h : OK Z X cX0_allDebts RX0 3 (rmd 3)) hr => ?_)
  refine g_iconst (v := nI 0) h dX0_allDebts_0 (by decide) (pc' := 1) rfl ?_
  refine g_istore1 h dX0_allDebts_1 rfl (by decide) (pc' := 2) rfl ?_
  refine g_iconst (v := nI 0) h dX0_allDebts_2 (by decide) (pc' := 3) rfl ?_
  refine g_istore2 h dX0_allDebts_3 rfl (by decide) (pc' := 4) rfl ?_
  refine GG.castW (lp (P := fun j => GG Z X 4 [some (.ref (Z.2.2 1)), some (.int (sI (oB debt) j)), some (.int (nI j))] [] (wC Z n toll paid coin debt fall shr mat rgt pen last below)) 4 ?_ ?_) ⟨rfl, rfl, rfl, trivial⟩ rfl rfl
  · skip
    refine g_iload_n (i := 2) h dX0_allDebts_4 rfl rfl (pc' := 5) rfl ?_
    refine g_iconst (v := nI 4) h dX0_allDebts_5 (by decide) (pc' := 6) rfl ?_
    refine g_icmp_geT (tg := 23) h dX0_allDebts_6 (by decide) (Int32.le_refl _) ?_
    refine g_iload_n (i := 1) h dX0_allDebts_23 rfl rfl (pc' := 24) rfl ?_
    exact g_iret h hr dX0_allDebts_24 rfl rfl
  · intro j hj ih4
    refine g_iload_n (i := 2) h dX0_allDebts_4 rfl rfl (pc' := 5) rfl ?_
    refine g_iconst (v := nI 4) h dX0_allDebts_5 (by decide) (pc' := 6) rfl ?_
    refine g_icmp_geF (tg := 23) h dX0_allDebts_6 (by decide) (pc' := 9) rfl (nI_ge hj (by omega)) ?_
    refine g_iload_n (i := 1) h dX0_allDebts_9 rfl rfl (pc' := 10) rfl ?_
    refine g_aload_n (i := 0) h dX0_allDebts_10 rfl rfl (pc' := 11) rfl ?_
    refine g_iload_n (i := 2) h dX0_allDebts_11 rfl rfl (pc' := 12) rfl ?_
    refine g_callV1 (q0 := 1) h dX0_allDebts_12 cf_X0_44 (M_X0_allOwedBy (i := j) (by omega)) rfl rfl rfl rfl (by decide) rfl (Nat.le_of_ble_eq_true rfl) (pc' := 15) rfl ?_
    refine g_iadd h dX0_allDebts_15 (pc' := 16) rfl ?_
    refine g_istore1 h dX0_allDebts_16 rfl (by decide) (pc' := 17) rfl ?_
    refine g_iinc2 (v := nI (j + 1)) h dX0_allDebts_17 rfl (inc1 j) (by decide) (pc' := 20) rfl ?_
    refine g_goto (pc' := 4) h dX0_allDebts_20 (by decide) ?_
    exact GG.castW ih4 ⟨rfl, rfl, rfl, trivial⟩ rfl rfl
set_option maxRecDepth 20000 in
set_option maxHeartbeats 4000000 in
theorem M_X0_debtorCount {Z : ZT} {n : Int32} {toll : Int32} {paid : Int32} {coin : Nat → Int32} {debt : Nat → Int32} {fall : Nat → Int32} {shr : Nat → Int64} {mat : Nat → Int64} {rgt : Nat → Int64} {pen : Int32} {last : Int32} {below : Int64}    : MM Z yX0_debtorCount cX0_debtorCount 3 (some .int) 3 [.ref (Z.2.2 1)] (wC Z n toll paid coin debt fall shr mat rgt pen last below) (some (.int (nI (dC debt 4)))) (wC Z n toll paid coin debt fall shr mat rgt pen last below) := by
  refine MM.intro (by decide) [some (.ref (Z.2.2 1)), none, none] rfl (Nat.le_of_ble_eq_true rfl) (fun X (h : OK Z X cX0_debtorCount RX0 3 (rmd 3)) hr => ?_)
  refine g_iconst (v := nI 0) h dX0_debtorCount_0 (by decide) (pc' := 1) rfl ?_
  refine g_istore1 h dX0_debtorCount_1 rfl (by decide) (pc' := 2) rfl ?_
  refine g_iconst (v := nI 0) h dX0_debtorCount_2 (by decide) (pc' := 3) rfl ?_
  refine g_istore2 h dX0_debtorCount_3 rfl (by decide) (pc' := 4) rfl ?_
  refine GG.castW (lp (P := fun j => GG Z X 4 [some (.ref (Z.2.2 1)), some (.int (nI (dC debt j))), some (.int (nI j))] [] (wC Z n toll paid coin debt fall shr mat rgt pen last below)) 4 ?_ ?_) ⟨rfl, rfl, rfl, trivial⟩ rfl rfl
  · skip
    refine g_iload_n (i := 2) h dX0_debtorCount_4 rfl rfl (pc' := 5) rfl ?_
    refine g_iconst (v := nI 4) h dX0_debtorCount_5 (by decide) (pc' := 6) rfl ?_
    refine g_icmp_geT (tg := 26) h dX0_debtorCount_6 (by decide) (Int32.le_refl _) ?_
    refine g_iload_n (i := 1) h dX0_debtorCount_26 rfl rfl (pc' := 27) rfl ?_
    exact g_iret h hr dX0_debtorCount_27 rfl rfl
  · intro j hj ih4
    refine g_iload_n (i := 2) h dX0_debtorCount_4 rfl rfl (pc' := 5) rfl ?_
    refine g_iconst (v := nI 4) h dX0_debtorCount_5 (by decide) (pc' := 6) rfl ?_
    refine g_icmp_geF (tg := 26) h dX0_debtorCount_6 (by decide) (pc' := 9) rfl (nI_ge hj (by omega)) ?_
    refine g_aload_n (i := 0) h dX0_debtorCount_9 rfl rfl (pc' := 10) rfl ?_
    refine g_iload_n (i := 2) h dX0_debtorCount_10 rfl rfl (pc' := 11) rfl ?_
    refine g_callV1 (q0 := 1) h dX0_debtorCount_11 cf_X0_44 (M_X0_allOwedBy (i := j) (by omega)) rfl rfl rfl rfl (by decide) rfl (Nat.le_of_ble_eq_true rfl) (pc' := 14) rfl ?_
    refine g_if_le (tg := 20) h dX0_debtorCount_14 (by decide) (pc' := 17) rfl (fun c1 => ?_) (fun c1 => ?_)
    · skip
      refine g_iinc2 (v := nI (j + 1)) h dX0_debtorCount_20 rfl (inc1 j) (by decide) (pc' := 23) rfl ?_
      refine g_goto (pc' := 4) h dX0_debtorCount_23 (by decide) ?_
      exact GG.castW ih4 ⟨rfl, (by simp only [List.head?_cons, List.tail_cons, dC, if_pos c1]), rfl, trivial⟩ rfl rfl
    · skip
      refine g_iinc1 (v := nI (dC debt j + 1)) h dX0_debtorCount_17 rfl (inc1 (dC debt j)) (by decide) (pc' := 20) rfl ?_
      refine g_iinc2 (v := nI (j + 1)) h dX0_debtorCount_20 rfl (inc1 j) (by decide) (pc' := 23) rfl ?_
      refine g_goto (pc' := 4) h dX0_debtorCount_23 (by decide) ?_
      exact GG.castW ih4 ⟨rfl, (by simp only [List.head?_cons, List.tail_cons, dC, if_neg c1]), rfl, trivial⟩ rfl rfl
set_option maxRecDepth 20000 in
set_option maxHeartbeats 4000000 in
theorem M_X0_shortfall {Z : ZT} {n : Int32} {toll : Int32} {paid : Int32} {coin : Nat → Int32} {debt : Nat → Int32} {fall : Nat → Int32} {shr : Nat → Int64} {mat : Nat → Int64} {rgt : Nat → Int64} {pen : Int32} {last : Int32} {below : Int64} {i : Nat}  (g0 : i < 4) : MM Z yX0_shortfall cX0_shortfall 2 (some .int) 3 [.ref (Z.2.2 1), .int (nI i)] (wC Z n toll paid coin debt fall shr mat rgt pen last below) (some (.int (sf coin debt i))) (wC Z n toll paid coin debt fall shr mat rgt pen last below) := by
  refine MM.intro (by decide) [some (.ref (Z.2.2 1)), some (.int (nI i))] rfl (Nat.le_of_ble_eq_true rfl) (fun X (h : OK Z X cX0_shortfall RX0 2 (rmd 3)) hr => ?_)
  refine g_aload_n (i := 0) h dX0_shortfall_0 rfl rfl (pc' := 1) rfl ?_
  refine g_iload_n (i := 1) h dX0_shortfall_1 rfl rfl (pc' := 2) rfl ?_
  refine g_callV1 (q0 := 1) h dX0_shortfall_2 cf_X0_44 (M_X0_allOwedBy (i := i) (by omega)) rfl rfl rfl rfl (by decide) rfl (Nat.le_of_ble_eq_true rfl) (pc' := 5) rfl ?_
  refine g_aload_n (i := 0) h dX0_shortfall_5 rfl rfl (pc' := 6) rfl ?_
  refine g_iload_n (i := 1) h dX0_shortfall_6 rfl rfl (pc' := 7) rfl ?_
  refine g_callV1 (q0 := 1) h dX0_shortfall_7 cf_X0_40 (M_X0_coins (i := i) (by omega)) rfl rfl rfl rfl (by decide) rfl (Nat.le_of_ble_eq_true rfl) (pc' := 10) rfl ?_
  refine g_isub h dX0_shortfall_10 (pc' := 11) rfl ?_
  refine g_aload_n (i := 0) h dX0_shortfall_11 rfl rfl (pc' := 12) rfl ?_
  refine g_iload_n (i := 1) h dX0_shortfall_12 rfl rfl (pc' := 13) rfl ?_
  refine g_callV1 (q0 := 1) h dX0_shortfall_13 cf_X0_47 (M_X0_allOwedTo (c := i) (by omega)) rfl rfl rfl rfl (by decide) rfl (Nat.le_of_ble_eq_true rfl) (pc' := 16) rfl ?_
  refine g_isub h dX0_shortfall_16 (pc' := 17) rfl ?_
  exact g_iret h hr dX0_shortfall_17 rfl rfl
set_option maxRecDepth 20000 in
set_option maxHeartbeats 4000000 in
theorem M_X0_helpNeeded {Z : ZT} {n : Int32} {toll : Int32} {paid : Int32} {coin : Nat → Int32} {debt : Nat → Int32} {fall : Nat → Int32} {shr : Nat → Int64} {mat : Nat → Int64} {rgt : Nat → Int64} {pen : Int32} {last : Int32} {below : Int64} {i : Nat}  (g0 : i < 4) : MM Z yX0_helpNeeded cX0_helpNeeded 3 (some .int) 4 [.ref (Z.2.2 1), .int (nI i)] (wC Z n toll paid coin debt fall shr mat rgt pen last below) (some (.int (hN coin debt i))) (wC Z n toll paid coin debt fall shr mat rgt pen last below) := by
  refine MM.intro (by decide) [some (.ref (Z.2.2 1)), some (.int (nI i)), none] rfl (Nat.le_of_ble_eq_true rfl) (fun X (h : OK Z X cX0_helpNeeded RX0 3 (rmd 4)) hr => ?_)
  refine g_iconst (v := nI 0) h dX0_helpNeeded_0 (by decide) (pc' := 1) rfl ?_
  refine g_istore2 h dX0_helpNeeded_1 rfl (by decide) (pc' := 2) rfl ?_
  have key2 : ∀ (k : Nat) (j : Nat), (j + k = 4) → (bad (sf coin debt) i j = false) → GG Z X 2 [some (.ref (Z.2.2 1)), some (.int (nI i)), some (.int (nI j))] [] (wC Z n toll paid coin debt fall shr mat rgt pen last below) := by
    intro k
    induction k with
    | zero =>
      intro j e2_0 e2_1
      refine g_iload_n (i := 2) h dX0_helpNeeded_2 rfl rfl (pc' := 3) rfl ?_
      refine g_iconst (v := nI 4) h dX0_helpNeeded_3 (by decide) (pc' := 4) rfl ?_
      refine g_icmp_geT (tg := 28) h dX0_helpNeeded_4 (by decide) (by rw [show j = 4 by omega]; exact Int32.le_refl _) ?_
      refine g_iconst (v := nI 0) h dX0_helpNeeded_28 (by decide) (pc' := 29) rfl ?_
      refine g_aload_n (i := 0) h dX0_helpNeeded_29 rfl rfl (pc' := 30) rfl ?_
      refine g_iload_n (i := 1) h dX0_helpNeeded_30 rfl rfl (pc' := 31) rfl ?_
      refine g_callV1 (q0 := 1) h dX0_helpNeeded_31 cf_X0_50 (M_X0_shortfall (i := i) (by omega)) rfl rfl rfl rfl (by decide) rfl (Nat.le_of_ble_eq_true rfl) (pc' := 34) rfl ?_
      refine g_mmax ml_X0_53 ms_max mi_math mc_max h dX0_helpNeeded_34 (by decide) (Nat.le_of_ble_eq_true rfl) (pc' := 37) rfl ?_
      exact g_iret h hr dX0_helpNeeded_37 (by rw [show j = 4 by omega] at e2_1; simp [hN, e2_1]) rfl
    | succ k ih2 =>
      intro j e2_0 e2_1
      have hj : j < 4 := by omega
      refine g_iload_n (i := 2) h dX0_helpNeeded_2 rfl rfl (pc' := 3) rfl ?_
      refine g_iconst (v := nI 4) h dX0_helpNeeded_3 (by decide) (pc' := 4) rfl ?_
      refine g_icmp_geF (tg := 28) h dX0_helpNeeded_4 (by decide) (pc' := 7) rfl (nI_ge hj (by decide)) ?_
      refine g_iload_n (i := 2) h dX0_helpNeeded_7 rfl rfl (pc' := 8) rfl ?_
      refine g_iload_n (i := 1) h dX0_helpNeeded_8 rfl rfl (pc' := 9) rfl ?_
      refine g_icmp_eq (tg := 22) h dX0_helpNeeded_9 (by decide) (pc' := 12) rfl (fun c1 => ?_) (fun c1 => ?_)
      · skip
        refine g_iinc2 (v := nI (j + 1)) h dX0_helpNeeded_22 rfl (inc1 j) (by decide) (pc' := 25) rfl ?_
        refine g_goto (pc' := 2) h dX0_helpNeeded_25 (by decide) ?_
        exact GG.castW (ih2 (j + 1) (by omega) (by rw [bad, e2_1]; simp [((nI_eq (by omega) (by omega)).mp c1)])) ⟨rfl, rfl, rfl, trivial⟩ rfl rfl
      · skip
        refine g_aload_n (i := 0) h dX0_helpNeeded_12 rfl rfl (pc' := 13) rfl ?_
        refine g_iload_n (i := 2) h dX0_helpNeeded_13 rfl rfl (pc' := 14) rfl ?_
        refine g_callV1 (q0 := 1) h dX0_helpNeeded_14 cf_X0_50 (M_X0_shortfall (i := j) (by omega)) rfl rfl rfl rfl (by decide) rfl (Nat.le_of_ble_eq_true rfl) (pc' := 17) rfl ?_
        refine g_if_le (tg := 22) h dX0_helpNeeded_17 (by decide) (pc' := 20) rfl (fun c2 => ?_) (fun c2 => ?_)
        · skip
          refine g_iinc2 (v := nI (j + 1)) h dX0_helpNeeded_22 rfl (inc1 j) (by decide) (pc' := 25) rfl ?_
          refine g_goto (pc' := 2) h dX0_helpNeeded_25 (by decide) ?_
          exact GG.castW (ih2 (j + 1) (by omega) (by rw [bad, e2_1]; simp [c1, c2])) ⟨rfl, rfl, rfl, trivial⟩ rfl rfl
        · skip
          refine g_iconst (v := (-1)) h dX0_helpNeeded_20 (by decide) (pc' := 21) rfl ?_
          exact g_iret h hr dX0_helpNeeded_21 (by have hb : bad (sf coin debt) i 4 = true := bad_le (j := j + 1) (by omega) (by rw [bad]; simp [c2]; exact Or.inr (fun q : j = i => c1 (by rw [q]))); simp [hN, hb]) rfl
  exact GG.castW (key2 4 0 rfl rfl) ⟨rfl, rfl, rfl, trivial⟩ rfl rfl
set_option maxRecDepth 20000 in
set_option maxHeartbeats 4000000 in
theorem M_X0_payWhole {Z : ZT} {n : Int32} {toll : Int32} {paid : Int32} {coin : Nat → Int32} {debt : Nat → Int32} {fall : Nat → Int32} {shr : Nat → Int64} {mat : Nat → Int64} {rgt : Nat → Int64} {pen : Int32} {last : Int32} {below : Int64} {i : Nat} {c : Nat}  (g0 : i < 4) (g1 : c < 5) : MM Z yX0_payWhole cX0_payWhole 4 (some .int) 2 [.ref (Z.2.2 1), .int (nI i), .int (nI c)] (wC Z n toll paid coin debt fall shr mat rgt pen last below) (some (.int (nI (pwN coin debt i c)))) (wC Z n toll (pwP paid coin debt i c) (pwC coin debt i c) (pwD coin debt i c) fall shr mat rgt pen last below) := by
  refine MM.intro (by decide) [some (.ref (Z.2.2 1)), some (.int (nI i)), some (.int (nI c)), none] rfl (Nat.le_of_ble_eq_true rfl) (fun X (h : OK Z X cX0_payWhole RX0 4 (rmd 2)) hr => ?_)
  refine g_aload_n (i := 0) h dX0_payWhole_0 rfl rfl (pc' := 1) rfl ?_
  refine g_iload_n (i := 1) h dX0_payWhole_1 rfl rfl (pc' := 2) rfl ?_
  refine g_iload_n (i := 2) h dX0_payWhole_2 rfl rfl (pc' := 3) rfl ?_
  refine g_callV1 (q0 := 1) h dX0_payWhole_3 cf_X0_36 (M_X0_owed (i := i) (c := c) (by omega) (by omega)) rfl rfl rfl rfl (by decide) rfl (Nat.le_of_ble_eq_true rfl) (pc' := 6) rfl ?_
  refine g_istore3 h dX0_payWhole_6 rfl (by decide) (pc' := 7) rfl ?_
  refine g_iload_n (i := 3) h dX0_payWhole_7 rfl rfl (pc' := 8) rfl ?_
  refine g_if_eq (tg := 20) h dX0_payWhole_8 (by decide) (pc' := 11) rfl (fun c1 => ?_) (fun c1 => ?_)
  · skip
    refine g_iconst (v := nI 0) h dX0_payWhole_20 (by decide) (pc' := 21) rfl ?_
    exact g_iret h hr dX0_payWhole_21 (by have hp : ¬ pays coin debt i c := fun q => (by first | exact q.1 c1 | exact c2 q.2); simp only [pwN, if_neg hp]) (by have hp : ¬ pays coin debt i c := fun q => (by first | exact q.1 c1 | exact c2 q.2); simp only [pwP, pwC, pwD, if_neg hp, if_neg (fun q : pays coin debt i c ∧ c = 4 => hp q.1)])
  · skip
    refine g_aload_n (i := 0) h dX0_payWhole_11 rfl rfl (pc' := 12) rfl ?_
    refine g_iload_n (i := 1) h dX0_payWhole_12 rfl rfl (pc' := 13) rfl ?_
    refine g_callV1 (q0 := 1) h dX0_payWhole_13 cf_X0_40 (M_X0_coins (i := i) (by omega)) rfl rfl rfl rfl (by decide) rfl (Nat.le_of_ble_eq_true rfl) (pc' := 16) rfl ?_
    refine g_iload_n (i := 3) h dX0_payWhole_16 rfl rfl (pc' := 17) rfl ?_
    refine g_icmp_ge (tg := 22) h dX0_payWhole_17 (by decide) (pc' := 20) rfl (fun c2 => ?_) (fun c2 => ?_)
    · skip
      refine g_aload_n (i := 0) h dX0_payWhole_22 rfl rfl (pc' := 23) rfl ?_
      refine g_iload_n (i := 1) h dX0_payWhole_23 rfl rfl (pc' := 24) rfl ?_
      refine g_iload_n (i := 2) h dX0_payWhole_24 rfl rfl (pc' := 25) rfl ?_
      refine g_iconst (v := nI 0) h dX0_payWhole_25 (by decide) (pc' := 26) rfl ?_
      refine g_callV0 (q0 := 1) h dX0_payWhole_26 cf_X0_61 (M_X0_setOwed (i := i) (c := c) (v := nI 0) (by omega) (by omega)) rfl rfl rfl rfl (by decide) rfl (Nat.le_of_ble_eq_true rfl) (pc' := 29) rfl ?_
      refine g_aload_n (i := 0) h dX0_payWhole_29 rfl rfl (pc' := 30) rfl ?_
      refine g_iload_n (i := 1) h dX0_payWhole_30 rfl rfl (pc' := 31) rfl ?_
      refine g_aload_n (i := 0) h dX0_payWhole_31 rfl rfl (pc' := 32) rfl ?_
      refine g_iload_n (i := 1) h dX0_payWhole_32 rfl rfl (pc' := 33) rfl ?_
      refine g_callV1 (q0 := 1) h dX0_payWhole_33 cf_X0_40 (M_X0_coins (i := i) (by omega)) rfl rfl rfl rfl (by decide) rfl (Nat.le_of_ble_eq_true rfl) (pc' := 36) rfl ?_
      refine g_iload_n (i := 3) h dX0_payWhole_36 rfl rfl (pc' := 37) rfl ?_
      refine g_isub h dX0_payWhole_37 (pc' := 38) rfl ?_
      refine g_callV0 (q0 := 1) h dX0_payWhole_38 cf_X0_65 (M_X0_setCoins (i := i) (v := (coin i) - (debt (i * 5 + c))) (by omega)) rfl rfl rfl rfl (by decide) rfl (Nat.le_of_ble_eq_true rfl) (pc' := 41) rfl ?_
      refine g_iload_n (i := 2) h dX0_payWhole_41 rfl rfl (pc' := 42) rfl ?_
      refine g_iconst (v := nI 4) h dX0_payWhole_42 (by decide) (pc' := 43) rfl ?_
      refine g_icmp_ne (tg := 59) h dX0_payWhole_43 (by decide) (pc' := 46) rfl (fun c3 => ?_) (fun c3 => ?_)
      · skip
        have hc4 : ¬ c = 4 := fun q => c3 (by rw [q])
        refine g_aload_n (i := 0) h dX0_payWhole_59 rfl rfl (pc' := 60) rfl ?_
        refine g_iload_n (i := 2) h dX0_payWhole_60 rfl rfl (pc' := 61) rfl ?_
        refine g_aload_n (i := 0) h dX0_payWhole_61 rfl rfl (pc' := 62) rfl ?_
        refine g_iload_n (i := 2) h dX0_payWhole_62 rfl rfl (pc' := 63) rfl ?_
        refine g_callV1 (q0 := 1) h dX0_payWhole_63 cf_X0_40 (M_X0_coins (i := c) (by omega)) rfl rfl rfl rfl (by decide) rfl (Nat.le_of_ble_eq_true rfl) (pc' := 66) rfl ?_
        refine g_iload_n (i := 3) h dX0_payWhole_66 rfl rfl (pc' := 67) rfl ?_
        refine g_iadd h dX0_payWhole_67 (pc' := 68) rfl ?_
        refine g_callV0 (q0 := 1) h dX0_payWhole_68 cf_X0_65 (M_X0_setCoins (i := c) (v := ((upd coin i ((coin i) - (debt (i * 5 + c)))) c) + (debt (i * 5 + c))) (by omega)) rfl rfl rfl rfl (by decide) rfl (Nat.le_of_ble_eq_true rfl) (pc' := 71) rfl ?_
        refine g_iconst (v := nI 1) h dX0_payWhole_71 (by decide) (pc' := 72) rfl ?_
        exact g_iret h hr dX0_payWhole_72 (by have hp : pays coin debt i c := ⟨c1, c2⟩; simp only [pwN, if_pos hp]) (by have hp : pays coin debt i c := ⟨c1, c2⟩; first | (simp only [pwP, pwC, pwC1, pwD, if_pos hp, if_pos hc4, if_pos (And.intro hp hc4)]; done) | simp only [pwP, pwC, pwC1, pwD, if_pos hp, if_neg hc4, if_neg (fun q : pays coin debt i c ∧ c = 4 => hc4 q.2)])
      · skip
        have hc4 : c = 4 := (nI_eq (by omega) (by omega)).mp c3
        refine g_aload_n (i := 0) h dX0_payWhole_46 rfl rfl (pc' := 47) rfl ?_
        refine g_dupR h dX0_payWhole_47 (pc' := 48) rfl ?_
        refine gf_X0_18 h dX0_payWhole_48 (pc' := 51) rfl ?_
        refine g_iload_n (i := 3) h dX0_payWhole_51 rfl rfl (pc' := 52) rfl ?_
        refine g_iadd h dX0_payWhole_52 (pc' := 53) rfl ?_
        refine pf_X0_18 h dX0_payWhole_53 (pc' := 56) rfl ?_
        refine g_goto (pc' := 71) h dX0_payWhole_56 (by decide) ?_
        refine g_iconst (v := nI 1) h dX0_payWhole_71 (by decide) (pc' := 72) rfl ?_
        exact g_iret h hr dX0_payWhole_72 (by have hp : pays coin debt i c := ⟨c1, c2⟩; simp only [pwN, if_pos hp]) (by have hp : pays coin debt i c := ⟨c1, c2⟩; first | (simp only [pwP, pwC, pwC1, pwD, if_pos hp, if_pos hc4, if_pos (And.intro hp hc4)]; done) | simp only [pwP, pwC, pwC1, pwD, if_pos hp, if_neg hc4, if_neg (fun q : pays coin debt i c ∧ c = 4 => hc4 q.2)])
    · skip
      refine g_iconst (v := nI 0) h dX0_payWhole_20 (by decide) (pc' := 21) rfl ?_
      exact g_iret h hr dX0_payWhole_21 (by have hp : ¬ pays coin debt i c := fun q => (by first | exact q.1 c1 | exact c2 q.2); simp only [pwN, if_neg hp]) (by have hp : ¬ pays coin debt i c := fun q => (by first | exact q.1 c1 | exact c2 q.2); simp only [pwP, pwC, pwD, if_neg hp, if_neg (fun q : pays coin debt i c ∧ c = 4 => hp q.1)])
set_option maxRecDepth 20000 in
set_option maxHeartbeats 4000000 in
theorem M_X0_passDay {Z : ZT} {n : Int32} {toll : Int32} {paid : Int32} {coin : Nat → Int32} {debt : Nat → Int32} {fall : Nat → Int32} {shr : Nat → Int64} {mat : Nat → Int64} {rgt : Nat → Int64} {pen : Int32} {last : Int32} {below : Int64}    : MM Z yX0_passDay cX0_passDay 4 (some .int) 3 [.ref (Z.2.2 1)] (wC Z n toll paid coin debt fall shr mat rgt pen last below) (some (.int (nI ((pDay 4 (0, paid, coin, debt)).1)))) (wC Z n toll ((pDay 4 (0, paid, coin, debt)).2.1) ((pDay 4 (0, paid, coin, debt)).2.2.1) ((pDay 4 (0, paid, coin, debt)).2.2.2) fall shr mat rgt pen last below) := by
  refine MM.intro (by decide) [some (.ref (Z.2.2 1)), none, none, none] rfl (Nat.le_of_ble_eq_true rfl) (fun X (h : OK Z X cX0_passDay RX0 4 (rmd 3)) hr => ?_)
  refine g_iconst (v := nI 0) h dX0_passDay_0 (by decide) (pc' := 1) rfl ?_
  refine g_istore1 h dX0_passDay_1 rfl (by decide) (pc' := 2) rfl ?_
  refine g_iconst (v := nI 0) h dX0_passDay_2 (by decide) (pc' := 3) rfl ?_
  refine g_istore2 h dX0_passDay_3 rfl (by decide) (pc' := 4) rfl ?_
  refine GG.castW (lp (P := fun i => GG Z X 4 [some (.ref (Z.2.2 1)), some (.int (nI ((pDay i (0, paid, coin, debt)).1))), some (.int (nI i)), none] [] (wC Z n toll ((pDay i (0, paid, coin, debt)).2.1) ((pDay i (0, paid, coin, debt)).2.2.1) ((pDay i (0, paid, coin, debt)).2.2.2) fall shr mat rgt pen last below)) 4 ?_ ?_) ⟨rfl, rfl, rfl, trivial⟩ rfl rfl
  · skip
    refine g_iload_n (i := 2) h dX0_passDay_4 rfl rfl (pc' := 5) rfl ?_
    refine g_iconst (v := nI 4) h dX0_passDay_5 (by decide) (pc' := 6) rfl ?_
    refine g_icmp_geT (tg := 46) h dX0_passDay_6 (by decide) (Int32.le_refl _) ?_
    refine g_iload_n (i := 1) h dX0_passDay_46 rfl rfl (pc' := 47) rfl ?_
    exact g_iret h hr dX0_passDay_47 rfl rfl
  · intro i hi ih4
    refine g_iload_n (i := 2) h dX0_passDay_4 rfl rfl (pc' := 5) rfl ?_
    refine g_iconst (v := nI 4) h dX0_passDay_5 (by decide) (pc' := 6) rfl ?_
    refine g_icmp_geF (tg := 46) h dX0_passDay_6 (by decide) (pc' := 9) rfl (nI_ge hi (by omega)) ?_
    refine g_iload_n (i := 1) h dX0_passDay_9 rfl rfl (pc' := 10) rfl ?_
    refine g_aload_n (i := 0) h dX0_passDay_10 rfl rfl (pc' := 11) rfl ?_
    refine g_iload_n (i := 2) h dX0_passDay_11 rfl rfl (pc' := 12) rfl ?_
    refine g_iconst (v := nI 4) h dX0_passDay_12 (by decide) (pc' := 13) rfl ?_
    refine g_callV1 (q0 := 1) h dX0_passDay_13 cf_X0_58 (M_X0_payWhole (i := i) (c := 4) (by omega) (by omega)) rfl rfl rfl rfl (by decide) rfl (Nat.le_of_ble_eq_true rfl) (pc' := 16) rfl ?_
    refine g_iaddN h dX0_passDay_16 (pc' := 17) rfl ?_
    refine g_istore1 h dX0_passDay_17 rfl (by decide) (pc' := 18) rfl ?_
    refine g_iconst (v := nI 0) h dX0_passDay_18 (by decide) (pc' := 19) rfl ?_
    refine g_istore3 h dX0_passDay_19 rfl (by decide) (pc' := 20) rfl ?_
    refine GG.castW (lp (P := fun j => GG Z X 20 [some (.ref (Z.2.2 1)), some (.int (nI ((pRow i j (pDay i (0, paid, coin, debt))).1))), some (.int (nI i)), some (.int (nI j))] [] (wC Z n toll ((pRow i j (pDay i (0, paid, coin, debt))).2.1) ((pRow i j (pDay i (0, paid, coin, debt))).2.2.1) ((pRow i j (pDay i (0, paid, coin, debt))).2.2.2) fall shr mat rgt pen last below)) 4 ?_ ?_) ⟨rfl, rfl, rfl, rfl, trivial⟩ rfl rfl
    · skip
      refine g_iload_n (i := 3) h dX0_passDay_20 rfl rfl (pc' := 21) rfl ?_
      refine g_iconst (v := nI 4) h dX0_passDay_21 (by decide) (pc' := 22) rfl ?_
      refine g_icmp_geT (tg := 40) h dX0_passDay_22 (by decide) (Int32.le_refl _) ?_
      refine g_iinc2 (v := nI (i + 1)) h dX0_passDay_40 rfl (inc1 i) (by decide) (pc' := 43) rfl ?_
      refine g_goto (pc' := 4) h dX0_passDay_43 (by decide) ?_
      exact GG.castW ih4 ⟨rfl, rfl, rfl, trivial⟩ rfl rfl
    · intro j hj ih20
      refine g_iload_n (i := 3) h dX0_passDay_20 rfl rfl (pc' := 21) rfl ?_
      refine g_iconst (v := nI 4) h dX0_passDay_21 (by decide) (pc' := 22) rfl ?_
      refine g_icmp_geF (tg := 40) h dX0_passDay_22 (by decide) (pc' := 25) rfl (nI_ge hj (by omega)) ?_
      refine g_iload_n (i := 1) h dX0_passDay_25 rfl rfl (pc' := 26) rfl ?_
      refine g_aload_n (i := 0) h dX0_passDay_26 rfl rfl (pc' := 27) rfl ?_
      refine g_iload_n (i := 2) h dX0_passDay_27 rfl rfl (pc' := 28) rfl ?_
      refine g_iload_n (i := 3) h dX0_passDay_28 rfl rfl (pc' := 29) rfl ?_
      refine g_callV1 (q0 := 1) h dX0_passDay_29 cf_X0_58 (M_X0_payWhole (i := i) (c := j) (by omega) (by omega)) rfl rfl rfl rfl (by decide) rfl (Nat.le_of_ble_eq_true rfl) (pc' := 32) rfl ?_
      refine g_iaddN h dX0_passDay_32 (pc' := 33) rfl ?_
      refine g_istore1 h dX0_passDay_33 rfl (by decide) (pc' := 34) rfl ?_
      refine g_iinc3 (v := nI (j + 1)) h dX0_passDay_34 rfl (inc1 j) (by decide) (pc' := 37) rfl ?_
      refine g_goto (pc' := 20) h dX0_passDay_37 (by decide) ?_
      exact GG.castW ih20 ⟨rfl, rfl, rfl, rfl, trivial⟩ rfl rfl

def uC (pen : Int32) (coin : Nat → Int32) (i : Nat) : Int32 := if nI i = pen then nI 0 else coin i
abbrev fl (fall : Nat → Int32) (i : Nat) : Prop := ¬ fall i ≤ 0
def gA (below : Int64) (pen : Int32) (coin debt : Nat → Int32) (shr : Nat → Int64) (i : Nat) : Nat → Int64
  | 0 => below * (uC pen coin i).toInt64
  | j + 1 => gA below pen coin debt shr i j + shr j * (debt (j * 5 + i)).toInt64
abbrev aC (below : Int64) (pen : Int32) (coin debt : Nat → Int32) (shr : Nat → Int64) (fall : Nat → Int32) (i : Nat) : Prop := ¬ fl fall i ∧ ¬ below * (oB debt i).toInt64 ≤ gA below pen coin debt shr i 4
def aF (r : Int32) (below : Int64) (pen : Int32) (coin debt : Nat → Int32) (shr : Nat → Int64) (fall : Nat → Int32) : Nat → Nat → Int32
  | 0 => fall
  | i + 1 => if aC below pen coin debt shr (aF r below pen coin debt shr fall i) i then upd (aF r below pen coin debt shr fall i) i r else aF r below pen coin debt shr fall i
def aA (r : Int32) (below : Int64) (pen : Int32) (coin debt : Nat → Int32) (shr : Nat → Int64) (fall : Nat → Int32) : Nat → Nat
  | 0 => 0
  | i + 1 => if aC below pen coin debt shr (aF r below pen coin debt shr fall i) i then 1 else aA r below pen coin debt shr fall i
theorem aA_le {r : Int32} {below : Int64} {pen : Int32} {coin debt : Nat → Int32} {shr : Nat → Int64} {fall : Nat → Int32} : ∀ n, aA r below pen coin debt shr fall n ≤ 1
  | 0 => Nat.zero_le _
  | n + 1 => by
    rw [aA]
    split
    · exact Nat.le_refl _
    · exact aA_le n
theorem nar01 {x : Nat} (h : x ≤ 1) : narrow .boolean (.int (nI x)) = .int (nI x) := by
  rcases (show x = 0 ∨ x = 1 by omega) with rfl | rfl <;> rfl
def wM (toll : Int32) (debt fall : Nat → Int32) (mat : Nat → Int64) (i : Nat) : Nat → Nat → Int64
  | 0 => mat
  | j + 1 => vp_updL (wM toll debt fall mat i j) (i * 4 + j) (if fl fall i then (-(nI 10 - toll) * debt (j * 5 + i)).toInt64 else 0)
def wMd (toll : Int32) (debt fall : Nat → Int32) (mat : Nat → Int64) (i : Nat) : Nat → Int64 := vp_updL (wM toll debt fall mat i 4) (i * 4 + i) (if fl fall i then (nI 10 * oB debt i).toInt64 else 1)
def wRt (toll pen : Int32) (coin fall : Nat → Int32) (rgt : Nat → Int64) (i : Nat) : Nat → Int64 := vp_updL rgt i (if fl fall i then ((nI 10 - toll) * uC pen coin i).toInt64 else 1)
def en (mat rgt : Nat → Int64) (p : Int32) (r c : Nat) : Int64 := if nI c = p then rgt r else mat (r * 4 + c)
def mi (mat rgt : Nat → Int64) (p : Int32) (r a b : Nat) : Int64 := en mat rgt p r a * en mat rgt p (r + 1) b - en mat rgt p r b * en mat rgt p (r + 1) a
def dt (mat rgt : Nat → Int64) (p : Int32) : Int64 := mi mat rgt p 0 0 1 * mi mat rgt p 2 2 3 - mi mat rgt p 0 0 2 * mi mat rgt p 2 1 3 + mi mat rgt p 0 0 3 * mi mat rgt p 2 1 2 + mi mat rgt p 0 1 2 * mi mat rgt p 2 0 3 - mi mat rgt p 0 1 3 * mi mat rgt p 2 0 2 + mi mat rgt p 0 2 3 * mi mat rgt p 2 0 1
abbrev mT : Type := (Nat → Int64) × (Nat → Int64)
def wEs (toll pen : Int32) (coin debt fall : Nat → Int32) (m : mT) : Nat → mT
  | 0 => m
  | i + 1 => (wMd toll debt fall (wEs toll pen coin debt fall m i).1 i, wRt toll pen coin fall (wEs toll pen coin debt fall m i).2 i)
def sS (mat rgt shr : Nat → Int64) : Nat → Nat → Int64
  | 0 => shr
  | i + 1 => vp_updL (sS mat rgt shr i) i (dt mat rgt (nI i))
def oS (f : Nat → Int64) (j : Nat) : Nat → Int64 := fun k => if k < j then 1 else f k
theorem oS_0 (f : Nat → Int64) : oS f 0 = f := by funext k; simp [oS]
theorem oS_s (f : Nat → Int64) (j : Nat) : vp_updL (oS f j) j 1 = oS f (j + 1) := by
  funext k
  simp only [vp_updL, oS]
  by_cases h : k = j
  · subst h; simp
  · by_cases h2 : k < j
    · simp [h, h2, Nat.lt_succ_of_lt h2]
    · simp [h, h2, show ¬ k < j + 1 by omega]
/-- who fell when, the shares, the equations, the last round, the number below -/
abbrev cT : Type := (Nat → Int32) × (Nat → Int64) × (Nat → Int64) × (Nat → Int64) × Int32 × Int64
/-- the shares anew, in round r -/
def slv (toll pen : Int32) (coin debt : Nat → Int32) (fall : Nat → Int32) (r : Int32) (s : cT) : cT :=
  let m := wEs toll pen coin debt fall (s.2.2.1, s.2.2.2.1) 4
  (fall, sS m.1 m.2 s.2.1 4, m.1, m.2, r, dt m.1 m.2 (-1))
def stl (toll pen : Int32) (coin debt : Nat → Int32) : Nat → Nat → cT → cT
  | 0, _, s => s
  | k + 1, r, s => if nI (aA (nI r) s.2.2.2.2.2 pen coin debt s.2.1 s.1 4) = 0 then (aF (nI r) s.2.2.2.2.2 pen coin debt s.2.1 s.1 4, s.2) else
      stl toll pen coin debt k (r + 1) (slv toll pen coin debt (aF (nI r) s.2.2.2.2.2 pen coin debt s.2.1 s.1 4) (nI r) s)
/-- cleared, with house p without its coins -/
def cst (toll pen : Int32) (coin debt : Nat → Int32) (fall : Nat → Int32) (shr mat rgt : Nat → Int64) : cT := stl toll pen coin debt 4 1 (zf fall 4, oS shr 4, mat, rgt, nI 0, 1)
def fC (fall : Nat → Int32) : Nat → Nat
  | 0 => 0
  | i + 1 => if fl fall i then fC fall i + 1 else fC fall i
def lA (toll : Int32) (below : Int64) (pen : Int32) (coin debt : Nat → Int32) (shr : Nat → Int64) (fall : Nat → Int32) : Nat → Int64
  | 0 => 0
  | i + 1 => if fl fall i then lA toll below pen coin debt shr fall i + gA below pen coin debt shr i 4 * toll.toInt64 else lA toll below pen coin debt shr fall i
set_option maxRecDepth 20000 in
set_option maxHeartbeats 4000000 in
theorem M_X1_usableCoins {Z : ZT} {n : Int32} {toll : Int32} {paid : Int32} {coin : Nat → Int32} {debt : Nat → Int32} {fall : Nat → Int32} {shr : Nat → Int64} {mat : Nat → Int64} {rgt : Nat → Int64} {pen : Int32} {last : Int32} {below : Int64} {i : Nat}  (g0 : i < 4) : MM Z yX1_usableCoins cX1_usableCoins 2 (some .int) 2 [.ref (Z.2.2 2), .int (nI i)] (wC Z n toll paid coin debt fall shr mat rgt pen last below) (some (.int (uC pen coin i))) (wC Z n toll paid coin debt fall shr mat rgt pen last below) := by
  refine MM.intro (by decide) [some (.ref (Z.2.2 2)), some (.int (nI i))] rfl (Nat.le_of_ble_eq_true rfl) (fun X (h : OK Z X cX1_usableCoins RX1 2 (rmd 2)) hr => ?_)
  refine g_iload_n (i := 1) h dX1_usableCoins_0 rfl rfl (pc' := 1) rfl ?_
  refine g_aload_n (i := 0) h dX1_usableCoins_1 rfl rfl (pc' := 2) rfl ?_
  refine gf_X1_25 h dX1_usableCoins_2 (pc' := 5) rfl ?_
  refine g_icmp_ne (tg := 12) h dX1_usableCoins_5 (by decide) (pc' := 8) rfl (fun c1 => ?_) (fun c1 => ?_)
  · skip
    refine g_aload_n (i := 0) h dX1_usableCoins_12 rfl rfl (pc' := 13) rfl ?_
    refine gf_X1_36 h dX1_usableCoins_13 (pc' := 16) rfl ?_
    refine g_iload_n (i := 1) h dX1_usableCoins_16 rfl rfl (pc' := 17) rfl ?_
    refine g_callV1 (q0 := 1) h dX1_usableCoins_17 cf_X1_71 (M_X0_coins (i := i) (by omega)) rfl rfl rfl rfl (by decide) rfl (Nat.le_of_ble_eq_true rfl) (pc' := 20) rfl ?_
    exact g_iret h hr dX1_usableCoins_20 (by simp only [uC, if_neg c1]) rfl
  · skip
    refine g_iconst (v := nI 0) h dX1_usableCoins_8 (by decide) (pc' := 9) rfl ?_
    refine g_goto (pc' := 20) h dX1_usableCoins_9 (by decide) ?_
    exact g_iret h hr dX1_usableCoins_20 (by simp only [uC, if_pos c1]) rfl
set_option maxRecDepth 20000 in
set_option maxHeartbeats 4000000 in
theorem M_X1_roundOfFall {Z : ZT} {n : Int32} {toll : Int32} {paid : Int32} {coin : Nat → Int32} {debt : Nat → Int32} {fall : Nat → Int32} {shr : Nat → Int64} {mat : Nat → Int64} {rgt : Nat → Int64} {pen : Int32} {last : Int32} {below : Int64} {i : Nat}  (g0 : i < 4) : MM Z yX1_roundOfFall cX1_roundOfFall 2 (some .int) 1 [.ref (Z.2.2 2), .int (nI i)] (wC Z n toll paid coin debt fall shr mat rgt pen last below) (some (.int (fall i))) (wC Z n toll paid coin debt fall shr mat rgt pen last below) := by
  refine MM.intro (by decide) [some (.ref (Z.2.2 2)), some (.int (nI i))] rfl (Nat.le_of_ble_eq_true rfl) (fun X (h : OK Z X cX1_roundOfFall RX1 2 (rmd 1)) hr => ?_)
  refine g_aload_n (i := 0) h dX1_roundOfFall_0 rfl rfl (pc' := 1) rfl ?_
  refine gf_X1_9 h dX1_roundOfFall_1 (pc' := 4) rfl ?_
  refine g_iload_n (i := 1) h dX1_roundOfFall_4 rfl rfl (pc' := 5) rfl ?_
  refine g_callN1 h dX1_roundOfFall_5 cf_X1_103 (M_X3_at_6 (k := i) (by omega)) rfl (by decide) rfl (Nat.le_of_ble_eq_true rfl) (pc' := 8) rfl ?_
  exact g_iret h hr dX1_roundOfFall_8 rfl rfl
set_option maxRecDepth 20000 in
set_option maxHeartbeats 4000000 in
theorem M_X1_isFallen {Z : ZT} {n : Int32} {toll : Int32} {paid : Int32} {coin : Nat → Int32} {debt : Nat → Int32} {fall : Nat → Int32} {shr : Nat → Int64} {mat : Nat → Int64} {rgt : Nat → Int64} {pen : Int32} {last : Int32} {below : Int64} {i : Nat}  (g0 : i < 4) : MM Z yX1_isFallen cX1_isFallen 2 (some .boolean) 2 [.ref (Z.2.2 2), .int (nI i)] (wC Z n toll paid coin debt fall shr mat rgt pen last below) (some (.int (bI (fl fall i)))) (wC Z n toll paid coin debt fall shr mat rgt pen last below) := by
  refine MM.intro (by decide) [some (.ref (Z.2.2 2)), some (.int (nI i))] rfl (Nat.le_of_ble_eq_true rfl) (fun X (h : OK Z X cX1_isFallen RX1 2 (rmd 2)) hr => ?_)
  refine g_aload_n (i := 0) h dX1_isFallen_0 rfl rfl (pc' := 1) rfl ?_
  refine g_iload_n (i := 1) h dX1_isFallen_1 rfl rfl (pc' := 2) rfl ?_
  refine g_callV1 (q0 := 2) h dX1_isFallen_2 cf_X1_68 (M_X1_roundOfFall (i := i) (by omega)) rfl rfl rfl rfl (by decide) rfl (Nat.le_of_ble_eq_true rfl) (pc' := 5) rfl ?_
  refine g_if_le (tg := 12) h dX1_isFallen_5 (by decide) (pc' := 8) rfl (fun c1 => ?_) (fun c1 => ?_)
  · skip
    refine g_iconst (v := nI 0) h dX1_isFallen_12 (by decide) (pc' := 13) rfl ?_
    exact g_zret h hr dX1_isFallen_13 (by decide) (by simp [bI, fl, c1, nI0, nI1]) rfl
  · skip
    refine g_iconst (v := nI 1) h dX1_isFallen_8 (by decide) (pc' := 9) rfl ?_
    refine g_goto (pc' := 13) h dX1_isFallen_9 (by decide) ?_
    exact g_zret h hr dX1_isFallen_13 (by decide) (by simp [bI, fl, c1, nI0, nI1]) rfl
set_option maxRecDepth 20000 in
set_option maxHeartbeats 4000000 in
theorem M_X1_shareAbove {Z : ZT} {n : Int32} {toll : Int32} {paid : Int32} {coin : Nat → Int32} {debt : Nat → Int32} {fall : Nat → Int32} {shr : Nat → Int64} {mat : Nat → Int64} {rgt : Nat → Int64} {pen : Int32} {last : Int32} {below : Int64} {i : Nat}  (g0 : i < 4) : MM Z yX1_shareAbove cX1_shareAbove 2 (some .long) 1 [.ref (Z.2.2 2), .int (nI i)] (wC Z n toll paid coin debt fall shr mat rgt pen last below) (some (.long (shr i))) (wC Z n toll paid coin debt fall shr mat rgt pen last below) := by
  refine MM.intro (by decide) [some (.ref (Z.2.2 2)), some (.int (nI i))] rfl (Nat.le_of_ble_eq_true rfl) (fun X (h : OK Z X cX1_shareAbove RX1 2 (rmd 1)) hr => ?_)
  refine g_aload_n (i := 0) h dX1_shareAbove_0 rfl rfl (pc' := 1) rfl ?_
  refine gf_X1_15 h dX1_shareAbove_1 (pc' := 4) rfl ?_
  refine g_iload_n (i := 1) h dX1_shareAbove_4 rfl rfl (pc' := 5) rfl ?_
  refine g_callN1 h dX1_shareAbove_5 cf_X1_99 (M_X3_longAt_7 (k := i) (by omega)) rfl (by decide) rfl (Nat.le_of_ble_eq_true rfl) (pc' := 8) rfl ?_
  exact g_lret h hr dX1_shareAbove_8 rfl rfl
set_option maxRecDepth 20000 in
set_option maxHeartbeats 4000000 in
theorem M_X1_grossAbove {Z : ZT} {n : Int32} {toll : Int32} {paid : Int32} {coin : Nat → Int32} {debt : Nat → Int32} {fall : Nat → Int32} {shr : Nat → Int64} {mat : Nat → Int64} {rgt : Nat → Int64} {pen : Int32} {last : Int32} {below : Int64} {i : Nat}  (g0 : i < 4) : MM Z yX1_grossAbove cX1_grossAbove 5 (some .long) 3 [.ref (Z.2.2 2), .int (nI i)] (wC Z n toll paid coin debt fall shr mat rgt pen last below) (some (.long (gA below pen coin debt shr i 4))) (wC Z n toll paid coin debt fall shr mat rgt pen last below) := by
  refine MM.intro (by decide) [some (.ref (Z.2.2 2)), some (.int (nI i)), none, none, none] rfl (Nat.le_of_ble_eq_true rfl) (fun X (h : OK Z X cX1_grossAbove RX1 5 (rmd 3)) hr => ?_)
  refine g_aload_n (i := 0) h dX1_grossAbove_0 rfl rfl (pc' := 1) rfl ?_
  refine gf_X1_32 h dX1_grossAbove_1 (pc' := 4) rfl ?_
  refine g_aload_n (i := 0) h dX1_grossAbove_4 rfl rfl (pc' := 5) rfl ?_
  refine g_iload_n (i := 1) h dX1_grossAbove_5 rfl rfl (pc' := 6) rfl ?_
  refine g_callV1 (q0 := 2) h dX1_grossAbove_6 cf_X1_88 (M_X1_usableCoins (i := i) (by omega)) rfl rfl rfl rfl (by decide) rfl (Nat.le_of_ble_eq_true rfl) (pc' := 9) rfl ?_
  refine g_i2l h dX1_grossAbove_9 (pc' := 10) rfl ?_
  refine g_lmul h dX1_grossAbove_10 (pc' := 11) rfl ?_
  refine g_lstore2 h dX1_grossAbove_11 rfl (by decide) (pc' := 12) rfl ?_
  refine g_iconst (v := nI 0) h dX1_grossAbove_12 (by decide) (pc' := 13) rfl ?_
  refine g_istore4 h dX1_grossAbove_13 rfl (by decide) (pc' := 15) rfl ?_
  refine GG.castW (lp (P := fun j => GG Z X 15 [some (.ref (Z.2.2 2)), some (.int (nI i)), some (.long (gA below pen coin debt shr i j)), none, some (.int (nI j))] [] (wC Z n toll paid coin debt fall shr mat rgt pen last below)) 4 ?_ ?_) ⟨rfl, rfl, rfl, rfl, trivial⟩ rfl rfl
  · skip
    refine g_iload h dX1_grossAbove_15 rfl (pc' := 17) rfl ?_
    refine g_iconst (v := nI 4) h dX1_grossAbove_17 (by decide) (pc' := 18) rfl ?_
    refine g_icmp_geT (tg := 48) h dX1_grossAbove_18 (by decide) (Int32.le_refl _) ?_
    refine g_lload_n (i := 2) h dX1_grossAbove_48 rfl rfl (pc' := 49) rfl ?_
    exact g_lret h hr dX1_grossAbove_49 rfl rfl
  · intro j hj ih15
    refine g_iload h dX1_grossAbove_15 rfl (pc' := 17) rfl ?_
    refine g_iconst (v := nI 4) h dX1_grossAbove_17 (by decide) (pc' := 18) rfl ?_
    refine g_icmp_geF (tg := 48) h dX1_grossAbove_18 (by decide) (pc' := 21) rfl (nI_ge hj (by omega)) ?_
    refine g_lload_n (i := 2) h dX1_grossAbove_21 rfl rfl (pc' := 22) rfl ?_
    refine g_aload_n (i := 0) h dX1_grossAbove_22 rfl rfl (pc' := 23) rfl ?_
    refine g_iload h dX1_grossAbove_23 rfl (pc' := 25) rfl ?_
    refine g_callV1 (q0 := 2) h dX1_grossAbove_25 cf_X1_107 (M_X1_shareAbove (i := j) (by omega)) rfl rfl rfl rfl (by decide) rfl (Nat.le_of_ble_eq_true rfl) (pc' := 28) rfl ?_
    refine g_aload_n (i := 0) h dX1_grossAbove_28 rfl rfl (pc' := 29) rfl ?_
    refine gf_X1_36 h dX1_grossAbove_29 (pc' := 32) rfl ?_
    refine g_iload h dX1_grossAbove_32 rfl (pc' := 34) rfl ?_
    refine g_iload_n (i := 1) h dX1_grossAbove_34 rfl rfl (pc' := 35) rfl ?_
    refine g_callV1 (q0 := 1) h dX1_grossAbove_35 cf_X1_84 (M_X0_owed (i := j) (c := i) (by omega) (by omega)) rfl rfl rfl rfl (by decide) rfl (Nat.le_of_ble_eq_true rfl) (pc' := 38) rfl ?_
    refine g_i2l h dX1_grossAbove_38 (pc' := 39) rfl ?_
    refine g_lmul h dX1_grossAbove_39 (pc' := 40) rfl ?_
    refine g_ladd h dX1_grossAbove_40 (pc' := 41) rfl ?_
    refine g_lstore2 h dX1_grossAbove_41 rfl (by decide) (pc' := 42) rfl ?_
    refine g_iinc4 (v := nI (j + 1)) h dX1_grossAbove_42 rfl (inc1 j) (by decide) (pc' := 45) rfl ?_
    refine g_goto (pc' := 15) h dX1_grossAbove_45 (by decide) ?_
    exact GG.castW ih15 ⟨rfl, rfl, rfl, rfl, trivial⟩ rfl rfl
set_option maxRecDepth 20000 in
set_option maxHeartbeats 4000000 in
theorem M_X1_anyFallIn {Z : ZT} {n : Int32} {toll : Int32} {paid : Int32} {coin : Nat → Int32} {debt : Nat → Int32} {fall : Nat → Int32} {shr : Nat → Int64} {mat : Nat → Int64} {rgt : Nat → Int64} {pen : Int32} {last : Int32} {below : Int64} {r : Nat}   : MM Z yX1_anyFallIn cX1_anyFallIn 4 (some .boolean) 4 [.ref (Z.2.2 2), .int (nI r)] (wC Z n toll paid coin debt fall shr mat rgt pen last below) (some (.int (nI (aA (nI r) below pen coin debt shr fall 4)))) (wC Z n toll paid coin debt (aF (nI r) below pen coin debt shr fall 4) shr mat rgt pen last below) := by
  refine MM.intro (by decide) [some (.ref (Z.2.2 2)), some (.int (nI r)), none, none] rfl (Nat.le_of_ble_eq_true rfl) (fun X (h : OK Z X cX1_anyFallIn RX1 4 (rmd 4)) hr => ?_)
  refine g_iconst (v := nI 0) h dX1_anyFallIn_0 (by decide) (pc' := 1) rfl ?_
  refine g_istore2 h dX1_anyFallIn_1 rfl (by decide) (pc' := 2) rfl ?_
  refine g_iconst (v := nI 0) h dX1_anyFallIn_2 (by decide) (pc' := 3) rfl ?_
  refine g_istore3 h dX1_anyFallIn_3 rfl (by decide) (pc' := 4) rfl ?_
  refine GG.castW (lp (P := fun j => GG Z X 4 [some (.ref (Z.2.2 2)), some (.int (nI r)), some (.int (nI (aA (nI r) below pen coin debt shr fall j))), some (.int (nI j))] [] (wC Z n toll paid coin debt (aF (nI r) below pen coin debt shr fall j) shr mat rgt pen last below)) 4 ?_ ?_) ⟨rfl, rfl, rfl, rfl, trivial⟩ rfl rfl
  · skip
    refine g_iload_n (i := 3) h dX1_anyFallIn_4 rfl rfl (pc' := 5) rfl ?_
    refine g_iconst (v := nI 4) h dX1_anyFallIn_5 (by decide) (pc' := 6) rfl ?_
    refine g_icmp_geT (tg := 57) h dX1_anyFallIn_6 (by decide) (Int32.le_refl _) ?_
    refine g_iload_n (i := 2) h dX1_anyFallIn_57 rfl rfl (pc' := 58) rfl ?_
    exact g_zret h hr dX1_anyFallIn_58 (nar01 (aA_le 4)) rfl rfl
  · intro j hj ih4
    refine g_iload_n (i := 3) h dX1_anyFallIn_4 rfl rfl (pc' := 5) rfl ?_
    refine g_iconst (v := nI 4) h dX1_anyFallIn_5 (by decide) (pc' := 6) rfl ?_
    refine g_icmp_geF (tg := 57) h dX1_anyFallIn_6 (by decide) (pc' := 9) rfl (nI_ge hj (by omega)) ?_
    refine g_aload_n (i := 0) h dX1_anyFallIn_9 rfl rfl (pc' := 10) rfl ?_
    refine g_iload_n (i := 3) h dX1_anyFallIn_10 rfl rfl (pc' := 11) rfl ?_
    refine g_callV1 (q0 := 2) h dX1_anyFallIn_11 cf_X1_55 (M_X1_isFallen (i := j) (by omega)) rfl rfl rfl rfl (by decide) rfl (Nat.le_of_ble_eq_true rfl) (pc' := 14) rfl ?_
    refine g_ifb_ne (tg := 51) h dX1_anyFallIn_14 (by decide) (pc' := 17) rfl (fun c1 => ?_) (fun c1 => ?_)
    · skip
      refine g_iinc3 (v := nI (j + 1)) h dX1_anyFallIn_51 rfl (inc1 j) (by decide) (pc' := 54) rfl ?_
      refine g_goto (pc' := 4) h dX1_anyFallIn_54 (by decide) ?_
      first | have hq : aC below pen coin debt shr (aF (nI r) below pen coin debt shr fall j) j := ⟨c1, c2⟩ | have hq : ¬ aC below pen coin debt shr (aF (nI r) below pen coin debt shr fall j) j := (fun q => by first | exact q.1 c1 | exact q.2 c2)
      exact GG.castW ih4 ⟨rfl, rfl, (by simp only [List.head?_cons, List.tail_cons, aA]; first | rw [if_pos hq] | rw [if_neg hq]), rfl, trivial⟩ rfl (by simp only [aF]; first | rw [if_pos hq] | rw [if_neg hq])
    · skip
      refine g_aload_n (i := 0) h dX1_anyFallIn_17 rfl rfl (pc' := 18) rfl ?_
      refine g_iload_n (i := 3) h dX1_anyFallIn_18 rfl rfl (pc' := 19) rfl ?_
      refine g_callV1 (q0 := 2) h dX1_anyFallIn_19 cf_X1_58 (M_X1_grossAbove (i := j) (by omega)) rfl rfl rfl rfl (by decide) rfl (Nat.le_of_ble_eq_true rfl) (pc' := 22) rfl ?_
      refine g_aload_n (i := 0) h dX1_anyFallIn_22 rfl rfl (pc' := 23) rfl ?_
      refine gf_X1_32 h dX1_anyFallIn_23 (pc' := 26) rfl ?_
      refine g_aload_n (i := 0) h dX1_anyFallIn_26 rfl rfl (pc' := 27) rfl ?_
      refine gf_X1_36 h dX1_anyFallIn_27 (pc' := 30) rfl ?_
      refine g_iload_n (i := 3) h dX1_anyFallIn_30 rfl rfl (pc' := 31) rfl ?_
      refine g_callV1 (q0 := 1) h dX1_anyFallIn_31 cf_X1_62 (M_X0_allOwedBy (i := j) (by omega)) rfl rfl rfl rfl (by decide) rfl (Nat.le_of_ble_eq_true rfl) (pc' := 34) rfl ?_
      refine g_i2l h dX1_anyFallIn_34 (pc' := 35) rfl ?_
      refine g_lmul h dX1_anyFallIn_35 (pc' := 36) rfl ?_
      refine g_lcmp_ge (pc1 := 37) (tg := 51) h dX1_anyFallIn_36 rfl dX1_anyFallIn_37 (by decide) (pc' := 40) rfl (fun c2 => ?_) (fun c2 => ?_)
      · skip
        refine g_iinc3 (v := nI (j + 1)) h dX1_anyFallIn_51 rfl (inc1 j) (by decide) (pc' := 54) rfl ?_
        refine g_goto (pc' := 4) h dX1_anyFallIn_54 (by decide) ?_
        first | have hq : aC below pen coin debt shr (aF (nI r) below pen coin debt shr fall j) j := ⟨c1, c2⟩ | have hq : ¬ aC below pen coin debt shr (aF (nI r) below pen coin debt shr fall j) j := (fun q => by first | exact q.1 c1 | exact q.2 c2)
        exact GG.castW ih4 ⟨rfl, rfl, (by simp only [List.head?_cons, List.tail_cons, aA]; first | rw [if_pos hq] | rw [if_neg hq]), rfl, trivial⟩ rfl (by simp only [aF]; first | rw [if_pos hq] | rw [if_neg hq])
      · skip
        refine g_aload_n (i := 0) h dX1_anyFallIn_40 rfl rfl (pc' := 41) rfl ?_
        refine gf_X1_9 h dX1_anyFallIn_41 (pc' := 44) rfl ?_
        refine g_iload_n (i := 3) h dX1_anyFallIn_44 rfl rfl (pc' := 45) rfl ?_
        refine g_iload_n (i := 1) h dX1_anyFallIn_45 rfl rfl (pc' := 46) rfl ?_
        refine g_callN0 h dX1_anyFallIn_46 cf_X1_40 (M_X3_put_6 (k := j) (x := nI r) (by omega)) rfl (by decide) rfl (Nat.le_of_ble_eq_true rfl) (pc' := 49) rfl ?_
        refine g_iconst (v := nI 1) h dX1_anyFallIn_49 (by decide) (pc' := 50) rfl ?_
        refine g_istore2 h dX1_anyFallIn_50 rfl (by decide) (pc' := 51) rfl ?_
        refine g_iinc3 (v := nI (j + 1)) h dX1_anyFallIn_51 rfl (inc1 j) (by decide) (pc' := 54) rfl ?_
        refine g_goto (pc' := 4) h dX1_anyFallIn_54 (by decide) ?_
        first | have hq : aC below pen coin debt shr (aF (nI r) below pen coin debt shr fall j) j := ⟨c1, c2⟩ | have hq : ¬ aC below pen coin debt shr (aF (nI r) below pen coin debt shr fall j) j := (fun q => by first | exact q.1 c1 | exact q.2 c2)
        exact GG.castW ih4 ⟨rfl, rfl, (by simp only [List.head?_cons, List.tail_cons, aA]; first | rw [if_pos hq] | rw [if_neg hq]), rfl, trivial⟩ rfl (by simp only [aF]; first | rw [if_pos hq] | rw [if_neg hq])
set_option maxRecDepth 20000 in
set_option maxHeartbeats 4000000 in
theorem M_X1_entry {Z : ZT} {n : Int32} {toll : Int32} {paid : Int32} {coin : Nat → Int32} {debt : Nat → Int32} {fall : Nat → Int32} {shr : Nat → Int64} {mat : Nat → Int64} {rgt : Nat → Int64} {pen : Int32} {last : Int32} {below : Int64} {r : Nat} {c : Nat} {p : Int32}  (g0 : r < 4) (g1 : c < 4) : MM Z yX1_entry cX1_entry 4 (some .long) 1 [.ref (Z.2.2 2), .int (nI r), .int (nI c), .int p] (wC Z n toll paid coin debt fall shr mat rgt pen last below) (some (.long (en mat rgt p r c))) (wC Z n toll paid coin debt fall shr mat rgt pen last below) := by
  refine MM.intro (by decide) [some (.ref (Z.2.2 2)), some (.int (nI r)), some (.int (nI c)), some (.int p)] rfl (Nat.le_of_ble_eq_true rfl) (fun X (h : OK Z X cX1_entry RX1 4 (rmd 1)) hr => ?_)
  refine g_iload_n (i := 2) h dX1_entry_0 rfl rfl (pc' := 1) rfl ?_
  refine g_iload_n (i := 3) h dX1_entry_1 rfl rfl (pc' := 2) rfl ?_
  refine g_icmp_ne (tg := 16) h dX1_entry_2 (by decide) (pc' := 5) rfl (fun c1 => ?_) (fun c1 => ?_)
  · skip
    refine g_aload_n (i := 0) h dX1_entry_16 rfl rfl (pc' := 17) rfl ?_
    refine gf_X1_19 h dX1_entry_17 (pc' := 20) rfl ?_
    refine g_iload_n (i := 1) h dX1_entry_20 rfl rfl (pc' := 21) rfl ?_
    refine g_iconst (v := nI 4) h dX1_entry_21 (by decide) (pc' := 22) rfl ?_
    refine g_imulN h dX1_entry_22 (pc' := 23) rfl ?_
    refine g_iload_n (i := 2) h dX1_entry_23 rfl rfl (pc' := 24) rfl ?_
    refine g_iaddN h dX1_entry_24 (pc' := 25) rfl ?_
    refine g_callN1 h dX1_entry_25 cf_X1_99 (M_X3_longAt_8 (k := (r * 4) + c) (by omega)) rfl (by decide) rfl (Nat.le_of_ble_eq_true rfl) (pc' := 28) rfl ?_
    exact g_lret h hr dX1_entry_28 (by simp only [en, if_neg c1]) rfl
  · skip
    refine g_aload_n (i := 0) h dX1_entry_5 rfl rfl (pc' := 6) rfl ?_
    refine gf_X1_22 h dX1_entry_6 (pc' := 9) rfl ?_
    refine g_iload_n (i := 1) h dX1_entry_9 rfl rfl (pc' := 10) rfl ?_
    refine g_callN1 h dX1_entry_10 cf_X1_99 (M_X3_longAt_9 (k := r) (by omega)) rfl (by decide) rfl (Nat.le_of_ble_eq_true rfl) (pc' := 13) rfl ?_
    refine g_goto (pc' := 28) h dX1_entry_13 (by decide) ?_
    exact g_lret h hr dX1_entry_28 (by simp only [en, if_pos c1]) rfl
set_option maxRecDepth 20000 in
set_option maxHeartbeats 4000000 in
theorem M_X1_minor {Z : ZT} {n : Int32} {toll : Int32} {paid : Int32} {coin : Nat → Int32} {debt : Nat → Int32} {fall : Nat → Int32} {shr : Nat → Int64} {mat : Nat → Int64} {rgt : Nat → Int64} {pen : Int32} {last : Int32} {below : Int64} {r : Nat} {a : Nat} {b : Nat} {p : Int32}  (g0 : r < 3) (g1 : a < 4) (g2 : b < 4) : MM Z yX1_minor cX1_minor 5 (some .long) 2 [.ref (Z.2.2 2), .int (nI r), .int (nI a), .int (nI b), .int p] (wC Z n toll paid coin debt fall shr mat rgt pen last below) (some (.long (mi mat rgt p r a b))) (wC Z n toll paid coin debt fall shr mat rgt pen last below) := by
  refine MM.intro (by decide) [some (.ref (Z.2.2 2)), some (.int (nI r)), some (.int (nI a)), some (.int (nI b)), some (.int p)] rfl (Nat.le_of_ble_eq_true rfl) (fun X (h : OK Z X cX1_minor RX1 5 (rmd 2)) hr => ?_)
  refine g_aload_n (i := 0) h dX1_minor_0 rfl rfl (pc' := 1) rfl ?_
  refine g_iload_n (i := 1) h dX1_minor_1 rfl rfl (pc' := 2) rfl ?_
  refine g_iload_n (i := 2) h dX1_minor_2 rfl rfl (pc' := 3) rfl ?_
  refine g_iload h dX1_minor_3 rfl (pc' := 5) rfl ?_
  refine g_callV1 (q0 := 2) h dX1_minor_5 cf_X1_95 (M_X1_entry (r := r) (c := a) (p := p) (by omega) (by omega)) rfl rfl rfl rfl (by decide) rfl (Nat.le_of_ble_eq_true rfl) (pc' := 8) rfl ?_
  refine g_aload_n (i := 0) h dX1_minor_8 rfl rfl (pc' := 9) rfl ?_
  refine g_iload_n (i := 1) h dX1_minor_9 rfl rfl (pc' := 10) rfl ?_
  refine g_iconst (v := nI 1) h dX1_minor_10 (by decide) (pc' := 11) rfl ?_
  refine g_iaddN h dX1_minor_11 (pc' := 12) rfl ?_
  refine g_iload_n (i := 3) h dX1_minor_12 rfl rfl (pc' := 13) rfl ?_
  refine g_iload h dX1_minor_13 rfl (pc' := 15) rfl ?_
  refine g_callV1 (q0 := 2) h dX1_minor_15 cf_X1_95 (M_X1_entry (r := r + 1) (c := b) (p := p) (by omega) (by omega)) rfl rfl rfl rfl (by decide) rfl (Nat.le_of_ble_eq_true rfl) (pc' := 18) rfl ?_
  refine g_lmul h dX1_minor_18 (pc' := 19) rfl ?_
  refine g_aload_n (i := 0) h dX1_minor_19 rfl rfl (pc' := 20) rfl ?_
  refine g_iload_n (i := 1) h dX1_minor_20 rfl rfl (pc' := 21) rfl ?_
  refine g_iload_n (i := 3) h dX1_minor_21 rfl rfl (pc' := 22) rfl ?_
  refine g_iload h dX1_minor_22 rfl (pc' := 24) rfl ?_
  refine g_callV1 (q0 := 2) h dX1_minor_24 cf_X1_95 (M_X1_entry (r := r) (c := b) (p := p) (by omega) (by omega)) rfl rfl rfl rfl (by decide) rfl (Nat.le_of_ble_eq_true rfl) (pc' := 27) rfl ?_
  refine g_aload_n (i := 0) h dX1_minor_27 rfl rfl (pc' := 28) rfl ?_
  refine g_iload_n (i := 1) h dX1_minor_28 rfl rfl (pc' := 29) rfl ?_
  refine g_iconst (v := nI 1) h dX1_minor_29 (by decide) (pc' := 30) rfl ?_
  refine g_iaddN h dX1_minor_30 (pc' := 31) rfl ?_
  refine g_iload_n (i := 2) h dX1_minor_31 rfl rfl (pc' := 32) rfl ?_
  refine g_iload h dX1_minor_32 rfl (pc' := 34) rfl ?_
  refine g_callV1 (q0 := 2) h dX1_minor_34 cf_X1_95 (M_X1_entry (r := r + 1) (c := a) (p := p) (by omega) (by omega)) rfl rfl rfl rfl (by decide) rfl (Nat.le_of_ble_eq_true rfl) (pc' := 37) rfl ?_
  refine g_lmul h dX1_minor_37 (pc' := 38) rfl ?_
  refine g_lsub h dX1_minor_38 (pc' := 39) rfl ?_
  exact g_lret h hr dX1_minor_39 rfl rfl
set_option maxRecDepth 20000 in
set_option maxHeartbeats 4000000 in
theorem M_X1_determinant {Z : ZT} {n : Int32} {toll : Int32} {paid : Int32} {coin : Nat → Int32} {debt : Nat → Int32} {fall : Nat → Int32} {shr : Nat → Int64} {mat : Nat → Int64} {rgt : Nat → Int64} {pen : Int32} {last : Int32} {below : Int64} {p : Int32}   : MM Z yX1_determinant cX1_determinant 2 (some .long) 3 [.ref (Z.2.2 2), .int p] (wC Z n toll paid coin debt fall shr mat rgt pen last below) (some (.long (dt mat rgt p))) (wC Z n toll paid coin debt fall shr mat rgt pen last below) := by
  refine MM.intro (by decide) [some (.ref (Z.2.2 2)), some (.int p)] rfl (Nat.le_of_ble_eq_true rfl) (fun X (h : OK Z X cX1_determinant RX1 2 (rmd 3)) hr => ?_)
  refine g_aload_n (i := 0) h dX1_determinant_0 rfl rfl (pc' := 1) rfl ?_
  refine g_iconst (v := nI 0) h dX1_determinant_1 (by decide) (pc' := 2) rfl ?_
  refine g_iconst (v := nI 0) h dX1_determinant_2 (by decide) (pc' := 3) rfl ?_
  refine g_iconst (v := nI 1) h dX1_determinant_3 (by decide) (pc' := 4) rfl ?_
  refine g_iload_n (i := 1) h dX1_determinant_4 rfl rfl (pc' := 5) rfl ?_
  refine g_callV1 (q0 := 2) h dX1_determinant_5 cf_X1_91 (M_X1_minor (r := 0) (a := 0) (b := 1) (p := p) (by omega) (by omega) (by omega)) rfl rfl rfl rfl (by decide) rfl (Nat.le_of_ble_eq_true rfl) (pc' := 8) rfl ?_
  refine g_aload_n (i := 0) h dX1_determinant_8 rfl rfl (pc' := 9) rfl ?_
  refine g_iconst (v := nI 2) h dX1_determinant_9 (by decide) (pc' := 10) rfl ?_
  refine g_iconst (v := nI 2) h dX1_determinant_10 (by decide) (pc' := 11) rfl ?_
  refine g_iconst (v := nI 3) h dX1_determinant_11 (by decide) (pc' := 12) rfl ?_
  refine g_iload_n (i := 1) h dX1_determinant_12 rfl rfl (pc' := 13) rfl ?_
  refine g_callV1 (q0 := 2) h dX1_determinant_13 cf_X1_91 (M_X1_minor (r := 2) (a := 2) (b := 3) (p := p) (by omega) (by omega) (by omega)) rfl rfl rfl rfl (by decide) rfl (Nat.le_of_ble_eq_true rfl) (pc' := 16) rfl ?_
  refine g_lmul h dX1_determinant_16 (pc' := 17) rfl ?_
  refine g_aload_n (i := 0) h dX1_determinant_17 rfl rfl (pc' := 18) rfl ?_
  refine g_iconst (v := nI 0) h dX1_determinant_18 (by decide) (pc' := 19) rfl ?_
  refine g_iconst (v := nI 0) h dX1_determinant_19 (by decide) (pc' := 20) rfl ?_
  refine g_iconst (v := nI 2) h dX1_determinant_20 (by decide) (pc' := 21) rfl ?_
  refine g_iload_n (i := 1) h dX1_determinant_21 rfl rfl (pc' := 22) rfl ?_
  refine g_callV1 (q0 := 2) h dX1_determinant_22 cf_X1_91 (M_X1_minor (r := 0) (a := 0) (b := 2) (p := p) (by omega) (by omega) (by omega)) rfl rfl rfl rfl (by decide) rfl (Nat.le_of_ble_eq_true rfl) (pc' := 25) rfl ?_
  refine g_aload_n (i := 0) h dX1_determinant_25 rfl rfl (pc' := 26) rfl ?_
  refine g_iconst (v := nI 2) h dX1_determinant_26 (by decide) (pc' := 27) rfl ?_
  refine g_iconst (v := nI 1) h dX1_determinant_27 (by decide) (pc' := 28) rfl ?_
  refine g_iconst (v := nI 3) h dX1_determinant_28 (by decide) (pc' := 29) rfl ?_
  refine g_iload_n (i := 1) h dX1_determinant_29 rfl rfl (pc' := 30) rfl ?_
  refine g_callV1 (q0 := 2) h dX1_determinant_30 cf_X1_91 (M_X1_minor (r := 2) (a := 1) (b := 3) (p := p) (by omega) (by omega) (by omega)) rfl rfl rfl rfl (by decide) rfl (Nat.le_of_ble_eq_true rfl) (pc' := 33) rfl ?_
  refine g_lmul h dX1_determinant_33 (pc' := 34) rfl ?_
  refine g_lsub h dX1_determinant_34 (pc' := 35) rfl ?_
  refine g_aload_n (i := 0) h dX1_determinant_35 rfl rfl (pc' := 36) rfl ?_
  refine g_iconst (v := nI 0) h dX1_determinant_36 (by decide) (pc' := 37) rfl ?_
  refine g_iconst (v := nI 0) h dX1_determinant_37 (by decide) (pc' := 38) rfl ?_
  refine g_iconst (v := nI 3) h dX1_determinant_38 (by decide) (pc' := 39) rfl ?_
  refine g_iload_n (i := 1) h dX1_determinant_39 rfl rfl (pc' := 40) rfl ?_
  refine g_callV1 (q0 := 2) h dX1_determinant_40 cf_X1_91 (M_X1_minor (r := 0) (a := 0) (b := 3) (p := p) (by omega) (by omega) (by omega)) rfl rfl rfl rfl (by decide) rfl (Nat.le_of_ble_eq_true rfl) (pc' := 43) rfl ?_
  refine g_aload_n (i := 0) h dX1_determinant_43 rfl rfl (pc' := 44) rfl ?_
  refine g_iconst (v := nI 2) h dX1_determinant_44 (by decide) (pc' := 45) rfl ?_
  refine g_iconst (v := nI 1) h dX1_determinant_45 (by decide) (pc' := 46) rfl ?_
  refine g_iconst (v := nI 2) h dX1_determinant_46 (by decide) (pc' := 47) rfl ?_
  refine g_iload_n (i := 1) h dX1_determinant_47 rfl rfl (pc' := 48) rfl ?_
  refine g_callV1 (q0 := 2) h dX1_determinant_48 cf_X1_91 (M_X1_minor (r := 2) (a := 1) (b := 2) (p := p) (by omega) (by omega) (by omega)) rfl rfl rfl rfl (by decide) rfl (Nat.le_of_ble_eq_true rfl) (pc' := 51) rfl ?_
  refine g_lmul h dX1_determinant_51 (pc' := 52) rfl ?_
  refine g_ladd h dX1_determinant_52 (pc' := 53) rfl ?_
  refine g_aload_n (i := 0) h dX1_determinant_53 rfl rfl (pc' := 54) rfl ?_
  refine g_iconst (v := nI 0) h dX1_determinant_54 (by decide) (pc' := 55) rfl ?_
  refine g_iconst (v := nI 1) h dX1_determinant_55 (by decide) (pc' := 56) rfl ?_
  refine g_iconst (v := nI 2) h dX1_determinant_56 (by decide) (pc' := 57) rfl ?_
  refine g_iload_n (i := 1) h dX1_determinant_57 rfl rfl (pc' := 58) rfl ?_
  refine g_callV1 (q0 := 2) h dX1_determinant_58 cf_X1_91 (M_X1_minor (r := 0) (a := 1) (b := 2) (p := p) (by omega) (by omega) (by omega)) rfl rfl rfl rfl (by decide) rfl (Nat.le_of_ble_eq_true rfl) (pc' := 61) rfl ?_
  refine g_aload_n (i := 0) h dX1_determinant_61 rfl rfl (pc' := 62) rfl ?_
  refine g_iconst (v := nI 2) h dX1_determinant_62 (by decide) (pc' := 63) rfl ?_
  refine g_iconst (v := nI 0) h dX1_determinant_63 (by decide) (pc' := 64) rfl ?_
  refine g_iconst (v := nI 3) h dX1_determinant_64 (by decide) (pc' := 65) rfl ?_
  refine g_iload_n (i := 1) h dX1_determinant_65 rfl rfl (pc' := 66) rfl ?_
  refine g_callV1 (q0 := 2) h dX1_determinant_66 cf_X1_91 (M_X1_minor (r := 2) (a := 0) (b := 3) (p := p) (by omega) (by omega) (by omega)) rfl rfl rfl rfl (by decide) rfl (Nat.le_of_ble_eq_true rfl) (pc' := 69) rfl ?_
  refine g_lmul h dX1_determinant_69 (pc' := 70) rfl ?_
  refine g_ladd h dX1_determinant_70 (pc' := 71) rfl ?_
  refine g_aload_n (i := 0) h dX1_determinant_71 rfl rfl (pc' := 72) rfl ?_
  refine g_iconst (v := nI 0) h dX1_determinant_72 (by decide) (pc' := 73) rfl ?_
  refine g_iconst (v := nI 1) h dX1_determinant_73 (by decide) (pc' := 74) rfl ?_
  refine g_iconst (v := nI 3) h dX1_determinant_74 (by decide) (pc' := 75) rfl ?_
  refine g_iload_n (i := 1) h dX1_determinant_75 rfl rfl (pc' := 76) rfl ?_
  refine g_callV1 (q0 := 2) h dX1_determinant_76 cf_X1_91 (M_X1_minor (r := 0) (a := 1) (b := 3) (p := p) (by omega) (by omega) (by omega)) rfl rfl rfl rfl (by decide) rfl (Nat.le_of_ble_eq_true rfl) (pc' := 79) rfl ?_
  refine g_aload_n (i := 0) h dX1_determinant_79 rfl rfl (pc' := 80) rfl ?_
  refine g_iconst (v := nI 2) h dX1_determinant_80 (by decide) (pc' := 81) rfl ?_
  refine g_iconst (v := nI 0) h dX1_determinant_81 (by decide) (pc' := 82) rfl ?_
  refine g_iconst (v := nI 2) h dX1_determinant_82 (by decide) (pc' := 83) rfl ?_
  refine g_iload_n (i := 1) h dX1_determinant_83 rfl rfl (pc' := 84) rfl ?_
  refine g_callV1 (q0 := 2) h dX1_determinant_84 cf_X1_91 (M_X1_minor (r := 2) (a := 0) (b := 2) (p := p) (by omega) (by omega) (by omega)) rfl rfl rfl rfl (by decide) rfl (Nat.le_of_ble_eq_true rfl) (pc' := 87) rfl ?_
  refine g_lmul h dX1_determinant_87 (pc' := 88) rfl ?_
  refine g_lsub h dX1_determinant_88 (pc' := 89) rfl ?_
  refine g_aload_n (i := 0) h dX1_determinant_89 rfl rfl (pc' := 90) rfl ?_
  refine g_iconst (v := nI 0) h dX1_determinant_90 (by decide) (pc' := 91) rfl ?_
  refine g_iconst (v := nI 2) h dX1_determinant_91 (by decide) (pc' := 92) rfl ?_
  refine g_iconst (v := nI 3) h dX1_determinant_92 (by decide) (pc' := 93) rfl ?_
  refine g_iload_n (i := 1) h dX1_determinant_93 rfl rfl (pc' := 94) rfl ?_
  refine g_callV1 (q0 := 2) h dX1_determinant_94 cf_X1_91 (M_X1_minor (r := 0) (a := 2) (b := 3) (p := p) (by omega) (by omega) (by omega)) rfl rfl rfl rfl (by decide) rfl (Nat.le_of_ble_eq_true rfl) (pc' := 97) rfl ?_
  refine g_aload_n (i := 0) h dX1_determinant_97 rfl rfl (pc' := 98) rfl ?_
  refine g_iconst (v := nI 2) h dX1_determinant_98 (by decide) (pc' := 99) rfl ?_
  refine g_iconst (v := nI 0) h dX1_determinant_99 (by decide) (pc' := 100) rfl ?_
  refine g_iconst (v := nI 1) h dX1_determinant_100 (by decide) (pc' := 101) rfl ?_
  refine g_iload_n (i := 1) h dX1_determinant_101 rfl rfl (pc' := 102) rfl ?_
  refine g_callV1 (q0 := 2) h dX1_determinant_102 cf_X1_91 (M_X1_minor (r := 2) (a := 0) (b := 1) (p := p) (by omega) (by omega) (by omega)) rfl rfl rfl rfl (by decide) rfl (Nat.le_of_ble_eq_true rfl) (pc' := 105) rfl ?_
  refine g_lmul h dX1_determinant_105 (pc' := 106) rfl ?_
  refine g_ladd h dX1_determinant_106 (pc' := 107) rfl ?_
  exact g_lret h hr dX1_determinant_107 rfl rfl
set_option maxRecDepth 20000 in
set_option maxHeartbeats 4000000 in
theorem M_X1_writeEquation {Z : ZT} {n : Int32} {toll : Int32} {paid : Int32} {coin : Nat → Int32} {debt : Nat → Int32} {fall : Nat → Int32} {shr : Nat → Int64} {mat : Nat → Int64} {rgt : Nat → Int64} {pen : Int32} {last : Int32} {below : Int64} {i : Nat}  (g0 : i < 4) : MM Z yX1_writeEquation cX1_writeEquation 5 none 3 [.ref (Z.2.2 2), .int (nI i)] (wC Z n toll paid coin debt fall shr mat rgt pen last below) none (wC Z n toll paid coin debt fall shr (wMd toll debt fall mat i) (wRt toll pen coin fall rgt i) pen last below) := by
  refine MM.intro (by decide) [some (.ref (Z.2.2 2)), some (.int (nI i)), none, none, none] rfl (Nat.le_of_ble_eq_true rfl) (fun X (h : OK Z X cX1_writeEquation RX1 5 (rmd 3)) hr => ?_)
  refine g_aload_n (i := 0) h dX1_writeEquation_0 rfl rfl (pc' := 1) rfl ?_
  refine g_iload_n (i := 1) h dX1_writeEquation_1 rfl rfl (pc' := 2) rfl ?_
  refine g_callV1 (q0 := 2) h dX1_writeEquation_2 cf_X1_55 (M_X1_isFallen (i := i) (by omega)) rfl rfl rfl rfl (by decide) rfl (Nat.le_of_ble_eq_true rfl) (pc' := 5) rfl ?_
  refine g_istore2 h dX1_writeEquation_5 rfl (by decide) (pc' := 6) rfl ?_
  refine g_bipush (v := nI 10) h dX1_writeEquation_6 (by decide) (pc' := 8) rfl ?_
  refine g_aload_n (i := 0) h dX1_writeEquation_8 rfl rfl (pc' := 9) rfl ?_
  refine gf_X1_36 h dX1_writeEquation_9 (pc' := 12) rfl ?_
  refine gf_X1_81 h dX1_writeEquation_12 (pc' := 15) rfl ?_
  refine g_isub h dX1_writeEquation_15 (pc' := 16) rfl ?_
  refine g_istore3 h dX1_writeEquation_16 rfl (by decide) (pc' := 17) rfl ?_
  refine g_iconst (v := nI 0) h dX1_writeEquation_17 (by decide) (pc' := 18) rfl ?_
  refine g_istore4 h dX1_writeEquation_18 rfl (by decide) (pc' := 20) rfl ?_
  refine GG.castW (lp (P := fun j => GG Z X 20 [some (.ref (Z.2.2 2)), some (.int (nI i)), some (.int (bI (fl fall i))), some (.int (nI 10 - toll)), some (.int (nI j))] [] (wC Z n toll paid coin debt fall shr (wM toll debt fall mat i j) rgt pen last below)) 4 ?_ ?_) ⟨rfl, rfl, rfl, rfl, rfl, trivial⟩ rfl rfl
  · skip
    refine g_iload h dX1_writeEquation_20 rfl (pc' := 22) rfl ?_
    refine g_iconst (v := nI 4) h dX1_writeEquation_22 (by decide) (pc' := 23) rfl ?_
    refine g_icmp_geT (tg := 67) h dX1_writeEquation_23 (by decide) (Int32.le_refl _) ?_
    refine g_iload_n (i := 1) h dX1_writeEquation_67 rfl rfl (pc' := 68) rfl ?_
    refine g_iconst (v := nI 4) h dX1_writeEquation_68 (by decide) (pc' := 69) rfl ?_
    refine g_imulN h dX1_writeEquation_69 (pc' := 70) rfl ?_
    refine g_iload_n (i := 1) h dX1_writeEquation_70 rfl rfl (pc' := 71) rfl ?_
    refine g_iaddN h dX1_writeEquation_71 (pc' := 72) rfl ?_
    refine g_istore4 h dX1_writeEquation_72 rfl (by decide) (pc' := 74) rfl ?_
    refine g_aload_n (i := 0) h dX1_writeEquation_74 rfl rfl (pc' := 75) rfl ?_
    refine gf_X1_19 h dX1_writeEquation_75 (pc' := 78) rfl ?_
    refine g_iload h dX1_writeEquation_78 rfl (pc' := 80) rfl ?_
    refine g_iload_n (i := 2) h dX1_writeEquation_80 rfl rfl (pc' := 81) rfl ?_
    refine g_ifb_eq (tg := 99) h dX1_writeEquation_81 (by decide) (pc' := 84) rfl (fun c1 => ?_) (fun c1 => ?_)
    · skip
      refine g_lconst (v := 1) h dX1_writeEquation_99 (by decide) (pc' := 100) rfl ?_
      refine g_callN0 h dX1_writeEquation_100 cf_X1_44 (M_X3_putLong_8 (k := (i * 4) + i) (x := 1) (by omega)) rfl (by decide) rfl (Nat.le_of_ble_eq_true rfl) (pc' := 103) rfl ?_
      refine g_aload_n (i := 0) h dX1_writeEquation_103 rfl rfl (pc' := 104) rfl ?_
      refine gf_X1_22 h dX1_writeEquation_104 (pc' := 107) rfl ?_
      refine g_iload_n (i := 1) h dX1_writeEquation_107 rfl rfl (pc' := 108) rfl ?_
      refine g_iload_n (i := 2) h dX1_writeEquation_108 rfl rfl (pc' := 109) rfl ?_
      refine g_if_eqT (tg := 123) h dX1_writeEquation_109 (by decide) (bI_n c1) ?_
      refine g_lconst (v := 1) h dX1_writeEquation_123 (by decide) (pc' := 124) rfl ?_
      refine g_callN0 h dX1_writeEquation_124 cf_X1_44 (M_X3_putLong_9 (k := i) (x := 1) (by omega)) rfl (by decide) rfl (Nat.le_of_ble_eq_true rfl) (pc' := 127) rfl ?_
      exact g_vret h hr dX1_writeEquation_127 rfl (by simp only [wMd, wRt, if_neg c1])
    · skip
      refine g_bipush (v := nI 10) h dX1_writeEquation_84 (by decide) (pc' := 86) rfl ?_
      refine g_aload_n (i := 0) h dX1_writeEquation_86 rfl rfl (pc' := 87) rfl ?_
      refine gf_X1_36 h dX1_writeEquation_87 (pc' := 90) rfl ?_
      refine g_iload_n (i := 1) h dX1_writeEquation_90 rfl rfl (pc' := 91) rfl ?_
      refine g_callV1 (q0 := 1) h dX1_writeEquation_91 cf_X1_62 (M_X0_allOwedBy (i := i) (by omega)) rfl rfl rfl rfl (by decide) rfl (Nat.le_of_ble_eq_true rfl) (pc' := 94) rfl ?_
      refine g_imul h dX1_writeEquation_94 (pc' := 95) rfl ?_
      refine g_i2l h dX1_writeEquation_95 (pc' := 96) rfl ?_
      refine g_goto (pc' := 100) h dX1_writeEquation_96 (by decide) ?_
      refine g_callN0 h dX1_writeEquation_100 cf_X1_44 (M_X3_putLong_8 (k := (i * 4) + i) (x := ((nI 10) * (oB debt i)).toInt64) (by omega)) rfl (by decide) rfl (Nat.le_of_ble_eq_true rfl) (pc' := 103) rfl ?_
      refine g_aload_n (i := 0) h dX1_writeEquation_103 rfl rfl (pc' := 104) rfl ?_
      refine gf_X1_22 h dX1_writeEquation_104 (pc' := 107) rfl ?_
      refine g_iload_n (i := 1) h dX1_writeEquation_107 rfl rfl (pc' := 108) rfl ?_
      refine g_iload_n (i := 2) h dX1_writeEquation_108 rfl rfl (pc' := 109) rfl ?_
      refine g_if_eqF (tg := 123) h dX1_writeEquation_109 (by decide) (pc' := 112) rfl (fun q => (bI_0.mp q) c1) ?_
      refine g_iload_n (i := 3) h dX1_writeEquation_112 rfl rfl (pc' := 113) rfl ?_
      refine g_aload_n (i := 0) h dX1_writeEquation_113 rfl rfl (pc' := 114) rfl ?_
      refine g_iload_n (i := 1) h dX1_writeEquation_114 rfl rfl (pc' := 115) rfl ?_
      refine g_callV1 (q0 := 2) h dX1_writeEquation_115 cf_X1_88 (M_X1_usableCoins (i := i) (by omega)) rfl rfl rfl rfl (by decide) rfl (Nat.le_of_ble_eq_true rfl) (pc' := 118) rfl ?_
      refine g_imul h dX1_writeEquation_118 (pc' := 119) rfl ?_
      refine g_i2l h dX1_writeEquation_119 (pc' := 120) rfl ?_
      refine g_goto (pc' := 124) h dX1_writeEquation_120 (by decide) ?_
      refine g_callN0 h dX1_writeEquation_124 cf_X1_44 (M_X3_putLong_9 (k := i) (x := ((nI 10 - toll) * (uC pen coin i)).toInt64) (by omega)) rfl (by decide) rfl (Nat.le_of_ble_eq_true rfl) (pc' := 127) rfl ?_
      exact g_vret h hr dX1_writeEquation_127 rfl (by simp only [wMd, wRt, if_pos c1])
  · intro j hj ih20
    refine g_iload h dX1_writeEquation_20 rfl (pc' := 22) rfl ?_
    refine g_iconst (v := nI 4) h dX1_writeEquation_22 (by decide) (pc' := 23) rfl ?_
    refine g_icmp_geF (tg := 67) h dX1_writeEquation_23 (by decide) (pc' := 26) rfl (nI_ge hj (by omega)) ?_
    refine g_aload_n (i := 0) h dX1_writeEquation_26 rfl rfl (pc' := 27) rfl ?_
    refine gf_X1_19 h dX1_writeEquation_27 (pc' := 30) rfl ?_
    refine g_iload_n (i := 1) h dX1_writeEquation_30 rfl rfl (pc' := 31) rfl ?_
    refine g_iconst (v := nI 4) h dX1_writeEquation_31 (by decide) (pc' := 32) rfl ?_
    refine g_imulN h dX1_writeEquation_32 (pc' := 33) rfl ?_
    refine g_iload h dX1_writeEquation_33 rfl (pc' := 35) rfl ?_
    refine g_iaddN h dX1_writeEquation_35 (pc' := 36) rfl ?_
    refine g_iload_n (i := 2) h dX1_writeEquation_36 rfl rfl (pc' := 37) rfl ?_
    refine g_ifb_eq (tg := 57) h dX1_writeEquation_37 (by decide) (pc' := 40) rfl (fun c1 => ?_) (fun c1 => ?_)
    · skip
      refine g_lconst (v := 0) h dX1_writeEquation_57 (by decide) (pc' := 58) rfl ?_
      refine g_callN0 h dX1_writeEquation_58 cf_X1_44 (M_X3_putLong_8 (k := (i * 4) + j) (x := 0) (by omega)) rfl (by decide) rfl (Nat.le_of_ble_eq_true rfl) (pc' := 61) rfl ?_
      refine g_iinc4 (v := nI (j + 1)) h dX1_writeEquation_61 rfl (inc1 j) (by decide) (pc' := 64) rfl ?_
      refine g_goto (pc' := 20) h dX1_writeEquation_64 (by decide) ?_
      exact GG.castW ih20 ⟨rfl, rfl, rfl, rfl, rfl, trivial⟩ rfl (by simp only [wM, if_neg c1])
    · skip
      refine g_iload_n (i := 3) h dX1_writeEquation_40 rfl rfl (pc' := 41) rfl ?_
      refine g_ineg (v := -(nI 10 - toll)) h dX1_writeEquation_41 rfl (pc' := 42) rfl ?_
      refine g_aload_n (i := 0) h dX1_writeEquation_42 rfl rfl (pc' := 43) rfl ?_
      refine gf_X1_36 h dX1_writeEquation_43 (pc' := 46) rfl ?_
      refine g_iload h dX1_writeEquation_46 rfl (pc' := 48) rfl ?_
      refine g_iload_n (i := 1) h dX1_writeEquation_48 rfl rfl (pc' := 49) rfl ?_
      refine g_callV1 (q0 := 1) h dX1_writeEquation_49 cf_X1_84 (M_X0_owed (i := j) (c := i) (by omega) (by omega)) rfl rfl rfl rfl (by decide) rfl (Nat.le_of_ble_eq_true rfl) (pc' := 52) rfl ?_
      refine g_imul h dX1_writeEquation_52 (pc' := 53) rfl ?_
      refine g_i2l h dX1_writeEquation_53 (pc' := 54) rfl ?_
      refine g_goto (pc' := 58) h dX1_writeEquation_54 (by decide) ?_
      refine g_callN0 h dX1_writeEquation_58 cf_X1_44 (M_X3_putLong_8 (k := (i * 4) + j) (x := ((-(nI 10 - toll)) * (debt (j * 5 + i))).toInt64) (by omega)) rfl (by decide) rfl (Nat.le_of_ble_eq_true rfl) (pc' := 61) rfl ?_
      refine g_iinc4 (v := nI (j + 1)) h dX1_writeEquation_61 rfl (inc1 j) (by decide) (pc' := 64) rfl ?_
      refine g_goto (pc' := 20) h dX1_writeEquation_64 (by decide) ?_
      exact GG.castW ih20 ⟨rfl, rfl, rfl, rfl, rfl, trivial⟩ rfl (by simp only [wM, if_pos c1])
set_option maxRecDepth 20000 in
set_option maxHeartbeats 4000000 in
theorem M_X1_solveShares {Z : ZT} {n : Int32} {toll : Int32} {paid : Int32} {coin : Nat → Int32} {debt : Nat → Int32} {fall : Nat → Int32} {shr : Nat → Int64} {mat : Nat → Int64} {rgt : Nat → Int64} {pen : Int32} {last : Int32} {below : Int64}    : MM Z yX1_solveShares cX1_solveShares 2 none 4 [.ref (Z.2.2 2)] (wC Z n toll paid coin debt fall shr mat rgt pen last below) none (wC Z n toll paid coin debt fall (sS (wEs toll pen coin debt fall (mat, rgt) 4).1 (wEs toll pen coin debt fall (mat, rgt) 4).2 shr 4) ((wEs toll pen coin debt fall (mat, rgt) 4).1) ((wEs toll pen coin debt fall (mat, rgt) 4).2) pen last (dt (wEs toll pen coin debt fall (mat, rgt) 4).1 (wEs toll pen coin debt fall (mat, rgt) 4).2 (-1))) := by
  refine MM.intro (by decide) [some (.ref (Z.2.2 2)), none] rfl (Nat.le_of_ble_eq_true rfl) (fun X (h : OK Z X cX1_solveShares RX1 2 (rmd 4)) hr => ?_)
  refine g_iconst (v := nI 0) h dX1_solveShares_0 (by decide) (pc' := 1) rfl ?_
  refine g_istore1 h dX1_solveShares_1 rfl (by decide) (pc' := 2) rfl ?_
  refine GG.castW (lp (P := fun i => GG Z X 2 [some (.ref (Z.2.2 2)), some (.int (nI i))] [] (wC Z n toll paid coin debt fall shr ((wEs toll pen coin debt fall (mat, rgt) i).1) ((wEs toll pen coin debt fall (mat, rgt) i).2) pen last below)) 4 ?_ ?_) ⟨rfl, rfl, trivial⟩ rfl rfl
  · skip
    refine g_iload_n (i := 1) h dX1_solveShares_2 rfl rfl (pc' := 3) rfl ?_
    refine g_iconst (v := nI 4) h dX1_solveShares_3 (by decide) (pc' := 4) rfl ?_
    refine g_icmp_geT (tg := 18) h dX1_solveShares_4 (by decide) (Int32.le_refl _) ?_
    refine g_aload_n (i := 0) h dX1_solveShares_18 rfl rfl (pc' := 19) rfl ?_
    refine g_aload_n (i := 0) h dX1_solveShares_19 rfl rfl (pc' := 20) rfl ?_
    refine g_iconst (v := (-1)) h dX1_solveShares_20 (by decide) (pc' := 21) rfl ?_
    refine g_callV1 (q0 := 2) h dX1_solveShares_21 cf_X1_78 (M_X1_determinant (p := (-1)) ) rfl rfl rfl rfl (by decide) rfl (Nat.le_of_ble_eq_true rfl) (pc' := 24) rfl ?_
    refine pf_X1_32 h dX1_solveShares_24 (pc' := 27) rfl ?_
    refine g_iconst (v := nI 0) h dX1_solveShares_27 (by decide) (pc' := 28) rfl ?_
    refine g_istore1 h dX1_solveShares_28 rfl (by decide) (pc' := 29) rfl ?_
    refine GG.castW (lp (P := fun i => GG Z X 29 [some (.ref (Z.2.2 2)), some (.int (nI i))] [] (wC Z n toll paid coin debt fall (sS (wEs toll pen coin debt fall (mat, rgt) 4).1 (wEs toll pen coin debt fall (mat, rgt) 4).2 shr i) ((wEs toll pen coin debt fall (mat, rgt) 4).1) ((wEs toll pen coin debt fall (mat, rgt) 4).2) pen last (dt ((wEs toll pen coin debt fall (mat, rgt) 4).1) ((wEs toll pen coin debt fall (mat, rgt) 4).2) (-1)))) 4 ?_ ?_) ⟨rfl, rfl, trivial⟩ rfl rfl
    · skip
      refine g_iload_n (i := 1) h dX1_solveShares_29 rfl rfl (pc' := 30) rfl ?_
      refine g_iconst (v := nI 4) h dX1_solveShares_30 (by decide) (pc' := 31) rfl ?_
      refine g_icmp_geT (tg := 53) h dX1_solveShares_31 (by decide) (Int32.le_refl _) ?_
      exact g_vret h hr dX1_solveShares_53 rfl rfl
    · intro i hi ih29
      refine g_iload_n (i := 1) h dX1_solveShares_29 rfl rfl (pc' := 30) rfl ?_
      refine g_iconst (v := nI 4) h dX1_solveShares_30 (by decide) (pc' := 31) rfl ?_
      refine g_icmp_geF (tg := 53) h dX1_solveShares_31 (by decide) (pc' := 34) rfl (nI_ge hi (by omega)) ?_
      refine g_aload_n (i := 0) h dX1_solveShares_34 rfl rfl (pc' := 35) rfl ?_
      refine gf_X1_15 h dX1_solveShares_35 (pc' := 38) rfl ?_
      refine g_iload_n (i := 1) h dX1_solveShares_38 rfl rfl (pc' := 39) rfl ?_
      refine g_aload_n (i := 0) h dX1_solveShares_39 rfl rfl (pc' := 40) rfl ?_
      refine g_iload_n (i := 1) h dX1_solveShares_40 rfl rfl (pc' := 41) rfl ?_
      refine g_callV1 (q0 := 2) h dX1_solveShares_41 cf_X1_78 (M_X1_determinant (p := nI i) ) rfl rfl rfl rfl (by decide) rfl (Nat.le_of_ble_eq_true rfl) (pc' := 44) rfl ?_
      refine g_callN0 h dX1_solveShares_44 cf_X1_44 (M_X3_putLong_7 (k := i) (x := dt ((wEs toll pen coin debt fall (mat, rgt) 4).1) ((wEs toll pen coin debt fall (mat, rgt) 4).2) (nI i)) (by omega)) rfl (by decide) rfl (Nat.le_of_ble_eq_true rfl) (pc' := 47) rfl ?_
      refine g_iinc1 (v := nI (i + 1)) h dX1_solveShares_47 rfl (inc1 i) (by decide) (pc' := 50) rfl ?_
      refine g_goto (pc' := 29) h dX1_solveShares_50 (by decide) ?_
      exact GG.castW ih29 ⟨rfl, rfl, trivial⟩ rfl rfl
  · intro i hi ih2
    refine g_iload_n (i := 1) h dX1_solveShares_2 rfl rfl (pc' := 3) rfl ?_
    refine g_iconst (v := nI 4) h dX1_solveShares_3 (by decide) (pc' := 4) rfl ?_
    refine g_icmp_geF (tg := 18) h dX1_solveShares_4 (by decide) (pc' := 7) rfl (nI_ge hi (by omega)) ?_
    refine g_aload_n (i := 0) h dX1_solveShares_7 rfl rfl (pc' := 8) rfl ?_
    refine g_iload_n (i := 1) h dX1_solveShares_8 rfl rfl (pc' := 9) rfl ?_
    refine g_callV0 (q0 := 2) h dX1_solveShares_9 cf_X1_74 (M_X1_writeEquation (i := i) (by omega)) rfl rfl rfl rfl (by decide) rfl (Nat.le_of_ble_eq_true rfl) (pc' := 12) rfl ?_
    refine g_iinc1 (v := nI (i + 1)) h dX1_solveShares_12 rfl (inc1 i) (by decide) (pc' := 15) rfl ?_
    refine g_goto (pc' := 2) h dX1_solveShares_15 (by decide) ?_
    exact GG.castW ih2 ⟨rfl, rfl, trivial⟩ rfl rfl
set_option maxRecDepth 20000 in
set_option maxHeartbeats 4000000 in
theorem M_X1_settle {Z : ZT} {n : Int32} {toll : Int32} {paid : Int32} {coin : Nat → Int32} {debt : Nat → Int32} {fall : Nat → Int32} {shr : Nat → Int64} {mat : Nat → Int64} {rgt : Nat → Int64} {pen : Int32} {last : Int32} {below : Int64} {p : Int32}   : MM Z yX1_settle cX1_settle 3 none 5 [.ref (Z.2.2 2), .int p] (wC Z n toll paid coin debt fall shr mat rgt pen last below) none (wC Z n toll paid coin debt ((cst toll p coin debt fall shr mat rgt).1) ((cst toll p coin debt fall shr mat rgt).2.1) ((cst toll p coin debt fall shr mat rgt).2.2.1) ((cst toll p coin debt fall shr mat rgt).2.2.2.1) p ((cst toll p coin debt fall shr mat rgt).2.2.2.2.1) ((cst toll p coin debt fall shr mat rgt).2.2.2.2.2)) := by
  refine MM.intro (by decide) [some (.ref (Z.2.2 2)), some (.int p), none] rfl (Nat.le_of_ble_eq_true rfl) (fun X (h : OK Z X cX1_settle RX1 3 (rmd 5)) hr => ?_)
  refine g_aload_n (i := 0) h dX1_settle_0 rfl rfl (pc' := 1) rfl ?_
  refine g_iload_n (i := 1) h dX1_settle_1 rfl rfl (pc' := 2) rfl ?_
  refine pf_X1_25 h dX1_settle_2 (pc' := 5) rfl ?_
  refine g_aload_n (i := 0) h dX1_settle_5 rfl rfl (pc' := 6) rfl ?_
  refine g_iconst (v := nI 0) h dX1_settle_6 (by decide) (pc' := 7) rfl ?_
  refine pf_X1_29 h dX1_settle_7 (pc' := 10) rfl ?_
  refine g_aload_n (i := 0) h dX1_settle_10 rfl rfl (pc' := 11) rfl ?_
  refine g_lconst (v := 1) h dX1_settle_11 (by decide) (pc' := 12) rfl ?_
  refine pf_X1_32 h dX1_settle_12 (pc' := 15) rfl ?_
  refine g_iconst (v := nI 0) h dX1_settle_15 (by decide) (pc' := 16) rfl ?_
  refine g_istore2 h dX1_settle_16 rfl (by decide) (pc' := 17) rfl ?_
  refine GG.castW (lp (P := fun j => GG Z X 17 [some (.ref (Z.2.2 2)), some (.int p), some (.int (nI j))] [] (wC Z n toll paid coin debt (zf fall j) (oS shr j) mat rgt p (nI 0) 1)) 4 ?_ ?_) ⟨rfl, rfl, rfl, trivial⟩ rfl (by rw [zf_0, oS_0])
  · skip
    refine g_iload_n (i := 2) h dX1_settle_17 rfl rfl (pc' := 18) rfl ?_
    refine g_iconst (v := nI 4) h dX1_settle_18 (by decide) (pc' := 19) rfl ?_
    refine g_icmp_geT (tg := 46) h dX1_settle_19 (by decide) (Int32.le_refl _) ?_
    refine g_iconst (v := nI 1) h dX1_settle_46 (by decide) (pc' := 47) rfl ?_
    refine g_istore2 h dX1_settle_47 rfl (by decide) (pc' := 48) rfl ?_
    have key48 : ∀ (k : Nat) (r : Nat) (s : cT), (r + k = 5) → (cst toll p coin debt fall shr mat rgt = stl toll p coin debt k r s) → GG Z X 48 [some (.ref (Z.2.2 2)), some (.int p), some (.int (nI r))] [] (wC Z n toll paid coin debt ((s).1) ((s).2.1) ((s).2.2.1) ((s).2.2.2.1) p ((s).2.2.2.2.1) ((s).2.2.2.2.2)) := by
      intro k
      induction k with
      | zero =>
        intro r s e48_0 e48_1
        refine g_iload_n (i := 2) h dX1_settle_48 rfl rfl (pc' := 49) rfl ?_
        refine g_iconst (v := nI 4) h dX1_settle_49 (by decide) (pc' := 50) rfl ?_
        refine g_icmp_gtT (tg := 79) h dX1_settle_50 (by decide) (by rw [show r = 5 by omega]; decide) ?_
        exact g_vret h hr dX1_settle_79 rfl (by rw [e48_1]; simp only [stl, ])
      | succ k ih48 =>
        intro r s e48_0 e48_1
        have hr4 : r ≤ 4 := by omega
        refine g_iload_n (i := 2) h dX1_settle_48 rfl rfl (pc' := 49) rfl ?_
        refine g_iconst (v := nI 4) h dX1_settle_49 (by decide) (pc' := 50) rfl ?_
        refine g_icmp_gtF (tg := 79) h dX1_settle_50 (by decide) (pc' := 53) rfl (nI_nlt hr4 (by decide)) ?_
        refine g_aload_n (i := 0) h dX1_settle_53 rfl rfl (pc' := 54) rfl ?_
        refine g_iload_n (i := 2) h dX1_settle_54 rfl rfl (pc' := 55) rfl ?_
        refine g_callV1 (q0 := 2) h dX1_settle_55 cf_X1_48 (M_X1_anyFallIn (r := r) ) rfl rfl rfl rfl (by decide) rfl (Nat.le_of_ble_eq_true rfl) (pc' := 58) rfl ?_
        refine g_if_ne (tg := 64) h dX1_settle_58 (by decide) (pc' := 61) rfl (fun c1 => ?_) (fun c1 => ?_)
        · skip
          refine g_aload_n (i := 0) h dX1_settle_64 rfl rfl (pc' := 65) rfl ?_
          refine g_iload_n (i := 2) h dX1_settle_65 rfl rfl (pc' := 66) rfl ?_
          refine pf_X1_29 h dX1_settle_66 (pc' := 69) rfl ?_
          refine g_aload_n (i := 0) h dX1_settle_69 rfl rfl (pc' := 70) rfl ?_
          refine g_callV0 (q0 := 2) h dX1_settle_70 cf_X1_52 (M_X1_solveShares  ) rfl rfl rfl rfl (by decide) rfl (Nat.le_of_ble_eq_true rfl) (pc' := 73) rfl ?_
          refine g_iinc2 (v := nI (r + 1)) h dX1_settle_73 rfl (inc1 r) (by decide) (pc' := 76) rfl ?_
          refine g_goto (pc' := 48) h dX1_settle_76 (by decide) ?_
          exact GG.castW (ih48 (r + 1) (slv toll p coin debt (aF (nI r) s.2.2.2.2.2 p coin debt s.2.1 s.1 4) (nI r) s) (by omega) (e48_1.trans (if_neg c1))) ⟨rfl, rfl, rfl, trivial⟩ rfl rfl
        · skip
          refine g_goto (pc' := 79) h dX1_settle_61 (by decide) ?_
          exact g_vret h hr dX1_settle_79 rfl (by rw [e48_1]; simp only [stl, if_pos c1])
    exact GG.castW (key48 4 1 (zf fall 4, oS shr 4, mat, rgt, nI 0, 1) rfl rfl) ⟨rfl, rfl, rfl, trivial⟩ rfl rfl
  · intro j hj ih17
    refine g_iload_n (i := 2) h dX1_settle_17 rfl rfl (pc' := 18) rfl ?_
    refine g_iconst (v := nI 4) h dX1_settle_18 (by decide) (pc' := 19) rfl ?_
    refine g_icmp_geF (tg := 46) h dX1_settle_19 (by decide) (pc' := 22) rfl (nI_ge hj (by omega)) ?_
    refine g_aload_n (i := 0) h dX1_settle_22 rfl rfl (pc' := 23) rfl ?_
    refine gf_X1_9 h dX1_settle_23 (pc' := 26) rfl ?_
    refine g_iload_n (i := 2) h dX1_settle_26 rfl rfl (pc' := 27) rfl ?_
    refine g_iconst (v := nI 0) h dX1_settle_27 (by decide) (pc' := 28) rfl ?_
    refine g_callN0 h dX1_settle_28 cf_X1_40 (M_X3_put_6 (k := j) (x := nI 0) (by omega)) rfl (by decide) rfl (Nat.le_of_ble_eq_true rfl) (pc' := 31) rfl ?_
    refine g_aload_n (i := 0) h dX1_settle_31 rfl rfl (pc' := 32) rfl ?_
    refine gf_X1_15 h dX1_settle_32 (pc' := 35) rfl ?_
    refine g_iload_n (i := 2) h dX1_settle_35 rfl rfl (pc' := 36) rfl ?_
    refine g_lconst (v := 1) h dX1_settle_36 (by decide) (pc' := 37) rfl ?_
    refine g_callN0 h dX1_settle_37 cf_X1_44 (M_X3_putLong_7 (k := j) (x := 1) (by omega)) rfl (by decide) rfl (Nat.le_of_ble_eq_true rfl) (pc' := 40) rfl ?_
    refine g_iinc2 (v := nI (j + 1)) h dX1_settle_40 rfl (inc1 j) (by decide) (pc' := 43) rfl ?_
    refine g_goto (pc' := 17) h dX1_settle_43 (by decide) ?_
    exact GG.castW ih17 ⟨rfl, rfl, rfl, trivial⟩ rfl (by rw [zf_s, oS_s])
set_option maxRecDepth 20000 in
set_option maxHeartbeats 4000000 in
theorem M_X1_fallenCount {Z : ZT} {n : Int32} {toll : Int32} {paid : Int32} {coin : Nat → Int32} {debt : Nat → Int32} {fall : Nat → Int32} {shr : Nat → Int64} {mat : Nat → Int64} {rgt : Nat → Int64} {pen : Int32} {last : Int32} {below : Int64}    : MM Z yX1_fallenCount cX1_fallenCount 3 (some .int) 3 [.ref (Z.2.2 2)] (wC Z n toll paid coin debt fall shr mat rgt pen last below) (some (.int (nI (fC fall 4)))) (wC Z n toll paid coin debt fall shr mat rgt pen last below) := by
  refine MM.intro (by decide) [some (.ref (Z.2.2 2)), none, none] rfl (Nat.le_of_ble_eq_true rfl) (fun X (h : OK Z X cX1_fallenCount RX1 3 (rmd 3)) hr => ?_)
  refine g_iconst (v := nI 0) h dX1_fallenCount_0 (by decide) (pc' := 1) rfl ?_
  refine g_istore1 h dX1_fallenCount_1 rfl (by decide) (pc' := 2) rfl ?_
  refine g_iconst (v := nI 0) h dX1_fallenCount_2 (by decide) (pc' := 3) rfl ?_
  refine g_istore2 h dX1_fallenCount_3 rfl (by decide) (pc' := 4) rfl ?_
  refine GG.castW (lp (P := fun j => GG Z X 4 [some (.ref (Z.2.2 2)), some (.int (nI (fC fall j))), some (.int (nI j))] [] (wC Z n toll paid coin debt fall shr mat rgt pen last below)) 4 ?_ ?_) ⟨rfl, rfl, rfl, trivial⟩ rfl rfl
  · skip
    refine g_iload_n (i := 2) h dX1_fallenCount_4 rfl rfl (pc' := 5) rfl ?_
    refine g_iconst (v := nI 4) h dX1_fallenCount_5 (by decide) (pc' := 6) rfl ?_
    refine g_icmp_geT (tg := 26) h dX1_fallenCount_6 (by decide) (Int32.le_refl _) ?_
    refine g_iload_n (i := 1) h dX1_fallenCount_26 rfl rfl (pc' := 27) rfl ?_
    exact g_iret h hr dX1_fallenCount_27 rfl rfl
  · intro j hj ih4
    refine g_iload_n (i := 2) h dX1_fallenCount_4 rfl rfl (pc' := 5) rfl ?_
    refine g_iconst (v := nI 4) h dX1_fallenCount_5 (by decide) (pc' := 6) rfl ?_
    refine g_icmp_geF (tg := 26) h dX1_fallenCount_6 (by decide) (pc' := 9) rfl (nI_ge hj (by omega)) ?_
    refine g_aload_n (i := 0) h dX1_fallenCount_9 rfl rfl (pc' := 10) rfl ?_
    refine g_iload_n (i := 2) h dX1_fallenCount_10 rfl rfl (pc' := 11) rfl ?_
    refine g_callV1 (q0 := 2) h dX1_fallenCount_11 cf_X1_55 (M_X1_isFallen (i := j) (by omega)) rfl rfl rfl rfl (by decide) rfl (Nat.le_of_ble_eq_true rfl) (pc' := 14) rfl ?_
    refine g_ifb_eq (tg := 20) h dX1_fallenCount_14 (by decide) (pc' := 17) rfl (fun c1 => ?_) (fun c1 => ?_)
    · skip
      refine g_iinc2 (v := nI (j + 1)) h dX1_fallenCount_20 rfl (inc1 j) (by decide) (pc' := 23) rfl ?_
      refine g_goto (pc' := 4) h dX1_fallenCount_23 (by decide) ?_
      exact GG.castW ih4 ⟨rfl, (by simp only [List.head?_cons, List.tail_cons, fC, if_neg c1]), rfl, trivial⟩ rfl rfl
    · skip
      refine g_iinc1 (v := nI (fC fall j + 1)) h dX1_fallenCount_17 rfl (inc1 (fC fall j)) (by decide) (pc' := 20) rfl ?_
      refine g_iinc2 (v := nI (j + 1)) h dX1_fallenCount_20 rfl (inc1 j) (by decide) (pc' := 23) rfl ?_
      refine g_goto (pc' := 4) h dX1_fallenCount_23 (by decide) ?_
      exact GG.castW ih4 ⟨rfl, (by simp only [List.head?_cons, List.tail_cons, fC, if_pos c1]), rfl, trivial⟩ rfl rfl
set_option maxRecDepth 20000 in
set_option maxHeartbeats 4000000 in
theorem M_X1_leftAbove {Z : ZT} {n : Int32} {toll : Int32} {paid : Int32} {coin : Nat → Int32} {debt : Nat → Int32} {fall : Nat → Int32} {shr : Nat → Int64} {mat : Nat → Int64} {rgt : Nat → Int64} {pen : Int32} {last : Int32} {below : Int64} {i : Nat}  (g0 : i < 4) : MM Z yX1_leftAbove cX1_leftAbove 2 (some .long) 4 [.ref (Z.2.2 2), .int (nI i)] (wC Z n toll paid coin debt fall shr mat rgt pen last below) (some (.long (if fl fall i then 0 else gA below pen coin debt shr i 4 - below * (oB debt i).toInt64))) (wC Z n toll paid coin debt fall shr mat rgt pen last below) := by
  refine MM.intro (by decide) [some (.ref (Z.2.2 2)), some (.int (nI i))] rfl (Nat.le_of_ble_eq_true rfl) (fun X (h : OK Z X cX1_leftAbove RX1 2 (rmd 4)) hr => ?_)
  refine g_aload_n (i := 0) h dX1_leftAbove_0 rfl rfl (pc' := 1) rfl ?_
  refine g_iload_n (i := 1) h dX1_leftAbove_1 rfl rfl (pc' := 2) rfl ?_
  refine g_callV1 (q0 := 2) h dX1_leftAbove_2 cf_X1_55 (M_X1_isFallen (i := i) (by omega)) rfl rfl rfl rfl (by decide) rfl (Nat.le_of_ble_eq_true rfl) (pc' := 5) rfl ?_
  refine g_ifb_eq (tg := 12) h dX1_leftAbove_5 (by decide) (pc' := 8) rfl (fun c1 => ?_) (fun c1 => ?_)
  · skip
    refine g_aload_n (i := 0) h dX1_leftAbove_12 rfl rfl (pc' := 13) rfl ?_
    refine g_iload_n (i := 1) h dX1_leftAbove_13 rfl rfl (pc' := 14) rfl ?_
    refine g_callV1 (q0 := 2) h dX1_leftAbove_14 cf_X1_58 (M_X1_grossAbove (i := i) (by omega)) rfl rfl rfl rfl (by decide) rfl (Nat.le_of_ble_eq_true rfl) (pc' := 17) rfl ?_
    refine g_aload_n (i := 0) h dX1_leftAbove_17 rfl rfl (pc' := 18) rfl ?_
    refine gf_X1_32 h dX1_leftAbove_18 (pc' := 21) rfl ?_
    refine g_aload_n (i := 0) h dX1_leftAbove_21 rfl rfl (pc' := 22) rfl ?_
    refine gf_X1_36 h dX1_leftAbove_22 (pc' := 25) rfl ?_
    refine g_iload_n (i := 1) h dX1_leftAbove_25 rfl rfl (pc' := 26) rfl ?_
    refine g_callV1 (q0 := 1) h dX1_leftAbove_26 cf_X1_62 (M_X0_allOwedBy (i := i) (by omega)) rfl rfl rfl rfl (by decide) rfl (Nat.le_of_ble_eq_true rfl) (pc' := 29) rfl ?_
    refine g_i2l h dX1_leftAbove_29 (pc' := 30) rfl ?_
    refine g_lmul h dX1_leftAbove_30 (pc' := 31) rfl ?_
    refine g_lsub h dX1_leftAbove_31 (pc' := 32) rfl ?_
    exact g_lret h hr dX1_leftAbove_32 (by first | rfl | simp only [if_neg c1] | simp [c1]) rfl
  · skip
    refine g_lconst (v := 0) h dX1_leftAbove_8 (by decide) (pc' := 9) rfl ?_
    refine g_goto (pc' := 32) h dX1_leftAbove_9 (by decide) ?_
    exact g_lret h hr dX1_leftAbove_32 (by first | rfl | simp only [if_pos c1] | simp [c1]) rfl
set_option maxRecDepth 20000 in
set_option maxHeartbeats 4000000 in
theorem M_X1_lostAbove {Z : ZT} {n : Int32} {toll : Int32} {paid : Int32} {coin : Nat → Int32} {debt : Nat → Int32} {fall : Nat → Int32} {shr : Nat → Int64} {mat : Nat → Int64} {rgt : Nat → Int64} {pen : Int32} {last : Int32} {below : Int64}    : MM Z yX1_lostAbove cX1_lostAbove 4 (some .long) 4 [.ref (Z.2.2 2)] (wC Z n toll paid coin debt fall shr mat rgt pen last below) (some (.long (lA toll below pen coin debt shr fall 4))) (wC Z n toll paid coin debt fall shr mat rgt pen last below) := by
  refine MM.intro (by decide) [some (.ref (Z.2.2 2)), none, none, none] rfl (Nat.le_of_ble_eq_true rfl) (fun X (h : OK Z X cX1_lostAbove RX1 4 (rmd 4)) hr => ?_)
  refine g_lconst (v := 0) h dX1_lostAbove_0 (by decide) (pc' := 1) rfl ?_
  refine g_lstore1 h dX1_lostAbove_1 rfl (by decide) (pc' := 2) rfl ?_
  refine g_iconst (v := nI 0) h dX1_lostAbove_2 (by decide) (pc' := 3) rfl ?_
  refine g_istore3 h dX1_lostAbove_3 rfl (by decide) (pc' := 4) rfl ?_
  refine GG.castW (lp (P := fun j => GG Z X 4 [some (.ref (Z.2.2 2)), some (.long (lA toll below pen coin debt shr fall j)), none, some (.int (nI j))] [] (wC Z n toll paid coin debt fall shr mat rgt pen last below)) 4 ?_ ?_) ⟨rfl, rfl, rfl, trivial⟩ rfl rfl
  · skip
    refine g_iload_n (i := 3) h dX1_lostAbove_4 rfl rfl (pc' := 5) rfl ?_
    refine g_iconst (v := nI 4) h dX1_lostAbove_5 (by decide) (pc' := 6) rfl ?_
    refine g_icmp_geT (tg := 40) h dX1_lostAbove_6 (by decide) (Int32.le_refl _) ?_
    refine g_lload_n (i := 1) h dX1_lostAbove_40 rfl rfl (pc' := 41) rfl ?_
    exact g_lret h hr dX1_lostAbove_41 rfl rfl
  · intro j hj ih4
    refine g_iload_n (i := 3) h dX1_lostAbove_4 rfl rfl (pc' := 5) rfl ?_
    refine g_iconst (v := nI 4) h dX1_lostAbove_5 (by decide) (pc' := 6) rfl ?_
    refine g_icmp_geF (tg := 40) h dX1_lostAbove_6 (by decide) (pc' := 9) rfl (nI_ge hj (by omega)) ?_
    refine g_aload_n (i := 0) h dX1_lostAbove_9 rfl rfl (pc' := 10) rfl ?_
    refine g_iload_n (i := 3) h dX1_lostAbove_10 rfl rfl (pc' := 11) rfl ?_
    refine g_callV1 (q0 := 2) h dX1_lostAbove_11 cf_X1_55 (M_X1_isFallen (i := j) (by omega)) rfl rfl rfl rfl (by decide) rfl (Nat.le_of_ble_eq_true rfl) (pc' := 14) rfl ?_
    refine g_ifb_eq (tg := 34) h dX1_lostAbove_14 (by decide) (pc' := 17) rfl (fun c1 => ?_) (fun c1 => ?_)
    · skip
      refine g_iinc3 (v := nI (j + 1)) h dX1_lostAbove_34 rfl (inc1 j) (by decide) (pc' := 37) rfl ?_
      refine g_goto (pc' := 4) h dX1_lostAbove_37 (by decide) ?_
      exact GG.castW ih4 ⟨rfl, (by simp only [List.head?_cons, List.tail_cons, lA, if_neg c1]), rfl, trivial⟩ rfl rfl
    · skip
      refine g_lload_n (i := 1) h dX1_lostAbove_17 rfl rfl (pc' := 18) rfl ?_
      refine g_aload_n (i := 0) h dX1_lostAbove_18 rfl rfl (pc' := 19) rfl ?_
      refine g_iload_n (i := 3) h dX1_lostAbove_19 rfl rfl (pc' := 20) rfl ?_
      refine g_callV1 (q0 := 2) h dX1_lostAbove_20 cf_X1_58 (M_X1_grossAbove (i := j) (by omega)) rfl rfl rfl rfl (by decide) rfl (Nat.le_of_ble_eq_true rfl) (pc' := 23) rfl ?_
      refine g_aload_n (i := 0) h dX1_lostAbove_23 rfl rfl (pc' := 24) rfl ?_
      refine gf_X1_36 h dX1_lostAbove_24 (pc' := 27) rfl ?_
      refine gf_X1_81 h dX1_lostAbove_27 (pc' := 30) rfl ?_
      refine g_i2l h dX1_lostAbove_30 (pc' := 31) rfl ?_
      refine g_lmul h dX1_lostAbove_31 (pc' := 32) rfl ?_
      refine g_ladd h dX1_lostAbove_32 (pc' := 33) rfl ?_
      refine g_lstore1 h dX1_lostAbove_33 rfl (by decide) (pc' := 34) rfl ?_
      refine g_iinc3 (v := nI (j + 1)) h dX1_lostAbove_34 rfl (inc1 j) (by decide) (pc' := 37) rfl ?_
      refine g_goto (pc' := 4) h dX1_lostAbove_37 (by decide) ?_
      exact GG.castW ih4 ⟨rfl, (by simp only [List.head?_cons, List.tail_cons, lA, if_pos c1]), rfl, trivial⟩ rfl rfl

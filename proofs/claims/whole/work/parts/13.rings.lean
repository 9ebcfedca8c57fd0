def fgL : List Nat := [12, 13, 14, 23, 24, 34, 123, 124, 132, 134, 142, 143, 234, 243, 1234, 1243, 1324, 1342, 1423, 1432]
def fg (k : Nat) : Nat := fgL.getD k 0
theorem all_fg : ∀ k, k < 20 → allR k = nI (fg k) := by decide
theorem M_X3_at_allN {Z : ZT} {w : va_W} {k : Nat} (hk : k < 20) : MM Z yX3_at cX3_at 2 (some .int) 0 [.ref (Z.2.2 21), .int (nI k)] w (some (.int (nI (fg k)))) w := by
  rw [← all_fg k hk]
  exact M_X3_at_all hk
def fo (g : Nat) : Nat := (if 100 ≤ g then (if 1000 ≤ g then g / 1000 else g / 100) else g / 10) - 1
def sz (g : Nat) : Nat := if 100 ≤ g then (if 1000 ≤ g then 4 else 3) else 2
theorem sz_le (g : Nat) : sz g ≤ 4 := by unfold sz; split <;> (try split) <;> omega
/-- a ring's figures are walked from the last house back -/
def rs (g : Nat) : Nat → Nat
  | 0 => g
  | j + 1 => rs g j / 10
theorem rs_le (g : Nat) : ∀ j, rs g j ≤ g
  | 0 => Nat.le_refl _
  | j + 1 => by
    rw [rs]
    have := rs_le g j
    omega
def pe (g : Nat) : Nat → Nat
  | 0 => fo g
  | j + 1 => rs g j % 10 - 1
/-- the cell of the ring's debt at a step -/
abbrev ce (g j : Nat) : Nat := (rs g j % 10 - 1) * 5 + pe g j
def lm (debt : Nat → Int32) (g : Nat) : Nat → Int32
  | 0 => nI 50
  | j + 1 => if debt (ce g j) < lm debt g j then debt (ce g j) else lm debt g j
def ls (debt : Nat → Int32) (g : Nat) (v : Int32) : Nat → Nat → Int32
  | 0 => debt
  | j + 1 => upd (ls debt g v j) (ce g j) (ls debt g v j (ce g j) - v)
abbrev okg (g : Nat) : Prop := ∀ j, j < sz g → pe g j < 4 ∧ 1 ≤ rs g j % 10 ∧ rs g j % 10 ≤ 4
theorem ok_fg : ∀ k, k < 20 → 12 ≤ fg k ∧ fg k < 10000 ∧ okg (fg k) := by decide
def hm (debt : Nat → Int32) : Nat → Nat
  | 0 => 0
  | j + 1 => if lm debt (fg j) (sz (fg j)) ≤ 0 then hm debt j else hm debt j + 1
def fgo (debt : Nat → Int32) (q : Int32) : Nat → Nat → Nat → Int32
  | 0, _, _ => (-1)
  | k + 1, j, f => if lm debt (fg j) (sz (fg j)) ≤ 0 then fgo debt q k (j + 1) f else if nI f = q then nI (fg j) else fgo debt q k (j + 1) (f + 1)
set_option maxRecDepth 20000 in
set_option maxHeartbeats 4000000 in
theorem M_X2_sizeOf {Z : ZT} {n : Int32} {toll : Int32} {paid : Int32} {coin : Nat → Int32} {debt : Nat → Int32} {fall : Nat → Int32} {shr : Nat → Int64} {mat : Nat → Int64} {rgt : Nat → Int64} {pen : Int32} {last : Int32} {below : Int64} {g : Nat}  (g0 : 12 ≤ g) (g1 : g < 10000) : MM Z yX2_sizeOf cX2_sizeOf 2 (some .int) 0 [.ref (Z.2.2 3), .int (nI g)] (wC Z n toll paid coin debt fall shr mat rgt pen last below) (some (.int (nI (sz g)))) (wC Z n toll paid coin debt fall shr mat rgt pen last below) := by
  refine MM.intro (by decide) [some (.ref (Z.2.2 3)), some (.int (nI g))] rfl (Nat.le_of_ble_eq_true rfl) (fun X (h : OK Z X cX2_sizeOf RX2 2 (rmd 0)) hr => ?_)
  refine g_iload_n (i := 1) h dX2_sizeOf_0 rfl rfl (pc' := 1) rfl ?_
  refine g_bipush (v := nI 100) h dX2_sizeOf_1 (by decide) (pc' := 3) rfl ?_
  refine g_icmp_ge (tg := 10) h dX2_sizeOf_3 (by decide) (pc' := 6) rfl (fun c1 => ?_) (fun c1 => ?_)
  · skip
    have d1 : 100 ≤ g := (nI_leI (by decide) (by omega)).mp c1
    refine g_iload_n (i := 1) h dX2_sizeOf_10 rfl rfl (pc' := 11) rfl ?_
    refine g_sipush (v := nI 1000) h dX2_sizeOf_11 (by decide) (pc' := 14) rfl ?_
    refine g_icmp_ge (tg := 21) h dX2_sizeOf_14 (by decide) (pc' := 17) rfl (fun c2 => ?_) (fun c2 => ?_)
    · skip
      have d2 : 1000 ≤ g := (nI_leI (by decide) (by omega)).mp c2
      refine g_iconst (v := nI 4) h dX2_sizeOf_21 (by decide) (pc' := 22) rfl ?_
      exact g_iret h hr dX2_sizeOf_22 (by rw [sz, if_pos d1, if_pos d2]) rfl
    · skip
      have d2 : ¬ 1000 ≤ g := fun q => c2 (nI_le q (by omega))
      refine g_iconst (v := nI 3) h dX2_sizeOf_17 (by decide) (pc' := 18) rfl ?_
      refine g_goto (pc' := 22) h dX2_sizeOf_18 (by decide) ?_
      exact g_iret h hr dX2_sizeOf_22 (by rw [sz, if_pos d1, if_neg d2]) rfl
  · skip
    have d1 : ¬ 100 ≤ g := fun q => c1 (nI_le q (by omega))
    refine g_iconst (v := nI 2) h dX2_sizeOf_6 (by decide) (pc' := 7) rfl ?_
    refine g_goto (pc' := 22) h dX2_sizeOf_7 (by decide) ?_
    exact g_iret h hr dX2_sizeOf_22 (by rw [sz, if_neg d1]) rfl
set_option maxRecDepth 20000 in
set_option maxHeartbeats 4000000 in
theorem M_X2_firstOf {Z : ZT} {n : Int32} {toll : Int32} {paid : Int32} {coin : Nat → Int32} {debt : Nat → Int32} {fall : Nat → Int32} {shr : Nat → Int64} {mat : Nat → Int64} {rgt : Nat → Int64} {pen : Int32} {last : Int32} {below : Int64} {g : Nat}  (g0 : 12 ≤ g) (g1 : g < 10000) : MM Z yX2_firstOf cX2_firstOf 2 (some .int) 0 [.ref (Z.2.2 3), .int (nI g)] (wC Z n toll paid coin debt fall shr mat rgt pen last below) (some (.int (nI (fo g)))) (wC Z n toll paid coin debt fall shr mat rgt pen last below) := by
  refine MM.intro (by decide) [some (.ref (Z.2.2 3)), some (.int (nI g))] rfl (Nat.le_of_ble_eq_true rfl) (fun X (h : OK Z X cX2_firstOf RX2 2 (rmd 0)) hr => ?_)
  refine g_iload_n (i := 1) h dX2_firstOf_0 rfl rfl (pc' := 1) rfl ?_
  refine g_bipush (v := nI 100) h dX2_firstOf_1 (by decide) (pc' := 3) rfl ?_
  refine g_icmp_ge (tg := 13) h dX2_firstOf_3 (by decide) (pc' := 6) rfl (fun c1 => ?_) (fun c1 => ?_)
  · skip
    have d1 : 100 ≤ g := (nI_leI (by decide) (by omega)).mp c1
    refine g_iload_n (i := 1) h dX2_firstOf_13 rfl rfl (pc' := 14) rfl ?_
    refine g_sipush (v := nI 1000) h dX2_firstOf_14 (by decide) (pc' := 17) rfl ?_
    refine g_icmp_ge (tg := 27) h dX2_firstOf_17 (by decide) (pc' := 20) rfl (fun c2 => ?_) (fun c2 => ?_)
    · skip
      have d2 : 1000 ≤ g := (nI_leI (by decide) (by omega)).mp c2
      refine g_iload_n (i := 1) h dX2_firstOf_27 rfl rfl (pc' := 28) rfl ?_
      refine g_sipush (v := nI 1000) h dX2_firstOf_28 (by decide) (pc' := 31) rfl ?_
      refine g_idivN h dX2_firstOf_31 (by omega) (by omega) (by omega) (pc' := 32) rfl ?_
      refine g_iconst (v := nI 1) h dX2_firstOf_32 (by decide) (pc' := 33) rfl ?_
      refine g_isubN h dX2_firstOf_33 (by omega) (pc' := 34) rfl ?_
      exact g_iret h hr dX2_firstOf_34 (by rw [fo, if_pos d1, if_pos d2]) rfl
    · skip
      have d2 : ¬ 1000 ≤ g := fun q => c2 (nI_le q (by omega))
      refine g_iload_n (i := 1) h dX2_firstOf_20 rfl rfl (pc' := 21) rfl ?_
      refine g_bipush (v := nI 100) h dX2_firstOf_21 (by decide) (pc' := 23) rfl ?_
      refine g_idivN h dX2_firstOf_23 (by omega) (by omega) (by omega) (pc' := 24) rfl ?_
      refine g_goto (pc' := 32) h dX2_firstOf_24 (by decide) ?_
      refine g_iconst (v := nI 1) h dX2_firstOf_32 (by decide) (pc' := 33) rfl ?_
      refine g_isubN h dX2_firstOf_33 (by omega) (pc' := 34) rfl ?_
      exact g_iret h hr dX2_firstOf_34 (by rw [fo, if_pos d1, if_neg d2]) rfl
  · skip
    have d1 : ¬ 100 ≤ g := fun q => c1 (nI_le q (by omega))
    refine g_iload_n (i := 1) h dX2_firstOf_6 rfl rfl (pc' := 7) rfl ?_
    refine g_bipush (v := nI 10) h dX2_firstOf_7 (by decide) (pc' := 9) rfl ?_
    refine g_idivN h dX2_firstOf_9 (by omega) (by omega) (by omega) (pc' := 10) rfl ?_
    refine g_goto (pc' := 32) h dX2_firstOf_10 (by decide) ?_
    refine g_iconst (v := nI 1) h dX2_firstOf_32 (by decide) (pc' := 33) rfl ?_
    refine g_isubN h dX2_firstOf_33 (by omega) (pc' := 34) rfl ?_
    exact g_iret h hr dX2_firstOf_34 (by rw [fo, if_neg d1]) rfl
set_option maxRecDepth 20000 in
set_option maxHeartbeats 4000000 in
theorem M_X2_leastDebt {Z : ZT} {n : Int32} {toll : Int32} {paid : Int32} {coin : Nat → Int32} {debt : Nat → Int32} {fall : Nat → Int32} {shr : Nat → Int64} {mat : Nat → Int64} {rgt : Nat → Int64} {pen : Int32} {last : Int32} {below : Int64} {g : Nat}  (g0 : 12 ≤ g) (g1 : g < 10000) (g2 : okg g) : MM Z yX2_leastDebt cX2_leastDebt 7 (some .int) 2 [.ref (Z.2.2 3), .int (nI g)] (wC Z n toll paid coin debt fall shr mat rgt pen last below) (some (.int (lm debt g (sz g)))) (wC Z n toll paid coin debt fall shr mat rgt pen last below) := by
  refine MM.intro (by decide) [some (.ref (Z.2.2 3)), some (.int (nI g)), none, none, none, none, none] rfl (Nat.le_of_ble_eq_true rfl) (fun X (h : OK Z X cX2_leastDebt RX2 7 (rmd 2)) hr => ?_)
  refine g_bipush (v := nI 50) h dX2_leastDebt_0 (by decide) (pc' := 2) rfl ?_
  refine g_istore2 h dX2_leastDebt_2 rfl (by decide) (pc' := 3) rfl ?_
  refine g_aload_n (i := 0) h dX2_leastDebt_3 rfl rfl (pc' := 4) rfl ?_
  refine g_iload_n (i := 1) h dX2_leastDebt_4 rfl rfl (pc' := 5) rfl ?_
  refine g_callV1 (q0 := 3) h dX2_leastDebt_5 cf_X2_27 (M_X2_firstOf (g := g) (by omega) (by omega)) rfl rfl rfl rfl (by decide) rfl (Nat.le_of_ble_eq_true rfl) (pc' := 8) rfl ?_
  refine g_istore3 h dX2_leastDebt_8 rfl (by decide) (pc' := 9) rfl ?_
  refine g_iload_n (i := 1) h dX2_leastDebt_9 rfl rfl (pc' := 10) rfl ?_
  refine g_istore4 h dX2_leastDebt_10 rfl (by decide) (pc' := 12) rfl ?_
  refine g_iconst (v := nI 0) h dX2_leastDebt_12 (by decide) (pc' := 13) rfl ?_
  refine g_istore5 h dX2_leastDebt_13 rfl (by decide) (pc' := 15) rfl ?_
  refine GG.castW (lp (P := fun j => GG Z X 15 [some (.ref (Z.2.2 3)), some (.int (nI g)), some (.int (lm debt g j)), some (.int (nI (pe g j))), some (.int (nI (rs g j))), some (.int (nI j)), none] [] (wC Z n toll paid coin debt fall shr mat rgt pen last below)) (sz g) ?_ ?_) ⟨rfl, rfl, rfl, rfl, rfl, rfl, trivial⟩ rfl rfl
  · skip
    have hsz := sz_le g
    refine g_iload h dX2_leastDebt_15 rfl (pc' := 17) rfl ?_
    refine g_aload_n (i := 0) h dX2_leastDebt_17 rfl rfl (pc' := 18) rfl ?_
    refine g_iload_n (i := 1) h dX2_leastDebt_18 rfl rfl (pc' := 19) rfl ?_
    refine g_callV1 (q0 := 3) h dX2_leastDebt_19 cf_X2_30 (M_X2_sizeOf (g := g) (by omega) (by omega)) rfl rfl rfl rfl (by decide) rfl (Nat.le_of_ble_eq_true rfl) (pc' := 22) rfl ?_
    refine g_icmp_geT (tg := 65) h dX2_leastDebt_22 (by decide) (Int32.le_refl _) ?_
    refine g_iload_n (i := 2) h dX2_leastDebt_65 rfl rfl (pc' := 66) rfl ?_
    exact g_iret h hr dX2_leastDebt_66 rfl rfl
  · intro j hj ih15
    have hsz := sz_le g; have hk := g2 j hj; have hrs := rs_le g j
    refine g_iload h dX2_leastDebt_15 rfl (pc' := 17) rfl ?_
    refine g_aload_n (i := 0) h dX2_leastDebt_17 rfl rfl (pc' := 18) rfl ?_
    refine g_iload_n (i := 1) h dX2_leastDebt_18 rfl rfl (pc' := 19) rfl ?_
    refine g_callV1 (q0 := 3) h dX2_leastDebt_19 cf_X2_30 (M_X2_sizeOf (g := g) (by omega) (by omega)) rfl rfl rfl rfl (by decide) rfl (Nat.le_of_ble_eq_true rfl) (pc' := 22) rfl ?_
    refine g_icmp_geF (tg := 65) h dX2_leastDebt_22 (by decide) (pc' := 25) rfl (nI_ge hj (by omega)) ?_
    refine g_iload h dX2_leastDebt_25 rfl (pc' := 27) rfl ?_
    refine g_bipush (v := nI 10) h dX2_leastDebt_27 (by decide) (pc' := 29) rfl ?_
    refine g_iremN h dX2_leastDebt_29 (by omega) (by omega) (by omega) (pc' := 30) rfl ?_
    refine g_iconst (v := nI 1) h dX2_leastDebt_30 (by decide) (pc' := 31) rfl ?_
    refine g_isubN h dX2_leastDebt_31 (by omega) (pc' := 32) rfl ?_
    refine g_istore6 h dX2_leastDebt_32 rfl (by decide) (pc' := 34) rfl ?_
    refine g_iload_n (i := 2) h dX2_leastDebt_34 rfl rfl (pc' := 35) rfl ?_
    refine g_aload_n (i := 0) h dX2_leastDebt_35 rfl rfl (pc' := 36) rfl ?_
    refine gf_X2_9 h dX2_leastDebt_36 (pc' := 39) rfl ?_
    refine g_iload h dX2_leastDebt_39 rfl (pc' := 41) rfl ?_
    refine g_iload_n (i := 3) h dX2_leastDebt_41 rfl rfl (pc' := 42) rfl ?_
    refine g_callV1 (q0 := 1) h dX2_leastDebt_42 cf_X2_33 (M_X0_owed (i := ((rs g j) % 10) - 1) (c := pe g j) (by omega) (by omega)) rfl rfl rfl rfl (by decide) rfl (Nat.le_of_ble_eq_true rfl) (pc' := 45) rfl ?_
    refine g_mmin ml_X2_39 ms_min mi_math mc_min h dX2_leastDebt_45 (by decide) (Nat.le_of_ble_eq_true rfl) (pc' := 48) rfl ?_
    refine g_istore2 h dX2_leastDebt_48 rfl (by decide) (pc' := 49) rfl ?_
    refine g_iload h dX2_leastDebt_49 rfl (pc' := 51) rfl ?_
    refine g_istore3 h dX2_leastDebt_51 rfl (by decide) (pc' := 52) rfl ?_
    refine g_iload h dX2_leastDebt_52 rfl (pc' := 54) rfl ?_
    refine g_bipush (v := nI 10) h dX2_leastDebt_54 (by decide) (pc' := 56) rfl ?_
    refine g_idivN h dX2_leastDebt_56 (by omega) (by omega) (by omega) (pc' := 57) rfl ?_
    refine g_istore4 h dX2_leastDebt_57 rfl (by decide) (pc' := 59) rfl ?_
    refine g_iinc5 (v := nI (j + 1)) h dX2_leastDebt_59 rfl (inc1 j) (by decide) (pc' := 62) rfl ?_
    refine g_goto (pc' := 15) h dX2_leastDebt_62 (by decide) ?_
    exact GG.castW ih15 ⟨rfl, rfl, rfl, rfl, rfl, rfl, trivial⟩ rfl rfl
set_option maxRecDepth 20000 in
set_option maxHeartbeats 4000000 in
theorem M_X2_lessen {Z : ZT} {n : Int32} {toll : Int32} {paid : Int32} {coin : Nat → Int32} {debt : Nat → Int32} {fall : Nat → Int32} {shr : Nat → Int64} {mat : Nat → Int64} {rgt : Nat → Int64} {pen : Int32} {last : Int32} {below : Int64} {g : Nat}  (g0 : 12 ≤ g) (g1 : g < 10000) (g2 : okg g) : MM Z yX2_lessen cX2_lessen 7 (some .int) 3 [.ref (Z.2.2 3), .int (nI g)] (wC Z n toll paid coin debt fall shr mat rgt pen last below) (some (.int (lm debt g (sz g)))) (wC Z n toll paid coin (ls debt g (lm debt g (sz g)) (sz g)) fall shr mat rgt pen last below) := by
  refine MM.intro (by decide) [some (.ref (Z.2.2 3)), some (.int (nI g)), none, none, none, none, none] rfl (Nat.le_of_ble_eq_true rfl) (fun X (h : OK Z X cX2_lessen RX2 7 (rmd 3)) hr => ?_)
  refine g_aload_n (i := 0) h dX2_lessen_0 rfl rfl (pc' := 1) rfl ?_
  refine g_iload_n (i := 1) h dX2_lessen_1 rfl rfl (pc' := 2) rfl ?_
  refine g_callV1 (q0 := 3) h dX2_lessen_2 cf_X2_23 (M_X2_leastDebt (g := g) g0 g1 g2) rfl rfl rfl rfl (by decide) rfl (Nat.le_of_ble_eq_true rfl) (pc' := 5) rfl ?_
  refine g_istore2 h dX2_lessen_5 rfl (by decide) (pc' := 6) rfl ?_
  refine g_aload_n (i := 0) h dX2_lessen_6 rfl rfl (pc' := 7) rfl ?_
  refine g_iload_n (i := 1) h dX2_lessen_7 rfl rfl (pc' := 8) rfl ?_
  refine g_callV1 (q0 := 3) h dX2_lessen_8 cf_X2_27 (M_X2_firstOf (g := g) (by omega) (by omega)) rfl rfl rfl rfl (by decide) rfl (Nat.le_of_ble_eq_true rfl) (pc' := 11) rfl ?_
  refine g_istore3 h dX2_lessen_11 rfl (by decide) (pc' := 12) rfl ?_
  refine g_iload_n (i := 1) h dX2_lessen_12 rfl rfl (pc' := 13) rfl ?_
  refine g_istore4 h dX2_lessen_13 rfl (by decide) (pc' := 15) rfl ?_
  refine g_iconst (v := nI 0) h dX2_lessen_15 (by decide) (pc' := 16) rfl ?_
  refine g_istore5 h dX2_lessen_16 rfl (by decide) (pc' := 18) rfl ?_
  refine GG.castW (lp (P := fun j => GG Z X 18 [some (.ref (Z.2.2 3)), some (.int (nI g)), some (.int (lm debt g (sz g))), some (.int (nI (pe g j))), some (.int (nI (rs g j))), some (.int (nI j)), none] [] (wC Z n toll paid coin (ls debt g (lm debt g (sz g)) j) fall shr mat rgt pen last below)) (sz g) ?_ ?_) ⟨rfl, rfl, rfl, rfl, rfl, rfl, trivial⟩ rfl rfl
  · skip
    have hsz := sz_le g
    refine g_iload h dX2_lessen_18 rfl (pc' := 20) rfl ?_
    refine g_aload_n (i := 0) h dX2_lessen_20 rfl rfl (pc' := 21) rfl ?_
    refine g_iload_n (i := 1) h dX2_lessen_21 rfl rfl (pc' := 22) rfl ?_
    refine g_callV1 (q0 := 3) h dX2_lessen_22 cf_X2_30 (M_X2_sizeOf (g := g) (by omega) (by omega)) rfl rfl rfl rfl (by decide) rfl (Nat.le_of_ble_eq_true rfl) (pc' := 25) rfl ?_
    refine g_icmp_geT (tg := 75) h dX2_lessen_25 (by decide) (Int32.le_refl _) ?_
    refine g_iload_n (i := 2) h dX2_lessen_75 rfl rfl (pc' := 76) rfl ?_
    exact g_iret h hr dX2_lessen_76 rfl rfl
  · intro j hj ih18
    have hsz := sz_le g; have hk := g2 j hj; have hrs := rs_le g j
    refine g_iload h dX2_lessen_18 rfl (pc' := 20) rfl ?_
    refine g_aload_n (i := 0) h dX2_lessen_20 rfl rfl (pc' := 21) rfl ?_
    refine g_iload_n (i := 1) h dX2_lessen_21 rfl rfl (pc' := 22) rfl ?_
    refine g_callV1 (q0 := 3) h dX2_lessen_22 cf_X2_30 (M_X2_sizeOf (g := g) (by omega) (by omega)) rfl rfl rfl rfl (by decide) rfl (Nat.le_of_ble_eq_true rfl) (pc' := 25) rfl ?_
    refine g_icmp_geF (tg := 75) h dX2_lessen_25 (by decide) (pc' := 28) rfl (nI_ge hj (by omega)) ?_
    refine g_iload h dX2_lessen_28 rfl (pc' := 30) rfl ?_
    refine g_bipush (v := nI 10) h dX2_lessen_30 (by decide) (pc' := 32) rfl ?_
    refine g_iremN h dX2_lessen_32 (by omega) (by omega) (by omega) (pc' := 33) rfl ?_
    refine g_iconst (v := nI 1) h dX2_lessen_33 (by decide) (pc' := 34) rfl ?_
    refine g_isubN h dX2_lessen_34 (by omega) (pc' := 35) rfl ?_
    refine g_istore6 h dX2_lessen_35 rfl (by decide) (pc' := 37) rfl ?_
    refine g_aload_n (i := 0) h dX2_lessen_37 rfl rfl (pc' := 38) rfl ?_
    refine gf_X2_9 h dX2_lessen_38 (pc' := 41) rfl ?_
    refine g_iload h dX2_lessen_41 rfl (pc' := 43) rfl ?_
    refine g_iload_n (i := 3) h dX2_lessen_43 rfl rfl (pc' := 44) rfl ?_
    refine g_aload_n (i := 0) h dX2_lessen_44 rfl rfl (pc' := 45) rfl ?_
    refine gf_X2_9 h dX2_lessen_45 (pc' := 48) rfl ?_
    refine g_iload h dX2_lessen_48 rfl (pc' := 50) rfl ?_
    refine g_iload_n (i := 3) h dX2_lessen_50 rfl rfl (pc' := 51) rfl ?_
    refine g_callV1 (q0 := 1) h dX2_lessen_51 cf_X2_33 (M_X0_owed (i := ((rs g j) % 10) - 1) (c := pe g j) (by omega) (by omega)) rfl rfl rfl rfl (by decide) rfl (Nat.le_of_ble_eq_true rfl) (pc' := 54) rfl ?_
    refine g_iload_n (i := 2) h dX2_lessen_54 rfl rfl (pc' := 55) rfl ?_
    refine g_isub h dX2_lessen_55 (pc' := 56) rfl ?_
    refine g_callV0 (q0 := 1) h dX2_lessen_56 cf_X2_44 (M_X0_setOwed (i := ((rs g j) % 10) - 1) (c := pe g j) (v := ((ls debt g (lm debt g (sz g)) j) ((((rs g j) % 10) - 1) * 5 + (pe g j))) - (lm debt g (sz g))) (by omega) (by omega)) rfl rfl rfl rfl (by decide) rfl (Nat.le_of_ble_eq_true rfl) (pc' := 59) rfl ?_
    refine g_iload h dX2_lessen_59 rfl (pc' := 61) rfl ?_
    refine g_istore3 h dX2_lessen_61 rfl (by decide) (pc' := 62) rfl ?_
    refine g_iload h dX2_lessen_62 rfl (pc' := 64) rfl ?_
    refine g_bipush (v := nI 10) h dX2_lessen_64 (by decide) (pc' := 66) rfl ?_
    refine g_idivN h dX2_lessen_66 (by omega) (by omega) (by omega) (pc' := 67) rfl ?_
    refine g_istore4 h dX2_lessen_67 rfl (by decide) (pc' := 69) rfl ?_
    refine g_iinc5 (v := nI (j + 1)) h dX2_lessen_69 rfl (inc1 j) (by decide) (pc' := 72) rfl ?_
    refine g_goto (pc' := 18) h dX2_lessen_72 (by decide) ?_
    exact GG.castW ih18 ⟨rfl, rfl, rfl, rfl, rfl, rfl, trivial⟩ rfl rfl
set_option maxRecDepth 20000 in
set_option maxHeartbeats 4000000 in
theorem M_X2_howMany {Z : ZT} {n : Int32} {toll : Int32} {paid : Int32} {coin : Nat → Int32} {debt : Nat → Int32} {fall : Nat → Int32} {shr : Nat → Int64} {mat : Nat → Int64} {rgt : Nat → Int64} {pen : Int32} {last : Int32} {below : Int64}    : MM Z yX2_howMany cX2_howMany 3 (some .int) 3 [.ref (Z.2.2 3)] (wC Z n toll paid coin debt fall shr mat rgt pen last below) (some (.int (nI (hm debt 20)))) (wC Z n toll paid coin debt fall shr mat rgt pen last below) := by
  refine MM.intro (by decide) [some (.ref (Z.2.2 3)), none, none] rfl (Nat.le_of_ble_eq_true rfl) (fun X (h : OK Z X cX2_howMany RX2 3 (rmd 3)) hr => ?_)
  refine g_iconst (v := nI 0) h dX2_howMany_0 (by decide) (pc' := 1) rfl ?_
  refine g_istore1 h dX2_howMany_1 rfl (by decide) (pc' := 2) rfl ?_
  refine g_iconst (v := nI 0) h dX2_howMany_2 (by decide) (pc' := 3) rfl ?_
  refine g_istore2 h dX2_howMany_3 rfl (by decide) (pc' := 4) rfl ?_
  refine GG.castW (lp (P := fun j => GG Z X 4 [some (.ref (Z.2.2 3)), some (.int (nI (hm debt j))), some (.int (nI j))] [] (wC Z n toll paid coin debt fall shr mat rgt pen last below)) 20 ?_ ?_) ⟨rfl, rfl, rfl, trivial⟩ rfl rfl
  · skip
    refine g_iload_n (i := 2) h dX2_howMany_4 rfl rfl (pc' := 5) rfl ?_
    refine g_getAll (mG 354 (by decide +kernel) rfl) h dX2_howMany_5 (pc' := 8) rfl ?_
    refine g_alenAll h dX2_howMany_8 (pc' := 9) rfl ?_
    refine g_icmp_geT (tg := 35) h dX2_howMany_9 (by decide) (Int32.le_refl _) ?_
    refine g_iload_n (i := 1) h dX2_howMany_35 rfl rfl (pc' := 36) rfl ?_
    exact g_iret h hr dX2_howMany_36 rfl rfl
  · intro j hj ih4
    refine g_iload_n (i := 2) h dX2_howMany_4 rfl rfl (pc' := 5) rfl ?_
    refine g_getAll (mG 354 (by decide +kernel) rfl) h dX2_howMany_5 (pc' := 8) rfl ?_
    refine g_alenAll h dX2_howMany_8 (pc' := 9) rfl ?_
    refine g_icmp_geF (tg := 35) h dX2_howMany_9 (by decide) (pc' := 12) rfl (nI_ge hj (by omega)) ?_
    refine g_aload_n (i := 0) h dX2_howMany_12 rfl rfl (pc' := 13) rfl ?_
    refine g_getAll (mG 354 (by decide +kernel) rfl) h dX2_howMany_13 (pc' := 16) rfl ?_
    refine g_iload_n (i := 2) h dX2_howMany_16 rfl rfl (pc' := 17) rfl ?_
    refine g_callN1 h dX2_howMany_17 cf_X2_19 (M_X3_at_allN (k := j) (by omega)) rfl (by decide) rfl (Nat.le_of_ble_eq_true rfl) (pc' := 20) rfl ?_
    refine g_callV1 (q0 := 3) h dX2_howMany_20 cf_X2_23 (M_X2_leastDebt (g := fg j) (ok_fg j hj).1 (ok_fg j hj).2.1 (ok_fg j hj).2.2) rfl rfl rfl rfl (by decide) rfl (Nat.le_of_ble_eq_true rfl) (pc' := 23) rfl ?_
    refine g_if_le (tg := 29) h dX2_howMany_23 (by decide) (pc' := 26) rfl (fun c1 => ?_) (fun c1 => ?_)
    · skip
      refine g_iinc2 (v := nI (j + 1)) h dX2_howMany_29 rfl (inc1 j) (by decide) (pc' := 32) rfl ?_
      refine g_goto (pc' := 4) h dX2_howMany_32 (by decide) ?_
      exact GG.castW ih4 ⟨rfl, (by simp only [List.head?_cons, List.tail_cons, hm, if_pos c1]), rfl, trivial⟩ rfl rfl
    · skip
      refine g_iinc1 (v := nI (hm debt j + 1)) h dX2_howMany_26 rfl (inc1 (hm debt j)) (by decide) (pc' := 29) rfl ?_
      refine g_iinc2 (v := nI (j + 1)) h dX2_howMany_29 rfl (inc1 j) (by decide) (pc' := 32) rfl ?_
      refine g_goto (pc' := 4) h dX2_howMany_32 (by decide) ?_
      exact GG.castW ih4 ⟨rfl, (by simp only [List.head?_cons, List.tail_cons, hm, if_neg c1]), rfl, trivial⟩ rfl rfl
set_option maxRecDepth 20000 in
set_option maxHeartbeats 4000000 in
theorem M_X2_figuresOf {Z : ZT} {n : Int32} {toll : Int32} {paid : Int32} {coin : Nat → Int32} {debt : Nat → Int32} {fall : Nat → Int32} {shr : Nat → Int64} {mat : Nat → Int64} {rgt : Nat → Int64} {pen : Int32} {last : Int32} {below : Int64} {q : Int32}   : MM Z yX2_figuresOf cX2_figuresOf 5 (some .int) 3 [.ref (Z.2.2 3), .int q] (wC Z n toll paid coin debt fall shr mat rgt pen last below) (some (.int (fgo debt q 20 0 0))) (wC Z n toll paid coin debt fall shr mat rgt pen last below) := by
  refine MM.intro (by decide) [some (.ref (Z.2.2 3)), some (.int q), none, none, none] rfl (Nat.le_of_ble_eq_true rfl) (fun X (h : OK Z X cX2_figuresOf RX2 5 (rmd 3)) hr => ?_)
  refine g_iconst (v := nI 0) h dX2_figuresOf_0 (by decide) (pc' := 1) rfl ?_
  refine g_istore2 h dX2_figuresOf_1 rfl (by decide) (pc' := 2) rfl ?_
  refine g_iconst (v := nI 0) h dX2_figuresOf_2 (by decide) (pc' := 3) rfl ?_
  refine g_istore3 h dX2_figuresOf_3 rfl (by decide) (pc' := 4) rfl ?_
  have key4 : ∀ (k : Nat) (j f : Nat), (j + k = 20) → (fgo debt q 20 0 0 = fgo debt q k j f) → GG Z X 4 [some (.ref (Z.2.2 3)), some (.int q), some (.int (nI f)), some (.int (nI j)), none] [] (wC Z n toll paid coin debt fall shr mat rgt pen last below) := by
    intro k
    induction k with
    | zero =>
      intro j f e4_0 e4_1
      refine g_iload_n (i := 3) h dX2_figuresOf_4 rfl rfl (pc' := 5) rfl ?_
      refine g_getAll (mG 354 (by decide +kernel) rfl) h dX2_figuresOf_5 (pc' := 8) rfl ?_
      refine g_alenAll h dX2_figuresOf_8 (pc' := 9) rfl ?_
      refine g_icmp_geT (tg := 47) h dX2_figuresOf_9 (by decide) (by rw [show j = 20 by omega]; exact Int32.le_refl _) ?_
      refine g_iconst (v := (-1)) h dX2_figuresOf_47 (by decide) (pc' := 48) rfl ?_
      exact g_iret h hr dX2_figuresOf_48 (by rw [e4_1]; rfl) rfl
    | succ k ih4 =>
      intro j f e4_0 e4_1
      have hj : j < 20 := by omega
      refine g_iload_n (i := 3) h dX2_figuresOf_4 rfl rfl (pc' := 5) rfl ?_
      refine g_getAll (mG 354 (by decide +kernel) rfl) h dX2_figuresOf_5 (pc' := 8) rfl ?_
      refine g_alenAll h dX2_figuresOf_8 (pc' := 9) rfl ?_
      refine g_icmp_geF (tg := 47) h dX2_figuresOf_9 (by decide) (pc' := 12) rfl (nI_ge hj (by decide)) ?_
      refine g_getAll (mG 354 (by decide +kernel) rfl) h dX2_figuresOf_12 (pc' := 15) rfl ?_
      refine g_iload_n (i := 3) h dX2_figuresOf_15 rfl rfl (pc' := 16) rfl ?_
      refine g_callN1 h dX2_figuresOf_16 cf_X2_19 (M_X3_at_allN (k := j) (by omega)) rfl (by decide) rfl (Nat.le_of_ble_eq_true rfl) (pc' := 19) rfl ?_
      refine g_istore4 h dX2_figuresOf_19 rfl (by decide) (pc' := 21) rfl ?_
      refine g_aload_n (i := 0) h dX2_figuresOf_21 rfl rfl (pc' := 22) rfl ?_
      refine g_iload h dX2_figuresOf_22 rfl (pc' := 24) rfl ?_
      refine g_callV1 (q0 := 3) h dX2_figuresOf_24 cf_X2_23 (M_X2_leastDebt (g := fg j) (ok_fg j hj).1 (ok_fg j hj).2.1 (ok_fg j hj).2.2) rfl rfl rfl rfl (by decide) rfl (Nat.le_of_ble_eq_true rfl) (pc' := 27) rfl ?_
      refine g_if_le (tg := 41) h dX2_figuresOf_27 (by decide) (pc' := 30) rfl (fun c1 => ?_) (fun c1 => ?_)
      · skip
        refine g_iinc3 (v := nI (j + 1)) h dX2_figuresOf_41 rfl (inc1 j) (by decide) (pc' := 44) rfl ?_
        refine g_goto (pc' := 4) h dX2_figuresOf_44 (by decide) ?_
        exact GG.castW (ih4 (j + 1) f (by omega) (by rw [e4_1, fgo, if_pos c1])) ⟨rfl, rfl, rfl, rfl, trivial⟩ rfl rfl
      · skip
        refine g_iload_n (i := 2) h dX2_figuresOf_30 rfl rfl (pc' := 31) rfl ?_
        refine g_iload_n (i := 1) h dX2_figuresOf_31 rfl rfl (pc' := 32) rfl ?_
        refine g_icmp_ne (tg := 38) h dX2_figuresOf_32 (by decide) (pc' := 35) rfl (fun c2 => ?_) (fun c2 => ?_)
        · skip
          refine g_iinc2 (v := nI (f + 1)) h dX2_figuresOf_38 rfl (inc1 f) (by decide) (pc' := 41) rfl ?_
          refine g_iinc3 (v := nI (j + 1)) h dX2_figuresOf_41 rfl (inc1 j) (by decide) (pc' := 44) rfl ?_
          refine g_goto (pc' := 4) h dX2_figuresOf_44 (by decide) ?_
          exact GG.castW (ih4 (j + 1) (f + 1) (by omega) (by rw [e4_1, fgo, if_neg c1, if_neg c2])) ⟨rfl, rfl, rfl, rfl, trivial⟩ rfl rfl
        · skip
          refine g_iload h dX2_figuresOf_35 rfl (pc' := 37) rfl ?_
          exact g_iret h hr dX2_figuresOf_37 (by rw [e4_1, fgo, if_neg c1, if_pos c2]) rfl
  exact GG.castW (key4 20 0 0 rfl rfl) ⟨rfl, rfl, rfl, rfl, trivial⟩ rfl rfl

theorem rsO {i m : Nat} (h : i < m) (hm : m ≤ 4) : ¬ nI i < nI 0 ∧ ¬ nI (m - 1) < nI i := ⟨nI_nlt (by omega) (by omega), nI_nlt (by omega) (by omega)⟩
theorem rpO {j m : Nat} (h : j ≤ m) (hm : m ≤ 4) : ¬ nI j < nI 0 ∧ ¬ nI m < nI j := ⟨nI_nlt (by omega) (by omega), nI_nlt h (by omega)⟩
theorem rhO {v : Nat} (h : 1 ≤ v) (hm : v ≤ 4) : ¬ nI v < nI 1 ∧ ¬ nI 4 < nI v := ⟨nI_nlt h (by omega), nI_nlt hm (by omega)⟩
def lR (m : Nat) (cash : Nat → Int64) (under : Int64) (shares : Nat → Int64) (debts fallen : Nat → Int32) : Nat → Int64
  | 0 => 0
  | i + 1 => lR m cash under shares debts fallen i + (if fallen i ≤ 0 then 0 else gR cash under shares debts i m)
def fcR (fallen : Nat → Int32) : Nat → Nat
  | 0 => 0
  | i + 1 => fcR fallen i + (if fallen i ≤ 0 then 0 else 1)
def hs (cash : Nat → Int64) (debts : Nat → Int32) (j : Nat) : Nat → Int64
  | 0 => cash j
  | k + 1 => hs cash debts j k + (debts (5 * k + j)).toInt64
def hl (m : Nat) (cash : Nat → Int64) (debts : Nat → Int32) (j : Nat) : Int64 := (oR debts m j).toInt64 - hs cash debts j m
abbrev hbad (m : Nat) (cash : Nat → Int64) (debts : Nat → Int32) (i j : Nat) : Prop := ¬ hl m cash debts j ≤ 0 ∧ (¬ nI j = nI i ∨ ¬ hl m cash debts j ≤ 1000)
def hRR (m : Nat) (cash : Nat → Int64) (debts : Nat → Int32) (i : Nat) : Nat → Nat → Int64 → Int32
  | 0, _, l => l.toInt32
  | k + 1, j, l => if hbad m cash debts i j then (-1) else hRR m cash debts i k (j + 1) (if hl m cash debts j ≤ 0 then l else hl m cash debts j)
def hv (m : Nat) (cash : Nat → Int64) (debts : Nat → Int32) (i : Nat) : Int32 := hRR m cash debts i m 0 0
def bv : Option Nat → Int32
  | none => (-1)
  | some b => nI b
def bR (m : Nat) (cash : Nat → Int64) (debts : Nat → Int32) : Nat → Option Nat
  | 0 => none
  | i + 1 => match bR m cash debts i with
    | none => if hv m cash debts i = (-1) then none else some i
    | some b => if hv m cash debts i = (-1) then some b else if hv m cash debts b ≤ hv m cash debts i then some b else some i
theorem bR_lt {m : Nat} {cash : Nat → Int64} {debts : Nat → Int32} : ∀ {j b : Nat}, bR m cash debts j = some b → b < j
  | 0, b, h => by simp [bR] at h
  | j + 1, b, h => by
    rw [bR] at h
    split at h
    · split at h
      · cases h
      · cases h; omega
    · rename_i b' hb
      have := bR_lt hb
      split at h
      · cases h; omega
      · split at h
        · cases h; omega
        · cases h; omega
theorem nI_nm1 : ∀ b, b < 4 → ¬ nI b = (-1) := by decide
def nR (debts : Nat → Int32) (m i : Nat) : Nat → Int32
  | 0 => -(oR debts m i)
  | j + 1 => nR debts m i j + debts (5 * j + i)
set_option maxRecDepth 20000 in
set_option maxHeartbeats 4000000 in
theorem R_houses_O {Z : ZT} {n : Int32} {toll : Int32} {paid : Int64} {cash : Nat → Int64} {debts : Nat → Int32} {fallen : Nat → Int32} {rounds : Int32} {shares : Nat → Int64} {under : Int64} {table : Nat → Int64} {right : Nat → Int64} {tried : Nat → Int64} {falls : Nat → Int32} {rsize : Int32} {ringOf : Nat → Int32} {row : Nat → Int32} {found : Int32} {hh : Int64} {v : Int32}  (g0 : ¬ (¬ v < nI 1 ∧ ¬ nI 4 < v)) : MM Z yX4_houses cX4_houses 3 (some .int) 1 [.ref (Z.2.2 10), .int v] (wR Z n toll paid cash debts fallen rounds shares under table right tried falls rsize ringOf row found hh) (some (.int (-102))) (wR Z n toll paid cash debts fallen rounds shares under table right tried falls rsize ringOf row found hh) := by
  refine MM.intro (by decide) [some (.ref (Z.2.2 10)), some (.int v), none] rfl (Nat.le_of_ble_eq_true rfl) (fun X (h : OK Z X cX4_houses RX4 3 (rmd 1)) hr => ?_)
  refine g_iload_n (i := 1) h dX4_houses_0 rfl rfl (pc' := 1) rfl ?_
  refine g_iconst (v := nI 1) h dX4_houses_1 (by decide) (pc' := 2) rfl ?_
  refine g_iconst (v := nI 4) h dX4_houses_2 (by decide) (pc' := 3) rfl ?_
  refine g_callS1 h dX4_houses_3 cf_X4_46 (M_X4_in (v := v) (lo := nI 1) (hi := nI 4) ) rfl (by decide) rfl (Nat.le_of_ble_eq_true rfl) (pc' := 6) rfl ?_
  refine g_if_neF (tg := 12) h dX4_houses_6 (by decide) (pc' := 9) rfl (bI_n g0) ?_
  refine g_bipush (v := (-102)) h dX4_houses_9 (by decide) (pc' := 11) rfl ?_
  exact g_iret h hr dX4_houses_11 rfl rfl
set_option maxRecDepth 20000 in
set_option maxHeartbeats 4000000 in
theorem R_houses {Z : ZT} {n : Int32} {toll : Int32} {paid : Int64} {cash : Nat → Int64} {debts : Nat → Int32} {fallen : Nat → Int32} {rounds : Int32} {shares : Nat → Int64} {under : Int64} {table : Nat → Int64} {right : Nat → Int64} {tried : Nat → Int64} {falls : Nat → Int32} {rsize : Int32} {ringOf : Nat → Int32} {row : Nat → Int32} {found : Int32} {hh : Int64} {v : Nat}  (g0 : 1 ≤ v) (g1 : v ≤ 4) : MM Z yX4_houses cX4_houses 3 (some .int) 1 [.ref (Z.2.2 10), .int (nI v)] (wR Z n toll paid cash debts fallen rounds shares under table right tried falls rsize ringOf row found hh) (some (.int (nI v))) (wR Z (nI v) (nI 0) 0 (zc cash 20) (zf debts 20) fallen rounds shares under table right tried falls rsize ringOf row found hh) := by
  refine MM.intro (by decide) [some (.ref (Z.2.2 10)), some (.int (nI v)), none] rfl (Nat.le_of_ble_eq_true rfl) (fun X (h : OK Z X cX4_houses RX4 3 (rmd 1)) hr => ?_)
  refine g_iload_n (i := 1) h dX4_houses_0 rfl rfl (pc' := 1) rfl ?_
  refine g_iconst (v := nI 1) h dX4_houses_1 (by decide) (pc' := 2) rfl ?_
  refine g_iconst (v := nI 4) h dX4_houses_2 (by decide) (pc' := 3) rfl ?_
  refine g_callS1 h dX4_houses_3 cf_X4_46 (M_X4_in (v := nI v) (lo := nI 1) (hi := nI 4) ) rfl (by decide) rfl (Nat.le_of_ble_eq_true rfl) (pc' := 6) rfl ?_
  refine g_if_neT (tg := 12) h dX4_houses_6 (by decide) (fun q => (bI_0.mp q) (rhO g0 g1)) ?_
  refine g_aload_n (i := 0) h dX4_houses_12 rfl rfl (pc' := 13) rfl ?_
  refine g_iload_n (i := 1) h dX4_houses_13 rfl rfl (pc' := 14) rfl ?_
  refine pf_X4_7 h dX4_houses_14 (pc' := 17) rfl ?_
  refine g_aload_n (i := 0) h dX4_houses_17 rfl rfl (pc' := 18) rfl ?_
  refine g_iconst (v := nI 0) h dX4_houses_18 (by decide) (pc' := 19) rfl ?_
  refine pf_X4_50 h dX4_houses_19 (pc' := 22) rfl ?_
  refine g_aload_n (i := 0) h dX4_houses_22 rfl rfl (pc' := 23) rfl ?_
  refine g_lconst (v := 0) h dX4_houses_23 (by decide) (pc' := 24) rfl ?_
  refine pf_X4_53 h dX4_houses_24 (pc' := 27) rfl ?_
  refine g_iconst (v := nI 0) h dX4_houses_27 (by decide) (pc' := 28) rfl ?_
  refine g_istore2 h dX4_houses_28 rfl (by decide) (pc' := 29) rfl ?_
  refine GG.castW (lp (P := fun j => GG Z X 29 [some (.ref (Z.2.2 10)), some (.int (nI v)), some (.int (nI j))] [] (wR Z (nI v) (nI 0) 0 (zc cash j) (zf debts j) fallen rounds shares under table right tried falls rsize ringOf row found hh)) 20 ?_ ?_) ⟨rfl, rfl, rfl, trivial⟩ rfl (by rw [zf_0]; rfl)
  · skip
    refine g_iload_n (i := 2) h dX4_houses_29 rfl rfl (pc' := 30) rfl ?_
    refine g_bipush (v := nI 20) h dX4_houses_30 (by decide) (pc' := 32) rfl ?_
    refine g_icmp_geT (tg := 57) h dX4_houses_32 (by decide) (Int32.le_refl _) ?_
    refine g_iload_n (i := 1) h dX4_houses_57 rfl rfl (pc' := 58) rfl ?_
    exact g_iret h hr dX4_houses_58 rfl rfl
  · intro j hj ih29
    refine g_iload_n (i := 2) h dX4_houses_29 rfl rfl (pc' := 30) rfl ?_
    refine g_bipush (v := nI 20) h dX4_houses_30 (by decide) (pc' := 32) rfl ?_
    refine g_icmp_geF (tg := 57) h dX4_houses_32 (by decide) (pc' := 35) rfl (nI_ge hj (by omega)) ?_
    refine g_aload_n (i := 0) h dX4_houses_35 rfl rfl (pc' := 36) rfl ?_
    refine gf_X4_17 h dX4_houses_36 (pc' := 39) rfl ?_
    refine g_iload_n (i := 2) h dX4_houses_39 rfl rfl (pc' := 40) rfl ?_
    refine g_iconst (v := nI 0) h dX4_houses_40 (by decide) (pc' := 41) rfl ?_
    refine as_12 (j := j) h dX4_houses_41 rfl (by omega) (pc' := 42) rfl ?_
    refine g_aload_n (i := 0) h dX4_houses_42 rfl rfl (pc' := 43) rfl ?_
    refine gf_X4_13 h dX4_houses_43 (pc' := 46) rfl ?_
    refine g_iload_n (i := 2) h dX4_houses_46 rfl rfl (pc' := 47) rfl ?_
    refine g_iconst (v := nI 5) h dX4_houses_47 (by decide) (pc' := 48) rfl ?_
    refine g_idivN h dX4_houses_48 (by omega) (by omega) (by omega) (pc' := 49) rfl ?_
    refine g_lconst (v := 0) h dX4_houses_49 (by decide) (pc' := 50) rfl ?_
    refine as_11 (j := j / 5) h dX4_houses_50 rfl (by omega) (pc' := 51) rfl ?_
    refine g_iinc2 (v := nI (j + 1)) h dX4_houses_51 rfl (inc1 j) (by decide) (pc' := 54) rfl ?_
    refine g_goto (pc' := 29) h dX4_houses_54 (by decide) ?_
    exact GG.castW ih29 ⟨rfl, rfl, rfl, trivial⟩ rfl (by rw [zf_s]; rfl)
set_option maxRecDepth 20000 in
set_option maxHeartbeats 4000000 in
theorem R_cash_U {Z : ZT} {m : Nat} {toll : Int32} {paid : Int64} {cash : Nat → Int64} {debts : Nat → Int32} {fallen : Nat → Int32} {rounds : Int32} {shares : Nat → Int64} {under : Int64} {table : Nat → Int64} {right : Nat → Int64} {tried : Nat → Int64} {falls : Nat → Int32} {rsize : Int32} {ringOf : Nat → Int32} {row : Nat → Int32} {found : Int32} {hh : Int64} {i : Int32} {v : Int32}  (g0 : 1 ≤ m) (g1 : ¬ (¬ i < nI 0 ∧ ¬ nI (m - 1) < i)) : MM Z yX4_cash cX4_cash 4 (some .int) 2 [.ref (Z.2.2 10), .int i, .int v] (wR Z (nI m) toll paid cash debts fallen rounds shares under table right tried falls rsize ringOf row found hh) (some (.int (-101))) (wR Z (nI m) toll paid cash debts fallen rounds shares under table right tried falls rsize ringOf row found hh) := by
  refine MM.intro (by decide) [some (.ref (Z.2.2 10)), some (.int i), some (.int v), none] rfl (Nat.le_of_ble_eq_true rfl) (fun X (h : OK Z X cX4_cash RX4 4 (rmd 2)) hr => ?_)
  refine g_aload_n (i := 0) h dX4_cash_0 rfl rfl (pc' := 1) rfl ?_
  refine g_iload_n (i := 1) h dX4_cash_1 rfl rfl (pc' := 2) rfl ?_
  refine g_callV1 (q0 := 0) h dX4_cash_2 cf_X4_57 (M_X4_isHouse (i := i) (by omega)) rfl rfl rfl rfl (by decide) rfl (Nat.le_of_ble_eq_true rfl) (pc' := 5) rfl ?_
  refine g_if_neF (tg := 11) h dX4_cash_5 (by decide) (pc' := 8) rfl (bI_n g1) ?_
  refine g_bipush (v := (-101)) h dX4_cash_8 (by decide) (pc' := 10) rfl ?_
  exact g_iret h hr dX4_cash_10 rfl rfl
set_option maxRecDepth 20000 in
set_option maxHeartbeats 4000000 in
theorem R_cash_O {Z : ZT} {m : Nat} {toll : Int32} {paid : Int64} {cash : Nat → Int64} {debts : Nat → Int32} {fallen : Nat → Int32} {rounds : Int32} {shares : Nat → Int64} {under : Int64} {table : Nat → Int64} {right : Nat → Int64} {tried : Nat → Int64} {falls : Nat → Int32} {rsize : Int32} {ringOf : Nat → Int32} {row : Nat → Int32} {found : Int32} {hh : Int64} {i : Nat} {v : Int32}  (g0 : i < m) (g1 : m ≤ 4) (g2 : 1 ≤ m) (g3 : ¬ (¬ v < nI 0 ∧ ¬ nI 1000 < v)) : MM Z yX4_cash cX4_cash 4 (some .int) 2 [.ref (Z.2.2 10), .int (nI i), .int v] (wR Z (nI m) toll paid cash debts fallen rounds shares under table right tried falls rsize ringOf row found hh) (some (.int (-102))) (wR Z (nI m) toll paid cash debts fallen rounds shares under table right tried falls rsize ringOf row found hh) := by
  refine MM.intro (by decide) [some (.ref (Z.2.2 10)), some (.int (nI i)), some (.int v), none] rfl (Nat.le_of_ble_eq_true rfl) (fun X (h : OK Z X cX4_cash RX4 4 (rmd 2)) hr => ?_)
  refine g_aload_n (i := 0) h dX4_cash_0 rfl rfl (pc' := 1) rfl ?_
  refine g_iload_n (i := 1) h dX4_cash_1 rfl rfl (pc' := 2) rfl ?_
  refine g_callV1 (q0 := 0) h dX4_cash_2 cf_X4_57 (M_X4_isHouse (i := nI i) (by omega)) rfl rfl rfl rfl (by decide) rfl (Nat.le_of_ble_eq_true rfl) (pc' := 5) rfl ?_
  refine g_if_neT (tg := 11) h dX4_cash_5 (by decide) (fun q => (bI_0.mp q) (rsO g0 g1)) ?_
  refine g_iload_n (i := 2) h dX4_cash_11 rfl rfl (pc' := 12) rfl ?_
  refine g_iconst (v := nI 0) h dX4_cash_12 (by decide) (pc' := 13) rfl ?_
  refine g_sipush (v := nI 1000) h dX4_cash_13 (by decide) (pc' := 16) rfl ?_
  refine g_callS1 h dX4_cash_16 cf_X4_46 (M_X4_in (v := v) (lo := nI 0) (hi := nI 1000) ) rfl (by decide) rfl (Nat.le_of_ble_eq_true rfl) (pc' := 19) rfl ?_
  refine g_if_neF (tg := 25) h dX4_cash_19 (by decide) (pc' := 22) rfl (bI_n g3) ?_
  refine g_bipush (v := (-102)) h dX4_cash_22 (by decide) (pc' := 24) rfl ?_
  exact g_iret h hr dX4_cash_24 rfl rfl
set_option maxRecDepth 20000 in
set_option maxHeartbeats 4000000 in
theorem R_cash {Z : ZT} {m : Nat} {toll : Int32} {paid : Int64} {cash : Nat → Int64} {debts : Nat → Int32} {fallen : Nat → Int32} {rounds : Int32} {shares : Nat → Int64} {under : Int64} {table : Nat → Int64} {right : Nat → Int64} {tried : Nat → Int64} {falls : Nat → Int32} {rsize : Int32} {ringOf : Nat → Int32} {row : Nat → Int32} {found : Int32} {hh : Int64} {i : Nat} {v : Int32}  (g0 : i < m) (g1 : m ≤ 4) (g2 : 1 ≤ m) (g3 : ¬ v < nI 0 ∧ ¬ nI 1000 < v) : MM Z yX4_cash cX4_cash 4 (some .int) 2 [.ref (Z.2.2 10), .int (nI i), .int v] (wR Z (nI m) toll paid cash debts fallen rounds shares under table right tried falls rsize ringOf row found hh) (some (.int ((cash i).toInt32))) (wR Z (nI m) toll paid (vp_updL cash i v.toInt64) debts fallen rounds shares under table right tried falls rsize ringOf row found hh) := by
  refine MM.intro (by decide) [some (.ref (Z.2.2 10)), some (.int (nI i)), some (.int v), none] rfl (Nat.le_of_ble_eq_true rfl) (fun X (h : OK Z X cX4_cash RX4 4 (rmd 2)) hr => ?_)
  refine g_aload_n (i := 0) h dX4_cash_0 rfl rfl (pc' := 1) rfl ?_
  refine g_iload_n (i := 1) h dX4_cash_1 rfl rfl (pc' := 2) rfl ?_
  refine g_callV1 (q0 := 0) h dX4_cash_2 cf_X4_57 (M_X4_isHouse (i := nI i) (by omega)) rfl rfl rfl rfl (by decide) rfl (Nat.le_of_ble_eq_true rfl) (pc' := 5) rfl ?_
  refine g_if_neT (tg := 11) h dX4_cash_5 (by decide) (fun q => (bI_0.mp q) (rsO g0 g1)) ?_
  refine g_iload_n (i := 2) h dX4_cash_11 rfl rfl (pc' := 12) rfl ?_
  refine g_iconst (v := nI 0) h dX4_cash_12 (by decide) (pc' := 13) rfl ?_
  refine g_sipush (v := nI 1000) h dX4_cash_13 (by decide) (pc' := 16) rfl ?_
  refine g_callS1 h dX4_cash_16 cf_X4_46 (M_X4_in (v := v) (lo := nI 0) (hi := nI 1000) ) rfl (by decide) rfl (Nat.le_of_ble_eq_true rfl) (pc' := 19) rfl ?_
  refine g_if_neT (tg := 25) h dX4_cash_19 (by decide) (fun q => (bI_0.mp q) g3) ?_
  refine g_aload_n (i := 0) h dX4_cash_25 rfl rfl (pc' := 26) rfl ?_
  refine gf_X4_13 h dX4_cash_26 (pc' := 29) rfl ?_
  refine g_iload_n (i := 1) h dX4_cash_29 rfl rfl (pc' := 30) rfl ?_
  refine al_11 (j := i) h dX4_cash_30 rfl (by omega) (pc' := 31) rfl ?_
  refine g_l2i h dX4_cash_31 (pc' := 32) rfl ?_
  refine g_istore3 h dX4_cash_32 rfl (by decide) (pc' := 33) rfl ?_
  refine g_aload_n (i := 0) h dX4_cash_33 rfl rfl (pc' := 34) rfl ?_
  refine gf_X4_13 h dX4_cash_34 (pc' := 37) rfl ?_
  refine g_iload_n (i := 1) h dX4_cash_37 rfl rfl (pc' := 38) rfl ?_
  refine g_iload_n (i := 2) h dX4_cash_38 rfl rfl (pc' := 39) rfl ?_
  refine g_i2l h dX4_cash_39 (pc' := 40) rfl ?_
  refine as_11 (j := i) h dX4_cash_40 rfl (by omega) (pc' := 41) rfl ?_
  refine g_iload_n (i := 3) h dX4_cash_41 rfl rfl (pc' := 42) rfl ?_
  exact g_iret h hr dX4_cash_42 rfl rfl
set_option maxRecDepth 20000 in
set_option maxHeartbeats 4000000 in
theorem R_owe_U {Z : ZT} {m : Nat} {toll : Int32} {paid : Int64} {cash : Nat → Int64} {debts : Nat → Int32} {fallen : Nat → Int32} {rounds : Int32} {shares : Nat → Int64} {under : Int64} {table : Nat → Int64} {right : Nat → Int64} {tried : Nat → Int64} {falls : Nat → Int32} {rsize : Int32} {ringOf : Nat → Int32} {row : Nat → Int32} {found : Int32} {hh : Int64} {i : Int32} {j : Int32} {v : Int32}  (g0 : 1 ≤ m) (g1 : ¬ (¬ i < nI 0 ∧ ¬ nI (m - 1) < i)) : MM Z yX4_owe cX4_owe 5 (some .int) 2 [.ref (Z.2.2 10), .int i, .int j, .int v] (wR Z (nI m) toll paid cash debts fallen rounds shares under table right tried falls rsize ringOf row found hh) (some (.int (-101))) (wR Z (nI m) toll paid cash debts fallen rounds shares under table right tried falls rsize ringOf row found hh) := by
  refine MM.intro (by decide) [some (.ref (Z.2.2 10)), some (.int i), some (.int j), some (.int v), none] rfl (Nat.le_of_ble_eq_true rfl) (fun X (h : OK Z X cX4_owe RX4 5 (rmd 2)) hr => ?_)
  refine g_aload_n (i := 0) h dX4_owe_0 rfl rfl (pc' := 1) rfl ?_
  refine g_iload_n (i := 1) h dX4_owe_1 rfl rfl (pc' := 2) rfl ?_
  refine g_callV1 (q0 := 0) h dX4_owe_2 cf_X4_57 (M_X4_isHouse (i := i) (by omega)) rfl rfl rfl rfl (by decide) rfl (Nat.le_of_ble_eq_true rfl) (pc' := 5) rfl ?_
  refine g_if_eqT (tg := 20) h dX4_owe_5 (by decide) (bI_n g1) ?_
  refine g_bipush (v := (-101)) h dX4_owe_20 (by decide) (pc' := 22) rfl ?_
  exact g_iret h hr dX4_owe_22 rfl rfl
set_option maxRecDepth 20000 in
set_option maxHeartbeats 4000000 in
theorem R_owe_UP {Z : ZT} {m : Nat} {toll : Int32} {paid : Int64} {cash : Nat → Int64} {debts : Nat → Int32} {fallen : Nat → Int32} {rounds : Int32} {shares : Nat → Int64} {under : Int64} {table : Nat → Int64} {right : Nat → Int64} {tried : Nat → Int64} {falls : Nat → Int32} {rsize : Int32} {ringOf : Nat → Int32} {row : Nat → Int32} {found : Int32} {hh : Int64} {i : Nat} {j : Int32} {v : Int32}  (g0 : i < m) (g1 : m ≤ 4) (g2 : 1 ≤ m) (g3 : ¬ (¬ j < nI 0 ∧ ¬ nI m < j)) : MM Z yX4_owe cX4_owe 5 (some .int) 2 [.ref (Z.2.2 10), .int (nI i), .int j, .int v] (wR Z (nI m) toll paid cash debts fallen rounds shares under table right tried falls rsize ringOf row found hh) (some (.int (-101))) (wR Z (nI m) toll paid cash debts fallen rounds shares under table right tried falls rsize ringOf row found hh) := by
  refine MM.intro (by decide) [some (.ref (Z.2.2 10)), some (.int (nI i)), some (.int j), some (.int v), none] rfl (Nat.le_of_ble_eq_true rfl) (fun X (h : OK Z X cX4_owe RX4 5 (rmd 2)) hr => ?_)
  refine g_aload_n (i := 0) h dX4_owe_0 rfl rfl (pc' := 1) rfl ?_
  refine g_iload_n (i := 1) h dX4_owe_1 rfl rfl (pc' := 2) rfl ?_
  refine g_callV1 (q0 := 0) h dX4_owe_2 cf_X4_57 (M_X4_isHouse (i := nI i) (by omega)) rfl rfl rfl rfl (by decide) rfl (Nat.le_of_ble_eq_true rfl) (pc' := 5) rfl ?_
  refine g_if_eqF (tg := 20) h dX4_owe_5 (by decide) (pc' := 8) rfl (fun q => (bI_0.mp q) (rsO g0 g1)) ?_
  refine g_iload_n (i := 2) h dX4_owe_8 rfl rfl (pc' := 9) rfl ?_
  refine g_iconst (v := nI 0) h dX4_owe_9 (by decide) (pc' := 10) rfl ?_
  refine g_aload_n (i := 0) h dX4_owe_10 rfl rfl (pc' := 11) rfl ?_
  refine gf_X4_7 h dX4_owe_11 (pc' := 14) rfl ?_
  refine g_callS1 h dX4_owe_14 cf_X4_46 (M_X4_in (v := j) (lo := nI 0) (hi := nI m) ) rfl (by decide) rfl (Nat.le_of_ble_eq_true rfl) (pc' := 17) rfl ?_
  refine g_if_neF (tg := 23) h dX4_owe_17 (by decide) (pc' := 20) rfl (bI_n g3) ?_
  refine g_bipush (v := (-101)) h dX4_owe_20 (by decide) (pc' := 22) rfl ?_
  exact g_iret h hr dX4_owe_22 rfl rfl
set_option maxRecDepth 20000 in
set_option maxHeartbeats 4000000 in
theorem R_owe_O {Z : ZT} {m : Nat} {toll : Int32} {paid : Int64} {cash : Nat → Int64} {debts : Nat → Int32} {fallen : Nat → Int32} {rounds : Int32} {shares : Nat → Int64} {under : Int64} {table : Nat → Int64} {right : Nat → Int64} {tried : Nat → Int64} {falls : Nat → Int32} {rsize : Int32} {ringOf : Nat → Int32} {row : Nat → Int32} {found : Int32} {hh : Int64} {i : Nat} {j : Nat} {v : Int32}  (g0 : i < m) (g1 : m ≤ 4) (g2 : 1 ≤ m) (g3 : j ≤ m) (g4 : ¬ (¬ v < nI 0 ∧ ¬ nI 50 < v)) : MM Z yX4_owe cX4_owe 5 (some .int) 2 [.ref (Z.2.2 10), .int (nI i), .int (nI j), .int v] (wR Z (nI m) toll paid cash debts fallen rounds shares under table right tried falls rsize ringOf row found hh) (some (.int (-102))) (wR Z (nI m) toll paid cash debts fallen rounds shares under table right tried falls rsize ringOf row found hh) := by
  refine MM.intro (by decide) [some (.ref (Z.2.2 10)), some (.int (nI i)), some (.int (nI j)), some (.int v), none] rfl (Nat.le_of_ble_eq_true rfl) (fun X (h : OK Z X cX4_owe RX4 5 (rmd 2)) hr => ?_)
  refine g_aload_n (i := 0) h dX4_owe_0 rfl rfl (pc' := 1) rfl ?_
  refine g_iload_n (i := 1) h dX4_owe_1 rfl rfl (pc' := 2) rfl ?_
  refine g_callV1 (q0 := 0) h dX4_owe_2 cf_X4_57 (M_X4_isHouse (i := nI i) (by omega)) rfl rfl rfl rfl (by decide) rfl (Nat.le_of_ble_eq_true rfl) (pc' := 5) rfl ?_
  refine g_if_eqF (tg := 20) h dX4_owe_5 (by decide) (pc' := 8) rfl (fun q => (bI_0.mp q) (rsO g0 g1)) ?_
  refine g_iload_n (i := 2) h dX4_owe_8 rfl rfl (pc' := 9) rfl ?_
  refine g_iconst (v := nI 0) h dX4_owe_9 (by decide) (pc' := 10) rfl ?_
  refine g_aload_n (i := 0) h dX4_owe_10 rfl rfl (pc' := 11) rfl ?_
  refine gf_X4_7 h dX4_owe_11 (pc' := 14) rfl ?_
  refine g_callS1 h dX4_owe_14 cf_X4_46 (M_X4_in (v := nI j) (lo := nI 0) (hi := nI m) ) rfl (by decide) rfl (Nat.le_of_ble_eq_true rfl) (pc' := 17) rfl ?_
  refine g_if_neT (tg := 23) h dX4_owe_17 (by decide) (fun q => (bI_0.mp q) (rpO g3 g1)) ?_
  refine g_iload_n (i := 3) h dX4_owe_23 rfl rfl (pc' := 24) rfl ?_
  refine g_iconst (v := nI 0) h dX4_owe_24 (by decide) (pc' := 25) rfl ?_
  refine g_bipush (v := nI 50) h dX4_owe_25 (by decide) (pc' := 27) rfl ?_
  refine g_callS1 h dX4_owe_27 cf_X4_46 (M_X4_in (v := v) (lo := nI 0) (hi := nI 50) ) rfl (by decide) rfl (Nat.le_of_ble_eq_true rfl) (pc' := 30) rfl ?_
  refine g_if_eqT (tg := 38) h dX4_owe_30 (by decide) (bI_n g4) ?_
  refine g_bipush (v := (-102)) h dX4_owe_38 (by decide) (pc' := 40) rfl ?_
  exact g_iret h hr dX4_owe_40 rfl rfl
set_option maxRecDepth 20000 in
set_option maxHeartbeats 4000000 in
theorem R_owe_S {Z : ZT} {m : Nat} {toll : Int32} {paid : Int64} {cash : Nat → Int64} {debts : Nat → Int32} {fallen : Nat → Int32} {rounds : Int32} {shares : Nat → Int64} {under : Int64} {table : Nat → Int64} {right : Nat → Int64} {tried : Nat → Int64} {falls : Nat → Int32} {rsize : Int32} {ringOf : Nat → Int32} {row : Nat → Int32} {found : Int32} {hh : Int64} {i : Nat} {j : Nat} {v : Int32}  (g0 : i < m) (g1 : m ≤ 4) (g2 : 1 ≤ m) (g3 : j ≤ m) (g4 : ¬ v < nI 0 ∧ ¬ nI 50 < v) (g5 : i = j) : MM Z yX4_owe cX4_owe 5 (some .int) 2 [.ref (Z.2.2 10), .int (nI i), .int (nI j), .int v] (wR Z (nI m) toll paid cash debts fallen rounds shares under table right tried falls rsize ringOf row found hh) (some (.int (-102))) (wR Z (nI m) toll paid cash debts fallen rounds shares under table right tried falls rsize ringOf row found hh) := by
  refine MM.intro (by decide) [some (.ref (Z.2.2 10)), some (.int (nI i)), some (.int (nI j)), some (.int v), none] rfl (Nat.le_of_ble_eq_true rfl) (fun X (h : OK Z X cX4_owe RX4 5 (rmd 2)) hr => ?_)
  refine g_aload_n (i := 0) h dX4_owe_0 rfl rfl (pc' := 1) rfl ?_
  refine g_iload_n (i := 1) h dX4_owe_1 rfl rfl (pc' := 2) rfl ?_
  refine g_callV1 (q0 := 0) h dX4_owe_2 cf_X4_57 (M_X4_isHouse (i := nI i) (by omega)) rfl rfl rfl rfl (by decide) rfl (Nat.le_of_ble_eq_true rfl) (pc' := 5) rfl ?_
  refine g_if_eqF (tg := 20) h dX4_owe_5 (by decide) (pc' := 8) rfl (fun q => (bI_0.mp q) (rsO g0 g1)) ?_
  refine g_iload_n (i := 2) h dX4_owe_8 rfl rfl (pc' := 9) rfl ?_
  refine g_iconst (v := nI 0) h dX4_owe_9 (by decide) (pc' := 10) rfl ?_
  refine g_aload_n (i := 0) h dX4_owe_10 rfl rfl (pc' := 11) rfl ?_
  refine gf_X4_7 h dX4_owe_11 (pc' := 14) rfl ?_
  refine g_callS1 h dX4_owe_14 cf_X4_46 (M_X4_in (v := nI j) (lo := nI 0) (hi := nI m) ) rfl (by decide) rfl (Nat.le_of_ble_eq_true rfl) (pc' := 17) rfl ?_
  refine g_if_neT (tg := 23) h dX4_owe_17 (by decide) (fun q => (bI_0.mp q) (rpO g3 g1)) ?_
  refine g_iload_n (i := 3) h dX4_owe_23 rfl rfl (pc' := 24) rfl ?_
  refine g_iconst (v := nI 0) h dX4_owe_24 (by decide) (pc' := 25) rfl ?_
  refine g_bipush (v := nI 50) h dX4_owe_25 (by decide) (pc' := 27) rfl ?_
  refine g_callS1 h dX4_owe_27 cf_X4_46 (M_X4_in (v := v) (lo := nI 0) (hi := nI 50) ) rfl (by decide) rfl (Nat.le_of_ble_eq_true rfl) (pc' := 30) rfl ?_
  refine g_if_eqF (tg := 38) h dX4_owe_30 (by decide) (pc' := 33) rfl (fun q => (bI_0.mp q) g4) ?_
  refine g_iload_n (i := 1) h dX4_owe_33 rfl rfl (pc' := 34) rfl ?_
  refine g_iload_n (i := 2) h dX4_owe_34 rfl rfl (pc' := 35) rfl ?_
  refine g_icmp_neF (tg := 41) h dX4_owe_35 (by decide) (pc' := 38) rfl (by rw [g5]) ?_
  refine g_bipush (v := (-102)) h dX4_owe_38 (by decide) (pc' := 40) rfl ?_
  exact g_iret h hr dX4_owe_40 rfl rfl
set_option maxRecDepth 20000 in
set_option maxHeartbeats 4000000 in
theorem R_owe {Z : ZT} {m : Nat} {toll : Int32} {paid : Int64} {cash : Nat → Int64} {debts : Nat → Int32} {fallen : Nat → Int32} {rounds : Int32} {shares : Nat → Int64} {under : Int64} {table : Nat → Int64} {right : Nat → Int64} {tried : Nat → Int64} {falls : Nat → Int32} {rsize : Int32} {ringOf : Nat → Int32} {row : Nat → Int32} {found : Int32} {hh : Int64} {i : Nat} {j : Nat} {v : Int32}  (g0 : i < m) (g1 : m ≤ 4) (g2 : 1 ≤ m) (g3 : j ≤ m) (g4 : ¬ v < nI 0 ∧ ¬ nI 50 < v) (g5 : ¬ i = j) : MM Z yX4_owe cX4_owe 5 (some .int) 2 [.ref (Z.2.2 10), .int (nI i), .int (nI j), .int v] (wR Z (nI m) toll paid cash debts fallen rounds shares under table right tried falls rsize ringOf row found hh) (some (.int (debts (5 * i + j)))) (wR Z (nI m) toll paid cash (upd debts (5 * i + j) v) fallen rounds shares under table right tried falls rsize ringOf row found hh) := by
  refine MM.intro (by decide) [some (.ref (Z.2.2 10)), some (.int (nI i)), some (.int (nI j)), some (.int v), none] rfl (Nat.le_of_ble_eq_true rfl) (fun X (h : OK Z X cX4_owe RX4 5 (rmd 2)) hr => ?_)
  refine g_aload_n (i := 0) h dX4_owe_0 rfl rfl (pc' := 1) rfl ?_
  refine g_iload_n (i := 1) h dX4_owe_1 rfl rfl (pc' := 2) rfl ?_
  refine g_callV1 (q0 := 0) h dX4_owe_2 cf_X4_57 (M_X4_isHouse (i := nI i) (by omega)) rfl rfl rfl rfl (by decide) rfl (Nat.le_of_ble_eq_true rfl) (pc' := 5) rfl ?_
  refine g_if_eqF (tg := 20) h dX4_owe_5 (by decide) (pc' := 8) rfl (fun q => (bI_0.mp q) (rsO g0 g1)) ?_
  refine g_iload_n (i := 2) h dX4_owe_8 rfl rfl (pc' := 9) rfl ?_
  refine g_iconst (v := nI 0) h dX4_owe_9 (by decide) (pc' := 10) rfl ?_
  refine g_aload_n (i := 0) h dX4_owe_10 rfl rfl (pc' := 11) rfl ?_
  refine gf_X4_7 h dX4_owe_11 (pc' := 14) rfl ?_
  refine g_callS1 h dX4_owe_14 cf_X4_46 (M_X4_in (v := nI j) (lo := nI 0) (hi := nI m) ) rfl (by decide) rfl (Nat.le_of_ble_eq_true rfl) (pc' := 17) rfl ?_
  refine g_if_neT (tg := 23) h dX4_owe_17 (by decide) (fun q => (bI_0.mp q) (rpO g3 g1)) ?_
  refine g_iload_n (i := 3) h dX4_owe_23 rfl rfl (pc' := 24) rfl ?_
  refine g_iconst (v := nI 0) h dX4_owe_24 (by decide) (pc' := 25) rfl ?_
  refine g_bipush (v := nI 50) h dX4_owe_25 (by decide) (pc' := 27) rfl ?_
  refine g_callS1 h dX4_owe_27 cf_X4_46 (M_X4_in (v := v) (lo := nI 0) (hi := nI 50) ) rfl (by decide) rfl (Nat.le_of_ble_eq_true rfl) (pc' := 30) rfl ?_
  refine g_if_eqF (tg := 38) h dX4_owe_30 (by decide) (pc' := 33) rfl (fun q => (bI_0.mp q) g4) ?_
  refine g_iload_n (i := 1) h dX4_owe_33 rfl rfl (pc' := 34) rfl ?_
  refine g_iload_n (i := 2) h dX4_owe_34 rfl rfl (pc' := 35) rfl ?_
  refine g_icmp_neT (tg := 41) h dX4_owe_35 (by decide) (fun q => g5 ((nI_eq (by omega) (by omega)).mp q)) ?_
  refine g_aload_n (i := 0) h dX4_owe_41 rfl rfl (pc' := 42) rfl ?_
  refine gf_X4_17 h dX4_owe_42 (pc' := 45) rfl ?_
  refine g_iconst (v := nI 5) h dX4_owe_45 (by decide) (pc' := 46) rfl ?_
  refine g_iload_n (i := 1) h dX4_owe_46 rfl rfl (pc' := 47) rfl ?_
  refine g_imulN h dX4_owe_47 (pc' := 48) rfl ?_
  refine g_iload_n (i := 2) h dX4_owe_48 rfl rfl (pc' := 49) rfl ?_
  refine g_iaddN h dX4_owe_49 (pc' := 50) rfl ?_
  refine al_12 (j := (5 * i) + j) h dX4_owe_50 rfl (by omega) (pc' := 51) rfl ?_
  refine g_istore4 h dX4_owe_51 rfl (by decide) (pc' := 53) rfl ?_
  refine g_aload_n (i := 0) h dX4_owe_53 rfl rfl (pc' := 54) rfl ?_
  refine gf_X4_17 h dX4_owe_54 (pc' := 57) rfl ?_
  refine g_iconst (v := nI 5) h dX4_owe_57 (by decide) (pc' := 58) rfl ?_
  refine g_iload_n (i := 1) h dX4_owe_58 rfl rfl (pc' := 59) rfl ?_
  refine g_imulN h dX4_owe_59 (pc' := 60) rfl ?_
  refine g_iload_n (i := 2) h dX4_owe_60 rfl rfl (pc' := 61) rfl ?_
  refine g_iaddN h dX4_owe_61 (pc' := 62) rfl ?_
  refine g_iload_n (i := 3) h dX4_owe_62 rfl rfl (pc' := 63) rfl ?_
  refine as_12 (j := (5 * i) + j) h dX4_owe_63 rfl (by omega) (pc' := 64) rfl ?_
  refine g_iload h dX4_owe_64 rfl (pc' := 66) rfl ?_
  exact g_iret h hr dX4_owe_66 rfl rfl
set_option maxRecDepth 20000 in
set_option maxHeartbeats 4000000 in
theorem R_toll_O {Z : ZT} {m : Nat} {toll : Int32} {paid : Int64} {cash : Nat → Int64} {debts : Nat → Int32} {fallen : Nat → Int32} {rounds : Int32} {shares : Nat → Int64} {under : Int64} {table : Nat → Int64} {right : Nat → Int64} {tried : Nat → Int64} {falls : Nat → Int32} {rsize : Int32} {ringOf : Nat → Int32} {row : Nat → Int32} {found : Int32} {hh : Int64} {v : Int32}  (g0 : ¬ (¬ v < nI 0 ∧ ¬ nI 5 < v)) : MM Z yX4_toll cX4_toll 3 (some .int) 1 [.ref (Z.2.2 10), .int v] (wR Z (nI m) toll paid cash debts fallen rounds shares under table right tried falls rsize ringOf row found hh) (some (.int (-102))) (wR Z (nI m) toll paid cash debts fallen rounds shares under table right tried falls rsize ringOf row found hh) := by
  refine MM.intro (by decide) [some (.ref (Z.2.2 10)), some (.int v), none] rfl (Nat.le_of_ble_eq_true rfl) (fun X (h : OK Z X cX4_toll RX4 3 (rmd 1)) hr => ?_)
  refine g_iload_n (i := 1) h dX4_toll_0 rfl rfl (pc' := 1) rfl ?_
  refine g_iconst (v := nI 0) h dX4_toll_1 (by decide) (pc' := 2) rfl ?_
  refine g_iconst (v := nI 5) h dX4_toll_2 (by decide) (pc' := 3) rfl ?_
  refine g_callS1 h dX4_toll_3 cf_X4_46 (M_X4_in (v := v) (lo := nI 0) (hi := nI 5) ) rfl (by decide) rfl (Nat.le_of_ble_eq_true rfl) (pc' := 6) rfl ?_
  refine g_if_neF (tg := 12) h dX4_toll_6 (by decide) (pc' := 9) rfl (bI_n g0) ?_
  refine g_bipush (v := (-102)) h dX4_toll_9 (by decide) (pc' := 11) rfl ?_
  exact g_iret h hr dX4_toll_11 rfl rfl
set_option maxRecDepth 20000 in
set_option maxHeartbeats 4000000 in
theorem R_toll {Z : ZT} {m : Nat} {toll : Int32} {paid : Int64} {cash : Nat → Int64} {debts : Nat → Int32} {fallen : Nat → Int32} {rounds : Int32} {shares : Nat → Int64} {under : Int64} {table : Nat → Int64} {right : Nat → Int64} {tried : Nat → Int64} {falls : Nat → Int32} {rsize : Int32} {ringOf : Nat → Int32} {row : Nat → Int32} {found : Int32} {hh : Int64} {v : Int32}  (g0 : ¬ v < nI 0 ∧ ¬ nI 5 < v) : MM Z yX4_toll cX4_toll 3 (some .int) 1 [.ref (Z.2.2 10), .int v] (wR Z (nI m) toll paid cash debts fallen rounds shares under table right tried falls rsize ringOf row found hh) (some (.int toll)) (wR Z (nI m) v paid cash debts fallen rounds shares under table right tried falls rsize ringOf row found hh) := by
  refine MM.intro (by decide) [some (.ref (Z.2.2 10)), some (.int v), none] rfl (Nat.le_of_ble_eq_true rfl) (fun X (h : OK Z X cX4_toll RX4 3 (rmd 1)) hr => ?_)
  refine g_iload_n (i := 1) h dX4_toll_0 rfl rfl (pc' := 1) rfl ?_
  refine g_iconst (v := nI 0) h dX4_toll_1 (by decide) (pc' := 2) rfl ?_
  refine g_iconst (v := nI 5) h dX4_toll_2 (by decide) (pc' := 3) rfl ?_
  refine g_callS1 h dX4_toll_3 cf_X4_46 (M_X4_in (v := v) (lo := nI 0) (hi := nI 5) ) rfl (by decide) rfl (Nat.le_of_ble_eq_true rfl) (pc' := 6) rfl ?_
  refine g_if_neT (tg := 12) h dX4_toll_6 (by decide) (fun q => (bI_0.mp q) g0) ?_
  refine g_aload_n (i := 0) h dX4_toll_12 rfl rfl (pc' := 13) rfl ?_
  refine gf_X4_50 h dX4_toll_13 (pc' := 16) rfl ?_
  refine g_istore2 h dX4_toll_16 rfl (by decide) (pc' := 17) rfl ?_
  refine g_aload_n (i := 0) h dX4_toll_17 rfl rfl (pc' := 18) rfl ?_
  refine g_iload_n (i := 1) h dX4_toll_18 rfl rfl (pc' := 19) rfl ?_
  refine pf_X4_50 h dX4_toll_19 (pc' := 22) rfl ?_
  refine g_iload_n (i := 2) h dX4_toll_22 rfl rfl (pc' := 23) rfl ?_
  exact g_iret h hr dX4_toll_23 rfl rfl
set_option maxRecDepth 20000 in
set_option maxHeartbeats 4000000 in
theorem R_cashOf_U {Z : ZT} {m : Nat} {toll : Int32} {paid : Int64} {cash : Nat → Int64} {debts : Nat → Int32} {fallen : Nat → Int32} {rounds : Int32} {shares : Nat → Int64} {under : Int64} {table : Nat → Int64} {right : Nat → Int64} {tried : Nat → Int64} {falls : Nat → Int32} {rsize : Int32} {ringOf : Nat → Int32} {row : Nat → Int32} {found : Int32} {hh : Int64} {i : Int32}  (g0 : 1 ≤ m) (g1 : ¬ (¬ i < nI 0 ∧ ¬ nI (m - 1) < i)) : MM Z yX4_cashOf cX4_cashOf 2 (some .int) 2 [.ref (Z.2.2 10), .int i] (wR Z (nI m) toll paid cash debts fallen rounds shares under table right tried falls rsize ringOf row found hh) (some (.int (-101))) (wR Z (nI m) toll paid cash debts fallen rounds shares under table right tried falls rsize ringOf row found hh) := by
  refine MM.intro (by decide) [some (.ref (Z.2.2 10)), some (.int i)] rfl (Nat.le_of_ble_eq_true rfl) (fun X (h : OK Z X cX4_cashOf RX4 2 (rmd 2)) hr => ?_)
  refine g_aload_n (i := 0) h dX4_cashOf_0 rfl rfl (pc' := 1) rfl ?_
  refine g_iload_n (i := 1) h dX4_cashOf_1 rfl rfl (pc' := 2) rfl ?_
  refine g_callV1 (q0 := 0) h dX4_cashOf_2 cf_X4_57 (M_X4_isHouse (i := i) (by omega)) rfl rfl rfl rfl (by decide) rfl (Nat.le_of_ble_eq_true rfl) (pc' := 5) rfl ?_
  refine g_if_eqT (tg := 18) h dX4_cashOf_5 (by decide) (bI_n g1) ?_
  refine g_bipush (v := (-101)) h dX4_cashOf_18 (by decide) (pc' := 20) rfl ?_
  exact g_iret h hr dX4_cashOf_20 rfl rfl
set_option maxRecDepth 20000 in
set_option maxHeartbeats 4000000 in
theorem R_cashOf {Z : ZT} {m : Nat} {toll : Int32} {paid : Int64} {cash : Nat → Int64} {debts : Nat → Int32} {fallen : Nat → Int32} {rounds : Int32} {shares : Nat → Int64} {under : Int64} {table : Nat → Int64} {right : Nat → Int64} {tried : Nat → Int64} {falls : Nat → Int32} {rsize : Int32} {ringOf : Nat → Int32} {row : Nat → Int32} {found : Int32} {hh : Int64} {i : Nat}  (g0 : i < m) (g1 : m ≤ 4) (g2 : 1 ≤ m) : MM Z yX4_cashOf cX4_cashOf 2 (some .int) 2 [.ref (Z.2.2 10), .int (nI i)] (wR Z (nI m) toll paid cash debts fallen rounds shares under table right tried falls rsize ringOf row found hh) (some (.int ((cash i).toInt32))) (wR Z (nI m) toll paid cash debts fallen rounds shares under table right tried falls rsize ringOf row found hh) := by
  refine MM.intro (by decide) [some (.ref (Z.2.2 10)), some (.int (nI i))] rfl (Nat.le_of_ble_eq_true rfl) (fun X (h : OK Z X cX4_cashOf RX4 2 (rmd 2)) hr => ?_)
  refine g_aload_n (i := 0) h dX4_cashOf_0 rfl rfl (pc' := 1) rfl ?_
  refine g_iload_n (i := 1) h dX4_cashOf_1 rfl rfl (pc' := 2) rfl ?_
  refine g_callV1 (q0 := 0) h dX4_cashOf_2 cf_X4_57 (M_X4_isHouse (i := nI i) (by omega)) rfl rfl rfl rfl (by decide) rfl (Nat.le_of_ble_eq_true rfl) (pc' := 5) rfl ?_
  refine g_if_eqF (tg := 18) h dX4_cashOf_5 (by decide) (pc' := 8) rfl (fun q => (bI_0.mp q) (rsO g0 g1)) ?_
  refine g_aload_n (i := 0) h dX4_cashOf_8 rfl rfl (pc' := 9) rfl ?_
  refine gf_X4_13 h dX4_cashOf_9 (pc' := 12) rfl ?_
  refine g_iload_n (i := 1) h dX4_cashOf_12 rfl rfl (pc' := 13) rfl ?_
  refine al_11 (j := i) h dX4_cashOf_13 rfl (by omega) (pc' := 14) rfl ?_
  refine g_l2i h dX4_cashOf_14 (pc' := 15) rfl ?_
  refine g_goto (pc' := 20) h dX4_cashOf_15 (by decide) ?_
  exact g_iret h hr dX4_cashOf_20 rfl rfl
set_option maxRecDepth 20000 in
set_option maxHeartbeats 4000000 in
theorem R_debt_U {Z : ZT} {m : Nat} {toll : Int32} {paid : Int64} {cash : Nat → Int64} {debts : Nat → Int32} {fallen : Nat → Int32} {rounds : Int32} {shares : Nat → Int64} {under : Int64} {table : Nat → Int64} {right : Nat → Int64} {tried : Nat → Int64} {falls : Nat → Int32} {rsize : Int32} {ringOf : Nat → Int32} {row : Nat → Int32} {found : Int32} {hh : Int64} {i : Int32} {j : Int32}  (g0 : 1 ≤ m) (g1 : ¬ (¬ i < nI 0 ∧ ¬ nI (m - 1) < i)) : MM Z yX4_debt cX4_debt 3 (some .int) 2 [.ref (Z.2.2 10), .int i, .int j] (wR Z (nI m) toll paid cash debts fallen rounds shares under table right tried falls rsize ringOf row found hh) (some (.int (-101))) (wR Z (nI m) toll paid cash debts fallen rounds shares under table right tried falls rsize ringOf row found hh) := by
  refine MM.intro (by decide) [some (.ref (Z.2.2 10)), some (.int i), some (.int j)] rfl (Nat.le_of_ble_eq_true rfl) (fun X (h : OK Z X cX4_debt RX4 3 (rmd 2)) hr => ?_)
  refine g_aload_n (i := 0) h dX4_debt_0 rfl rfl (pc' := 1) rfl ?_
  refine g_iload_n (i := 1) h dX4_debt_1 rfl rfl (pc' := 2) rfl ?_
  refine g_callV1 (q0 := 0) h dX4_debt_2 cf_X4_57 (M_X4_isHouse (i := i) (by omega)) rfl rfl rfl rfl (by decide) rfl (Nat.le_of_ble_eq_true rfl) (pc' := 5) rfl ?_
  refine g_if_eqT (tg := 33) h dX4_debt_5 (by decide) (bI_n g1) ?_
  refine g_bipush (v := (-101)) h dX4_debt_33 (by decide) (pc' := 35) rfl ?_
  exact g_iret h hr dX4_debt_35 rfl rfl
set_option maxRecDepth 20000 in
set_option maxHeartbeats 4000000 in
theorem R_debt_UP {Z : ZT} {m : Nat} {toll : Int32} {paid : Int64} {cash : Nat → Int64} {debts : Nat → Int32} {fallen : Nat → Int32} {rounds : Int32} {shares : Nat → Int64} {under : Int64} {table : Nat → Int64} {right : Nat → Int64} {tried : Nat → Int64} {falls : Nat → Int32} {rsize : Int32} {ringOf : Nat → Int32} {row : Nat → Int32} {found : Int32} {hh : Int64} {i : Nat} {j : Int32}  (g0 : i < m) (g1 : m ≤ 4) (g2 : 1 ≤ m) (g3 : ¬ (¬ j < nI 0 ∧ ¬ nI m < j)) : MM Z yX4_debt cX4_debt 3 (some .int) 2 [.ref (Z.2.2 10), .int (nI i), .int j] (wR Z (nI m) toll paid cash debts fallen rounds shares under table right tried falls rsize ringOf row found hh) (some (.int (-101))) (wR Z (nI m) toll paid cash debts fallen rounds shares under table right tried falls rsize ringOf row found hh) := by
  refine MM.intro (by decide) [some (.ref (Z.2.2 10)), some (.int (nI i)), some (.int j)] rfl (Nat.le_of_ble_eq_true rfl) (fun X (h : OK Z X cX4_debt RX4 3 (rmd 2)) hr => ?_)
  refine g_aload_n (i := 0) h dX4_debt_0 rfl rfl (pc' := 1) rfl ?_
  refine g_iload_n (i := 1) h dX4_debt_1 rfl rfl (pc' := 2) rfl ?_
  refine g_callV1 (q0 := 0) h dX4_debt_2 cf_X4_57 (M_X4_isHouse (i := nI i) (by omega)) rfl rfl rfl rfl (by decide) rfl (Nat.le_of_ble_eq_true rfl) (pc' := 5) rfl ?_
  refine g_if_eqF (tg := 33) h dX4_debt_5 (by decide) (pc' := 8) rfl (fun q => (bI_0.mp q) (rsO g0 g1)) ?_
  refine g_iload_n (i := 2) h dX4_debt_8 rfl rfl (pc' := 9) rfl ?_
  refine g_iconst (v := nI 0) h dX4_debt_9 (by decide) (pc' := 10) rfl ?_
  refine g_aload_n (i := 0) h dX4_debt_10 rfl rfl (pc' := 11) rfl ?_
  refine gf_X4_7 h dX4_debt_11 (pc' := 14) rfl ?_
  refine g_callS1 h dX4_debt_14 cf_X4_46 (M_X4_in (v := j) (lo := nI 0) (hi := nI m) ) rfl (by decide) rfl (Nat.le_of_ble_eq_true rfl) (pc' := 17) rfl ?_
  refine g_if_eqT (tg := 33) h dX4_debt_17 (by decide) (bI_n g3) ?_
  refine g_bipush (v := (-101)) h dX4_debt_33 (by decide) (pc' := 35) rfl ?_
  exact g_iret h hr dX4_debt_35 rfl rfl
set_option maxRecDepth 20000 in
set_option maxHeartbeats 4000000 in
theorem R_debt {Z : ZT} {m : Nat} {toll : Int32} {paid : Int64} {cash : Nat → Int64} {debts : Nat → Int32} {fallen : Nat → Int32} {rounds : Int32} {shares : Nat → Int64} {under : Int64} {table : Nat → Int64} {right : Nat → Int64} {tried : Nat → Int64} {falls : Nat → Int32} {rsize : Int32} {ringOf : Nat → Int32} {row : Nat → Int32} {found : Int32} {hh : Int64} {i : Nat} {j : Nat}  (g0 : i < m) (g1 : m ≤ 4) (g2 : 1 ≤ m) (g3 : j ≤ m) : MM Z yX4_debt cX4_debt 3 (some .int) 2 [.ref (Z.2.2 10), .int (nI i), .int (nI j)] (wR Z (nI m) toll paid cash debts fallen rounds shares under table right tried falls rsize ringOf row found hh) (some (.int (debts (5 * i + j)))) (wR Z (nI m) toll paid cash debts fallen rounds shares under table right tried falls rsize ringOf row found hh) := by
  refine MM.intro (by decide) [some (.ref (Z.2.2 10)), some (.int (nI i)), some (.int (nI j))] rfl (Nat.le_of_ble_eq_true rfl) (fun X (h : OK Z X cX4_debt RX4 3 (rmd 2)) hr => ?_)
  refine g_aload_n (i := 0) h dX4_debt_0 rfl rfl (pc' := 1) rfl ?_
  refine g_iload_n (i := 1) h dX4_debt_1 rfl rfl (pc' := 2) rfl ?_
  refine g_callV1 (q0 := 0) h dX4_debt_2 cf_X4_57 (M_X4_isHouse (i := nI i) (by omega)) rfl rfl rfl rfl (by decide) rfl (Nat.le_of_ble_eq_true rfl) (pc' := 5) rfl ?_
  refine g_if_eqF (tg := 33) h dX4_debt_5 (by decide) (pc' := 8) rfl (fun q => (bI_0.mp q) (rsO g0 g1)) ?_
  refine g_iload_n (i := 2) h dX4_debt_8 rfl rfl (pc' := 9) rfl ?_
  refine g_iconst (v := nI 0) h dX4_debt_9 (by decide) (pc' := 10) rfl ?_
  refine g_aload_n (i := 0) h dX4_debt_10 rfl rfl (pc' := 11) rfl ?_
  refine gf_X4_7 h dX4_debt_11 (pc' := 14) rfl ?_
  refine g_callS1 h dX4_debt_14 cf_X4_46 (M_X4_in (v := nI j) (lo := nI 0) (hi := nI m) ) rfl (by decide) rfl (Nat.le_of_ble_eq_true rfl) (pc' := 17) rfl ?_
  refine g_if_eqF (tg := 33) h dX4_debt_17 (by decide) (pc' := 20) rfl (fun q => (bI_0.mp q) (rpO g3 g1)) ?_
  refine g_aload_n (i := 0) h dX4_debt_20 rfl rfl (pc' := 21) rfl ?_
  refine gf_X4_17 h dX4_debt_21 (pc' := 24) rfl ?_
  refine g_iconst (v := nI 5) h dX4_debt_24 (by decide) (pc' := 25) rfl ?_
  refine g_iload_n (i := 1) h dX4_debt_25 rfl rfl (pc' := 26) rfl ?_
  refine g_imulN h dX4_debt_26 (pc' := 27) rfl ?_
  refine g_iload_n (i := 2) h dX4_debt_27 rfl rfl (pc' := 28) rfl ?_
  refine g_iaddN h dX4_debt_28 (pc' := 29) rfl ?_
  refine al_12 (j := (5 * i) + j) h dX4_debt_29 rfl (by omega) (pc' := 30) rfl ?_
  refine g_goto (pc' := 35) h dX4_debt_30 (by decide) ?_
  exact g_iret h hr dX4_debt_35 rfl rfl
set_option maxRecDepth 20000 in
set_option maxHeartbeats 4000000 in
theorem R_owes_U {Z : ZT} {m : Nat} {toll : Int32} {paid : Int64} {cash : Nat → Int64} {debts : Nat → Int32} {fallen : Nat → Int32} {rounds : Int32} {shares : Nat → Int64} {under : Int64} {table : Nat → Int64} {right : Nat → Int64} {tried : Nat → Int64} {falls : Nat → Int32} {rsize : Int32} {ringOf : Nat → Int32} {row : Nat → Int32} {found : Int32} {hh : Int64} {i : Int32}  (g0 : 1 ≤ m) (g1 : ¬ (¬ i < nI 0 ∧ ¬ nI (m - 1) < i)) : MM Z yX4_owes cX4_owes 2 (some .int) 2 [.ref (Z.2.2 10), .int i] (wR Z (nI m) toll paid cash debts fallen rounds shares under table right tried falls rsize ringOf row found hh) (some (.int (-101))) (wR Z (nI m) toll paid cash debts fallen rounds shares under table right tried falls rsize ringOf row found hh) := by
  refine MM.intro (by decide) [some (.ref (Z.2.2 10)), some (.int i)] rfl (Nat.le_of_ble_eq_true rfl) (fun X (h : OK Z X cX4_owes RX4 2 (rmd 2)) hr => ?_)
  refine g_aload_n (i := 0) h dX4_owes_0 rfl rfl (pc' := 1) rfl ?_
  refine g_iload_n (i := 1) h dX4_owes_1 rfl rfl (pc' := 2) rfl ?_
  refine g_callV1 (q0 := 0) h dX4_owes_2 cf_X4_57 (M_X4_isHouse (i := i) (by omega)) rfl rfl rfl rfl (by decide) rfl (Nat.le_of_ble_eq_true rfl) (pc' := 5) rfl ?_
  refine g_if_eqT (tg := 16) h dX4_owes_5 (by decide) (bI_n g1) ?_
  refine g_bipush (v := (-101)) h dX4_owes_16 (by decide) (pc' := 18) rfl ?_
  exact g_iret h hr dX4_owes_18 rfl rfl
set_option maxRecDepth 20000 in
set_option maxHeartbeats 4000000 in
theorem R_owes {Z : ZT} {m : Nat} {toll : Int32} {paid : Int64} {cash : Nat → Int64} {debts : Nat → Int32} {fallen : Nat → Int32} {rounds : Int32} {shares : Nat → Int64} {under : Int64} {table : Nat → Int64} {right : Nat → Int64} {tried : Nat → Int64} {falls : Nat → Int32} {rsize : Int32} {ringOf : Nat → Int32} {row : Nat → Int32} {found : Int32} {hh : Int64} {i : Nat}  (g0 : i < m) (g1 : m ≤ 4) (g2 : 1 ≤ m) : MM Z yX4_owes cX4_owes 2 (some .int) 2 [.ref (Z.2.2 10), .int (nI i)] (wR Z (nI m) toll paid cash debts fallen rounds shares under table right tried falls rsize ringOf row found hh) (some (.int (oR debts m i))) (wR Z (nI m) toll paid cash debts fallen rounds shares under table right tried falls rsize ringOf row found hh) := by
  refine MM.intro (by decide) [some (.ref (Z.2.2 10)), some (.int (nI i))] rfl (Nat.le_of_ble_eq_true rfl) (fun X (h : OK Z X cX4_owes RX4 2 (rmd 2)) hr => ?_)
  refine g_aload_n (i := 0) h dX4_owes_0 rfl rfl (pc' := 1) rfl ?_
  refine g_iload_n (i := 1) h dX4_owes_1 rfl rfl (pc' := 2) rfl ?_
  refine g_callV1 (q0 := 0) h dX4_owes_2 cf_X4_57 (M_X4_isHouse (i := nI i) (by omega)) rfl rfl rfl rfl (by decide) rfl (Nat.le_of_ble_eq_true rfl) (pc' := 5) rfl ?_
  refine g_if_eqF (tg := 16) h dX4_owes_5 (by decide) (pc' := 8) rfl (fun q => (bI_0.mp q) (rsO g0 g1)) ?_
  refine g_aload_n (i := 0) h dX4_owes_8 rfl rfl (pc' := 9) rfl ?_
  refine g_iload_n (i := 1) h dX4_owes_9 rfl rfl (pc' := 10) rfl ?_
  refine g_callV1 (q0 := 0) h dX4_owes_10 cf_X4_61 (M_X4_owesOf (i := i) (by omega) (by omega)) rfl rfl rfl rfl (by decide) rfl (Nat.le_of_ble_eq_true rfl) (pc' := 13) rfl ?_
  refine g_goto (pc' := 18) h dX4_owes_13 (by decide) ?_
  exact g_iret h hr dX4_owes_18 rfl rfl
set_option maxRecDepth 20000 in
set_option maxHeartbeats 4000000 in
theorem R_falls_U {Z : ZT} {m : Nat} {toll : Int32} {paid : Int64} {cash : Nat → Int64} {debts : Nat → Int32} {fallen : Nat → Int32} {rounds : Int32} {shares : Nat → Int64} {under : Int64} {table : Nat → Int64} {right : Nat → Int64} {tried : Nat → Int64} {falls : Nat → Int32} {rsize : Int32} {ringOf : Nat → Int32} {row : Nat → Int32} {found : Int32} {hh : Int64} {i : Int32}  (g0 : 1 ≤ m) (g1 : ¬ (¬ i < nI 0 ∧ ¬ nI (m - 1) < i)) : MM Z yX4_falls cX4_falls 2 (some .int) 4 [.ref (Z.2.2 10), .int i] (wR Z (nI m) toll paid cash debts fallen rounds shares under table right tried falls rsize ringOf row found hh) (some (.int (-101))) (wR Z (nI m) toll paid cash debts fallen rounds shares under table right tried falls rsize ringOf row found hh) := by
  refine MM.intro (by decide) [some (.ref (Z.2.2 10)), some (.int i)] rfl (Nat.le_of_ble_eq_true rfl) (fun X (h : OK Z X cX4_falls RX4 2 (rmd 4)) hr => ?_)
  refine g_aload_n (i := 0) h dX4_falls_0 rfl rfl (pc' := 1) rfl ?_
  refine g_iload_n (i := 1) h dX4_falls_1 rfl rfl (pc' := 2) rfl ?_
  refine g_callV1 (q0 := 0) h dX4_falls_2 cf_X4_57 (M_X4_isHouse (i := i) (by omega)) rfl rfl rfl rfl (by decide) rfl (Nat.le_of_ble_eq_true rfl) (pc' := 5) rfl ?_
  refine g_if_neF (tg := 11) h dX4_falls_5 (by decide) (pc' := 8) rfl (bI_n g1) ?_
  refine g_bipush (v := (-101)) h dX4_falls_8 (by decide) (pc' := 10) rfl ?_
  exact g_iret h hr dX4_falls_10 rfl rfl
set_option maxRecDepth 20000 in
set_option maxHeartbeats 4000000 in
theorem R_falls {Z : ZT} {m : Nat} {toll : Int32} {paid : Int64} {cash : Nat → Int64} {debts : Nat → Int32} {fallen : Nat → Int32} {rounds : Int32} {shares : Nat → Int64} {under : Int64} {table : Nat → Int64} {right : Nat → Int64} {tried : Nat → Int64} {falls : Nat → Int32} {rsize : Int32} {ringOf : Nat → Int32} {row : Nat → Int32} {found : Int32} {hh : Int64} {i : Nat} {K : Nat} {s9 : rT} (g0 : i < m) (g1 : m ≤ 4) (g2 : 1 ≤ m) (g3 : clr m toll cash debts K (rslv m toll cash debts (zf fallen 4, shares, under, table, right, tried, falls, nI 0)) = some s9) : MM Z yX4_falls cX4_falls 2 (some .int) 4 [.ref (Z.2.2 10), .int (nI i)] (wR Z (nI m) toll paid cash debts fallen rounds shares under table right tried falls rsize ringOf row found hh) (some (.int (s9.1 i))) (wR Z (nI m) toll paid cash debts s9.1 s9.2.2.2.2.2.2.2 s9.2.1 s9.2.2.1 s9.2.2.2.1 s9.2.2.2.2.1 s9.2.2.2.2.2.1 s9.2.2.2.2.2.2.1 rsize ringOf row found hh) := by
  refine MM.intro (by decide) [some (.ref (Z.2.2 10)), some (.int (nI i))] rfl (Nat.le_of_ble_eq_true rfl) (fun X (h : OK Z X cX4_falls RX4 2 (rmd 4)) hr => ?_)
  have hclr := g3
  refine g_aload_n (i := 0) h dX4_falls_0 rfl rfl (pc' := 1) rfl ?_
  refine g_iload_n (i := 1) h dX4_falls_1 rfl rfl (pc' := 2) rfl ?_
  refine g_callV1 (q0 := 0) h dX4_falls_2 cf_X4_57 (M_X4_isHouse (i := nI i) (by omega)) rfl rfl rfl rfl (by decide) rfl (Nat.le_of_ble_eq_true rfl) (pc' := 5) rfl ?_
  refine g_if_neT (tg := 11) h dX4_falls_5 (by decide) (fun q => (bI_0.mp q) (rsO g0 g1)) ?_
  refine g_aload_n (i := 0) h dX4_falls_11 rfl rfl (pc' := 12) rfl ?_
  refine g_callV0 (q0 := 0) h dX4_falls_12 cf_X4_91 (M_X4_clear  (by omega) hclr) rfl rfl rfl rfl (by decide) rfl (Nat.le_of_ble_eq_true rfl) (pc' := 15) rfl ?_
  refine g_aload_n (i := 0) h dX4_falls_15 rfl rfl (pc' := 16) rfl ?_
  refine gf_X4_21 h dX4_falls_16 (pc' := 19) rfl ?_
  refine g_iload_n (i := 1) h dX4_falls_19 rfl rfl (pc' := 20) rfl ?_
  refine al_13 (j := i) h dX4_falls_20 rfl (by omega) (pc' := 21) rfl ?_
  exact g_iret h hr dX4_falls_21 rfl rfl
set_option maxRecDepth 20000 in
set_option maxHeartbeats 4000000 in
theorem R_rounds {Z : ZT} {m : Nat} {toll : Int32} {paid : Int64} {cash : Nat → Int64} {debts : Nat → Int32} {fallen : Nat → Int32} {rounds : Int32} {shares : Nat → Int64} {under : Int64} {table : Nat → Int64} {right : Nat → Int64} {tried : Nat → Int64} {falls : Nat → Int32} {rsize : Int32} {ringOf : Nat → Int32} {row : Nat → Int32} {found : Int32} {hh : Int64}  {K : Nat} {s9 : rT} (g0 : m ≤ 4) (g1 : clr m toll cash debts K (rslv m toll cash debts (zf fallen 4, shares, under, table, right, tried, falls, nI 0)) = some s9) : MM Z yX4_rounds cX4_rounds 1 (some .int) 4 [.ref (Z.2.2 10)] (wR Z (nI m) toll paid cash debts fallen rounds shares under table right tried falls rsize ringOf row found hh) (some (.int s9.2.2.2.2.2.2.2)) (wR Z (nI m) toll paid cash debts s9.1 s9.2.2.2.2.2.2.2 s9.2.1 s9.2.2.1 s9.2.2.2.1 s9.2.2.2.2.1 s9.2.2.2.2.2.1 s9.2.2.2.2.2.2.1 rsize ringOf row found hh) := by
  refine MM.intro (by decide) [some (.ref (Z.2.2 10))] rfl (Nat.le_of_ble_eq_true rfl) (fun X (h : OK Z X cX4_rounds RX4 1 (rmd 4)) hr => ?_)
  have hclr := g1
  refine g_aload_n (i := 0) h dX4_rounds_0 rfl rfl (pc' := 1) rfl ?_
  refine g_callV0 (q0 := 0) h dX4_rounds_1 cf_X4_91 (M_X4_clear  (by omega) hclr) rfl rfl rfl rfl (by decide) rfl (Nat.le_of_ble_eq_true rfl) (pc' := 4) rfl ?_
  refine g_aload_n (i := 0) h dX4_rounds_4 rfl rfl (pc' := 5) rfl ?_
  refine gf_X4_78 h dX4_rounds_5 (pc' := 8) rfl ?_
  exact g_iret h hr dX4_rounds_8 rfl rfl
set_option maxRecDepth 20000 in
set_option maxHeartbeats 4000000 in
theorem R_share_U {Z : ZT} {m : Nat} {toll : Int32} {paid : Int64} {cash : Nat → Int64} {debts : Nat → Int32} {fallen : Nat → Int32} {rounds : Int32} {shares : Nat → Int64} {under : Int64} {table : Nat → Int64} {right : Nat → Int64} {tried : Nat → Int64} {falls : Nat → Int32} {rsize : Int32} {ringOf : Nat → Int32} {row : Nat → Int32} {found : Int32} {hh : Int64} {i : Int32} {part : Int32}  (g0 : 1 ≤ m) (g1 : ¬ (¬ i < nI 0 ∧ ¬ nI (m - 1) < i)) : MM Z yX4_share cX4_share 3 (some .long) 4 [.ref (Z.2.2 10), .int i, .int part] (wR Z (nI m) toll paid cash debts fallen rounds shares under table right tried falls rsize ringOf row found hh) (some (.long (-101))) (wR Z (nI m) toll paid cash debts fallen rounds shares under table right tried falls rsize ringOf row found hh) := by
  refine MM.intro (by decide) [some (.ref (Z.2.2 10)), some (.int i), some (.int part)] rfl (Nat.le_of_ble_eq_true rfl) (fun X (h : OK Z X cX4_share RX4 3 (rmd 4)) hr => ?_)
  refine g_aload_n (i := 0) h dX4_share_0 rfl rfl (pc' := 1) rfl ?_
  refine g_iload_n (i := 1) h dX4_share_1 rfl rfl (pc' := 2) rfl ?_
  refine g_callV1 (q0 := 0) h dX4_share_2 cf_X4_57 (M_X4_isHouse (i := i) (by omega)) rfl rfl rfl rfl (by decide) rfl (Nat.le_of_ble_eq_true rfl) (pc' := 5) rfl ?_
  refine g_if_neF (tg := 12) h dX4_share_5 (by decide) (pc' := 8) rfl (bI_n g1) ?_
  refine g_ldc2 h dX4_share_8 co_X4_94 (pc' := 11) rfl ?_
  exact g_lret h hr dX4_share_11 rfl rfl
set_option maxRecDepth 20000 in
set_option maxHeartbeats 4000000 in
theorem R_share_O {Z : ZT} {m : Nat} {toll : Int32} {paid : Int64} {cash : Nat → Int64} {debts : Nat → Int32} {fallen : Nat → Int32} {rounds : Int32} {shares : Nat → Int64} {under : Int64} {table : Nat → Int64} {right : Nat → Int64} {tried : Nat → Int64} {falls : Nat → Int32} {rsize : Int32} {ringOf : Nat → Int32} {row : Nat → Int32} {found : Int32} {hh : Int64} {i : Nat} {part : Int32}  (g0 : i < m) (g1 : m ≤ 4) (g2 : 1 ≤ m) (g3 : ¬ (¬ part < nI 0 ∧ ¬ nI 1 < part)) : MM Z yX4_share cX4_share 3 (some .long) 4 [.ref (Z.2.2 10), .int (nI i), .int part] (wR Z (nI m) toll paid cash debts fallen rounds shares under table right tried falls rsize ringOf row found hh) (some (.long (-102))) (wR Z (nI m) toll paid cash debts fallen rounds shares under table right tried falls rsize ringOf row found hh) := by
  refine MM.intro (by decide) [some (.ref (Z.2.2 10)), some (.int (nI i)), some (.int part)] rfl (Nat.le_of_ble_eq_true rfl) (fun X (h : OK Z X cX4_share RX4 3 (rmd 4)) hr => ?_)
  refine g_aload_n (i := 0) h dX4_share_0 rfl rfl (pc' := 1) rfl ?_
  refine g_iload_n (i := 1) h dX4_share_1 rfl rfl (pc' := 2) rfl ?_
  refine g_callV1 (q0 := 0) h dX4_share_2 cf_X4_57 (M_X4_isHouse (i := nI i) (by omega)) rfl rfl rfl rfl (by decide) rfl (Nat.le_of_ble_eq_true rfl) (pc' := 5) rfl ?_
  refine g_if_neT (tg := 12) h dX4_share_5 (by decide) (fun q => (bI_0.mp q) (rsO g0 g1)) ?_
  refine g_iload_n (i := 2) h dX4_share_12 rfl rfl (pc' := 13) rfl ?_
  refine g_iconst (v := nI 0) h dX4_share_13 (by decide) (pc' := 14) rfl ?_
  refine g_iconst (v := nI 1) h dX4_share_14 (by decide) (pc' := 15) rfl ?_
  refine g_callS1 h dX4_share_15 cf_X4_46 (M_X4_in (v := part) (lo := nI 0) (hi := nI 1) ) rfl (by decide) rfl (Nat.le_of_ble_eq_true rfl) (pc' := 18) rfl ?_
  refine g_if_neF (tg := 25) h dX4_share_18 (by decide) (pc' := 21) rfl (bI_n g3) ?_
  refine g_ldc2 h dX4_share_21 co_X4_96 (pc' := 24) rfl ?_
  exact g_lret h hr dX4_share_24 rfl rfl
set_option maxRecDepth 20000 in
set_option maxHeartbeats 4000000 in
theorem R_share {Z : ZT} {m : Nat} {toll : Int32} {paid : Int64} {cash : Nat → Int64} {debts : Nat → Int32} {fallen : Nat → Int32} {rounds : Int32} {shares : Nat → Int64} {under : Int64} {table : Nat → Int64} {right : Nat → Int64} {tried : Nat → Int64} {falls : Nat → Int32} {rsize : Int32} {ringOf : Nat → Int32} {row : Nat → Int32} {found : Int32} {hh : Int64} {i : Nat} {part : Int32} {K : Nat} {s9 : rT} {K2 : Nat} {g : Int64} (g0 : i < m) (g1 : m ≤ 4) (g2 : 1 ≤ m) (g3 : ¬ part < nI 0 ∧ ¬ nI 1 < part) (g4 : clr m toll cash debts K (rslv m toll cash debts (zf fallen 4, shares, under, table, right, tried, falls, nI 0)) = some s9) (g5 : cmn K2 (s9.2.1 i) s9.2.2.1 = some g) (g6 : ¬ g = 0) : MM Z yX4_share cX4_share 3 (some .long) 4 [.ref (Z.2.2 10), .int (nI i), .int part] (wR Z (nI m) toll paid cash debts fallen rounds shares under table right tried falls rsize ringOf row found hh) (some (.long (if part = 0 then (s9.2.1 i) / g else s9.2.2.1 / g))) (wR Z (nI m) toll paid cash debts s9.1 s9.2.2.2.2.2.2.2 s9.2.1 s9.2.2.1 s9.2.2.2.1 s9.2.2.2.2.1 s9.2.2.2.2.2.1 s9.2.2.2.2.2.2.1 rsize ringOf row found hh) := by
  refine MM.intro (by decide) [some (.ref (Z.2.2 10)), some (.int (nI i)), some (.int part)] rfl (Nat.le_of_ble_eq_true rfl) (fun X (h : OK Z X cX4_share RX4 3 (rmd 4)) hr => ?_)
  have hclr := g4
  have hgcd := g5
  have hg0 := g6
  refine g_aload_n (i := 0) h dX4_share_0 rfl rfl (pc' := 1) rfl ?_
  refine g_iload_n (i := 1) h dX4_share_1 rfl rfl (pc' := 2) rfl ?_
  refine g_callV1 (q0 := 0) h dX4_share_2 cf_X4_57 (M_X4_isHouse (i := nI i) (by omega)) rfl rfl rfl rfl (by decide) rfl (Nat.le_of_ble_eq_true rfl) (pc' := 5) rfl ?_
  refine g_if_neT (tg := 12) h dX4_share_5 (by decide) (fun q => (bI_0.mp q) (rsO g0 g1)) ?_
  refine g_iload_n (i := 2) h dX4_share_12 rfl rfl (pc' := 13) rfl ?_
  refine g_iconst (v := nI 0) h dX4_share_13 (by decide) (pc' := 14) rfl ?_
  refine g_iconst (v := nI 1) h dX4_share_14 (by decide) (pc' := 15) rfl ?_
  refine g_callS1 h dX4_share_15 cf_X4_46 (M_X4_in (v := part) (lo := nI 0) (hi := nI 1) ) rfl (by decide) rfl (Nat.le_of_ble_eq_true rfl) (pc' := 18) rfl ?_
  refine g_if_neT (tg := 25) h dX4_share_18 (by decide) (fun q => (bI_0.mp q) g3) ?_
  refine g_aload_n (i := 0) h dX4_share_25 rfl rfl (pc' := 26) rfl ?_
  refine g_callV0 (q0 := 0) h dX4_share_26 cf_X4_91 (M_X4_clear  (by omega) hclr) rfl rfl rfl rfl (by decide) rfl (Nat.le_of_ble_eq_true rfl) (pc' := 29) rfl ?_
  refine g_aload_n (i := 0) h dX4_share_29 rfl rfl (pc' := 30) rfl ?_
  refine gf_X4_24 h dX4_share_30 (pc' := 33) rfl ?_
  refine g_iload_n (i := 1) h dX4_share_33 rfl rfl (pc' := 34) rfl ?_
  refine al_14 (j := i) h dX4_share_34 rfl (by omega) (pc' := 35) rfl ?_
  refine g_aload_n (i := 0) h dX4_share_35 rfl rfl (pc' := 36) rfl ?_
  refine gf_X4_75 h dX4_share_36 (pc' := 39) rfl ?_
  refine g_iload_n (i := 2) h dX4_share_39 rfl rfl (pc' := 40) rfl ?_
  refine g_callS1 h dX4_share_40 cf_X4_98 (M_X4_part (a := s9.2.1 i) (b := s9.2.2.1) (p := part) hgcd hg0) rfl (by decide) rfl (Nat.le_of_ble_eq_true rfl) (pc' := 43) rfl ?_
  exact g_lret h hr dX4_share_43 rfl rfl
set_option maxRecDepth 20000 in
set_option maxHeartbeats 4000000 in
theorem R_gross_U {Z : ZT} {m : Nat} {toll : Int32} {paid : Int64} {cash : Nat → Int64} {debts : Nat → Int32} {fallen : Nat → Int32} {rounds : Int32} {shares : Nat → Int64} {under : Int64} {table : Nat → Int64} {right : Nat → Int64} {tried : Nat → Int64} {falls : Nat → Int32} {rsize : Int32} {ringOf : Nat → Int32} {row : Nat → Int32} {found : Int32} {hh : Int64} {i : Int32} {part : Int32}  (g0 : 1 ≤ m) (g1 : ¬ (¬ i < nI 0 ∧ ¬ nI (m - 1) < i)) : MM Z yX4_gross cX4_gross 3 (some .long) 4 [.ref (Z.2.2 10), .int i, .int part] (wR Z (nI m) toll paid cash debts fallen rounds shares under table right tried falls rsize ringOf row found hh) (some (.long (-101))) (wR Z (nI m) toll paid cash debts fallen rounds shares under table right tried falls rsize ringOf row found hh) := by
  refine MM.intro (by decide) [some (.ref (Z.2.2 10)), some (.int i), some (.int part)] rfl (Nat.le_of_ble_eq_true rfl) (fun X (h : OK Z X cX4_gross RX4 3 (rmd 4)) hr => ?_)
  refine g_aload_n (i := 0) h dX4_gross_0 rfl rfl (pc' := 1) rfl ?_
  refine g_iload_n (i := 1) h dX4_gross_1 rfl rfl (pc' := 2) rfl ?_
  refine g_callV1 (q0 := 0) h dX4_gross_2 cf_X4_57 (M_X4_isHouse (i := i) (by omega)) rfl rfl rfl rfl (by decide) rfl (Nat.le_of_ble_eq_true rfl) (pc' := 5) rfl ?_
  refine g_if_neF (tg := 12) h dX4_gross_5 (by decide) (pc' := 8) rfl (bI_n g1) ?_
  refine g_ldc2 h dX4_gross_8 co_X4_94 (pc' := 11) rfl ?_
  exact g_lret h hr dX4_gross_11 rfl rfl
set_option maxRecDepth 20000 in
set_option maxHeartbeats 4000000 in
theorem R_gross_O {Z : ZT} {m : Nat} {toll : Int32} {paid : Int64} {cash : Nat → Int64} {debts : Nat → Int32} {fallen : Nat → Int32} {rounds : Int32} {shares : Nat → Int64} {under : Int64} {table : Nat → Int64} {right : Nat → Int64} {tried : Nat → Int64} {falls : Nat → Int32} {rsize : Int32} {ringOf : Nat → Int32} {row : Nat → Int32} {found : Int32} {hh : Int64} {i : Nat} {part : Int32}  (g0 : i < m) (g1 : m ≤ 4) (g2 : 1 ≤ m) (g3 : ¬ (¬ part < nI 0 ∧ ¬ nI 1 < part)) : MM Z yX4_gross cX4_gross 3 (some .long) 4 [.ref (Z.2.2 10), .int (nI i), .int part] (wR Z (nI m) toll paid cash debts fallen rounds shares under table right tried falls rsize ringOf row found hh) (some (.long (-102))) (wR Z (nI m) toll paid cash debts fallen rounds shares under table right tried falls rsize ringOf row found hh) := by
  refine MM.intro (by decide) [some (.ref (Z.2.2 10)), some (.int (nI i)), some (.int part)] rfl (Nat.le_of_ble_eq_true rfl) (fun X (h : OK Z X cX4_gross RX4 3 (rmd 4)) hr => ?_)
  refine g_aload_n (i := 0) h dX4_gross_0 rfl rfl (pc' := 1) rfl ?_
  refine g_iload_n (i := 1) h dX4_gross_1 rfl rfl (pc' := 2) rfl ?_
  refine g_callV1 (q0 := 0) h dX4_gross_2 cf_X4_57 (M_X4_isHouse (i := nI i) (by omega)) rfl rfl rfl rfl (by decide) rfl (Nat.le_of_ble_eq_true rfl) (pc' := 5) rfl ?_
  refine g_if_neT (tg := 12) h dX4_gross_5 (by decide) (fun q => (bI_0.mp q) (rsO g0 g1)) ?_
  refine g_iload_n (i := 2) h dX4_gross_12 rfl rfl (pc' := 13) rfl ?_
  refine g_iconst (v := nI 0) h dX4_gross_13 (by decide) (pc' := 14) rfl ?_
  refine g_iconst (v := nI 1) h dX4_gross_14 (by decide) (pc' := 15) rfl ?_
  refine g_callS1 h dX4_gross_15 cf_X4_46 (M_X4_in (v := part) (lo := nI 0) (hi := nI 1) ) rfl (by decide) rfl (Nat.le_of_ble_eq_true rfl) (pc' := 18) rfl ?_
  refine g_if_neF (tg := 25) h dX4_gross_18 (by decide) (pc' := 21) rfl (bI_n g3) ?_
  refine g_ldc2 h dX4_gross_21 co_X4_96 (pc' := 24) rfl ?_
  exact g_lret h hr dX4_gross_24 rfl rfl
set_option maxRecDepth 20000 in
set_option maxHeartbeats 4000000 in
theorem R_gross {Z : ZT} {m : Nat} {toll : Int32} {paid : Int64} {cash : Nat → Int64} {debts : Nat → Int32} {fallen : Nat → Int32} {rounds : Int32} {shares : Nat → Int64} {under : Int64} {table : Nat → Int64} {right : Nat → Int64} {tried : Nat → Int64} {falls : Nat → Int32} {rsize : Int32} {ringOf : Nat → Int32} {row : Nat → Int32} {found : Int32} {hh : Int64} {i : Nat} {part : Int32} {K : Nat} {s9 : rT} {K2 : Nat} {g : Int64} (g0 : i < m) (g1 : m ≤ 4) (g2 : 1 ≤ m) (g3 : ¬ part < nI 0 ∧ ¬ nI 1 < part) (g4 : clr m toll cash debts K (rslv m toll cash debts (zf fallen 4, shares, under, table, right, tried, falls, nI 0)) = some s9) (g5 : cmn K2 (gR cash s9.2.2.1 s9.2.1 debts i m) s9.2.2.1 = some g) (g6 : ¬ g = 0) : MM Z yX4_gross cX4_gross 3 (some .long) 4 [.ref (Z.2.2 10), .int (nI i), .int part] (wR Z (nI m) toll paid cash debts fallen rounds shares under table right tried falls rsize ringOf row found hh) (some (.long (if part = 0 then (gR cash s9.2.2.1 s9.2.1 debts i m) / g else s9.2.2.1 / g))) (wR Z (nI m) toll paid cash debts s9.1 s9.2.2.2.2.2.2.2 s9.2.1 s9.2.2.1 s9.2.2.2.1 s9.2.2.2.2.1 s9.2.2.2.2.2.1 s9.2.2.2.2.2.2.1 rsize ringOf row found hh) := by
  refine MM.intro (by decide) [some (.ref (Z.2.2 10)), some (.int (nI i)), some (.int part)] rfl (Nat.le_of_ble_eq_true rfl) (fun X (h : OK Z X cX4_gross RX4 3 (rmd 4)) hr => ?_)
  have hclr := g4
  have hgcd := g5
  have hg0 := g6
  refine g_aload_n (i := 0) h dX4_gross_0 rfl rfl (pc' := 1) rfl ?_
  refine g_iload_n (i := 1) h dX4_gross_1 rfl rfl (pc' := 2) rfl ?_
  refine g_callV1 (q0 := 0) h dX4_gross_2 cf_X4_57 (M_X4_isHouse (i := nI i) (by omega)) rfl rfl rfl rfl (by decide) rfl (Nat.le_of_ble_eq_true rfl) (pc' := 5) rfl ?_
  refine g_if_neT (tg := 12) h dX4_gross_5 (by decide) (fun q => (bI_0.mp q) (rsO g0 g1)) ?_
  refine g_iload_n (i := 2) h dX4_gross_12 rfl rfl (pc' := 13) rfl ?_
  refine g_iconst (v := nI 0) h dX4_gross_13 (by decide) (pc' := 14) rfl ?_
  refine g_iconst (v := nI 1) h dX4_gross_14 (by decide) (pc' := 15) rfl ?_
  refine g_callS1 h dX4_gross_15 cf_X4_46 (M_X4_in (v := part) (lo := nI 0) (hi := nI 1) ) rfl (by decide) rfl (Nat.le_of_ble_eq_true rfl) (pc' := 18) rfl ?_
  refine g_if_neT (tg := 25) h dX4_gross_18 (by decide) (fun q => (bI_0.mp q) g3) ?_
  refine g_aload_n (i := 0) h dX4_gross_25 rfl rfl (pc' := 26) rfl ?_
  refine g_callV0 (q0 := 0) h dX4_gross_26 cf_X4_91 (M_X4_clear  (by omega) hclr) rfl rfl rfl rfl (by decide) rfl (Nat.le_of_ble_eq_true rfl) (pc' := 29) rfl ?_
  refine g_aload_n (i := 0) h dX4_gross_29 rfl rfl (pc' := 30) rfl ?_
  refine g_iload_n (i := 1) h dX4_gross_30 rfl rfl (pc' := 31) rfl ?_
  refine g_callV1 (q0 := 0) h dX4_gross_31 cf_X4_84 (M_X4_grossOf (i := i) (by omega) (by omega)) rfl rfl rfl rfl (by decide) rfl (Nat.le_of_ble_eq_true rfl) (pc' := 34) rfl ?_
  refine g_aload_n (i := 0) h dX4_gross_34 rfl rfl (pc' := 35) rfl ?_
  refine gf_X4_75 h dX4_gross_35 (pc' := 38) rfl ?_
  refine g_iload_n (i := 2) h dX4_gross_38 rfl rfl (pc' := 39) rfl ?_
  refine g_callS1 h dX4_gross_39 cf_X4_98 (M_X4_part (a := gR cash s9.2.2.1 s9.2.1 debts i m) (b := s9.2.2.1) (p := part) hgcd hg0) rfl (by decide) rfl (Nat.le_of_ble_eq_true rfl) (pc' := 42) rfl ?_
  exact g_lret h hr dX4_gross_42 rfl rfl
set_option maxRecDepth 20000 in
set_option maxHeartbeats 4000000 in
theorem R_left_U {Z : ZT} {m : Nat} {toll : Int32} {paid : Int64} {cash : Nat → Int64} {debts : Nat → Int32} {fallen : Nat → Int32} {rounds : Int32} {shares : Nat → Int64} {under : Int64} {table : Nat → Int64} {right : Nat → Int64} {tried : Nat → Int64} {falls : Nat → Int32} {rsize : Int32} {ringOf : Nat → Int32} {row : Nat → Int32} {found : Int32} {hh : Int64} {i : Int32} {part : Int32}  (g0 : 1 ≤ m) (g1 : ¬ (¬ i < nI 0 ∧ ¬ nI (m - 1) < i)) : MM Z yX4_left cX4_left 3 (some .long) 4 [.ref (Z.2.2 10), .int i, .int part] (wR Z (nI m) toll paid cash debts fallen rounds shares under table right tried falls rsize ringOf row found hh) (some (.long (-101))) (wR Z (nI m) toll paid cash debts fallen rounds shares under table right tried falls rsize ringOf row found hh) := by
  refine MM.intro (by decide) [some (.ref (Z.2.2 10)), some (.int i), some (.int part)] rfl (Nat.le_of_ble_eq_true rfl) (fun X (h : OK Z X cX4_left RX4 3 (rmd 4)) hr => ?_)
  refine g_aload_n (i := 0) h dX4_left_0 rfl rfl (pc' := 1) rfl ?_
  refine g_iload_n (i := 1) h dX4_left_1 rfl rfl (pc' := 2) rfl ?_
  refine g_callV1 (q0 := 0) h dX4_left_2 cf_X4_57 (M_X4_isHouse (i := i) (by omega)) rfl rfl rfl rfl (by decide) rfl (Nat.le_of_ble_eq_true rfl) (pc' := 5) rfl ?_
  refine g_if_neF (tg := 12) h dX4_left_5 (by decide) (pc' := 8) rfl (bI_n g1) ?_
  refine g_ldc2 h dX4_left_8 co_X4_94 (pc' := 11) rfl ?_
  exact g_lret h hr dX4_left_11 rfl rfl
set_option maxRecDepth 20000 in
set_option maxHeartbeats 4000000 in
theorem R_left_O {Z : ZT} {m : Nat} {toll : Int32} {paid : Int64} {cash : Nat → Int64} {debts : Nat → Int32} {fallen : Nat → Int32} {rounds : Int32} {shares : Nat → Int64} {under : Int64} {table : Nat → Int64} {right : Nat → Int64} {tried : Nat → Int64} {falls : Nat → Int32} {rsize : Int32} {ringOf : Nat → Int32} {row : Nat → Int32} {found : Int32} {hh : Int64} {i : Nat} {part : Int32}  (g0 : i < m) (g1 : m ≤ 4) (g2 : 1 ≤ m) (g3 : ¬ (¬ part < nI 0 ∧ ¬ nI 1 < part)) : MM Z yX4_left cX4_left 3 (some .long) 4 [.ref (Z.2.2 10), .int (nI i), .int part] (wR Z (nI m) toll paid cash debts fallen rounds shares under table right tried falls rsize ringOf row found hh) (some (.long (-102))) (wR Z (nI m) toll paid cash debts fallen rounds shares under table right tried falls rsize ringOf row found hh) := by
  refine MM.intro (by decide) [some (.ref (Z.2.2 10)), some (.int (nI i)), some (.int part)] rfl (Nat.le_of_ble_eq_true rfl) (fun X (h : OK Z X cX4_left RX4 3 (rmd 4)) hr => ?_)
  refine g_aload_n (i := 0) h dX4_left_0 rfl rfl (pc' := 1) rfl ?_
  refine g_iload_n (i := 1) h dX4_left_1 rfl rfl (pc' := 2) rfl ?_
  refine g_callV1 (q0 := 0) h dX4_left_2 cf_X4_57 (M_X4_isHouse (i := nI i) (by omega)) rfl rfl rfl rfl (by decide) rfl (Nat.le_of_ble_eq_true rfl) (pc' := 5) rfl ?_
  refine g_if_neT (tg := 12) h dX4_left_5 (by decide) (fun q => (bI_0.mp q) (rsO g0 g1)) ?_
  refine g_iload_n (i := 2) h dX4_left_12 rfl rfl (pc' := 13) rfl ?_
  refine g_iconst (v := nI 0) h dX4_left_13 (by decide) (pc' := 14) rfl ?_
  refine g_iconst (v := nI 1) h dX4_left_14 (by decide) (pc' := 15) rfl ?_
  refine g_callS1 h dX4_left_15 cf_X4_46 (M_X4_in (v := part) (lo := nI 0) (hi := nI 1) ) rfl (by decide) rfl (Nat.le_of_ble_eq_true rfl) (pc' := 18) rfl ?_
  refine g_if_neF (tg := 25) h dX4_left_18 (by decide) (pc' := 21) rfl (bI_n g3) ?_
  refine g_ldc2 h dX4_left_21 co_X4_96 (pc' := 24) rfl ?_
  exact g_lret h hr dX4_left_24 rfl rfl
set_option maxRecDepth 20000 in
set_option maxHeartbeats 4000000 in
theorem R_left_F {Z : ZT} {m : Nat} {toll : Int32} {paid : Int64} {cash : Nat → Int64} {debts : Nat → Int32} {fallen : Nat → Int32} {rounds : Int32} {shares : Nat → Int64} {under : Int64} {table : Nat → Int64} {right : Nat → Int64} {tried : Nat → Int64} {falls : Nat → Int32} {rsize : Int32} {ringOf : Nat → Int32} {row : Nat → Int32} {found : Int32} {hh : Int64} {i : Nat} {part : Int32} {K : Nat} {s9 : rT} {K2 : Nat} {g : Int64} (g0 : i < m) (g1 : m ≤ 4) (g2 : 1 ≤ m) (g3 : ¬ part < nI 0 ∧ ¬ nI 1 < part) (g4 : clr m toll cash debts K (rslv m toll cash debts (zf fallen 4, shares, under, table, right, tried, falls, nI 0)) = some s9) (g5 : ¬ s9.1 i ≤ 0) (g6 : cmn K2 0 s9.2.2.1 = some g) (g7 : ¬ g = 0) : MM Z yX4_left cX4_left 3 (some .long) 4 [.ref (Z.2.2 10), .int (nI i), .int part] (wR Z (nI m) toll paid cash debts fallen rounds shares under table right tried falls rsize ringOf row found hh) (some (.long (if part = 0 then 0 / g else s9.2.2.1 / g))) (wR Z (nI m) toll paid cash debts s9.1 s9.2.2.2.2.2.2.2 s9.2.1 s9.2.2.1 s9.2.2.2.1 s9.2.2.2.2.1 s9.2.2.2.2.2.1 s9.2.2.2.2.2.2.1 rsize ringOf row found hh) := by
  refine MM.intro (by decide) [some (.ref (Z.2.2 10)), some (.int (nI i)), some (.int part)] rfl (Nat.le_of_ble_eq_true rfl) (fun X (h : OK Z X cX4_left RX4 3 (rmd 4)) hr => ?_)
  have hclr := g4
  have hgcd := g6
  have hg0 := g7
  refine g_aload_n (i := 0) h dX4_left_0 rfl rfl (pc' := 1) rfl ?_
  refine g_iload_n (i := 1) h dX4_left_1 rfl rfl (pc' := 2) rfl ?_
  refine g_callV1 (q0 := 0) h dX4_left_2 cf_X4_57 (M_X4_isHouse (i := nI i) (by omega)) rfl rfl rfl rfl (by decide) rfl (Nat.le_of_ble_eq_true rfl) (pc' := 5) rfl ?_
  refine g_if_neT (tg := 12) h dX4_left_5 (by decide) (fun q => (bI_0.mp q) (rsO g0 g1)) ?_
  refine g_iload_n (i := 2) h dX4_left_12 rfl rfl (pc' := 13) rfl ?_
  refine g_iconst (v := nI 0) h dX4_left_13 (by decide) (pc' := 14) rfl ?_
  refine g_iconst (v := nI 1) h dX4_left_14 (by decide) (pc' := 15) rfl ?_
  refine g_callS1 h dX4_left_15 cf_X4_46 (M_X4_in (v := part) (lo := nI 0) (hi := nI 1) ) rfl (by decide) rfl (Nat.le_of_ble_eq_true rfl) (pc' := 18) rfl ?_
  refine g_if_neT (tg := 25) h dX4_left_18 (by decide) (fun q => (bI_0.mp q) g3) ?_
  refine g_aload_n (i := 0) h dX4_left_25 rfl rfl (pc' := 26) rfl ?_
  refine g_callV0 (q0 := 0) h dX4_left_26 cf_X4_91 (M_X4_clear  (by omega) hclr) rfl rfl rfl rfl (by decide) rfl (Nat.le_of_ble_eq_true rfl) (pc' := 29) rfl ?_
  refine g_aload_n (i := 0) h dX4_left_29 rfl rfl (pc' := 30) rfl ?_
  refine gf_X4_21 h dX4_left_30 (pc' := 33) rfl ?_
  refine g_iload_n (i := 1) h dX4_left_33 rfl rfl (pc' := 34) rfl ?_
  refine al_13 (j := i) h dX4_left_34 rfl (by omega) (pc' := 35) rfl ?_
  refine g_if_leF (tg := 42) h dX4_left_35 (by decide) (pc' := 38) rfl g5 ?_
  refine g_lconst (v := 0) h dX4_left_38 (by decide) (pc' := 39) rfl ?_
  refine g_goto (pc' := 59) h dX4_left_39 (by decide) ?_
  refine g_aload_n (i := 0) h dX4_left_59 rfl rfl (pc' := 60) rfl ?_
  refine gf_X4_75 h dX4_left_60 (pc' := 63) rfl ?_
  refine g_iload_n (i := 2) h dX4_left_63 rfl rfl (pc' := 64) rfl ?_
  refine g_callS1 h dX4_left_64 cf_X4_98 (M_X4_part (a := 0) (b := s9.2.2.1) (p := part) hgcd hg0) rfl (by decide) rfl (Nat.le_of_ble_eq_true rfl) (pc' := 67) rfl ?_
  exact g_lret h hr dX4_left_67 rfl rfl
set_option maxRecDepth 20000 in
set_option maxHeartbeats 4000000 in
theorem R_left {Z : ZT} {m : Nat} {toll : Int32} {paid : Int64} {cash : Nat → Int64} {debts : Nat → Int32} {fallen : Nat → Int32} {rounds : Int32} {shares : Nat → Int64} {under : Int64} {table : Nat → Int64} {right : Nat → Int64} {tried : Nat → Int64} {falls : Nat → Int32} {rsize : Int32} {ringOf : Nat → Int32} {row : Nat → Int32} {found : Int32} {hh : Int64} {i : Nat} {part : Int32} {K : Nat} {s9 : rT} {K2 : Nat} {g : Int64} (g0 : i < m) (g1 : m ≤ 4) (g2 : 1 ≤ m) (g3 : ¬ part < nI 0 ∧ ¬ nI 1 < part) (g4 : clr m toll cash debts K (rslv m toll cash debts (zf fallen 4, shares, under, table, right, tried, falls, nI 0)) = some s9) (g5 : s9.1 i ≤ 0) (g6 : cmn K2 (gR cash s9.2.2.1 s9.2.1 debts i m - (oR debts m i).toInt64 * s9.2.2.1) s9.2.2.1 = some g) (g7 : ¬ g = 0) : MM Z yX4_left cX4_left 3 (some .long) 4 [.ref (Z.2.2 10), .int (nI i), .int part] (wR Z (nI m) toll paid cash debts fallen rounds shares under table right tried falls rsize ringOf row found hh) (some (.long (if part = 0 then (gR cash s9.2.2.1 s9.2.1 debts i m - (oR debts m i).toInt64 * s9.2.2.1) / g else s9.2.2.1 / g))) (wR Z (nI m) toll paid cash debts s9.1 s9.2.2.2.2.2.2.2 s9.2.1 s9.2.2.1 s9.2.2.2.1 s9.2.2.2.2.1 s9.2.2.2.2.2.1 s9.2.2.2.2.2.2.1 rsize ringOf row found hh) := by
  refine MM.intro (by decide) [some (.ref (Z.2.2 10)), some (.int (nI i)), some (.int part)] rfl (Nat.le_of_ble_eq_true rfl) (fun X (h : OK Z X cX4_left RX4 3 (rmd 4)) hr => ?_)
  have hclr := g4
  have hgcd := g6
  have hg0 := g7
  refine g_aload_n (i := 0) h dX4_left_0 rfl rfl (pc' := 1) rfl ?_
  refine g_iload_n (i := 1) h dX4_left_1 rfl rfl (pc' := 2) rfl ?_
  refine g_callV1 (q0 := 0) h dX4_left_2 cf_X4_57 (M_X4_isHouse (i := nI i) (by omega)) rfl rfl rfl rfl (by decide) rfl (Nat.le_of_ble_eq_true rfl) (pc' := 5) rfl ?_
  refine g_if_neT (tg := 12) h dX4_left_5 (by decide) (fun q => (bI_0.mp q) (rsO g0 g1)) ?_
  refine g_iload_n (i := 2) h dX4_left_12 rfl rfl (pc' := 13) rfl ?_
  refine g_iconst (v := nI 0) h dX4_left_13 (by decide) (pc' := 14) rfl ?_
  refine g_iconst (v := nI 1) h dX4_left_14 (by decide) (pc' := 15) rfl ?_
  refine g_callS1 h dX4_left_15 cf_X4_46 (M_X4_in (v := part) (lo := nI 0) (hi := nI 1) ) rfl (by decide) rfl (Nat.le_of_ble_eq_true rfl) (pc' := 18) rfl ?_
  refine g_if_neT (tg := 25) h dX4_left_18 (by decide) (fun q => (bI_0.mp q) g3) ?_
  refine g_aload_n (i := 0) h dX4_left_25 rfl rfl (pc' := 26) rfl ?_
  refine g_callV0 (q0 := 0) h dX4_left_26 cf_X4_91 (M_X4_clear  (by omega) hclr) rfl rfl rfl rfl (by decide) rfl (Nat.le_of_ble_eq_true rfl) (pc' := 29) rfl ?_
  refine g_aload_n (i := 0) h dX4_left_29 rfl rfl (pc' := 30) rfl ?_
  refine gf_X4_21 h dX4_left_30 (pc' := 33) rfl ?_
  refine g_iload_n (i := 1) h dX4_left_33 rfl rfl (pc' := 34) rfl ?_
  refine al_13 (j := i) h dX4_left_34 rfl (by omega) (pc' := 35) rfl ?_
  refine g_if_leT (tg := 42) h dX4_left_35 (by decide) g5 ?_
  refine g_aload_n (i := 0) h dX4_left_42 rfl rfl (pc' := 43) rfl ?_
  refine g_iload_n (i := 1) h dX4_left_43 rfl rfl (pc' := 44) rfl ?_
  refine g_callV1 (q0 := 0) h dX4_left_44 cf_X4_84 (M_X4_grossOf (i := i) (by omega) (by omega)) rfl rfl rfl rfl (by decide) rfl (Nat.le_of_ble_eq_true rfl) (pc' := 47) rfl ?_
  refine g_aload_n (i := 0) h dX4_left_47 rfl rfl (pc' := 48) rfl ?_
  refine g_iload_n (i := 1) h dX4_left_48 rfl rfl (pc' := 49) rfl ?_
  refine g_callV1 (q0 := 0) h dX4_left_49 cf_X4_61 (M_X4_owesOf (i := i) (by omega) (by omega)) rfl rfl rfl rfl (by decide) rfl (Nat.le_of_ble_eq_true rfl) (pc' := 52) rfl ?_
  refine g_i2l h dX4_left_52 (pc' := 53) rfl ?_
  refine g_aload_n (i := 0) h dX4_left_53 rfl rfl (pc' := 54) rfl ?_
  refine gf_X4_75 h dX4_left_54 (pc' := 57) rfl ?_
  refine g_lmul h dX4_left_57 (pc' := 58) rfl ?_
  refine g_lsub h dX4_left_58 (pc' := 59) rfl ?_
  refine g_aload_n (i := 0) h dX4_left_59 rfl rfl (pc' := 60) rfl ?_
  refine gf_X4_75 h dX4_left_60 (pc' := 63) rfl ?_
  refine g_iload_n (i := 2) h dX4_left_63 rfl rfl (pc' := 64) rfl ?_
  refine g_callS1 h dX4_left_64 cf_X4_98 (M_X4_part (a := (gR cash s9.2.2.1 s9.2.1 debts i m) - (((oR debts m i).toInt64) * s9.2.2.1)) (b := s9.2.2.1) (p := part) hgcd hg0) rfl (by decide) rfl (Nat.le_of_ble_eq_true rfl) (pc' := 67) rfl ?_
  exact g_lret h hr dX4_left_67 rfl rfl
set_option maxRecDepth 20000 in
set_option maxHeartbeats 4000000 in
theorem R_pays_U {Z : ZT} {m : Nat} {toll : Int32} {paid : Int64} {cash : Nat → Int64} {debts : Nat → Int32} {fallen : Nat → Int32} {rounds : Int32} {shares : Nat → Int64} {under : Int64} {table : Nat → Int64} {right : Nat → Int64} {tried : Nat → Int64} {falls : Nat → Int32} {rsize : Int32} {ringOf : Nat → Int32} {row : Nat → Int32} {found : Int32} {hh : Int64} {i : Int32} {j : Int32} {part : Int32}  (g0 : 1 ≤ m) (g1 : ¬ (¬ i < nI 0 ∧ ¬ nI (m - 1) < i)) : MM Z yX4_pays cX4_pays 4 (some .long) 4 [.ref (Z.2.2 10), .int i, .int j, .int part] (wR Z (nI m) toll paid cash debts fallen rounds shares under table right tried falls rsize ringOf row found hh) (some (.long (-101))) (wR Z (nI m) toll paid cash debts fallen rounds shares under table right tried falls rsize ringOf row found hh) := by
  refine MM.intro (by decide) [some (.ref (Z.2.2 10)), some (.int i), some (.int j), some (.int part)] rfl (Nat.le_of_ble_eq_true rfl) (fun X (h : OK Z X cX4_pays RX4 4 (rmd 4)) hr => ?_)
  refine g_aload_n (i := 0) h dX4_pays_0 rfl rfl (pc' := 1) rfl ?_
  refine g_iload_n (i := 1) h dX4_pays_1 rfl rfl (pc' := 2) rfl ?_
  refine g_callV1 (q0 := 0) h dX4_pays_2 cf_X4_57 (M_X4_isHouse (i := i) (by omega)) rfl rfl rfl rfl (by decide) rfl (Nat.le_of_ble_eq_true rfl) (pc' := 5) rfl ?_
  refine g_if_eqT (tg := 20) h dX4_pays_5 (by decide) (bI_n g1) ?_
  refine g_ldc2 h dX4_pays_20 co_X4_94 (pc' := 23) rfl ?_
  exact g_lret h hr dX4_pays_23 rfl rfl
set_option maxRecDepth 20000 in
set_option maxHeartbeats 4000000 in
theorem R_pays_UP {Z : ZT} {m : Nat} {toll : Int32} {paid : Int64} {cash : Nat → Int64} {debts : Nat → Int32} {fallen : Nat → Int32} {rounds : Int32} {shares : Nat → Int64} {under : Int64} {table : Nat → Int64} {right : Nat → Int64} {tried : Nat → Int64} {falls : Nat → Int32} {rsize : Int32} {ringOf : Nat → Int32} {row : Nat → Int32} {found : Int32} {hh : Int64} {i : Nat} {j : Int32} {part : Int32}  (g0 : i < m) (g1 : m ≤ 4) (g2 : 1 ≤ m) (g3 : ¬ (¬ j < nI 0 ∧ ¬ nI m < j)) : MM Z yX4_pays cX4_pays 4 (some .long) 4 [.ref (Z.2.2 10), .int (nI i), .int j, .int part] (wR Z (nI m) toll paid cash debts fallen rounds shares under table right tried falls rsize ringOf row found hh) (some (.long (-101))) (wR Z (nI m) toll paid cash debts fallen rounds shares under table right tried falls rsize ringOf row found hh) := by
  refine MM.intro (by decide) [some (.ref (Z.2.2 10)), some (.int (nI i)), some (.int j), some (.int part)] rfl (Nat.le_of_ble_eq_true rfl) (fun X (h : OK Z X cX4_pays RX4 4 (rmd 4)) hr => ?_)
  refine g_aload_n (i := 0) h dX4_pays_0 rfl rfl (pc' := 1) rfl ?_
  refine g_iload_n (i := 1) h dX4_pays_1 rfl rfl (pc' := 2) rfl ?_
  refine g_callV1 (q0 := 0) h dX4_pays_2 cf_X4_57 (M_X4_isHouse (i := nI i) (by omega)) rfl rfl rfl rfl (by decide) rfl (Nat.le_of_ble_eq_true rfl) (pc' := 5) rfl ?_
  refine g_if_eqF (tg := 20) h dX4_pays_5 (by decide) (pc' := 8) rfl (fun q => (bI_0.mp q) (rsO g0 g1)) ?_
  refine g_iload_n (i := 2) h dX4_pays_8 rfl rfl (pc' := 9) rfl ?_
  refine g_iconst (v := nI 0) h dX4_pays_9 (by decide) (pc' := 10) rfl ?_
  refine g_aload_n (i := 0) h dX4_pays_10 rfl rfl (pc' := 11) rfl ?_
  refine gf_X4_7 h dX4_pays_11 (pc' := 14) rfl ?_
  refine g_callS1 h dX4_pays_14 cf_X4_46 (M_X4_in (v := j) (lo := nI 0) (hi := nI m) ) rfl (by decide) rfl (Nat.le_of_ble_eq_true rfl) (pc' := 17) rfl ?_
  refine g_if_neF (tg := 24) h dX4_pays_17 (by decide) (pc' := 20) rfl (bI_n g3) ?_
  refine g_ldc2 h dX4_pays_20 co_X4_94 (pc' := 23) rfl ?_
  exact g_lret h hr dX4_pays_23 rfl rfl
set_option maxRecDepth 20000 in
set_option maxHeartbeats 4000000 in
theorem R_pays_O {Z : ZT} {m : Nat} {toll : Int32} {paid : Int64} {cash : Nat → Int64} {debts : Nat → Int32} {fallen : Nat → Int32} {rounds : Int32} {shares : Nat → Int64} {under : Int64} {table : Nat → Int64} {right : Nat → Int64} {tried : Nat → Int64} {falls : Nat → Int32} {rsize : Int32} {ringOf : Nat → Int32} {row : Nat → Int32} {found : Int32} {hh : Int64} {i : Nat} {j : Nat} {part : Int32}  (g0 : i < m) (g1 : m ≤ 4) (g2 : 1 ≤ m) (g3 : j ≤ m) (g4 : ¬ (¬ part < nI 0 ∧ ¬ nI 1 < part)) : MM Z yX4_pays cX4_pays 4 (some .long) 4 [.ref (Z.2.2 10), .int (nI i), .int (nI j), .int part] (wR Z (nI m) toll paid cash debts fallen rounds shares under table right tried falls rsize ringOf row found hh) (some (.long (-102))) (wR Z (nI m) toll paid cash debts fallen rounds shares under table right tried falls rsize ringOf row found hh) := by
  refine MM.intro (by decide) [some (.ref (Z.2.2 10)), some (.int (nI i)), some (.int (nI j)), some (.int part)] rfl (Nat.le_of_ble_eq_true rfl) (fun X (h : OK Z X cX4_pays RX4 4 (rmd 4)) hr => ?_)
  refine g_aload_n (i := 0) h dX4_pays_0 rfl rfl (pc' := 1) rfl ?_
  refine g_iload_n (i := 1) h dX4_pays_1 rfl rfl (pc' := 2) rfl ?_
  refine g_callV1 (q0 := 0) h dX4_pays_2 cf_X4_57 (M_X4_isHouse (i := nI i) (by omega)) rfl rfl rfl rfl (by decide) rfl (Nat.le_of_ble_eq_true rfl) (pc' := 5) rfl ?_
  refine g_if_eqF (tg := 20) h dX4_pays_5 (by decide) (pc' := 8) rfl (fun q => (bI_0.mp q) (rsO g0 g1)) ?_
  refine g_iload_n (i := 2) h dX4_pays_8 rfl rfl (pc' := 9) rfl ?_
  refine g_iconst (v := nI 0) h dX4_pays_9 (by decide) (pc' := 10) rfl ?_
  refine g_aload_n (i := 0) h dX4_pays_10 rfl rfl (pc' := 11) rfl ?_
  refine gf_X4_7 h dX4_pays_11 (pc' := 14) rfl ?_
  refine g_callS1 h dX4_pays_14 cf_X4_46 (M_X4_in (v := nI j) (lo := nI 0) (hi := nI m) ) rfl (by decide) rfl (Nat.le_of_ble_eq_true rfl) (pc' := 17) rfl ?_
  refine g_if_neT (tg := 24) h dX4_pays_17 (by decide) (fun q => (bI_0.mp q) (rpO g3 g1)) ?_
  refine g_iload_n (i := 3) h dX4_pays_24 rfl rfl (pc' := 25) rfl ?_
  refine g_iconst (v := nI 0) h dX4_pays_25 (by decide) (pc' := 26) rfl ?_
  refine g_iconst (v := nI 1) h dX4_pays_26 (by decide) (pc' := 27) rfl ?_
  refine g_callS1 h dX4_pays_27 cf_X4_46 (M_X4_in (v := part) (lo := nI 0) (hi := nI 1) ) rfl (by decide) rfl (Nat.le_of_ble_eq_true rfl) (pc' := 30) rfl ?_
  refine g_if_neF (tg := 37) h dX4_pays_30 (by decide) (pc' := 33) rfl (bI_n g4) ?_
  refine g_ldc2 h dX4_pays_33 co_X4_96 (pc' := 36) rfl ?_
  exact g_lret h hr dX4_pays_36 rfl rfl
set_option maxRecDepth 20000 in
set_option maxHeartbeats 4000000 in
theorem R_pays {Z : ZT} {m : Nat} {toll : Int32} {paid : Int64} {cash : Nat → Int64} {debts : Nat → Int32} {fallen : Nat → Int32} {rounds : Int32} {shares : Nat → Int64} {under : Int64} {table : Nat → Int64} {right : Nat → Int64} {tried : Nat → Int64} {falls : Nat → Int32} {rsize : Int32} {ringOf : Nat → Int32} {row : Nat → Int32} {found : Int32} {hh : Int64} {i : Nat} {j : Nat} {part : Int32} {K : Nat} {s9 : rT} {K2 : Nat} {g : Int64} (g0 : i < m) (g1 : m ≤ 4) (g2 : 1 ≤ m) (g3 : j ≤ m) (g4 : ¬ part < nI 0 ∧ ¬ nI 1 < part) (g5 : clr m toll cash debts K (rslv m toll cash debts (zf fallen 4, shares, under, table, right, tried, falls, nI 0)) = some s9) (g6 : cmn K2 (s9.2.1 i * (debts (5 * i + j)).toInt64) s9.2.2.1 = some g) (g7 : ¬ g = 0) : MM Z yX4_pays cX4_pays 4 (some .long) 4 [.ref (Z.2.2 10), .int (nI i), .int (nI j), .int part] (wR Z (nI m) toll paid cash debts fallen rounds shares under table right tried falls rsize ringOf row found hh) (some (.long (if part = 0 then (s9.2.1 i * (debts (5 * i + j)).toInt64) / g else s9.2.2.1 / g))) (wR Z (nI m) toll paid cash debts s9.1 s9.2.2.2.2.2.2.2 s9.2.1 s9.2.2.1 s9.2.2.2.1 s9.2.2.2.2.1 s9.2.2.2.2.2.1 s9.2.2.2.2.2.2.1 rsize ringOf row found hh) := by
  refine MM.intro (by decide) [some (.ref (Z.2.2 10)), some (.int (nI i)), some (.int (nI j)), some (.int part)] rfl (Nat.le_of_ble_eq_true rfl) (fun X (h : OK Z X cX4_pays RX4 4 (rmd 4)) hr => ?_)
  have hclr := g5
  have hgcd := g6
  have hg0 := g7
  refine g_aload_n (i := 0) h dX4_pays_0 rfl rfl (pc' := 1) rfl ?_
  refine g_iload_n (i := 1) h dX4_pays_1 rfl rfl (pc' := 2) rfl ?_
  refine g_callV1 (q0 := 0) h dX4_pays_2 cf_X4_57 (M_X4_isHouse (i := nI i) (by omega)) rfl rfl rfl rfl (by decide) rfl (Nat.le_of_ble_eq_true rfl) (pc' := 5) rfl ?_
  refine g_if_eqF (tg := 20) h dX4_pays_5 (by decide) (pc' := 8) rfl (fun q => (bI_0.mp q) (rsO g0 g1)) ?_
  refine g_iload_n (i := 2) h dX4_pays_8 rfl rfl (pc' := 9) rfl ?_
  refine g_iconst (v := nI 0) h dX4_pays_9 (by decide) (pc' := 10) rfl ?_
  refine g_aload_n (i := 0) h dX4_pays_10 rfl rfl (pc' := 11) rfl ?_
  refine gf_X4_7 h dX4_pays_11 (pc' := 14) rfl ?_
  refine g_callS1 h dX4_pays_14 cf_X4_46 (M_X4_in (v := nI j) (lo := nI 0) (hi := nI m) ) rfl (by decide) rfl (Nat.le_of_ble_eq_true rfl) (pc' := 17) rfl ?_
  refine g_if_neT (tg := 24) h dX4_pays_17 (by decide) (fun q => (bI_0.mp q) (rpO g3 g1)) ?_
  refine g_iload_n (i := 3) h dX4_pays_24 rfl rfl (pc' := 25) rfl ?_
  refine g_iconst (v := nI 0) h dX4_pays_25 (by decide) (pc' := 26) rfl ?_
  refine g_iconst (v := nI 1) h dX4_pays_26 (by decide) (pc' := 27) rfl ?_
  refine g_callS1 h dX4_pays_27 cf_X4_46 (M_X4_in (v := part) (lo := nI 0) (hi := nI 1) ) rfl (by decide) rfl (Nat.le_of_ble_eq_true rfl) (pc' := 30) rfl ?_
  refine g_if_neT (tg := 37) h dX4_pays_30 (by decide) (fun q => (bI_0.mp q) g4) ?_
  refine g_aload_n (i := 0) h dX4_pays_37 rfl rfl (pc' := 38) rfl ?_
  refine g_callV0 (q0 := 0) h dX4_pays_38 cf_X4_91 (M_X4_clear  (by omega) hclr) rfl rfl rfl rfl (by decide) rfl (Nat.le_of_ble_eq_true rfl) (pc' := 41) rfl ?_
  refine g_aload_n (i := 0) h dX4_pays_41 rfl rfl (pc' := 42) rfl ?_
  refine gf_X4_24 h dX4_pays_42 (pc' := 45) rfl ?_
  refine g_iload_n (i := 1) h dX4_pays_45 rfl rfl (pc' := 46) rfl ?_
  refine al_14 (j := i) h dX4_pays_46 rfl (by omega) (pc' := 47) rfl ?_
  refine g_aload_n (i := 0) h dX4_pays_47 rfl rfl (pc' := 48) rfl ?_
  refine gf_X4_17 h dX4_pays_48 (pc' := 51) rfl ?_
  refine g_iconst (v := nI 5) h dX4_pays_51 (by decide) (pc' := 52) rfl ?_
  refine g_iload_n (i := 1) h dX4_pays_52 rfl rfl (pc' := 53) rfl ?_
  refine g_imulN h dX4_pays_53 (pc' := 54) rfl ?_
  refine g_iload_n (i := 2) h dX4_pays_54 rfl rfl (pc' := 55) rfl ?_
  refine g_iaddN h dX4_pays_55 (pc' := 56) rfl ?_
  refine al_12 (j := (5 * i) + j) h dX4_pays_56 rfl (by omega) (pc' := 57) rfl ?_
  refine g_i2l h dX4_pays_57 (pc' := 58) rfl ?_
  refine g_lmul h dX4_pays_58 (pc' := 59) rfl ?_
  refine g_aload_n (i := 0) h dX4_pays_59 rfl rfl (pc' := 60) rfl ?_
  refine gf_X4_75 h dX4_pays_60 (pc' := 63) rfl ?_
  refine g_iload_n (i := 3) h dX4_pays_63 rfl rfl (pc' := 64) rfl ?_
  refine g_callS1 h dX4_pays_64 cf_X4_98 (M_X4_part (a := (s9.2.1 i) * ((debts ((5 * i) + j)).toInt64)) (b := s9.2.2.1) (p := part) hgcd hg0) rfl (by decide) rfl (Nat.le_of_ble_eq_true rfl) (pc' := 67) rfl ?_
  exact g_lret h hr dX4_pays_67 rfl rfl
set_option maxRecDepth 20000 in
set_option maxHeartbeats 4000000 in
theorem R_lost_O {Z : ZT} {m : Nat} {toll : Int32} {paid : Int64} {cash : Nat → Int64} {debts : Nat → Int32} {fallen : Nat → Int32} {rounds : Int32} {shares : Nat → Int64} {under : Int64} {table : Nat → Int64} {right : Nat → Int64} {tried : Nat → Int64} {falls : Nat → Int32} {rsize : Int32} {ringOf : Nat → Int32} {row : Nat → Int32} {found : Int32} {hh : Int64} {part : Int32}  (g0 : ¬ (¬ part < nI 0 ∧ ¬ nI 1 < part)) : MM Z yX4_lost cX4_lost 5 (some .long) 4 [.ref (Z.2.2 10), .int part] (wR Z (nI m) toll paid cash debts fallen rounds shares under table right tried falls rsize ringOf row found hh) (some (.long (-102))) (wR Z (nI m) toll paid cash debts fallen rounds shares under table right tried falls rsize ringOf row found hh) := by
  refine MM.intro (by decide) [some (.ref (Z.2.2 10)), some (.int part), none, none, none] rfl (Nat.le_of_ble_eq_true rfl) (fun X (h : OK Z X cX4_lost RX4 5 (rmd 4)) hr => ?_)
  refine g_iload_n (i := 1) h dX4_lost_0 rfl rfl (pc' := 1) rfl ?_
  refine g_iconst (v := nI 0) h dX4_lost_1 (by decide) (pc' := 2) rfl ?_
  refine g_iconst (v := nI 1) h dX4_lost_2 (by decide) (pc' := 3) rfl ?_
  refine g_callS1 h dX4_lost_3 cf_X4_46 (M_X4_in (v := part) (lo := nI 0) (hi := nI 1) ) rfl (by decide) rfl (Nat.le_of_ble_eq_true rfl) (pc' := 6) rfl ?_
  refine g_if_neF (tg := 13) h dX4_lost_6 (by decide) (pc' := 9) rfl (bI_n g0) ?_
  refine g_ldc2 h dX4_lost_9 co_X4_96 (pc' := 12) rfl ?_
  exact g_lret h hr dX4_lost_12 rfl rfl
set_option maxRecDepth 20000 in
set_option maxHeartbeats 4000000 in
theorem R_lost {Z : ZT} {m : Nat} {toll : Int32} {paid : Int64} {cash : Nat → Int64} {debts : Nat → Int32} {fallen : Nat → Int32} {rounds : Int32} {shares : Nat → Int64} {under : Int64} {table : Nat → Int64} {right : Nat → Int64} {tried : Nat → Int64} {falls : Nat → Int32} {rsize : Int32} {ringOf : Nat → Int32} {row : Nat → Int32} {found : Int32} {hh : Int64} {part : Int32} {K : Nat} {s9 : rT} {K2 : Nat} {g : Int64} (g0 : m ≤ 4) (g1 : ¬ part < nI 0 ∧ ¬ nI 1 < part) (g2 : clr m toll cash debts K (rslv m toll cash debts (zf fallen 4, shares, under, table, right, tried, falls, nI 0)) = some s9) (g3 : cmn K2 (lR m cash s9.2.2.1 s9.2.1 debts s9.1 m * toll.toInt64) (s9.2.2.1 * 10) = some g) (g4 : ¬ g = 0) : MM Z yX4_lost cX4_lost 5 (some .long) 4 [.ref (Z.2.2 10), .int part] (wR Z (nI m) toll paid cash debts fallen rounds shares under table right tried falls rsize ringOf row found hh) (some (.long (if part = 0 then (lR m cash s9.2.2.1 s9.2.1 debts s9.1 m * toll.toInt64) / g else (s9.2.2.1 * 10) / g))) (wR Z (nI m) toll paid cash debts s9.1 s9.2.2.2.2.2.2.2 s9.2.1 s9.2.2.1 s9.2.2.2.1 s9.2.2.2.2.1 s9.2.2.2.2.2.1 s9.2.2.2.2.2.2.1 rsize ringOf row found hh) := by
  refine MM.intro (by decide) [some (.ref (Z.2.2 10)), some (.int part), none, none, none] rfl (Nat.le_of_ble_eq_true rfl) (fun X (h : OK Z X cX4_lost RX4 5 (rmd 4)) hr => ?_)
  have hclr := g2
  have hgcd := g3
  have hg0 := g4
  refine g_iload_n (i := 1) h dX4_lost_0 rfl rfl (pc' := 1) rfl ?_
  refine g_iconst (v := nI 0) h dX4_lost_1 (by decide) (pc' := 2) rfl ?_
  refine g_iconst (v := nI 1) h dX4_lost_2 (by decide) (pc' := 3) rfl ?_
  refine g_callS1 h dX4_lost_3 cf_X4_46 (M_X4_in (v := part) (lo := nI 0) (hi := nI 1) ) rfl (by decide) rfl (Nat.le_of_ble_eq_true rfl) (pc' := 6) rfl ?_
  refine g_if_neT (tg := 13) h dX4_lost_6 (by decide) (fun q => (bI_0.mp q) g1) ?_
  refine g_aload_n (i := 0) h dX4_lost_13 rfl rfl (pc' := 14) rfl ?_
  refine g_callV0 (q0 := 0) h dX4_lost_14 cf_X4_91 (M_X4_clear  (by omega) hclr) rfl rfl rfl rfl (by decide) rfl (Nat.le_of_ble_eq_true rfl) (pc' := 17) rfl ?_
  refine g_lconst (v := 0) h dX4_lost_17 (by decide) (pc' := 18) rfl ?_
  refine g_lstore2 h dX4_lost_18 rfl (by decide) (pc' := 19) rfl ?_
  refine g_iconst (v := nI 0) h dX4_lost_19 (by decide) (pc' := 20) rfl ?_
  refine g_istore4 h dX4_lost_20 rfl (by decide) (pc' := 22) rfl ?_
  refine GG.castW (lp (P := fun i => GG Z X 22 [some (.ref (Z.2.2 10)), some (.int part), some (.long (lR m cash s9.2.2.1 s9.2.1 debts s9.1 i)), none, some (.int (nI i))] [] (wR Z (nI m) toll paid cash debts s9.1 s9.2.2.2.2.2.2.2 s9.2.1 s9.2.2.1 s9.2.2.2.1 s9.2.2.2.2.1 s9.2.2.2.2.2.1 s9.2.2.2.2.2.2.1 rsize ringOf row found hh)) m ?_ ?_) ⟨rfl, rfl, rfl, rfl, trivial⟩ rfl rfl
  · skip
    refine g_iload h dX4_lost_22 rfl (pc' := 24) rfl ?_
    refine g_aload_n (i := 0) h dX4_lost_24 rfl rfl (pc' := 25) rfl ?_
    refine gf_X4_7 h dX4_lost_25 (pc' := 28) rfl ?_
    refine g_icmp_geT (tg := 60) h dX4_lost_28 (by decide) (Int32.le_refl _) ?_
    refine g_lload_n (i := 2) h dX4_lost_60 rfl rfl (pc' := 61) rfl ?_
    refine g_aload_n (i := 0) h dX4_lost_61 rfl rfl (pc' := 62) rfl ?_
    refine gf_X4_50 h dX4_lost_62 (pc' := 65) rfl ?_
    refine g_i2l h dX4_lost_65 (pc' := 66) rfl ?_
    refine g_lmul h dX4_lost_66 (pc' := 67) rfl ?_
    refine g_aload_n (i := 0) h dX4_lost_67 rfl rfl (pc' := 68) rfl ?_
    refine gf_X4_75 h dX4_lost_68 (pc' := 71) rfl ?_
    refine g_ldc2 h dX4_lost_71 co_X4_69 (pc' := 74) rfl ?_
    refine g_lmul h dX4_lost_74 (pc' := 75) rfl ?_
    refine g_iload_n (i := 1) h dX4_lost_75 rfl rfl (pc' := 76) rfl ?_
    refine g_callS1 h dX4_lost_76 cf_X4_98 (M_X4_part (a := (lR m cash s9.2.2.1 s9.2.1 debts s9.1 m) * toll.toInt64) (b := s9.2.2.1 * (10)) (p := part) hgcd hg0) rfl (by decide) rfl (Nat.le_of_ble_eq_true rfl) (pc' := 79) rfl ?_
    exact g_lret h hr dX4_lost_79 rfl rfl
  · intro i hi ih22
    refine g_iload h dX4_lost_22 rfl (pc' := 24) rfl ?_
    refine g_aload_n (i := 0) h dX4_lost_24 rfl rfl (pc' := 25) rfl ?_
    refine gf_X4_7 h dX4_lost_25 (pc' := 28) rfl ?_
    refine g_icmp_geF (tg := 60) h dX4_lost_28 (by decide) (pc' := 31) rfl (nI_ge hi (by omega)) ?_
    refine g_lload_n (i := 2) h dX4_lost_31 rfl rfl (pc' := 32) rfl ?_
    refine g_aload_n (i := 0) h dX4_lost_32 rfl rfl (pc' := 33) rfl ?_
    refine gf_X4_21 h dX4_lost_33 (pc' := 36) rfl ?_
    refine g_iload h dX4_lost_36 rfl (pc' := 38) rfl ?_
    refine al_13 (j := i) h dX4_lost_38 rfl (by omega) (pc' := 39) rfl ?_
    refine g_if_le (tg := 51) h dX4_lost_39 (by decide) (pc' := 42) rfl (fun c1 => ?_) (fun c1 => ?_)
    · skip
      refine g_lconst (v := 0) h dX4_lost_51 (by decide) (pc' := 52) rfl ?_
      refine g_ladd h dX4_lost_52 (pc' := 53) rfl ?_
      refine g_lstore2 h dX4_lost_53 rfl (by decide) (pc' := 54) rfl ?_
      refine g_iinc4 (v := nI (i + 1)) h dX4_lost_54 rfl (inc1 i) (by decide) (pc' := 57) rfl ?_
      refine g_goto (pc' := 22) h dX4_lost_57 (by decide) ?_
      exact GG.castW ih22 ⟨rfl, rfl, (by simp only [List.head?_cons, List.tail_cons, lR, if_pos c1]), rfl, trivial⟩ rfl rfl
    · skip
      refine g_aload_n (i := 0) h dX4_lost_42 rfl rfl (pc' := 43) rfl ?_
      refine g_iload h dX4_lost_43 rfl (pc' := 45) rfl ?_
      refine g_callV1 (q0 := 0) h dX4_lost_45 cf_X4_84 (M_X4_grossOf (i := i) (by omega) (by omega)) rfl rfl rfl rfl (by decide) rfl (Nat.le_of_ble_eq_true rfl) (pc' := 48) rfl ?_
      refine g_goto (pc' := 52) h dX4_lost_48 (by decide) ?_
      refine g_ladd h dX4_lost_52 (pc' := 53) rfl ?_
      refine g_lstore2 h dX4_lost_53 rfl (by decide) (pc' := 54) rfl ?_
      refine g_iinc4 (v := nI (i + 1)) h dX4_lost_54 rfl (inc1 i) (by decide) (pc' := 57) rfl ?_
      refine g_goto (pc' := 22) h dX4_lost_57 (by decide) ?_
      exact GG.castW ih22 ⟨rfl, rfl, (by simp only [List.head?_cons, List.tail_cons, lR, if_neg c1]), rfl, trivial⟩ rfl rfl
set_option maxRecDepth 20000 in
set_option maxHeartbeats 4000000 in
theorem R_drag_U {Z : ZT} {m : Nat} {toll : Int32} {paid : Int64} {cash : Nat → Int64} {debts : Nat → Int32} {fallen : Nat → Int32} {rounds : Int32} {shares : Nat → Int64} {under : Int64} {table : Nat → Int64} {right : Nat → Int64} {tried : Nat → Int64} {falls : Nat → Int32} {rsize : Int32} {ringOf : Nat → Int32} {row : Nat → Int32} {found : Int32} {hh : Int64} {i : Int32}  (g0 : 1 ≤ m) (g1 : ¬ (¬ i < nI 0 ∧ ¬ nI (m - 1) < i)) : MM Z yX4_drag cX4_drag 6 (some .int) 4 [.ref (Z.2.2 10), .int i] (wR Z (nI m) toll paid cash debts fallen rounds shares under table right tried falls rsize ringOf row found hh) (some (.int (-101))) (wR Z (nI m) toll paid cash debts fallen rounds shares under table right tried falls rsize ringOf row found hh) := by
  refine MM.intro (by decide) [some (.ref (Z.2.2 10)), some (.int i), none, none, none, none] rfl (Nat.le_of_ble_eq_true rfl) (fun X (h : OK Z X cX4_drag RX4 6 (rmd 4)) hr => ?_)
  refine g_aload_n (i := 0) h dX4_drag_0 rfl rfl (pc' := 1) rfl ?_
  refine g_iload_n (i := 1) h dX4_drag_1 rfl rfl (pc' := 2) rfl ?_
  refine g_callV1 (q0 := 0) h dX4_drag_2 cf_X4_57 (M_X4_isHouse (i := i) (by omega)) rfl rfl rfl rfl (by decide) rfl (Nat.le_of_ble_eq_true rfl) (pc' := 5) rfl ?_
  refine g_if_neF (tg := 11) h dX4_drag_5 (by decide) (pc' := 8) rfl (bI_n g1) ?_
  refine g_bipush (v := (-101)) h dX4_drag_8 (by decide) (pc' := 10) rfl ?_
  exact g_iret h hr dX4_drag_10 rfl rfl
set_option maxRecDepth 20000 in
set_option maxHeartbeats 4000000 in
theorem R_drag {Z : ZT} {m : Nat} {toll : Int32} {paid : Int64} {cash : Nat → Int64} {debts : Nat → Int32} {fallen : Nat → Int32} {rounds : Int32} {shares : Nat → Int64} {under : Int64} {table : Nat → Int64} {right : Nat → Int64} {tried : Nat → Int64} {falls : Nat → Int32} {rsize : Int32} {ringOf : Nat → Int32} {row : Nat → Int32} {found : Int32} {hh : Int64} {i : Nat} {K : Nat} {s9 : rT} (g0 : i < m) (g1 : m ≤ 4) (g2 : 1 ≤ m) (g3 : clr m toll (vp_updL cash i 0) debts K (rslv m toll (vp_updL cash i 0) debts (zf fallen 4, shares, under, table, right, tried, falls, nI 0)) = some s9) : MM Z yX4_drag cX4_drag 6 (some .int) 4 [.ref (Z.2.2 10), .int (nI i)] (wR Z (nI m) toll paid cash debts fallen rounds shares under table right tried falls rsize ringOf row found hh) (some (.int (nI (fcR s9.1 m)))) (wR Z (nI m) toll paid (vp_updL (vp_updL cash i 0) i (cash i)) debts s9.1 s9.2.2.2.2.2.2.2 s9.2.1 s9.2.2.1 s9.2.2.2.1 s9.2.2.2.2.1 s9.2.2.2.2.2.1 s9.2.2.2.2.2.2.1 rsize ringOf row found hh) := by
  refine MM.intro (by decide) [some (.ref (Z.2.2 10)), some (.int (nI i)), none, none, none, none] rfl (Nat.le_of_ble_eq_true rfl) (fun X (h : OK Z X cX4_drag RX4 6 (rmd 4)) hr => ?_)
  have hclr := g3
  refine g_aload_n (i := 0) h dX4_drag_0 rfl rfl (pc' := 1) rfl ?_
  refine g_iload_n (i := 1) h dX4_drag_1 rfl rfl (pc' := 2) rfl ?_
  refine g_callV1 (q0 := 0) h dX4_drag_2 cf_X4_57 (M_X4_isHouse (i := nI i) (by omega)) rfl rfl rfl rfl (by decide) rfl (Nat.le_of_ble_eq_true rfl) (pc' := 5) rfl ?_
  refine g_if_neT (tg := 11) h dX4_drag_5 (by decide) (fun q => (bI_0.mp q) (rsO g0 g1)) ?_
  refine g_aload_n (i := 0) h dX4_drag_11 rfl rfl (pc' := 12) rfl ?_
  refine gf_X4_13 h dX4_drag_12 (pc' := 15) rfl ?_
  refine g_iload_n (i := 1) h dX4_drag_15 rfl rfl (pc' := 16) rfl ?_
  refine al_11 (j := i) h dX4_drag_16 rfl (by omega) (pc' := 17) rfl ?_
  refine g_lstore2 h dX4_drag_17 rfl (by decide) (pc' := 18) rfl ?_
  refine g_aload_n (i := 0) h dX4_drag_18 rfl rfl (pc' := 19) rfl ?_
  refine gf_X4_13 h dX4_drag_19 (pc' := 22) rfl ?_
  refine g_iload_n (i := 1) h dX4_drag_22 rfl rfl (pc' := 23) rfl ?_
  refine g_lconst (v := 0) h dX4_drag_23 (by decide) (pc' := 24) rfl ?_
  refine as_11 (j := i) h dX4_drag_24 rfl (by omega) (pc' := 25) rfl ?_
  refine g_aload_n (i := 0) h dX4_drag_25 rfl rfl (pc' := 26) rfl ?_
  refine g_callV0 (q0 := 0) h dX4_drag_26 cf_X4_91 (M_X4_clear  (by omega) hclr) rfl rfl rfl rfl (by decide) rfl (Nat.le_of_ble_eq_true rfl) (pc' := 29) rfl ?_
  refine g_aload_n (i := 0) h dX4_drag_29 rfl rfl (pc' := 30) rfl ?_
  refine gf_X4_13 h dX4_drag_30 (pc' := 33) rfl ?_
  refine g_iload_n (i := 1) h dX4_drag_33 rfl rfl (pc' := 34) rfl ?_
  refine g_lload_n (i := 2) h dX4_drag_34 rfl rfl (pc' := 35) rfl ?_
  refine as_11 (j := i) h dX4_drag_35 rfl (by omega) (pc' := 36) rfl ?_
  refine g_iconst (v := nI 0) h dX4_drag_36 (by decide) (pc' := 37) rfl ?_
  refine g_istore4 h dX4_drag_37 rfl (by decide) (pc' := 39) rfl ?_
  refine g_iconst (v := nI 0) h dX4_drag_39 (by decide) (pc' := 40) rfl ?_
  refine g_istore5 h dX4_drag_40 rfl (by decide) (pc' := 42) rfl ?_
  refine GG.castW (lp (P := fun j => GG Z X 42 [some (.ref (Z.2.2 10)), some (.int (nI i)), some (.long (cash i)), none, some (.int (nI (fcR s9.1 j))), some (.int (nI j))] [] (wR Z (nI m) toll paid (vp_updL (vp_updL cash i 0) i (cash i)) debts s9.1 s9.2.2.2.2.2.2.2 s9.2.1 s9.2.2.1 s9.2.2.2.1 s9.2.2.2.2.1 s9.2.2.2.2.2.1 s9.2.2.2.2.2.2.1 rsize ringOf row found hh)) m ?_ ?_) ⟨rfl, rfl, rfl, rfl, rfl, trivial⟩ rfl rfl
  · skip
    refine g_iload h dX4_drag_42 rfl (pc' := 44) rfl ?_
    refine g_aload_n (i := 0) h dX4_drag_44 rfl rfl (pc' := 45) rfl ?_
    refine gf_X4_7 h dX4_drag_45 (pc' := 48) rfl ?_
    refine g_icmp_geT (tg := 77) h dX4_drag_48 (by decide) (Int32.le_refl _) ?_
    refine g_iload h dX4_drag_77 rfl (pc' := 79) rfl ?_
    exact g_iret h hr dX4_drag_79 rfl rfl
  · intro j hj ih42
    refine g_iload h dX4_drag_42 rfl (pc' := 44) rfl ?_
    refine g_aload_n (i := 0) h dX4_drag_44 rfl rfl (pc' := 45) rfl ?_
    refine gf_X4_7 h dX4_drag_45 (pc' := 48) rfl ?_
    refine g_icmp_geF (tg := 77) h dX4_drag_48 (by decide) (pc' := 51) rfl (nI_ge hj (by omega)) ?_
    refine g_iload h dX4_drag_51 rfl (pc' := 53) rfl ?_
    refine g_aload_n (i := 0) h dX4_drag_53 rfl rfl (pc' := 54) rfl ?_
    refine gf_X4_21 h dX4_drag_54 (pc' := 57) rfl ?_
    refine g_iload h dX4_drag_57 rfl (pc' := 59) rfl ?_
    refine al_13 (j := j) h dX4_drag_59 rfl (by omega) (pc' := 60) rfl ?_
    refine g_if_le (tg := 67) h dX4_drag_60 (by decide) (pc' := 63) rfl (fun c1 => ?_) (fun c1 => ?_)
    · skip
      refine g_iconst (v := nI 0) h dX4_drag_67 (by decide) (pc' := 68) rfl ?_
      refine g_iaddN h dX4_drag_68 (pc' := 69) rfl ?_
      refine g_istore4 h dX4_drag_69 rfl (by decide) (pc' := 71) rfl ?_
      refine g_iinc5 (v := nI (j + 1)) h dX4_drag_71 rfl (inc1 j) (by decide) (pc' := 74) rfl ?_
      refine g_goto (pc' := 42) h dX4_drag_74 (by decide) ?_
      exact GG.castW ih42 ⟨rfl, rfl, rfl, (by simp only [List.head?_cons, List.tail_cons, fcR, if_pos c1]), rfl, trivial⟩ rfl rfl
    · skip
      refine g_iconst (v := nI 1) h dX4_drag_63 (by decide) (pc' := 64) rfl ?_
      refine g_goto (pc' := 68) h dX4_drag_64 (by decide) ?_
      refine g_iaddN h dX4_drag_68 (pc' := 69) rfl ?_
      refine g_istore4 h dX4_drag_69 rfl (by decide) (pc' := 71) rfl ?_
      refine g_iinc5 (v := nI (j + 1)) h dX4_drag_71 rfl (inc1 j) (by decide) (pc' := 74) rfl ?_
      refine g_goto (pc' := 42) h dX4_drag_74 (by decide) ?_
      exact GG.castW ih42 ⟨rfl, rfl, rfl, (by simp only [List.head?_cons, List.tail_cons, fcR, if_neg c1]), rfl, trivial⟩ rfl rfl
set_option maxRecDepth 20000 in
set_option maxHeartbeats 4000000 in
theorem M_X4_helpOf {Z : ZT} {m : Nat} {toll : Int32} {paid : Int64} {cash : Nat → Int64} {debts : Nat → Int32} {fallen : Nat → Int32} {rounds : Int32} {shares : Nat → Int64} {under : Int64} {table : Nat → Int64} {right : Nat → Int64} {tried : Nat → Int64} {falls : Nat → Int32} {rsize : Int32} {ringOf : Nat → Int32} {row : Nat → Int32} {found : Int32} {hh : Int64} {i : Nat}  (g0 : i < 4) (g1 : m ≤ 4) : MM Z yX4_helpOf cX4_helpOf 9 (some .int) 1 [.ref (Z.2.2 10), .int (nI i)] (wR Z (nI m) toll paid cash debts fallen rounds shares under table right tried falls rsize ringOf row found hh) (some (.int (hv m cash debts i))) (wR Z (nI m) toll paid cash debts fallen rounds shares under table right tried falls rsize ringOf row found hh) := by
  refine MM.intro (by decide) [some (.ref (Z.2.2 10)), some (.int (nI i)), none, none, none, none, none, none, none] rfl (Nat.le_of_ble_eq_true rfl) (fun X (h : OK Z X cX4_helpOf RX4 9 (rmd 1)) hr => ?_)
  refine g_lconst (v := 0) h dX4_helpOf_0 (by decide) (pc' := 1) rfl ?_
  refine g_lstore2 h dX4_helpOf_1 rfl (by decide) (pc' := 2) rfl ?_
  refine g_iconst (v := nI 0) h dX4_helpOf_2 (by decide) (pc' := 3) rfl ?_
  refine g_istore4 h dX4_helpOf_3 rfl (by decide) (pc' := 5) rfl ?_
  have key5 : ∀ (k : Nat) (j : Nat) (l : Int64), (j + k = m) → (hv m cash debts i = hRR m cash debts i k j l) → GG Z X 5 [some (.ref (Z.2.2 10)), some (.int (nI i)), some (.long l), none, some (.int (nI j)), none, none, none, none] [] (wR Z (nI m) toll paid cash debts fallen rounds shares under table right tried falls rsize ringOf row found hh) := by
    intro k
    induction k with
    | zero =>
      intro j l e5_0 e5_1
      refine g_iload h dX4_helpOf_5 rfl (pc' := 7) rfl ?_
      refine g_aload_n (i := 0) h dX4_helpOf_7 rfl rfl (pc' := 8) rfl ?_
      refine gf_X4_7 h dX4_helpOf_8 (pc' := 11) rfl ?_
      refine g_icmp_geT (tg := 115) h dX4_helpOf_11 (by decide) (by rw [show j = m by omega]; exact Int32.le_refl _) ?_
      refine g_lload_n (i := 2) h dX4_helpOf_115 rfl rfl (pc' := 116) rfl ?_
      refine g_l2i h dX4_helpOf_116 (pc' := 117) rfl ?_
      exact g_iret h hr dX4_helpOf_117 (by rw [e5_1]; rfl) rfl
    | succ k ih5 =>
      intro j l e5_0 e5_1
      have hj : j < m := by omega
      refine g_iload h dX4_helpOf_5 rfl (pc' := 7) rfl ?_
      refine g_aload_n (i := 0) h dX4_helpOf_7 rfl rfl (pc' := 8) rfl ?_
      refine gf_X4_7 h dX4_helpOf_8 (pc' := 11) rfl ?_
      refine g_icmp_geF (tg := 115) h dX4_helpOf_11 (by decide) (pc' := 14) rfl (nI_ge hj (by omega)) ?_
      refine g_aload_n (i := 0) h dX4_helpOf_14 rfl rfl (pc' := 15) rfl ?_
      refine gf_X4_13 h dX4_helpOf_15 (pc' := 18) rfl ?_
      refine g_iload h dX4_helpOf_18 rfl (pc' := 20) rfl ?_
      refine al_11 (j := j) h dX4_helpOf_20 rfl (by omega) (pc' := 21) rfl ?_
      refine g_lstore5 h dX4_helpOf_21 rfl (by decide) (pc' := 23) rfl ?_
      refine g_iconst (v := nI 0) h dX4_helpOf_23 (by decide) (pc' := 24) rfl ?_
      refine g_istore7 h dX4_helpOf_24 rfl (by decide) (pc' := 26) rfl ?_
      refine GG.castW (lp (P := fun t => GG Z X 26 [some (.ref (Z.2.2 10)), some (.int (nI i)), some (.long l), none, some (.int (nI j)), some (.long (hs cash debts j t)), none, some (.int (nI t)), none] [] (wR Z (nI m) toll paid cash debts fallen rounds shares under table right tried falls rsize ringOf row found hh)) m ?_ ?_) ⟨rfl, rfl, rfl, rfl, rfl, rfl, trivial⟩ rfl rfl
      · skip
        refine g_iload h dX4_helpOf_26 rfl (pc' := 28) rfl ?_
        refine g_aload_n (i := 0) h dX4_helpOf_28 rfl rfl (pc' := 29) rfl ?_
        refine gf_X4_7 h dX4_helpOf_29 (pc' := 32) rfl ?_
        refine g_icmp_geT (tg := 59) h dX4_helpOf_32 (by decide) (Int32.le_refl _) ?_
        refine g_aload_n (i := 0) h dX4_helpOf_59 rfl rfl (pc' := 60) rfl ?_
        refine g_iload h dX4_helpOf_60 rfl (pc' := 62) rfl ?_
        refine g_callV1 (q0 := 0) h dX4_helpOf_62 cf_X4_61 (M_X4_owesOf (i := j) (by omega) (by omega)) rfl rfl rfl rfl (by decide) rfl (Nat.le_of_ble_eq_true rfl) (pc' := 65) rfl ?_
        refine g_i2l h dX4_helpOf_65 (pc' := 66) rfl ?_
        refine g_lload h dX4_helpOf_66 rfl (pc' := 68) rfl ?_
        refine g_lsub h dX4_helpOf_68 (pc' := 69) rfl ?_
        refine g_lstore7 h dX4_helpOf_69 rfl (by decide) (pc' := 71) rfl ?_
        refine g_lload h dX4_helpOf_71 rfl (pc' := 73) rfl ?_
        refine g_lconst (v := 0) h dX4_helpOf_73 (by decide) (pc' := 74) rfl ?_
        refine g_lcmp_le (pc1 := 75) (tg := 95) h dX4_helpOf_74 rfl dX4_helpOf_75 (by decide) (pc' := 78) rfl (fun c1 => ?_) (fun c1 => ?_)
        · skip
          refine g_lload h dX4_helpOf_95 rfl (pc' := 97) rfl ?_
          refine g_lconst (v := 0) h dX4_helpOf_97 (by decide) (pc' := 98) rfl ?_
          refine g_lcmp_le (pc1 := 99) (tg := 107) h dX4_helpOf_98 rfl dX4_helpOf_99 (by decide) (pc' := 102) rfl (fun cd => ?_) (fun cd => absurd c1 cd)
          refine g_lload_n (i := 2) h dX4_helpOf_107 rfl rfl (pc' := 108) rfl ?_
          refine g_lstore2 h dX4_helpOf_108 rfl (by decide) (pc' := 109) rfl ?_
          refine g_iinc4 (v := nI (j + 1)) h dX4_helpOf_109 rfl (inc1 j) (by decide) (pc' := 112) rfl ?_
          refine g_goto (pc' := 5) h dX4_helpOf_112 (by decide) ?_
          exact GG.castW (ih5 (j + 1) (l) (by omega) (by rw [e5_1, hRR, if_neg (show ¬ hbad m cash debts i j from fun q => by first | exact q.1 c1 | exact q.2.elim (fun z => z c2) (fun z => z c3)), if_pos (show hl m cash debts j ≤ 0 from c1)])) ⟨rfl, rfl, rfl, rfl, trivial⟩ rfl rfl
        · skip
          refine g_iload h dX4_helpOf_78 rfl (pc' := 80) rfl ?_
          refine g_iload_n (i := 1) h dX4_helpOf_80 rfl rfl (pc' := 81) rfl ?_
          refine g_icmp_ne (tg := 93) h dX4_helpOf_81 (by decide) (pc' := 84) rfl (fun c2 => ?_) (fun c2 => ?_)
          · skip
            refine g_iconst (v := (-1)) h dX4_helpOf_93 (by decide) (pc' := 94) rfl ?_
            exact g_iret h hr dX4_helpOf_94 (by rw [e5_1, hRR, if_pos]; first | exact ⟨c1, Or.inl c2⟩ | exact ⟨c1, Or.inr c3⟩) rfl
          · skip
            refine g_lload h dX4_helpOf_84 rfl (pc' := 86) rfl ?_
            refine g_ldc2 h dX4_helpOf_86 co_X4_102 (pc' := 89) rfl ?_
            refine g_lcmp_le (pc1 := 90) (tg := 95) h dX4_helpOf_89 rfl dX4_helpOf_90 (by decide) (pc' := 93) rfl (fun c3 => ?_) (fun c3 => ?_)
            · skip
              refine g_lload h dX4_helpOf_95 rfl (pc' := 97) rfl ?_
              refine g_lconst (v := 0) h dX4_helpOf_97 (by decide) (pc' := 98) rfl ?_
              refine g_lcmp_le (pc1 := 99) (tg := 107) h dX4_helpOf_98 rfl dX4_helpOf_99 (by decide) (pc' := 102) rfl (fun cd => absurd cd c1) (fun cd => ?_)
              refine g_lload h dX4_helpOf_102 rfl (pc' := 104) rfl ?_
              refine g_goto (pc' := 108) h dX4_helpOf_104 (by decide) ?_
              refine g_lstore2 h dX4_helpOf_108 rfl (by decide) (pc' := 109) rfl ?_
              refine g_iinc4 (v := nI (j + 1)) h dX4_helpOf_109 rfl (inc1 j) (by decide) (pc' := 112) rfl ?_
              refine g_goto (pc' := 5) h dX4_helpOf_112 (by decide) ?_
              exact GG.castW (ih5 (j + 1) (((oR debts m j).toInt64) - (hs cash debts j m)) (by omega) (by rw [e5_1, hRR, if_neg (show ¬ hbad m cash debts i j from fun q => by first | exact q.1 c1 | exact q.2.elim (fun z => z c2) (fun z => z c3)), if_neg (show ¬ hl m cash debts j ≤ 0 from c1)]; rfl)) ⟨rfl, rfl, rfl, rfl, trivial⟩ rfl rfl
            · skip
              refine g_iconst (v := (-1)) h dX4_helpOf_93 (by decide) (pc' := 94) rfl ?_
              exact g_iret h hr dX4_helpOf_94 (by rw [e5_1, hRR, if_pos]; first | exact ⟨c1, Or.inl c2⟩ | exact ⟨c1, Or.inr c3⟩) rfl
      · intro t ht ih26
        refine g_iload h dX4_helpOf_26 rfl (pc' := 28) rfl ?_
        refine g_aload_n (i := 0) h dX4_helpOf_28 rfl rfl (pc' := 29) rfl ?_
        refine gf_X4_7 h dX4_helpOf_29 (pc' := 32) rfl ?_
        refine g_icmp_geF (tg := 59) h dX4_helpOf_32 (by decide) (pc' := 35) rfl (nI_ge ht (by omega)) ?_
        refine g_lload h dX4_helpOf_35 rfl (pc' := 37) rfl ?_
        refine g_aload_n (i := 0) h dX4_helpOf_37 rfl rfl (pc' := 38) rfl ?_
        refine gf_X4_17 h dX4_helpOf_38 (pc' := 41) rfl ?_
        refine g_iconst (v := nI 5) h dX4_helpOf_41 (by decide) (pc' := 42) rfl ?_
        refine g_iload h dX4_helpOf_42 rfl (pc' := 44) rfl ?_
        refine g_imulN h dX4_helpOf_44 (pc' := 45) rfl ?_
        refine g_iload h dX4_helpOf_45 rfl (pc' := 47) rfl ?_
        refine g_iaddN h dX4_helpOf_47 (pc' := 48) rfl ?_
        refine al_12 (j := (5 * t) + j) h dX4_helpOf_48 rfl (by omega) (pc' := 49) rfl ?_
        refine g_i2l h dX4_helpOf_49 (pc' := 50) rfl ?_
        refine g_ladd h dX4_helpOf_50 (pc' := 51) rfl ?_
        refine g_lstore5 h dX4_helpOf_51 rfl (by decide) (pc' := 53) rfl ?_
        refine g_iinc7 (v := nI (t + 1)) h dX4_helpOf_53 rfl (inc1 t) (by decide) (pc' := 56) rfl ?_
        refine g_goto (pc' := 26) h dX4_helpOf_56 (by decide) ?_
        exact GG.castW ih26 ⟨rfl, rfl, rfl, rfl, rfl, rfl, trivial⟩ rfl rfl
  exact GG.castW (key5 m 0 0 (by omega) rfl) ⟨rfl, rfl, rfl, rfl, trivial⟩ rfl rfl
set_option maxRecDepth 20000 in
set_option maxHeartbeats 4000000 in
theorem R_help_U {Z : ZT} {m : Nat} {toll : Int32} {paid : Int64} {cash : Nat → Int64} {debts : Nat → Int32} {fallen : Nat → Int32} {rounds : Int32} {shares : Nat → Int64} {under : Int64} {table : Nat → Int64} {right : Nat → Int64} {tried : Nat → Int64} {falls : Nat → Int32} {rsize : Int32} {ringOf : Nat → Int32} {row : Nat → Int32} {found : Int32} {hh : Int64} {i : Int32}  (g0 : 1 ≤ m) (g1 : ¬ (¬ i < nI 0 ∧ ¬ nI (m - 1) < i)) : MM Z yX4_help cX4_help 2 (some .int) 2 [.ref (Z.2.2 10), .int i] (wR Z (nI m) toll paid cash debts fallen rounds shares under table right tried falls rsize ringOf row found hh) (some (.int (-101))) (wR Z (nI m) toll paid cash debts fallen rounds shares under table right tried falls rsize ringOf row found hh) := by
  refine MM.intro (by decide) [some (.ref (Z.2.2 10)), some (.int i)] rfl (Nat.le_of_ble_eq_true rfl) (fun X (h : OK Z X cX4_help RX4 2 (rmd 2)) hr => ?_)
  refine g_aload_n (i := 0) h dX4_help_0 rfl rfl (pc' := 1) rfl ?_
  refine g_iload_n (i := 1) h dX4_help_1 rfl rfl (pc' := 2) rfl ?_
  refine g_callV1 (q0 := 0) h dX4_help_2 cf_X4_57 (M_X4_isHouse (i := i) (by omega)) rfl rfl rfl rfl (by decide) rfl (Nat.le_of_ble_eq_true rfl) (pc' := 5) rfl ?_
  refine g_if_eqT (tg := 16) h dX4_help_5 (by decide) (bI_n g1) ?_
  refine g_bipush (v := (-101)) h dX4_help_16 (by decide) (pc' := 18) rfl ?_
  exact g_iret h hr dX4_help_18 rfl rfl
set_option maxRecDepth 20000 in
set_option maxHeartbeats 4000000 in
theorem R_help {Z : ZT} {m : Nat} {toll : Int32} {paid : Int64} {cash : Nat → Int64} {debts : Nat → Int32} {fallen : Nat → Int32} {rounds : Int32} {shares : Nat → Int64} {under : Int64} {table : Nat → Int64} {right : Nat → Int64} {tried : Nat → Int64} {falls : Nat → Int32} {rsize : Int32} {ringOf : Nat → Int32} {row : Nat → Int32} {found : Int32} {hh : Int64} {i : Nat}  (g0 : i < m) (g1 : m ≤ 4) (g2 : 1 ≤ m) : MM Z yX4_help cX4_help 2 (some .int) 2 [.ref (Z.2.2 10), .int (nI i)] (wR Z (nI m) toll paid cash debts fallen rounds shares under table right tried falls rsize ringOf row found hh) (some (.int (hv m cash debts i))) (wR Z (nI m) toll paid cash debts fallen rounds shares under table right tried falls rsize ringOf row found hh) := by
  refine MM.intro (by decide) [some (.ref (Z.2.2 10)), some (.int (nI i))] rfl (Nat.le_of_ble_eq_true rfl) (fun X (h : OK Z X cX4_help RX4 2 (rmd 2)) hr => ?_)
  refine g_aload_n (i := 0) h dX4_help_0 rfl rfl (pc' := 1) rfl ?_
  refine g_iload_n (i := 1) h dX4_help_1 rfl rfl (pc' := 2) rfl ?_
  refine g_callV1 (q0 := 0) h dX4_help_2 cf_X4_57 (M_X4_isHouse (i := nI i) (by omega)) rfl rfl rfl rfl (by decide) rfl (Nat.le_of_ble_eq_true rfl) (pc' := 5) rfl ?_
  refine g_if_eqF (tg := 16) h dX4_help_5 (by decide) (pc' := 8) rfl (fun q => (bI_0.mp q) (rsO g0 g1)) ?_
  refine g_aload_n (i := 0) h dX4_help_8 rfl rfl (pc' := 9) rfl ?_
  refine g_iload_n (i := 1) h dX4_help_9 rfl rfl (pc' := 10) rfl ?_
  refine g_callV1 (q0 := 0) h dX4_help_10 cf_X4_104 (M_X4_helpOf (i := i) (by omega) (by omega)) rfl rfl rfl rfl (by decide) rfl (Nat.le_of_ble_eq_true rfl) (pc' := 13) rfl ?_
  refine g_goto (pc' := 18) h dX4_help_13 (by decide) ?_
  exact g_iret h hr dX4_help_18 rfl rfl
set_option maxRecDepth 20000 in
set_option maxHeartbeats 4000000 in
theorem R_best {Z : ZT} {m : Nat} {toll : Int32} {paid : Int64} {cash : Nat → Int64} {debts : Nat → Int32} {fallen : Nat → Int32} {rounds : Int32} {shares : Nat → Int64} {under : Int64} {table : Nat → Int64} {right : Nat → Int64} {tried : Nat → Int64} {falls : Nat → Int32} {rsize : Int32} {ringOf : Nat → Int32} {row : Nat → Int32} {found : Int32} {hh : Int64}   (g0 : m ≤ 4) : MM Z yX4_best cX4_best 4 (some .int) 2 [.ref (Z.2.2 10)] (wR Z (nI m) toll paid cash debts fallen rounds shares under table right tried falls rsize ringOf row found hh) (some (.int (bv (bR m cash debts m)))) (wR Z (nI m) toll paid cash debts fallen rounds shares under table right tried falls rsize ringOf row found hh) := by
  refine MM.intro (by decide) [some (.ref (Z.2.2 10)), none, none, none] rfl (Nat.le_of_ble_eq_true rfl) (fun X (h : OK Z X cX4_best RX4 4 (rmd 2)) hr => ?_)
  refine g_iconst (v := (-1)) h dX4_best_0 (by decide) (pc' := 1) rfl ?_
  refine g_istore1 h dX4_best_1 rfl (by decide) (pc' := 2) rfl ?_
  refine g_iconst (v := nI 0) h dX4_best_2 (by decide) (pc' := 3) rfl ?_
  refine g_istore2 h dX4_best_3 rfl (by decide) (pc' := 4) rfl ?_
  refine GG.castW (lp (P := fun j => GG Z X 4 [some (.ref (Z.2.2 10)), some (.int (bv (bR m cash debts j))), some (.int (nI j)), none] [] (wR Z (nI m) toll paid cash debts fallen rounds shares under table right tried falls rsize ringOf row found hh)) m ?_ ?_) ⟨rfl, rfl, rfl, trivial⟩ rfl rfl
  · skip
    refine g_iload_n (i := 2) h dX4_best_4 rfl rfl (pc' := 5) rfl ?_
    refine g_aload_n (i := 0) h dX4_best_5 rfl rfl (pc' := 6) rfl ?_
    refine gf_X4_7 h dX4_best_6 (pc' := 9) rfl ?_
    refine g_icmp_geT (tg := 49) h dX4_best_9 (by decide) (Int32.le_refl _) ?_
    refine g_iload_n (i := 1) h dX4_best_49 rfl rfl (pc' := 50) rfl ?_
    exact g_iret h hr dX4_best_50 rfl rfl
  · intro j hj ih4
    refine g_iload_n (i := 2) h dX4_best_4 rfl rfl (pc' := 5) rfl ?_
    refine g_aload_n (i := 0) h dX4_best_5 rfl rfl (pc' := 6) rfl ?_
    refine gf_X4_7 h dX4_best_6 (pc' := 9) rfl ?_
    refine g_icmp_geF (tg := 49) h dX4_best_9 (by decide) (pc' := 12) rfl (nI_ge hj (by omega)) ?_
    rcases hb : bR m cash debts j with _ | b
    · skip
      refine g_aload_n (i := 0) h dX4_best_12 rfl rfl (pc' := 13) rfl ?_
      refine g_iload_n (i := 2) h dX4_best_13 rfl rfl (pc' := 14) rfl ?_
      refine g_callV1 (q0 := 0) h dX4_best_14 cf_X4_104 (M_X4_helpOf (i := j) (by omega) (by omega)) rfl rfl rfl rfl (by decide) rfl (Nat.le_of_ble_eq_true rfl) (pc' := 17) rfl ?_
      refine g_istore3 h dX4_best_17 rfl (by decide) (pc' := 18) rfl ?_
      refine g_iload_n (i := 3) h dX4_best_18 rfl rfl (pc' := 19) rfl ?_
      refine g_iconst (v := (-1)) h dX4_best_19 (by decide) (pc' := 20) rfl ?_
      refine g_icmp_eq (tg := 41) h dX4_best_20 (by decide) (pc' := 23) rfl (fun c1 => ?_) (fun c1 => ?_)
      · skip
        refine g_iload_n (i := 1) h dX4_best_41 rfl rfl (pc' := 42) rfl ?_
        refine g_istore1 h dX4_best_42 rfl (by decide) (pc' := 43) rfl ?_
        refine g_iinc2 (v := nI (j + 1)) h dX4_best_43 rfl (inc1 j) (by decide) (pc' := 46) rfl ?_
        refine g_goto (pc' := 4) h dX4_best_46 (by decide) ?_
        exact GG.castW ih4 ⟨rfl, (by simp [bR, hb, bv, c1]), rfl, trivial⟩ rfl rfl
      · skip
        refine g_iload_n (i := 1) h dX4_best_23 rfl rfl (pc' := 24) rfl ?_
        refine g_iconst (v := (-1)) h dX4_best_24 (by decide) (pc' := 25) rfl ?_
        refine g_icmp_eqT (tg := 37) h dX4_best_25 (by decide) rfl ?_
        refine g_iload_n (i := 2) h dX4_best_37 rfl rfl (pc' := 38) rfl ?_
        refine g_goto (pc' := 42) h dX4_best_38 (by decide) ?_
        refine g_istore1 h dX4_best_42 rfl (by decide) (pc' := 43) rfl ?_
        refine g_iinc2 (v := nI (j + 1)) h dX4_best_43 rfl (inc1 j) (by decide) (pc' := 46) rfl ?_
        refine g_goto (pc' := 4) h dX4_best_46 (by decide) ?_
        exact GG.castW ih4 ⟨rfl, (by simp [bR, hb, bv, c1]), rfl, trivial⟩ rfl rfl
    · skip
      have hbl := bR_lt hb
      refine g_aload_n (i := 0) h dX4_best_12 rfl rfl (pc' := 13) rfl ?_
      refine g_iload_n (i := 2) h dX4_best_13 rfl rfl (pc' := 14) rfl ?_
      refine g_callV1 (q0 := 0) h dX4_best_14 cf_X4_104 (M_X4_helpOf (i := j) (by omega) (by omega)) rfl rfl rfl rfl (by decide) rfl (Nat.le_of_ble_eq_true rfl) (pc' := 17) rfl ?_
      refine g_istore3 h dX4_best_17 rfl (by decide) (pc' := 18) rfl ?_
      refine g_iload_n (i := 3) h dX4_best_18 rfl rfl (pc' := 19) rfl ?_
      refine g_iconst (v := (-1)) h dX4_best_19 (by decide) (pc' := 20) rfl ?_
      refine g_icmp_eq (tg := 41) h dX4_best_20 (by decide) (pc' := 23) rfl (fun c1 => ?_) (fun c1 => ?_)
      · skip
        refine g_iload_n (i := 1) h dX4_best_41 rfl rfl (pc' := 42) rfl ?_
        refine g_istore1 h dX4_best_42 rfl (by decide) (pc' := 43) rfl ?_
        refine g_iinc2 (v := nI (j + 1)) h dX4_best_43 rfl (inc1 j) (by decide) (pc' := 46) rfl ?_
        refine g_goto (pc' := 4) h dX4_best_46 (by decide) ?_
        exact GG.castW ih4 ⟨rfl, (by simp [bR, hb, bv, c1]), rfl, trivial⟩ rfl rfl
      · skip
        refine g_iload_n (i := 1) h dX4_best_23 rfl rfl (pc' := 24) rfl ?_
        refine g_iconst (v := (-1)) h dX4_best_24 (by decide) (pc' := 25) rfl ?_
        refine g_icmp_eqF (tg := 37) h dX4_best_25 (by decide) (pc' := 28) rfl (nI_nm1 b (by omega)) ?_
        refine g_iload_n (i := 3) h dX4_best_28 rfl rfl (pc' := 29) rfl ?_
        refine g_aload_n (i := 0) h dX4_best_29 rfl rfl (pc' := 30) rfl ?_
        refine g_iload_n (i := 1) h dX4_best_30 rfl rfl (pc' := 31) rfl ?_
        refine g_callV1 (q0 := 0) h dX4_best_31 cf_X4_104 (M_X4_helpOf (i := b) (by omega) (by omega)) rfl rfl rfl rfl (by decide) rfl (Nat.le_of_ble_eq_true rfl) (pc' := 34) rfl ?_
        refine g_icmp_ge (tg := 41) h dX4_best_34 (by decide) (pc' := 37) rfl (fun c2 => ?_) (fun c2 => ?_)
        · skip
          refine g_iload_n (i := 1) h dX4_best_41 rfl rfl (pc' := 42) rfl ?_
          refine g_istore1 h dX4_best_42 rfl (by decide) (pc' := 43) rfl ?_
          refine g_iinc2 (v := nI (j + 1)) h dX4_best_43 rfl (inc1 j) (by decide) (pc' := 46) rfl ?_
          refine g_goto (pc' := 4) h dX4_best_46 (by decide) ?_
          exact GG.castW ih4 ⟨rfl, (by simp [bR, hb, bv, c1, c2]), rfl, trivial⟩ rfl rfl
        · skip
          refine g_iload_n (i := 2) h dX4_best_37 rfl rfl (pc' := 38) rfl ?_
          refine g_goto (pc' := 42) h dX4_best_38 (by decide) ?_
          refine g_istore1 h dX4_best_42 rfl (by decide) (pc' := 43) rfl ?_
          refine g_iinc2 (v := nI (j + 1)) h dX4_best_43 rfl (inc1 j) (by decide) (pc' := 46) rfl ?_
          refine g_goto (pc' := 4) h dX4_best_46 (by decide) ?_
          exact GG.castW ih4 ⟨rfl, (by simp [bR, hb, bv, c1, c2]), rfl, trivial⟩ rfl rfl
set_option maxRecDepth 20000 in
set_option maxHeartbeats 4000000 in
theorem R_net_U {Z : ZT} {m : Nat} {toll : Int32} {paid : Int64} {cash : Nat → Int64} {debts : Nat → Int32} {fallen : Nat → Int32} {rounds : Int32} {shares : Nat → Int64} {under : Int64} {table : Nat → Int64} {right : Nat → Int64} {tried : Nat → Int64} {falls : Nat → Int32} {rsize : Int32} {ringOf : Nat → Int32} {row : Nat → Int32} {found : Int32} {hh : Int64} {i : Int32}  (g0 : 1 ≤ m) (g1 : ¬ (¬ i < nI 0 ∧ ¬ nI (m - 1) < i)) : MM Z yX4_net cX4_net 4 (some .int) 2 [.ref (Z.2.2 10), .int i] (wR Z (nI m) toll paid cash debts fallen rounds shares under table right tried falls rsize ringOf row found hh) (some (.int (-1000000))) (wR Z (nI m) toll paid cash debts fallen rounds shares under table right tried falls rsize ringOf row found hh) := by
  refine MM.intro (by decide) [some (.ref (Z.2.2 10)), some (.int i), none, none] rfl (Nat.le_of_ble_eq_true rfl) (fun X (h : OK Z X cX4_net RX4 4 (rmd 2)) hr => ?_)
  refine g_aload_n (i := 0) h dX4_net_0 rfl rfl (pc' := 1) rfl ?_
  refine g_iload_n (i := 1) h dX4_net_1 rfl rfl (pc' := 2) rfl ?_
  refine g_callV1 (q0 := 0) h dX4_net_2 cf_X4_57 (M_X4_isHouse (i := i) (by omega)) rfl rfl rfl rfl (by decide) rfl (Nat.le_of_ble_eq_true rfl) (pc' := 5) rfl ?_
  refine g_if_neF (tg := 11) h dX4_net_5 (by decide) (pc' := 8) rfl (bI_n g1) ?_
  refine g_ldc h dX4_net_8 co_X4_107 (pc' := 10) rfl ?_
  exact g_iret h hr dX4_net_10 rfl rfl
set_option maxRecDepth 20000 in
set_option maxHeartbeats 4000000 in
theorem R_net {Z : ZT} {m : Nat} {toll : Int32} {paid : Int64} {cash : Nat → Int64} {debts : Nat → Int32} {fallen : Nat → Int32} {rounds : Int32} {shares : Nat → Int64} {under : Int64} {table : Nat → Int64} {right : Nat → Int64} {tried : Nat → Int64} {falls : Nat → Int32} {rsize : Int32} {ringOf : Nat → Int32} {row : Nat → Int32} {found : Int32} {hh : Int64} {i : Nat}  (g0 : i < m) (g1 : m ≤ 4) (g2 : 1 ≤ m) : MM Z yX4_net cX4_net 4 (some .int) 2 [.ref (Z.2.2 10), .int (nI i)] (wR Z (nI m) toll paid cash debts fallen rounds shares under table right tried falls rsize ringOf row found hh) (some (.int (nR debts m i m))) (wR Z (nI m) toll paid cash debts fallen rounds shares under table right tried falls rsize ringOf row found hh) := by
  refine MM.intro (by decide) [some (.ref (Z.2.2 10)), some (.int (nI i)), none, none] rfl (Nat.le_of_ble_eq_true rfl) (fun X (h : OK Z X cX4_net RX4 4 (rmd 2)) hr => ?_)
  refine g_aload_n (i := 0) h dX4_net_0 rfl rfl (pc' := 1) rfl ?_
  refine g_iload_n (i := 1) h dX4_net_1 rfl rfl (pc' := 2) rfl ?_
  refine g_callV1 (q0 := 0) h dX4_net_2 cf_X4_57 (M_X4_isHouse (i := nI i) (by omega)) rfl rfl rfl rfl (by decide) rfl (Nat.le_of_ble_eq_true rfl) (pc' := 5) rfl ?_
  refine g_if_neT (tg := 11) h dX4_net_5 (by decide) (fun q => (bI_0.mp q) (rsO g0 g1)) ?_
  refine g_aload_n (i := 0) h dX4_net_11 rfl rfl (pc' := 12) rfl ?_
  refine g_iload_n (i := 1) h dX4_net_12 rfl rfl (pc' := 13) rfl ?_
  refine g_callV1 (q0 := 0) h dX4_net_13 cf_X4_61 (M_X4_owesOf (i := i) (by omega) (by omega)) rfl rfl rfl rfl (by decide) rfl (Nat.le_of_ble_eq_true rfl) (pc' := 16) rfl ?_
  refine g_ineg (v := -(oR debts m i)) h dX4_net_16 rfl (pc' := 17) rfl ?_
  refine g_istore2 h dX4_net_17 rfl (by decide) (pc' := 18) rfl ?_
  refine g_iconst (v := nI 0) h dX4_net_18 (by decide) (pc' := 19) rfl ?_
  refine g_istore3 h dX4_net_19 rfl (by decide) (pc' := 20) rfl ?_
  refine GG.castW (lp (P := fun j => GG Z X 20 [some (.ref (Z.2.2 10)), some (.int (nI i)), some (.int (nR debts m i j)), some (.int (nI j))] [] (wR Z (nI m) toll paid cash debts fallen rounds shares under table right tried falls rsize ringOf row found hh)) m ?_ ?_) ⟨rfl, rfl, rfl, rfl, trivial⟩ rfl rfl
  · skip
    refine g_iload_n (i := 3) h dX4_net_20 rfl rfl (pc' := 21) rfl ?_
    refine g_aload_n (i := 0) h dX4_net_21 rfl rfl (pc' := 22) rfl ?_
    refine gf_X4_7 h dX4_net_22 (pc' := 25) rfl ?_
    refine g_icmp_geT (tg := 47) h dX4_net_25 (by decide) (Int32.le_refl _) ?_
    refine g_iload_n (i := 2) h dX4_net_47 rfl rfl (pc' := 48) rfl ?_
    exact g_iret h hr dX4_net_48 rfl rfl
  · intro j hj ih20
    refine g_iload_n (i := 3) h dX4_net_20 rfl rfl (pc' := 21) rfl ?_
    refine g_aload_n (i := 0) h dX4_net_21 rfl rfl (pc' := 22) rfl ?_
    refine gf_X4_7 h dX4_net_22 (pc' := 25) rfl ?_
    refine g_icmp_geF (tg := 47) h dX4_net_25 (by decide) (pc' := 28) rfl (nI_ge hj (by omega)) ?_
    refine g_iload_n (i := 2) h dX4_net_28 rfl rfl (pc' := 29) rfl ?_
    refine g_aload_n (i := 0) h dX4_net_29 rfl rfl (pc' := 30) rfl ?_
    refine gf_X4_17 h dX4_net_30 (pc' := 33) rfl ?_
    refine g_iconst (v := nI 5) h dX4_net_33 (by decide) (pc' := 34) rfl ?_
    refine g_iload_n (i := 3) h dX4_net_34 rfl rfl (pc' := 35) rfl ?_
    refine g_imulN h dX4_net_35 (pc' := 36) rfl ?_
    refine g_iload_n (i := 1) h dX4_net_36 rfl rfl (pc' := 37) rfl ?_
    refine g_iaddN h dX4_net_37 (pc' := 38) rfl ?_
    refine al_12 (j := (5 * j) + i) h dX4_net_38 rfl (by omega) (pc' := 39) rfl ?_
    refine g_iadd h dX4_net_39 (pc' := 40) rfl ?_
    refine g_istore2 h dX4_net_40 rfl (by decide) (pc' := 41) rfl ?_
    refine g_iinc3 (v := nI (j + 1)) h dX4_net_41 rfl (inc1 j) (by decide) (pc' := 44) rfl ?_
    refine g_goto (pc' := 20) h dX4_net_44 (by decide) ?_
    exact GG.castW ih20 ⟨rfl, rfl, rfl, rfl, trivial⟩ rfl rfl

def zc (f : Nat → Int64) : Nat → Nat → Int64
  | 0 => f
  | j + 1 => vp_updL (zc f j) (j / 5) 0
def oR (debts : Nat → Int32) (m i : Nat) : Int32 := sI (fun j => debts (5 * i + j)) (m + 1)
def pr (t : Nat → Int64) (r a b : Nat) : Int64 := t (4 * r + a) * t (4 * r + 4 + b) - t (4 * r + b) * t (4 * r + 4 + a)
def dq (t : Nat → Int64) : Int64 := pr t 0 0 1 * pr t 2 2 3 - pr t 0 0 2 * pr t 2 1 3 + pr t 0 0 3 * pr t 2 1 2 + pr t 0 1 2 * pr t 2 0 3 - pr t 0 1 3 * pr t 2 0 2 + pr t 0 2 3 * pr t 2 0 1
def tW (table right : Nat → Int64) (c : Int32) (t : Nat → Int64) : Nat → Nat → Int64
  | 0 => t
  | j + 1 => vp_updL (tW table right c t j) j (if nI (j % 4) = c then right (j / 4) else table j)
abbrev fR (m : Nat) (fallen : Nat → Int32) (i : Nat) : Prop := ¬ nI m ≤ nI i ∧ ¬ fallen i ≤ 0
def tE (m : Nat) (toll : Int32) (debts fallen : Nat → Int32) (i j : Nat) : Int64 := (if nI j = nI i then (if fR m fallen i then 10 * (oR debts m i).toInt64 else 1) else 0) - (if fR m fallen i then (nI 10 - toll).toInt64 * (if nI m ≤ nI j then 0 else (debts (5 * j + i)).toInt64) else 0)
def tb (m : Nat) (toll : Int32) (debts fallen : Nat → Int32) (i : Nat) (table : Nat → Int64) : Nat → Nat → Int64
  | 0 => table
  | j + 1 => vp_updL (tb m toll debts fallen i table j) (4 * i + j) (tE m toll debts fallen i j)
def rG (m : Nat) (toll : Int32) (cash : Nat → Int64) (fallen : Nat → Int32) (i : Nat) (right : Nat → Int64) : Nat → Int64 := vp_updL right i (if fR m fallen i then (nI 10 - toll).toInt64 * cash i else 1)
def eqs (m : Nat) (toll : Int32) (cash : Nat → Int64) (debts fallen : Nat → Int32) (t : mT) : Nat → mT
  | 0 => t
  | i + 1 => (tb m toll debts fallen i (eqs m toll cash debts fallen t i).1 4, rG m toll cash fallen i (eqs m toll cash debts fallen t i).2)
def trs (table right tried : Nat → Int64) : Nat → Nat → Int64
  | 0 => tW table right (-1) tried 16
  | i + 1 => tW table right (nI i) (trs table right tried i) 16
def sR (table right tried shares : Nat → Int64) : Nat → Nat → Int64
  | 0 => shares
  | i + 1 => vp_updL (sR table right tried shares i) i (dq (trs table right tried (i + 1)))
def gR (cash : Nat → Int64) (under : Int64) (shares : Nat → Int64) (debts : Nat → Int32) (i : Nat) : Nat → Int64
  | 0 => cash i * under
  | j + 1 => gR cash under shares debts i j + shares j * (debts (5 * j + i)).toInt64
/-- fallen, shares, the number under them, table, right, tried, falls, rounds -/
abbrev rT : Type := (Nat → Int32) × (Nat → Int64) × Int64 × (Nat → Int64) × (Nat → Int64) × (Nat → Int64) × (Nat → Int32) × Int32
def rslv (m : Nat) (toll : Int32) (cash : Nat → Int64) (debts : Nat → Int32) (s : rT) : rT :=
  ((s.1, sR (eqs m toll cash debts s.1 (s.2.2.2.1, s.2.2.2.2.1) 4).1 (eqs m toll cash debts s.1 (s.2.2.2.1, s.2.2.2.2.1) 4).2 s.2.2.2.2.2.1 s.2.1 4, dq (tW (eqs m toll cash debts s.1 (s.2.2.2.1, s.2.2.2.2.1) 4).1 (eqs m toll cash debts s.1 (s.2.2.2.1, s.2.2.2.2.1) 4).2 (-1) s.2.2.2.2.2.1 16), (eqs m toll cash debts s.1 (s.2.2.2.1, s.2.2.2.2.1) 4).1, (eqs m toll cash debts s.1 (s.2.2.2.1, s.2.2.2.2.1) 4).2, trs (eqs m toll cash debts s.1 (s.2.2.2.1, s.2.2.2.2.1) 4).1 (eqs m toll cash debts s.1 (s.2.2.2.1, s.2.2.2.2.1) 4).2 s.2.2.2.2.2.1 4, s.2.2.2.2.2.2.1, s.2.2.2.2.2.2.2))
abbrev cR (m : Nat) (cash : Nat → Int64) (debts : Nat → Int32) (s : rT) (i : Nat) : Prop := s.1 i = 0 ∧ ¬ (oR debts m i).toInt64 * s.2.2.1 ≤ gR cash s.2.2.1 s.2.1 debts i m
def fS (m : Nat) (cash : Nat → Int64) (debts : Nat → Int32) (s : rT) : Nat → Nat → Int32
  | 0 => s.2.2.2.2.2.2.1
  | i + 1 => upd (fS m cash debts s i) i (vp_nar .boolean (nI (if cR m cash debts s i then 1 else 0)))
def gS (m : Nat) (cash : Nat → Int64) (debts : Nat → Int32) (s : rT) : Nat → Nat
  | 0 => 0
  | i + 1 => if nI (gS m cash debts s i) = 0 then (if cR m cash debts s i then 1 else 0) else 1
theorem gS_le {m : Nat} {cash : Nat → Int64} {debts : Nat → Int32} {s : rT} : ∀ n, gS m cash debts s n ≤ 1
  | 0 => Nat.zero_le _
  | n + 1 => by
    rw [gS]
    split
    · split
      · exact Nat.le_refl _
      · exact Nat.zero_le _
    · exact Nat.le_refl _
theorem gS_1 {m : Nat} {cash : Nat → Int64} {debts : Nat → Int32} {s : rT} {n : Nat} (h : ¬ nI (gS m cash debts s n) = 0) : gS m cash debts s n = 1 := by
  have h1 := gS_le (m := m) (cash := cash) (debts := debts) (s := s) n
  rcases (show gS m cash debts s n = 0 ∨ gS m cash debts s n = 1 by omega) with e | e
  · exact absurd (by rw [e]; rfl) h
  · exact e
def fF (fallen falls : Nat → Int32) (r : Int32) : Nat → Nat → Int32
  | 0 => fallen
  | i + 1 => upd (fF fallen falls r i) i (if falls i = 0 then fF fallen falls r i i else r)
/-- the next round's state: who fell, the shares anew -/
def rnx (m : Nat) (toll : Int32) (cash : Nat → Int64) (debts : Nat → Int32) (s : rT) : rT :=
  rslv m toll cash debts (fF s.1 (fS m cash debts s m) (s.2.2.2.2.2.2.2 + nI 1) m, s.2.1, s.2.2.1, s.2.2.2.1, s.2.2.2.2.1, s.2.2.2.2.2.1, fS m cash debts s m, s.2.2.2.2.2.2.2 + nI 1)
def clr (m : Nat) (toll : Int32) (cash : Nat → Int64) (debts : Nat → Int32) : Nat → rT → Option rT
  | 0, _ => none
  | k + 1, s => if nI (gS m cash debts s m) = 0 then some (s.1, s.2.1, s.2.2.1, s.2.2.2.1, s.2.2.2.2.1, s.2.2.2.2.2.1, fS m cash debts s m, s.2.2.2.2.2.2.2) else clr m toll cash debts k (rnx m toll cash debts s)
def cmn : Nat → Int64 → Int64 → Option Int64
  | 0, _, _ => none
  | k + 1, x, y => if y = 0 then some x else cmn k y (jrem x y)
set_option maxRecDepth 20000 in
set_option maxHeartbeats 4000000 in
theorem M_X4_in {Z : ZT} {n : Int32} {toll : Int32} {paid : Int64} {cash : Nat → Int64} {debts : Nat → Int32} {fallen : Nat → Int32} {rounds : Int32} {shares : Nat → Int64} {under : Int64} {table : Nat → Int64} {right : Nat → Int64} {tried : Nat → Int64} {falls : Nat → Int32} {rsize : Int32} {ringOf : Nat → Int32} {row : Nat → Int32} {found : Int32} {hh : Int64} {v : Int32} {lo : Int32} {hi : Int32}   : MM Z yX4_in cX4_in 3 (some .boolean) 0 [.int v, .int lo, .int hi] (wR Z n toll paid cash debts fallen rounds shares under table right tried falls rsize ringOf row found hh) (some (.int (bI (¬ v < lo ∧ ¬ hi < v)))) (wR Z n toll paid cash debts fallen rounds shares under table right tried falls rsize ringOf row found hh) := by
  refine MM.intro (by decide) [some (.int v), some (.int lo), some (.int hi)] rfl (Nat.le_of_ble_eq_true rfl) (fun X (h : OK Z X cX4_in RX4 3 (rmd 0)) hr => ?_)
  refine g_iload_n (i := 0) h dX4_in_0 rfl rfl (pc' := 1) rfl ?_
  refine g_iload_n (i := 1) h dX4_in_1 rfl rfl (pc' := 2) rfl ?_
  refine g_icmp_lt (tg := 14) h dX4_in_2 (by decide) (pc' := 5) rfl (fun c1 => ?_) (fun c1 => ?_)
  · skip
    refine g_iconst (v := nI 0) h dX4_in_14 (by decide) (pc' := 15) rfl ?_
    exact g_zret h hr dX4_in_15 (by decide) (by simp [bI, c1, nI0, nI1]) rfl
  · skip
    refine g_iload_n (i := 0) h dX4_in_5 rfl rfl (pc' := 6) rfl ?_
    refine g_iload_n (i := 2) h dX4_in_6 rfl rfl (pc' := 7) rfl ?_
    refine g_icmp_gt (tg := 14) h dX4_in_7 (by decide) (pc' := 10) rfl (fun c2 => ?_) (fun c2 => ?_)
    · skip
      refine g_iconst (v := nI 0) h dX4_in_14 (by decide) (pc' := 15) rfl ?_
      exact g_zret h hr dX4_in_15 (by decide) (by simp [bI, c1, c2, nI0, nI1]) rfl
    · skip
      refine g_iconst (v := nI 1) h dX4_in_10 (by decide) (pc' := 11) rfl ?_
      refine g_goto (pc' := 15) h dX4_in_11 (by decide) ?_
      exact g_zret h hr dX4_in_15 (by decide) (by simp [bI, c1, c2, nI0, nI1]) rfl
set_option maxRecDepth 20000 in
set_option maxHeartbeats 4000000 in
theorem M_X4_isHouse {Z : ZT} {m : Nat} {toll : Int32} {paid : Int64} {cash : Nat → Int64} {debts : Nat → Int32} {fallen : Nat → Int32} {rounds : Int32} {shares : Nat → Int64} {under : Int64} {table : Nat → Int64} {right : Nat → Int64} {tried : Nat → Int64} {falls : Nat → Int32} {rsize : Int32} {ringOf : Nat → Int32} {row : Nat → Int32} {found : Int32} {hh : Int64} {i : Int32}  (g0 : 1 ≤ m) : MM Z yX4_isHouse cX4_isHouse 2 (some .boolean) 1 [.ref (Z.2.2 10), .int i] (wR Z (nI m) toll paid cash debts fallen rounds shares under table right tried falls rsize ringOf row found hh) (some (.int (bI (¬ i < nI 0 ∧ ¬ nI (m - 1) < i)))) (wR Z (nI m) toll paid cash debts fallen rounds shares under table right tried falls rsize ringOf row found hh) := by
  refine MM.intro (by decide) [some (.ref (Z.2.2 10)), some (.int i)] rfl (Nat.le_of_ble_eq_true rfl) (fun X (h : OK Z X cX4_isHouse RX4 2 (rmd 1)) hr => ?_)
  refine g_iload_n (i := 1) h dX4_isHouse_0 rfl rfl (pc' := 1) rfl ?_
  refine g_iconst (v := nI 0) h dX4_isHouse_1 (by decide) (pc' := 2) rfl ?_
  refine g_aload_n (i := 0) h dX4_isHouse_2 rfl rfl (pc' := 3) rfl ?_
  refine gf_X4_7 h dX4_isHouse_3 (pc' := 6) rfl ?_
  refine g_iconst (v := nI 1) h dX4_isHouse_6 (by decide) (pc' := 7) rfl ?_
  refine g_isubN h dX4_isHouse_7 g0 (pc' := 8) rfl ?_
  refine g_callS1 h dX4_isHouse_8 cf_X4_46 (M_X4_in (v := i) (lo := nI 0) (hi := nI (m - 1)) ) rfl (by decide) rfl (Nat.le_of_ble_eq_true rfl) (pc' := 11) rfl ?_
  exact g_zret h hr dX4_isHouse_11 (bI_z _) rfl rfl
set_option maxRecDepth 20000 in
set_option maxHeartbeats 4000000 in
theorem M_X4_owesOf {Z : ZT} {m : Nat} {toll : Int32} {paid : Int64} {cash : Nat → Int64} {debts : Nat → Int32} {fallen : Nat → Int32} {rounds : Int32} {shares : Nat → Int64} {under : Int64} {table : Nat → Int64} {right : Nat → Int64} {tried : Nat → Int64} {falls : Nat → Int32} {rsize : Int32} {ringOf : Nat → Int32} {row : Nat → Int32} {found : Int32} {hh : Int64} {i : Nat}  (g0 : i < 4) (g1 : m ≤ 4) : MM Z yX4_owesOf cX4_owesOf 4 (some .int) 0 [.ref (Z.2.2 10), .int (nI i)] (wR Z (nI m) toll paid cash debts fallen rounds shares under table right tried falls rsize ringOf row found hh) (some (.int (oR debts m i))) (wR Z (nI m) toll paid cash debts fallen rounds shares under table right tried falls rsize ringOf row found hh) := by
  refine MM.intro (by decide) [some (.ref (Z.2.2 10)), some (.int (nI i)), none, none] rfl (Nat.le_of_ble_eq_true rfl) (fun X (h : OK Z X cX4_owesOf RX4 4 (rmd 0)) hr => ?_)
  refine g_iconst (v := nI 0) h dX4_owesOf_0 (by decide) (pc' := 1) rfl ?_
  refine g_istore2 h dX4_owesOf_1 rfl (by decide) (pc' := 2) rfl ?_
  refine g_iconst (v := nI 0) h dX4_owesOf_2 (by decide) (pc' := 3) rfl ?_
  refine g_istore3 h dX4_owesOf_3 rfl (by decide) (pc' := 4) rfl ?_
  refine GG.castW (lp (P := fun j => GG Z X 4 [some (.ref (Z.2.2 10)), some (.int (nI i)), some (.int (sI (fun j => debts (5 * i + j)) j)), some (.int (nI j))] [] (wR Z (nI m) toll paid cash debts fallen rounds shares under table right tried falls rsize ringOf row found hh)) (m + 1) ?_ ?_) ⟨rfl, rfl, rfl, rfl, trivial⟩ rfl rfl
  · skip
    refine g_iload_n (i := 3) h dX4_owesOf_4 rfl rfl (pc' := 5) rfl ?_
    refine g_aload_n (i := 0) h dX4_owesOf_5 rfl rfl (pc' := 6) rfl ?_
    refine gf_X4_7 h dX4_owesOf_6 (pc' := 9) rfl ?_
    refine g_icmp_gtT (tg := 31) h dX4_owesOf_9 (by decide) (nI_lt (Nat.lt_succ_self _) (by omega)) ?_
    refine g_iload_n (i := 2) h dX4_owesOf_31 rfl rfl (pc' := 32) rfl ?_
    exact g_iret h hr dX4_owesOf_32 rfl rfl
  · intro j hj ih4
    refine g_iload_n (i := 3) h dX4_owesOf_4 rfl rfl (pc' := 5) rfl ?_
    refine g_aload_n (i := 0) h dX4_owesOf_5 rfl rfl (pc' := 6) rfl ?_
    refine gf_X4_7 h dX4_owesOf_6 (pc' := 9) rfl ?_
    refine g_icmp_gtF (tg := 31) h dX4_owesOf_9 (by decide) (pc' := 12) rfl (nI_nlt (by omega) (by omega)) ?_
    refine g_iload_n (i := 2) h dX4_owesOf_12 rfl rfl (pc' := 13) rfl ?_
    refine g_aload_n (i := 0) h dX4_owesOf_13 rfl rfl (pc' := 14) rfl ?_
    refine gf_X4_17 h dX4_owesOf_14 (pc' := 17) rfl ?_
    refine g_iconst (v := nI 5) h dX4_owesOf_17 (by decide) (pc' := 18) rfl ?_
    refine g_iload_n (i := 1) h dX4_owesOf_18 rfl rfl (pc' := 19) rfl ?_
    refine g_imulN h dX4_owesOf_19 (pc' := 20) rfl ?_
    refine g_iload_n (i := 3) h dX4_owesOf_20 rfl rfl (pc' := 21) rfl ?_
    refine g_iaddN h dX4_owesOf_21 (pc' := 22) rfl ?_
    refine al_12 (j := (5 * i) + j) h dX4_owesOf_22 rfl (by omega) (pc' := 23) rfl ?_
    refine g_iadd h dX4_owesOf_23 (pc' := 24) rfl ?_
    refine g_istore2 h dX4_owesOf_24 rfl (by decide) (pc' := 25) rfl ?_
    refine g_iinc3 (v := nI (j + 1)) h dX4_owesOf_25 rfl (inc1 j) (by decide) (pc' := 28) rfl ?_
    refine g_goto (pc' := 4) h dX4_owesOf_28 (by decide) ?_
    exact GG.castW ih4 ⟨rfl, rfl, rfl, rfl, trivial⟩ rfl rfl
set_option maxRecDepth 20000 in
set_option maxHeartbeats 4000000 in
theorem M_X4_pair {Z : ZT} {n : Int32} {toll : Int32} {paid : Int64} {cash : Nat → Int64} {debts : Nat → Int32} {fallen : Nat → Int32} {rounds : Int32} {shares : Nat → Int64} {under : Int64} {table : Nat → Int64} {right : Nat → Int64} {tried : Nat → Int64} {falls : Nat → Int32} {rsize : Int32} {ringOf : Nat → Int32} {row : Nat → Int32} {found : Int32} {hh : Int64} {r : Nat} {a : Nat} {b : Nat}  (g0 : r < 3) (g1 : a < 4) (g2 : b < 4) : MM Z yX4_pair cX4_pair 4 (some .long) 0 [.ref (Z.2.2 10), .int (nI r), .int (nI a), .int (nI b)] (wR Z n toll paid cash debts fallen rounds shares under table right tried falls rsize ringOf row found hh) (some (.long (pr tried r a b))) (wR Z n toll paid cash debts fallen rounds shares under table right tried falls rsize ringOf row found hh) := by
  refine MM.intro (by decide) [some (.ref (Z.2.2 10)), some (.int (nI r)), some (.int (nI a)), some (.int (nI b))] rfl (Nat.le_of_ble_eq_true rfl) (fun X (h : OK Z X cX4_pair RX4 4 (rmd 0)) hr => ?_)
  refine g_aload_n (i := 0) h dX4_pair_0 rfl rfl (pc' := 1) rfl ?_
  refine gf_X4_33 h dX4_pair_1 (pc' := 4) rfl ?_
  refine g_iconst (v := nI 4) h dX4_pair_4 (by decide) (pc' := 5) rfl ?_
  refine g_iload_n (i := 1) h dX4_pair_5 rfl rfl (pc' := 6) rfl ?_
  refine g_imulN h dX4_pair_6 (pc' := 7) rfl ?_
  refine g_iload_n (i := 2) h dX4_pair_7 rfl rfl (pc' := 8) rfl ?_
  refine g_iaddN h dX4_pair_8 (pc' := 9) rfl ?_
  refine al_17 (j := (4 * r) + a) h dX4_pair_9 rfl (by omega) (pc' := 10) rfl ?_
  refine g_aload_n (i := 0) h dX4_pair_10 rfl rfl (pc' := 11) rfl ?_
  refine gf_X4_33 h dX4_pair_11 (pc' := 14) rfl ?_
  refine g_iconst (v := nI 4) h dX4_pair_14 (by decide) (pc' := 15) rfl ?_
  refine g_iload_n (i := 1) h dX4_pair_15 rfl rfl (pc' := 16) rfl ?_
  refine g_imulN h dX4_pair_16 (pc' := 17) rfl ?_
  refine g_iconst (v := nI 4) h dX4_pair_17 (by decide) (pc' := 18) rfl ?_
  refine g_iaddN h dX4_pair_18 (pc' := 19) rfl ?_
  refine g_iload_n (i := 3) h dX4_pair_19 rfl rfl (pc' := 20) rfl ?_
  refine g_iaddN h dX4_pair_20 (pc' := 21) rfl ?_
  refine al_17 (j := ((4 * r) + 4) + b) h dX4_pair_21 rfl (by omega) (pc' := 22) rfl ?_
  refine g_lmul h dX4_pair_22 (pc' := 23) rfl ?_
  refine g_aload_n (i := 0) h dX4_pair_23 rfl rfl (pc' := 24) rfl ?_
  refine gf_X4_33 h dX4_pair_24 (pc' := 27) rfl ?_
  refine g_iconst (v := nI 4) h dX4_pair_27 (by decide) (pc' := 28) rfl ?_
  refine g_iload_n (i := 1) h dX4_pair_28 rfl rfl (pc' := 29) rfl ?_
  refine g_imulN h dX4_pair_29 (pc' := 30) rfl ?_
  refine g_iload_n (i := 3) h dX4_pair_30 rfl rfl (pc' := 31) rfl ?_
  refine g_iaddN h dX4_pair_31 (pc' := 32) rfl ?_
  refine al_17 (j := (4 * r) + b) h dX4_pair_32 rfl (by omega) (pc' := 33) rfl ?_
  refine g_aload_n (i := 0) h dX4_pair_33 rfl rfl (pc' := 34) rfl ?_
  refine gf_X4_33 h dX4_pair_34 (pc' := 37) rfl ?_
  refine g_iconst (v := nI 4) h dX4_pair_37 (by decide) (pc' := 38) rfl ?_
  refine g_iload_n (i := 1) h dX4_pair_38 rfl rfl (pc' := 39) rfl ?_
  refine g_imulN h dX4_pair_39 (pc' := 40) rfl ?_
  refine g_iconst (v := nI 4) h dX4_pair_40 (by decide) (pc' := 41) rfl ?_
  refine g_iaddN h dX4_pair_41 (pc' := 42) rfl ?_
  refine g_iload_n (i := 2) h dX4_pair_42 rfl rfl (pc' := 43) rfl ?_
  refine g_iaddN h dX4_pair_43 (pc' := 44) rfl ?_
  refine al_17 (j := ((4 * r) + 4) + a) h dX4_pair_44 rfl (by omega) (pc' := 45) rfl ?_
  refine g_lmul h dX4_pair_45 (pc' := 46) rfl ?_
  refine g_lsub h dX4_pair_46 (pc' := 47) rfl ?_
  exact g_lret h hr dX4_pair_47 rfl rfl
set_option maxRecDepth 20000 in
set_option maxHeartbeats 4000000 in
theorem M_X4_worth {Z : ZT} {n : Int32} {toll : Int32} {paid : Int64} {cash : Nat → Int64} {debts : Nat → Int32} {fallen : Nat → Int32} {rounds : Int32} {shares : Nat → Int64} {under : Int64} {table : Nat → Int64} {right : Nat → Int64} {tried : Nat → Int64} {falls : Nat → Int32} {rsize : Int32} {ringOf : Nat → Int32} {row : Nat → Int32} {found : Int32} {hh : Int64} {c : Int32}   : MM Z yX4_worth cX4_worth 4 (some .long) 1 [.ref (Z.2.2 10), .int c] (wR Z n toll paid cash debts fallen rounds shares under table right tried falls rsize ringOf row found hh) (some (.long (dq (tW table right c tried 16)))) (wR Z n toll paid cash debts fallen rounds shares under table right (tW table right c tried 16) falls rsize ringOf row found hh) := by
  refine MM.intro (by decide) [some (.ref (Z.2.2 10)), some (.int c), none, none] rfl (Nat.le_of_ble_eq_true rfl) (fun X (h : OK Z X cX4_worth RX4 4 (rmd 1)) hr => ?_)
  refine g_iconst (v := nI 0) h dX4_worth_0 (by decide) (pc' := 1) rfl ?_
  refine g_istore2 h dX4_worth_1 rfl (by decide) (pc' := 2) rfl ?_
  refine GG.castW (lp (P := fun j => GG Z X 2 [some (.ref (Z.2.2 10)), some (.int c), some (.int (nI j)), none] [] (wR Z n toll paid cash debts fallen rounds shares under table right (tW table right c tried j) falls rsize ringOf row found hh)) 16 ?_ ?_) ⟨rfl, rfl, rfl, trivial⟩ rfl rfl
  · skip
    refine g_iload_n (i := 2) h dX4_worth_2 rfl rfl (pc' := 3) rfl ?_
    refine g_bipush (v := nI 16) h dX4_worth_3 (by decide) (pc' := 5) rfl ?_
    refine g_icmp_geT (tg := 44) h dX4_worth_5 (by decide) (Int32.le_refl _) ?_
    refine g_aload_n (i := 0) h dX4_worth_44 rfl rfl (pc' := 45) rfl ?_
    refine g_iconst (v := nI 0) h dX4_worth_45 (by decide) (pc' := 46) rfl ?_
    refine g_iconst (v := nI 0) h dX4_worth_46 (by decide) (pc' := 47) rfl ?_
    refine g_iconst (v := nI 1) h dX4_worth_47 (by decide) (pc' := 48) rfl ?_
    refine g_callV1 (q0 := 0) h dX4_worth_48 cf_X4_65 (M_X4_pair (r := 0) (a := 0) (b := 1) (by omega) (by omega) (by omega)) rfl rfl rfl rfl (by decide) rfl (Nat.le_of_ble_eq_true rfl) (pc' := 51) rfl ?_
    refine g_aload_n (i := 0) h dX4_worth_51 rfl rfl (pc' := 52) rfl ?_
    refine g_iconst (v := nI 2) h dX4_worth_52 (by decide) (pc' := 53) rfl ?_
    refine g_iconst (v := nI 2) h dX4_worth_53 (by decide) (pc' := 54) rfl ?_
    refine g_iconst (v := nI 3) h dX4_worth_54 (by decide) (pc' := 55) rfl ?_
    refine g_callV1 (q0 := 0) h dX4_worth_55 cf_X4_65 (M_X4_pair (r := 2) (a := 2) (b := 3) (by omega) (by omega) (by omega)) rfl rfl rfl rfl (by decide) rfl (Nat.le_of_ble_eq_true rfl) (pc' := 58) rfl ?_
    refine g_lmul h dX4_worth_58 (pc' := 59) rfl ?_
    refine g_aload_n (i := 0) h dX4_worth_59 rfl rfl (pc' := 60) rfl ?_
    refine g_iconst (v := nI 0) h dX4_worth_60 (by decide) (pc' := 61) rfl ?_
    refine g_iconst (v := nI 0) h dX4_worth_61 (by decide) (pc' := 62) rfl ?_
    refine g_iconst (v := nI 2) h dX4_worth_62 (by decide) (pc' := 63) rfl ?_
    refine g_callV1 (q0 := 0) h dX4_worth_63 cf_X4_65 (M_X4_pair (r := 0) (a := 0) (b := 2) (by omega) (by omega) (by omega)) rfl rfl rfl rfl (by decide) rfl (Nat.le_of_ble_eq_true rfl) (pc' := 66) rfl ?_
    refine g_aload_n (i := 0) h dX4_worth_66 rfl rfl (pc' := 67) rfl ?_
    refine g_iconst (v := nI 2) h dX4_worth_67 (by decide) (pc' := 68) rfl ?_
    refine g_iconst (v := nI 1) h dX4_worth_68 (by decide) (pc' := 69) rfl ?_
    refine g_iconst (v := nI 3) h dX4_worth_69 (by decide) (pc' := 70) rfl ?_
    refine g_callV1 (q0 := 0) h dX4_worth_70 cf_X4_65 (M_X4_pair (r := 2) (a := 1) (b := 3) (by omega) (by omega) (by omega)) rfl rfl rfl rfl (by decide) rfl (Nat.le_of_ble_eq_true rfl) (pc' := 73) rfl ?_
    refine g_lmul h dX4_worth_73 (pc' := 74) rfl ?_
    refine g_lsub h dX4_worth_74 (pc' := 75) rfl ?_
    refine g_aload_n (i := 0) h dX4_worth_75 rfl rfl (pc' := 76) rfl ?_
    refine g_iconst (v := nI 0) h dX4_worth_76 (by decide) (pc' := 77) rfl ?_
    refine g_iconst (v := nI 0) h dX4_worth_77 (by decide) (pc' := 78) rfl ?_
    refine g_iconst (v := nI 3) h dX4_worth_78 (by decide) (pc' := 79) rfl ?_
    refine g_callV1 (q0 := 0) h dX4_worth_79 cf_X4_65 (M_X4_pair (r := 0) (a := 0) (b := 3) (by omega) (by omega) (by omega)) rfl rfl rfl rfl (by decide) rfl (Nat.le_of_ble_eq_true rfl) (pc' := 82) rfl ?_
    refine g_aload_n (i := 0) h dX4_worth_82 rfl rfl (pc' := 83) rfl ?_
    refine g_iconst (v := nI 2) h dX4_worth_83 (by decide) (pc' := 84) rfl ?_
    refine g_iconst (v := nI 1) h dX4_worth_84 (by decide) (pc' := 85) rfl ?_
    refine g_iconst (v := nI 2) h dX4_worth_85 (by decide) (pc' := 86) rfl ?_
    refine g_callV1 (q0 := 0) h dX4_worth_86 cf_X4_65 (M_X4_pair (r := 2) (a := 1) (b := 2) (by omega) (by omega) (by omega)) rfl rfl rfl rfl (by decide) rfl (Nat.le_of_ble_eq_true rfl) (pc' := 89) rfl ?_
    refine g_lmul h dX4_worth_89 (pc' := 90) rfl ?_
    refine g_ladd h dX4_worth_90 (pc' := 91) rfl ?_
    refine g_lstore2 h dX4_worth_91 rfl (by decide) (pc' := 92) rfl ?_
    refine g_lload_n (i := 2) h dX4_worth_92 rfl rfl (pc' := 93) rfl ?_
    refine g_aload_n (i := 0) h dX4_worth_93 rfl rfl (pc' := 94) rfl ?_
    refine g_iconst (v := nI 0) h dX4_worth_94 (by decide) (pc' := 95) rfl ?_
    refine g_iconst (v := nI 1) h dX4_worth_95 (by decide) (pc' := 96) rfl ?_
    refine g_iconst (v := nI 2) h dX4_worth_96 (by decide) (pc' := 97) rfl ?_
    refine g_callV1 (q0 := 0) h dX4_worth_97 cf_X4_65 (M_X4_pair (r := 0) (a := 1) (b := 2) (by omega) (by omega) (by omega)) rfl rfl rfl rfl (by decide) rfl (Nat.le_of_ble_eq_true rfl) (pc' := 100) rfl ?_
    refine g_aload_n (i := 0) h dX4_worth_100 rfl rfl (pc' := 101) rfl ?_
    refine g_iconst (v := nI 2) h dX4_worth_101 (by decide) (pc' := 102) rfl ?_
    refine g_iconst (v := nI 0) h dX4_worth_102 (by decide) (pc' := 103) rfl ?_
    refine g_iconst (v := nI 3) h dX4_worth_103 (by decide) (pc' := 104) rfl ?_
    refine g_callV1 (q0 := 0) h dX4_worth_104 cf_X4_65 (M_X4_pair (r := 2) (a := 0) (b := 3) (by omega) (by omega) (by omega)) rfl rfl rfl rfl (by decide) rfl (Nat.le_of_ble_eq_true rfl) (pc' := 107) rfl ?_
    refine g_lmul h dX4_worth_107 (pc' := 108) rfl ?_
    refine g_ladd h dX4_worth_108 (pc' := 109) rfl ?_
    refine g_aload_n (i := 0) h dX4_worth_109 rfl rfl (pc' := 110) rfl ?_
    refine g_iconst (v := nI 0) h dX4_worth_110 (by decide) (pc' := 111) rfl ?_
    refine g_iconst (v := nI 1) h dX4_worth_111 (by decide) (pc' := 112) rfl ?_
    refine g_iconst (v := nI 3) h dX4_worth_112 (by decide) (pc' := 113) rfl ?_
    refine g_callV1 (q0 := 0) h dX4_worth_113 cf_X4_65 (M_X4_pair (r := 0) (a := 1) (b := 3) (by omega) (by omega) (by omega)) rfl rfl rfl rfl (by decide) rfl (Nat.le_of_ble_eq_true rfl) (pc' := 116) rfl ?_
    refine g_aload_n (i := 0) h dX4_worth_116 rfl rfl (pc' := 117) rfl ?_
    refine g_iconst (v := nI 2) h dX4_worth_117 (by decide) (pc' := 118) rfl ?_
    refine g_iconst (v := nI 0) h dX4_worth_118 (by decide) (pc' := 119) rfl ?_
    refine g_iconst (v := nI 2) h dX4_worth_119 (by decide) (pc' := 120) rfl ?_
    refine g_callV1 (q0 := 0) h dX4_worth_120 cf_X4_65 (M_X4_pair (r := 2) (a := 0) (b := 2) (by omega) (by omega) (by omega)) rfl rfl rfl rfl (by decide) rfl (Nat.le_of_ble_eq_true rfl) (pc' := 123) rfl ?_
    refine g_lmul h dX4_worth_123 (pc' := 124) rfl ?_
    refine g_lsub h dX4_worth_124 (pc' := 125) rfl ?_
    refine g_aload_n (i := 0) h dX4_worth_125 rfl rfl (pc' := 126) rfl ?_
    refine g_iconst (v := nI 0) h dX4_worth_126 (by decide) (pc' := 127) rfl ?_
    refine g_iconst (v := nI 2) h dX4_worth_127 (by decide) (pc' := 128) rfl ?_
    refine g_iconst (v := nI 3) h dX4_worth_128 (by decide) (pc' := 129) rfl ?_
    refine g_callV1 (q0 := 0) h dX4_worth_129 cf_X4_65 (M_X4_pair (r := 0) (a := 2) (b := 3) (by omega) (by omega) (by omega)) rfl rfl rfl rfl (by decide) rfl (Nat.le_of_ble_eq_true rfl) (pc' := 132) rfl ?_
    refine g_aload_n (i := 0) h dX4_worth_132 rfl rfl (pc' := 133) rfl ?_
    refine g_iconst (v := nI 2) h dX4_worth_133 (by decide) (pc' := 134) rfl ?_
    refine g_iconst (v := nI 0) h dX4_worth_134 (by decide) (pc' := 135) rfl ?_
    refine g_iconst (v := nI 1) h dX4_worth_135 (by decide) (pc' := 136) rfl ?_
    refine g_callV1 (q0 := 0) h dX4_worth_136 cf_X4_65 (M_X4_pair (r := 2) (a := 0) (b := 1) (by omega) (by omega) (by omega)) rfl rfl rfl rfl (by decide) rfl (Nat.le_of_ble_eq_true rfl) (pc' := 139) rfl ?_
    refine g_lmul h dX4_worth_139 (pc' := 140) rfl ?_
    refine g_ladd h dX4_worth_140 (pc' := 141) rfl ?_
    exact g_lret h hr dX4_worth_141 rfl rfl
  · intro j hj ih2
    refine g_iload_n (i := 2) h dX4_worth_2 rfl rfl (pc' := 3) rfl ?_
    refine g_bipush (v := nI 16) h dX4_worth_3 (by decide) (pc' := 5) rfl ?_
    refine g_icmp_geF (tg := 44) h dX4_worth_5 (by decide) (pc' := 8) rfl (nI_ge hj (by omega)) ?_
    refine g_aload_n (i := 0) h dX4_worth_8 rfl rfl (pc' := 9) rfl ?_
    refine gf_X4_33 h dX4_worth_9 (pc' := 12) rfl ?_
    refine g_iload_n (i := 2) h dX4_worth_12 rfl rfl (pc' := 13) rfl ?_
    refine g_iload_n (i := 2) h dX4_worth_13 rfl rfl (pc' := 14) rfl ?_
    refine g_iconst (v := nI 4) h dX4_worth_14 (by decide) (pc' := 15) rfl ?_
    refine g_iremN h dX4_worth_15 (by omega) (by omega) (by omega) (pc' := 16) rfl ?_
    refine g_iload_n (i := 1) h dX4_worth_16 rfl rfl (pc' := 17) rfl ?_
    refine g_icmp_ne (tg := 31) h dX4_worth_17 (by decide) (pc' := 20) rfl (fun c1 => ?_) (fun c1 => ?_)
    · skip
      refine g_aload_n (i := 0) h dX4_worth_31 rfl rfl (pc' := 32) rfl ?_
      refine gf_X4_27 h dX4_worth_32 (pc' := 35) rfl ?_
      refine g_iload_n (i := 2) h dX4_worth_35 rfl rfl (pc' := 36) rfl ?_
      refine al_15 (j := j) h dX4_worth_36 rfl (by omega) (pc' := 37) rfl ?_
      refine as_17 (j := j) h dX4_worth_37 rfl (by omega) (pc' := 38) rfl ?_
      refine g_iinc2 (v := nI (j + 1)) h dX4_worth_38 rfl (inc1 j) (by decide) (pc' := 41) rfl ?_
      refine g_goto (pc' := 2) h dX4_worth_41 (by decide) ?_
      exact GG.castW ih2 ⟨rfl, rfl, rfl, trivial⟩ rfl (by simp only [tW, if_neg c1])
    · skip
      refine g_aload_n (i := 0) h dX4_worth_20 rfl rfl (pc' := 21) rfl ?_
      refine gf_X4_30 h dX4_worth_21 (pc' := 24) rfl ?_
      refine g_iload_n (i := 2) h dX4_worth_24 rfl rfl (pc' := 25) rfl ?_
      refine g_iconst (v := nI 4) h dX4_worth_25 (by decide) (pc' := 26) rfl ?_
      refine g_idivN h dX4_worth_26 (by omega) (by omega) (by omega) (pc' := 27) rfl ?_
      refine al_16 (j := j / 4) h dX4_worth_27 rfl (by omega) (pc' := 28) rfl ?_
      refine g_goto (pc' := 37) h dX4_worth_28 (by decide) ?_
      refine as_17 (j := j) h dX4_worth_37 rfl (by omega) (pc' := 38) rfl ?_
      refine g_iinc2 (v := nI (j + 1)) h dX4_worth_38 rfl (inc1 j) (by decide) (pc' := 41) rfl ?_
      refine g_goto (pc' := 2) h dX4_worth_41 (by decide) ?_
      exact GG.castW ih2 ⟨rfl, rfl, rfl, trivial⟩ rfl (by simp only [tW, if_pos c1])
set_option maxRecDepth 20000 in
set_option maxHeartbeats 4000000 in
theorem M_X4_solve {Z : ZT} {m : Nat} {toll : Int32} {paid : Int64} {cash : Nat → Int64} {debts : Nat → Int32} {fallen : Nat → Int32} {rounds : Int32} {shares : Nat → Int64} {under : Int64} {table : Nat → Int64} {right : Nat → Int64} {tried : Nat → Int64} {falls : Nat → Int32} {rsize : Int32} {ringOf : Nat → Int32} {row : Nat → Int32} {found : Int32} {hh : Int64}   (g0 : m ≤ 4) : MM Z yX4_solve cX4_solve 6 none 2 [.ref (Z.2.2 10)] (wR Z (nI m) toll paid cash debts fallen rounds shares under table right tried falls rsize ringOf row found hh) none (wR Z (nI m) toll paid cash debts fallen rounds (sR (eqs m toll cash debts fallen (table, right) 4).1 (eqs m toll cash debts fallen (table, right) 4).2 tried shares 4) (dq (tW (eqs m toll cash debts fallen (table, right) 4).1 (eqs m toll cash debts fallen (table, right) 4).2 (-1) tried 16)) ((eqs m toll cash debts fallen (table, right) 4).1) ((eqs m toll cash debts fallen (table, right) 4).2) (trs (eqs m toll cash debts fallen (table, right) 4).1 (eqs m toll cash debts fallen (table, right) 4).2 tried 4) falls rsize ringOf row found hh) := by
  refine MM.intro (by decide) [some (.ref (Z.2.2 10)), none, none, none, none, none] rfl (Nat.le_of_ble_eq_true rfl) (fun X (h : OK Z X cX4_solve RX4 6 (rmd 2)) hr => ?_)
  refine g_iconst (v := nI 0) h dX4_solve_0 (by decide) (pc' := 1) rfl ?_
  refine g_istore1 h dX4_solve_1 rfl (by decide) (pc' := 2) rfl ?_
  refine GG.castW (lp (P := fun i => GG Z X 2 [some (.ref (Z.2.2 10)), some (.int (nI i)), none, none, none, none] [] (wR Z (nI m) toll paid cash debts fallen rounds shares under ((eqs m toll cash debts fallen (table, right) i).1) ((eqs m toll cash debts fallen (table, right) i).2) tried falls rsize ringOf row found hh)) 4 ?_ ?_) ⟨rfl, rfl, trivial⟩ rfl rfl
  · skip
    refine g_iload_n (i := 1) h dX4_solve_2 rfl rfl (pc' := 3) rfl ?_
    refine g_iconst (v := nI 4) h dX4_solve_3 (by decide) (pc' := 4) rfl ?_
    refine g_icmp_geT (tg := 164) h dX4_solve_4 (by decide) (Int32.le_refl _) ?_
    refine g_aload_n (i := 0) h dX4_solve_164 rfl rfl (pc' := 165) rfl ?_
    refine g_aload_n (i := 0) h dX4_solve_165 rfl rfl (pc' := 166) rfl ?_
    refine g_iconst (v := (-1)) h dX4_solve_166 (by decide) (pc' := 167) rfl ?_
    refine g_callV1 (q0 := 0) h dX4_solve_167 cf_X4_71 (M_X4_worth (c := (-1)) ) rfl rfl rfl rfl (by decide) rfl (Nat.le_of_ble_eq_true rfl) (pc' := 170) rfl ?_
    refine pf_X4_75 h dX4_solve_170 (pc' := 173) rfl ?_
    refine g_iconst (v := nI 0) h dX4_solve_173 (by decide) (pc' := 174) rfl ?_
    refine g_istore1 h dX4_solve_174 rfl (by decide) (pc' := 175) rfl ?_
    refine GG.castW (lp (P := fun i => GG Z X 175 [some (.ref (Z.2.2 10)), some (.int (nI i)), none, none, none, none] [] (wR Z (nI m) toll paid cash debts fallen rounds (sR (eqs m toll cash debts fallen (table, right) 4).1 (eqs m toll cash debts fallen (table, right) 4).2 tried shares i) (dq (tW ((eqs m toll cash debts fallen (table, right) 4).1) ((eqs m toll cash debts fallen (table, right) 4).2) (-1) tried 16)) ((eqs m toll cash debts fallen (table, right) 4).1) ((eqs m toll cash debts fallen (table, right) 4).2) (trs (eqs m toll cash debts fallen (table, right) 4).1 (eqs m toll cash debts fallen (table, right) 4).2 tried i) falls rsize ringOf row found hh)) 4 ?_ ?_) ⟨rfl, rfl, trivial⟩ rfl rfl
    · skip
      refine g_iload_n (i := 1) h dX4_solve_175 rfl rfl (pc' := 176) rfl ?_
      refine g_iconst (v := nI 4) h dX4_solve_176 (by decide) (pc' := 177) rfl ?_
      refine g_icmp_geT (tg := 197) h dX4_solve_177 (by decide) (Int32.le_refl _) ?_
      exact g_vret h hr dX4_solve_197 rfl rfl
    · intro i hi ih175
      refine g_iload_n (i := 1) h dX4_solve_175 rfl rfl (pc' := 176) rfl ?_
      refine g_iconst (v := nI 4) h dX4_solve_176 (by decide) (pc' := 177) rfl ?_
      refine g_icmp_geF (tg := 197) h dX4_solve_177 (by decide) (pc' := 180) rfl (nI_ge hi (by omega)) ?_
      refine g_aload_n (i := 0) h dX4_solve_180 rfl rfl (pc' := 181) rfl ?_
      refine gf_X4_24 h dX4_solve_181 (pc' := 184) rfl ?_
      refine g_iload_n (i := 1) h dX4_solve_184 rfl rfl (pc' := 185) rfl ?_
      refine g_aload_n (i := 0) h dX4_solve_185 rfl rfl (pc' := 186) rfl ?_
      refine g_iload_n (i := 1) h dX4_solve_186 rfl rfl (pc' := 187) rfl ?_
      refine g_callV1 (q0 := 0) h dX4_solve_187 cf_X4_71 (M_X4_worth (c := nI i) ) rfl rfl rfl rfl (by decide) rfl (Nat.le_of_ble_eq_true rfl) (pc' := 190) rfl ?_
      refine as_14 (j := i) h dX4_solve_190 rfl (by omega) (pc' := 191) rfl ?_
      refine g_iinc1 (v := nI (i + 1)) h dX4_solve_191 rfl (inc1 i) (by decide) (pc' := 194) rfl ?_
      refine g_goto (pc' := 175) h dX4_solve_194 (by decide) ?_
      exact GG.castW ih175 ⟨rfl, rfl, trivial⟩ rfl rfl
  · intro i hi ih2
    refine g_iload_n (i := 1) h dX4_solve_2 rfl rfl (pc' := 3) rfl ?_
    refine g_iconst (v := nI 4) h dX4_solve_3 (by decide) (pc' := 4) rfl ?_
    refine g_icmp_geF (tg := 164) h dX4_solve_4 (by decide) (pc' := 7) rfl (nI_ge hi (by omega)) ?_
    refine g_iload_n (i := 1) h dX4_solve_7 rfl rfl (pc' := 8) rfl ?_
    refine g_aload_n (i := 0) h dX4_solve_8 rfl rfl (pc' := 9) rfl ?_
    refine gf_X4_7 h dX4_solve_9 (pc' := 12) rfl ?_
    refine g_icmp_ge (tg := 28) h dX4_solve_12 (by decide) (pc' := 15) rfl (fun c1 => ?_) (fun c1 => ?_)
    · skip
      refine g_iconst (v := nI 0) h dX4_solve_28 (by decide) (pc' := 29) rfl ?_
      refine g_istore2 h dX4_solve_29 rfl (by decide) (pc' := 30) rfl ?_
      first | have hf : fR m fallen i := ⟨c1, c2⟩ | have hf : ¬ fR m fallen i := (fun q => (by first | exact q.1 c1 | exact q.2 c2))
      refine g_aload_n (i := 0) h dX4_solve_30 rfl rfl (pc' := 31) rfl ?_
      refine gf_X4_30 h dX4_solve_31 (pc' := 34) rfl ?_
      refine g_iload_n (i := 1) h dX4_solve_34 rfl rfl (pc' := 35) rfl ?_
      refine g_iload_n (i := 2) h dX4_solve_35 rfl rfl (pc' := 36) rfl ?_
      refine g_if_eqT (tg := 57) h dX4_solve_36 (by decide) (by decide) ?_
      refine g_lconst (v := 1) h dX4_solve_57 (by decide) (pc' := 58) rfl ?_
      refine as_16 (j := i) h dX4_solve_58 rfl (by omega) (pc' := 59) rfl ?_
      refine g_iconst (v := nI 0) h dX4_solve_59 (by decide) (pc' := 60) rfl ?_
      refine g_istore3 h dX4_solve_60 rfl (by decide) (pc' := 61) rfl ?_
      refine GG.castW (lp (P := fun j => GG Z X 61 [some (.ref (Z.2.2 10)), some (.int (nI i)), some (.int (nI 0)), some (.int (nI j)), none, none] [] (wR Z (nI m) toll paid cash debts fallen rounds shares under (tb m toll debts fallen i ((eqs m toll cash debts fallen (table, right) i).1) j) (vp_updL ((eqs m toll cash debts fallen (table, right) i).2) i 1) tried falls rsize ringOf row found hh)) 4 ?_ ?_) ⟨rfl, rfl, rfl, rfl, trivial⟩ rfl rfl
      · skip
        refine g_iload_n (i := 3) h dX4_solve_61 rfl rfl (pc' := 62) rfl ?_
        refine g_iconst (v := nI 4) h dX4_solve_62 (by decide) (pc' := 63) rfl ?_
        refine g_icmp_geT (tg := 158) h dX4_solve_63 (by decide) (Int32.le_refl _) ?_
        refine g_iinc1 (v := nI (i + 1)) h dX4_solve_158 rfl (inc1 i) (by decide) (pc' := 161) rfl ?_
        refine g_goto (pc' := 2) h dX4_solve_161 (by decide) ?_
        exact GG.castW ih2 ⟨rfl, rfl, trivial⟩ rfl (by first | (simp only [eqs, rG, if_pos hf]; done) | (simp only [eqs, rG, if_neg hf]; done))
      · intro j hj ih61
        refine g_iload_n (i := 3) h dX4_solve_61 rfl rfl (pc' := 62) rfl ?_
        refine g_iconst (v := nI 4) h dX4_solve_62 (by decide) (pc' := 63) rfl ?_
        refine g_icmp_geF (tg := 158) h dX4_solve_63 (by decide) (pc' := 66) rfl (nI_ge hj (by omega)) ?_
        refine g_iload_n (i := 2) h dX4_solve_66 rfl rfl (pc' := 67) rfl ?_
        refine g_if_eqT (tg := 92) h dX4_solve_67 (by decide) (by decide) ?_
        refine g_lconst (v := 0) h dX4_solve_92 (by decide) (pc' := 93) rfl ?_
        refine g_lstore4 h dX4_solve_93 rfl (by decide) (pc' := 95) rfl ?_
        refine g_aload_n (i := 0) h dX4_solve_95 rfl rfl (pc' := 96) rfl ?_
        refine gf_X4_27 h dX4_solve_96 (pc' := 99) rfl ?_
        refine g_iconst (v := nI 4) h dX4_solve_99 (by decide) (pc' := 100) rfl ?_
        refine g_iload_n (i := 1) h dX4_solve_100 rfl rfl (pc' := 101) rfl ?_
        refine g_imulN h dX4_solve_101 (pc' := 102) rfl ?_
        refine g_iload_n (i := 3) h dX4_solve_102 rfl rfl (pc' := 103) rfl ?_
        refine g_iaddN h dX4_solve_103 (pc' := 104) rfl ?_
        refine g_iload_n (i := 3) h dX4_solve_104 rfl rfl (pc' := 105) rfl ?_
        refine g_iload_n (i := 1) h dX4_solve_105 rfl rfl (pc' := 106) rfl ?_
        refine g_icmp_ne (tg := 130) h dX4_solve_106 (by decide) (pc' := 109) rfl (fun c2 => ?_) (fun c2 => ?_)
        · skip
          refine g_lconst (v := 0) h dX4_solve_130 (by decide) (pc' := 131) rfl ?_
          refine g_iload_n (i := 2) h dX4_solve_131 rfl rfl (pc' := 132) rfl ?_
          refine g_if_eqT (tg := 149) h dX4_solve_132 (by decide) (by decide) ?_
          refine g_lconst (v := 0) h dX4_solve_149 (by decide) (pc' := 150) rfl ?_
          refine g_lsub h dX4_solve_150 (pc' := 151) rfl ?_
          refine as_15 (j := (4 * i) + j) h dX4_solve_151 rfl (by omega) (pc' := 152) rfl ?_
          refine g_iinc3 (v := nI (j + 1)) h dX4_solve_152 rfl (inc1 j) (by decide) (pc' := 155) rfl ?_
          refine g_goto (pc' := 61) h dX4_solve_155 (by decide) ?_
          exact GG.castW ih61 ⟨rfl, rfl, rfl, rfl, trivial⟩ rfl (by first | (simp only [tb, tE, if_pos hf, if_pos c1, if_neg c2]; done) | (simp only [tb, tE, if_neg hf, if_pos c1, if_neg c2]; done) | (simp only [tb, tE, if_neg hf]; done))
        · skip
          refine g_iload_n (i := 2) h dX4_solve_109 rfl rfl (pc' := 110) rfl ?_
          refine g_if_eqT (tg := 126) h dX4_solve_110 (by decide) (by decide) ?_
          refine g_lconst (v := 1) h dX4_solve_126 (by decide) (pc' := 127) rfl ?_
          refine g_goto (pc' := 131) h dX4_solve_127 (by decide) ?_
          refine g_iload_n (i := 2) h dX4_solve_131 rfl rfl (pc' := 132) rfl ?_
          refine g_if_eqT (tg := 149) h dX4_solve_132 (by decide) (by decide) ?_
          refine g_lconst (v := 0) h dX4_solve_149 (by decide) (pc' := 150) rfl ?_
          refine g_lsub h dX4_solve_150 (pc' := 151) rfl ?_
          refine as_15 (j := (4 * i) + j) h dX4_solve_151 rfl (by omega) (pc' := 152) rfl ?_
          refine g_iinc3 (v := nI (j + 1)) h dX4_solve_152 rfl (inc1 j) (by decide) (pc' := 155) rfl ?_
          refine g_goto (pc' := 61) h dX4_solve_155 (by decide) ?_
          exact GG.castW ih61 ⟨rfl, rfl, rfl, rfl, trivial⟩ rfl (by first | (simp only [tb, tE, if_pos hf, if_pos c1, if_pos c2]; done) | (simp only [tb, tE, if_neg hf, if_pos c1, if_pos c2]; done) | (simp only [tb, tE, if_neg hf]; done))
    · skip
      refine g_aload_n (i := 0) h dX4_solve_15 rfl rfl (pc' := 16) rfl ?_
      refine gf_X4_21 h dX4_solve_16 (pc' := 19) rfl ?_
      refine g_iload_n (i := 1) h dX4_solve_19 rfl rfl (pc' := 20) rfl ?_
      refine al_13 (j := i) h dX4_solve_20 rfl (by omega) (pc' := 21) rfl ?_
      refine g_if_le (tg := 28) h dX4_solve_21 (by decide) (pc' := 24) rfl (fun c2 => ?_) (fun c2 => ?_)
      · skip
        refine g_iconst (v := nI 0) h dX4_solve_28 (by decide) (pc' := 29) rfl ?_
        refine g_istore2 h dX4_solve_29 rfl (by decide) (pc' := 30) rfl ?_
        first | have hf : fR m fallen i := ⟨c1, c2⟩ | have hf : ¬ fR m fallen i := (fun q => (by first | exact q.1 c1 | exact q.2 c2))
        refine g_aload_n (i := 0) h dX4_solve_30 rfl rfl (pc' := 31) rfl ?_
        refine gf_X4_30 h dX4_solve_31 (pc' := 34) rfl ?_
        refine g_iload_n (i := 1) h dX4_solve_34 rfl rfl (pc' := 35) rfl ?_
        refine g_iload_n (i := 2) h dX4_solve_35 rfl rfl (pc' := 36) rfl ?_
        refine g_if_eqT (tg := 57) h dX4_solve_36 (by decide) (by decide) ?_
        refine g_lconst (v := 1) h dX4_solve_57 (by decide) (pc' := 58) rfl ?_
        refine as_16 (j := i) h dX4_solve_58 rfl (by omega) (pc' := 59) rfl ?_
        refine g_iconst (v := nI 0) h dX4_solve_59 (by decide) (pc' := 60) rfl ?_
        refine g_istore3 h dX4_solve_60 rfl (by decide) (pc' := 61) rfl ?_
        refine GG.castW (lp (P := fun j => GG Z X 61 [some (.ref (Z.2.2 10)), some (.int (nI i)), some (.int (nI 0)), some (.int (nI j)), none, none] [] (wR Z (nI m) toll paid cash debts fallen rounds shares under (tb m toll debts fallen i ((eqs m toll cash debts fallen (table, right) i).1) j) (vp_updL ((eqs m toll cash debts fallen (table, right) i).2) i 1) tried falls rsize ringOf row found hh)) 4 ?_ ?_) ⟨rfl, rfl, rfl, rfl, trivial⟩ rfl rfl
        · skip
          refine g_iload_n (i := 3) h dX4_solve_61 rfl rfl (pc' := 62) rfl ?_
          refine g_iconst (v := nI 4) h dX4_solve_62 (by decide) (pc' := 63) rfl ?_
          refine g_icmp_geT (tg := 158) h dX4_solve_63 (by decide) (Int32.le_refl _) ?_
          refine g_iinc1 (v := nI (i + 1)) h dX4_solve_158 rfl (inc1 i) (by decide) (pc' := 161) rfl ?_
          refine g_goto (pc' := 2) h dX4_solve_161 (by decide) ?_
          exact GG.castW ih2 ⟨rfl, rfl, trivial⟩ rfl (by first | (simp only [eqs, rG, if_pos hf]; done) | (simp only [eqs, rG, if_neg hf]; done))
        · intro j hj ih61
          refine g_iload_n (i := 3) h dX4_solve_61 rfl rfl (pc' := 62) rfl ?_
          refine g_iconst (v := nI 4) h dX4_solve_62 (by decide) (pc' := 63) rfl ?_
          refine g_icmp_geF (tg := 158) h dX4_solve_63 (by decide) (pc' := 66) rfl (nI_ge hj (by omega)) ?_
          refine g_iload_n (i := 2) h dX4_solve_66 rfl rfl (pc' := 67) rfl ?_
          refine g_if_eqT (tg := 92) h dX4_solve_67 (by decide) (by decide) ?_
          refine g_lconst (v := 0) h dX4_solve_92 (by decide) (pc' := 93) rfl ?_
          refine g_lstore4 h dX4_solve_93 rfl (by decide) (pc' := 95) rfl ?_
          refine g_aload_n (i := 0) h dX4_solve_95 rfl rfl (pc' := 96) rfl ?_
          refine gf_X4_27 h dX4_solve_96 (pc' := 99) rfl ?_
          refine g_iconst (v := nI 4) h dX4_solve_99 (by decide) (pc' := 100) rfl ?_
          refine g_iload_n (i := 1) h dX4_solve_100 rfl rfl (pc' := 101) rfl ?_
          refine g_imulN h dX4_solve_101 (pc' := 102) rfl ?_
          refine g_iload_n (i := 3) h dX4_solve_102 rfl rfl (pc' := 103) rfl ?_
          refine g_iaddN h dX4_solve_103 (pc' := 104) rfl ?_
          refine g_iload_n (i := 3) h dX4_solve_104 rfl rfl (pc' := 105) rfl ?_
          refine g_iload_n (i := 1) h dX4_solve_105 rfl rfl (pc' := 106) rfl ?_
          refine g_icmp_ne (tg := 130) h dX4_solve_106 (by decide) (pc' := 109) rfl (fun c3 => ?_) (fun c3 => ?_)
          · skip
            refine g_lconst (v := 0) h dX4_solve_130 (by decide) (pc' := 131) rfl ?_
            refine g_iload_n (i := 2) h dX4_solve_131 rfl rfl (pc' := 132) rfl ?_
            refine g_if_eqT (tg := 149) h dX4_solve_132 (by decide) (by decide) ?_
            refine g_lconst (v := 0) h dX4_solve_149 (by decide) (pc' := 150) rfl ?_
            refine g_lsub h dX4_solve_150 (pc' := 151) rfl ?_
            refine as_15 (j := (4 * i) + j) h dX4_solve_151 rfl (by omega) (pc' := 152) rfl ?_
            refine g_iinc3 (v := nI (j + 1)) h dX4_solve_152 rfl (inc1 j) (by decide) (pc' := 155) rfl ?_
            refine g_goto (pc' := 61) h dX4_solve_155 (by decide) ?_
            exact GG.castW ih61 ⟨rfl, rfl, rfl, rfl, trivial⟩ rfl (by first | (simp only [tb, tE, if_pos hf, if_neg c1, if_pos c2, if_neg c3]; done) | (simp only [tb, tE, if_neg hf, if_neg c1, if_pos c2, if_neg c3]; done) | (simp only [tb, tE, if_neg hf]; done))
          · skip
            refine g_iload_n (i := 2) h dX4_solve_109 rfl rfl (pc' := 110) rfl ?_
            refine g_if_eqT (tg := 126) h dX4_solve_110 (by decide) (by decide) ?_
            refine g_lconst (v := 1) h dX4_solve_126 (by decide) (pc' := 127) rfl ?_
            refine g_goto (pc' := 131) h dX4_solve_127 (by decide) ?_
            refine g_iload_n (i := 2) h dX4_solve_131 rfl rfl (pc' := 132) rfl ?_
            refine g_if_eqT (tg := 149) h dX4_solve_132 (by decide) (by decide) ?_
            refine g_lconst (v := 0) h dX4_solve_149 (by decide) (pc' := 150) rfl ?_
            refine g_lsub h dX4_solve_150 (pc' := 151) rfl ?_
            refine as_15 (j := (4 * i) + j) h dX4_solve_151 rfl (by omega) (pc' := 152) rfl ?_
            refine g_iinc3 (v := nI (j + 1)) h dX4_solve_152 rfl (inc1 j) (by decide) (pc' := 155) rfl ?_
            refine g_goto (pc' := 61) h dX4_solve_155 (by decide) ?_
            exact GG.castW ih61 ⟨rfl, rfl, rfl, rfl, trivial⟩ rfl (by first | (simp only [tb, tE, if_pos hf, if_neg c1, if_pos c2, if_pos c3]; done) | (simp only [tb, tE, if_neg hf, if_neg c1, if_pos c2, if_pos c3]; done) | (simp only [tb, tE, if_neg hf]; done))
      · skip
        refine g_iconst (v := nI 1) h dX4_solve_24 (by decide) (pc' := 25) rfl ?_
        refine g_goto (pc' := 29) h dX4_solve_25 (by decide) ?_
        refine g_istore2 h dX4_solve_29 rfl (by decide) (pc' := 30) rfl ?_
        first | have hf : fR m fallen i := ⟨c1, c2⟩ | have hf : ¬ fR m fallen i := (fun q => (by first | exact q.1 c1 | exact q.2 c2))
        refine g_aload_n (i := 0) h dX4_solve_30 rfl rfl (pc' := 31) rfl ?_
        refine gf_X4_30 h dX4_solve_31 (pc' := 34) rfl ?_
        refine g_iload_n (i := 1) h dX4_solve_34 rfl rfl (pc' := 35) rfl ?_
        refine g_iload_n (i := 2) h dX4_solve_35 rfl rfl (pc' := 36) rfl ?_
        refine g_if_eqF (tg := 57) h dX4_solve_36 (by decide) (pc' := 39) rfl (by decide) ?_
        refine g_bipush (v := nI 10) h dX4_solve_39 (by decide) (pc' := 41) rfl ?_
        refine g_aload_n (i := 0) h dX4_solve_41 rfl rfl (pc' := 42) rfl ?_
        refine gf_X4_50 h dX4_solve_42 (pc' := 45) rfl ?_
        refine g_isub h dX4_solve_45 (pc' := 46) rfl ?_
        refine g_i2l h dX4_solve_46 (pc' := 47) rfl ?_
        refine g_aload_n (i := 0) h dX4_solve_47 rfl rfl (pc' := 48) rfl ?_
        refine gf_X4_13 h dX4_solve_48 (pc' := 51) rfl ?_
        refine g_iload_n (i := 1) h dX4_solve_51 rfl rfl (pc' := 52) rfl ?_
        refine al_11 (j := i) h dX4_solve_52 rfl (by omega) (pc' := 53) rfl ?_
        refine g_lmul h dX4_solve_53 (pc' := 54) rfl ?_
        refine g_goto (pc' := 58) h dX4_solve_54 (by decide) ?_
        refine as_16 (j := i) h dX4_solve_58 rfl (by omega) (pc' := 59) rfl ?_
        refine g_iconst (v := nI 0) h dX4_solve_59 (by decide) (pc' := 60) rfl ?_
        refine g_istore3 h dX4_solve_60 rfl (by decide) (pc' := 61) rfl ?_
        refine GG.castW (lp (P := fun j => GG Z X 61 [some (.ref (Z.2.2 10)), some (.int (nI i)), some (.int (nI 1)), some (.int (nI j)), none, none] [] (wR Z (nI m) toll paid cash debts fallen rounds shares under (tb m toll debts fallen i ((eqs m toll cash debts fallen (table, right) i).1) j) (vp_updL ((eqs m toll cash debts fallen (table, right) i).2) i ((((nI 10) - toll).toInt64) * (cash i))) tried falls rsize ringOf row found hh)) 4 ?_ ?_) ⟨rfl, rfl, rfl, rfl, trivial⟩ rfl rfl
        · skip
          refine g_iload_n (i := 3) h dX4_solve_61 rfl rfl (pc' := 62) rfl ?_
          refine g_iconst (v := nI 4) h dX4_solve_62 (by decide) (pc' := 63) rfl ?_
          refine g_icmp_geT (tg := 158) h dX4_solve_63 (by decide) (Int32.le_refl _) ?_
          refine g_iinc1 (v := nI (i + 1)) h dX4_solve_158 rfl (inc1 i) (by decide) (pc' := 161) rfl ?_
          refine g_goto (pc' := 2) h dX4_solve_161 (by decide) ?_
          exact GG.castW ih2 ⟨rfl, rfl, trivial⟩ rfl (by first | (simp only [eqs, rG, if_pos hf]; done) | (simp only [eqs, rG, if_neg hf]; done))
        · intro j hj ih61
          refine g_iload_n (i := 3) h dX4_solve_61 rfl rfl (pc' := 62) rfl ?_
          refine g_iconst (v := nI 4) h dX4_solve_62 (by decide) (pc' := 63) rfl ?_
          refine g_icmp_geF (tg := 158) h dX4_solve_63 (by decide) (pc' := 66) rfl (nI_ge hj (by omega)) ?_
          refine g_iload_n (i := 2) h dX4_solve_66 rfl rfl (pc' := 67) rfl ?_
          refine g_if_eqF (tg := 92) h dX4_solve_67 (by decide) (pc' := 70) rfl (by decide) ?_
          refine g_iload_n (i := 3) h dX4_solve_70 rfl rfl (pc' := 71) rfl ?_
          refine g_aload_n (i := 0) h dX4_solve_71 rfl rfl (pc' := 72) rfl ?_
          refine gf_X4_7 h dX4_solve_72 (pc' := 75) rfl ?_
          refine g_icmp_ge (tg := 92) h dX4_solve_75 (by decide) (pc' := 78) rfl (fun c3 => ?_) (fun c3 => ?_)
          · skip
            refine g_lconst (v := 0) h dX4_solve_92 (by decide) (pc' := 93) rfl ?_
            refine g_lstore4 h dX4_solve_93 rfl (by decide) (pc' := 95) rfl ?_
            refine g_aload_n (i := 0) h dX4_solve_95 rfl rfl (pc' := 96) rfl ?_
            refine gf_X4_27 h dX4_solve_96 (pc' := 99) rfl ?_
            refine g_iconst (v := nI 4) h dX4_solve_99 (by decide) (pc' := 100) rfl ?_
            refine g_iload_n (i := 1) h dX4_solve_100 rfl rfl (pc' := 101) rfl ?_
            refine g_imulN h dX4_solve_101 (pc' := 102) rfl ?_
            refine g_iload_n (i := 3) h dX4_solve_102 rfl rfl (pc' := 103) rfl ?_
            refine g_iaddN h dX4_solve_103 (pc' := 104) rfl ?_
            refine g_iload_n (i := 3) h dX4_solve_104 rfl rfl (pc' := 105) rfl ?_
            refine g_iload_n (i := 1) h dX4_solve_105 rfl rfl (pc' := 106) rfl ?_
            refine g_icmp_ne (tg := 130) h dX4_solve_106 (by decide) (pc' := 109) rfl (fun c4 => ?_) (fun c4 => ?_)
            · skip
              refine g_lconst (v := 0) h dX4_solve_130 (by decide) (pc' := 131) rfl ?_
              refine g_iload_n (i := 2) h dX4_solve_131 rfl rfl (pc' := 132) rfl ?_
              refine g_if_eqF (tg := 149) h dX4_solve_132 (by decide) (pc' := 135) rfl (by decide) ?_
              refine g_bipush (v := nI 10) h dX4_solve_135 (by decide) (pc' := 137) rfl ?_
              refine g_aload_n (i := 0) h dX4_solve_137 rfl rfl (pc' := 138) rfl ?_
              refine gf_X4_50 h dX4_solve_138 (pc' := 141) rfl ?_
              refine g_isub h dX4_solve_141 (pc' := 142) rfl ?_
              refine g_i2l h dX4_solve_142 (pc' := 143) rfl ?_
              refine g_lload h dX4_solve_143 rfl (pc' := 145) rfl ?_
              refine g_lmul h dX4_solve_145 (pc' := 146) rfl ?_
              refine g_goto (pc' := 150) h dX4_solve_146 (by decide) ?_
              refine g_lsub h dX4_solve_150 (pc' := 151) rfl ?_
              refine as_15 (j := (4 * i) + j) h dX4_solve_151 rfl (by omega) (pc' := 152) rfl ?_
              refine g_iinc3 (v := nI (j + 1)) h dX4_solve_152 rfl (inc1 j) (by decide) (pc' := 155) rfl ?_
              refine g_goto (pc' := 61) h dX4_solve_155 (by decide) ?_
              exact GG.castW ih61 ⟨rfl, rfl, rfl, rfl, trivial⟩ rfl (by first | (simp only [tb, tE, if_pos hf, if_neg c1, if_neg c2, if_pos c3, if_neg c4]; done) | (simp only [tb, tE, if_neg hf, if_neg c1, if_neg c2, if_pos c3, if_neg c4]; done) | (simp only [tb, tE, if_neg hf]; done))
            · skip
              refine g_iload_n (i := 2) h dX4_solve_109 rfl rfl (pc' := 110) rfl ?_
              refine g_if_eqF (tg := 126) h dX4_solve_110 (by decide) (pc' := 113) rfl (by decide) ?_
              refine g_ldc2 h dX4_solve_113 co_X4_69 (pc' := 116) rfl ?_
              refine g_aload_n (i := 0) h dX4_solve_116 rfl rfl (pc' := 117) rfl ?_
              refine g_iload_n (i := 1) h dX4_solve_117 rfl rfl (pc' := 118) rfl ?_
              refine g_callV1 (q0 := 0) h dX4_solve_118 cf_X4_61 (M_X4_owesOf (i := i) (by omega) (by omega)) rfl rfl rfl rfl (by decide) rfl (Nat.le_of_ble_eq_true rfl) (pc' := 121) rfl ?_
              refine g_i2l h dX4_solve_121 (pc' := 122) rfl ?_
              refine g_lmul h dX4_solve_122 (pc' := 123) rfl ?_
              refine g_goto (pc' := 131) h dX4_solve_123 (by decide) ?_
              refine g_iload_n (i := 2) h dX4_solve_131 rfl rfl (pc' := 132) rfl ?_
              refine g_if_eqF (tg := 149) h dX4_solve_132 (by decide) (pc' := 135) rfl (by decide) ?_
              refine g_bipush (v := nI 10) h dX4_solve_135 (by decide) (pc' := 137) rfl ?_
              refine g_aload_n (i := 0) h dX4_solve_137 rfl rfl (pc' := 138) rfl ?_
              refine gf_X4_50 h dX4_solve_138 (pc' := 141) rfl ?_
              refine g_isub h dX4_solve_141 (pc' := 142) rfl ?_
              refine g_i2l h dX4_solve_142 (pc' := 143) rfl ?_
              refine g_lload h dX4_solve_143 rfl (pc' := 145) rfl ?_
              refine g_lmul h dX4_solve_145 (pc' := 146) rfl ?_
              refine g_goto (pc' := 150) h dX4_solve_146 (by decide) ?_
              refine g_lsub h dX4_solve_150 (pc' := 151) rfl ?_
              refine as_15 (j := (4 * i) + j) h dX4_solve_151 rfl (by omega) (pc' := 152) rfl ?_
              refine g_iinc3 (v := nI (j + 1)) h dX4_solve_152 rfl (inc1 j) (by decide) (pc' := 155) rfl ?_
              refine g_goto (pc' := 61) h dX4_solve_155 (by decide) ?_
              exact GG.castW ih61 ⟨rfl, rfl, rfl, rfl, trivial⟩ rfl (by first | (simp only [tb, tE, if_pos hf, if_neg c1, if_neg c2, if_pos c3, if_pos c4]; done) | (simp only [tb, tE, if_neg hf, if_neg c1, if_neg c2, if_pos c3, if_pos c4]; done) | (simp only [tb, tE, if_neg hf]; done))
          · skip
            refine g_aload_n (i := 0) h dX4_solve_78 rfl rfl (pc' := 79) rfl ?_
            refine gf_X4_17 h dX4_solve_79 (pc' := 82) rfl ?_
            refine g_iconst (v := nI 5) h dX4_solve_82 (by decide) (pc' := 83) rfl ?_
            refine g_iload_n (i := 3) h dX4_solve_83 rfl rfl (pc' := 84) rfl ?_
            refine g_imulN h dX4_solve_84 (pc' := 85) rfl ?_
            refine g_iload_n (i := 1) h dX4_solve_85 rfl rfl (pc' := 86) rfl ?_
            refine g_iaddN h dX4_solve_86 (pc' := 87) rfl ?_
            refine al_12 (j := (5 * j) + i) h dX4_solve_87 rfl (by omega) (pc' := 88) rfl ?_
            refine g_i2l h dX4_solve_88 (pc' := 89) rfl ?_
            refine g_goto (pc' := 93) h dX4_solve_89 (by decide) ?_
            refine g_lstore4 h dX4_solve_93 rfl (by decide) (pc' := 95) rfl ?_
            refine g_aload_n (i := 0) h dX4_solve_95 rfl rfl (pc' := 96) rfl ?_
            refine gf_X4_27 h dX4_solve_96 (pc' := 99) rfl ?_
            refine g_iconst (v := nI 4) h dX4_solve_99 (by decide) (pc' := 100) rfl ?_
            refine g_iload_n (i := 1) h dX4_solve_100 rfl rfl (pc' := 101) rfl ?_
            refine g_imulN h dX4_solve_101 (pc' := 102) rfl ?_
            refine g_iload_n (i := 3) h dX4_solve_102 rfl rfl (pc' := 103) rfl ?_
            refine g_iaddN h dX4_solve_103 (pc' := 104) rfl ?_
            refine g_iload_n (i := 3) h dX4_solve_104 rfl rfl (pc' := 105) rfl ?_
            refine g_iload_n (i := 1) h dX4_solve_105 rfl rfl (pc' := 106) rfl ?_
            refine g_icmp_ne (tg := 130) h dX4_solve_106 (by decide) (pc' := 109) rfl (fun c4 => ?_) (fun c4 => ?_)
            · skip
              refine g_lconst (v := 0) h dX4_solve_130 (by decide) (pc' := 131) rfl ?_
              refine g_iload_n (i := 2) h dX4_solve_131 rfl rfl (pc' := 132) rfl ?_
              refine g_if_eqF (tg := 149) h dX4_solve_132 (by decide) (pc' := 135) rfl (by decide) ?_
              refine g_bipush (v := nI 10) h dX4_solve_135 (by decide) (pc' := 137) rfl ?_
              refine g_aload_n (i := 0) h dX4_solve_137 rfl rfl (pc' := 138) rfl ?_
              refine gf_X4_50 h dX4_solve_138 (pc' := 141) rfl ?_
              refine g_isub h dX4_solve_141 (pc' := 142) rfl ?_
              refine g_i2l h dX4_solve_142 (pc' := 143) rfl ?_
              refine g_lload h dX4_solve_143 rfl (pc' := 145) rfl ?_
              refine g_lmul h dX4_solve_145 (pc' := 146) rfl ?_
              refine g_goto (pc' := 150) h dX4_solve_146 (by decide) ?_
              refine g_lsub h dX4_solve_150 (pc' := 151) rfl ?_
              refine as_15 (j := (4 * i) + j) h dX4_solve_151 rfl (by omega) (pc' := 152) rfl ?_
              refine g_iinc3 (v := nI (j + 1)) h dX4_solve_152 rfl (inc1 j) (by decide) (pc' := 155) rfl ?_
              refine g_goto (pc' := 61) h dX4_solve_155 (by decide) ?_
              exact GG.castW ih61 ⟨rfl, rfl, rfl, rfl, trivial⟩ rfl (by first | (simp only [tb, tE, if_pos hf, if_neg c1, if_neg c2, if_neg c3, if_neg c4]; done) | (simp only [tb, tE, if_neg hf, if_neg c1, if_neg c2, if_neg c3, if_neg c4]; done) | (simp only [tb, tE, if_neg hf]; done))
            · skip
              refine g_iload_n (i := 2) h dX4_solve_109 rfl rfl (pc' := 110) rfl ?_
              refine g_if_eqF (tg := 126) h dX4_solve_110 (by decide) (pc' := 113) rfl (by decide) ?_
              refine g_ldc2 h dX4_solve_113 co_X4_69 (pc' := 116) rfl ?_
              refine g_aload_n (i := 0) h dX4_solve_116 rfl rfl (pc' := 117) rfl ?_
              refine g_iload_n (i := 1) h dX4_solve_117 rfl rfl (pc' := 118) rfl ?_
              refine g_callV1 (q0 := 0) h dX4_solve_118 cf_X4_61 (M_X4_owesOf (i := i) (by omega) (by omega)) rfl rfl rfl rfl (by decide) rfl (Nat.le_of_ble_eq_true rfl) (pc' := 121) rfl ?_
              refine g_i2l h dX4_solve_121 (pc' := 122) rfl ?_
              refine g_lmul h dX4_solve_122 (pc' := 123) rfl ?_
              refine g_goto (pc' := 131) h dX4_solve_123 (by decide) ?_
              refine g_iload_n (i := 2) h dX4_solve_131 rfl rfl (pc' := 132) rfl ?_
              refine g_if_eqF (tg := 149) h dX4_solve_132 (by decide) (pc' := 135) rfl (by decide) ?_
              refine g_bipush (v := nI 10) h dX4_solve_135 (by decide) (pc' := 137) rfl ?_
              refine g_aload_n (i := 0) h dX4_solve_137 rfl rfl (pc' := 138) rfl ?_
              refine gf_X4_50 h dX4_solve_138 (pc' := 141) rfl ?_
              refine g_isub h dX4_solve_141 (pc' := 142) rfl ?_
              refine g_i2l h dX4_solve_142 (pc' := 143) rfl ?_
              refine g_lload h dX4_solve_143 rfl (pc' := 145) rfl ?_
              refine g_lmul h dX4_solve_145 (pc' := 146) rfl ?_
              refine g_goto (pc' := 150) h dX4_solve_146 (by decide) ?_
              refine g_lsub h dX4_solve_150 (pc' := 151) rfl ?_
              refine as_15 (j := (4 * i) + j) h dX4_solve_151 rfl (by omega) (pc' := 152) rfl ?_
              refine g_iinc3 (v := nI (j + 1)) h dX4_solve_152 rfl (inc1 j) (by decide) (pc' := 155) rfl ?_
              refine g_goto (pc' := 61) h dX4_solve_155 (by decide) ?_
              exact GG.castW ih61 ⟨rfl, rfl, rfl, rfl, trivial⟩ rfl (by first | (simp only [tb, tE, if_pos hf, if_neg c1, if_neg c2, if_neg c3, if_pos c4]; done) | (simp only [tb, tE, if_neg hf, if_neg c1, if_neg c2, if_neg c3, if_pos c4]; done) | (simp only [tb, tE, if_neg hf]; done))
set_option maxRecDepth 20000 in
set_option maxHeartbeats 4000000 in
theorem M_X4_grossOf {Z : ZT} {m : Nat} {toll : Int32} {paid : Int64} {cash : Nat → Int64} {debts : Nat → Int32} {fallen : Nat → Int32} {rounds : Int32} {shares : Nat → Int64} {under : Int64} {table : Nat → Int64} {right : Nat → Int64} {tried : Nat → Int64} {falls : Nat → Int32} {rsize : Int32} {ringOf : Nat → Int32} {row : Nat → Int32} {found : Int32} {hh : Int64} {i : Nat}  (g0 : i < 4) (g1 : m ≤ 4) : MM Z yX4_grossOf cX4_grossOf 5 (some .long) 0 [.ref (Z.2.2 10), .int (nI i)] (wR Z (nI m) toll paid cash debts fallen rounds shares under table right tried falls rsize ringOf row found hh) (some (.long (gR cash under shares debts i m))) (wR Z (nI m) toll paid cash debts fallen rounds shares under table right tried falls rsize ringOf row found hh) := by
  refine MM.intro (by decide) [some (.ref (Z.2.2 10)), some (.int (nI i)), none, none, none] rfl (Nat.le_of_ble_eq_true rfl) (fun X (h : OK Z X cX4_grossOf RX4 5 (rmd 0)) hr => ?_)
  refine g_aload_n (i := 0) h dX4_grossOf_0 rfl rfl (pc' := 1) rfl ?_
  refine gf_X4_13 h dX4_grossOf_1 (pc' := 4) rfl ?_
  refine g_iload_n (i := 1) h dX4_grossOf_4 rfl rfl (pc' := 5) rfl ?_
  refine al_11 (j := i) h dX4_grossOf_5 rfl (by omega) (pc' := 6) rfl ?_
  refine g_aload_n (i := 0) h dX4_grossOf_6 rfl rfl (pc' := 7) rfl ?_
  refine gf_X4_75 h dX4_grossOf_7 (pc' := 10) rfl ?_
  refine g_lmul h dX4_grossOf_10 (pc' := 11) rfl ?_
  refine g_lstore2 h dX4_grossOf_11 rfl (by decide) (pc' := 12) rfl ?_
  refine g_iconst (v := nI 0) h dX4_grossOf_12 (by decide) (pc' := 13) rfl ?_
  refine g_istore4 h dX4_grossOf_13 rfl (by decide) (pc' := 15) rfl ?_
  refine GG.castW (lp (P := fun j => GG Z X 15 [some (.ref (Z.2.2 10)), some (.int (nI i)), some (.long (gR cash under shares debts i j)), none, some (.int (nI j))] [] (wR Z (nI m) toll paid cash debts fallen rounds shares under table right tried falls rsize ringOf row found hh)) m ?_ ?_) ⟨rfl, rfl, rfl, rfl, trivial⟩ rfl rfl
  · skip
    refine g_iload h dX4_grossOf_15 rfl (pc' := 17) rfl ?_
    refine g_aload_n (i := 0) h dX4_grossOf_17 rfl rfl (pc' := 18) rfl ?_
    refine gf_X4_7 h dX4_grossOf_18 (pc' := 21) rfl ?_
    refine g_icmp_geT (tg := 53) h dX4_grossOf_21 (by decide) (Int32.le_refl _) ?_
    refine g_lload_n (i := 2) h dX4_grossOf_53 rfl rfl (pc' := 54) rfl ?_
    exact g_lret h hr dX4_grossOf_54 rfl rfl
  · intro j hj ih15
    refine g_iload h dX4_grossOf_15 rfl (pc' := 17) rfl ?_
    refine g_aload_n (i := 0) h dX4_grossOf_17 rfl rfl (pc' := 18) rfl ?_
    refine gf_X4_7 h dX4_grossOf_18 (pc' := 21) rfl ?_
    refine g_icmp_geF (tg := 53) h dX4_grossOf_21 (by decide) (pc' := 24) rfl (nI_ge hj (by omega)) ?_
    refine g_lload_n (i := 2) h dX4_grossOf_24 rfl rfl (pc' := 25) rfl ?_
    refine g_aload_n (i := 0) h dX4_grossOf_25 rfl rfl (pc' := 26) rfl ?_
    refine gf_X4_24 h dX4_grossOf_26 (pc' := 29) rfl ?_
    refine g_iload h dX4_grossOf_29 rfl (pc' := 31) rfl ?_
    refine al_14 (j := j) h dX4_grossOf_31 rfl (by omega) (pc' := 32) rfl ?_
    refine g_aload_n (i := 0) h dX4_grossOf_32 rfl rfl (pc' := 33) rfl ?_
    refine gf_X4_17 h dX4_grossOf_33 (pc' := 36) rfl ?_
    refine g_iconst (v := nI 5) h dX4_grossOf_36 (by decide) (pc' := 37) rfl ?_
    refine g_iload h dX4_grossOf_37 rfl (pc' := 39) rfl ?_
    refine g_imulN h dX4_grossOf_39 (pc' := 40) rfl ?_
    refine g_iload_n (i := 1) h dX4_grossOf_40 rfl rfl (pc' := 41) rfl ?_
    refine g_iaddN h dX4_grossOf_41 (pc' := 42) rfl ?_
    refine al_12 (j := (5 * j) + i) h dX4_grossOf_42 rfl (by omega) (pc' := 43) rfl ?_
    refine g_i2l h dX4_grossOf_43 (pc' := 44) rfl ?_
    refine g_lmul h dX4_grossOf_44 (pc' := 45) rfl ?_
    refine g_ladd h dX4_grossOf_45 (pc' := 46) rfl ?_
    refine g_lstore2 h dX4_grossOf_46 rfl (by decide) (pc' := 47) rfl ?_
    refine g_iinc4 (v := nI (j + 1)) h dX4_grossOf_47 rfl (inc1 j) (by decide) (pc' := 50) rfl ?_
    refine g_goto (pc' := 15) h dX4_grossOf_50 (by decide) ?_
    exact GG.castW ih15 ⟨rfl, rfl, rfl, rfl, trivial⟩ rfl rfl
set_option maxRecDepth 20000 in
set_option maxHeartbeats 4000000 in
theorem M_X4_clear {Z : ZT} {m : Nat} {toll : Int32} {paid : Int64} {cash : Nat → Int64} {debts : Nat → Int32} {fallen : Nat → Int32} {rounds : Int32} {shares : Nat → Int64} {under : Int64} {table : Nat → Int64} {right : Nat → Int64} {tried : Nat → Int64} {falls : Nat → Int32} {rsize : Int32} {ringOf : Nat → Int32} {row : Nat → Int32} {found : Int32} {hh : Int64}  {K : Nat} {s9 : rT} (g0 : m ≤ 4) (g1 : clr m toll cash debts K (rslv m toll cash debts (zf fallen 4, shares, under, table, right, tried, falls, nI 0)) = some s9) : MM Z yX4_clear cX4_clear 3 none 3 [.ref (Z.2.2 10)] (wR Z (nI m) toll paid cash debts fallen rounds shares under table right tried falls rsize ringOf row found hh) none (wR Z (nI m) toll paid cash debts s9.1 s9.2.2.2.2.2.2.2 s9.2.1 s9.2.2.1 s9.2.2.2.1 s9.2.2.2.2.1 s9.2.2.2.2.2.1 s9.2.2.2.2.2.2.1 rsize ringOf row found hh) := by
  refine MM.intro (by decide) [some (.ref (Z.2.2 10)), none, none] rfl (Nat.le_of_ble_eq_true rfl) (fun X (h : OK Z X cX4_clear RX4 3 (rmd 3)) hr => ?_)
  refine g_aload_n (i := 0) h dX4_clear_0 rfl rfl (pc' := 1) rfl ?_
  refine g_iconst (v := nI 0) h dX4_clear_1 (by decide) (pc' := 2) rfl ?_
  refine pf_X4_78 h dX4_clear_2 (pc' := 5) rfl ?_
  refine g_iconst (v := nI 0) h dX4_clear_5 (by decide) (pc' := 6) rfl ?_
  refine g_istore1 h dX4_clear_6 rfl (by decide) (pc' := 7) rfl ?_
  refine GG.castW (lp (P := fun j => GG Z X 7 [some (.ref (Z.2.2 10)), some (.int (nI j)), none] [] (wR Z (nI m) toll paid cash debts (zf fallen j) (nI 0) shares under table right tried falls rsize ringOf row found hh)) 4 ?_ ?_) ⟨rfl, rfl, trivial⟩ rfl (by rw [zf_0])
  · skip
    refine g_iload_n (i := 1) h dX4_clear_7 rfl rfl (pc' := 8) rfl ?_
    refine g_iconst (v := nI 4) h dX4_clear_8 (by decide) (pc' := 9) rfl ?_
    refine g_icmp_geT (tg := 25) h dX4_clear_9 (by decide) (Int32.le_refl _) ?_
    refine g_aload_n (i := 0) h dX4_clear_25 rfl rfl (pc' := 26) rfl ?_
    refine g_callV0 (q0 := 0) h dX4_clear_26 cf_X4_81 (M_X4_solve  (by omega)) rfl rfl rfl rfl (by decide) rfl (Nat.le_of_ble_eq_true rfl) (pc' := 29) rfl ?_
    refine g_iconst (v := nI 1) h dX4_clear_29 (by decide) (pc' := 30) rfl ?_
    refine g_istore1 h dX4_clear_30 rfl (by decide) (pc' := 31) rfl ?_
    have key31 : ∀ (k : Nat) (s : rT), (clr m toll cash debts k s = some s9) → GG Z X 31 [some (.ref (Z.2.2 10)), some (.int (nI 1)), none] [] (wR Z (nI m) toll paid cash debts s.1 s.2.2.2.2.2.2.2 s.2.1 s.2.2.1 s.2.2.2.1 s.2.2.2.2.1 s.2.2.2.2.2.1 s.2.2.2.2.2.2.1 rsize ringOf row found hh) := by
      intro k
      induction k with
      | zero =>
        intro s e31_0
        exact absurd e31_0 (by simp [clr])
      | succ k ih31 =>
        intro s e31_0
        refine g_iload_n (i := 1) h dX4_clear_31 rfl rfl (pc' := 32) rfl ?_
        refine g_if_eqF (tg := 177) h dX4_clear_32 (by decide) (pc' := 35) rfl (by decide) ?_
        refine g_iconst (v := nI 0) h dX4_clear_35 (by decide) (pc' := 36) rfl ?_
        refine g_istore1 h dX4_clear_36 rfl (by decide) (pc' := 37) rfl ?_
        refine g_iconst (v := nI 0) h dX4_clear_37 (by decide) (pc' := 38) rfl ?_
        refine g_istore2 h dX4_clear_38 rfl (by decide) (pc' := 39) rfl ?_
        refine GG.castW (lp (P := fun i => GG Z X 39 [some (.ref (Z.2.2 10)), some (.int (nI (gS m cash debts s i))), some (.int (nI i))] [] (wR Z (nI m) toll paid cash debts s.1 s.2.2.2.2.2.2.2 s.2.1 s.2.2.1 s.2.2.2.1 s.2.2.2.2.1 s.2.2.2.2.2.1 (fS m cash debts s i) rsize ringOf row found hh)) m ?_ ?_) ⟨rfl, rfl, rfl, trivial⟩ rfl rfl
        · skip
          refine g_iload_n (i := 2) h dX4_clear_39 rfl rfl (pc' := 40) rfl ?_
          refine g_aload_n (i := 0) h dX4_clear_40 rfl rfl (pc' := 41) rfl ?_
          refine gf_X4_7 h dX4_clear_41 (pc' := 44) rfl ?_
          refine g_icmp_geT (tg := 112) h dX4_clear_44 (by decide) (Int32.le_refl _) ?_
          refine g_iload_n (i := 1) h dX4_clear_112 rfl rfl (pc' := 113) rfl ?_
          refine g_if_eq (tg := 31) h dX4_clear_113 (by decide) (pc' := 116) rfl (fun c1 => ?_) (fun c1 => ?_)
          · skip
            refine g_iload_n (i := 1) h dX4_clear_31 rfl rfl (pc' := 32) rfl ?_
            refine g_if_eqT (tg := 177) h dX4_clear_32 (by decide) c1 ?_
            exact g_vret h hr dX4_clear_177 rfl (by have e := e31_0; rw [clr, if_pos c1] at e; cases e; rfl)
          · skip
            rw [gS_1 c1]
            refine g_aload_n (i := 0) h dX4_clear_116 rfl rfl (pc' := 117) rfl ?_
            refine g_dupR h dX4_clear_117 (pc' := 118) rfl ?_
            refine gf_X4_78 h dX4_clear_118 (pc' := 121) rfl ?_
            refine g_iconst (v := nI 1) h dX4_clear_121 (by decide) (pc' := 122) rfl ?_
            refine g_iadd h dX4_clear_122 (pc' := 123) rfl ?_
            refine pf_X4_78 h dX4_clear_123 (pc' := 126) rfl ?_
            refine g_iconst (v := nI 0) h dX4_clear_126 (by decide) (pc' := 127) rfl ?_
            refine g_istore2 h dX4_clear_127 rfl (by decide) (pc' := 128) rfl ?_
            refine GG.castW (lp (P := fun i => GG Z X 128 [some (.ref (Z.2.2 10)), some (.int (nI 1)), some (.int (nI i))] [] (wR Z (nI m) toll paid cash debts (fF s.1 (fS m cash debts s m) (s.2.2.2.2.2.2.2 + (nI 1)) i) (s.2.2.2.2.2.2.2 + (nI 1)) s.2.1 s.2.2.1 s.2.2.2.1 s.2.2.2.2.1 s.2.2.2.2.2.1 (fS m cash debts s m) rsize ringOf row found hh)) m ?_ ?_) ⟨rfl, rfl, rfl, trivial⟩ rfl rfl
            · skip
              refine g_iload_n (i := 2) h dX4_clear_128 rfl rfl (pc' := 129) rfl ?_
              refine g_aload_n (i := 0) h dX4_clear_129 rfl rfl (pc' := 130) rfl ?_
              refine gf_X4_7 h dX4_clear_130 (pc' := 133) rfl ?_
              refine g_icmp_geT (tg := 170) h dX4_clear_133 (by decide) (Int32.le_refl _) ?_
              refine g_aload_n (i := 0) h dX4_clear_170 rfl rfl (pc' := 171) rfl ?_
              refine g_callV0 (q0 := 0) h dX4_clear_171 cf_X4_81 (M_X4_solve  (by omega)) rfl rfl rfl rfl (by decide) rfl (Nat.le_of_ble_eq_true rfl) (pc' := 174) rfl ?_
              refine g_goto (pc' := 31) h dX4_clear_174 (by decide) ?_
              exact GG.castW (ih31 (rnx m toll cash debts s) (by have e := e31_0; rw [clr, if_neg c1] at e; exact e)) ⟨rfl, rfl, trivial⟩ rfl rfl
            · intro i hi ih128
              refine g_iload_n (i := 2) h dX4_clear_128 rfl rfl (pc' := 129) rfl ?_
              refine g_aload_n (i := 0) h dX4_clear_129 rfl rfl (pc' := 130) rfl ?_
              refine gf_X4_7 h dX4_clear_130 (pc' := 133) rfl ?_
              refine g_icmp_geF (tg := 170) h dX4_clear_133 (by decide) (pc' := 136) rfl (nI_ge hi (by omega)) ?_
              refine g_aload_n (i := 0) h dX4_clear_136 rfl rfl (pc' := 137) rfl ?_
              refine gf_X4_21 h dX4_clear_137 (pc' := 140) rfl ?_
              refine g_iload_n (i := 2) h dX4_clear_140 rfl rfl (pc' := 141) rfl ?_
              refine g_aload_n (i := 0) h dX4_clear_141 rfl rfl (pc' := 142) rfl ?_
              refine gf_X4_36 h dX4_clear_142 (pc' := 145) rfl ?_
              refine g_iload_n (i := 2) h dX4_clear_145 rfl rfl (pc' := 146) rfl ?_
              refine al_18 (j := i) h dX4_clear_146 rfl (by omega) (pc' := 147) rfl ?_
              refine g_if_eq (tg := 157) h dX4_clear_147 (by decide) (pc' := 150) rfl (fun c2 => ?_) (fun c2 => ?_)
              · skip
                refine g_aload_n (i := 0) h dX4_clear_157 rfl rfl (pc' := 158) rfl ?_
                refine gf_X4_21 h dX4_clear_158 (pc' := 161) rfl ?_
                refine g_iload_n (i := 2) h dX4_clear_161 rfl rfl (pc' := 162) rfl ?_
                refine al_13 (j := i) h dX4_clear_162 rfl (by omega) (pc' := 163) rfl ?_
                refine as_13 (j := i) h dX4_clear_163 rfl (by omega) (pc' := 164) rfl ?_
                refine g_iinc2 (v := nI (i + 1)) h dX4_clear_164 rfl (inc1 i) (by decide) (pc' := 167) rfl ?_
                refine g_goto (pc' := 128) h dX4_clear_167 (by decide) ?_
                exact GG.castW ih128 ⟨rfl, rfl, rfl, trivial⟩ rfl (by simp only [fF, if_neg c1, if_pos c2])
              · skip
                refine g_aload_n (i := 0) h dX4_clear_150 rfl rfl (pc' := 151) rfl ?_
                refine gf_X4_78 h dX4_clear_151 (pc' := 154) rfl ?_
                refine g_goto (pc' := 163) h dX4_clear_154 (by decide) ?_
                refine as_13 (j := i) h dX4_clear_163 rfl (by omega) (pc' := 164) rfl ?_
                refine g_iinc2 (v := nI (i + 1)) h dX4_clear_164 rfl (inc1 i) (by decide) (pc' := 167) rfl ?_
                refine g_goto (pc' := 128) h dX4_clear_167 (by decide) ?_
                exact GG.castW ih128 ⟨rfl, rfl, rfl, trivial⟩ rfl (by simp only [fF, if_neg c1, if_neg c2])
        · intro i hi ih39
          refine g_iload_n (i := 2) h dX4_clear_39 rfl rfl (pc' := 40) rfl ?_
          refine g_aload_n (i := 0) h dX4_clear_40 rfl rfl (pc' := 41) rfl ?_
          refine gf_X4_7 h dX4_clear_41 (pc' := 44) rfl ?_
          refine g_icmp_geF (tg := 112) h dX4_clear_44 (by decide) (pc' := 47) rfl (nI_ge hi (by omega)) ?_
          refine g_aload_n (i := 0) h dX4_clear_47 rfl rfl (pc' := 48) rfl ?_
          refine gf_X4_36 h dX4_clear_48 (pc' := 51) rfl ?_
          refine g_iload_n (i := 2) h dX4_clear_51 rfl rfl (pc' := 52) rfl ?_
          refine g_aload_n (i := 0) h dX4_clear_52 rfl rfl (pc' := 53) rfl ?_
          refine gf_X4_21 h dX4_clear_53 (pc' := 56) rfl ?_
          refine g_iload_n (i := 2) h dX4_clear_56 rfl rfl (pc' := 57) rfl ?_
          refine al_13 (j := i) h dX4_clear_57 rfl (by omega) (pc' := 58) rfl ?_
          refine g_if_ne (tg := 85) h dX4_clear_58 (by decide) (pc' := 61) rfl (fun c1 => ?_) (fun c1 => ?_)
          · skip
            refine g_iconst (v := nI 0) h dX4_clear_85 (by decide) (pc' := 86) rfl ?_
            refine as_18 (j := i) h dX4_clear_86 rfl (by omega) (pc' := 87) rfl ?_
            refine g_iload_n (i := 1) h dX4_clear_87 rfl rfl (pc' := 88) rfl ?_
            refine g_if_ne (tg := 100) h dX4_clear_88 (by decide) (pc' := 91) rfl (fun c2 => ?_) (fun c2 => ?_)
            · skip
              refine g_iconst (v := nI 1) h dX4_clear_100 (by decide) (pc' := 101) rfl ?_
              refine g_goto (pc' := 105) h dX4_clear_101 (by decide) ?_
              refine g_istore1 h dX4_clear_105 rfl (by decide) (pc' := 106) rfl ?_
              refine g_iinc2 (v := nI (i + 1)) h dX4_clear_106 rfl (inc1 i) (by decide) (pc' := 109) rfl ?_
              refine g_goto (pc' := 39) h dX4_clear_109 (by decide) ?_
              first | have hq : cR m cash debts s i := ⟨c1, c2⟩ | have hq : ¬ cR m cash debts s i := (fun q => (by first | exact c1 q.1 | exact q.2 c2))
              exact GG.castW ih39 ⟨rfl, (by simp only [List.head?_cons, List.tail_cons, gS]; first | (simp only [if_pos hq, if_neg c1, if_neg c2]; done) | (simp only [if_neg hq, if_neg c1, if_neg c2]; done) | (simp only [if_neg c1, if_neg c2]; done)), rfl, trivial⟩ rfl (by simp only [fS]; first | rw [if_pos hq] | rw [if_neg hq])
            · skip
              refine g_aload_n (i := 0) h dX4_clear_91 rfl rfl (pc' := 92) rfl ?_
              refine gf_X4_36 h dX4_clear_92 (pc' := 95) rfl ?_
              refine g_iload_n (i := 2) h dX4_clear_95 rfl rfl (pc' := 96) rfl ?_
              refine al_18 (j := i) h dX4_clear_96 rfl (by omega) (pc' := 97) rfl ?_
              refine g_if_eqT (tg := 104) h dX4_clear_97 (by decide) (by rw [pk_us]; rfl) ?_
              refine g_iconst (v := nI 0) h dX4_clear_104 (by decide) (pc' := 105) rfl ?_
              refine g_istore1 h dX4_clear_105 rfl (by decide) (pc' := 106) rfl ?_
              refine g_iinc2 (v := nI (i + 1)) h dX4_clear_106 rfl (inc1 i) (by decide) (pc' := 109) rfl ?_
              refine g_goto (pc' := 39) h dX4_clear_109 (by decide) ?_
              first | have hq : cR m cash debts s i := ⟨c1, c2⟩ | have hq : ¬ cR m cash debts s i := (fun q => (by first | exact c1 q.1 | exact q.2 c2))
              exact GG.castW ih39 ⟨rfl, (by simp only [List.head?_cons, List.tail_cons, gS]; first | (simp only [if_pos hq, if_neg c1, if_pos c2]; done) | (simp only [if_neg hq, if_neg c1, if_pos c2]; done) | (simp only [if_neg c1, if_pos c2]; done)), rfl, trivial⟩ rfl (by simp only [fS]; first | rw [if_pos hq] | rw [if_neg hq])
          · skip
            refine g_aload_n (i := 0) h dX4_clear_61 rfl rfl (pc' := 62) rfl ?_
            refine g_iload_n (i := 2) h dX4_clear_62 rfl rfl (pc' := 63) rfl ?_
            refine g_callV1 (q0 := 0) h dX4_clear_63 cf_X4_84 (M_X4_grossOf (i := i) (by omega) (by omega)) rfl rfl rfl rfl (by decide) rfl (Nat.le_of_ble_eq_true rfl) (pc' := 66) rfl ?_
            refine g_aload_n (i := 0) h dX4_clear_66 rfl rfl (pc' := 67) rfl ?_
            refine g_iload_n (i := 2) h dX4_clear_67 rfl rfl (pc' := 68) rfl ?_
            refine g_callV1 (q0 := 0) h dX4_clear_68 cf_X4_61 (M_X4_owesOf (i := i) (by omega) (by omega)) rfl rfl rfl rfl (by decide) rfl (Nat.le_of_ble_eq_true rfl) (pc' := 71) rfl ?_
            refine g_i2l h dX4_clear_71 (pc' := 72) rfl ?_
            refine g_aload_n (i := 0) h dX4_clear_72 rfl rfl (pc' := 73) rfl ?_
            refine gf_X4_75 h dX4_clear_73 (pc' := 76) rfl ?_
            refine g_lmul h dX4_clear_76 (pc' := 77) rfl ?_
            refine g_lcmp_ge (pc1 := 78) (tg := 85) h dX4_clear_77 rfl dX4_clear_78 (by decide) (pc' := 81) rfl (fun c2 => ?_) (fun c2 => ?_)
            · skip
              refine g_iconst (v := nI 0) h dX4_clear_85 (by decide) (pc' := 86) rfl ?_
              refine as_18 (j := i) h dX4_clear_86 rfl (by omega) (pc' := 87) rfl ?_
              refine g_iload_n (i := 1) h dX4_clear_87 rfl rfl (pc' := 88) rfl ?_
              refine g_if_ne (tg := 100) h dX4_clear_88 (by decide) (pc' := 91) rfl (fun c3 => ?_) (fun c3 => ?_)
              · skip
                refine g_iconst (v := nI 1) h dX4_clear_100 (by decide) (pc' := 101) rfl ?_
                refine g_goto (pc' := 105) h dX4_clear_101 (by decide) ?_
                refine g_istore1 h dX4_clear_105 rfl (by decide) (pc' := 106) rfl ?_
                refine g_iinc2 (v := nI (i + 1)) h dX4_clear_106 rfl (inc1 i) (by decide) (pc' := 109) rfl ?_
                refine g_goto (pc' := 39) h dX4_clear_109 (by decide) ?_
                first | have hq : cR m cash debts s i := ⟨c1, c2⟩ | have hq : ¬ cR m cash debts s i := (fun q => (by first | exact c1 q.1 | exact q.2 c2))
                exact GG.castW ih39 ⟨rfl, (by simp only [List.head?_cons, List.tail_cons, gS]; first | (simp only [if_pos hq, if_pos c1, if_pos c2, if_neg c3]; done) | (simp only [if_neg hq, if_pos c1, if_pos c2, if_neg c3]; done) | (simp only [if_pos c1, if_pos c2, if_neg c3]; done)), rfl, trivial⟩ rfl (by simp only [fS]; first | rw [if_pos hq] | rw [if_neg hq])
              · skip
                refine g_aload_n (i := 0) h dX4_clear_91 rfl rfl (pc' := 92) rfl ?_
                refine gf_X4_36 h dX4_clear_92 (pc' := 95) rfl ?_
                refine g_iload_n (i := 2) h dX4_clear_95 rfl rfl (pc' := 96) rfl ?_
                refine al_18 (j := i) h dX4_clear_96 rfl (by omega) (pc' := 97) rfl ?_
                refine g_if_eqT (tg := 104) h dX4_clear_97 (by decide) (by rw [pk_us]; rfl) ?_
                refine g_iconst (v := nI 0) h dX4_clear_104 (by decide) (pc' := 105) rfl ?_
                refine g_istore1 h dX4_clear_105 rfl (by decide) (pc' := 106) rfl ?_
                refine g_iinc2 (v := nI (i + 1)) h dX4_clear_106 rfl (inc1 i) (by decide) (pc' := 109) rfl ?_
                refine g_goto (pc' := 39) h dX4_clear_109 (by decide) ?_
                first | have hq : cR m cash debts s i := ⟨c1, c2⟩ | have hq : ¬ cR m cash debts s i := (fun q => (by first | exact c1 q.1 | exact q.2 c2))
                exact GG.castW ih39 ⟨rfl, (by simp only [List.head?_cons, List.tail_cons, gS]; first | (simp only [if_pos hq, if_pos c1, if_pos c2, if_pos c3]; done) | (simp only [if_neg hq, if_pos c1, if_pos c2, if_pos c3]; done) | (simp only [if_pos c1, if_pos c2, if_pos c3]; done)), rfl, trivial⟩ rfl (by simp only [fS]; first | rw [if_pos hq] | rw [if_neg hq])
            · skip
              refine g_iconst (v := nI 1) h dX4_clear_81 (by decide) (pc' := 82) rfl ?_
              refine g_goto (pc' := 86) h dX4_clear_82 (by decide) ?_
              refine as_18 (j := i) h dX4_clear_86 rfl (by omega) (pc' := 87) rfl ?_
              refine g_iload_n (i := 1) h dX4_clear_87 rfl rfl (pc' := 88) rfl ?_
              refine g_if_ne (tg := 100) h dX4_clear_88 (by decide) (pc' := 91) rfl (fun c3 => ?_) (fun c3 => ?_)
              · skip
                refine g_iconst (v := nI 1) h dX4_clear_100 (by decide) (pc' := 101) rfl ?_
                refine g_goto (pc' := 105) h dX4_clear_101 (by decide) ?_
                refine g_istore1 h dX4_clear_105 rfl (by decide) (pc' := 106) rfl ?_
                refine g_iinc2 (v := nI (i + 1)) h dX4_clear_106 rfl (inc1 i) (by decide) (pc' := 109) rfl ?_
                refine g_goto (pc' := 39) h dX4_clear_109 (by decide) ?_
                first | have hq : cR m cash debts s i := ⟨c1, c2⟩ | have hq : ¬ cR m cash debts s i := (fun q => (by first | exact c1 q.1 | exact q.2 c2))
                exact GG.castW ih39 ⟨rfl, (by simp only [List.head?_cons, List.tail_cons, gS]; first | (simp only [if_pos hq, if_pos c1, if_neg c2, if_neg c3]; done) | (simp only [if_neg hq, if_pos c1, if_neg c2, if_neg c3]; done) | (simp only [if_pos c1, if_neg c2, if_neg c3]; done)), rfl, trivial⟩ rfl (by simp only [fS]; first | rw [if_pos hq] | rw [if_neg hq])
              · skip
                refine g_aload_n (i := 0) h dX4_clear_91 rfl rfl (pc' := 92) rfl ?_
                refine gf_X4_36 h dX4_clear_92 (pc' := 95) rfl ?_
                refine g_iload_n (i := 2) h dX4_clear_95 rfl rfl (pc' := 96) rfl ?_
                refine al_18 (j := i) h dX4_clear_96 rfl (by omega) (pc' := 97) rfl ?_
                refine g_if_eqF (tg := 104) h dX4_clear_97 (by decide) (pc' := 100) rfl (by rw [pk_us]; decide) ?_
                refine g_iconst (v := nI 1) h dX4_clear_100 (by decide) (pc' := 101) rfl ?_
                refine g_goto (pc' := 105) h dX4_clear_101 (by decide) ?_
                refine g_istore1 h dX4_clear_105 rfl (by decide) (pc' := 106) rfl ?_
                refine g_iinc2 (v := nI (i + 1)) h dX4_clear_106 rfl (inc1 i) (by decide) (pc' := 109) rfl ?_
                refine g_goto (pc' := 39) h dX4_clear_109 (by decide) ?_
                first | have hq : cR m cash debts s i := ⟨c1, c2⟩ | have hq : ¬ cR m cash debts s i := (fun q => (by first | exact c1 q.1 | exact q.2 c2))
                exact GG.castW ih39 ⟨rfl, (by simp only [List.head?_cons, List.tail_cons, gS]; first | (simp only [if_pos hq, if_pos c1, if_neg c2, if_pos c3]; done) | (simp only [if_neg hq, if_pos c1, if_neg c2, if_pos c3]; done) | (simp only [if_pos c1, if_neg c2, if_pos c3]; done)), rfl, trivial⟩ rfl (by simp only [fS]; first | rw [if_pos hq] | rw [if_neg hq])
    exact GG.castW (key31 K _ g1) ⟨rfl, rfl, trivial⟩ rfl rfl
  · intro j hj ih7
    refine g_iload_n (i := 1) h dX4_clear_7 rfl rfl (pc' := 8) rfl ?_
    refine g_iconst (v := nI 4) h dX4_clear_8 (by decide) (pc' := 9) rfl ?_
    refine g_icmp_geF (tg := 25) h dX4_clear_9 (by decide) (pc' := 12) rfl (nI_ge hj (by omega)) ?_
    refine g_aload_n (i := 0) h dX4_clear_12 rfl rfl (pc' := 13) rfl ?_
    refine gf_X4_21 h dX4_clear_13 (pc' := 16) rfl ?_
    refine g_iload_n (i := 1) h dX4_clear_16 rfl rfl (pc' := 17) rfl ?_
    refine g_iconst (v := nI 0) h dX4_clear_17 (by decide) (pc' := 18) rfl ?_
    refine as_13 (j := j) h dX4_clear_18 rfl (by omega) (pc' := 19) rfl ?_
    refine g_iinc1 (v := nI (j + 1)) h dX4_clear_19 rfl (inc1 j) (by decide) (pc' := 22) rfl ?_
    refine g_goto (pc' := 7) h dX4_clear_22 (by decide) ?_
    exact GG.castW ih7 ⟨rfl, rfl, trivial⟩ rfl (by rw [zf_s])
set_option maxRecDepth 20000 in
set_option maxHeartbeats 4000000 in
theorem M_X4_common {Z : ZT} {n : Int32} {toll : Int32} {paid : Int64} {cash : Nat → Int64} {debts : Nat → Int32} {fallen : Nat → Int32} {rounds : Int32} {shares : Nat → Int64} {under : Int64} {table : Nat → Int64} {right : Nat → Int64} {tried : Nat → Int64} {falls : Nat → Int32} {rsize : Int32} {ringOf : Nat → Int32} {row : Nat → Int32} {found : Int32} {hh : Int64} {a : Int64} {b : Int64} {K : Nat} {g : Int64} (g0 : cmn K a b = some g) : MM Z yX4_common cX4_common 10 (some .long) 0 [.long a, .long b] (wR Z n toll paid cash debts fallen rounds shares under table right tried falls rsize ringOf row found hh) (some (.long g)) (wR Z n toll paid cash debts fallen rounds shares under table right tried falls rsize ringOf row found hh) := by
  refine MM.intro (by decide) [some (.long a), none, some (.long b), none, none, none, none, none, none, none] rfl (Nat.le_of_ble_eq_true rfl) (fun X (h : OK Z X cX4_common RX4 10 (rmd 0)) hr => ?_)
  refine g_lload_n (i := 0) h dX4_common_0 rfl rfl (pc' := 1) rfl ?_
  refine g_lstore4 h dX4_common_1 rfl (by decide) (pc' := 3) rfl ?_
  refine g_lload_n (i := 2) h dX4_common_3 rfl rfl (pc' := 4) rfl ?_
  refine g_lstore6 h dX4_common_4 rfl (by decide) (pc' := 6) rfl ?_
  have key6 : ∀ (k : Nat) (x y : Int64), (cmn k x y = some g) → GG Z X 6 [some (.long a), none, some (.long b), none, some (.long x), none, some (.long y), none, none, none] [] (wR Z n toll paid cash debts fallen rounds shares under table right tried falls rsize ringOf row found hh) := by
    intro k
    induction k with
    | zero =>
      intro x y e6_0
      exact absurd e6_0 (by simp [cmn])
    | succ k ih6 =>
      intro x y e6_0
      refine g_lload h dX4_common_6 rfl (pc' := 8) rfl ?_
      refine g_lconst (v := 0) h dX4_common_8 (by decide) (pc' := 9) rfl ?_
      refine g_lcmp_eq (pc1 := 10) (tg := 31) h dX4_common_9 rfl dX4_common_10 (by decide) (pc' := 13) rfl (fun c1 => ?_) (fun c1 => ?_)
      · skip
        refine g_lload h dX4_common_31 rfl (pc' := 33) rfl ?_
        exact g_lret h hr dX4_common_33 (by have e := e6_0; rw [cmn, if_pos c1] at e; cases e; rfl) rfl
      · skip
        refine g_lload h dX4_common_13 rfl (pc' := 15) rfl ?_
        refine g_lload h dX4_common_15 rfl (pc' := 17) rfl ?_
        refine g_lrem h dX4_common_17 c1 (pc' := 18) rfl ?_
        refine g_lstore8 h dX4_common_18 rfl (by decide) (pc' := 20) rfl ?_
        refine g_lload h dX4_common_20 rfl (pc' := 22) rfl ?_
        refine g_lstore4 h dX4_common_22 rfl (by decide) (pc' := 24) rfl ?_
        refine g_lload h dX4_common_24 rfl (pc' := 26) rfl ?_
        refine g_lstore6 h dX4_common_26 rfl (by decide) (pc' := 28) rfl ?_
        refine g_goto (pc' := 6) h dX4_common_28 (by decide) ?_
        exact GG.castW (ih6 y (jrem x y) (by have e := e6_0; rw [cmn, if_neg c1] at e; exact e)) ⟨rfl, rfl, rfl, rfl, trivial⟩ rfl rfl
  exact GG.castW (key6 K a b g0) ⟨rfl, rfl, rfl, rfl, trivial⟩ rfl rfl
set_option maxRecDepth 20000 in
set_option maxHeartbeats 4000000 in
theorem M_X4_part {Z : ZT} {n : Int32} {toll : Int32} {paid : Int64} {cash : Nat → Int64} {debts : Nat → Int32} {fallen : Nat → Int32} {rounds : Int32} {shares : Nat → Int64} {under : Int64} {table : Nat → Int64} {right : Nat → Int64} {tried : Nat → Int64} {falls : Nat → Int32} {rsize : Int32} {ringOf : Nat → Int32} {row : Nat → Int32} {found : Int32} {hh : Int64} {a : Int64} {b : Int64} {p : Int32} {K : Nat} {g : Int64} (g0 : cmn K a b = some g) (g1 : ¬ g = 0) : MM Z yX4_part cX4_part 7 (some .long) 1 [.long a, .long b, .int p] (wR Z n toll paid cash debts fallen rounds shares under table right tried falls rsize ringOf row found hh) (some (.long (if p = 0 then a / g else b / g))) (wR Z n toll paid cash debts fallen rounds shares under table right tried falls rsize ringOf row found hh) := by
  refine MM.intro (by decide) [some (.long a), none, some (.long b), none, some (.int p), none, none] rfl (Nat.le_of_ble_eq_true rfl) (fun X (h : OK Z X cX4_part RX4 7 (rmd 1)) hr => ?_)
  refine g_lload_n (i := 0) h dX4_part_0 rfl rfl (pc' := 1) rfl ?_
  refine g_lload_n (i := 2) h dX4_part_1 rfl rfl (pc' := 2) rfl ?_
  refine g_callS1 h dX4_part_2 cf_X4_87 (M_X4_common (a := a) (b := b) g0) rfl (by decide) rfl (Nat.le_of_ble_eq_true rfl) (pc' := 5) rfl ?_
  refine g_lstore5 h dX4_part_5 rfl (by decide) (pc' := 7) rfl ?_
  refine g_iload h dX4_part_7 rfl (pc' := 9) rfl ?_
  refine g_if_ne (tg := 19) h dX4_part_9 (by decide) (pc' := 12) rfl (fun c1 => ?_) (fun c1 => ?_)
  · skip
    refine g_lload_n (i := 2) h dX4_part_19 rfl rfl (pc' := 20) rfl ?_
    refine g_lload h dX4_part_20 rfl (pc' := 22) rfl ?_
    refine g_ldiv h dX4_part_22 g1 (pc' := 23) rfl ?_
    exact g_lret h hr dX4_part_23 (by first | rfl | simp only [if_neg c1] | simp [c1]) rfl
  · skip
    refine g_lload_n (i := 0) h dX4_part_12 rfl rfl (pc' := 13) rfl ?_
    refine g_lload h dX4_part_13 rfl (pc' := 15) rfl ?_
    refine g_ldiv h dX4_part_15 g1 (pc' := 16) rfl ?_
    refine g_goto (pc' := 23) h dX4_part_16 (by decide) ?_
    exact g_lret h hr dX4_part_23 (by first | rfl | simp only [if_pos c1] | simp [c1]) rfl

abbrev rpays (cash : Nat → Int64) (debts : Nat → Int32) (i j : Nat) : Prop := ¬ debts (5 * i + j) = 0 ∧ (debts (5 * i + j)).toInt64 ≤ cash i
def rwN (cash : Nat → Int64) (debts : Nat → Int32) (i j : Nat) : Nat := if rpays cash debts i j then 1 else 0
def rwD (cash : Nat → Int64) (debts : Nat → Int32) (i j : Nat) : Nat → Int32 := if rpays cash debts i j then upd debts (5 * i + j) (nI 0) else debts
def rwP (m : Nat) (paid : Int64) (cash : Nat → Int64) (debts : Nat → Int32) (i j : Nat) : Int64 := if rpays cash debts i j ∧ j = m then paid + (debts (5 * i + j)).toInt64 else paid
def rwC1 (cash : Nat → Int64) (debts : Nat → Int32) (i j : Nat) : Nat → Int64 := vp_updL cash i (cash i - (debts (5 * i + j)).toInt64)
def rwC (m : Nat) (cash : Nat → Int64) (debts : Nat → Int32) (i j : Nat) : Nat → Int64 := if rpays cash debts i j then (if j = m then rwC1 cash debts i j else vp_updL (rwC1 cash debts i j) j (rwC1 cash debts i j j + (debts (5 * i + j)).toInt64)) else cash
abbrev rdT : Type := Nat × Int64 × (Nat → Int64) × (Nat → Int32)
def rStep (m i j : Nat) (t : rdT) : rdT := (t.1 + rwN t.2.2.1 t.2.2.2 i j, rwP m t.2.1 t.2.2.1 t.2.2.2 i j, rwC m t.2.2.1 t.2.2.2 i j, rwD t.2.2.1 t.2.2.2 i j)
def rRow (m i : Nat) : Nat → rdT → rdT
  | 0, t => rStep m i m t
  | j + 1, t => rStep m i j (rRow m i j t)
def rDay (m : Nat) : Nat → rdT → rdT
  | 0, t => t
  | i + 1, t => rRow m i m (rDay m i t)
abbrev rsT : Type := Int64 × (Nat → Int64) × (Nat → Int32)
def rdl (m : Nat) : Nat → Nat → rsT → Option (Nat × rsT)
  | 0, _, _ => none
  | k + 1, c, s => if nI (rDay m m (0, s.1, s.2.1, s.2.2)).1 ≤ 0 then some (c, (rDay m m (0, s.1, s.2.1, s.2.2)).2) else rdl m k (c + 1) (rDay m m (0, s.1, s.2.1, s.2.2)).2
def sJ (f : Nat → Int64) : Nat → Int64
  | 0 => 0
  | i + 1 => sJ f i + f i
def dg4 (m : Nat) (debts : Nat → Int32) (i : Nat) (h : Int64) : Nat → Int64
  | 0 => h
  | j + 1 => 31 * dg4 m debts i h j + (debts (5 * i + j)).toInt64
def dg5 (m : Nat) (cash : Nat → Int64) (debts : Nat → Int32) (h : Int64) : Nat → Int64
  | 0 => h
  | i + 1 => dg4 m debts i (31 * dg5 m cash debts h i + cash i) (m + 1)
def dg6 (fallen : Nat → Int32) (shares : Nat → Int64) (under : Int64) (G : Nat → Int64) (h : Int64) : Nat → Int64
  | 0 => h
  | i + 1 => 31 * (31 * (31 * dg6 fallen shares under G h i + (fallen i).toInt64) + shares i / G i) + under / G i
/-! rings -/
def updN (f : Nat → Nat) (k v : Nat) : Nat → Nat := fun q => if q = k then v else f q
theorem upd_AN {r : Nat → Nat} {k v : Nat} : upd (fun q => nI (r q)) k (nI v) = fun q => nI (updN r k v q) := by
  funext q
  simp only [upd, updN]
  by_cases h : q = k <;> simp [h]
def inn (r : Nat → Nat) (k b : Nat) : Nat → Nat
  | 0 => b
  | t + 1 => if nI (inn r k b t) = 0 then 0 else if nI (r (t + 1)) = nI (r k) then 0 else 1
def nx (s k : Nat) : Nat := if nI (k + 1) = nI s then 0 else k + 1
def is0 (debts : Nat → Int32) (m : Nat) (r : Nat → Nat) (s k : Nat) : Nat := if nI m ≤ nI (r k) then 0 else if nI k = 0 then (if debts (5 * r k + r (nx s k)) ≤ 0 then 0 else 1) else if nI (r k) ≤ nI (r 0) then 0 else (if debts (5 * r k + r (nx s k)) ≤ 0 then 0 else 1)
def iR (debts : Nat → Int32) (m : Nat) (r : Nat → Nat) (s : Nat) : Nat → Nat → Nat → Nat
  | 0, _, b => b
  | f + 1, k, b => if nI b = 0 then b else iR debts m r s f (k + 1) (inn r k (is0 debts m r s k) (k - 1))
theorem inn_le {r : Nat → Nat} {k b : Nat} (hb : b ≤ 1) : ∀ t, inn r k b t ≤ 1
  | 0 => hb
  | t + 1 => by
    rw [inn]
    split
    · exact Nat.zero_le _
    · split
      · exact Nat.zero_le _
      · exact Nat.le_refl _
theorem is0_le {debts : Nat → Int32} {m : Nat} {r : Nat → Nat} {s k : Nat} : is0 debts m r s k ≤ 1 := by
  unfold is0
  repeat' split
  all_goals omega
theorem iR_le {debts : Nat → Int32} {m : Nat} {r : Nat → Nat} {s : Nat} : ∀ {f k b : Nat}, b ≤ 1 → iR debts m r s f k b ≤ 1
  | 0, _, _, h => h
  | f + 1, k, b, h => by
    rw [iR]
    split
    · exact h
    · exact iR_le (inn_le is0_le _)
def kk : Nat → Int32
  | 0 => (-1)
  | n + 1 => nI n
theorem kkdec : ∀ p, nI p + Int32.ofInt (-1) = kk p
  | 0 => by decide
  | p + 1 => dec1 p
theorem kkpos {s t : Nat} (h : t < s) : kk (s - t) = nI (s - t - 1) := by
  rw [show s - t = (s - t - 1) + 1 by omega]; rfl
def lf (c : Nat) : Nat → Nat
  | 0 => c
  | t + 1 => lf c t / 4
theorem lf_le (c : Nat) : ∀ t, lf c t ≤ c
  | 0 => Nat.le_refl _
  | t + 1 => by rw [lf]; have := lf_le c t; omega
def rwf (r : Nat → Nat) (c s : Nat) : Nat → Nat → Nat
  | 0 => r
  | t + 1 => updN (rwf r c s t) (s - t - 1) (lf c t % 4)
theorem rwf_lt {r : Nat → Nat} {c s : Nat} : ∀ t, t ≤ s → ∀ q, s - t ≤ q → q < s → rwf r c s t q < 4
  | 0, _, q, h1, h2 => by omega
  | t + 1, h, q, h1, h2 => by
    rw [rwf, updN]
    split
    · omega
    · exact rwf_lt t (by omega) q (by omega) h2
def cpf (ro r : Nat → Nat) : Nat → Nat → Nat
  | 0 => ro
  | t + 1 => updN (cpf ro r t) t (r t)
def aln (s : Nat) : Nat := if nI s = nI 2 then 16 else if nI s = nI 3 then 64 else 256
abbrev skT : Type := Nat × Nat × (Nat → Nat) × (Nat → Nat)
def skS (debts : Nat → Int32) (m : Nat) (w : Int32) (s c : Nat) (x : skT) : skT :=
  if nI (iR debts m (rwf x.2.2.2 c s s) s s 0 1) = 0 then (x.1, x.2.1, x.2.2.1, rwf x.2.2.2 c s s) else if nI x.1 = w then (x.1 + 1, s, cpf x.2.2.1 (rwf x.2.2.2 c s s) s, rwf x.2.2.2 c s s) else (x.1 + 1, x.2.1, x.2.2.1, rwf x.2.2.2 c s s)
def skC (debts : Nat → Int32) (m : Nat) (w : Int32) (s : Nat) : Nat → skT → skT
  | 0, x => x
  | c + 1, x => skS debts m w s c (skC debts m w s c x)
def skO (debts : Nat → Int32) (m : Nat) (w : Int32) (x : skT) : Nat → skT
  | 0 => x
  | i + 1 => skC debts m w (i + 2) (aln (i + 2)) (skO debts m w x i)
/-- the ring that was sought: its size is at most the number of houses, its houses are houses -/
abbrev skG (m : Nat) (x : skT) : Prop := x.2.1 ≤ m ∧ ∀ q, q < x.2.1 → x.2.2.1 q < 4
theorem cpf_in {ro r : Nat → Nat} : ∀ {t q : Nat}, q < t → cpf ro r t q = r q
  | 0, q, h => by omega
  | t + 1, q, h => by
    rw [cpf, updN]
    split
    · rename_i e; rw [e]
    · exact cpf_in (by omega)
theorem skS_G {debts : Nat → Int32} {m : Nat} {w : Int32} {s c : Nat} {x : skT} (hs : s ≤ m) (h : skG m x) : skG m (skS debts m w s c x) := by
  unfold skS
  split
  · exact h
  · split
    · refine ⟨hs, fun q hq => ?_⟩
      have hq : q < s := hq
      show cpf x.2.2.1 (rwf x.2.2.2 c s s) s q < 4
      rw [cpf_in hq]
      exact rwf_lt s (Nat.le_refl _) q (by omega) hq
    · exact h
theorem skC_G {debts : Nat → Int32} {m : Nat} {w : Int32} {s : Nat} {x : skT} (hs : s ≤ m) (h : skG m x) : ∀ c, skG m (skC debts m w s c x)
  | 0 => h
  | c + 1 => skS_G hs (skC_G hs h c)
theorem skO_G {debts : Nat → Int32} {m : Nat} {w : Int32} {x : skT} (h : skG m x) : ∀ i, i ≤ m - 1 → skG m (skO debts m w x i)
  | 0, _ => h
  | i + 1, hi => skC_G (by omega) (skO_G h i (by omega)) _
abbrev skF (debts : Nat → Int32) (m : Nat) (w : Int32) (ro r : Nat → Nat) : skT := skO debts m w (0, 0, ro, r) (m - 1)
theorem skF_G {debts : Nat → Int32} {m : Nat} {w : Int32} {ro r : Nat → Nat} : skG m (skF debts m w ro r) := skO_G ⟨Nat.zero_le _, fun q h => absurd h (Nat.not_lt_zero q)⟩ _ (Nat.le_refl _)
def tl (ro : Nat → Nat) : Nat → Nat
  | 0 => 0
  | i + 1 => 10 * tl ro i + ro i + 1
/-- the cell of a ring's debt -/
abbrev cel (ro : Nat → Nat) (z k : Nat) : Nat := 5 * ro k + ro (nx z k)
theorem nx_lt {z k : Nat} (h : k < z) (hz : z ≤ 4) : nx z k < z := by
  unfold nx
  split
  · omega
  · rename_i e
    have : ¬ k + 1 = z := fun q => e (by rw [q])
    omega
theorem cel_lt {ro : Nat → Nat} {z k : Nat} (h : k < z) (hz : z ≤ 4) (hr : ∀ q, q < z → ro q < 4) : cel ro z k < 20 := by
  have h1 := hr k h
  have h2 := hr _ (nx_lt h hz)
  unfold cel
  omega
def loR (debts : Nat → Int32) (ro : Nat → Nat) (z : Nat) : Nat → Int32
  | 0 => nI 0
  | k + 1 => if nI k = 0 then debts (cel ro z k) else if loR debts ro z k ≤ debts (cel ro z k) then loR debts ro z k else debts (cel ro z k)
def dlR (debts : Nat → Int32) (ro : Nat → Nat) (z : Nat) (v : Int32) : Nat → Nat → Int32
  | 0 => debts
  | k + 1 => upd (dlR debts ro z v k) (cel ro z k) (dlR debts ro z v k (cel ro z k) - v)
/-- debts, the ring found last, the row at hand -/
abbrev coT : Type := (Nat → Int32) × (Nat → Nat) × (Nat → Nat)
def coL (m : Nat) (y : coT) : Int32 := loR y.1 (skF y.1 m (nI 0) y.2.1 y.2.2).2.2.1 (skF y.1 m (nI 0) y.2.1 y.2.2).2.1 (skF y.1 m (nI 0) y.2.1 y.2.2).2.1
def coN (m : Nat) (y : coT) : coT := (dlR y.1 (skF y.1 m (nI 0) y.2.1 y.2.2).2.2.1 (skF y.1 m (nI 0) y.2.1 y.2.2).2.1 (coL m y) (skF y.1 m (nI 0) y.2.1 y.2.2).2.1, (skF y.1 m (nI 0) y.2.1 y.2.2).2.2.1, (skF y.1 m (nI 0) y.2.1 y.2.2).2.2.2)
/-- all rings away: the sum, and the state ahead of the last look -/
def rca (m : Nat) : Nat → Int32 → coT → Option (Int32 × coT)
  | 0, _, _ => none
  | k + 1, a, y => if coL m y ≤ 0 then some (a, y) else rca m k (a + coL m y * nI (skF y.1 m (nI 0) y.2.1 y.2.2).2.1) (coN m y)
set_option maxRecDepth 20000 in
set_option maxHeartbeats 4000000 in
theorem M_X4_payOne {Z : ZT} {m : Nat} {toll : Int32} {paid : Int64} {cash : Nat → Int64} {debts : Nat → Int32} {fallen : Nat → Int32} {rounds : Int32} {shares : Nat → Int64} {under : Int64} {table : Nat → Int64} {right : Nat → Int64} {tried : Nat → Int64} {falls : Nat → Int32} {rsize : Int32} {ringOf : Nat → Int32} {row : Nat → Int32} {found : Int32} {hh : Int64} {i : Nat} {j : Nat}  (g0 : i < 4) (g1 : j ≤ m) (g2 : m ≤ 4) : MM Z yX4_payOne cX4_payOne 4 (some .int) 0 [.ref (Z.2.2 10), .int (nI i), .int (nI j)] (wR Z (nI m) toll paid cash debts fallen rounds shares under table right tried falls rsize ringOf row found hh) (some (.int (nI (rwN cash debts i j)))) (wR Z (nI m) toll (rwP m paid cash debts i j) (rwC m cash debts i j) (rwD cash debts i j) fallen rounds shares under table right tried falls rsize ringOf row found hh) := by
  refine MM.intro (by decide) [some (.ref (Z.2.2 10)), some (.int (nI i)), some (.int (nI j)), none] rfl (Nat.le_of_ble_eq_true rfl) (fun X (h : OK Z X cX4_payOne RX4 4 (rmd 0)) hr => ?_)
  refine g_aload_n (i := 0) h dX4_payOne_0 rfl rfl (pc' := 1) rfl ?_
  refine gf_X4_17 h dX4_payOne_1 (pc' := 4) rfl ?_
  refine g_iconst (v := nI 5) h dX4_payOne_4 (by decide) (pc' := 5) rfl ?_
  refine g_iload_n (i := 1) h dX4_payOne_5 rfl rfl (pc' := 6) rfl ?_
  refine g_imulN h dX4_payOne_6 (pc' := 7) rfl ?_
  refine g_iload_n (i := 2) h dX4_payOne_7 rfl rfl (pc' := 8) rfl ?_
  refine g_iaddN h dX4_payOne_8 (pc' := 9) rfl ?_
  refine al_12 (j := (5 * i) + j) h dX4_payOne_9 rfl (by omega) (pc' := 10) rfl ?_
  refine g_istore3 h dX4_payOne_10 rfl (by decide) (pc' := 11) rfl ?_
  refine g_iload_n (i := 3) h dX4_payOne_11 rfl rfl (pc' := 12) rfl ?_
  refine g_if_eq (tg := 27) h dX4_payOne_12 (by decide) (pc' := 15) rfl (fun c1 => ?_) (fun c1 => ?_)
  · skip
    refine g_iconst (v := nI 0) h dX4_payOne_27 (by decide) (pc' := 28) rfl ?_
    exact g_iret h hr dX4_payOne_28 (by have hp : ¬ rpays cash debts i j := fun q => (by first | exact q.1 c1 | exact c2 q.2); simp only [rwN, if_neg hp]) (by have hp : ¬ rpays cash debts i j := fun q => (by first | exact q.1 c1 | exact c2 q.2); simp only [rwP, rwC, rwD, if_neg hp, if_neg (fun q : rpays cash debts i j ∧ j = m => hp q.1)])
  · skip
    refine g_aload_n (i := 0) h dX4_payOne_15 rfl rfl (pc' := 16) rfl ?_
    refine gf_X4_13 h dX4_payOne_16 (pc' := 19) rfl ?_
    refine g_iload_n (i := 1) h dX4_payOne_19 rfl rfl (pc' := 20) rfl ?_
    refine al_11 (j := i) h dX4_payOne_20 rfl (by omega) (pc' := 21) rfl ?_
    refine g_iload_n (i := 3) h dX4_payOne_21 rfl rfl (pc' := 22) rfl ?_
    refine g_i2l h dX4_payOne_22 (pc' := 23) rfl ?_
    refine g_lcmp_ge (pc1 := 24) (tg := 29) h dX4_payOne_23 rfl dX4_payOne_24 (by decide) (pc' := 27) rfl (fun c2 => ?_) (fun c2 => ?_)
    · skip
      refine g_aload_n (i := 0) h dX4_payOne_29 rfl rfl (pc' := 30) rfl ?_
      refine gf_X4_17 h dX4_payOne_30 (pc' := 33) rfl ?_
      refine g_iconst (v := nI 5) h dX4_payOne_33 (by decide) (pc' := 34) rfl ?_
      refine g_iload_n (i := 1) h dX4_payOne_34 rfl rfl (pc' := 35) rfl ?_
      refine g_imulN h dX4_payOne_35 (pc' := 36) rfl ?_
      refine g_iload_n (i := 2) h dX4_payOne_36 rfl rfl (pc' := 37) rfl ?_
      refine g_iaddN h dX4_payOne_37 (pc' := 38) rfl ?_
      refine g_iconst (v := nI 0) h dX4_payOne_38 (by decide) (pc' := 39) rfl ?_
      refine as_12 (j := (5 * i) + j) h dX4_payOne_39 rfl (by omega) (pc' := 40) rfl ?_
      refine g_aload_n (i := 0) h dX4_payOne_40 rfl rfl (pc' := 41) rfl ?_
      refine gf_X4_13 h dX4_payOne_41 (pc' := 44) rfl ?_
      refine g_iload_n (i := 1) h dX4_payOne_44 rfl rfl (pc' := 45) rfl ?_
      refine g_dup2 (y := 0) h dX4_payOne_45 (pc' := 46) rfl ?_
      refine al_11 (j := i) h dX4_payOne_46 rfl (by omega) (pc' := 47) rfl ?_
      refine g_iload_n (i := 3) h dX4_payOne_47 rfl rfl (pc' := 48) rfl ?_
      refine g_i2l h dX4_payOne_48 (pc' := 49) rfl ?_
      refine g_lsub h dX4_payOne_49 (pc' := 50) rfl ?_
      refine as_11 (j := i) h dX4_payOne_50 rfl (by omega) (pc' := 51) rfl ?_
      refine g_iload_n (i := 2) h dX4_payOne_51 rfl rfl (pc' := 52) rfl ?_
      refine g_aload_n (i := 0) h dX4_payOne_52 rfl rfl (pc' := 53) rfl ?_
      refine gf_X4_7 h dX4_payOne_53 (pc' := 56) rfl ?_
      refine g_icmp_ne (tg := 73) h dX4_payOne_56 (by decide) (pc' := 59) rfl (fun c3 => ?_) (fun c3 => ?_)
      · skip
        have hc4 : ¬ j = m := fun q => c3 (by rw [q])
        refine g_aload_n (i := 0) h dX4_payOne_73 rfl rfl (pc' := 74) rfl ?_
        refine gf_X4_13 h dX4_payOne_74 (pc' := 77) rfl ?_
        refine g_iload_n (i := 2) h dX4_payOne_77 rfl rfl (pc' := 78) rfl ?_
        refine g_dup2 (y := 0) h dX4_payOne_78 (pc' := 79) rfl ?_
        refine al_11 (j := j) h dX4_payOne_79 rfl (by omega) (pc' := 80) rfl ?_
        refine g_iload_n (i := 3) h dX4_payOne_80 rfl rfl (pc' := 81) rfl ?_
        refine g_i2l h dX4_payOne_81 (pc' := 82) rfl ?_
        refine g_ladd h dX4_payOne_82 (pc' := 83) rfl ?_
        refine as_11 (j := j) h dX4_payOne_83 rfl (by omega) (pc' := 84) rfl ?_
        refine g_iconst (v := nI 1) h dX4_payOne_84 (by decide) (pc' := 85) rfl ?_
        exact g_iret h hr dX4_payOne_85 (by have hp : rpays cash debts i j := ⟨c1, c2⟩; simp only [rwN, if_pos hp]) (by have hp : rpays cash debts i j := ⟨c1, c2⟩; first | (simp only [rwP, rwC, rwC1, rwD, if_pos hp, if_pos hc4, if_pos (And.intro hp hc4)]; done) | simp only [rwP, rwC, rwC1, rwD, if_pos hp, if_neg hc4, if_neg (fun q : rpays cash debts i j ∧ j = m => hc4 q.2)])
      · skip
        have hc4 : j = m := (nI_eq (by omega) (by omega)).mp c3
        refine g_aload_n (i := 0) h dX4_payOne_59 rfl rfl (pc' := 60) rfl ?_
        refine g_dupR h dX4_payOne_60 (pc' := 61) rfl ?_
        refine gf_X4_53 h dX4_payOne_61 (pc' := 64) rfl ?_
        refine g_iload_n (i := 3) h dX4_payOne_64 rfl rfl (pc' := 65) rfl ?_
        refine g_i2l h dX4_payOne_65 (pc' := 66) rfl ?_
        refine g_ladd h dX4_payOne_66 (pc' := 67) rfl ?_
        refine pf_X4_53 h dX4_payOne_67 (pc' := 70) rfl ?_
        refine g_goto (pc' := 84) h dX4_payOne_70 (by decide) ?_
        refine g_iconst (v := nI 1) h dX4_payOne_84 (by decide) (pc' := 85) rfl ?_
        exact g_iret h hr dX4_payOne_85 (by have hp : rpays cash debts i j := ⟨c1, c2⟩; simp only [rwN, if_pos hp]) (by have hp : rpays cash debts i j := ⟨c1, c2⟩; first | (simp only [rwP, rwC, rwC1, rwD, if_pos hp, if_pos hc4, if_pos (And.intro hp hc4)]; done) | simp only [rwP, rwC, rwC1, rwD, if_pos hp, if_neg hc4, if_neg (fun q : rpays cash debts i j ∧ j = m => hc4 q.2)])
    · skip
      refine g_iconst (v := nI 0) h dX4_payOne_27 (by decide) (pc' := 28) rfl ?_
      exact g_iret h hr dX4_payOne_28 (by have hp : ¬ rpays cash debts i j := fun q => (by first | exact q.1 c1 | exact c2 q.2); simp only [rwN, if_neg hp]) (by have hp : ¬ rpays cash debts i j := fun q => (by first | exact q.1 c1 | exact c2 q.2); simp only [rwP, rwC, rwD, if_neg hp, if_neg (fun q : rpays cash debts i j ∧ j = m => hp q.1)])
set_option maxRecDepth 20000 in
set_option maxHeartbeats 4000000 in
theorem M_X4_passDay {Z : ZT} {m : Nat} {toll : Int32} {paid : Int64} {cash : Nat → Int64} {debts : Nat → Int32} {fallen : Nat → Int32} {rounds : Int32} {shares : Nat → Int64} {under : Int64} {table : Nat → Int64} {right : Nat → Int64} {tried : Nat → Int64} {falls : Nat → Int32} {rsize : Int32} {ringOf : Nat → Int32} {row : Nat → Int32} {found : Int32} {hh : Int64}   (g0 : m ≤ 4) : MM Z yX4_passDay cX4_passDay 4 (some .int) 1 [.ref (Z.2.2 10)] (wR Z (nI m) toll paid cash debts fallen rounds shares under table right tried falls rsize ringOf row found hh) (some (.int (nI ((rDay m m (0, paid, cash, debts)).1)))) (wR Z (nI m) toll ((rDay m m (0, paid, cash, debts)).2.1) ((rDay m m (0, paid, cash, debts)).2.2.1) ((rDay m m (0, paid, cash, debts)).2.2.2) fallen rounds shares under table right tried falls rsize ringOf row found hh) := by
  refine MM.intro (by decide) [some (.ref (Z.2.2 10)), none, none, none] rfl (Nat.le_of_ble_eq_true rfl) (fun X (h : OK Z X cX4_passDay RX4 4 (rmd 1)) hr => ?_)
  refine g_iconst (v := nI 0) h dX4_passDay_0 (by decide) (pc' := 1) rfl ?_
  refine g_istore1 h dX4_passDay_1 rfl (by decide) (pc' := 2) rfl ?_
  refine g_iconst (v := nI 0) h dX4_passDay_2 (by decide) (pc' := 3) rfl ?_
  refine g_istore2 h dX4_passDay_3 rfl (by decide) (pc' := 4) rfl ?_
  refine GG.castW (lp (P := fun i => GG Z X 4 [some (.ref (Z.2.2 10)), some (.int (nI ((rDay m i (0, paid, cash, debts)).1))), some (.int (nI i)), none] [] (wR Z (nI m) toll ((rDay m i (0, paid, cash, debts)).2.1) ((rDay m i (0, paid, cash, debts)).2.2.1) ((rDay m i (0, paid, cash, debts)).2.2.2) fallen rounds shares under table right tried falls rsize ringOf row found hh)) m ?_ ?_) ⟨rfl, rfl, rfl, trivial⟩ rfl rfl
  · skip
    refine g_iload_n (i := 2) h dX4_passDay_4 rfl rfl (pc' := 5) rfl ?_
    refine g_aload_n (i := 0) h dX4_passDay_5 rfl rfl (pc' := 6) rfl ?_
    refine gf_X4_7 h dX4_passDay_6 (pc' := 9) rfl ?_
    refine g_icmp_geT (tg := 55) h dX4_passDay_9 (by decide) (Int32.le_refl _) ?_
    refine g_iload_n (i := 1) h dX4_passDay_55 rfl rfl (pc' := 56) rfl ?_
    exact g_iret h hr dX4_passDay_56 rfl rfl
  · intro i hi ih4
    refine g_iload_n (i := 2) h dX4_passDay_4 rfl rfl (pc' := 5) rfl ?_
    refine g_aload_n (i := 0) h dX4_passDay_5 rfl rfl (pc' := 6) rfl ?_
    refine gf_X4_7 h dX4_passDay_6 (pc' := 9) rfl ?_
    refine g_icmp_geF (tg := 55) h dX4_passDay_9 (by decide) (pc' := 12) rfl (nI_ge hi (by omega)) ?_
    refine g_iload_n (i := 1) h dX4_passDay_12 rfl rfl (pc' := 13) rfl ?_
    refine g_aload_n (i := 0) h dX4_passDay_13 rfl rfl (pc' := 14) rfl ?_
    refine g_iload_n (i := 2) h dX4_passDay_14 rfl rfl (pc' := 15) rfl ?_
    refine g_aload_n (i := 0) h dX4_passDay_15 rfl rfl (pc' := 16) rfl ?_
    refine gf_X4_7 h dX4_passDay_16 (pc' := 19) rfl ?_
    refine g_callV1 (q0 := 0) h dX4_passDay_19 cf_X4_128 (M_X4_payOne (i := i) (j := m) (by omega) (by omega) (by omega)) rfl rfl rfl rfl (by decide) rfl (Nat.le_of_ble_eq_true rfl) (pc' := 22) rfl ?_
    refine g_iaddN h dX4_passDay_22 (pc' := 23) rfl ?_
    refine g_istore1 h dX4_passDay_23 rfl (by decide) (pc' := 24) rfl ?_
    refine g_iconst (v := nI 0) h dX4_passDay_24 (by decide) (pc' := 25) rfl ?_
    refine g_istore3 h dX4_passDay_25 rfl (by decide) (pc' := 26) rfl ?_
    refine GG.castW (lp (P := fun j => GG Z X 26 [some (.ref (Z.2.2 10)), some (.int (nI ((rRow m i j (rDay m i (0, paid, cash, debts))).1))), some (.int (nI i)), some (.int (nI j))] [] (wR Z (nI m) toll ((rRow m i j (rDay m i (0, paid, cash, debts))).2.1) ((rRow m i j (rDay m i (0, paid, cash, debts))).2.2.1) ((rRow m i j (rDay m i (0, paid, cash, debts))).2.2.2) fallen rounds shares under table right tried falls rsize ringOf row found hh)) m ?_ ?_) ⟨rfl, rfl, rfl, rfl, trivial⟩ rfl rfl
    · skip
      refine g_iload_n (i := 3) h dX4_passDay_26 rfl rfl (pc' := 27) rfl ?_
      refine g_aload_n (i := 0) h dX4_passDay_27 rfl rfl (pc' := 28) rfl ?_
      refine gf_X4_7 h dX4_passDay_28 (pc' := 31) rfl ?_
      refine g_icmp_geT (tg := 49) h dX4_passDay_31 (by decide) (Int32.le_refl _) ?_
      refine g_iinc2 (v := nI (i + 1)) h dX4_passDay_49 rfl (inc1 i) (by decide) (pc' := 52) rfl ?_
      refine g_goto (pc' := 4) h dX4_passDay_52 (by decide) ?_
      exact GG.castW ih4 ⟨rfl, rfl, rfl, trivial⟩ rfl rfl
    · intro j hj ih26
      refine g_iload_n (i := 3) h dX4_passDay_26 rfl rfl (pc' := 27) rfl ?_
      refine g_aload_n (i := 0) h dX4_passDay_27 rfl rfl (pc' := 28) rfl ?_
      refine gf_X4_7 h dX4_passDay_28 (pc' := 31) rfl ?_
      refine g_icmp_geF (tg := 49) h dX4_passDay_31 (by decide) (pc' := 34) rfl (nI_ge hj (by omega)) ?_
      refine g_iload_n (i := 1) h dX4_passDay_34 rfl rfl (pc' := 35) rfl ?_
      refine g_aload_n (i := 0) h dX4_passDay_35 rfl rfl (pc' := 36) rfl ?_
      refine g_iload_n (i := 2) h dX4_passDay_36 rfl rfl (pc' := 37) rfl ?_
      refine g_iload_n (i := 3) h dX4_passDay_37 rfl rfl (pc' := 38) rfl ?_
      refine g_callV1 (q0 := 0) h dX4_passDay_38 cf_X4_128 (M_X4_payOne (i := i) (j := j) (by omega) (by omega) (by omega)) rfl rfl rfl rfl (by decide) rfl (Nat.le_of_ble_eq_true rfl) (pc' := 41) rfl ?_
      refine g_iaddN h dX4_passDay_41 (pc' := 42) rfl ?_
      refine g_istore1 h dX4_passDay_42 rfl (by decide) (pc' := 43) rfl ?_
      refine g_iinc3 (v := nI (j + 1)) h dX4_passDay_43 rfl (inc1 j) (by decide) (pc' := 46) rfl ?_
      refine g_goto (pc' := 26) h dX4_passDay_46 (by decide) ?_
      exact GG.castW ih26 ⟨rfl, rfl, rfl, rfl, trivial⟩ rfl rfl
set_option maxRecDepth 20000 in
set_option maxHeartbeats 4000000 in
theorem R_day {Z : ZT} {m : Nat} {toll : Int32} {paid : Int64} {cash : Nat → Int64} {debts : Nat → Int32} {fallen : Nat → Int32} {rounds : Int32} {shares : Nat → Int64} {under : Int64} {table : Nat → Int64} {right : Nat → Int64} {tried : Nat → Int64} {falls : Nat → Int32} {rsize : Int32} {ringOf : Nat → Int32} {row : Nat → Int32} {found : Int32} {hh : Int64}   (g0 : m ≤ 4) : MM Z yX4_day cX4_day 1 (some .int) 2 [.ref (Z.2.2 10)] (wR Z (nI m) toll paid cash debts fallen rounds shares under table right tried falls rsize ringOf row found hh) (some (.int (nI ((rDay m m (0, paid, cash, debts)).1)))) (wR Z (nI m) toll ((rDay m m (0, paid, cash, debts)).2.1) ((rDay m m (0, paid, cash, debts)).2.2.1) ((rDay m m (0, paid, cash, debts)).2.2.2) fallen rounds shares under table right tried falls rsize ringOf row found hh) := by
  refine MM.intro (by decide) [some (.ref (Z.2.2 10))] rfl (Nat.le_of_ble_eq_true rfl) (fun X (h : OK Z X cX4_day RX4 1 (rmd 2)) hr => ?_)
  refine g_aload_n (i := 0) h dX4_day_0 rfl rfl (pc' := 1) rfl ?_
  refine g_callV1 (q0 := 0) h dX4_day_1 cf_X4_132 (M_X4_passDay  (by omega)) rfl rfl rfl rfl (by decide) rfl (Nat.le_of_ble_eq_true rfl) (pc' := 4) rfl ?_
  exact g_iret h hr dX4_day_4 rfl rfl
set_option maxRecDepth 20000 in
set_option maxHeartbeats 4000000 in
theorem R_days {Z : ZT} {m : Nat} {toll : Int32} {paid : Int64} {cash : Nat → Int64} {debts : Nat → Int32} {fallen : Nat → Int32} {rounds : Int32} {shares : Nat → Int64} {under : Int64} {table : Nat → Int64} {right : Nat → Int64} {tried : Nat → Int64} {falls : Nat → Int32} {rsize : Int32} {ringOf : Nat → Int32} {row : Nat → Int32} {found : Int32} {hh : Int64}  {K : Nat} {x9 : Nat × rsT} (g0 : m ≤ 4) (g1 : rdl m K 0 (paid, cash, debts) = some x9) : MM Z yX4_days cX4_days 2 (some .int) 2 [.ref (Z.2.2 10)] (wR Z (nI m) toll paid cash debts fallen rounds shares under table right tried falls rsize ringOf row found hh) (some (.int (nI x9.1))) (wR Z (nI m) toll x9.2.1 x9.2.2.1 x9.2.2.2 fallen rounds shares under table right tried falls rsize ringOf row found hh) := by
  refine MM.intro (by decide) [some (.ref (Z.2.2 10)), none] rfl (Nat.le_of_ble_eq_true rfl) (fun X (h : OK Z X cX4_days RX4 2 (rmd 2)) hr => ?_)
  refine g_iconst (v := nI 0) h dX4_days_0 (by decide) (pc' := 1) rfl ?_
  refine g_istore1 h dX4_days_1 rfl (by decide) (pc' := 2) rfl ?_
  have key2 : ∀ (k : Nat) (c : Nat) (s : rsT), (rdl m k c s = some x9) → GG Z X 2 [some (.ref (Z.2.2 10)), some (.int (nI c))] [] (wR Z (nI m) toll s.1 s.2.1 s.2.2 fallen rounds shares under table right tried falls rsize ringOf row found hh) := by
    intro k
    induction k with
    | zero =>
      intro c s e2_0
      exact absurd e2_0 (by simp [rdl])
    | succ k ih2 =>
      intro c s e2_0
      refine g_aload_n (i := 0) h dX4_days_2 rfl rfl (pc' := 3) rfl ?_
      refine g_callV1 (q0 := 0) h dX4_days_3 cf_X4_132 (M_X4_passDay  (by omega)) rfl rfl rfl rfl (by decide) rfl (Nat.le_of_ble_eq_true rfl) (pc' := 6) rfl ?_
      refine g_if_le (tg := 15) h dX4_days_6 (by decide) (pc' := 9) rfl (fun c1 => ?_) (fun c1 => ?_)
      · skip
        refine g_iload_n (i := 1) h dX4_days_15 rfl rfl (pc' := 16) rfl ?_
        exact g_iret h hr dX4_days_16 (by have e := e2_0; rw [rdl, if_pos c1] at e; cases e; rfl) (by have e := e2_0; rw [rdl, if_pos c1] at e; cases e; rfl)
      · skip
        refine g_iinc1 (v := nI (c + 1)) h dX4_days_9 rfl (inc1 c) (by decide) (pc' := 12) rfl ?_
        refine g_goto (pc' := 2) h dX4_days_12 (by decide) ?_
        exact GG.castW (ih2 (c + 1) (rDay m m (0, s.1, s.2.1, s.2.2)).2 (by have e := e2_0; rw [rdl, if_neg c1] at e; exact e)) ⟨rfl, rfl, trivial⟩ rfl rfl
  exact GG.castW (key2 K 0 (paid, cash, debts) g1) ⟨rfl, rfl, trivial⟩ rfl rfl
set_option maxRecDepth 20000 in
set_option maxHeartbeats 4000000 in
theorem R_count_0 {Z : ZT} {m : Nat} {toll : Int32} {paid : Int64} {cash : Nat → Int64} {debts : Nat → Int32} {fallen : Nat → Int32} {rounds : Int32} {shares : Nat → Int64} {under : Int64} {table : Nat → Int64} {right : Nat → Int64} {tried : Nat → Int64} {falls : Nat → Int32} {rsize : Int32} {ringOf : Nat → Int32} {row : Nat → Int32} {found : Int32} {hh : Int64}   (g0 : m ≤ 4) : MM Z yX4_count cX4_count 5 (some .int) 1 [.ref (Z.2.2 10), .int (nI 0)] (wR Z (nI m) toll paid cash debts fallen rounds shares under table right tried falls rsize ringOf row found hh) (some (.int (nI m))) (wR Z (nI m) toll paid cash debts fallen rounds shares under table right tried falls rsize ringOf row found hh) := by
  refine MM.intro (by decide) [some (.ref (Z.2.2 10)), some (.int (nI 0)), none, none, none] rfl (Nat.le_of_ble_eq_true rfl) (fun X (h : OK Z X cX4_count RX4 5 (rmd 1)) hr => ?_)
  refine g_lconst (v := 0) h dX4_count_0 (by decide) (pc' := 1) rfl ?_
  refine g_lstore2 h dX4_count_1 rfl (by decide) (pc' := 2) rfl ?_
  refine g_iconst (v := nI 0) h dX4_count_2 (by decide) (pc' := 3) rfl ?_
  refine g_istore4 h dX4_count_3 rfl (by decide) (pc' := 5) rfl ?_
  refine GG.castW (lp (P := fun i => GG Z X 5 [some (.ref (Z.2.2 10)), some (.int (nI 0)), some (.long (sJ (fun _ => 0) i)), none, some (.int (nI i))] [] (wR Z (nI m) toll paid cash debts fallen rounds shares under table right tried falls rsize ringOf row found hh)) m ?_ ?_) ⟨rfl, rfl, rfl, rfl, trivial⟩ rfl rfl
  · skip
    refine g_iload h dX4_count_5 rfl (pc' := 7) rfl ?_
    refine g_aload_n (i := 0) h dX4_count_7 rfl rfl (pc' := 8) rfl ?_
    refine gf_X4_7 h dX4_count_8 (pc' := 11) rfl ?_
    refine g_icmp_geT (tg := 95) h dX4_count_11 (by decide) (Int32.le_refl _) ?_
    refine g_iload_n (i := 1) h dX4_count_95 rfl rfl (pc' := 96) rfl ?_
    refine g_look (off := 36) (tg := 132) h dX4_count_96 (by decide) (by decide) (by decide) ?_
    refine g_aload_n (i := 0) h dX4_count_132 rfl rfl (pc' := 133) rfl ?_
    refine gf_X4_7 h dX4_count_133 (pc' := 136) rfl ?_
    exact g_iret h hr dX4_count_136 rfl rfl
  · intro i hi ih5
    refine g_iload h dX4_count_5 rfl (pc' := 7) rfl ?_
    refine g_aload_n (i := 0) h dX4_count_7 rfl rfl (pc' := 8) rfl ?_
    refine gf_X4_7 h dX4_count_8 (pc' := 11) rfl ?_
    refine g_icmp_geF (tg := 95) h dX4_count_11 (by decide) (pc' := 14) rfl (nI_ge hi (by omega)) ?_
    refine g_lload_n (i := 2) h dX4_count_14 rfl rfl (pc' := 15) rfl ?_
    refine g_iload_n (i := 1) h dX4_count_15 rfl rfl (pc' := 16) rfl ?_
    refine g_iconst (v := nI 2) h dX4_count_16 (by decide) (pc' := 17) rfl ?_
    refine g_icmp_neT (tg := 30) h dX4_count_17 (by decide) (by decide) ?_
    refine g_iload_n (i := 1) h dX4_count_30 rfl rfl (pc' := 31) rfl ?_
    refine g_iconst (v := nI 3) h dX4_count_31 (by decide) (pc' := 32) rfl ?_
    refine g_icmp_neT (tg := 45) h dX4_count_32 (by decide) (by decide) ?_
    refine g_iload_n (i := 1) h dX4_count_45 rfl rfl (pc' := 46) rfl ?_
    refine g_iconst (v := nI 4) h dX4_count_46 (by decide) (pc' := 47) rfl ?_
    refine g_icmp_neT (tg := 68) h dX4_count_47 (by decide) (by decide) ?_
    refine g_iload_n (i := 1) h dX4_count_68 rfl rfl (pc' := 69) rfl ?_
    refine g_iconst (v := nI 5) h dX4_count_69 (by decide) (pc' := 70) rfl ?_
    refine g_icmp_neT (tg := 86) h dX4_count_70 (by decide) (by decide) ?_
    refine g_lconst (v := 0) h dX4_count_86 (by decide) (pc' := 87) rfl ?_
    refine g_ladd h dX4_count_87 (pc' := 88) rfl ?_
    refine g_lstore2 h dX4_count_88 rfl (by decide) (pc' := 89) rfl ?_
    refine g_iinc4 (v := nI (i + 1)) h dX4_count_89 rfl (inc1 i) (by decide) (pc' := 92) rfl ?_
    refine g_goto (pc' := 5) h dX4_count_92 (by decide) ?_
    exact GG.castW ih5 ⟨rfl, rfl, rfl, rfl, trivial⟩ rfl rfl
set_option maxRecDepth 20000 in
set_option maxHeartbeats 4000000 in
theorem R_count_1 {Z : ZT} {m : Nat} {toll : Int32} {paid : Int64} {cash : Nat → Int64} {debts : Nat → Int32} {fallen : Nat → Int32} {rounds : Int32} {shares : Nat → Int64} {under : Int64} {table : Nat → Int64} {right : Nat → Int64} {tried : Nat → Int64} {falls : Nat → Int32} {rsize : Int32} {ringOf : Nat → Int32} {row : Nat → Int32} {found : Int32} {hh : Int64}   (g0 : m ≤ 4) : MM Z yX4_count cX4_count 5 (some .int) 1 [.ref (Z.2.2 10), .int (nI 1)] (wR Z (nI m) toll paid cash debts fallen rounds shares under table right tried falls rsize ringOf row found hh) (some (.int toll)) (wR Z (nI m) toll paid cash debts fallen rounds shares under table right tried falls rsize ringOf row found hh) := by
  refine MM.intro (by decide) [some (.ref (Z.2.2 10)), some (.int (nI 1)), none, none, none] rfl (Nat.le_of_ble_eq_true rfl) (fun X (h : OK Z X cX4_count RX4 5 (rmd 1)) hr => ?_)
  refine g_lconst (v := 0) h dX4_count_0 (by decide) (pc' := 1) rfl ?_
  refine g_lstore2 h dX4_count_1 rfl (by decide) (pc' := 2) rfl ?_
  refine g_iconst (v := nI 0) h dX4_count_2 (by decide) (pc' := 3) rfl ?_
  refine g_istore4 h dX4_count_3 rfl (by decide) (pc' := 5) rfl ?_
  refine GG.castW (lp (P := fun i => GG Z X 5 [some (.ref (Z.2.2 10)), some (.int (nI 1)), some (.long (sJ (fun _ => 0) i)), none, some (.int (nI i))] [] (wR Z (nI m) toll paid cash debts fallen rounds shares under table right tried falls rsize ringOf row found hh)) m ?_ ?_) ⟨rfl, rfl, rfl, rfl, trivial⟩ rfl rfl
  · skip
    refine g_iload h dX4_count_5 rfl (pc' := 7) rfl ?_
    refine g_aload_n (i := 0) h dX4_count_7 rfl rfl (pc' := 8) rfl ?_
    refine gf_X4_7 h dX4_count_8 (pc' := 11) rfl ?_
    refine g_icmp_geT (tg := 95) h dX4_count_11 (by decide) (Int32.le_refl _) ?_
    refine g_iload_n (i := 1) h dX4_count_95 rfl rfl (pc' := 96) rfl ?_
    refine g_look (off := 41) (tg := 137) h dX4_count_96 (by decide) (by decide) (by decide) ?_
    refine g_aload_n (i := 0) h dX4_count_137 rfl rfl (pc' := 138) rfl ?_
    refine gf_X4_50 h dX4_count_138 (pc' := 141) rfl ?_
    exact g_iret h hr dX4_count_141 rfl rfl
  · intro i hi ih5
    refine g_iload h dX4_count_5 rfl (pc' := 7) rfl ?_
    refine g_aload_n (i := 0) h dX4_count_7 rfl rfl (pc' := 8) rfl ?_
    refine gf_X4_7 h dX4_count_8 (pc' := 11) rfl ?_
    refine g_icmp_geF (tg := 95) h dX4_count_11 (by decide) (pc' := 14) rfl (nI_ge hi (by omega)) ?_
    refine g_lload_n (i := 2) h dX4_count_14 rfl rfl (pc' := 15) rfl ?_
    refine g_iload_n (i := 1) h dX4_count_15 rfl rfl (pc' := 16) rfl ?_
    refine g_iconst (v := nI 2) h dX4_count_16 (by decide) (pc' := 17) rfl ?_
    refine g_icmp_neT (tg := 30) h dX4_count_17 (by decide) (by decide) ?_
    refine g_iload_n (i := 1) h dX4_count_30 rfl rfl (pc' := 31) rfl ?_
    refine g_iconst (v := nI 3) h dX4_count_31 (by decide) (pc' := 32) rfl ?_
    refine g_icmp_neT (tg := 45) h dX4_count_32 (by decide) (by decide) ?_
    refine g_iload_n (i := 1) h dX4_count_45 rfl rfl (pc' := 46) rfl ?_
    refine g_iconst (v := nI 4) h dX4_count_46 (by decide) (pc' := 47) rfl ?_
    refine g_icmp_neT (tg := 68) h dX4_count_47 (by decide) (by decide) ?_
    refine g_iload_n (i := 1) h dX4_count_68 rfl rfl (pc' := 69) rfl ?_
    refine g_iconst (v := nI 5) h dX4_count_69 (by decide) (pc' := 70) rfl ?_
    refine g_icmp_neT (tg := 86) h dX4_count_70 (by decide) (by decide) ?_
    refine g_lconst (v := 0) h dX4_count_86 (by decide) (pc' := 87) rfl ?_
    refine g_ladd h dX4_count_87 (pc' := 88) rfl ?_
    refine g_lstore2 h dX4_count_88 rfl (by decide) (pc' := 89) rfl ?_
    refine g_iinc4 (v := nI (i + 1)) h dX4_count_89 rfl (inc1 i) (by decide) (pc' := 92) rfl ?_
    refine g_goto (pc' := 5) h dX4_count_92 (by decide) ?_
    exact GG.castW ih5 ⟨rfl, rfl, rfl, rfl, trivial⟩ rfl rfl
set_option maxRecDepth 20000 in
set_option maxHeartbeats 4000000 in
theorem R_count_2 {Z : ZT} {m : Nat} {toll : Int32} {paid : Int64} {cash : Nat → Int64} {debts : Nat → Int32} {fallen : Nat → Int32} {rounds : Int32} {shares : Nat → Int64} {under : Int64} {table : Nat → Int64} {right : Nat → Int64} {tried : Nat → Int64} {falls : Nat → Int32} {rsize : Int32} {ringOf : Nat → Int32} {row : Nat → Int32} {found : Int32} {hh : Int64}   (g0 : m ≤ 4) : MM Z yX4_count cX4_count 5 (some .int) 1 [.ref (Z.2.2 10), .int (nI 2)] (wR Z (nI m) toll paid cash debts fallen rounds shares under table right tried falls rsize ringOf row found hh) (some (.int ((sJ cash m).toInt32))) (wR Z (nI m) toll paid cash debts fallen rounds shares under table right tried falls rsize ringOf row found hh) := by
  refine MM.intro (by decide) [some (.ref (Z.2.2 10)), some (.int (nI 2)), none, none, none] rfl (Nat.le_of_ble_eq_true rfl) (fun X (h : OK Z X cX4_count RX4 5 (rmd 1)) hr => ?_)
  refine g_lconst (v := 0) h dX4_count_0 (by decide) (pc' := 1) rfl ?_
  refine g_lstore2 h dX4_count_1 rfl (by decide) (pc' := 2) rfl ?_
  refine g_iconst (v := nI 0) h dX4_count_2 (by decide) (pc' := 3) rfl ?_
  refine g_istore4 h dX4_count_3 rfl (by decide) (pc' := 5) rfl ?_
  refine GG.castW (lp (P := fun i => GG Z X 5 [some (.ref (Z.2.2 10)), some (.int (nI 2)), some (.long (sJ cash i)), none, some (.int (nI i))] [] (wR Z (nI m) toll paid cash debts fallen rounds shares under table right tried falls rsize ringOf row found hh)) m ?_ ?_) ⟨rfl, rfl, rfl, rfl, trivial⟩ rfl rfl
  · skip
    refine g_iload h dX4_count_5 rfl (pc' := 7) rfl ?_
    refine g_aload_n (i := 0) h dX4_count_7 rfl rfl (pc' := 8) rfl ?_
    refine gf_X4_7 h dX4_count_8 (pc' := 11) rfl ?_
    refine g_icmp_geT (tg := 95) h dX4_count_11 (by decide) (Int32.le_refl _) ?_
    refine g_iload_n (i := 1) h dX4_count_95 rfl rfl (pc' := 96) rfl ?_
    refine g_look (off := 52) (tg := 148) h dX4_count_96 (by decide) (by decide) (by decide) ?_
    refine g_iload_n (i := 1) h dX4_count_148 rfl rfl (pc' := 149) rfl ?_
    refine g_iconst (v := nI 2) h dX4_count_149 (by decide) (pc' := 150) rfl ?_
    refine g_iconst (v := nI 5) h dX4_count_150 (by decide) (pc' := 151) rfl ?_
    refine g_callS1 h dX4_count_151 cf_X4_46 (M_X4_in (v := nI 2) (lo := nI 2) (hi := nI 5) ) rfl (by decide) rfl (Nat.le_of_ble_eq_true rfl) (pc' := 154) rfl ?_
    refine g_if_eqF (tg := 162) h dX4_count_154 (by decide) (pc' := 157) rfl (by decide) ?_
    refine g_lload_n (i := 2) h dX4_count_157 rfl rfl (pc' := 158) rfl ?_
    refine g_l2i h dX4_count_158 (pc' := 159) rfl ?_
    refine g_goto (pc' := 164) h dX4_count_159 (by decide) ?_
    exact g_iret h hr dX4_count_164 rfl rfl
  · intro i hi ih5
    refine g_iload h dX4_count_5 rfl (pc' := 7) rfl ?_
    refine g_aload_n (i := 0) h dX4_count_7 rfl rfl (pc' := 8) rfl ?_
    refine gf_X4_7 h dX4_count_8 (pc' := 11) rfl ?_
    refine g_icmp_geF (tg := 95) h dX4_count_11 (by decide) (pc' := 14) rfl (nI_ge hi (by omega)) ?_
    refine g_lload_n (i := 2) h dX4_count_14 rfl rfl (pc' := 15) rfl ?_
    refine g_iload_n (i := 1) h dX4_count_15 rfl rfl (pc' := 16) rfl ?_
    refine g_iconst (v := nI 2) h dX4_count_16 (by decide) (pc' := 17) rfl ?_
    refine g_icmp_neF (tg := 30) h dX4_count_17 (by decide) (pc' := 20) rfl (by decide) ?_
    refine g_aload_n (i := 0) h dX4_count_20 rfl rfl (pc' := 21) rfl ?_
    refine gf_X4_13 h dX4_count_21 (pc' := 24) rfl ?_
    refine g_iload h dX4_count_24 rfl (pc' := 26) rfl ?_
    refine al_11 (j := i) h dX4_count_26 rfl (by omega) (pc' := 27) rfl ?_
    refine g_goto (pc' := 87) h dX4_count_27 (by decide) ?_
    refine g_ladd h dX4_count_87 (pc' := 88) rfl ?_
    refine g_lstore2 h dX4_count_88 rfl (by decide) (pc' := 89) rfl ?_
    refine g_iinc4 (v := nI (i + 1)) h dX4_count_89 rfl (inc1 i) (by decide) (pc' := 92) rfl ?_
    refine g_goto (pc' := 5) h dX4_count_92 (by decide) ?_
    exact GG.castW ih5 ⟨rfl, rfl, rfl, rfl, trivial⟩ rfl rfl
set_option maxRecDepth 20000 in
set_option maxHeartbeats 4000000 in
theorem R_count_3 {Z : ZT} {m : Nat} {toll : Int32} {paid : Int64} {cash : Nat → Int64} {debts : Nat → Int32} {fallen : Nat → Int32} {rounds : Int32} {shares : Nat → Int64} {under : Int64} {table : Nat → Int64} {right : Nat → Int64} {tried : Nat → Int64} {falls : Nat → Int32} {rsize : Int32} {ringOf : Nat → Int32} {row : Nat → Int32} {found : Int32} {hh : Int64}   (g0 : m ≤ 4) : MM Z yX4_count cX4_count 5 (some .int) 1 [.ref (Z.2.2 10), .int (nI 3)] (wR Z (nI m) toll paid cash debts fallen rounds shares under table right tried falls rsize ringOf row found hh) (some (.int ((sJ (fun i => (oR debts m i).toInt64) m).toInt32))) (wR Z (nI m) toll paid cash debts fallen rounds shares under table right tried falls rsize ringOf row found hh) := by
  refine MM.intro (by decide) [some (.ref (Z.2.2 10)), some (.int (nI 3)), none, none, none] rfl (Nat.le_of_ble_eq_true rfl) (fun X (h : OK Z X cX4_count RX4 5 (rmd 1)) hr => ?_)
  refine g_lconst (v := 0) h dX4_count_0 (by decide) (pc' := 1) rfl ?_
  refine g_lstore2 h dX4_count_1 rfl (by decide) (pc' := 2) rfl ?_
  refine g_iconst (v := nI 0) h dX4_count_2 (by decide) (pc' := 3) rfl ?_
  refine g_istore4 h dX4_count_3 rfl (by decide) (pc' := 5) rfl ?_
  refine GG.castW (lp (P := fun i => GG Z X 5 [some (.ref (Z.2.2 10)), some (.int (nI 3)), some (.long (sJ (fun i => (oR debts m i).toInt64) i)), none, some (.int (nI i))] [] (wR Z (nI m) toll paid cash debts fallen rounds shares under table right tried falls rsize ringOf row found hh)) m ?_ ?_) ⟨rfl, rfl, rfl, rfl, trivial⟩ rfl rfl
  · skip
    refine g_iload h dX4_count_5 rfl (pc' := 7) rfl ?_
    refine g_aload_n (i := 0) h dX4_count_7 rfl rfl (pc' := 8) rfl ?_
    refine gf_X4_7 h dX4_count_8 (pc' := 11) rfl ?_
    refine g_icmp_geT (tg := 95) h dX4_count_11 (by decide) (Int32.le_refl _) ?_
    refine g_iload_n (i := 1) h dX4_count_95 rfl rfl (pc' := 96) rfl ?_
    refine g_look (off := 52) (tg := 148) h dX4_count_96 (by decide) (by decide) (by decide) ?_
    refine g_iload_n (i := 1) h dX4_count_148 rfl rfl (pc' := 149) rfl ?_
    refine g_iconst (v := nI 2) h dX4_count_149 (by decide) (pc' := 150) rfl ?_
    refine g_iconst (v := nI 5) h dX4_count_150 (by decide) (pc' := 151) rfl ?_
    refine g_callS1 h dX4_count_151 cf_X4_46 (M_X4_in (v := nI 3) (lo := nI 2) (hi := nI 5) ) rfl (by decide) rfl (Nat.le_of_ble_eq_true rfl) (pc' := 154) rfl ?_
    refine g_if_eqF (tg := 162) h dX4_count_154 (by decide) (pc' := 157) rfl (by decide) ?_
    refine g_lload_n (i := 2) h dX4_count_157 rfl rfl (pc' := 158) rfl ?_
    refine g_l2i h dX4_count_158 (pc' := 159) rfl ?_
    refine g_goto (pc' := 164) h dX4_count_159 (by decide) ?_
    exact g_iret h hr dX4_count_164 rfl rfl
  · intro i hi ih5
    refine g_iload h dX4_count_5 rfl (pc' := 7) rfl ?_
    refine g_aload_n (i := 0) h dX4_count_7 rfl rfl (pc' := 8) rfl ?_
    refine gf_X4_7 h dX4_count_8 (pc' := 11) rfl ?_
    refine g_icmp_geF (tg := 95) h dX4_count_11 (by decide) (pc' := 14) rfl (nI_ge hi (by omega)) ?_
    refine g_lload_n (i := 2) h dX4_count_14 rfl rfl (pc' := 15) rfl ?_
    refine g_iload_n (i := 1) h dX4_count_15 rfl rfl (pc' := 16) rfl ?_
    refine g_iconst (v := nI 2) h dX4_count_16 (by decide) (pc' := 17) rfl ?_
    refine g_icmp_neT (tg := 30) h dX4_count_17 (by decide) (by decide) ?_
    refine g_iload_n (i := 1) h dX4_count_30 rfl rfl (pc' := 31) rfl ?_
    refine g_iconst (v := nI 3) h dX4_count_31 (by decide) (pc' := 32) rfl ?_
    refine g_icmp_neF (tg := 45) h dX4_count_32 (by decide) (pc' := 35) rfl (by decide) ?_
    refine g_aload_n (i := 0) h dX4_count_35 rfl rfl (pc' := 36) rfl ?_
    refine g_iload h dX4_count_36 rfl (pc' := 38) rfl ?_
    refine g_callV1 (q0 := 0) h dX4_count_38 cf_X4_61 (M_X4_owesOf (i := i) (by omega) (by omega)) rfl rfl rfl rfl (by decide) rfl (Nat.le_of_ble_eq_true rfl) (pc' := 41) rfl ?_
    refine g_i2l h dX4_count_41 (pc' := 42) rfl ?_
    refine g_goto (pc' := 87) h dX4_count_42 (by decide) ?_
    refine g_ladd h dX4_count_87 (pc' := 88) rfl ?_
    refine g_lstore2 h dX4_count_88 rfl (by decide) (pc' := 89) rfl ?_
    refine g_iinc4 (v := nI (i + 1)) h dX4_count_89 rfl (inc1 i) (by decide) (pc' := 92) rfl ?_
    refine g_goto (pc' := 5) h dX4_count_92 (by decide) ?_
    exact GG.castW ih5 ⟨rfl, rfl, rfl, rfl, trivial⟩ rfl rfl
set_option maxRecDepth 20000 in
set_option maxHeartbeats 4000000 in
theorem R_count_4 {Z : ZT} {m : Nat} {toll : Int32} {paid : Int64} {cash : Nat → Int64} {debts : Nat → Int32} {fallen : Nat → Int32} {rounds : Int32} {shares : Nat → Int64} {under : Int64} {table : Nat → Int64} {right : Nat → Int64} {tried : Nat → Int64} {falls : Nat → Int32} {rsize : Int32} {ringOf : Nat → Int32} {row : Nat → Int32} {found : Int32} {hh : Int64}   (g0 : m ≤ 4) : MM Z yX4_count cX4_count 5 (some .int) 1 [.ref (Z.2.2 10), .int (nI 4)] (wR Z (nI m) toll paid cash debts fallen rounds shares under table right tried falls rsize ringOf row found hh) (some (.int ((sJ (fun i => (debts (5 * i + m)).toInt64) m).toInt32))) (wR Z (nI m) toll paid cash debts fallen rounds shares under table right tried falls rsize ringOf row found hh) := by
  refine MM.intro (by decide) [some (.ref (Z.2.2 10)), some (.int (nI 4)), none, none, none] rfl (Nat.le_of_ble_eq_true rfl) (fun X (h : OK Z X cX4_count RX4 5 (rmd 1)) hr => ?_)
  refine g_lconst (v := 0) h dX4_count_0 (by decide) (pc' := 1) rfl ?_
  refine g_lstore2 h dX4_count_1 rfl (by decide) (pc' := 2) rfl ?_
  refine g_iconst (v := nI 0) h dX4_count_2 (by decide) (pc' := 3) rfl ?_
  refine g_istore4 h dX4_count_3 rfl (by decide) (pc' := 5) rfl ?_
  refine GG.castW (lp (P := fun i => GG Z X 5 [some (.ref (Z.2.2 10)), some (.int (nI 4)), some (.long (sJ (fun i => (debts (5 * i + m)).toInt64) i)), none, some (.int (nI i))] [] (wR Z (nI m) toll paid cash debts fallen rounds shares under table right tried falls rsize ringOf row found hh)) m ?_ ?_) ⟨rfl, rfl, rfl, rfl, trivial⟩ rfl rfl
  · skip
    refine g_iload h dX4_count_5 rfl (pc' := 7) rfl ?_
    refine g_aload_n (i := 0) h dX4_count_7 rfl rfl (pc' := 8) rfl ?_
    refine gf_X4_7 h dX4_count_8 (pc' := 11) rfl ?_
    refine g_icmp_geT (tg := 95) h dX4_count_11 (by decide) (Int32.le_refl _) ?_
    refine g_iload_n (i := 1) h dX4_count_95 rfl rfl (pc' := 96) rfl ?_
    refine g_look (off := 52) (tg := 148) h dX4_count_96 (by decide) (by decide) (by decide) ?_
    refine g_iload_n (i := 1) h dX4_count_148 rfl rfl (pc' := 149) rfl ?_
    refine g_iconst (v := nI 2) h dX4_count_149 (by decide) (pc' := 150) rfl ?_
    refine g_iconst (v := nI 5) h dX4_count_150 (by decide) (pc' := 151) rfl ?_
    refine g_callS1 h dX4_count_151 cf_X4_46 (M_X4_in (v := nI 4) (lo := nI 2) (hi := nI 5) ) rfl (by decide) rfl (Nat.le_of_ble_eq_true rfl) (pc' := 154) rfl ?_
    refine g_if_eqF (tg := 162) h dX4_count_154 (by decide) (pc' := 157) rfl (by decide) ?_
    refine g_lload_n (i := 2) h dX4_count_157 rfl rfl (pc' := 158) rfl ?_
    refine g_l2i h dX4_count_158 (pc' := 159) rfl ?_
    refine g_goto (pc' := 164) h dX4_count_159 (by decide) ?_
    exact g_iret h hr dX4_count_164 rfl rfl
  · intro i hi ih5
    refine g_iload h dX4_count_5 rfl (pc' := 7) rfl ?_
    refine g_aload_n (i := 0) h dX4_count_7 rfl rfl (pc' := 8) rfl ?_
    refine gf_X4_7 h dX4_count_8 (pc' := 11) rfl ?_
    refine g_icmp_geF (tg := 95) h dX4_count_11 (by decide) (pc' := 14) rfl (nI_ge hi (by omega)) ?_
    refine g_lload_n (i := 2) h dX4_count_14 rfl rfl (pc' := 15) rfl ?_
    refine g_iload_n (i := 1) h dX4_count_15 rfl rfl (pc' := 16) rfl ?_
    refine g_iconst (v := nI 2) h dX4_count_16 (by decide) (pc' := 17) rfl ?_
    refine g_icmp_neT (tg := 30) h dX4_count_17 (by decide) (by decide) ?_
    refine g_iload_n (i := 1) h dX4_count_30 rfl rfl (pc' := 31) rfl ?_
    refine g_iconst (v := nI 3) h dX4_count_31 (by decide) (pc' := 32) rfl ?_
    refine g_icmp_neT (tg := 45) h dX4_count_32 (by decide) (by decide) ?_
    refine g_iload_n (i := 1) h dX4_count_45 rfl rfl (pc' := 46) rfl ?_
    refine g_iconst (v := nI 4) h dX4_count_46 (by decide) (pc' := 47) rfl ?_
    refine g_icmp_neF (tg := 68) h dX4_count_47 (by decide) (pc' := 50) rfl (by decide) ?_
    refine g_aload_n (i := 0) h dX4_count_50 rfl rfl (pc' := 51) rfl ?_
    refine gf_X4_17 h dX4_count_51 (pc' := 54) rfl ?_
    refine g_iconst (v := nI 5) h dX4_count_54 (by decide) (pc' := 55) rfl ?_
    refine g_iload h dX4_count_55 rfl (pc' := 57) rfl ?_
    refine g_imulN h dX4_count_57 (pc' := 58) rfl ?_
    refine g_aload_n (i := 0) h dX4_count_58 rfl rfl (pc' := 59) rfl ?_
    refine gf_X4_7 h dX4_count_59 (pc' := 62) rfl ?_
    refine g_iaddN h dX4_count_62 (pc' := 63) rfl ?_
    refine al_12 (j := (5 * i) + m) h dX4_count_63 rfl (by omega) (pc' := 64) rfl ?_
    refine g_i2l h dX4_count_64 (pc' := 65) rfl ?_
    refine g_goto (pc' := 87) h dX4_count_65 (by decide) ?_
    refine g_ladd h dX4_count_87 (pc' := 88) rfl ?_
    refine g_lstore2 h dX4_count_88 rfl (by decide) (pc' := 89) rfl ?_
    refine g_iinc4 (v := nI (i + 1)) h dX4_count_89 rfl (inc1 i) (by decide) (pc' := 92) rfl ?_
    refine g_goto (pc' := 5) h dX4_count_92 (by decide) ?_
    exact GG.castW ih5 ⟨rfl, rfl, rfl, rfl, trivial⟩ rfl rfl
set_option maxRecDepth 20000 in
set_option maxHeartbeats 4000000 in
theorem R_count_5 {Z : ZT} {m : Nat} {toll : Int32} {paid : Int64} {cash : Nat → Int64} {debts : Nat → Int32} {fallen : Nat → Int32} {rounds : Int32} {shares : Nat → Int64} {under : Int64} {table : Nat → Int64} {right : Nat → Int64} {tried : Nat → Int64} {falls : Nat → Int32} {rsize : Int32} {ringOf : Nat → Int32} {row : Nat → Int32} {found : Int32} {hh : Int64}   (g0 : m ≤ 4) : MM Z yX4_count cX4_count 5 (some .int) 1 [.ref (Z.2.2 10), .int (nI 5)] (wR Z (nI m) toll paid cash debts fallen rounds shares under table right tried falls rsize ringOf row found hh) (some (.int ((sJ (fun i => if oR debts m i ≤ 0 then 0 else 1) m).toInt32))) (wR Z (nI m) toll paid cash debts fallen rounds shares under table right tried falls rsize ringOf row found hh) := by
  refine MM.intro (by decide) [some (.ref (Z.2.2 10)), some (.int (nI 5)), none, none, none] rfl (Nat.le_of_ble_eq_true rfl) (fun X (h : OK Z X cX4_count RX4 5 (rmd 1)) hr => ?_)
  refine g_lconst (v := 0) h dX4_count_0 (by decide) (pc' := 1) rfl ?_
  refine g_lstore2 h dX4_count_1 rfl (by decide) (pc' := 2) rfl ?_
  refine g_iconst (v := nI 0) h dX4_count_2 (by decide) (pc' := 3) rfl ?_
  refine g_istore4 h dX4_count_3 rfl (by decide) (pc' := 5) rfl ?_
  refine GG.castW (lp (P := fun i => GG Z X 5 [some (.ref (Z.2.2 10)), some (.int (nI 5)), some (.long (sJ (fun i => if oR debts m i ≤ 0 then 0 else 1) i)), none, some (.int (nI i))] [] (wR Z (nI m) toll paid cash debts fallen rounds shares under table right tried falls rsize ringOf row found hh)) m ?_ ?_) ⟨rfl, rfl, rfl, rfl, trivial⟩ rfl rfl
  · skip
    refine g_iload h dX4_count_5 rfl (pc' := 7) rfl ?_
    refine g_aload_n (i := 0) h dX4_count_7 rfl rfl (pc' := 8) rfl ?_
    refine gf_X4_7 h dX4_count_8 (pc' := 11) rfl ?_
    refine g_icmp_geT (tg := 95) h dX4_count_11 (by decide) (Int32.le_refl _) ?_
    refine g_iload_n (i := 1) h dX4_count_95 rfl rfl (pc' := 96) rfl ?_
    refine g_look (off := 52) (tg := 148) h dX4_count_96 (by decide) (by decide) (by decide) ?_
    refine g_iload_n (i := 1) h dX4_count_148 rfl rfl (pc' := 149) rfl ?_
    refine g_iconst (v := nI 2) h dX4_count_149 (by decide) (pc' := 150) rfl ?_
    refine g_iconst (v := nI 5) h dX4_count_150 (by decide) (pc' := 151) rfl ?_
    refine g_callS1 h dX4_count_151 cf_X4_46 (M_X4_in (v := nI 5) (lo := nI 2) (hi := nI 5) ) rfl (by decide) rfl (Nat.le_of_ble_eq_true rfl) (pc' := 154) rfl ?_
    refine g_if_eqF (tg := 162) h dX4_count_154 (by decide) (pc' := 157) rfl (by decide) ?_
    refine g_lload_n (i := 2) h dX4_count_157 rfl rfl (pc' := 158) rfl ?_
    refine g_l2i h dX4_count_158 (pc' := 159) rfl ?_
    refine g_goto (pc' := 164) h dX4_count_159 (by decide) ?_
    exact g_iret h hr dX4_count_164 rfl rfl
  · intro i hi ih5
    refine g_iload h dX4_count_5 rfl (pc' := 7) rfl ?_
    refine g_aload_n (i := 0) h dX4_count_7 rfl rfl (pc' := 8) rfl ?_
    refine gf_X4_7 h dX4_count_8 (pc' := 11) rfl ?_
    refine g_icmp_geF (tg := 95) h dX4_count_11 (by decide) (pc' := 14) rfl (nI_ge hi (by omega)) ?_
    refine g_lload_n (i := 2) h dX4_count_14 rfl rfl (pc' := 15) rfl ?_
    refine g_iload_n (i := 1) h dX4_count_15 rfl rfl (pc' := 16) rfl ?_
    refine g_iconst (v := nI 2) h dX4_count_16 (by decide) (pc' := 17) rfl ?_
    refine g_icmp_neT (tg := 30) h dX4_count_17 (by decide) (by decide) ?_
    refine g_iload_n (i := 1) h dX4_count_30 rfl rfl (pc' := 31) rfl ?_
    refine g_iconst (v := nI 3) h dX4_count_31 (by decide) (pc' := 32) rfl ?_
    refine g_icmp_neT (tg := 45) h dX4_count_32 (by decide) (by decide) ?_
    refine g_iload_n (i := 1) h dX4_count_45 rfl rfl (pc' := 46) rfl ?_
    refine g_iconst (v := nI 4) h dX4_count_46 (by decide) (pc' := 47) rfl ?_
    refine g_icmp_neT (tg := 68) h dX4_count_47 (by decide) (by decide) ?_
    refine g_iload_n (i := 1) h dX4_count_68 rfl rfl (pc' := 69) rfl ?_
    refine g_iconst (v := nI 5) h dX4_count_69 (by decide) (pc' := 70) rfl ?_
    refine g_icmp_neF (tg := 86) h dX4_count_70 (by decide) (pc' := 73) rfl (by decide) ?_
    refine g_aload_n (i := 0) h dX4_count_73 rfl rfl (pc' := 74) rfl ?_
    refine g_iload h dX4_count_74 rfl (pc' := 76) rfl ?_
    refine g_callV1 (q0 := 0) h dX4_count_76 cf_X4_61 (M_X4_owesOf (i := i) (by omega) (by omega)) rfl rfl rfl rfl (by decide) rfl (Nat.le_of_ble_eq_true rfl) (pc' := 79) rfl ?_
    refine g_if_le (tg := 86) h dX4_count_79 (by decide) (pc' := 82) rfl (fun c1 => ?_) (fun c1 => ?_)
    · skip
      refine g_lconst (v := 0) h dX4_count_86 (by decide) (pc' := 87) rfl ?_
      refine g_ladd h dX4_count_87 (pc' := 88) rfl ?_
      refine g_lstore2 h dX4_count_88 rfl (by decide) (pc' := 89) rfl ?_
      refine g_iinc4 (v := nI (i + 1)) h dX4_count_89 rfl (inc1 i) (by decide) (pc' := 92) rfl ?_
      refine g_goto (pc' := 5) h dX4_count_92 (by decide) ?_
      exact GG.castW ih5 ⟨rfl, rfl, (by simp only [List.head?_cons, List.tail_cons, sJ, if_pos c1]), rfl, trivial⟩ rfl rfl
    · skip
      refine g_lconst (v := 1) h dX4_count_82 (by decide) (pc' := 83) rfl ?_
      refine g_goto (pc' := 87) h dX4_count_83 (by decide) ?_
      refine g_ladd h dX4_count_87 (pc' := 88) rfl ?_
      refine g_lstore2 h dX4_count_88 rfl (by decide) (pc' := 89) rfl ?_
      refine g_iinc4 (v := nI (i + 1)) h dX4_count_89 rfl (inc1 i) (by decide) (pc' := 92) rfl ?_
      refine g_goto (pc' := 5) h dX4_count_92 (by decide) ?_
      exact GG.castW ih5 ⟨rfl, rfl, (by simp only [List.head?_cons, List.tail_cons, sJ, if_neg c1]), rfl, trivial⟩ rfl rfl
set_option maxRecDepth 20000 in
set_option maxHeartbeats 4000000 in
theorem R_count_6 {Z : ZT} {m : Nat} {toll : Int32} {paid : Int64} {cash : Nat → Int64} {debts : Nat → Int32} {fallen : Nat → Int32} {rounds : Int32} {shares : Nat → Int64} {under : Int64} {table : Nat → Int64} {right : Nat → Int64} {tried : Nat → Int64} {falls : Nat → Int32} {rsize : Int32} {ringOf : Nat → Int32} {row : Nat → Int32} {found : Int32} {hh : Int64}   (g0 : m ≤ 4) : MM Z yX4_count cX4_count 5 (some .int) 1 [.ref (Z.2.2 10), .int (nI 6)] (wR Z (nI m) toll paid cash debts fallen rounds shares under table right tried falls rsize ringOf row found hh) (some (.int paid.toInt32)) (wR Z (nI m) toll paid cash debts fallen rounds shares under table right tried falls rsize ringOf row found hh) := by
  refine MM.intro (by decide) [some (.ref (Z.2.2 10)), some (.int (nI 6)), none, none, none] rfl (Nat.le_of_ble_eq_true rfl) (fun X (h : OK Z X cX4_count RX4 5 (rmd 1)) hr => ?_)
  refine g_lconst (v := 0) h dX4_count_0 (by decide) (pc' := 1) rfl ?_
  refine g_lstore2 h dX4_count_1 rfl (by decide) (pc' := 2) rfl ?_
  refine g_iconst (v := nI 0) h dX4_count_2 (by decide) (pc' := 3) rfl ?_
  refine g_istore4 h dX4_count_3 rfl (by decide) (pc' := 5) rfl ?_
  refine GG.castW (lp (P := fun i => GG Z X 5 [some (.ref (Z.2.2 10)), some (.int (nI 6)), some (.long (sJ (fun _ => 0) i)), none, some (.int (nI i))] [] (wR Z (nI m) toll paid cash debts fallen rounds shares under table right tried falls rsize ringOf row found hh)) m ?_ ?_) ⟨rfl, rfl, rfl, rfl, trivial⟩ rfl rfl
  · skip
    refine g_iload h dX4_count_5 rfl (pc' := 7) rfl ?_
    refine g_aload_n (i := 0) h dX4_count_7 rfl rfl (pc' := 8) rfl ?_
    refine gf_X4_7 h dX4_count_8 (pc' := 11) rfl ?_
    refine g_icmp_geT (tg := 95) h dX4_count_11 (by decide) (Int32.le_refl _) ?_
    refine g_iload_n (i := 1) h dX4_count_95 rfl rfl (pc' := 96) rfl ?_
    refine g_look (off := 46) (tg := 142) h dX4_count_96 (by decide) (by decide) (by decide) ?_
    refine g_aload_n (i := 0) h dX4_count_142 rfl rfl (pc' := 143) rfl ?_
    refine gf_X4_53 h dX4_count_143 (pc' := 146) rfl ?_
    refine g_l2i h dX4_count_146 (pc' := 147) rfl ?_
    exact g_iret h hr dX4_count_147 rfl rfl
  · intro i hi ih5
    refine g_iload h dX4_count_5 rfl (pc' := 7) rfl ?_
    refine g_aload_n (i := 0) h dX4_count_7 rfl rfl (pc' := 8) rfl ?_
    refine gf_X4_7 h dX4_count_8 (pc' := 11) rfl ?_
    refine g_icmp_geF (tg := 95) h dX4_count_11 (by decide) (pc' := 14) rfl (nI_ge hi (by omega)) ?_
    refine g_lload_n (i := 2) h dX4_count_14 rfl rfl (pc' := 15) rfl ?_
    refine g_iload_n (i := 1) h dX4_count_15 rfl rfl (pc' := 16) rfl ?_
    refine g_iconst (v := nI 2) h dX4_count_16 (by decide) (pc' := 17) rfl ?_
    refine g_icmp_neT (tg := 30) h dX4_count_17 (by decide) (by decide) ?_
    refine g_iload_n (i := 1) h dX4_count_30 rfl rfl (pc' := 31) rfl ?_
    refine g_iconst (v := nI 3) h dX4_count_31 (by decide) (pc' := 32) rfl ?_
    refine g_icmp_neT (tg := 45) h dX4_count_32 (by decide) (by decide) ?_
    refine g_iload_n (i := 1) h dX4_count_45 rfl rfl (pc' := 46) rfl ?_
    refine g_iconst (v := nI 4) h dX4_count_46 (by decide) (pc' := 47) rfl ?_
    refine g_icmp_neT (tg := 68) h dX4_count_47 (by decide) (by decide) ?_
    refine g_iload_n (i := 1) h dX4_count_68 rfl rfl (pc' := 69) rfl ?_
    refine g_iconst (v := nI 5) h dX4_count_69 (by decide) (pc' := 70) rfl ?_
    refine g_icmp_neT (tg := 86) h dX4_count_70 (by decide) (by decide) ?_
    refine g_lconst (v := 0) h dX4_count_86 (by decide) (pc' := 87) rfl ?_
    refine g_ladd h dX4_count_87 (pc' := 88) rfl ?_
    refine g_lstore2 h dX4_count_88 rfl (by decide) (pc' := 89) rfl ?_
    refine g_iinc4 (v := nI (i + 1)) h dX4_count_89 rfl (inc1 i) (by decide) (pc' := 92) rfl ?_
    refine g_goto (pc' := 5) h dX4_count_92 (by decide) ?_
    exact GG.castW ih5 ⟨rfl, rfl, rfl, rfl, trivial⟩ rfl rfl
set_option maxRecDepth 20000 in
set_option maxHeartbeats 4000000 in
theorem R_count_O {Z : ZT} {m : Nat} {toll : Int32} {paid : Int64} {cash : Nat → Int64} {debts : Nat → Int32} {fallen : Nat → Int32} {rounds : Int32} {shares : Nat → Int64} {under : Int64} {table : Nat → Int64} {right : Nat → Int64} {tried : Nat → Int64} {falls : Nat → Int32} {rsize : Int32} {ringOf : Nat → Int32} {row : Nat → Int32} {found : Int32} {hh : Int64} {v : Int32}  (g0 : m ≤ 4) (g1 : ¬ v = nI 0) (g2 : ¬ v = nI 1) (g3 : ¬ v = nI 2) (g4 : ¬ v = nI 3) (g5 : ¬ v = nI 4) (g6 : ¬ v = nI 5) (g7 : ¬ v = nI 6) (g8 : ¬ (¬ v < nI 2 ∧ ¬ nI 5 < v)) : MM Z yX4_count cX4_count 5 (some .int) 1 [.ref (Z.2.2 10), .int v] (wR Z (nI m) toll paid cash debts fallen rounds shares under table right tried falls rsize ringOf row found hh) (some (.int (-102))) (wR Z (nI m) toll paid cash debts fallen rounds shares under table right tried falls rsize ringOf row found hh) := by
  refine MM.intro (by decide) [some (.ref (Z.2.2 10)), some (.int v), none, none, none] rfl (Nat.le_of_ble_eq_true rfl) (fun X (h : OK Z X cX4_count RX4 5 (rmd 1)) hr => ?_)
  refine g_lconst (v := 0) h dX4_count_0 (by decide) (pc' := 1) rfl ?_
  refine g_lstore2 h dX4_count_1 rfl (by decide) (pc' := 2) rfl ?_
  refine g_iconst (v := nI 0) h dX4_count_2 (by decide) (pc' := 3) rfl ?_
  refine g_istore4 h dX4_count_3 rfl (by decide) (pc' := 5) rfl ?_
  refine GG.castW (lp (P := fun i => GG Z X 5 [some (.ref (Z.2.2 10)), some (.int v), some (.long (sJ (fun _ => 0) i)), none, some (.int (nI i))] [] (wR Z (nI m) toll paid cash debts fallen rounds shares under table right tried falls rsize ringOf row found hh)) m ?_ ?_) ⟨rfl, rfl, rfl, rfl, trivial⟩ rfl rfl
  · skip
    refine g_iload h dX4_count_5 rfl (pc' := 7) rfl ?_
    refine g_aload_n (i := 0) h dX4_count_7 rfl rfl (pc' := 8) rfl ?_
    refine gf_X4_7 h dX4_count_8 (pc' := 11) rfl ?_
    refine g_icmp_geT (tg := 95) h dX4_count_11 (by decide) (Int32.le_refl _) ?_
    refine g_iload_n (i := 1) h dX4_count_95 rfl rfl (pc' := 96) rfl ?_
    refine g_look (off := 52) (tg := 148) h dX4_count_96 (by decide) ((lv_osw g1 rfl).trans ((lv_osw g2 rfl).trans ((lv_osw g7 rfl).trans rfl))) (by decide) ?_
    refine g_iload_n (i := 1) h dX4_count_148 rfl rfl (pc' := 149) rfl ?_
    refine g_iconst (v := nI 2) h dX4_count_149 (by decide) (pc' := 150) rfl ?_
    refine g_iconst (v := nI 5) h dX4_count_150 (by decide) (pc' := 151) rfl ?_
    refine g_callS1 h dX4_count_151 cf_X4_46 (M_X4_in (v := v) (lo := nI 2) (hi := nI 5) ) rfl (by decide) rfl (Nat.le_of_ble_eq_true rfl) (pc' := 154) rfl ?_
    refine g_if_eqT (tg := 162) h dX4_count_154 (by decide) (bI_n g8) ?_
    refine g_bipush (v := (-102)) h dX4_count_162 (by decide) (pc' := 164) rfl ?_
    exact g_iret h hr dX4_count_164 rfl rfl
  · intro i hi ih5
    refine g_iload h dX4_count_5 rfl (pc' := 7) rfl ?_
    refine g_aload_n (i := 0) h dX4_count_7 rfl rfl (pc' := 8) rfl ?_
    refine gf_X4_7 h dX4_count_8 (pc' := 11) rfl ?_
    refine g_icmp_geF (tg := 95) h dX4_count_11 (by decide) (pc' := 14) rfl (nI_ge hi (by omega)) ?_
    refine g_lload_n (i := 2) h dX4_count_14 rfl rfl (pc' := 15) rfl ?_
    refine g_iload_n (i := 1) h dX4_count_15 rfl rfl (pc' := 16) rfl ?_
    refine g_iconst (v := nI 2) h dX4_count_16 (by decide) (pc' := 17) rfl ?_
    refine g_icmp_neT (tg := 30) h dX4_count_17 (by decide) g3 ?_
    refine g_iload_n (i := 1) h dX4_count_30 rfl rfl (pc' := 31) rfl ?_
    refine g_iconst (v := nI 3) h dX4_count_31 (by decide) (pc' := 32) rfl ?_
    refine g_icmp_neT (tg := 45) h dX4_count_32 (by decide) g4 ?_
    refine g_iload_n (i := 1) h dX4_count_45 rfl rfl (pc' := 46) rfl ?_
    refine g_iconst (v := nI 4) h dX4_count_46 (by decide) (pc' := 47) rfl ?_
    refine g_icmp_neT (tg := 68) h dX4_count_47 (by decide) g5 ?_
    refine g_iload_n (i := 1) h dX4_count_68 rfl rfl (pc' := 69) rfl ?_
    refine g_iconst (v := nI 5) h dX4_count_69 (by decide) (pc' := 70) rfl ?_
    refine g_icmp_neT (tg := 86) h dX4_count_70 (by decide) g6 ?_
    refine g_lconst (v := 0) h dX4_count_86 (by decide) (pc' := 87) rfl ?_
    refine g_ladd h dX4_count_87 (pc' := 88) rfl ?_
    refine g_lstore2 h dX4_count_88 rfl (by decide) (pc' := 89) rfl ?_
    refine g_iinc4 (v := nI (i + 1)) h dX4_count_89 rfl (inc1 i) (by decide) (pc' := 92) rfl ?_
    refine g_goto (pc' := 5) h dX4_count_92 (by decide) ?_
    exact GG.castW ih5 ⟨rfl, rfl, rfl, rfl, trivial⟩ rfl rfl
set_option maxRecDepth 20000 in
set_option maxHeartbeats 4000000 in
theorem M_X4_mix {Z : ZT} {n : Int32} {toll : Int32} {paid : Int64} {cash : Nat → Int64} {debts : Nat → Int32} {fallen : Nat → Int32} {rounds : Int32} {shares : Nat → Int64} {under : Int64} {table : Nat → Int64} {right : Nat → Int64} {tried : Nat → Int64} {falls : Nat → Int32} {rsize : Int32} {ringOf : Nat → Int32} {row : Nat → Int32} {found : Int32} {hh : Int64} {v : Int64}   : MM Z yX4_mix cX4_mix 3 none 0 [.ref (Z.2.2 10), .long v] (wR Z n toll paid cash debts fallen rounds shares under table right tried falls rsize ringOf row found hh) none (wR Z n toll paid cash debts fallen rounds shares under table right tried falls rsize ringOf row found (31 * hh + v)) := by
  refine MM.intro (by decide) [some (.ref (Z.2.2 10)), some (.long v), none] rfl (Nat.le_of_ble_eq_true rfl) (fun X (h : OK Z X cX4_mix RX4 3 (rmd 0)) hr => ?_)
  refine g_aload_n (i := 0) h dX4_mix_0 rfl rfl (pc' := 1) rfl ?_
  refine g_ldc2 h dX4_mix_1 co_X4_135 (pc' := 4) rfl ?_
  refine g_aload_n (i := 0) h dX4_mix_4 rfl rfl (pc' := 5) rfl ?_
  refine gf_X4_137 h dX4_mix_5 (pc' := 8) rfl ?_
  refine g_lmul h dX4_mix_8 (pc' := 9) rfl ?_
  refine g_lload_n (i := 1) h dX4_mix_9 rfl rfl (pc' := 10) rfl ?_
  refine g_ladd h dX4_mix_10 (pc' := 11) rfl ?_
  refine pf_X4_137 h dX4_mix_11 (pc' := 14) rfl ?_
  exact g_vret h hr dX4_mix_14 rfl rfl
set_option maxRecDepth 20000 in
set_option maxHeartbeats 4000000 in
theorem R_digest {Z : ZT} {m : Nat} {toll : Int32} {paid : Int64} {cash : Nat → Int64} {debts : Nat → Int32} {fallen : Nat → Int32} {rounds : Int32} {shares : Nat → Int64} {under : Int64} {table : Nat → Int64} {right : Nat → Int64} {tried : Nat → Int64} {falls : Nat → Int32} {rsize : Int32} {ringOf : Nat → Int32} {row : Nat → Int32} {found : Int32} {hh : Int64}  {K : Nat} {s9 : rT} {K2 : Nat} {G : Nat → Int64} (g0 : m ≤ 4) (g1 : clr m toll cash debts K (rslv m toll cash debts (zf fallen 4, shares, under, table, right, tried, falls, nI 0)) = some s9) (g2 : ∀ i, i < m → cmn K2 (s9.2.1 i) s9.2.2.1 = some (G i) ∧ ¬ G i = 0) : MM Z yX4_digest cX4_digest 3 (some .long) 4 [.ref (Z.2.2 10)] (wR Z (nI m) toll paid cash debts fallen rounds shares under table right tried falls rsize ringOf row found hh) (some (.long (31 * dg6 s9.1 s9.2.1 s9.2.2.1 G (dg5 m cash debts (31 * (31 * 173 + (nI m).toInt64) + toll.toInt64) m) m + paid))) (wR Z (nI m) toll paid cash debts s9.1 s9.2.2.2.2.2.2.2 s9.2.1 s9.2.2.1 s9.2.2.2.1 s9.2.2.2.2.1 s9.2.2.2.2.2.1 s9.2.2.2.2.2.2.1 rsize ringOf row found (31 * dg6 s9.1 s9.2.1 s9.2.2.1 G (dg5 m cash debts (31 * (31 * 173 + (nI m).toInt64) + toll.toInt64) m) m + paid)) := by
  refine MM.intro (by decide) [some (.ref (Z.2.2 10)), none, none] rfl (Nat.le_of_ble_eq_true rfl) (fun X (h : OK Z X cX4_digest RX4 3 (rmd 4)) hr => ?_)
  have hclr := g1
  refine g_aload_n (i := 0) h dX4_digest_0 rfl rfl (pc' := 1) rfl ?_
  refine g_ldc2 h dX4_digest_1 co_X4_140 (pc' := 4) rfl ?_
  refine pf_X4_137 h dX4_digest_4 (pc' := 7) rfl ?_
  refine g_aload_n (i := 0) h dX4_digest_7 rfl rfl (pc' := 8) rfl ?_
  refine g_aload_n (i := 0) h dX4_digest_8 rfl rfl (pc' := 9) rfl ?_
  refine gf_X4_7 h dX4_digest_9 (pc' := 12) rfl ?_
  refine g_i2l h dX4_digest_12 (pc' := 13) rfl ?_
  refine g_callV0 (q0 := 0) h dX4_digest_13 cf_X4_142 (M_X4_mix (v := (nI m).toInt64) ) rfl rfl rfl rfl (by decide) rfl (Nat.le_of_ble_eq_true rfl) (pc' := 16) rfl ?_
  refine g_aload_n (i := 0) h dX4_digest_16 rfl rfl (pc' := 17) rfl ?_
  refine g_aload_n (i := 0) h dX4_digest_17 rfl rfl (pc' := 18) rfl ?_
  refine gf_X4_50 h dX4_digest_18 (pc' := 21) rfl ?_
  refine g_i2l h dX4_digest_21 (pc' := 22) rfl ?_
  refine g_callV0 (q0 := 0) h dX4_digest_22 cf_X4_142 (M_X4_mix (v := toll.toInt64) ) rfl rfl rfl rfl (by decide) rfl (Nat.le_of_ble_eq_true rfl) (pc' := 25) rfl ?_
  refine g_iconst (v := nI 0) h dX4_digest_25 (by decide) (pc' := 26) rfl ?_
  refine g_istore1 h dX4_digest_26 rfl (by decide) (pc' := 27) rfl ?_
  refine GG.castW (lp (P := fun i => GG Z X 27 [some (.ref (Z.2.2 10)), some (.int (nI i)), none] [] (wR Z (nI m) toll paid cash debts fallen rounds shares under table right tried falls rsize ringOf row found (dg5 m cash debts (31 * (31 * 173 + (nI m).toInt64) + toll.toInt64) i))) m ?_ ?_) ⟨rfl, rfl, trivial⟩ rfl rfl
  · skip
    refine g_iload_n (i := 1) h dX4_digest_27 rfl rfl (pc' := 28) rfl ?_
    refine g_aload_n (i := 0) h dX4_digest_28 rfl rfl (pc' := 29) rfl ?_
    refine gf_X4_7 h dX4_digest_29 (pc' := 32) rfl ?_
    refine g_icmp_geT (tg := 82) h dX4_digest_32 (by decide) (Int32.le_refl _) ?_
    refine g_aload_n (i := 0) h dX4_digest_82 rfl rfl (pc' := 83) rfl ?_
    refine g_callV0 (q0 := 0) h dX4_digest_83 cf_X4_91 (M_X4_clear  (by omega) hclr) rfl rfl rfl rfl (by decide) rfl (Nat.le_of_ble_eq_true rfl) (pc' := 86) rfl ?_
    refine g_iconst (v := nI 0) h dX4_digest_86 (by decide) (pc' := 87) rfl ?_
    refine g_istore1 h dX4_digest_87 rfl (by decide) (pc' := 88) rfl ?_
    refine GG.castW (lp (P := fun i => GG Z X 88 [some (.ref (Z.2.2 10)), some (.int (nI i)), none] [] (wR Z (nI m) toll paid cash debts s9.1 s9.2.2.2.2.2.2.2 s9.2.1 s9.2.2.1 s9.2.2.2.1 s9.2.2.2.2.1 s9.2.2.2.2.2.1 s9.2.2.2.2.2.2.1 rsize ringOf row found (dg6 s9.1 s9.2.1 s9.2.2.1 G (dg5 m cash debts (31 * (31 * 173 + (nI m).toInt64) + toll.toInt64) m) i))) m ?_ ?_) ⟨rfl, rfl, trivial⟩ rfl rfl
    · skip
      refine g_iload_n (i := 1) h dX4_digest_88 rfl rfl (pc' := 89) rfl ?_
      refine g_aload_n (i := 0) h dX4_digest_89 rfl rfl (pc' := 90) rfl ?_
      refine gf_X4_7 h dX4_digest_90 (pc' := 93) rfl ?_
      refine g_icmp_geT (tg := 149) h dX4_digest_93 (by decide) (Int32.le_refl _) ?_
      refine g_aload_n (i := 0) h dX4_digest_149 rfl rfl (pc' := 150) rfl ?_
      refine g_aload_n (i := 0) h dX4_digest_150 rfl rfl (pc' := 151) rfl ?_
      refine gf_X4_53 h dX4_digest_151 (pc' := 154) rfl ?_
      refine g_callV0 (q0 := 0) h dX4_digest_154 cf_X4_142 (M_X4_mix (v := paid) ) rfl rfl rfl rfl (by decide) rfl (Nat.le_of_ble_eq_true rfl) (pc' := 157) rfl ?_
      refine g_aload_n (i := 0) h dX4_digest_157 rfl rfl (pc' := 158) rfl ?_
      refine gf_X4_137 h dX4_digest_158 (pc' := 161) rfl ?_
      exact g_lret h hr dX4_digest_161 rfl rfl
    · intro i hi ih88
      refine g_iload_n (i := 1) h dX4_digest_88 rfl rfl (pc' := 89) rfl ?_
      refine g_aload_n (i := 0) h dX4_digest_89 rfl rfl (pc' := 90) rfl ?_
      refine gf_X4_7 h dX4_digest_90 (pc' := 93) rfl ?_
      refine g_icmp_geF (tg := 149) h dX4_digest_93 (by decide) (pc' := 96) rfl (nI_ge hi (by omega)) ?_
      refine g_aload_n (i := 0) h dX4_digest_96 rfl rfl (pc' := 97) rfl ?_
      refine g_aload_n (i := 0) h dX4_digest_97 rfl rfl (pc' := 98) rfl ?_
      refine gf_X4_21 h dX4_digest_98 (pc' := 101) rfl ?_
      refine g_iload_n (i := 1) h dX4_digest_101 rfl rfl (pc' := 102) rfl ?_
      refine al_13 (j := i) h dX4_digest_102 rfl (by omega) (pc' := 103) rfl ?_
      refine g_i2l h dX4_digest_103 (pc' := 104) rfl ?_
      refine g_callV0 (q0 := 0) h dX4_digest_104 cf_X4_142 (M_X4_mix (v := (s9.1 i).toInt64) ) rfl rfl rfl rfl (by decide) rfl (Nat.le_of_ble_eq_true rfl) (pc' := 107) rfl ?_
      refine g_aload_n (i := 0) h dX4_digest_107 rfl rfl (pc' := 108) rfl ?_
      refine g_aload_n (i := 0) h dX4_digest_108 rfl rfl (pc' := 109) rfl ?_
      refine gf_X4_24 h dX4_digest_109 (pc' := 112) rfl ?_
      refine g_iload_n (i := 1) h dX4_digest_112 rfl rfl (pc' := 113) rfl ?_
      refine al_14 (j := i) h dX4_digest_113 rfl (by omega) (pc' := 114) rfl ?_
      refine g_aload_n (i := 0) h dX4_digest_114 rfl rfl (pc' := 115) rfl ?_
      refine gf_X4_75 h dX4_digest_115 (pc' := 118) rfl ?_
      refine g_iconst (v := nI 0) h dX4_digest_118 (by decide) (pc' := 119) rfl ?_
      refine g_callS1 h dX4_digest_119 cf_X4_98 (M_X4_part (a := s9.2.1 i) (b := s9.2.2.1) (p := nI 0) (g := G i) (g2 i hi).1 (g2 i hi).2) rfl (by decide) rfl (Nat.le_of_ble_eq_true rfl) (pc' := 122) rfl ?_
      refine g_callV0 (q0 := 0) h dX4_digest_122 cf_X4_142 (M_X4_mix (v := if (nI 0) = 0 then (s9.2.1 i) / G i else s9.2.2.1 / G i) ) rfl rfl rfl rfl (by decide) rfl (Nat.le_of_ble_eq_true rfl) (pc' := 125) rfl ?_
      refine g_aload_n (i := 0) h dX4_digest_125 rfl rfl (pc' := 126) rfl ?_
      refine g_aload_n (i := 0) h dX4_digest_126 rfl rfl (pc' := 127) rfl ?_
      refine gf_X4_24 h dX4_digest_127 (pc' := 130) rfl ?_
      refine g_iload_n (i := 1) h dX4_digest_130 rfl rfl (pc' := 131) rfl ?_
      refine al_14 (j := i) h dX4_digest_131 rfl (by omega) (pc' := 132) rfl ?_
      refine g_aload_n (i := 0) h dX4_digest_132 rfl rfl (pc' := 133) rfl ?_
      refine gf_X4_75 h dX4_digest_133 (pc' := 136) rfl ?_
      refine g_iconst (v := nI 1) h dX4_digest_136 (by decide) (pc' := 137) rfl ?_
      refine g_callS1 h dX4_digest_137 cf_X4_98 (M_X4_part (a := s9.2.1 i) (b := s9.2.2.1) (p := nI 1) (g := G i) (g2 i hi).1 (g2 i hi).2) rfl (by decide) rfl (Nat.le_of_ble_eq_true rfl) (pc' := 140) rfl ?_
      refine g_callV0 (q0 := 0) h dX4_digest_140 cf_X4_142 (M_X4_mix (v := if (nI 1) = 0 then (s9.2.1 i) / G i else s9.2.2.1 / G i) ) rfl rfl rfl rfl (by decide) rfl (Nat.le_of_ble_eq_true rfl) (pc' := 143) rfl ?_
      refine g_iinc1 (v := nI (i + 1)) h dX4_digest_143 rfl (inc1 i) (by decide) (pc' := 146) rfl ?_
      refine g_goto (pc' := 88) h dX4_digest_146 (by decide) ?_
      exact GG.castW ih88 ⟨rfl, rfl, trivial⟩ rfl rfl
  · intro i hi ih27
    refine g_iload_n (i := 1) h dX4_digest_27 rfl rfl (pc' := 28) rfl ?_
    refine g_aload_n (i := 0) h dX4_digest_28 rfl rfl (pc' := 29) rfl ?_
    refine gf_X4_7 h dX4_digest_29 (pc' := 32) rfl ?_
    refine g_icmp_geF (tg := 82) h dX4_digest_32 (by decide) (pc' := 35) rfl (nI_ge hi (by omega)) ?_
    refine g_aload_n (i := 0) h dX4_digest_35 rfl rfl (pc' := 36) rfl ?_
    refine g_aload_n (i := 0) h dX4_digest_36 rfl rfl (pc' := 37) rfl ?_
    refine gf_X4_13 h dX4_digest_37 (pc' := 40) rfl ?_
    refine g_iload_n (i := 1) h dX4_digest_40 rfl rfl (pc' := 41) rfl ?_
    refine al_11 (j := i) h dX4_digest_41 rfl (by omega) (pc' := 42) rfl ?_
    refine g_callV0 (q0 := 0) h dX4_digest_42 cf_X4_142 (M_X4_mix (v := cash i) ) rfl rfl rfl rfl (by decide) rfl (Nat.le_of_ble_eq_true rfl) (pc' := 45) rfl ?_
    refine g_iconst (v := nI 0) h dX4_digest_45 (by decide) (pc' := 46) rfl ?_
    refine g_istore2 h dX4_digest_46 rfl (by decide) (pc' := 47) rfl ?_
    refine GG.castW (lp (P := fun j => GG Z X 47 [some (.ref (Z.2.2 10)), some (.int (nI i)), some (.int (nI j))] [] (wR Z (nI m) toll paid cash debts fallen rounds shares under table right tried falls rsize ringOf row found (dg4 m debts i (31 * dg5 m cash debts (31 * (31 * 173 + (nI m).toInt64) + toll.toInt64) i + cash i) j))) (m + 1) ?_ ?_) ⟨rfl, rfl, rfl, trivial⟩ rfl rfl
    · skip
      refine g_iload_n (i := 2) h dX4_digest_47 rfl rfl (pc' := 48) rfl ?_
      refine g_aload_n (i := 0) h dX4_digest_48 rfl rfl (pc' := 49) rfl ?_
      refine gf_X4_7 h dX4_digest_49 (pc' := 52) rfl ?_
      refine g_icmp_gtT (tg := 76) h dX4_digest_52 (by decide) (nI_lt (Nat.lt_succ_self _) (by omega)) ?_
      refine g_iinc1 (v := nI (i + 1)) h dX4_digest_76 rfl (inc1 i) (by decide) (pc' := 79) rfl ?_
      refine g_goto (pc' := 27) h dX4_digest_79 (by decide) ?_
      exact GG.castW ih27 ⟨rfl, rfl, trivial⟩ rfl rfl
    · intro j hj ih47
      refine g_iload_n (i := 2) h dX4_digest_47 rfl rfl (pc' := 48) rfl ?_
      refine g_aload_n (i := 0) h dX4_digest_48 rfl rfl (pc' := 49) rfl ?_
      refine gf_X4_7 h dX4_digest_49 (pc' := 52) rfl ?_
      refine g_icmp_gtF (tg := 76) h dX4_digest_52 (by decide) (pc' := 55) rfl (nI_nlt (by omega) (by omega)) ?_
      refine g_aload_n (i := 0) h dX4_digest_55 rfl rfl (pc' := 56) rfl ?_
      refine g_aload_n (i := 0) h dX4_digest_56 rfl rfl (pc' := 57) rfl ?_
      refine gf_X4_17 h dX4_digest_57 (pc' := 60) rfl ?_
      refine g_iconst (v := nI 5) h dX4_digest_60 (by decide) (pc' := 61) rfl ?_
      refine g_iload_n (i := 1) h dX4_digest_61 rfl rfl (pc' := 62) rfl ?_
      refine g_imulN h dX4_digest_62 (pc' := 63) rfl ?_
      refine g_iload_n (i := 2) h dX4_digest_63 rfl rfl (pc' := 64) rfl ?_
      refine g_iaddN h dX4_digest_64 (pc' := 65) rfl ?_
      refine al_12 (j := (5 * i) + j) h dX4_digest_65 rfl (by omega) (pc' := 66) rfl ?_
      refine g_i2l h dX4_digest_66 (pc' := 67) rfl ?_
      refine g_callV0 (q0 := 0) h dX4_digest_67 cf_X4_142 (M_X4_mix (v := (debts ((5 * i) + j)).toInt64) ) rfl rfl rfl rfl (by decide) rfl (Nat.le_of_ble_eq_true rfl) (pc' := 70) rfl ?_
      refine g_iinc2 (v := nI (j + 1)) h dX4_digest_70 rfl (inc1 j) (by decide) (pc' := 73) rfl ?_
      refine g_goto (pc' := 47) h dX4_digest_73 (by decide) ?_
      exact GG.castW ih47 ⟨rfl, rfl, rfl, trivial⟩ rfl rfl

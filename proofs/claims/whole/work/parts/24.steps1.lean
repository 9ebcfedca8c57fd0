/-! numbers -/
theorem i0_eq : (0 : Int32) = nI 0 := rfl
theorem lt_I {a b : Int32} : a < b ↔ a.toInt < b.toInt := Int32.lt_iff_toInt_lt
theorem le_I {a b : Int32} : a ≤ b ↔ a.toInt ≤ b.toInt := Int32.le_iff_toInt_le
theorem lt_J {a b : Int64} : a < b ↔ a.toInt < b.toInt := Int64.lt_iff_toInt_lt
theorem le_J {a b : Int64} : a ≤ b ↔ a.toInt ≤ b.toInt := Int64.le_iff_toInt_le
theorem lN_ofInt (n : Nat) : lN n = Int64.ofInt (n : Int) := by
  show Int64.ofNat n = _
  rw [Int64.ofInt_eq_ofNat]
theorem lN_to {n : Nat} (h : n < 2 ^ 31) : (lN n).toInt32 = nI n := lN_i n
/-- a house, or none, for both sides -/
theorem house_cases (a : Int32) {m : Nat} (h1 : 1 ≤ m) (h4 : m ≤ 4) : (∃ i, i < m ∧ a = nI i) ∨ (¬ (¬ a < 0 ∧ ¬ nI m ≤ a) ∧ ¬ (¬ a < nI 0 ∧ ¬ nI (m - 1) < a)) := by
  rcases pk_ix a (n := m) (by omega) with h | h | ⟨j, hj, e⟩
  · exact Or.inr ⟨fun q => q.1 h, fun q => q.1 h⟩
  · refine Or.inr ⟨fun q => q.2 h, fun q => q.2 ?_⟩
    rw [lt_I, nI_toInt (by omega)]
    rw [le_I, nI_toInt (by omega)] at h
    omega
  · exact Or.inl ⟨j, hj, e⟩
theorem payee_cases (a : Int32) {m : Nat} (h4 : m ≤ 4) : (∃ j, j ≤ m ∧ a = nI j) ∨ ¬ (¬ a < 0 ∧ ¬ nI m < a) := by
  rcases pk_ix a (n := m + 1) (by omega) with h | h | ⟨j, hj, e⟩
  · exact Or.inr fun q => q.1 h
  · refine Or.inr fun q => q.2 ?_
    rw [lt_I, nI_toInt (by omega)]
    rw [le_I, nI_toInt (by omega)] at h
    omega
  · exact Or.inl ⟨j, by omega, e⟩
/-- a number from 0 to M, or none -/
theorem range_cases (a : Int32) {M : Nat} (h : M < 2 ^ 30) : (∃ v, v ≤ M ∧ a = nI v) ∨ (a < 0 ∨ nI M < a) := by
  rcases pk_ix a (n := M + 1) (by omega) with h | h | ⟨j, hj, e⟩
  · exact Or.inr (Or.inl h)
  · refine Or.inr (Or.inr ?_)
    rw [lt_I, nI_toInt (by omega)]
    rw [le_I, nI_toInt (by omega)] at h
    omega
  · exact Or.inl ⟨j, by omega, e⟩
theorem part_cases (a : Int32) : ((a = 0 ∨ a = nI 1) ∧ (¬ a < nI 0 ∧ ¬ nI 1 < a)) ∨ (¬ (a = 0 ∨ a = nI 1) ∧ ¬ (¬ a < nI 0 ∧ ¬ nI 1 < a)) := by
  rcases range_cases a (M := 1) (by decide) with ⟨v, hv, rfl⟩ | h
  · left
    rcases (show v = 0 ∨ v = 1 by omega) with rfl | rfl
    · exact ⟨Or.inl rfl, by decide⟩
    · exact ⟨Or.inr rfl, by decide⟩
  · right
    refine ⟨fun q => ?_, fun q => h.elim q.1 q.2⟩
    rcases q with rfl | rfl
    · exact absurd h (by decide)
    · exact absurd h (by decide)
theorem Rel.mk {Z : ZT} {k : Nat} {m tt po : Nat} {c : Nat → Nat} {d : Nat → Nat → Nat} {coin debt fall : Nat → Int32} {shr mat rgt : Nat → Int64} {pen last : Int32} {below : Int64} {cash : Nat → Int64} {debts fallen : Nat → Int32} {rounds : Int32} {shares : Nat → Int64} {under : Int64} {table right tried : Nat → Int64} {falls : Nat → Int32} {rsize : Int32} {ro r : Nat → Nat} {found : Int32} {hh : Int64}
    (h1 : RelP k m tt po c d) (h2 : RelC coin debt c d) (h3 : RelR m cash debts c d) : Rel Z k (wC Z (nI m) (nI tt) (nI po) coin debt fall shr mat rgt pen last below) (wR Z (nI m) (nI tt) (lN po) cash debts fallen rounds shares under table right tried falls rsize (fun q => nI (ro q)) (fun q => nI (r q)) found hh) :=
  ⟨m, tt, po, c, d, coin, debt, fall, shr, mat, rgt, pen, last, below, cash, debts, fallen, rounds, shares, under, table, right, tried, falls, rsize, ro, r, found, hh, h1, h2, h3, rfl, rfl⟩
theorem c_lt {k m tt po : Nat} {c : Nat → Nat} {d : Nat → Nat → Nat} (h : RelP k m tt po c d) (hk : k ≤ 512) {i : Nat} (hi : i < 4) : c i ≤ 26600 := by
  have := h.2.2.2.2.2.1 i hi
  omega
theorem po_lt {k m tt po : Nat} {c : Nat → Nat} {d : Nat → Nat → Nat} (h : RelP k m tt po c d) (hk : k ≤ 512) : po ≤ 25600 := by
  have := h.2.2.2.2.2.2
  omega
theorem rel_c {m : Nat} {coin debt debts : Nat → Int32} {cash : Nat → Int64} {c : Nat → Nat} {d : Nat → Nat → Nat} (hC : RelC coin debt c d) (hR : RelR m cash debts c d) {i : Nat} (hi : i < 4) : (cash i).toInt32 = coin i := by
  rw [hR.1 i hi, hC.1 i hi, lN_i]
theorem rel_d {m : Nat} {coin debt debts : Nat → Int32} {cash : Nat → Int64} {c : Nat → Nat} {d : Nat → Nat → Nat} (hC : RelC coin debt c d) (hR : RelR m cash debts c d) (hm : m ≤ 4) {i j : Nat} (hi : i < m) (hj : j ≤ m) : debts (5 * i + j) = debt (i * 5 + cm m j) := by
  unfold cm
  by_cases e : j = m
  · rw [if_pos e, e, hR.2.2 i hi, hC.2 i 4 (by omega) (by omega)]
  · rw [if_neg e, hR.2.1 i j hi (by omega), hC.2 i j (by omega) (by omega)]
/-! the simplest calls -/
theorem zf_in {f : Nat → Int32} {n k : Nat} (h : k < n) : zf f n k = nI 0 := if_pos h
theorem zc_in {f : Nat → Int64} : ∀ {n k : Nat}, 5 * k < n → zc f n k = 0
  | 0, k, h => absurd h (Nat.not_lt_zero _)
  | n + 1, k, h => by
    rw [zc, vp_updL]
    split
    · rfl
    · rename_i e
      refine zc_in ?_
      have : ¬ k = n / 5 := e
      omega
theorem dsum_0 : dsum (fun _ _ => 0) = 0 := rfl
theorem st_houses (Z : ZT) (a : Int32) : StI Z yX3_houses cX3_houses 2 2 yX4_houses cX4_houses 3 1 [.int a] := by
  intro k wc wr hk hR
  have hR0 := hR
  obtain ⟨m, tt, po, c, d, coin, debt, fall, shr, mat, rgt, pen, last, below, cash, debts, fallen, rounds, shares, under, table, right, tried, falls, rsize, ro, r, found, hh, hP, hC, hRr, rfl, rfl⟩ := hR
  rcases range_cases a (M := 4) (by decide) with ⟨v, hv, rfl⟩ | h
  · by_cases h0 : 1 ≤ v
    · refine ⟨nI v, _, _, M_houses h0 hv, R_houses h0 hv, Rel.mk (c := fun _ => 0) (d := fun _ _ => 0) (tt := 0) (po := 0) ⟨⟨h0, hv, Nat.zero_le _⟩, fun _ _ _ _ => Nat.zero_le _, fun _ _ => rfl, fun _ _ _ => ⟨rfl, fun _ _ => rfl⟩, fun _ _ _ _ _ => rfl, fun _ _ => ?_, ?_⟩ ⟨fun i hi => zf_in hi, fun i j hi hj => zf_in (by omega)⟩ ⟨fun i hi => zc_in (by omega), fun i j hi hj => zf_in (by omega), fun i hi => zf_in (by omega)⟩⟩
      · show 0 + dsum (fun _ _ => 0) ≤ _
        rw [dsum_0]; omega
      · rw [dsum_0]; omega
    · have e : v = 0 := by omega
      subst e
      exact ⟨(-102), _, _, M_houses_O (Or.inl (by decide)), R_houses_O (by decide), hR0.up⟩
  · refine ⟨(-102), _, _, M_houses_O ?_, R_houses_O ?_, hR0.up⟩
    · rcases h with h | h
      · refine Or.inl ?_
        rw [lt_I] at h ⊢
        have : (nI 1).toInt = 1 := rfl
        have : (0 : Int32).toInt = 0 := rfl
        omega
      · exact Or.inr h
    · intro q
      rcases h with h | h
      · refine q.1 ?_
        rw [lt_I] at h ⊢
        have : (nI 1).toInt = 1 := rfl
        have : (0 : Int32).toInt = 0 := rfl
        omega
      · exact q.2 h
theorem upd_at {f : Nat → Int32} {k j : Nat} {x : Int32} : upd f k x j = if j = k then x else f j := rfl
theorem updL_at {f : Nat → Int64} {k j : Nat} {x : Int64} : vp_updL f k x j = if j = k then x else f j := rfl
theorem st_cash (Z : ZT) (a b : Int32) : StI Z yX3_cash cX3_cash 4 2 yX4_cash cX4_cash 4 2 [.int a, .int b] := by
  intro k wc wr hk hR
  have hR0 := hR
  obtain ⟨m, tt, po, c, d, coin, debt, fall, shr, mat, rgt, pen, last, below, cash, debts, fallen, rounds, shares, under, table, right, tried, falls, rsize, ro, r, found, hh, hP, hC, hRr, rfl, rfl⟩ := hR
  obtain ⟨⟨h1, h4, ht⟩, hd50, hdd, hout, hcol, hcs, hpo⟩ := id hP
  rcases house_cases a h1 h4 with ⟨i, hi, rfl⟩ | ⟨u1, u2⟩
  · have ec := rel_c hC hRr (show i < 4 by omega)
    rcases range_cases b (M := 1000) (by decide) with ⟨v, hv, rfl⟩ | h
    · have g1 : ¬ nI v < 0 := nI_pos (by omega)
      have g2 : nI v ≤ nI 1000 := nI_le hv (by decide)
      have g3 : ¬ nI v < nI 0 ∧ ¬ nI 1000 < nI v := ⟨g1, nI_nlt hv (by decide)⟩
      refine ⟨coin i, _, _, M_cash hi h4 g1 g2, ec ▸ R_cash hi h4 h1 g3, Rel.mk (c := fun q => if q = i then v else c q) (d := d) ⟨⟨h1, h4, ht⟩, hd50, hdd, ?_, hcol, ?_, by omega⟩ ⟨?_, hC.2⟩ ⟨?_, hRr.2.1, hRr.2.2⟩⟩
      · intro q hq hq4
        refine ⟨?_, (hout q hq hq4).2⟩
        show (if q = i then v else c q) = 0
        rw [if_neg (by omega)]
        exact (hout q hq hq4).1
      · intro q hq
        have := hcs q hq
        show (if q = i then v else c q) + dsum d ≤ _
        split <;> omega
      · intro q hq
        rw [upd_at]
        show _ = nI (if q = i then v else c q)
        split
        · rfl
        · exact hC.1 q hq
      · intro q hq
        rw [updL_at]
        show _ = lN (if q = i then v else c q)
        split
        · exact nI_l (by omega)
        · exact hRr.1 q hq
    · exact ⟨(-102), _, _, M_cash_O hi h4 (h.imp id (fun q z => Int32.not_lt.mpr z q)), R_cash_O hi h4 h1 (fun q => h.elim q.1 q.2), hR0.up⟩
  · exact ⟨(-101), _, _, M_cash_U u1, R_cash_U h1 u2, hR0.up⟩
theorem st_toll (Z : ZT) (a : Int32) : StI Z yX3_toll cX3_toll 3 0 yX4_toll cX4_toll 3 1 [.int a] := by
  intro k wc wr hk hR
  have hR0 := hR
  obtain ⟨m, tt, po, c, d, coin, debt, fall, shr, mat, rgt, pen, last, below, cash, debts, fallen, rounds, shares, under, table, right, tried, falls, rsize, ro, r, found, hh, hP, hC, hRr, rfl, rfl⟩ := hR
  obtain ⟨⟨h1, h4, ht⟩, hrest⟩ := id hP
  rcases range_cases a (M := 5) (by decide) with ⟨v, hv, rfl⟩ | h
  · have g1 : ¬ nI v < 0 := nI_pos (by omega)
    exact ⟨nI tt, _, _, M_toll g1 (nI_le hv (by decide)), R_toll ⟨g1, nI_nlt hv (by decide)⟩, Rel.mk (RelP.up ⟨⟨h1, h4, hv⟩, hrest⟩) hC hRr⟩
  · exact ⟨(-102), _, _, M_toll_O (h.imp id (fun q z => Int32.not_lt.mpr z q)), R_toll_O (fun q => h.elim q.1 q.2), hR0.up⟩
theorem st_cashOf (Z : ZT) (a : Int32) : StI Z yX3_cashOf cX3_cashOf 2 2 yX4_cashOf cX4_cashOf 2 2 [.int a] := by
  intro k wc wr hk hR
  have hR0 := hR
  obtain ⟨m, tt, po, c, d, coin, debt, fall, shr, mat, rgt, pen, last, below, cash, debts, fallen, rounds, shares, under, table, right, tried, falls, rsize, ro, r, found, hh, hP, hC, hRr, rfl, rfl⟩ := hR
  obtain ⟨⟨h1, h4, ht⟩, hrest⟩ := id hP
  rcases house_cases a h1 h4 with ⟨i, hi, rfl⟩ | ⟨u1, u2⟩
  · exact ⟨coin i, _, _, M_cashOf hi h4, (rel_c hC hRr (show i < 4 by omega)) ▸ R_cashOf hi h4 h1, hR0.up⟩
  · exact ⟨(-101), _, _, M_cashOf_U u1, R_cashOf_U h1 u2, hR0.up⟩
theorem st_debt (Z : ZT) (a b : Int32) : StI Z yX3_debt cX3_debt 3 2 yX4_debt cX4_debt 3 2 [.int a, .int b] := by
  intro k wc wr hk hR
  have hR0 := hR
  obtain ⟨m, tt, po, c, d, coin, debt, fall, shr, mat, rgt, pen, last, below, cash, debts, fallen, rounds, shares, under, table, right, tried, falls, rsize, ro, r, found, hh, hP, hC, hRr, rfl, rfl⟩ := hR
  obtain ⟨⟨h1, h4, ht⟩, hrest⟩ := id hP
  rcases house_cases a h1 h4 with ⟨i, hi, rfl⟩ | ⟨u1, u2⟩
  · rcases payee_cases b h4 with ⟨j, hj, rfl⟩ | u3
    · exact ⟨debt (i * 5 + cm m j), _, _, M_debt hi h4 hj, (rel_d hC hRr h4 hi hj) ▸ R_debt hi h4 h1 hj, hR0.up⟩
    · exact ⟨(-101), _, _, M_debt_UP hi h4 u3, R_debt_UP hi h4 h1 u3, hR0.up⟩
  · exact ⟨(-101), _, _, M_debt_U u1, R_debt_U h1 u2, hR0.up⟩

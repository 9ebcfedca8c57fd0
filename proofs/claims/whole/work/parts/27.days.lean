/-! days -/
abbrev aT : Type := Nat × Nat × (Nat → Nat) × (Nat → Nat → Nat)
abbrev aPay (t : aT) (i q : Nat) : Prop := ¬ t.2.2.2 i q = 0 ∧ t.2.2.2 i q ≤ t.2.2.1 i
def aC1 (c : Nat → Nat) (i v : Nat) : Nat → Nat := fun a => if a = i then c i - v else c a
def aC2 (c : Nat → Nat) (i q v : Nat) : Nat → Nat := if q = 4 then aC1 c i v else fun a => if a = q then aC1 c i v q + v else aC1 c i v a
def aSt (i q : Nat) (t : aT) : aT := if aPay t i q then (t.1 + 1, if q = 4 then t.2.1 + t.2.2.2 i q else t.2.1, aC2 t.2.2.1 i q (t.2.2.2 i q), sd t.2.2.2 i q 0) else t
def aRw (i : Nat) : Nat → aT → aT
  | 0, t => aSt i 4 t
  | j + 1, t => aSt i j (aRw i j t)
def aDy (J : Nat) : Nat → aT → aT
  | 0, t => t
  | i + 1, t => aRw i J (aDy J i t)
abbrev aR (k m tt : Nat) (t : aT) : Prop := RelP k m tt t.2.1 t.2.2.1 t.2.2.2
theorem aPay_in {k m tt : Nat} {t : aT} (h : aR k m tt t) {i q : Nat} (hi : i < 4) (hq : q < 5) (hp : aPay t i q) : i < m ∧ (q = 4 ∨ q < m) ∧ ¬ q = i := by
  obtain ⟨⟨h1, h4, ht⟩, hd50, hdd, hout, hcol, hcs, hpo⟩ := h
  refine ⟨?_, ?_, fun e => ?_⟩
  · refine Nat.not_le.mp fun z => hp.1 ?_
    exact (hout i z hi).2 q hq
  · by_cases e : q = 4
    · exact Or.inl e
    · refine Or.inr (Nat.not_le.mp fun z => hp.1 ?_)
      exact hcol i q hi z (by omega)
  · subst e
    exact hp.1 (hdd q hi)
theorem aSt_R {k m tt : Nat} {t : aT} (h : aR k m tt t) {i q : Nat} (hi : i < 4) (hq : q < 5) : aR k m tt (aSt i q t) := by
  unfold aSt
  by_cases hp : aPay t i q
  · obtain ⟨him, hqm, hne⟩ := aPay_in h hi hq hp
    rw [if_pos hp]
    obtain ⟨n, po, c, d⟩ := t
    obtain ⟨⟨h1, h4, ht⟩, hd50, hdd, hout, hcol, hcs, hpo⟩ := h
    have hs := dsum_sd (d := d) (v := 0) hi hq
    have hle : d i q ≤ c i := hp.2
    refine ⟨⟨h1, h4, ht⟩, ?_, ?_, ?_, ?_, ?_, ?_⟩
    · intro a b ha hb
      have := hd50 a b ha hb
      show sd d i q 0 a b ≤ 50
      unfold sd
      split
      · omega
      · exact this
    · intro a ha
      have := hdd a ha
      show sd d i q 0 a a = 0
      unfold sd
      split
      · rfl
      · exact this
    · intro a ha ha4
      have := hout a ha ha4
      refine ⟨?_, fun b hb => ?_⟩
      · show aC2 c i q (d i q) a = 0
        unfold aC2 aC1
        split
        · show (if a = i then c i - d i q else c a) = 0
          rw [if_neg (by omega)]; exact this.1
        · show (if a = q then _ else if a = i then _ else c a) = 0
          rw [if_neg (by omega), if_neg (by omega)]; exact this.1
      · show sd d i q 0 a b = 0
        unfold sd
        split
        · rfl
        · exact this.2 b hb
    · intro a b ha hb hb4
      show sd d i q 0 a b = 0
      unfold sd
      split
      · rfl
      · exact hcol a b ha hb hb4
    · intro a ha
      have e := hcs a ha
      have e2 : c a + dsum d ≤ 1000 + 50 * k := e
      show aC2 c i q (d i q) a + dsum (sd d i q 0) ≤ 1000 + 50 * k
      have e3 : aC2 c i q (d i q) a ≤ c a + d i q := by
        unfold aC2 aC1
        split
        · show (if a = i then c i - d i q else c a) ≤ _
          split
          · rename_i z; rw [z]; omega
          · omega
        · show (if a = q then c q + d i q else if a = i then c i - d i q else c a) ≤ _
          split
          · rename_i z; rw [z]; omega
          · split
            · rename_i z; rw [z]; omega
            · omega
      omega
    · have e : po + dsum d ≤ 50 * k := hpo
      show (if q = 4 then po + d i q else po) + dsum (sd d i q 0) ≤ 50 * k
      split <;> omega
  · rw [if_neg hp]
    exact h
theorem aRw_R {k m tt : Nat} {t : aT} (h : aR k m tt t) {i : Nat} (hi : i < 4) : ∀ j, j ≤ 4 → aR k m tt (aRw i j t)
  | 0, _ => aSt_R h hi (by omega)
  | j + 1, hj => aSt_R (aRw_R h hi j (by omega)) hi (by omega)
theorem aDy_R {k m tt J : Nat} {t : aT} (h : aR k m tt t) (hJ : J ≤ 4) : ∀ n, n ≤ 4 → aR k m tt (aDy J n t)
  | 0, _ => h
  | n + 1, hn => aRw_R (aDy_R h hJ n (by omega)) (by omega) J hJ
theorem aSt_no {k m tt : Nat} {t : aT} (h : aR k m tt t) {i q : Nat} (hi : i < 4) (hq : q < 5) (hz : m ≤ i ∨ (m ≤ q ∧ q < 4)) : aSt i q t = t := by
  unfold aSt
  rw [if_neg]
  intro hp
  have := aPay_in h hi hq hp
  omega
theorem aRw_cut {k m tt : Nat} {t : aT} (h : aR k m tt t) {i : Nat} (hi : i < 4) : ∀ j, m ≤ j → j ≤ 4 → aRw i j t = aRw i m t
  | 0, h1, _ => by rw [show m = 0 by omega]
  | j + 1, h1, h2 => by
    by_cases e : m = j + 1
    · rw [e]
    · rw [aRw, aSt_no (aRw_R h hi j (by omega)) hi (by omega) (Or.inr ⟨by omega, by omega⟩), aRw_cut h hi j (by omega) (by omega)]
theorem aRw_out {k m tt : Nat} {t : aT} (h : aR k m tt t) {i : Nat} (hi : i < 4) (hm : m ≤ i) : ∀ j, j ≤ 4 → aRw i j t = t
  | 0, _ => aSt_no h hi (by omega) (Or.inl hm)
  | j + 1, hj => by rw [aRw, aRw_out h hi hm j (by omega), aSt_no h hi (by omega) (Or.inl hm)]
theorem aDy_J {k m tt : Nat} {t : aT} (h : aR k m tt t) : ∀ n, n ≤ 4 → aDy 4 n t = aDy m n t
  | 0, _ => rfl
  | n + 1, hn => by
    have hm : m ≤ 4 := h.1.2.1
    rw [aDy, aDy, aDy_J h n (by omega), aRw_cut (aDy_R h hm n (by omega)) (by omega) 4 hm (Nat.le_refl _)]
theorem aDy_n {k m tt : Nat} {t : aT} (h : aR k m tt t) : ∀ n, m ≤ n → n ≤ 4 → aDy m n t = aDy m m t
  | 0, h1, _ => by rw [show m = 0 by omega]
  | n + 1, h1, h2 => by
    have hm : m ≤ 4 := h.1.2.1
    by_cases e : m = n + 1
    · rw [e]
    · rw [aDy, aDy_n h n (by omega) (by omega), aRw_out (aDy_R h hm m hm) (by omega) (by omega) m hm]
theorem aDy_44 {k m tt : Nat} {t : aT} (h : aR k m tt t) : aDy 4 4 t = aDy m m t := by
  rw [aDy_J h 4 (Nat.le_refl _), aDy_n h 4 h.1.2.1 (Nat.le_refl _)]
/-- the class's day is that day -/
abbrev CS (t : aT) (x : dT) : Prop := x.1 = t.1 ∧ x.2.1 = nI t.2.1 ∧ RelC x.2.2.1 x.2.2.2 t.2.2.1 t.2.2.2
abbrev RS (m : Nat) (t : aT) (x : rdT) : Prop := x.1 = t.1 ∧ x.2.1 = lN t.2.1 ∧ RelR m x.2.2.1 x.2.2.2 t.2.2.1 t.2.2.2
theorem CS_step {k m tt : Nat} {t : aT} {x : dT} (h : aR k m tt t) (hk : k ≤ 512) (hs : CS t x) {i q : Nat} (hi : i < 4) (hq : q < 5) : CS (aSt i q t) (pStep i q x) := by
  obtain ⟨n, po, c, d⟩ := t
  obtain ⟨n', paid, coin, debt⟩ := x
  obtain ⟨e1, e2, hC0⟩ := hs
  have e1 : n' = n := e1
  have e2 : paid = nI po := e2
  have hC : RelC coin debt c d := hC0
  clear hC0
  have hR : RelP k m tt po c d := h
  subst e1
  subst e2
  have hv : debt (i * 5 + q) = nI (d i q) := hC.2 i q hi hq
  have hc : coin i = nI (c i) := hC.1 i hi
  have hc4 := c_lt hR hk hi
  have hd5 := hR.2.1 i q hi hq
  have hpp := po_lt hR hk
  have hiff : pays coin debt i q ↔ aPay (n', po, c, d) i q := by
    unfold pays aPay
    rw [hv, hc, i0_eq, nI_eq (by omega) (by decide), nI_leI (by omega) (by omega)]
  by_cases hp : aPay (n', po, c, d) i q
  · have hp2 := hiff.mpr hp
    obtain ⟨him, hqm, hne⟩ := aPay_in h hi hq hp
    have hle : d i q ≤ c i := hp.2
    unfold aSt pStep
    rw [if_pos hp]
    refine ⟨?_, ?_, ?_, ?_⟩
    · show n' + pwN coin debt i q = n' + 1
      rw [pwN, if_pos hp2]
    · show pwP (nI po) coin debt i q = nI (if q = 4 then po + d i q else po)
      unfold pwP
      by_cases e : q = 4
      · rw [if_pos ⟨hp2, e⟩, if_pos e, hv, nI_add]
      · rw [if_neg (fun z => e z.2), if_neg e]
    · intro a ha
      show pwC coin debt i q a = nI (aC2 c i q (d i q) a)
      have hca := hC.1 a ha
      unfold pwC aC2
      rw [if_pos hp2]
      by_cases e : q = 4
      · rw [if_pos e, if_pos e]
        unfold pwC1 aC1
        rw [upd_at]
        by_cases z : a = i
        · rw [if_pos z, if_pos z, hc, hv, pk_sub hle]
        · rw [if_neg z, if_neg z, hca]
      · rw [if_neg e, if_neg e]
        show _ = nI (if a = q then aC1 c i (d i q) q + d i q else aC1 c i (d i q) a)
        rw [upd_at]
        unfold pwC1 aC1
        rw [upd_at, upd_at, if_neg hne, if_neg hne]
        by_cases z : a = q
        · rw [if_pos z, if_pos z, hv, hC.1 q (by omega), nI_add]
        · rw [if_neg z, if_neg z]
          by_cases z2 : a = i
          · rw [if_pos z2, if_pos z2, hc, hv, pk_sub hle]
          · rw [if_neg z2, if_neg z2, hca]
    · intro a b ha hb
      show pwD coin debt i q (a * 5 + b) = nI (sd d i q 0 a b)
      unfold pwD sd
      rw [if_pos hp2, upd_at]
      by_cases e : a = i ∧ b = q
      · rw [if_pos e, if_pos ((cell_eq hq hb).mpr e)]
      · rw [if_neg e, if_neg (fun z => e ((cell_eq hq hb).mp z))]
        exact hC.2 a b ha hb
  · have hp2 : ¬ pays coin debt i q := fun z => hp (hiff.mp z)
    unfold aSt pStep
    rw [if_neg hp]
    refine ⟨?_, ?_, ?_⟩
    · show n' + pwN coin debt i q = n'
      rw [pwN, if_neg hp2]; rfl
    · show pwP (nI po) coin debt i q = nI po
      rw [pwP, if_neg (fun z => hp2 z.1)]
    · show RelC (pwC coin debt i q) (pwD coin debt i q) c d
      rw [pwC, pwD, if_neg hp2, if_neg hp2]
      exact hC
theorem CS_row {k m tt : Nat} {t : aT} {x : dT} (h : aR k m tt t) (hk : k ≤ 512) (hs : CS t x) {i : Nat} (hi : i < 4) : ∀ j, j ≤ 4 → CS (aRw i j t) (pRow i j x)
  | 0, _ => CS_step h hk hs hi (by omega)
  | j + 1, hj => CS_step (aRw_R h hi j (by omega)) hk (CS_row h hk hs hi j (by omega)) hi (by omega)
theorem CS_day {k m tt : Nat} {t : aT} {x : dT} (h : aR k m tt t) (hk : k ≤ 512) (hs : CS t x) : ∀ n, n ≤ 4 → CS (aDy 4 n t) (pDay n x)
  | 0, _ => hs
  | n + 1, hn => CS_row (aDy_R h (Nat.le_refl _) n (by omega)) hk (CS_day h hk hs n (by omega)) (by omega) 4 (Nat.le_refl _)
/-- the column of the reference's cell -/
theorem RS_step {k m tt : Nat} {t : aT} {x : rdT} (h : aR k m tt t) (hk : k ≤ 512) (hs : RS m t x) {i j q : Nat} (hi : i < m) (hj : (j = m ∧ q = 4) ∨ (j < m ∧ q = j)) : RS m (aSt i q t) (rStep m i j x) := by
  obtain ⟨n, po, c, d⟩ := t
  obtain ⟨n', paid, cash, debts⟩ := x
  obtain ⟨e1, e2, hC0⟩ := hs
  have e1 : n' = n := e1
  have e2 : paid = lN po := e2
  have hC : RelR m cash debts c d := hC0
  clear hC0
  have hR : RelP k m tt po c d := h
  subst e1
  subst e2
  have h4 : m ≤ 4 := hR.1.2.1
  have hq : q < 5 := by omega
  have hv : debts (5 * i + j) = nI (d i q) := by
    rcases hj with ⟨rfl, rfl⟩ | ⟨a, rfl⟩
    · exact hC.2.2 i hi
    · exact hC.2.1 i q hi a
  have hc : cash i = lN (c i) := hC.1 i (by omega)
  have hc4 := c_lt hR hk (show i < 4 by omega)
  have hd5 := hR.2.1 i q (by omega) hq
  have hl : (debts (5 * i + j)).toInt64 = lN (d i q) := by rw [hv, nI_l (by omega)]
  have hiff : rpays cash debts i j ↔ aPay (n', po, c, d) i q := by
    unfold rpays aPay
    rw [hl, hv, hc, i0_eq, nI_eq (by omega) (by decide), lN_le (by omega) (by omega)]
  by_cases hp : aPay (n', po, c, d) i q
  · have hp2 := hiff.mpr hp
    obtain ⟨him, hqm, hne⟩ := aPay_in h (by omega) hq hp
    have hle : d i q ≤ c i := hp.2
    unfold aSt rStep
    rw [if_pos hp]
    refine ⟨?_, ?_, ?_, ?_, ?_⟩
    · show n' + rwN cash debts i j = n' + 1
      rw [rwN, if_pos hp2]
    · show rwP m (lN po) cash debts i j = lN (if q = 4 then po + d i q else po)
      unfold rwP
      by_cases e : j = m
      · rw [if_pos ⟨hp2, e⟩, if_pos (by omega), hl, lN_add]
      · rw [if_neg (fun z => e z.2), if_neg (by omega)]
    · intro a ha
      show rwC m cash debts i j a = lN (aC2 c i q (d i q) a)
      have hca := hC.1 a ha
      unfold rwC aC2
      rw [if_pos hp2]
      by_cases e : j = m
      · rw [if_pos e, if_pos (show q = 4 by omega)]
        unfold rwC1 aC1
        rw [updL_at]
        by_cases z : a = i
        · rw [if_pos z, if_pos z, hc, hl, lN_sub hle]
        · rw [if_neg z, if_neg z, hca]
      · have ejq : j = q := by omega
        rw [if_neg e, if_neg (show ¬ q = 4 by omega)]
        show _ = lN (if a = q then aC1 c i (d i q) q + d i q else aC1 c i (d i q) a)
        rw [updL_at, hl, ejq]
        unfold rwC1 aC1
        rw [← ejq, hl, ejq, updL_at, updL_at, if_neg hne, if_neg hne]
        by_cases z : a = q
        · rw [if_pos z, if_pos z, hC.1 q (by omega), lN_add]
        · rw [if_neg z, if_neg z]
          by_cases z2 : a = i
          · rw [if_pos z2, if_pos z2, hc, lN_sub hle]
          · rw [if_neg z2, if_neg z2, hca]
    · intro a b ha hb
      show rwD cash debts i j (5 * a + b) = nI (sd d i q 0 a b)
      unfold rwD sd
      rw [if_pos hp2, upd_at]
      by_cases e : a = i ∧ b = q
      · rw [if_pos e, if_pos (by omega)]
      · rw [if_neg e, if_neg (by omega)]
        exact hC.2.1 a b ha hb
    · intro a ha
      show rwD cash debts i j (5 * a + m) = nI (sd d i q 0 a 4)
      unfold rwD sd
      rw [if_pos hp2, upd_at]
      by_cases e : a = i ∧ 4 = q
      · rw [if_pos e, if_pos (by omega)]
      · rw [if_neg e, if_neg (by omega)]
        exact hC.2.2 a ha
  · have hp2 : ¬ rpays cash debts i j := fun z => hp (hiff.mp z)
    unfold aSt rStep
    rw [if_neg hp]
    refine ⟨?_, ?_, ?_⟩
    · show n' + rwN cash debts i j = n'
      rw [rwN, if_neg hp2]; rfl
    · show rwP m (lN po) cash debts i j = lN po
      rw [rwP, if_neg (fun z => hp2 z.1)]
    · show RelR m (rwC m cash debts i j) (rwD cash debts i j) c d
      rw [rwC, rwD, if_neg hp2, if_neg hp2]
      exact hC
theorem RS_row {k m tt : Nat} {t : aT} {x : rdT} (h : aR k m tt t) (hk : k ≤ 512) (hs : RS m t x) {i : Nat} (hi : i < m) : ∀ j, j ≤ m → RS m (aRw i j t) (rRow m i j x)
  | 0, _ => RS_step h hk hs hi (Or.inl ⟨rfl, rfl⟩)
  | j + 1, hj => by
    have h4 : m ≤ 4 := h.1.2.1
    exact RS_step (aRw_R h (by omega) j (by omega)) hk (RS_row h hk hs hi j (by omega)) hi (Or.inr ⟨by omega, rfl⟩)
theorem RS_day {k m tt : Nat} {t : aT} {x : rdT} (h : aR k m tt t) (hk : k ≤ 512) (hs : RS m t x) : ∀ n, n ≤ m → RS m (aDy m n t) (rDay m n x)
  | 0, _ => hs
  | n + 1, hn => by
    have h4 : m ≤ 4 := h.1.2.1
    exact RS_row (aDy_R h h4 n (by omega)) hk (RS_day h hk hs n (by omega)) (by omega) m (Nat.le_refl _)
/-- a whole day, on both sides -/
theorem day_both {k m tt po : Nat} {c : Nat → Nat} {d : Nat → Nat → Nat} {coin debt debts : Nat → Int32} {cash : Nat → Int64} (hP : RelP k m tt po c d) (hk : k ≤ 512) (hC : RelC coin debt c d) (hR : RelR m cash debts c d) :
    aR k m tt (aDy m m (0, po, c, d)) ∧ CS (aDy m m (0, po, c, d)) (pDay 4 (0, nI po, coin, debt)) ∧ RS m (aDy m m (0, po, c, d)) (rDay m m (0, lN po, cash, debts)) := by
  have h : aR k m tt (0, po, c, d) := hP
  have h4 : m ≤ 4 := hP.1.2.1
  refine ⟨aDy_R h h4 m h4, ?_, RS_day h hk ⟨rfl, rfl, hR⟩ m (Nat.le_refl _)⟩
  rw [← aDy_44 h]
  exact CS_day h hk ⟨rfl, rfl, hC⟩ 4 (Nat.le_refl _)
theorem st_day (Z : ZT) : StI Z yX3_day cX3_day 1 4 yX4_day cX4_day 1 2 [] := by
  intro k wc wr hk hR
  obtain ⟨m, tt, po, c, d, coin, debt, fall, shr, mat, rgt, pen, last, below, cash, debts, fallen, rounds, shares, under, table, right, tried, falls, rsize, ro, r, found, hh, hP, hC, hRr, rfl, rfl⟩ := hR
  obtain ⟨h1, h2, h3⟩ := day_both hP (by omega) hC hRr
  have a1 := M_day (Z := Z) (m := m) (toll := nI tt) (paid := nI po) (coin := coin) (debt := debt) (fall := fall) (shr := shr) (mat := mat) (rgt := rgt) (pen := pen) (last := last) (below := below)
  have a2 := R_day (Z := Z) (toll := nI tt) (paid := lN po) (cash := cash) (debts := debts) (fallen := fallen) (rounds := rounds) (shares := shares) (under := under) (table := table) (right := right) (tried := tried) (falls := falls) (rsize := rsize) (ringOf := fun q => nI (ro q)) (row := fun q => nI (r q)) (found := found) (hh := hh) hP.1.2.1
  rw [h2.1, h2.2.1] at a1
  rw [h3.1, h3.2.1] at a2
  exact ⟨_, _, _, a1, a2, Rel.mk (RelP.up h1) h2.2.2 h3.2.2⟩
/-! how many debts there are -/
def ind (d : Nat → Nat → Nat) : Nat → Nat → Nat := fun i j => if d i j = 0 then 0 else 1
def nz (d : Nat → Nat → Nat) : Nat := dsum (ind d)
theorem ind_sd {d : Nat → Nat → Nat} {i q : Nat} : ind (sd d i q 0) = sd (ind d) i q 0 := by
  funext a b
  unfold ind sd
  by_cases e : a = i ∧ b = q
  · simp [e]
  · simp [e]
theorem nz_le (d : Nat → Nat → Nat) : nz d ≤ 20 := by
  have h : ∀ i j, ind d i j ≤ 1 := fun i j => by unfold ind; split <;> omega
  have h5 : ∀ i, fb5 (ind d i) ≤ 5 := fun i => by
    have a := h i 0
    have b := h i 1
    have e := h i 2
    have f := h i 3
    have g := h i 4
    unfold fb5
    omega
  have a := h5 0
  have b := h5 1
  have e := h5 2
  have f := h5 3
  show fb5 (ind d 0) + fb5 (ind d 1) + fb5 (ind d 2) + fb5 (ind d 3) ≤ 20
  omega
theorem aSt_nz {t : aT} {i q : Nat} (hi : i < 4) (hq : q < 5) : (aSt i q t).1 + nz (aSt i q t).2.2.2 = t.1 + nz t.2.2.2 := by
  unfold aSt
  by_cases hp : aPay t i q
  · rw [if_pos hp]
    show t.1 + 1 + nz (sd t.2.2.2 i q 0) = _
    have := dsum_sd (d := ind t.2.2.2) (v := 0) hi hq
    have e : ind t.2.2.2 i q = 1 := if_neg hp.1
    unfold nz
    rw [ind_sd]
    omega
  · rw [if_neg hp]
theorem aRw_nz {t : aT} {i : Nat} (hi : i < 4) : ∀ j, j ≤ 4 → (aRw i j t).1 + nz (aRw i j t).2.2.2 = t.1 + nz t.2.2.2
  | 0, _ => aSt_nz hi (by omega)
  | j + 1, hj => (aSt_nz hi (by omega)).trans (aRw_nz hi j (by omega))
theorem aDy_nz {J : Nat} {t : aT} (hJ : J ≤ 4) : ∀ n, n ≤ 4 → (aDy J n t).1 + nz (aDy J n t).2.2.2 = t.1 + nz t.2.2.2
  | 0, _ => rfl
  | n + 1, hn => (aRw_nz (by omega) J hJ).trans (aDy_nz hJ n (by omega))
theorem aSt_ge {t : aT} {i q : Nat} : t.1 ≤ (aSt i q t).1 ∧ ((aSt i q t).1 = t.1 → aSt i q t = t) := by
  unfold aSt
  by_cases hp : aPay t i q
  · rw [if_pos hp]
    exact ⟨Nat.le_succ _, fun h => absurd h (Nat.succ_ne_self _)⟩
  · rw [if_neg hp]
    exact ⟨Nat.le_refl _, fun _ => rfl⟩
theorem aRw_ge {t : aT} {i : Nat} : ∀ j, t.1 ≤ (aRw i j t).1 ∧ ((aRw i j t).1 = t.1 → aRw i j t = t)
  | 0 => aSt_ge
  | j + 1 => by
    have a := aRw_ge (t := t) (i := i) j
    have b := aSt_ge (t := aRw i j t) (i := i) (q := j)
    rw [aRw]
    refine ⟨Nat.le_trans a.1 b.1, fun h => ?_⟩
    have e : (aRw i j t).1 = t.1 := by omega
    have e2 := b.2 (by omega)
    rw [e2]
    exact a.2 e
theorem aDy_ge {J : Nat} {t : aT} : ∀ n, t.1 ≤ (aDy J n t).1 ∧ ((aDy J n t).1 = t.1 → aDy J n t = t)
  | 0 => ⟨Nat.le_refl _, fun _ => rfl⟩
  | n + 1 => by
    have a := aDy_ge (J := J) (t := t) n
    have b := aRw_ge (t := aDy J n t) (i := n) J
    rw [aDy]
    refine ⟨Nat.le_trans a.1 b.1, fun h => ?_⟩
    have e : (aDy J n t).1 = t.1 := by omega
    have e2 := b.2 (by omega)
    rw [e2]
    exact a.2 e
/-- all days: the class's and the reference's end alike -/
theorem days_both {k m tt : Nat} (hk : k ≤ 512) : ∀ (f n po : Nat) (c : Nat → Nat) (d : Nat → Nat → Nat) (coin debt : Nat → Int32) (cash : Nat → Int64) (debts : Nat → Int32), n + f = 20 → n + nz d ≤ 20 → RelP k m tt po c d → RelC coin debt c d → RelR m cash debts c d →
    ∃ (n' po' : Nat) (c' : Nat → Nat) (d' : Nat → Nat → Nat) (coin' debt' : Nat → Int32) (cash' : Nat → Int64) (debts' : Nat → Int32), dyl f n (nI po, coin, debt) = (n', nI po', coin', debt') ∧ rdl m (f + 1) n (lN po, cash, debts) = some (n', lN po', cash', debts') ∧ RelP k m tt po' c' d' ∧ RelC coin' debt' c' d' ∧ RelR m cash' debts' c' d'
  | 0, n, po, c, d, coin, debt, cash, debts, e, hn, hP, hC, hR => by
    obtain ⟨h1, h2, h3⟩ := day_both hP hk hC hR
    have h4 : m ≤ 4 := hP.1.2.1
    have hz := aDy_nz (J := m) (t := (0, po, c, d)) h4 m h4
    have hz2 : (aDy m m (0, po, c, d)).1 + nz (aDy m m (0, po, c, d)).2.2.2 = 0 + nz d := hz
    have h0 : (aDy m m (0, po, c, d)).1 = 0 := by omega
    have hsame := (aDy_ge (J := m) (t := (0, po, c, d)) m).2 h0
    rw [hsame] at h3
    generalize hx : rDay m m (0, lN po, cash, debts) = x at h3
    obtain ⟨n1, p1, cash1, debts1⟩ := x
    obtain ⟨e1, e2, hR1⟩ := h3
    have e1 : n1 = 0 := e1
    have e2 : p1 = lN po := e2
    subst e1
    subst e2
    refine ⟨n, po, c, d, coin, debt, cash1, debts1, rfl, ?_, hP, hC, hR1⟩
    rw [rdl]
    show (if nI (rDay m m (0, lN po, cash, debts)).1 ≤ 0 then some (n, (rDay m m (0, lN po, cash, debts)).2) else _) = _
    rw [hx]
    rfl
  | f + 1, n, po, c, d, coin, debt, cash, debts, e, hn, hP, hC, hR => by
    obtain ⟨h1, h2, h3⟩ := day_both hP hk hC hR
    have h4 : m ≤ 4 := hP.1.2.1
    have hz := aDy_nz (J := m) (t := (0, po, c, d)) h4 m h4
    have hz2 : (aDy m m (0, po, c, d)).1 + nz (aDy m m (0, po, c, d)).2.2.2 = 0 + nz d := hz
    have hzl := nz_le d
    rw [dyl, rdl]
    show ∃ (n' po' : Nat) (c' : Nat → Nat) (d' : Nat → Nat → Nat) (coin' debt' : Nat → Int32) (cash' : Nat → Int64) (debts' : Nat → Int32), (if nI (pDay 4 (0, nI po, coin, debt)).1 ≤ 0 then (n, (pDay 4 (0, nI po, coin, debt)).2) else dyl f (n + 1) (pDay 4 (0, nI po, coin, debt)).2) = (n', nI po', coin', debt') ∧ (if nI (rDay m m (0, lN po, cash, debts)).1 ≤ 0 then some (n, (rDay m m (0, lN po, cash, debts)).2) else rdl m (f + 1) (n + 1) (rDay m m (0, lN po, cash, debts)).2) = some (n', lN po', cash', debts') ∧ RelP k m tt po' c' d' ∧ RelC coin' debt' c' d' ∧ RelR m cash' debts' c' d'
    generalize pDay 4 (0, nI po, coin, debt) = y at h2 ⊢
    generalize rDay m m (0, lN po, cash, debts) = x at h3 ⊢
    generalize aDy m m (0, po, c, d) = t at h1 h2 h3 hz2
    obtain ⟨nt, pot, ct, dt⟩ := t
    obtain ⟨n1, p1, cash1, debts1⟩ := x
    obtain ⟨n2, p2, coin2, debt2⟩ := y
    obtain ⟨e1, e2, hR1⟩ := h3
    obtain ⟨e3, e4, hC1⟩ := h2
    have e1 : n1 = nt := e1
    have e2 : p1 = lN pot := e2
    have e3 : n2 = nt := e3
    have e4 : p2 = nI pot := e4
    subst e1
    subst e2
    subst e3
    subst e4
    have hz3 : n2 + nz dt = 0 + nz d := hz2
    by_cases q : n2 = 0
    · have hle : nI n2 ≤ 0 := by rw [q]; decide
      exact ⟨n, pot, ct, dt, coin2, debt2, cash1, debts1, if_pos hle, if_pos hle, h1, hC1, hR1⟩
    · have hle : ¬ nI n2 ≤ 0 := by
        rw [i0_eq, nI_leI (by omega) (by decide)]
        omega
      obtain ⟨n', po', c', d', coin', debt', cash', debts', a1, a2, a3⟩ := days_both hk f (n + 1) pot ct dt coin2 debt2 cash1 debts1 (by omega) (by omega) h1 hC1 hR1
      exact ⟨n', po', c', d', coin', debt', cash', debts', (if_neg hle).trans a1, (if_neg hle).trans a2, a3⟩
theorem st_days (Z : ZT) : StI Z yX3_days cX3_days 2 4 yX4_days cX4_days 2 2 [] := by
  intro k wc wr hk hR
  obtain ⟨m, tt, po, c, d, coin, debt, fall, shr, mat, rgt, pen, last, below, cash, debts, fallen, rounds, shares, under, table, right, tried, falls, rsize, ro, r, found, hh, hP, hC, hRr, rfl, rfl⟩ := hR
  obtain ⟨n', po', c', d', coin', debt', cash', debts', a1, a2, h1, h2, h3⟩ := days_both (show k ≤ 512 by omega) 20 0 po c d coin debt cash debts rfl (by have := nz_le d; omega) hP hC hRr
  have b1 := M_days (Z := Z) (m := m) (toll := nI tt) (paid := nI po) (coin := coin) (debt := debt) (fall := fall) (shr := shr) (mat := mat) (rgt := rgt) (pen := pen) (last := last) (below := below)
  have b2 := R_days (Z := Z) (toll := nI tt) (fallen := fallen) (rounds := rounds) (shares := shares) (under := under) (table := table) (right := right) (tried := tried) (falls := falls) (rsize := rsize) (ringOf := fun q => nI (ro q)) (row := fun q => nI (r q)) (found := found) (hh := hh) hP.1.2.1 a2
  rw [a1] at b1
  exact ⟨_, _, _, b1, b2, Rel.mk (RelP.up h1) h2 h3⟩

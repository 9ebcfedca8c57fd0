/-! help and best -/
def zz (c : Nat → Nat) (d : Nat → Nat → Nat) (j : Nat) : Int := (ow d j : Int) - c j - tin d j
def zb (z : Nat → Int) (i : Nat) : Nat → Bool
  | 0 => false
  | k + 1 => zb z i k || (decide (k ≠ i) && decide (0 < z k))
theorem nI_int (n : Nat) : nI n = Int32.ofInt (n : Int) := by rw [Int32.ofInt_eq_ofNat]; rfl
theorem zz_le {k m tt po : Nat} {c : Nat → Nat} {d : Nat → Nat → Nat} (hP : RelP k m tt po c d) (hk : k ≤ 512) {j : Nat} (hj : j < 4) : -27000 ≤ zz c d j ∧ zz c d j ≤ 200 := by
  have a := ow_le hP hj
  have b := tin_le hP (show j < 5 by omega)
  have e := c_lt hP hk hj
  unfold zz
  omega
theorem sf_zz {k m tt po : Nat} {coin debt : Nat → Int32} {c : Nat → Nat} {d : Nat → Nat → Nat} (hP : RelP k m tt po c d) (hC : RelC coin debt c d) {j : Nat} (hj : j < 4) : sf coin debt j = Int32.ofInt (zz c d j) := by
  unfold sf zz
  rw [oB_ow hC hj, oT_tin hC (by omega), hC.1 j hj, Int32.ofInt_sub, Int32.ofInt_sub, ← nI_int, ← nI_int, ← nI_int]
theorem hs_lN {k m tt po : Nat} {cash : Nat → Int64} {debts : Nat → Int32} {c : Nat → Nat} {d : Nat → Nat → Nat} (hP : RelP k m tt po c d) (hR : RelR m cash debts c d) {j : Nat} (hj : j < m) : ∀ n, n ≤ m → hs cash debts j n = lN (c j + sN (fun q => d q j) n)
  | 0, _ => by
    obtain ⟨⟨h1, h4, ht⟩, hd50, hrest⟩ := hP
    rw [hs, hR.1 j (by omega)]
    rfl
  | n + 1, hn => by
    have ih := hs_lN hP hR hj n (by omega)
    obtain ⟨⟨h1, h4, ht⟩, hd50, hrest⟩ := hP
    have h50 := hd50 n j (by omega) (by omega)
    rw [hs, ih, hR.2.1 n j (by omega) hj, nI_l (by omega), lN_add, sN, Nat.add_assoc]
theorem hl_zz {k m tt po : Nat} {cash : Nat → Int64} {debts : Nat → Int32} {c : Nat → Nat} {d : Nat → Nat → Nat} (hP : RelP k m tt po c d) (hR : RelR m cash debts c d) {j : Nat} (hj : j < m) : hl m cash debts j = Int64.ofInt (zz c d j) := by
  have hP0 := hP
  obtain ⟨⟨h1, h4, ht⟩, hd50, hdd, hout, hrest⟩ := hP
  have ho := ow_le hP0 (show j < 4 by omega)
  unfold hl zz
  rw [oR_ow hP0 hR hj, nI_l (by omega), hs_lN hP0 hR hj m (Nat.le_refl _), sN_cut h1 h4 (fun q hq hq4 => (hout q hq hq4).2 j (by omega)), lN_ofInt, lN_ofInt, Int64.ofInt_sub, Int64.ofInt_sub]
  show _ = Int64.ofInt _ - Int64.ofInt _ - Int64.ofInt ((fb4 fun q => d q j : Nat) : Int)
  rw [show ((c j + fb4 fun q => d q j : Nat) : Int) = (c j : Int) + ((fb4 fun q => d q j : Nat) : Int) from by omega, Int64.ofInt_add]
  rw [Int64.sub_eq_add_neg, Int64.sub_eq_add_neg, Int64.sub_eq_add_neg, Int64.neg_add, Int64.sub_eq_add_neg, Int64.add_assoc]
theorem o32_le0 {z : Int} (h1 : -27000 ≤ z) (h2 : z ≤ 200) : Int32.ofInt z ≤ 0 ↔ z ≤ 0 := by
  rw [le_I, Int32.toInt_ofInt_of_le (by omega) (by omega)]
  exact Iff.rfl
theorem o64_le {z : Int} (h1 : -27000 ≤ z) (h2 : z ≤ 200) {b : Int64} {B : Int} (hb : b.toInt = B) : Int64.ofInt z ≤ b ↔ z ≤ B := by
  rw [le_J, Int64.toInt_ofInt_of_le (by omega) (by omega), hb]
theorem zb_le {z : Nat → Int} {i j : Nat} : ∀ {n : Nat}, j ≤ n → zb z i j = true → zb z i n = true
  | 0, h, hb => by rw [show j = 0 by omega] at hb; exact hb
  | n + 1, h, hb => by
    by_cases e : j = n + 1
    · rw [← e]; exact hb
    · rw [zb, zb_le (by omega) hb]; rfl
theorem bad_zb {k m tt po : Nat} {coin debt : Nat → Int32} {c : Nat → Nat} {d : Nat → Nat → Nat} (hP : RelP k m tt po c d) (hk : k ≤ 512) (hC : RelC coin debt c d) (i : Nat) : ∀ n, n ≤ 4 → bad (sf coin debt) i n = zb (zz c d) i n
  | 0, _ => rfl
  | n + 1, hn => by
    have hz := zz_le hP hk (show n < 4 by omega)
    rw [bad, zb, bad_zb hP hk hC i n (by omega), sf_zz hP hC (by omega)]
    have e : (¬ Int32.ofInt (zz c d n) ≤ 0) ↔ 0 < zz c d n := by
      rw [o32_le0 hz.1 hz.2]
      omega
    rw [decide_eq_decide.mpr e]
theorem zb_out {k m tt po : Nat} {c : Nat → Nat} {d : Nat → Nat → Nat} (hP : RelP k m tt po c d) {i : Nat} : ∀ n, n ≤ 4 → m ≤ n → zb (zz c d) i n = zb (zz c d) i m
  | 0, h, hm => by rw [show m = 0 by omega]
  | n + 1, h, hm => by
    by_cases e : m = n + 1
    · rw [e]
    · rw [zb, zb_out hP n (by omega) (by omega)]
      have ho := ow_out hP (show m ≤ n by omega) (by omega)
      have : ¬ 0 < zz c d n := by unfold zz; omega
      simp [this]
theorem hbad_iff {k m tt po : Nat} {cash : Nat → Int64} {debts : Nat → Int32} {c : Nat → Nat} {d : Nat → Nat → Nat} (hP : RelP k m tt po c d) (hk : k ≤ 512) (hR : RelR m cash debts c d) {i j : Nat} (hi : i < m) (hj : j < m) : hbad m cash debts i j ↔ (j ≠ i ∧ 0 < zz c d j) := by
  have hm := hP.1.2.1
  have hz := zz_le hP hk (show j < 4 by omega)
  unfold hbad
  rw [hl_zz hP hR hj, o64_le hz.1 hz.2 (B := 0) rfl, o64_le hz.1 hz.2 (B := 1000) rfl, nI_eq (by omega) (by omega)]
  constructor
  · rintro ⟨a, b⟩
    exact ⟨by omega, by omega⟩
  · rintro ⟨a, b⟩
    exact ⟨by omega, Or.inl a⟩
theorem hRR_val {k m tt po : Nat} {cash : Nat → Int64} {debts : Nat → Int32} {c : Nat → Nat} {d : Nat → Nat → Nat} (hP : RelP k m tt po c d) (hk : k ≤ 512) (hR : RelR m cash debts c d) {i : Nat} (hi : i < m) : ∀ (f j : Nat) (l : Int64), j + f = m → zb (zz c d) i j = false →
    hRR m cash debts i f j l = if zb (zz c d) i m = true then (-1) else (if j ≤ i ∧ 0 < zz c d i then Int32.ofInt (zz c d i) else l.toInt32)
  | 0, j, l, e, hb => by
    rw [hRR, show m = j by omega, hb, if_neg (by decide), if_neg (by omega)]
  | f + 1, j, l, e, hb => by
    have hj : j < m := by omega
    rw [hRR]
    by_cases hh : hbad m cash debts i j
    · rw [if_pos hh]
      have h2 := (hbad_iff hP hk hR hi hj).mp hh
      have : zb (zz c d) i (j + 1) = true := by rw [zb, hb]; simp [h2.1, h2.2]
      rw [zb_le (show j + 1 ≤ m by omega) this]
      rfl
    · rw [if_neg hh]
      have h2 : ¬ (j ≠ i ∧ 0 < zz c d j) := fun q => hh ((hbad_iff hP hk hR hi hj).mpr q)
      have hb1 : zb (zz c d) i (j + 1) = false := by
        rw [zb, hb]
        by_cases q : j = i
        · simp [q]
        · have : ¬ 0 < zz c d j := fun z => h2 ⟨q, z⟩
          simp [this]
      rw [hRR_val hP hk hR hi f (j + 1) _ (by omega) hb1]
      have hm := hP.1.2.1
      have hz := zz_le hP hk (show j < 4 by omega)
      by_cases hzb : zb (zz c d) i m = true
      · rw [if_pos hzb, if_pos hzb]
      · rw [if_neg hzb, if_neg hzb]
        by_cases q : j = i
        · subst q
          rw [if_neg (by omega)]
          rw [hl_zz hP hR hj]
          by_cases hpz : 0 < zz c d j
          · rw [if_neg (by rw [o64_le hz.1 hz.2 (B := 0) rfl]; omega), if_pos ⟨Nat.le_refl _, hpz⟩, Int64.toInt32_ofInt]
          · rw [if_pos (by rw [o64_le hz.1 hz.2 (B := 0) rfl]; omega), if_neg (by omega)]
        · have hpz : ¬ 0 < zz c d j := fun z => h2 ⟨q, z⟩
          rw [hl_zz hP hR hj, if_pos (show Int64.ofInt (zz c d j) ≤ 0 by rw [o64_le hz.1 hz.2 (B := 0) rfl]; omega)]
          by_cases q2 : j ≤ i ∧ 0 < zz c d i
          · rw [if_pos q2, if_pos ⟨by omega, q2.2⟩]
          · rw [if_neg q2, if_neg (fun z => q2 ⟨by omega, z.2⟩)]
theorem hv_hN {k m tt po : Nat} {coin debt : Nat → Int32} {cash : Nat → Int64} {debts : Nat → Int32} {c : Nat → Nat} {d : Nat → Nat → Nat} (hP : RelP k m tt po c d) (hk : k ≤ 512) (hC : RelC coin debt c d) (hR : RelR m cash debts c d) {i : Nat} (hi : i < m) : hv m cash debts i = hN coin debt i := by
  have hm := hP.1.2.1
  have hz := zz_le hP hk (show i < 4 by omega)
  unfold hv hN
  rw [hRR_val hP hk hR hi m 0 0 (by omega) rfl, bad_zb hP hk hC i 4 (Nat.le_refl _), zb_out hP 4 (Nat.le_refl _) hm, sf_zz hP hC (show i < 4 by omega)]
  by_cases h : zb (zz c d) i m = true
  · rw [if_pos h, if_pos h]
  · rw [if_neg h, if_neg h]
    have e : (nI 0 < Int32.ofInt (zz c d i)) ↔ 0 < zz c d i := by
      rw [lt_I, Int32.toInt_ofInt_of_le (by omega) (by omega)]
      exact Iff.rfl
    by_cases hp : 0 < zz c d i
    · rw [if_pos ⟨Nat.zero_le _, hp⟩, if_pos (e.mpr hp)]
    · rw [if_neg (fun q => hp q.2), if_neg (fun q => hp (e.mp q))]
      rfl
theorem st_help (Z : ZT) (a : Int32) : StI Z yX3_help cX3_help 2 5 yX4_help cX4_help 2 2 [.int a] := by
  intro k wc wr hk hR
  have hR0 := hR
  obtain ⟨m, tt, po, c, d, coin, debt, fall, shr, mat, rgt, pen, last, below, cash, debts, fallen, rounds, shares, under, table, right, tried, falls, rsize, ro, r, found, hh, hP, hC, hRr, rfl, rfl⟩ := hR
  obtain ⟨⟨h1, h4, ht⟩, hrest⟩ := id hP
  rcases house_cases a h1 h4 with ⟨i, hi, rfl⟩ | ⟨u1, u2⟩
  · exact ⟨hN coin debt i, _, _, M_help hi h4, (hv_hN hP (by omega) hC hRr hi) ▸ R_help hi h4 h1, hR0.up⟩
  · exact ⟨(-101), _, _, M_help_U u1, R_help_U h1 u2, hR0.up⟩
/-- the best house so far, on both sides -/
def bP (coin debt : Nat → Int32) : Option Nat → Int32 × Int32
  | none => (-1, -1)
  | some b => (nI b, hN coin debt b)
theorem bB_bR {k m tt po : Nat} {coin debt : Nat → Int32} {cash : Nat → Int64} {debts : Nat → Int32} {c : Nat → Nat} {d : Nat → Nat → Nat} (hP : RelP k m tt po c d) (hk : k ≤ 512) (hC : RelC coin debt c d) (hR : RelR m cash debts c d) : ∀ n, n ≤ m → bB coin debt n = bP coin debt (bR m cash debts n)
  | 0, _ => rfl
  | n + 1, hn => by
    have hm := hP.1.2.1
    have ih := bB_bR hP hk hC hR n (by omega)
    have e := hv_hN hP hk hC hR (show n < m by omega)
    rw [bB, bR, ih, e]
    cases hb : bR m cash debts n with
    | none =>
      by_cases q : hN coin debt n = (-1)
      · simp [q, bP]
      · rw [if_pos (show bC coin debt (bP coin debt none) n from ⟨q, Or.inl rfl⟩)]
        show _ = bP coin debt (if hN coin debt n = -1 then none else some n)
        rw [if_neg q]
        rfl
    | some b =>
      have hbl := bR_lt hb
      have e2 := hv_hN hP hk hC hR (show b < m by omega)
      have hn1 := nI_nm1 b (by omega)
      by_cases q : hN coin debt n = (-1)
      · simp [q, bP]
      · by_cases q2 : hN coin debt b ≤ hN coin debt n
        · have hbc : ¬ bC coin debt (bP coin debt (some b)) n := fun z => z.2.elim hn1 (fun y => y q2)
          rw [if_neg hbc]
          show _ = bP coin debt (if hN coin debt n = -1 then some b else if hv m cash debts b ≤ hN coin debt n then some b else some n)
          rw [if_neg q, e2, if_pos q2]
        · have hbc : bC coin debt (bP coin debt (some b)) n := ⟨q, Or.inr q2⟩
          rw [if_pos hbc]
          show _ = bP coin debt (if hN coin debt n = -1 then some b else if hv m cash debts b ≤ hN coin debt n then some b else some n)
          rw [if_neg q, e2, if_neg q2]
          rfl
theorem st_best (Z : ZT) : StI Z yX3_best cX3_best 5 5 yX4_best cX4_best 4 2 [] := by
  intro k wc wr hk hR
  have hR0 := hR
  obtain ⟨m, tt, po, c, d, coin, debt, fall, shr, mat, rgt, pen, last, below, cash, debts, fallen, rounds, shares, under, table, right, tried, falls, rsize, ro, r, found, hh, hP, hC, hRr, rfl, rfl⟩ := hR
  obtain ⟨⟨h1, h4, ht⟩, hrest⟩ := id hP
  have e : bv (bR m cash debts m) = (bB coin debt m).1 := by
    rw [bB_bR hP (by omega) hC hRr m (Nat.le_refl _)]
    cases bR m cash debts m <;> rfl
  exact ⟨(bB coin debt m).1, _, _, M_best h4, e ▸ R_best h4, hR0.up⟩
/-! count -/
theorem toInt32_lN {n : Nat} : (lN n).toInt32 = nI n := lN_i n
theorem dC_cnt {coin debt : Nat → Int32} {k m tt po : Nat} {c : Nat → Nat} {d : Nat → Nat → Nat} (hP : RelP k m tt po c d) (hC : RelC coin debt c d) : ∀ n, n ≤ 4 → dC debt n = sN (fun i => if ow d i = 0 then 0 else 1) n
  | 0, _ => rfl
  | n + 1, hn => by
    have ho := ow_le hP (show n < 4 by omega)
    rw [dC, sN, dC_cnt hP hC n (by omega), oB_ow hC (by omega)]
    have e : nI (ow d n) ≤ 0 ↔ ow d n = 0 := by
      rw [i0_eq, nI_leI (by omega) (by decide)]
      omega
    by_cases q : ow d n = 0
    · rw [if_pos (e.mpr q), if_pos q]; rfl
    · rw [if_neg (fun z => q (e.mp z)), if_neg q]
theorem ref_cnt {k m tt po : Nat} {cash : Nat → Int64} {debts : Nat → Int32} {c : Nat → Nat} {d : Nat → Nat → Nat} (hP : RelP k m tt po c d) (hR : RelR m cash debts c d) {i : Nat} (hi : i < m) : (if oR debts m i ≤ 0 then (0 : Int64) else 1) = lN (if ow d i = 0 then 0 else 1) := by
  have hm := hP.1.2.1
  have ho := ow_le hP (show i < 4 by omega)
  rw [oR_ow hP hR hi]
  have e : nI (ow d i) ≤ 0 ↔ ow d i = 0 := by
    rw [i0_eq, nI_leI (by omega) (by decide)]
    omega
  by_cases q : ow d i = 0
  · rw [if_pos (e.mpr q), if_pos q]; rfl
  · rw [if_neg (fun z => q (e.mp z)), if_neg q]; rfl
theorem st_count (Z : ZT) (a : Int32) : StI Z yX3_count cX3_count 2 4 yX4_count cX4_count 5 1 [.int a] := by
  intro k wc wr hk hR
  have hR0 := hR
  obtain ⟨m, tt, po, c, d, coin, debt, fall, shr, mat, rgt, pen, last, below, cash, debts, fallen, rounds, shares, under, table, right, tried, falls, rsize, ro, r, found, hh, hP, hC, hRr, rfl, rfl⟩ := hR
  obtain ⟨⟨h1, h4, ht⟩, hd50, hdd, hout, hcol, hcs, hpo⟩ := id hP
  rcases range_cases a (M := 6) (by decide) with ⟨v, hv, rfl⟩ | h
  · rcases (show v = 0 ∨ v = 1 ∨ v = 2 ∨ v = 3 ∨ v = 4 ∨ v = 5 ∨ v = 6 by omega) with rfl | rfl | rfl | rfl | rfl | rfl | rfl
    · exact ⟨nI m, _, _, M_count_0, R_count_0 h4, hR0.up⟩
    · exact ⟨nI tt, _, _, M_count_1, R_count_1 h4, hR0.up⟩
    · have e : (sJ cash m).toInt32 = sI coin 4 := by
        rw [sJ_N (g := c) (fun j hj => hRr.1 j (by omega)), sI_N (g := c) (fun j hj => hC.1 j hj), sN_cut h1 h4 (fun j hj hj4 => (hout j hj hj4).1), sN4, toInt32_lN]
      exact ⟨sI coin 4, _, _, M_count_2, e ▸ R_count_2 (cash := cash) h4, hR0.up⟩
    · have e : (sJ (fun i => (oR debts m i).toInt64) m).toInt32 = sI (oB debt) 4 := by
        rw [sJ_N (g := ow d) (fun j hj => by rw [oR_ow hP hRr hj, nI_l (by have := ow_le hP (show j < 4 by omega); omega)]), sI_N (g := ow d) (fun j hj => oB_ow hC hj), sN_cut h1 h4 (fun j hj hj4 => (ow_out hP hj hj4).1), sN4, toInt32_lN]
      exact ⟨sI (oB debt) 4, _, _, M_count_3, e ▸ R_count_3 (debts := debts) h4, hR0.up⟩
    · have e : (sJ (fun i => (debts (5 * i + m)).toInt64) m).toInt32 = oT debt 4 := by
        rw [sJ_N (g := fun i => d i 4) (fun j hj => by rw [hRr.2.2 j hj, nI_l (by have := hd50 j 4 (by omega) (by omega); omega)]), oT_tin hC (by omega), sN_cut h1 h4 (fun j hj hj4 => (hout j hj hj4).2 4 (by omega)), toInt32_lN]
        rfl
      exact ⟨oT debt 4, _, _, M_count_4, e ▸ R_count_4 (debts := debts) h4, hR0.up⟩
    · have e : (sJ (fun i => if oR debts m i ≤ 0 then 0 else 1) m).toInt32 = nI (dC debt 4) := by
        rw [sJ_N (g := fun i => if ow d i = 0 then 0 else 1) (fun j hj => ref_cnt hP hRr hj), dC_cnt hP hC 4 (Nat.le_refl _), sN_cut h1 h4 (fun j hj hj4 => by rw [(ow_out hP hj hj4).1]; rfl), sN4, toInt32_lN]
      exact ⟨nI (dC debt 4), _, _, M_count_5, e ▸ R_count_5 (debts := debts) h4, hR0.up⟩
    · exact ⟨nI po, _, _, M_count_6, (toInt32_lN (n := po)) ▸ R_count_6 h4, hR0.up⟩
  · have hne : ∀ v, v ≤ 6 → ¬ a = nI v := by
      intro v hv e
      rw [e] at h
      exact h.elim (nI_pos (by omega)) (nI_nlt hv (by decide))
    refine ⟨(-102), _, _, M_count_O ?_, R_count_O h4 (hne 0 (by omega)) (hne 1 (by omega)) (hne 2 (by omega)) (hne 3 (by omega)) (hne 4 (by omega)) (hne 5 (by omega)) (hne 6 (by omega)) ?_, hR0.up⟩
    · rcases h with h | h
      · exact Or.inl (lt_I.mp h)
      · exact Or.inr (lt_I.mp h)
    · intro q
      rcases h with h | h
      · refine q.1 ?_
        rw [lt_I] at h ⊢
        have e1 : (nI 2).toInt = 2 := rfl
        have e2 : (0 : Int32).toInt = 0 := rfl
        omega
      · refine q.2 ?_
        rw [lt_I] at h ⊢
        have e1 : (nI 5).toInt = 5 := rfl
        have e2 : (nI 6).toInt = 6 := rfl
        omega

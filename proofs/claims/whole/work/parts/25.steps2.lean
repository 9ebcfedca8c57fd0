/-! sums -/
def sN (g : Nat → Nat) : Nat → Nat
  | 0 => 0
  | k + 1 => sN g k + g k
theorem sI_N {f : Nat → Int32} {g : Nat → Nat} : ∀ {n : Nat}, (∀ j, j < n → f j = nI (g j)) → sI f n = nI (sN g n)
  | 0, _ => rfl
  | n + 1, h => by rw [sI, sN, sI_N (fun j hj => h j (by omega)), h n (by omega), nI_add]
theorem sJ_N {f : Nat → Int64} {g : Nat → Nat} : ∀ {n : Nat}, (∀ j, j < n → f j = lN (g j)) → sJ f n = lN (sN g n)
  | 0, _ => rfl
  | n + 1, h => by rw [sJ, sN, sJ_N (fun j hj => h j (by omega)), h n (by omega), lN_add]
theorem sN_cong {f g : Nat → Nat} : ∀ {n : Nat}, (∀ j, j < n → f j = g j) → sN f n = sN g n
  | 0, _ => rfl
  | n + 1, h => by rw [sN, sN, sN_cong (fun j hj => h j (by omega)), h n (by omega)]
theorem sN4 (g : Nat → Nat) : sN g 4 = fb4 g := by simp [sN, fb4]
theorem sN5 (g : Nat → Nat) : sN g 5 = fb5 g := by simp [sN, fb5]
/-- what a house owes; what is owed to it -/
def ow (d : Nat → Nat → Nat) (i : Nat) : Nat := fb5 (d i)
def tin (d : Nat → Nat → Nat) (i : Nat) : Nat := fb4 (fun j => d j i)
theorem oB_ow {coin debt : Nat → Int32} {c : Nat → Nat} {d : Nat → Nat → Nat} (hC : RelC coin debt c d) {i : Nat} (hi : i < 4) : oB debt i = nI (ow d i) := by
  unfold oB
  rw [sI_N (g := d i) (fun j hj => hC.2 i j hi hj), sN5]
  rfl
theorem oT_tin {coin debt : Nat → Int32} {c : Nat → Nat} {d : Nat → Nat → Nat} (hC : RelC coin debt c d) {j : Nat} (hj : j < 5) : oT debt j = nI (tin d j) := by
  unfold oT
  rw [sI_N (g := fun i => d i j) (fun i hi => hC.2 i j hi hj), sN4]
  rfl
theorem sN_cut {m : Nat} (h1 : 1 ≤ m) (h4 : m ≤ 4) {g : Nat → Nat} (hz : ∀ j, m ≤ j → j < 4 → g j = 0) : sN g m = fb4 g := by
  rcases (show m = 1 ∨ m = 2 ∨ m = 3 ∨ m = 4 by omega) with rfl | rfl | rfl | rfl
  · have a := hz 1 (by omega) (by omega)
    have b := hz 2 (by omega) (by omega)
    have e := hz 3 (by omega) (by omega)
    simp [sN, fb4, a, b, e]
  · have b := hz 2 (by omega) (by omega)
    have e := hz 3 (by omega) (by omega)
    simp [sN, fb4, b, e]
  · have e := hz 3 (by omega) (by omega)
    simp [sN, fb4, e]
  · simp [sN, fb4]
theorem oR_ow {k m tt po : Nat} {cash : Nat → Int64} {debts : Nat → Int32} {c : Nat → Nat} {d : Nat → Nat → Nat} (hP : RelP k m tt po c d) (hR : RelR m cash debts c d) {i : Nat} (hi : i < m) : oR debts m i = nI (ow d i) := by
  obtain ⟨⟨h1, h4, ht⟩, hd50, hdd, hout, hcol, hcs, hpo⟩ := hP
  unfold oR
  rw [sI, sI_N (g := d i) (fun j hj => hR.2.1 i j hi hj), hR.2.2 i hi, nI_add, sN_cut h1 h4 (fun j hj hj4 => hcol i j (by omega) hj hj4)]
  rfl
theorem ow_le {k m tt po : Nat} {c : Nat → Nat} {d : Nat → Nat → Nat} (hP : RelP k m tt po c d) {i : Nat} (hi : i < 4) : ow d i ≤ 200 := by
  obtain ⟨-, hd50, hdd, -⟩ := hP
  have a := hd50 i 0 hi (by omega)
  have b := hd50 i 1 hi (by omega)
  have e := hd50 i 2 hi (by omega)
  have f := hd50 i 3 hi (by omega)
  have g := hd50 i 4 hi (by omega)
  have z := hdd i hi
  unfold ow fb5
  rcases (show i = 0 ∨ i = 1 ∨ i = 2 ∨ i = 3 by omega) with rfl | rfl | rfl | rfl <;> omega
theorem tin_le {k m tt po : Nat} {c : Nat → Nat} {d : Nat → Nat → Nat} (hP : RelP k m tt po c d) {j : Nat} (hj : j < 5) : tin d j ≤ 200 := by
  obtain ⟨-, hd50, hdd, -⟩ := hP
  have a := hd50 0 j (by omega) hj
  have b := hd50 1 j (by omega) hj
  have e := hd50 2 j (by omega) hj
  have f := hd50 3 j (by omega) hj
  show d 0 j + d 1 j + d 2 j + d 3 j ≤ 200
  omega
theorem ow_out {k m tt po : Nat} {c : Nat → Nat} {d : Nat → Nat → Nat} (hP : RelP k m tt po c d) {i : Nat} (hm : m ≤ i) (hi : i < 4) : ow d i = 0 ∧ c i = 0 := by
  obtain ⟨-, hd50, hdd, hout, -⟩ := hP
  have h := hout i hm hi
  refine ⟨?_, h.1⟩
  unfold ow fb5
  rw [h.2 0 (by omega), h.2 1 (by omega), h.2 2 (by omega), h.2 3 (by omega), h.2 4 (by omega)]
theorem st_owes (Z : ZT) (a : Int32) : StI Z yX3_owes cX3_owes 2 3 yX4_owes cX4_owes 2 2 [.int a] := by
  intro k wc wr hk hR
  have hR0 := hR
  obtain ⟨m, tt, po, c, d, coin, debt, fall, shr, mat, rgt, pen, last, below, cash, debts, fallen, rounds, shares, under, table, right, tried, falls, rsize, ro, r, found, hh, hP, hC, hRr, rfl, rfl⟩ := hR
  obtain ⟨⟨h1, h4, ht⟩, hrest⟩ := id hP
  rcases house_cases a h1 h4 with ⟨i, hi, rfl⟩ | ⟨u1, u2⟩
  · have e : oR debts m i = oB debt i := by rw [oR_ow hP hRr hi, oB_ow hC (by omega)]
    exact ⟨oB debt i, _, _, M_owes hi h4, e ▸ R_owes hi h4 h1, hR0.up⟩
  · exact ⟨(-101), _, _, M_owes_U u1, R_owes_U h1 u2, hR0.up⟩
theorem nR_sum {debts : Nat → Int32} {m i : Nat} : ∀ n, nR debts m i n = -(oR debts m i) + sI (fun j => debts (5 * j + i)) n
  | 0 => by
    rw [nR, sI, ← i0_eq, Int32.add_zero]
  | n + 1 => by rw [nR, sI, nR_sum n, Int32.add_assoc]
theorem tin_ref {k m tt po : Nat} {cash : Nat → Int64} {debts : Nat → Int32} {c : Nat → Nat} {d : Nat → Nat → Nat} (hP : RelP k m tt po c d) (hR : RelR m cash debts c d) {i : Nat} (hi : i < m) : sI (fun j => debts (5 * j + i)) m = nI (tin d i) := by
  obtain ⟨⟨h1, h4, ht⟩, hd50, hdd, hout, hcol, hcs, hpo⟩ := hP
  rw [sI_N (g := fun j => d j i) (fun j hj => hR.2.1 j i hj hi), sN_cut h1 h4 (fun j hj hj4 => (hout j hj hj4).2 i (by omega))]
  rfl
theorem st_net (Z : ZT) (a : Int32) : StI Z yX3_net cX3_net 2 3 yX4_net cX4_net 4 2 [.int a] := by
  intro k wc wr hk hR
  have hR0 := hR
  obtain ⟨m, tt, po, c, d, coin, debt, fall, shr, mat, rgt, pen, last, below, cash, debts, fallen, rounds, shares, under, table, right, tried, falls, rsize, ro, r, found, hh, hP, hC, hRr, rfl, rfl⟩ := hR
  obtain ⟨⟨h1, h4, ht⟩, hrest⟩ := id hP
  rcases house_cases a h1 h4 with ⟨i, hi, rfl⟩ | ⟨u1, u2⟩
  · have e : nR debts m i m = oT debt i - oB debt i := by
      rw [nR_sum, tin_ref hP hRr hi, oR_ow hP hRr hi, oT_tin hC (by omega), oB_ow hC (by omega), Int32.sub_eq_add_neg, Int32.add_comm]
    exact ⟨oT debt i - oB debt i, _, _, M_net hi h4, e ▸ R_net hi h4 h1, hR0.up⟩
  · exact ⟨(-1000000), _, _, M_net_U u1, R_net_U h1 u2, hR0.up⟩
/-! owe: one debt becomes another -/
def sd (d : Nat → Nat → Nat) (i j v : Nat) : Nat → Nat → Nat := fun a b => if a = i ∧ b = j then v else d a b
theorem dsum_sd {d : Nat → Nat → Nat} {i j v : Nat} (hi : i < 4) (hj : j < 5) : dsum (sd d i j v) + d i j = dsum d + v := by
  rcases (show i = 0 ∨ i = 1 ∨ i = 2 ∨ i = 3 by omega) with rfl | rfl | rfl | rfl <;> rcases (show j = 0 ∨ j = 1 ∨ j = 2 ∨ j = 3 ∨ j = 4 by omega) with rfl | rfl | rfl | rfl | rfl <;>
    simp [dsum, fb4, fb5, sd] <;> omega
theorem cell_eq {i j a b : Nat} (hj : j < 5) (hb : b < 5) : (a * 5 + b = i * 5 + j) ↔ (a = i ∧ b = j) := by omega
theorem st_owe (Z : ZT) (a b v0 : Int32) : StI Z yX3_owe cX3_owe 6 2 yX4_owe cX4_owe 5 2 [.int a, .int b, .int v0] := by
  intro k wc wr hk hR
  have hR0 := hR
  obtain ⟨m, tt, po, c, d, coin, debt, fall, shr, mat, rgt, pen, last, below, cash, debts, fallen, rounds, shares, under, table, right, tried, falls, rsize, ro, r, found, hh, hP, hC, hRr, rfl, rfl⟩ := hR
  obtain ⟨⟨h1, h4, ht⟩, hd50, hdd, hout, hcol, hcs, hpo⟩ := id hP
  rcases house_cases a h1 h4 with ⟨i, hi, rfl⟩ | ⟨u1, u2⟩
  · rcases payee_cases b h4 with ⟨j, hj, rfl⟩ | u3
    · rcases range_cases v0 (M := 50) (by decide) with ⟨v, hv, rfl⟩ | h
      · have g1 : ¬ nI v < 0 := nI_pos (by omega)
        have g2 : ¬ nI 50 < nI v := nI_nlt hv (by decide)
        by_cases hij : i = j
        · exact ⟨(-102), _, _, M_owe_O hi h4 hj (Or.inr (Or.inr hij)), R_owe_S hi h4 h1 hj ⟨g1, g2⟩ hij, hR0.up⟩
        · have hcm : cm m j < 5 := col_lt hj h4
          have hs := dsum_sd (d := d) (v := v) (show i < 4 by omega) hcm
          have hne : ¬ cm m j = i := by unfold cm; split <;> omega
          refine ⟨debt (i * 5 + cm m j), _, _, M_owe hi h4 hj g1 g2 hij, (rel_d hC hRr h4 hi hj) ▸ R_owe (debts := debts) hi h4 h1 hj ⟨g1, g2⟩ hij, Rel.mk (c := c) (d := sd d i (cm m j) v) ⟨⟨h1, h4, ht⟩, ?_, ?_, ?_, ?_, ?_, by omega⟩ ⟨hC.1, ?_⟩ ⟨hRr.1, ?_, ?_⟩⟩
          · intro p q hp hq
            have := hd50 p q hp hq
            unfold sd
            split <;> omega
          · intro p hp
            have := hdd p hp
            unfold sd
            split
            · omega
            · exact this
          · intro p hp hp4
            refine ⟨(hout p hp hp4).1, fun q hq => ?_⟩
            have := (hout p hp hp4).2 q hq
            unfold sd
            split
            · omega
            · exact this
          · intro p q hp hq hq4
            have := hcol p q hp hq hq4
            unfold sd
            split
            · rename_i e
              have : cm m j = q := e.2.symm
              unfold cm at this
              split at this <;> omega
            · exact this
          · intro p hp
            have := hcs p hp
            omega
          · intro p q hp hq
            rw [upd_at]
            unfold sd
            by_cases e : p = i ∧ q = cm m j
            · rw [if_pos e, if_pos ((cell_eq hcm hq).mpr e)]
            · rw [if_neg e, if_neg (fun z => e ((cell_eq hcm hq).mp z))]
              exact hC.2 p q hp hq
          · intro p q hp hq
            rw [upd_at]
            unfold sd
            have hx := hRr.2.1 p q hp hq
            by_cases e : p = i ∧ q = cm m j
            · rw [if_pos e]
              have e2 : q = j := by
                have := e.2
                unfold cm at this
                split at this <;> omega
              rw [if_pos (by omega)]
            · rw [if_neg e, if_neg ?_]
              · exact hx
              · intro z
                have : p = i ∧ q = j := by omega
                refine e ⟨this.1, ?_⟩
                unfold cm
                rw [if_neg (by omega)]
                exact this.2
          · intro p hp
            rw [upd_at]
            unfold sd
            have hx := hRr.2.2 p hp
            by_cases e : p = i ∧ 4 = cm m j
            · rw [if_pos e]
              have e2 : m = j := by
                have := e.2
                unfold cm at this
                split at this <;> omega
              rw [if_pos (by omega)]
            · rw [if_neg e, if_neg ?_]
              · exact hx
              · intro z
                have : p = i ∧ m = j := by omega
                refine e ⟨this.1, ?_⟩
                unfold cm
                rw [if_pos this.2.symm]
      · exact ⟨(-102), _, _, M_owe_O hi h4 hj (h.elim Or.inl (fun q => Or.inr (Or.inl q))), R_owe_O hi h4 h1 hj (fun q => h.elim q.1 q.2), hR0.up⟩
    · exact ⟨(-101), _, _, M_owe_UP hi h4 u3, R_owe_UP hi h4 h1 u3, hR0.up⟩
  · exact ⟨(-101), _, _, M_owe_U u1, R_owe_U h1 u2, hR0.up⟩

/-! rings: the class's table, as the same list -/
abbrev dvP (d : Nat → Nat → Nat) (y : Nat × Nat) : Prop := ∀ j, j < y.1 → ¬ d (cdg y j) (cdg y (nx y.1 j)) = 0
def dvB (d : Nat → Nat → Nat) (y : Nat × Nat) : Bool := decide (dvP d y)
theorem cdg_lt (y : Nat × Nat) (q : Nat) : cdg y q < 4 := Nat.mod_lt _ (by decide)
theorem rgL_sz : ∀ y, y ∈ rgL → 2 ≤ y.1 ∧ y.1 ≤ 4 := by decide
theorem ref_live {k m tt po : Nat} {cash : Nat → Int64} {debts : Nat → Int32} {c : Nat → Nat} {d : Nat → Nat → Nat} (hP : RelP k m tt po c d) (hR : RelR m cash debts c d) : (rgL.filter (hoB m)).filter (lvB debts) = rgL.filter (dvB d) := by
  rw [List.filter_filter]
  refine List.filter_congr (fun y hy => ?_)
  have hs := rgL_sz y hy
  by_cases z : ∀ q, q < y.1 → cdg y q < m
  · have e : hoB m y = true := decide_eq_true z
    rw [e, Bool.and_true]
    unfold lvB dvB
    refine decide_eq_decide.mpr ?_
    have hx : ∀ j, j < y.1 → (¬ debts (5 * cdg y j + cdg y (nx y.1 j)) ≤ 0 ↔ ¬ d (cdg y j) (cdg y (nx y.1 j)) = 0) := by
      intro j hj
      have h5 := hP.2.1 (cdg y j) (cdg y (nx y.1 j)) (cdg_lt _ _) (by have := cdg_lt y (nx y.1 j); omega)
      rw [hR.2.1 _ _ (z j hj) (z _ (nx_lt hj hs.2)), nI_le0 (by omega)]
    exact ⟨fun h j hj => (hx j hj).mp (h j hj), fun h j hj => (hx j hj).mpr (h j hj)⟩
  · have e : hoB m y = false := decide_eq_false z
    rw [e, Bool.and_false]
    refine (decide_eq_false (fun h => z (fun q hq => ?_))).symm
    rcases Nat.lt_or_ge (cdg y q) m with w | w
    · exact w
    · exact absurd ((hP.2.2.2.1 _ w (cdg_lt y q)).2 _ (by have := cdg_lt y (nx y.1 q); omega)) (h q hq)
theorem stp_cnt {w : Int32} : ∀ (l : List (Nat × Nat)) (n : Nat) (o : Option (Nat × Nat)), (l.foldl (stp w) (n, o)).1 = n + l.length
  | [], _, _ => rfl
  | y :: l, n, o => by
    rw [List.foldl_cons, List.length_cons]
    show (l.foldl (stp w) (n + 1, _)).1 = _
    rw [stp_cnt l]
    omega
theorem stp_get {q : Nat} (hq : q < 2 ^ 31) : ∀ (l : List (Nat × Nat)) (n : Nat) (o : Option (Nat × Nat)), n + l.length ≤ 1000 → (l.foldl (stp (nI q)) (n, o)).2 = if n ≤ q then (match l[q - n]? with | some y => some y | none => o) else o
  | [], n, o, _ => by
    by_cases h : n ≤ q
    · rw [if_pos h]; rfl
    · rw [if_neg h]; rfl
  | y :: l, n, o, hl => by
    rw [List.length_cons] at hl
    rw [List.foldl_cons]
    show (l.foldl (stp (nI q)) (n + 1, if nI n = nI q then some y else o)).2 = _
    rw [stp_get hq l _ _ (by omega)]
    by_cases e : n = q
    · subst e
      rw [if_neg (by omega), if_pos rfl, if_pos (Nat.le_refl _), Nat.sub_self]
      rfl
    · rw [if_neg (fun z => e ((nI_eq (by omega) hq).mp z))]
      by_cases h : n ≤ q
      · rw [if_pos (show n + 1 ≤ q by omega), if_pos h, show q - n = (q - (n + 1)) + 1 by omega, List.getElem?_cons_succ]
      · rw [if_neg (show ¬ n + 1 ≤ q by omega), if_neg h]
theorem rgf_len (p : Nat × Nat → Bool) : 0 + (rgL.filter p).length ≤ 1000 := by
  have := List.length_filter_le p rgL
  have : rgL.length = 20 := rfl
  omega
def tlg (j : Nat) : Nat × Nat := rgL.getD j (0, 0)
theorem rgL_drop : ∀ j, j < 20 → rgL.drop j = tlg j :: rgL.drop (j + 1) := by decide
theorem rgL_take : ∀ j, j < 20 → rgL.take (j + 1) = rgL.take j ++ [tlg j] := by decide
theorem tlg_sz : ∀ j, j < 20 → sz (fg j) = (tlg j).1 ∧ 2 ≤ (tlg j).1 ∧ (tlg j).1 ≤ 4 ∧ tl (cdg (tlg j)) (tlg j).1 = fg j := by decide
theorem tlg_ce : ∀ j, j < 20 → ∀ i, i < (tlg j).1 → ce (fg j) i = cdg (tlg j) ((tlg j).1 - 1 - i) * 5 + cdg (tlg j) (nx (tlg j).1 ((tlg j).1 - 1 - i)) := by decide
theorem tlg_ne : ∀ j, j < 20 → ∀ i, i < (tlg j).1 → ∀ q, q < i → ¬ ce (fg j) q = ce (fg j) i := by decide
theorem tlg_ne2 : ∀ j, j < 20 → ∀ i, i < (tlg j).1 → ∀ q, q < i → ¬ 5 * cdg (tlg j) q + cdg (tlg j) (nx (tlg j).1 q) = 5 * cdg (tlg j) i + cdg (tlg j) (nx (tlg j).1 i) := by decide
/-- a ring's debts -/
def rv (d : Nat → Nat → Nat) (y : Nat × Nat) (k : Nat) : Nat := d (cdg y k) (cdg y (nx y.1 k))
def mC (v : Nat → Nat) : Nat → Nat
  | 0 => 50
  | j + 1 => if v j < mC v j then v j else mC v j
def mR (v : Nat → Nat) : Nat → Nat
  | 0 => 0
  | k + 1 => if k = 0 then v 0 else if mR v k ≤ v k then mR v k else v k
theorem mC_le (v : Nat → Nat) : ∀ n, mC v n ≤ 50 ∧ ∀ i, i < n → mC v n ≤ v i
  | 0 => ⟨Nat.le_refl _, fun i hi => by omega⟩
  | n + 1 => by
    have ih := mC_le v n
    rw [mC]
    by_cases h : v n < mC v n
    · rw [if_pos h]
      refine ⟨by omega, fun i hi => ?_⟩
      by_cases e : i = n
      · rw [e]; exact Nat.le_refl _
      · have := ih.2 i (by omega); omega
    · rw [if_neg h]
      refine ⟨ih.1, fun i hi => ?_⟩
      by_cases e : i = n
      · rw [e]; omega
      · exact ih.2 i (by omega)
theorem mC_at (v : Nat → Nat) : ∀ n, mC v n = 50 ∨ ∃ i, i < n ∧ mC v n = v i
  | 0 => Or.inl rfl
  | n + 1 => by
    rw [mC]
    by_cases h : v n < mC v n
    · rw [if_pos h]; exact Or.inr ⟨n, by omega, rfl⟩
    · rw [if_neg h]
      exact (mC_at v n).imp id (fun ⟨i, h1, h2⟩ => ⟨i, by omega, h2⟩)
theorem if_min (a b : Nat) : (if a < b then a else b) = min a b := by split <;> omega
theorem if_min2 (a b : Nat) : (if a ≤ b then a else b) = min a b := by split <;> omega
theorem mC_s (v : Nat → Nat) (j : Nat) : mC v (j + 1) = min (v j) (mC v j) := by rw [mC, if_min]
theorem mR_s (v : Nat → Nat) (k : Nat) : mR v (k + 1 + 1) = min (mR v (k + 1)) (v (k + 1)) := by rw [mR, if_neg (Nat.succ_ne_zero k), if_min2]
theorem mR_1 (v : Nat → Nat) : mR v 1 = v 0 := rfl
theorem mC_mR {v : Nat → Nat} (hv : ∀ i, v i ≤ 50) {z : Nat} (h2 : 2 ≤ z) (h4 : z ≤ 4) : mC (fun i => v (z - 1 - i)) z = mR v z := by
  have a := hv 0
  have b := hv 1
  have e := hv 2
  have f := hv 3
  rcases (show z = 2 ∨ z = 3 ∨ z = 4 by omega) with rfl | rfl | rfl
  · rw [mC_s, mC_s, mR_s, mR_1]
    show min (v 0) (min (v 1) 50) = min (v 0) (v 1)
    omega
  · rw [mC_s, mC_s, mC_s, mR_s, mR_s, mR_1]
    show min (v 0) (min (v 1) (min (v 2) 50)) = min (min (v 0) (v 1)) (v 2)
    omega
  · rw [mC_s, mC_s, mC_s, mC_s, mR_s, mR_s, mR_s, mR_1]
    show min (v 0) (min (v 1) (min (v 2) (min (v 3) 50))) = min (min (min (v 0) (v 1)) (v 2)) (v 3)
    omega
section RC
variable {k m tt po : Nat} {coin debt : Nat → Int32} {c : Nat → Nat} {d : Nat → Nat → Nat}
theorem rv_le (hP : RelP k m tt po c d) (y : Nat × Nat) (i : Nat) : rv d y i ≤ 50 := hP.2.1 _ _ (cdg_lt _ _) (by have := cdg_lt y (nx y.1 i); omega)
theorem lm_mC (hP : RelP k m tt po c d) (hC : RelC coin debt c d) {j : Nat} (hj : j < 20) : ∀ n, n ≤ (tlg j).1 → lm debt (fg j) n = nI (mC (fun i => rv d (tlg j) ((tlg j).1 - 1 - i)) n)
  | 0, _ => rfl
  | n + 1, hn => by
    have h1 := rv_le hP (tlg j) ((tlg j).1 - 1 - n)
    have h2 := (mC_le (fun i => rv d (tlg j) ((tlg j).1 - 1 - i)) n).1
    have hd : debt (ce (fg j) n) = nI (rv d (tlg j) ((tlg j).1 - 1 - n)) := by
      rw [tlg_ce j hj n (by omega)]
      exact hC.2 _ _ (cdg_lt _ _) (by have := cdg_lt (tlg j) (nx (tlg j).1 ((tlg j).1 - 1 - n)); omega)
    rw [lm, mC, lm_mC hP hC hj n (by omega), hd]
    show _ = nI (if rv d (tlg j) ((tlg j).1 - 1 - n) < _ then rv d (tlg j) ((tlg j).1 - 1 - n) else _)
    by_cases h : rv d (tlg j) ((tlg j).1 - 1 - n) < mC (fun i => rv d (tlg j) ((tlg j).1 - 1 - i)) n
    · rw [if_pos (nI_lt h (by omega)), if_pos h]
    · rw [if_neg (nI_nlt (by omega) (by omega)), if_neg h]
/-- the ring's least debt -/
def rl (d : Nat → Nat → Nat) (j : Nat) : Nat := mC (fun i => rv d (tlg j) ((tlg j).1 - 1 - i)) (tlg j).1
theorem lm_rl (hP : RelP k m tt po c d) (hC : RelC coin debt c d) {j : Nat} (hj : j < 20) : lm debt (fg j) (sz (fg j)) = nI (rl d j) := by
  rw [(tlg_sz j hj).1]
  exact lm_mC hP hC hj _ (Nat.le_refl _)
theorem rl_le {j : Nat} : rl d j ≤ 50 ∧ ∀ i, i < (tlg j).1 → rl d j ≤ rv d (tlg j) i := by
  have h := mC_le (fun i => rv d (tlg j) ((tlg j).1 - 1 - i)) (tlg j).1
  refine ⟨h.1, fun i hi => ?_⟩
  have := h.2 ((tlg j).1 - 1 - i) (by omega)
  rw [show (tlg j).1 - 1 - ((tlg j).1 - 1 - i) = i by omega] at this
  exact this
theorem rl_live {j : Nat} (hj : j < 20) : ¬ rl d j = 0 ↔ dvB d (tlg j) = true := by
  unfold dvB
  rw [decide_eq_true_iff]
  constructor
  · intro h i hi y
    have := rl_le (d := d) (j := j) |>.2 i hi
    have e : rv d (tlg j) i = 0 := y
    omega
  · intro h y
    rcases mC_at (fun i => rv d (tlg j) ((tlg j).1 - 1 - i)) (tlg j).1 with z | ⟨i, hi, z⟩
    · have : rl d j = 50 := z
      omega
    · have e : rl d j = rv d (tlg j) ((tlg j).1 - 1 - i) := z
      exact h ((tlg j).1 - 1 - i) (by omega) (by show rv d (tlg j) ((tlg j).1 - 1 - i) = 0; omega)
theorem lm_live (hP : RelP k m tt po c d) (hC : RelC coin debt c d) {j : Nat} (hj : j < 20) : lm debt (fg j) (sz (fg j)) ≤ 0 ↔ ¬ dvB d (tlg j) = true := by
  have := rl_le (d := d) (j := j) |>.1
  rw [lm_rl hP hC hj, nI_le0 (by omega), ← rl_live hj]
  exact Decidable.not_not.symm
theorem hm_len (hP : RelP k m tt po c d) (hC : RelC coin debt c d) : ∀ n, n ≤ 20 → hm debt n = ((rgL.take n).filter (dvB d)).length
  | 0, _ => rfl
  | n + 1, hn => by
    have h := lm_live hP hC (show n < 20 by omega)
    rw [hm, rgL_take n (by omega), List.filter_append, List.length_append, hm_len hP hC n (by omega)]
    by_cases z : dvB d (tlg n) = true
    · rw [if_neg (fun y => h.mp y z), List.filter_cons_of_pos z]
      rfl
    · rw [if_pos (h.mpr z), List.filter_cons_of_neg z]
      rfl
def rgv : Option (Nat × Nat) → Int32
  | none => (-1)
  | some y => nI (tl (cdg y) y.1)
theorem fgo_get (hP : RelP k m tt po c d) (hC : RelC coin debt c d) {q : Nat} (hq : q < 2 ^ 31) : ∀ (n j f : Nat), j + n = 20 → f ≤ j → f ≤ q → fgo debt (nI q) n j f = rgv ((rgL.drop j).filter (dvB d))[q - f]?
  | 0, j, f, e, _, _ => by
    rw [show j = 20 by omega]
    rfl
  | n + 1, j, f, e, hf, hfq => by
    have h := lm_live hP hC (show j < 20 by omega)
    rw [fgo, rgL_drop j (by omega)]
    by_cases z : dvB d (tlg j) = true
    · rw [if_neg (fun y => h.mp y z), List.filter_cons_of_pos z]
      by_cases e2 : f = q
      · rw [if_pos (by rw [e2]), e2, Nat.sub_self]
        show _ = nI (tl (cdg (tlg j)) (tlg j).1)
        rw [(tlg_sz j (by omega)).2.2.2]
      · rw [if_neg (fun y => e2 ((nI_eq (by omega) hq).mp y)), fgo_get hP hC hq n (j + 1) (f + 1) (by omega) (by omega) (by omega), show q - f = (q - (f + 1)) + 1 by omega, List.getElem?_cons_succ]
    · rw [if_pos (h.mpr z), List.filter_cons_of_neg z]
      exact fgo_get hP hC hq n (j + 1) f (by omega) (by omega) hfq
theorem fgo_neg {w : Int32} (hw : w < 0) : ∀ (n j f : Nat), f ≤ j → j + n = 20 → fgo debt w n j f = (-1)
  | 0, _, _, _, _ => rfl
  | n + 1, j, f, hf, e => by
    rw [fgo]
    split
    · exact fgo_neg hw n (j + 1) f (by omega) (by omega)
    · rw [if_neg (show ¬ nI f = w from fun y => nI_pos (show f < 2 ^ 31 by omega) (by rw [y]; exact hw))]
      exact fgo_neg hw n (j + 1) (f + 1) (by omega) (by omega)
theorem frk_get (hP : RelP k m tt po c d) (hC : RelC coin debt c d) : ∀ (n j : Nat), j + n = 20 → ((rgL.drop j).filter (dvB d))[0]? = (frk debt n j).map tlg
  | 0, j, e => by
    rw [show j = 20 by omega]
    rfl
  | n + 1, j, e => by
    have h := lm_live hP hC (show j < 20 by omega)
    rw [frk, rgL_drop j (by omega)]
    by_cases z : dvB d (tlg j) = true
    · rw [if_neg (fun y => h.mp y z), List.filter_cons_of_pos z]
      rfl
    · rw [if_pos (h.mpr z), List.filter_cons_of_neg z]
      exact frk_get hP hC n (j + 1) (by omega)
end RC

/-! rings: the reference's search, as a list -/
def cdg (y : Nat × Nat) (q : Nat) : Nat := lf y.2 (y.1 - 1 - q) % 4
theorem rwf_at {r : Nat → Nat} {c s : Nat} : ∀ t, t ≤ s → ∀ q, s - t ≤ q → q < s → rwf r c s t q = cdg (s, c) q
  | 0, _, q, h1, h2 => by omega
  | t + 1, h, q, h1, h2 => by
    rw [rwf, updN]
    by_cases e : q = s - t - 1
    · rw [if_pos e]
      show _ = lf c (s - 1 - q) % 4
      rw [show s - 1 - q = t by omega]
    · rw [if_neg e]
      exact rwf_at t (by omega) q (by omega) h2
abbrev stb (m s : Nat) (ρ : Nat → Nat) : Prop := ∀ j, j < s → ρ j < m ∧ (j = 0 ∨ ρ 0 < ρ j) ∧ ∀ i, i < j → (i = 0 ∨ ¬ ρ i = ρ j)
abbrev lvb (debts : Nat → Int32) (s : Nat) (ρ : Nat → Nat) : Prop := ∀ j, j < s → ¬ debts (5 * ρ j + ρ (nx s j)) ≤ 0
theorem inn_iff {r : Nat → Nat} {k b : Nat} (hb : b ≤ 1) : ∀ t, inn r k b t = 0 ↔ b = 0 ∨ ∃ i, 1 ≤ i ∧ i ≤ t ∧ nI (r i) = nI (r k)
  | 0 => ⟨Or.inl, fun h => h.elim id (fun ⟨i, h1, h2, _⟩ => by omega)⟩
  | t + 1 => by
    have ih := inn_iff (r := r) (k := k) hb t
    have hl := inn_le (r := r) (k := k) hb t
    have h01 : nI (inn r k b t) = 0 ↔ inn r k b t = 0 := nI_eq (by omega) (by decide)
    rw [inn]
    by_cases z : inn r k b t = 0
    · rw [if_pos (h01.mpr z)]
      refine ⟨fun _ => (ih.mp z).imp id (fun ⟨i, h1, h2, h3⟩ => ⟨i, h1, by omega, h3⟩), fun _ => rfl⟩
    · rw [if_neg (fun y => z (h01.mp y))]
      by_cases e : nI (r (t + 1)) = nI (r k)
      · rw [if_pos e]
        exact ⟨fun _ => Or.inr ⟨t + 1, by omega, Nat.le_refl _, e⟩, fun _ => rfl⟩
      · rw [if_neg e]
        refine ⟨fun h => absurd h (by decide), fun h => ?_⟩
        rcases h with h | ⟨i, h1, h2, h3⟩
        · exact absurd (ih.mpr (Or.inl h)) z
        · by_cases e2 : i = t + 1
          · exact absurd (e2 ▸ h3) e
          · exact absurd (ih.mpr (Or.inr ⟨i, h1, by omega, h3⟩)) z
theorem is0_iff {debts : Nat → Int32} {m : Nat} {r : Nat → Nat} {s k : Nat} : is0 debts m r s k = 0 ↔ nI m ≤ nI (r k) ∨ (¬ nI k = 0 ∧ nI (r k) ≤ nI (r 0)) ∨ debts (5 * r k + r (nx s k)) ≤ 0 := by
  unfold is0
  by_cases a : nI m ≤ nI (r k)
  · simp [a]
  · by_cases b : nI k = 0
    · by_cases e : debts (5 * r k + r (nx s k)) ≤ 0 <;> simp [a, b, e]
    · by_cases f : nI (r k) ≤ nI (r 0)
      · simp [a, b, f]
      · by_cases e : debts (5 * r k + r (nx s k)) ≤ 0 <;> simp [a, b, f, e]
theorem iR_iff {debts : Nat → Int32} {m : Nat} {r : Nat → Nat} {s : Nat} : ∀ (f k b : Nat), b ≤ 1 → (iR debts m r s f k b = 0 ↔ b = 0 ∨ ∃ j, k ≤ j ∧ j < k + f ∧ inn r j (is0 debts m r s j) (j - 1) = 0)
  | 0, k, b, hb => ⟨Or.inl, fun h => h.elim id (fun ⟨j, h1, h2, _⟩ => by omega)⟩
  | f + 1, k, b, hb => by
    have h01 : nI b = 0 ↔ b = 0 := nI_eq (by omega) (by decide)
    rw [iR]
    by_cases z : b = 0
    · rw [if_pos (h01.mpr z)]
      exact ⟨fun h => Or.inl h, fun _ => z⟩
    · rw [if_neg (fun y => z (h01.mp y)), iR_iff f (k + 1) _ (inn_le is0_le _)]
      constructor
      · rintro (h | ⟨j, h1, h2, h3⟩)
        · exact Or.inr ⟨k, Nat.le_refl _, by omega, h⟩
        · exact Or.inr ⟨j, by omega, by omega, h3⟩
      · rintro (h | ⟨j, h1, h2, h3⟩)
        · exact absurd h z
        · by_cases e : j = k
          · exact Or.inl (e ▸ h3)
          · exact Or.inr ⟨j, by omega, by omega, h3⟩
theorem iR_good {debts : Nat → Int32} {m : Nat} {r : Nat → Nat} {s : Nat} (hm : m ≤ 4) (hs : s ≤ 4) (hr : ∀ q, q < s → r q < 4) : iR debts m r s s 0 1 = 0 ↔ ¬ (stb m s r ∧ lvb debts s r) := by
  rw [iR_iff s 0 1 (Nat.le_refl _)]
  constructor
  · rintro (h | ⟨j, h1, h2, h3⟩) ⟨g1, g2⟩
    · exact absurd h (by decide)
    · have hj : j < s := by omega
      have a := g1 j hj
      have b := g2 j hj
      rcases (inn_iff is0_le _).mp h3 with h | ⟨i, i1, i2, i3⟩
      · rcases is0_iff.mp h with h | ⟨h, h'⟩ | h
        · have := (nI_leI (by omega) (by have := hr j hj; omega)).mp h
          omega
        · have h0 : ¬ j = 0 := fun y => h (by rw [y]; rfl)
          have := (nI_leI (by have := hr j hj; omega) (by have := hr 0 (by omega); omega)).mp h'
          rcases a.2.1 with y | y <;> omega
        · exact b h
      · have hne := (nI_eq (by have := hr i (by omega); omega) (by have := hr j hj; omega)).mp i3
        rcases a.2.2 i (by omega) with y | y
        · omega
        · exact y hne
  · intro h
    refine Or.inr ?_
    apply Classical.byContradiction
    intro hn
    have hall : ∀ j, j < s → ¬ inn r j (is0 debts m r s j) (j - 1) = 0 := fun j hj y => hn ⟨j, Nat.zero_le _, by omega, y⟩
    refine h ⟨fun j hj => ?_, fun j hj => ?_⟩
    · have a := hall j hj
      rw [inn_iff is0_le] at a
      have a1 : ¬ is0 debts m r s j = 0 := fun y => a (Or.inl y)
      rw [is0_iff] at a1
      refine ⟨?_, ?_, fun i hi => ?_⟩
      · rcases Nat.lt_or_ge (r j) m with y | y
        · exact y
        · exact absurd (Or.inl (nI_le y (by have := hr j hj; omega))) a1
      · by_cases z : j = 0
        · exact Or.inl z
        · refine Or.inr ?_
          rcases Nat.lt_or_ge (r 0) (r j) with y | y
          · exact y
          · exact absurd (Or.inr (Or.inl ⟨fun w => z ((nI_eq (by omega) (by decide)).mp w), nI_le y (by have := hr 0 (by omega); omega)⟩)) a1
      · by_cases z : i = 0
        · exact Or.inl z
        · exact Or.inr (fun y => a (Or.inr ⟨i, by omega, by omega, by rw [y]⟩))
    · have a := hall j hj
      rw [inn_iff is0_le] at a
      exact fun y => a (Or.inl (is0_iff.mpr (Or.inr (Or.inr y))))
theorem stb_cong {m s : Nat} {r q : Nat → Nat} (h : ∀ i, i < s → r i = q i) : stb m s r ↔ stb m s q := by
  constructor
  · intro a j hj
    have := a j hj
    refine ⟨by rw [← h j hj]; exact this.1, by rw [← h j hj, ← h 0 (by omega)]; exact this.2.1, fun i hi => by rw [← h j hj, ← h i (by omega)]; exact this.2.2 i hi⟩
  · intro a j hj
    have := a j hj
    refine ⟨by rw [h j hj]; exact this.1, by rw [h j hj, h 0 (by omega)]; exact this.2.1, fun i hi => by rw [h j hj, h i (by omega)]; exact this.2.2 i hi⟩
theorem lvb_cong {debts : Nat → Int32} {s : Nat} (hs : s ≤ 4) {r q : Nat → Nat} (h : ∀ i, i < s → r i = q i) : lvb debts s r ↔ lvb debts s q := by
  constructor
  · intro a j hj
    have := a j hj
    rw [← h j hj, ← h _ (nx_lt hj hs)]
    exact this
  · intro a j hj
    have := a j hj
    rw [h j hj, h _ (nx_lt hj hs)]
    exact this
def stB (m : Nat) (y : Nat × Nat) : Bool := decide (stb m y.1 (cdg y))
def lvB (debts : Nat → Int32) (y : Nat × Nat) : Bool := decide (lvb debts y.1 (cdg y))
def stp (w : Int32) (a : Nat × Option (Nat × Nat)) (y : Nat × Nat) : Nat × Option (Nat × Nat) := (a.1 + 1, if nI a.1 = w then some y else a.2)
def stF (debts : Nat → Int32) (m : Nat) (w : Int32) (a : Nat × Option (Nat × Nat)) (y : Nat × Nat) : Nat × Option (Nat × Nat) := if (lvB debts y && stB m y) = true then stp w a y else a
/-- the search's state stands for a count and a ring -/
def rX (x : skT) (a : Nat × Option (Nat × Nat)) : Prop := x.1 = a.1 ∧ (a.2 = none → x.2.1 = 0) ∧ ∀ y, a.2 = some y → x.2.1 = y.1 ∧ ∀ q, q < y.1 → x.2.2.1 q = cdg y q
theorem skS_rX {debts : Nat → Int32} {m s c : Nat} {w : Int32} {x : skT} {a : Nat × Option (Nat × Nat)} (hm : m ≤ 4) (hs : s ≤ 4) (h : rX x a) : rX (skS debts m w s c x) (stF debts m w a (s, c)) := by
  have hρ : ∀ q, q < s → rwf x.2.2.2 c s s q = cdg (s, c) q := fun q hq => rwf_at s (Nat.le_refl _) q (by omega) hq
  have hi := iR_good (debts := debts) (r := rwf x.2.2.2 c s s) hm hs (fun q hq => rwf_lt s (Nat.le_refl _) q (by omega) hq)
  have hl : iR debts m (rwf x.2.2.2 c s s) s s 0 1 ≤ 1 := iR_le (Nat.le_refl _)
  have h01 : nI (iR debts m (rwf x.2.2.2 c s s) s s 0 1) = 0 ↔ iR debts m (rwf x.2.2.2 c s s) s s 0 1 = 0 := nI_eq (by omega) (by decide)
  rw [stb_cong hρ, lvb_cong hs hρ] at hi
  have hb : (lvB debts (s, c) && stB m (s, c)) = true ↔ stb m s (cdg (s, c)) ∧ lvb debts s (cdg (s, c)) := by
    unfold lvB stB
    rw [Bool.and_eq_true, decide_eq_true_iff, decide_eq_true_iff]
    exact And.comm
  unfold skS stF
  by_cases z : stb m s (cdg (s, c)) ∧ lvb debts s (cdg (s, c))
  · rw [if_neg (fun y => hi.mp (h01.mp y) z), if_pos (hb.mpr z)]
    unfold stp
    rw [← h.1]
    by_cases e : nI x.1 = w
    · rw [if_pos e, if_pos e]
      refine ⟨rfl, fun y => absurd y (by simp), fun y hy => ?_⟩
      have hy2 : (s, c) = y := Option.some.inj hy
      subst hy2
      exact ⟨rfl, fun q hq => (cpf_in hq).trans (hρ q hq)⟩
    · rw [if_neg e, if_neg e]
      exact ⟨rfl, h.2.1, h.2.2⟩
  · rw [if_pos (h01.mpr (hi.mpr z)), if_neg (fun y => z (hb.mp y))]
    exact ⟨h.1, h.2.1, h.2.2⟩
def cods : Nat → List (Nat × Nat)
  | 0 => []
  | i + 1 => cods i ++ (List.range (aln (i + 2))).map (fun c => (i + 2, c))
theorem skC_rX {debts : Nat → Int32} {m s : Nat} {w : Int32} {x : skT} {a : Nat × Option (Nat × Nat)} (hm : m ≤ 4) (hs : s ≤ 4) (h : rX x a) : ∀ n, rX (skC debts m w s n x) (((List.range n).map (fun c => (s, c))).foldl (stF debts m w) a)
  | 0 => h
  | n + 1 => by
    rw [skC, List.range_succ, List.map_append, List.foldl_append]
    exact skS_rX hm hs (skC_rX hm hs h n)
theorem skO_rX {debts : Nat → Int32} {m : Nat} {w : Int32} {x : skT} {a : Nat × Option (Nat × Nat)} (hm : m ≤ 4) (h : rX x a) : ∀ i, i ≤ 3 → rX (skO debts m w x i) ((cods i).foldl (stF debts m w) a)
  | 0, _ => h
  | i + 1, hi => by
    rw [skO, cods, List.foldl_append]
    exact skC_rX hm (by omega) (skO_rX hm h i (by omega)) _
/-- the rings, in the class's order -/
def rgL : List (Nat × Nat) := [(2, 1), (2, 2), (2, 3), (2, 6), (2, 7), (2, 11), (3, 6), (3, 7), (3, 9), (3, 11), (3, 13), (3, 14), (3, 27), (3, 30), (4, 27), (4, 30), (4, 39), (4, 45), (4, 54), (4, 57)]
def hoB (m : Nat) (y : Nat × Nat) : Bool := decide (∀ q, q < y.1 → cdg y q < m)
set_option maxRecDepth 100000 in
theorem cods_1 : (cods 0).filter (stB 1) = rgL.filter (hoB 1) := by decide
set_option maxRecDepth 100000 in
theorem cods_2 : (cods 1).filter (stB 2) = rgL.filter (hoB 2) := by decide
set_option maxRecDepth 100000 in
theorem cods_3 : (cods 2).filter (stB 3) = rgL.filter (hoB 3) := by decide
set_option maxRecDepth 100000 in
theorem cods_4 : (cods 3).filter (stB 4) = rgL.filter (hoB 4) := by decide
theorem cods_m {m : Nat} (h1 : 1 ≤ m) (h4 : m ≤ 4) : (cods (m - 1)).filter (stB m) = rgL.filter (hoB m) := by
  rcases (show m = 1 ∨ m = 2 ∨ m = 3 ∨ m = 4 by omega) with rfl | rfl | rfl | rfl
  · exact cods_1
  · exact cods_2
  · exact cods_3
  · exact cods_4
theorem skF_rX {debts : Nat → Int32} {m : Nat} {w : Int32} {ro r : Nat → Nat} (h1 : 1 ≤ m) (h4 : m ≤ 4) : rX (skF debts m w ro r) (((rgL.filter (hoB m)).filter (lvB debts)).foldl (stp w) (0, none)) := by
  have h := skO_rX (debts := debts) (m := m) (w := w) (x := (0, 0, ro, r)) (a := (0, none)) h4 ⟨rfl, fun _ => rfl, fun y hy => absurd hy (by simp)⟩ (m - 1) (by omega)
  rw [← cods_m h1 h4, List.filter_filter, List.foldl_filter]
  exact h

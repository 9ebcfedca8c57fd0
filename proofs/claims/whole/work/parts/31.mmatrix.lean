/-! four equations: cofactors, and when all of them stay at least 0 -/
def s4 (g : Nat → Int) : Int := g 0 + g 1 + g 2 + g 3
def d3 (f : Nat → Nat → Int) : Int := f 0 0 * (f 1 1 * f 2 2 - f 1 2 * f 2 1) - f 0 1 * (f 1 0 * f 2 2 - f 1 2 * f 2 0) + f 0 2 * (f 1 0 * f 2 1 - f 1 1 * f 2 0)
def sk (r i : Nat) : Nat := if i < r then i else i + 1
def cf (e : Nat → Nat → Int) (r c : Nat) : Int := if (r + c) % 2 = 0 then d3 (fun i j => e (sk r i) (sk c j)) else -(d3 (fun i j => e (sk r i) (sk c j)))
theorem lt4_cases {p : Nat} (h : p < 4) : p = 0 ∨ p = 1 ∨ p = 2 ∨ p = 3 := by omega
theorem s4_cong {f g : Nat → Int} (h : ∀ i, i < 4 → f i = g i) : s4 f = s4 g := by
  unfold s4
  rw [h 0 (by omega), h 1 (by omega), h 2 (by omega), h 3 (by omega)]
theorem s4_assoc (A B : Nat → Int) (E : Nat → Nat → Int) : s4 (fun r => s4 (fun j => A j * E j r) * B r) = s4 (fun j => A j * s4 (fun r => E j r * B r)) := by
  simp only [s4]
  grind
theorem s4_one {g : Nat → Int} {i : Nat} (hi : i < 4) (x : Int) (h : ∀ j, j < 4 → g j = if i = j then x else 0) : s4 g = x := by
  rw [s4_cong h]
  unfold s4
  rcases lt4_cases hi with rfl | rfl | rfl | rfl <;> simp
theorem d3_cong {e f : Nat → Nat → Int} (h : ∀ i j, i < 3 → j < 3 → e i j = f i j) : d3 e = d3 f := by
  unfold d3
  rw [h 0 0 (by omega) (by omega), h 0 1 (by omega) (by omega), h 0 2 (by omega) (by omega), h 1 0 (by omega) (by omega), h 1 1 (by omega) (by omega), h 1 2 (by omega) (by omega), h 2 0 (by omega) (by omega), h 2 1 (by omega) (by omega), h 2 2 (by omega) (by omega)]
/-- a row's cofactors do not look at the row -/
theorem cf_row {e f : Nat → Nat → Int} {r c : Nat} (hr : r < 4) (hc : c < 4) (h : ∀ i j, i < 4 → j < 4 → i ≠ r → e i j = f i j) : cf e r c = cf f r c := by
  unfold cf
  rw [d3_cong (f := fun i j => f (sk r i) (sk c j)) (fun i j hi hj => h _ _ (by unfold sk; split <;> omega) (by unfold sk; split <;> omega) (by unfold sk; split <;> omega))]
/-- a column's cofactors do not look at the column -/
theorem cf_col {e f : Nat → Nat → Int} {r c : Nat} (hr : r < 4) (hc : c < 4) (h : ∀ i j, i < 4 → j < 4 → j ≠ c → e i j = f i j) : cf e r c = cf f r c := by
  unfold cf
  rw [d3_cong (f := fun i j => f (sk r i) (sk c j)) (fun i j hi hj => h _ _ (by unfold sk; split <;> omega) (by unfold sk; split <;> omega) (by unfold sk; split <;> omega))]
set_option maxHeartbeats 4000000 in
theorem cf_rows (e : Nat → Nat → Int) {p q : Nat} (hp : p < 4) (hq : q < 4) : s4 (fun j => e p j * cf e q j) = if p = q then mdt e else 0 := by
  rcases lt4_cases hp with rfl | rfl | rfl | rfl <;> rcases lt4_cases hq with rfl | rfl | rfl | rfl <;> simp [s4, cf, d3, sk, mdt] <;> grind
set_option maxHeartbeats 4000000 in
theorem cf_cols (e : Nat → Nat → Int) {p q : Nat} (hp : p < 4) (hq : q < 4) : s4 (fun j => cf e j p * e j q) = if p = q then mdt e else 0 := by
  rcases lt4_cases hp with rfl | rfl | rfl | rfl <;> rcases lt4_cases hq with rfl | rfl | rfl | rfl <;> simp [s4, cf, d3, sk, mdt] <;> grind
theorem pos_of_mul {t x : Int} (hx : 0 ≤ x) (h : 0 < t * x) : 0 < t := by
  rcases Int.lt_or_le 0 t with z | z
  · exact z
  · have : t * x ≤ 0 := Int.mul_nonpos_of_nonpos_of_nonneg z hx
    omega
theorem nneg_of_mul {b x : Int} (hb : 0 < b) (h : 0 ≤ b * x) : 0 ≤ x := by
  rcases Int.lt_or_le x 0 with z | z
  · have := Int.mul_neg_of_pos_of_neg hb z
    omega
  · exact z
theorem s4_nneg {g : Nat → Int} (h : ∀ i, i < 4 → 0 ≤ g i) : 0 ≤ s4 g := by
  have := h 0 (by omega)
  have := h 1 (by omega)
  have := h 2 (by omega)
  have := h 3 (by omega)
  unfold s4
  omega
theorem s4_npos {g : Nat → Int} (h : ∀ i, i < 4 → g i ≤ 0) : s4 g ≤ 0 := by
  have := h 0 (by omega)
  have := h 1 (by omega)
  have := h 2 (by omega)
  have := h 3 (by omega)
  unfold s4
  omega
theorem s4_le_at {g : Nat → Int} {i : Nat} (hi : i < 4) (h : ∀ j, j < 4 → j ≠ i → g j ≤ 0) : s4 g ≤ g i := by
  unfold s4
  rcases lt4_cases hi with rfl | rfl | rfl | rfl
  · have := h 1 (by omega) (by omega)
    have := h 2 (by omega) (by omega)
    have := h 3 (by omega) (by omega)
    omega
  · have := h 0 (by omega) (by omega)
    have := h 2 (by omega) (by omega)
    have := h 3 (by omega) (by omega)
    omega
  · have := h 0 (by omega) (by omega)
    have := h 1 (by omega) (by omega)
    have := h 3 (by omega) (by omega)
    omega
  · have := h 0 (by omega) (by omega)
    have := h 1 (by omega) (by omega)
    have := h 2 (by omega) (by omega)
    omega
/-- a bare row i becomes a: the determinant stays above 0, the cofactors at least 0 -/
theorem zstep {e e' : Nat → Nat → Int} {i : Nat} {a s : Nat → Int} (hi : i < 4) (hrow : ∀ j, j < 4 → e i j = if i = j then 1 else 0) (hb : 0 < mdt e) (hN : ∀ p q, p < 4 → q < 4 → 0 ≤ cf e q p) (ha : ∀ j, j < 4 → j ≠ i → a j ≤ 0) (he : ∀ p j, p < 4 → j < 4 → e' p j = if p = i then a j else e p j)
    (hq : ∀ p, p < 4 → 0 ≤ s4 (fun j => e p j * s j)) (has : 0 < s4 (fun j => a j * s j)) : 0 < mdt e' ∧ ∀ p q, p < 4 → q < 4 → 0 ≤ cf e' q p := by
  have hNi : ∀ q, q < 4 → cf e q i = if i = q then mdt e else 0 := by
    intro q hq4
    have h1 := cf_rows e hi hq4
    rw [s4_one (g := fun j => e i j * cf e q j) hi (cf e q i) (fun j hj => by
      rw [hrow j hj]
      by_cases z : i = j
      · rw [if_pos z, if_pos z, Int.one_mul, ← z]
      · rw [if_neg z, if_neg z, Int.zero_mul])] at h1
    exact h1
  have hsame : ∀ p, p < 4 → cf e' i p = cf e i p := fun p hp => cf_row hi hp (fun x y hx hy hne => by rw [he x y hx hy, if_neg hne])
  have hv : ∀ q, q < 4 → q ≠ i → s4 (fun j => a j * cf e q j) ≤ 0 := by
    intro q hq4 hne
    refine s4_npos (fun j hj => ?_)
    by_cases z : j = i
    · rw [z, hNi q hq4, if_neg (fun y => hne y.symm), Int.mul_zero]
      exact Int.le_refl _
    · exact Int.mul_nonpos_of_nonpos_of_nonneg (ha j hj z) (hN j q hj hq4)
  have ht : s4 (fun j => a j * cf e i j) = mdt e' := by
    have h1 := cf_rows e' hi hi
    rw [if_pos rfl] at h1
    rw [← h1]
    exact s4_cong (fun j hj => by rw [he i j hi hj, if_pos rfl, hsame j hj])
  have hmain : s4 (fun q => s4 (fun j => a j * cf e q j) * s4 (fun r => e q r * s r)) = mdt e * s4 (fun r => a r * s r) := by
    rw [← s4_assoc (fun q => s4 (fun j => a j * cf e q j)) s e]
    rw [s4_cong (g := fun r => mdt e * (a r * s r)) (fun r hr => by
      show s4 (fun q => s4 (fun j => a j * cf e q j) * e q r) * s r = _
      rw [s4_assoc a (fun q => e q r) (fun j q => cf e q j)]
      rw [s4_one (i := r) hr (a r * mdt e) (fun j hj => by
        show a j * s4 (fun q => cf e q j * e q r) = _
        rw [cf_cols e hj hr]
        by_cases z : r = j
        · rw [if_pos z, if_pos z.symm, z]
        · rw [if_neg z, if_neg (fun y => z y.symm), Int.mul_zero])]
      rw [Int.mul_comm (a r), Int.mul_assoc])]
    simp only [s4, Int.mul_add]
  have htpos : 0 < mdt e' := by
    have h1 : 0 < mdt e * s4 (fun r => a r * s r) := Int.mul_pos hb has
    rw [← hmain] at h1
    have h2 := s4_le_at (g := fun q => s4 (fun j => a j * cf e q j) * s4 (fun r => e q r * s r)) hi (fun q hq4 hne => Int.mul_nonpos_of_nonpos_of_nonneg (hv q hq4 hne) (hq q hq4))
    have h3 : 0 < s4 (fun j => a j * cf e i j) * s4 (fun r => e i r * s r) := Int.lt_of_lt_of_le h1 h2
    rw [ht] at h3
    exact pos_of_mul (hq i hi) h3
  refine ⟨htpos, fun p q hp hq4 => ?_⟩
  by_cases z : q = i
  · rw [z, hsame p hp]
    exact hN p i hp hi
  · have h1 : s4 (fun r => s4 (fun j => cf e' j p * e' j r) * cf e q r) = mdt e' * cf e q p := s4_one (i := p) hp _ (fun r hr => by
      show s4 (fun j => cf e' j p * e' j r) * cf e q r = _
      rw [cf_cols e' hp hr]
      by_cases y : p = r
      · rw [if_pos y, if_pos y, y]
      · rw [if_neg y, if_neg y, Int.zero_mul])
    rw [s4_assoc (fun j => cf e' j p) (fun r => cf e q r) e'] at h1
    have h2 : s4 (fun j => cf e' j p * s4 (fun r => e' j r * cf e q r)) = s4 (fun j => (if i = j then cf e' i p * s4 (fun r => a r * cf e q r) else 0) + (if q = j then cf e' q p * mdt e else 0)) := s4_cong (fun j hj => by
      by_cases y : i = j
      · subst y
        rw [if_pos rfl, if_neg z, Int.add_zero, s4_cong (f := fun r => e' i r * cf e q r) (g := fun r => a r * cf e q r) (fun r hr => by rw [he i r hi hr, if_pos rfl])]
      · rw [if_neg y, Int.zero_add, s4_cong (f := fun r => e' j r * cf e q r) (g := fun r => e j r * cf e q r) (fun r hr => by rw [he j r hj hr, if_neg (fun w => y w.symm)]), cf_rows e hj hq4]
        by_cases x : q = j
        · rw [if_pos x, if_pos x.symm, x]
        · rw [if_neg x, if_neg (fun w => x w.symm), Int.mul_zero])
    have h3 : s4 (fun j => (if i = j then cf e' i p * s4 (fun r => a r * cf e q r) else 0) + (if q = j then cf e' q p * mdt e else 0)) = s4 (fun j => if i = j then cf e' i p * s4 (fun r => a r * cf e q r) else 0) + s4 (fun j => if q = j then cf e' q p * mdt e else 0) := by
      simp only [s4]
      omega
    rw [h2, h3, s4_one (g := fun j => if i = j then cf e' i p * s4 (fun r => a r * cf e q r) else 0) hi _ (fun _ _ => rfl), s4_one (g := fun j => if q = j then cf e' q p * mdt e else 0) hq4 _ (fun _ _ => rfl)] at h1
    have h4 : 0 ≤ mdt e' * cf e q p := Int.mul_nonneg (Int.le_of_lt htpos) (hN p q hp hq4)
    have h5 : cf e' i p * s4 (fun r => a r * cf e q r) ≤ 0 := by
      rw [hsame p hp]
      exact Int.mul_nonpos_of_nonneg_of_nonpos (hN p i hp hi) (hv q hq4 z)
    refine nneg_of_mul hb ?_
    rw [Int.mul_comm]
    omega

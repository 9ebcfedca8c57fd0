/-! the greatest common divisor, on both sides -/
theorem jrem_of {x y : Int} (hx : 0 ≤ x) (hx2 : x ≤ 9223372036854775807) (hy : 0 < y) (hy2 : y ≤ 9223372036854775807) : jrem (Int64.ofInt x) (Int64.ofInt y) = Int64.ofInt (x % y) := by
  have h1 : (-9223372036854775808 : Int) ≤ x := by omega
  have h2 : (-9223372036854775808 : Int) ≤ y := by omega
  unfold jrem
  rw [← Int64.ofInt_tdiv h1 hx2 h2 hy2, ← Int64.ofInt_mul, ← Int64.ofInt_sub, Int.tdiv_eq_ediv_of_nonneg hx]
  congr 1
  have h3 := Int.mul_ediv_add_emod x y
  rw [Int.mul_comm y] at h3
  omega
theorem o64_0 {y : Int} (h0 : 0 ≤ y) (h1 : y ≤ 9223372036854775807) : Int64.ofInt y = 0 ↔ y = 0 := by
  constructor
  · intro h
    have h2 := congrArg Int64.toInt h
    rw [Int64.toInt_ofInt_of_le (by omega) (by omega)] at h2
    exact h2
  · intro h
    rw [h]
    rfl
theorem half_mod {x y : Int} (hx : 0 < x) (hy : 0 ≤ y) (h : x ≤ y) : 2 * (y % x) < y ∨ y % x = 0 := by
  have h1 := Int.emod_lt_of_pos y hx
  have h2 := Int.emod_nonneg y (show x ≠ 0 by omega)
  have h3 := Int.mul_ediv_add_emod y x
  have h4 : 1 ≤ y / x := Int.le_ediv_of_mul_le hx (by omega)
  have h5 : x * 1 ≤ x * (y / x) := Int.mul_le_mul_of_nonneg_left h4 (by omega)
  generalize x * (y / x) = q at *
  omega
theorem cmn_some : ∀ (n : Nat) (x y : Int), 0 ≤ x → x ≤ 9223372036854775807 → 0 ≤ y → y ≤ 9223372036854775807 → y < (2 : Int) ^ n → 0 < x ∨ 0 < y → ∃ g : Int, 0 < g ∧ g ≤ 9223372036854775807 ∧ cmn (2 * n + 2) (Int64.ofInt x) (Int64.ofInt y) = some (Int64.ofInt g)
  | 0, x, y, hx, hx2, hy, hy2, h, hp => by
    have e : y = 0 := by
      have : (2 : Int) ^ 0 = 1 := rfl
      omega
    refine ⟨x, by omega, hx2, ?_⟩
    rw [cmn, if_pos ((o64_0 hy hy2).mpr e)]
  | n + 1, x, y, hx, hx2, hy, hy2, h, hp => by
    by_cases e : y = 0
    · refine ⟨x, by omega, hx2, ?_⟩
      rw [show 2 * (n + 1) + 2 = (2 * n + 3) + 1 by omega, cmn, if_pos ((o64_0 hy hy2).mpr e)]
    · have hy0 : 0 < y := by omega
      have h1 := Int.emod_lt_of_pos x hy0
      have h2 := Int.emod_nonneg x (show y ≠ 0 by omega)
      rw [show 2 * (n + 1) + 2 = (2 * n + 2) + 1 + 1 by omega, cmn, if_neg (fun z => e ((o64_0 hy hy2).mp z)), jrem_of hx hx2 hy0 hy2]
      by_cases e2 : x % y = 0
      · refine ⟨y, hy0, hy2, ?_⟩
        rw [cmn, if_pos ((o64_0 h2 (by omega)).mpr e2)]
      · have hz : 0 < x % y := by omega
        have h3 := half_mod hz hy (by omega)
        have h4 := Int.emod_lt_of_pos y hz
        have h5 := Int.emod_nonneg y (show x % y ≠ 0 by omega)
        have h6 : (2 : Int) ^ (n + 1) = 2 ^ n * 2 := Int.pow_succ ..
        have h7 : (0 : Int) < 2 ^ n := Int.pow_pos (by decide)
        obtain ⟨g, a1, a2, a3⟩ := cmn_some n (x % y) (y % (x % y)) h2 (by omega) h5 (by omega) (by omega) (Or.inl hz)
        refine ⟨g, a1, a2, ?_⟩
        rw [cmn, if_neg (fun z => e2 ((o64_0 h2 (by omega)).mp z)), jrem_of hy hy2 hz (by omega)]
        exact a3
theorem cmn_cdv : ∀ (k : Nat) (x y g : Int64), cmn k x y = some g → ∀ j, k ≤ j → cdv j x y = g
  | 0, x, y, g, h, j, hj => by rw [cmn] at h; exact absurd h (by simp)
  | k + 1, x, y, g, h, 0, hj => by omega
  | k + 1, x, y, g, h, j + 1, hj => by
    rw [cmn] at h
    rw [cdv]
    by_cases e : y = 0
    · rw [if_pos e] at h ⊢
      exact Option.some.inj h
    · rw [if_neg e] at h ⊢
      exact cmn_cdv k _ _ g h j (by omega)
theorem labs_nn {x : Int} (h0 : 0 ≤ x) (h1 : x ≤ 9223372036854775807) : labs (Int64.ofInt x) = Int64.ofInt x := by
  unfold labs
  by_cases e : x = 0
  · rw [e]; rfl
  · rw [if_pos]
    rw [lt_J, Int64.toInt_ofInt_of_le (by omega) (by omega)]
    show 0 < x
    omega
/-- a share in lowest terms: the same on both sides -/
theorem low_both {x y : Int} (hx : 0 ≤ x) (hx2 : x ≤ 9223372036854775807) (hy : 0 < y) (hy2 : y ≤ 9223372036854775807) : ∃ g : Int64, cmn 128 (Int64.ofInt x) (Int64.ofInt y) = some g ∧ ¬ g = 0 ∧ ∀ p : Int32, lT (Int64.ofInt x) (Int64.ofInt y) p = if p = 0 then Int64.ofInt x / g else Int64.ofInt y / g := by
  have hpw : (2 : Int) ^ 63 = 9223372036854775808 := by decide
  obtain ⟨g, a1, a2, a3⟩ := cmn_some 63 x y hx hx2 (by omega) hy2 (by omega) (Or.inr hy)
  have hg : ¬ Int64.ofInt g = 0 := fun z => by
    have := (o64_0 (by omega) a2).mp z
    omega
  refine ⟨Int64.ofInt g, a3, hg, fun p => ?_⟩
  unfold lT
  rw [labs_nn hx hx2, labs_nn (by omega) hy2, cmn_cdv 128 _ _ _ a3 200 (by omega), if_neg hg]

/-! the clearing: one model, of whole numbers, for both sides -/
theorem oI_l {z : Int} (h1 : -2147483648 ≤ z) (h2 : z ≤ 2147483647) : (Int32.ofInt z).toInt64 = Int64.ofInt z := Int32.toInt64_ofInt h1 h2
theorem nI_j {n : Nat} (h : n < 2 ^ 31) : (nI n).toInt64 = Int64.ofInt (n : Int) := by rw [nI_l h, lN_ofInt]
def mdt (e : Nat → Nat → Int) : Int := (e 0 0 * e 1 1 - e 0 1 * e 1 0) * (e 2 2 * e 3 3 - e 2 3 * e 3 2) - (e 0 0 * e 1 2 - e 0 2 * e 1 0) * (e 2 1 * e 3 3 - e 2 3 * e 3 1) + (e 0 0 * e 1 3 - e 0 3 * e 1 0) * (e 2 1 * e 3 2 - e 2 2 * e 3 1) + (e 0 1 * e 1 2 - e 0 2 * e 1 1) * (e 2 0 * e 3 3 - e 2 3 * e 3 0) - (e 0 1 * e 1 3 - e 0 3 * e 1 1) * (e 2 0 * e 3 2 - e 2 2 * e 3 0) + (e 0 2 * e 1 3 - e 0 3 * e 1 2) * (e 2 0 * e 3 1 - e 2 1 * e 3 0)
def mdJ (e : Nat → Nat → Int64) : Int64 := (e 0 0 * e 1 1 - e 0 1 * e 1 0) * (e 2 2 * e 3 3 - e 2 3 * e 3 2) - (e 0 0 * e 1 2 - e 0 2 * e 1 0) * (e 2 1 * e 3 3 - e 2 3 * e 3 1) + (e 0 0 * e 1 3 - e 0 3 * e 1 0) * (e 2 1 * e 3 2 - e 2 2 * e 3 1) + (e 0 1 * e 1 2 - e 0 2 * e 1 1) * (e 2 0 * e 3 3 - e 2 3 * e 3 0) - (e 0 1 * e 1 3 - e 0 3 * e 1 1) * (e 2 0 * e 3 2 - e 2 2 * e 3 0) + (e 0 2 * e 1 3 - e 0 3 * e 1 2) * (e 2 0 * e 3 1 - e 2 1 * e 3 0)
theorem mdJ_of {e : Nat → Nat → Int64} {z : Nat → Nat → Int} (h : ∀ r c, r < 4 → c < 4 → e r c = Int64.ofInt (z r c)) : mdJ e = Int64.ofInt (mdt z) := by
  unfold mdJ mdt
  rw [h 0 0 (by omega) (by omega), h 0 1 (by omega) (by omega), h 0 2 (by omega) (by omega), h 0 3 (by omega) (by omega), h 1 0 (by omega) (by omega), h 1 1 (by omega) (by omega), h 1 2 (by omega) (by omega), h 1 3 (by omega) (by omega), h 2 0 (by omega) (by omega), h 2 1 (by omega) (by omega), h 2 2 (by omega) (by omega), h 2 3 (by omega) (by omega), h 3 0 (by omega) (by omega), h 3 1 (by omega) (by omega), h 3 2 (by omega) (by omega), h 3 3 (by omega) (by omega)]
  simp only [Int64.ofInt_add, Int64.ofInt_sub, Int64.ofInt_mul]
/-- the equations: who has fallen has a row of its own -/
def eqM (tt : Nat) (d : Nat → Nat → Nat) (f : Nat → Nat) (i j : Nat) : Int := if f i = 0 then (if i = j then 1 else 0) else (if i = j then 10 * (ow d i : Int) else -((10 - (tt : Int)) * (d j i : Int)))
def eqR (tt : Nat) (u f : Nat → Nat) (i : Nat) : Int := if f i = 0 then 1 else (10 - (tt : Int)) * (u i : Int)
def eqE (tt : Nat) (u : Nat → Nat) (d : Nat → Nat → Nat) (f : Nat → Nat) (p i j : Nat) : Int := if j = p then eqR tt u f i else eqM tt d f i j
/-- a share's upper number; at 4 the number under all of them -/
def eqS (tt : Nat) (u : Nat → Nat) (d : Nat → Nat → Nat) (f : Nat → Nat) (p : Nat) : Int := mdt (eqE tt u d f p)
def eqG (tt : Nat) (u : Nat → Nat) (d : Nat → Nat → Nat) (f : Nat → Nat) (i : Nat) : Nat → Int
  | 0 => eqS tt u d f 4 * (u i : Int)
  | n + 1 => eqG tt u d f i n + eqS tt u d f n * (d n i : Int)
abbrev fd (tt : Nat) (u : Nat → Nat) (d : Nat → Nat → Nat) (f : Nat → Nat) (i : Nat) : Prop := f i = 0 ∧ ¬ Int64.ofInt (eqS tt u d f 4 * (ow d i : Int)) ≤ Int64.ofInt (eqG tt u d f i 4)
def nxf (tt : Nat) (u : Nat → Nat) (d : Nat → Nat → Nat) (r : Nat) (f : Nat → Nat) : Nat → Nat := fun i => if i < 4 ∧ fd tt u d f i then r else f i
abbrev an (tt : Nat) (u : Nat → Nat) (d : Nat → Nat → Nat) (f : Nat → Nat) : Prop := fd tt u d f 0 ∨ fd tt u d f 1 ∨ fd tt u d f 2 ∨ fd tt u d f 3
def rn (tt : Nat) (u : Nat → Nat) (d : Nat → Nat → Nat) : Nat → Nat → (Nat → Nat) → (Nat → Nat) × Nat
  | 0, r, f => (f, r - 1)
  | k + 1, r, f => if an tt u d f then rn tt u d k (r + 1) (nxf tt u d r f) else (f, r - 1)
theorem an_iff {tt : Nat} {u : Nat → Nat} {d : Nat → Nat → Nat} {f : Nat → Nat} : an tt u d f ↔ ∃ i, i < 4 ∧ fd tt u d f i := by
  constructor
  · rintro (h | h | h | h)
    · exact ⟨0, by omega, h⟩
    · exact ⟨1, by omega, h⟩
    · exact ⟨2, by omega, h⟩
    · exact ⟨3, by omega, h⟩
  · rintro ⟨i, hi, h⟩
    rcases (show i = 0 ∨ i = 1 ∨ i = 2 ∨ i = 3 by omega) with rfl | rfl | rfl | rfl
    · exact Or.inl h
    · exact Or.inr (Or.inl h)
    · exact Or.inr (Or.inr (Or.inl h))
    · exact Or.inr (Or.inr (Or.inr h))
theorem mdt_cong {e z : Nat → Nat → Int} (h : ∀ r c, r < 4 → c < 4 → e r c = z r c) : mdt e = mdt z := by
  unfold mdt
  rw [h 0 0 (by omega) (by omega), h 0 1 (by omega) (by omega), h 0 2 (by omega) (by omega), h 0 3 (by omega) (by omega), h 1 0 (by omega) (by omega), h 1 1 (by omega) (by omega), h 1 2 (by omega) (by omega), h 1 3 (by omega) (by omega), h 2 0 (by omega) (by omega), h 2 1 (by omega) (by omega), h 2 2 (by omega) (by omega), h 2 3 (by omega) (by omega), h 3 0 (by omega) (by omega), h 3 1 (by omega) (by omega), h 3 2 (by omega) (by omega), h 3 3 (by omega) (by omega)]
theorem eqS_0 {tt : Nat} {u : Nat → Nat} {d : Nat → Nat → Nat} {f : Nat → Nat} (hf : ∀ i, i < 4 → f i = 0) {p : Nat} (hp : p < 5) : eqS tt u d f p = 1 := by
  unfold eqS
  rw [mdt_cong (z := fun i j => if j = p then 1 else if i = j then 1 else 0) (fun r c hr hc => by
    unfold eqE eqM eqR
    rw [hf r hr, if_pos rfl, if_pos rfl])]
  rcases (show p = 0 ∨ p = 1 ∨ p = 2 ∨ p = 3 ∨ p = 4 by omega) with rfl | rfl | rfl | rfl | rfl <;> rfl
theorem nI_le0 {n : Nat} (h : n < 2 ^ 31) : nI n ≤ 0 ↔ n = 0 := by
  rw [i0_eq, nI_leI h (by decide)]
  omega
/-! the class -/
section CL
variable {k m tt po : Nat} {u : Nat → Nat} {d : Nat → Nat → Nat} {coin debt : Nat → Int32} {pen : Int32}
theorem keep_tt (h : tt ≤ 5) : nI 10 - nI tt = Int32.ofInt (10 - (tt : Int)) := by
  rw [nI_int, nI_int, ← Int32.ofInt_sub]
  rfl
theorem gA_of (hP : RelP k m tt po u d) (hk : k ≤ 512) (hu : ∀ i, i < 4 → uC pen coin i = nI (u i)) (hD : ∀ i j, i < 4 → j < 5 → debt (i * 5 + j) = nI (d i j)) {f : Nat → Nat} {below : Int64} {shr : Nat → Int64} (hb : below = Int64.ofInt (eqS tt u d f 4)) (hs : ∀ j, j < 4 → shr j = Int64.ofInt (eqS tt u d f j)) {i : Nat} (hi : i < 4) : ∀ n, n ≤ 4 → gA below pen coin debt shr i n = Int64.ofInt (eqG tt u d f i n)
  | 0, _ => by
    have := c_lt hP hk hi
    rw [gA, eqG, hb, hu i hi, nI_j (by omega), Int64.ofInt_mul]
  | n + 1, hn => by
    have := hP.2.1 n i (by omega) (by omega)
    rw [gA, eqG, gA_of hP hk hu hD hb hs hi n (by omega), hs n (by omega), hD n i (by omega) (by omega), nI_j (by omega), Int64.ofInt_add, Int64.ofInt_mul]
theorem oB_d (hP : RelP k m tt po u d) (hD : ∀ i j, i < 4 → j < 5 → debt (i * 5 + j) = nI (d i j)) {i : Nat} (hi : i < 4) : oB debt i = nI (ow d i) := oB_ow (coin := fun i => nI (u i)) (c := u) ⟨fun _ _ => rfl, hD⟩ hi
theorem aC_fd (hP : RelP k m tt po u d) (hk : k ≤ 512) (hu : ∀ i, i < 4 → uC pen coin i = nI (u i)) (hD : ∀ i j, i < 4 → j < 5 → debt (i * 5 + j) = nI (d i j)) {f : Nat → Nat} {below : Int64} {shr : Nat → Int64} (hb : below = Int64.ofInt (eqS tt u d f 4)) (hs : ∀ j, j < 4 → shr j = Int64.ofInt (eqS tt u d f j)) {fall : Nat → Int32} {i : Nat} (hi : i < 4) (hf : fall i = nI (f i)) (hf5 : f i ≤ 5) : aC below pen coin debt shr fall i ↔ fd tt u d f i := by
  have ho := ow_le hP hi
  have e0 : ¬ fl fall i ↔ f i = 0 := by
    show ¬ ¬ fall i ≤ 0 ↔ _
    rw [hf, nI_le0 (by omega)]
    exact ⟨fun h => Decidable.not_not.mp h, fun h q => q h⟩
  unfold aC fd
  rw [e0, gA_of hP hk hu hD hb hs hi 4 (Nat.le_refl _), oB_d hP hD hi, nI_j (by omega), hb, Int64.ofInt_mul]
theorem aF_at (hP : RelP k m tt po u d) (hk : k ≤ 512) (hu : ∀ i, i < 4 → uC pen coin i = nI (u i)) (hD : ∀ i j, i < 4 → j < 5 → debt (i * 5 + j) = nI (d i j)) {f : Nat → Nat} {below : Int64} {shr : Nat → Int64} (hb : below = Int64.ofInt (eqS tt u d f 4)) (hs : ∀ j, j < 4 → shr j = Int64.ofInt (eqS tt u d f j)) {fall : Nat → Int32} (hf : ∀ i, i < 4 → fall i = nI (f i) ∧ f i ≤ 5) (r : Nat) : ∀ n, n ≤ 4 → (∀ i, i < 4 → aF (nI r) below pen coin debt shr fall n i = if i < n ∧ fd tt u d f i then nI r else fall i) ∧ (aA (nI r) below pen coin debt shr fall n = 0 ↔ ∀ i, i < n → ¬ fd tt u d f i)
  | 0, _ => ⟨fun i hi => by rw [aF, if_neg (by omega)], by rw [aA]; exact ⟨fun _ i hi => by omega, fun _ => rfl⟩⟩
  | n + 1, hn => by
    obtain ⟨ih1, ih2⟩ := aF_at hP hk hu hD hb hs hf r n (by omega)
    have hx : aF (nI r) below pen coin debt shr fall n n = nI (f n) := by
      rw [ih1 n (by omega), if_neg (by omega)]
      exact (hf n (by omega)).1
    have hc := aC_fd hP hk hu hD hb hs (fall := aF (nI r) below pen coin debt shr fall n) (i := n) (by omega) hx (hf n (by omega)).2
    by_cases q : fd tt u d f n
    · refine ⟨fun i hi => ?_, ?_⟩
      · rw [aF, if_pos (hc.mpr q), upd_at]
        by_cases e : i = n
        · rw [if_pos e, if_pos ⟨by omega, e ▸ q⟩]
        · rw [if_neg e, ih1 i hi]
          by_cases z : i < n ∧ fd tt u d f i
          · rw [if_pos z, if_pos ⟨by omega, z.2⟩]
          · rw [if_neg z, if_neg (fun y => z ⟨by omega, y.2⟩)]
      · rw [aA, if_pos (hc.mpr q)]
        exact ⟨fun h => absurd h (by decide), fun h => absurd q (h n (by omega))⟩
    · refine ⟨fun i hi => ?_, ?_⟩
      · rw [aF, if_neg (fun z => q (hc.mp z)), ih1 i hi]
        by_cases z : i < n ∧ fd tt u d f i
        · rw [if_pos z, if_pos ⟨by omega, z.2⟩]
        · rw [if_neg z, if_neg]
          rintro ⟨y1, y2⟩
          by_cases e : i = n
          · exact q (e ▸ y2)
          · exact z ⟨by omega, y2⟩
      · rw [aA, if_neg (fun z => q (hc.mp z)), ih2]
        constructor
        · intro h i hi
          by_cases e : i = n
          · rw [e]; exact q
          · exact h i (by omega)
        · intro h i hi
          exact h i (by omega)
theorem wM_at {fall : Nat → Int32} {mat : Nat → Int64} {toll : Int32} {i : Nat} : ∀ n q, wM toll debt fall mat i n q = if i * 4 ≤ q ∧ q < i * 4 + n then (if fl fall i then (-(nI 10 - toll) * debt ((q - i * 4) * 5 + i)).toInt64 else 0) else mat q
  | 0, q => by rw [wM, if_neg (by omega)]
  | n + 1, q => by
    rw [wM, updL_at]
    by_cases e : q = i * 4 + n
    · rw [if_pos e, if_pos (show i * 4 ≤ q ∧ q < i * 4 + (n + 1) by omega), show q - i * 4 = n by omega]
    · rw [if_neg e, wM_at n q]
      by_cases z : i * 4 ≤ q ∧ q < i * 4 + n
      · rw [if_pos z, if_pos (show i * 4 ≤ q ∧ q < i * 4 + (n + 1) by omega)]
      · rw [if_neg z, if_neg (show ¬ (i * 4 ≤ q ∧ q < i * 4 + (n + 1)) by omega)]
theorem wEs_at (hP : RelP k m tt po u d) (hk : k ≤ 512) (hu : ∀ i, i < 4 → uC pen coin i = nI (u i)) (hD : ∀ i j, i < 4 → j < 5 → debt (i * 5 + j) = nI (d i j)) {f : Nat → Nat} {fall : Nat → Int32} (hf : ∀ i, i < 4 → fall i = nI (f i) ∧ f i ≤ 5) (s : mT) : ∀ n, n ≤ 4 → ∀ i, i < n → (∀ j, j < 4 → (wEs (nI tt) pen coin debt fall s n).1 (i * 4 + j) = Int64.ofInt (eqM tt d f i j)) ∧ (wEs (nI tt) pen coin debt fall s n).2 i = Int64.ofInt (eqR tt u f i)
  | 0, _, i, hi => by omega
  | n + 1, hn, i, hi => by
    have ht : tt ≤ 5 := hP.1.2.2
    have hfl : fl fall i ↔ ¬ f i = 0 := by
      show ¬ fall i ≤ 0 ↔ _
      rw [(hf i (by omega)).1, nI_le0 (by have := (hf i (by omega)).2; omega)]
    have hw := c_lt hP hk (show i < 4 by omega)
    have ho := ow_le hP (show i < 4 by omega)
    by_cases e : i = n
    · subst e
      refine ⟨fun j hj => ?_, ?_⟩
      · have h50 := hP.2.1 j i hj (by omega)
        rw [wEs]
        show wMd (nI tt) debt fall (wEs (nI tt) pen coin debt fall s i).1 i (i * 4 + j) = _
        unfold wMd
        rw [updL_at, wM_at]
        unfold eqM
        by_cases e2 : i = j
        · subst e2
          rw [if_pos rfl, if_pos rfl, if_pos rfl]
          by_cases q : f i = 0
          · rw [if_neg (fun z => hfl.mp z q), if_pos q]
            rfl
          · rw [if_pos (hfl.mpr q), if_neg q, oB_d hP hD (by omega), nI_int, nI_int, ← Int32.ofInt_mul, oI_l (by omega) (by omega)]
            rfl
        · rw [if_neg (show ¬ i * 4 + j = i * 4 + i by omega), if_pos (show i * 4 ≤ i * 4 + j ∧ i * 4 + j < i * 4 + 4 by omega), if_neg e2, if_neg e2, show i * 4 + j - i * 4 = j by omega]
          by_cases q : f i = 0
          · rw [if_neg (fun z => hfl.mp z q), if_pos q]
            rfl
          · have hb1 : 0 ≤ (10 - (tt : Int)) * (d j i : Int) := Int.mul_nonneg (by omega) (by omega)
            have hb2 : (10 - (tt : Int)) * (d j i : Int) ≤ 10 * 50 := Int.mul_le_mul (by omega) (by omega) (by omega) (by omega)
            rw [if_pos (hfl.mpr q), if_neg q, keep_tt ht, hD j i hj (by omega), nI_int (d j i), ← Int32.ofInt_neg, ← Int32.ofInt_mul, oI_l (by rw [Int.neg_mul]; omega) (by rw [Int.neg_mul]; omega), Int.neg_mul]
      · rw [wEs]
        show wRt (nI tt) pen coin fall (wEs (nI tt) pen coin debt fall s i).2 i i = _
        unfold wRt eqR
        rw [updL_at, if_pos rfl]
        by_cases q : f i = 0
        · rw [if_neg (fun z => hfl.mp z q), if_pos q]
          rfl
        · have hb1 : 0 ≤ (10 - (tt : Int)) * (u i : Int) := Int.mul_nonneg (by omega) (by omega)
          have hb2 : (10 - (tt : Int)) * (u i : Int) ≤ 10 * 26600 := Int.mul_le_mul (by omega) (by omega) (by omega) (by omega)
          rw [if_pos (hfl.mpr q), if_neg q, keep_tt ht, hu i (by omega), nI_int (u i), ← Int32.ofInt_mul, oI_l (by omega) (by omega)]
    · have ih := wEs_at hP hk hu hD hf s n (by omega) i (by omega)
      refine ⟨fun j hj => ?_, ?_⟩
      · rw [wEs]
        show wMd (nI tt) debt fall (wEs (nI tt) pen coin debt fall s n).1 n (i * 4 + j) = _
        unfold wMd
        rw [updL_at, if_neg (show ¬ i * 4 + j = n * 4 + n by omega), wM_at, if_neg (show ¬ (n * 4 ≤ i * 4 + j ∧ i * 4 + j < n * 4 + 4) by omega)]
        exact ih.1 j hj
      · rw [wEs]
        show wRt (nI tt) pen coin fall (wEs (nI tt) pen coin debt fall s n).2 n i = _
        unfold wRt
        rw [updL_at, if_neg e]
        exact ih.2
theorem dt_of {f : Nat → Nat} {mat rgt : Nat → Int64} (h : ∀ i, i < 4 → (∀ j, j < 4 → mat (i * 4 + j) = Int64.ofInt (eqM tt d f i j)) ∧ rgt i = Int64.ofInt (eqR tt u f i)) : (∀ p, p < 4 → dt mat rgt (nI p) = Int64.ofInt (eqS tt u d f p)) ∧ dt mat rgt (-1) = Int64.ofInt (eqS tt u d f 4) := by
  refine ⟨fun p hp => ?_, ?_⟩
  · refine (show dt mat rgt (nI p) = mdJ (en mat rgt (nI p)) from rfl).trans (mdJ_of (fun r c hr hc => ?_))
    unfold en eqE
    by_cases e : c = p
    · rw [if_pos (by rw [e]), if_pos e]
      exact (h r hr).2
    · rw [if_neg (fun z => e ((nI_eq (by omega) (by omega)).mp z)), if_neg e]
      exact (h r hr).1 c hc
  · refine (show dt mat rgt (-1) = mdJ (en mat rgt (-1)) from rfl).trans (mdJ_of (fun r c hr hc => ?_))
    unfold en eqE
    rw [if_neg (nI_nm1 c hc), if_neg (by omega)]
    exact (h r hr).1 c hc
theorem sS_at {mat rgt shr : Nat → Int64} : ∀ n q, sS mat rgt shr n q = if q < n then dt mat rgt (nI q) else shr q
  | 0, q => by rw [sS, if_neg (by omega)]
  | n + 1, q => by
    rw [sS, updL_at]
    by_cases e : q = n
    · rw [if_pos e, if_pos (by omega), e]
    · rw [if_neg e, sS_at n q]
      by_cases z : q < n
      · rw [if_pos z, if_pos (by omega)]
      · rw [if_neg z, if_neg (by omega)]
/-- the class's state stands for the fallen houses f, after round r - 1 -/
def kS (tt : Nat) (u : Nat → Nat) (d : Nat → Nat → Nat) (f : Nat → Nat) (r : Nat) (s : cT) : Prop := (∀ i, i < 4 → s.1 i = nI (f i)) ∧ (∀ i, i < 4 → s.2.1 i = Int64.ofInt (eqS tt u d f i)) ∧ s.2.2.2.2.1 = nI r ∧ s.2.2.2.2.2 = Int64.ofInt (eqS tt u d f 4)
theorem slv_CS (hP : RelP k m tt po u d) (hk : k ≤ 512) (hu : ∀ i, i < 4 → uC pen coin i = nI (u i)) (hD : ∀ i j, i < 4 → j < 5 → debt (i * 5 + j) = nI (d i j)) {f : Nat → Nat} {fall : Nat → Int32} (hf : ∀ i, i < 4 → fall i = nI (f i) ∧ f i ≤ 5) (s : cT) (r : Nat) : kS tt u d f r (slv (nI tt) pen coin debt fall (nI r) s) := by
  have h := wEs_at hP hk hu hD hf (s.2.2.1, s.2.2.2.1) 4 (Nat.le_refl _)
  have h2 := dt_of (u := u) h
  refine ⟨fun i hi => (hf i hi).1, fun i hi => ?_, rfl, h2.2⟩
  show sS (wEs (nI tt) pen coin debt fall (s.2.2.1, s.2.2.2.1) 4).1 (wEs (nI tt) pen coin debt fall (s.2.2.1, s.2.2.2.1) 4).2 s.2.1 4 i = _
  rw [sS_at, if_pos hi]
  exact h2.1 i hi
theorem stl_CS (hP : RelP k m tt po u d) (hk : k ≤ 512) (hu : ∀ i, i < 4 → uC pen coin i = nI (u i)) (hD : ∀ i j, i < 4 → j < 5 → debt (i * 5 + j) = nI (d i j)) : ∀ (q r : Nat) (f : Nat → Nat) (s : cT), q + r = 5 → 1 ≤ r → (∀ i, i < 4 → f i ≤ 5) → kS tt u d f (r - 1) s → kS tt u d (rn tt u d q r f).1 (rn tt u d q r f).2 (stl (nI tt) pen coin debt q r s)
  | 0, r, f, s, _, _, _, h => h
  | q + 1, r, f, s, e, hr, h5, h => by
    have ha := aF_at hP hk hu hD h.2.2.2 h.2.1 (fall := s.1) (fun i hi => ⟨h.1 i hi, h5 i hi⟩) r 4 (Nat.le_refl _)
    have h01 : nI (aA (nI r) s.2.2.2.2.2 pen coin debt s.2.1 s.1 4) = 0 ↔ aA (nI r) s.2.2.2.2.2 pen coin debt s.2.1 s.1 4 = 0 := nI_eq (by have := aA_le (r := nI r) (below := s.2.2.2.2.2) (pen := pen) (coin := coin) (debt := debt) (shr := s.2.1) (fall := s.1) 4; omega) (by decide)
    rw [stl, rn]
    by_cases z : an tt u d f
    · obtain ⟨i, hi, hz⟩ := an_iff.mp z
      have hne : ¬ nI (aA (nI r) s.2.2.2.2.2 pen coin debt s.2.1 s.1 4) = 0 := fun y => ha.2.mp (h01.mp y) i hi hz
      rw [if_neg hne, if_pos z]
      have hn : ∀ i, i < 4 → aF (nI r) s.2.2.2.2.2 pen coin debt s.2.1 s.1 4 i = nI (nxf tt u d r f i) ∧ nxf tt u d r f i ≤ 5 := by
        intro i hi
        have h5i := h5 i hi
        rw [ha.1 i hi]
        unfold nxf
        by_cases y : i < 4 ∧ fd tt u d f i
        · rw [if_pos y, if_pos y]
          exact ⟨rfl, by omega⟩
        · rw [if_neg y, if_neg y]
          exact ⟨h.1 i hi, h5i⟩
      exact stl_CS hP hk hu hD q (r + 1) _ _ (by omega) (by omega) (fun i hi => (hn i hi).2) (slv_CS hP hk hu hD hn s r)
    · have hz : ∀ i, i < 4 → ¬ fd tt u d f i := fun i hi y => z (an_iff.mpr ⟨i, hi, y⟩)
      rw [if_pos (h01.mpr (ha.2.mpr hz)), if_neg z]
      refine ⟨fun i hi => ?_, h.2⟩
      show aF (nI r) s.2.2.2.2.2 pen coin debt s.2.1 s.1 4 i = _
      rw [ha.1 i hi, if_neg (fun y => hz i hi y.2)]
      exact h.1 i hi
/-- the class, cleared, stands for the model's last round -/
theorem cst_CS (hP : RelP k m tt po u d) (hk : k ≤ 512) (hu : ∀ i, i < 4 → uC pen coin i = nI (u i)) (hD : ∀ i j, i < 4 → j < 5 → debt (i * 5 + j) = nI (d i j)) (fall : Nat → Int32) (shr mat rgt : Nat → Int64) : kS tt u d (rn tt u d 4 1 (fun _ => 0)).1 (rn tt u d 4 1 (fun _ => 0)).2 (cst (nI tt) pen coin debt fall shr mat rgt) := by
  refine stl_CS hP hk hu hD 4 1 (fun _ => 0) _ rfl (Nat.le_refl _) (fun _ _ => Nat.zero_le _) ⟨fun i hi => zf_in hi, fun i hi => ?_, rfl, ?_⟩
  · rw [eqS_0 (fun _ _ => rfl) (by omega)]
    show oS shr 4 i = _
    unfold oS
    rw [if_pos hi]
    rfl
  · rw [eqS_0 (fun _ _ => rfl) (by omega)]
    rfl
end CL

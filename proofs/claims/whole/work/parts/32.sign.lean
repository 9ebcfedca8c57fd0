/-! the clearing's numbers: the one below is above 0, no share is below 0, all are small -/
section PS
variable {k m tt po : Nat} {u : Nat → Nat} {d : Nat → Nat → Nat} {f : Nat → Nat}
theorem eqS_4 : eqS tt u d f 4 = mdt (eqM tt d f) := mdt_cong (fun r c hr hc => by
  unfold eqE
  rw [if_neg (show ¬ c = 4 by omega)])
theorem eqS_cf {p : Nat} (hp : p < 4) : eqS tt u d f p = s4 (fun j => cf (eqM tt d f) j p * eqR tt u f j) := by
  have h := cf_cols (eqE tt u d f p) hp hp
  rw [if_pos rfl] at h
  unfold eqS
  rw [← h]
  exact s4_cong (fun j hj => by
    rw [cf_col hj hp (f := eqM tt d f) (fun x y hx hy hne => by unfold eqE; rw [if_neg hne])]
    unfold eqE
    rw [if_pos rfl])
theorem eqS_solve {i : Nat} (hi : i < 4) : s4 (fun p => eqM tt d f i p * eqS tt u d f p) = eqS tt u d f 4 * eqR tt u f i := by
  rw [s4_cong (g := fun p => eqM tt d f i p * s4 (fun j => cf (eqM tt d f) j p * eqR tt u f j)) (fun p hp => by rw [eqS_cf hp])]
  rw [← s4_assoc (fun p => eqM tt d f i p) (fun j => eqR tt u f j) (fun p j => cf (eqM tt d f) j p), eqS_4]
  exact s4_one hi _ (fun r hr => by
    show s4 (fun j => eqM tt d f i j * cf (eqM tt d f) r j) * eqR tt u f r = _
    rw [cf_rows _ hi hr]
    by_cases z : i = r
    · rw [if_pos z, if_pos z, z]
    · rw [if_neg z, if_neg z, Int.zero_mul])
theorem eqG_s4 {i : Nat} : eqG tt u d f i 4 = eqS tt u d f 4 * (u i : Int) + s4 (fun j => eqS tt u d f j * (d j i : Int)) := by
  simp only [eqG, s4]
  omega
theorem eqR_nn (ht : tt ≤ 5) {i : Nat} : 0 ≤ eqR tt u f i := by
  unfold eqR
  split
  · omega
  · exact Int.mul_nonneg (by omega) (by omega)
/-- a good state -/
def okF (tt : Nat) (u : Nat → Nat) (d : Nat → Nat → Nat) (f : Nat → Nat) : Prop := 0 < eqS tt u d f 4 ∧ (∀ p q, p < 4 → q < 4 → 0 ≤ cf (eqM tt d f) q p) ∧ ∀ i, i < 4 → ¬ f i = 0 → u i < ow d i
theorem eqS_nn (ht : tt ≤ 5) (h : okF tt u d f) {p : Nat} (hp : p < 4) : 0 ≤ eqS tt u d f p := by
  rw [eqS_cf hp]
  exact s4_nneg (fun j hj => Int.mul_nonneg (h.2.1 p j hp hj) (eqR_nn ht))
theorem cf_same {e g : Nat → Nat → Int} {r c : Nat} (hr : r < 4) (hc : c < 4) (h : ∀ i j, i < 4 → j < 4 → e i j = g i j) : cf e r c = cf g r c := cf_row hr hc (fun i j hi hj _ => h i j hi hj)
theorem okF_0 (h : ∀ i, i < 4 → f i = 0) : okF tt u d f := by
  refine ⟨by rw [eqS_0 h (by omega)]; decide, fun p q hp hq => ?_, fun i hi z => absurd (h i hi) z⟩
  rw [cf_same (g := fun i j => if i = j then 1 else 0) hq hp (fun i j hi hj => by unfold eqM; rw [if_pos (h i hi)])]
  rcases lt4_cases hp with rfl | rfl | rfl | rfl <;> rcases lt4_cases hq with rfl | rfl | rfl | rfl <;> decide
/-! bounds -/
theorem nA_mul {x y : Int} {a b : Nat} (h1 : x.natAbs ≤ a) (h2 : y.natAbs ≤ b) : (x * y).natAbs ≤ a * b := by
  rw [Int.natAbs_mul]
  exact Nat.mul_le_mul h1 h2
theorem nA_minor {e : Nat → Nat → Int} {R : Nat → Nat} (h : ∀ i j, i < 4 → j < 4 → (e i j).natAbs ≤ R i) {r a b : Nat} (hr : r < 3) (ha : a < 4) (hb : b < 4) : (e r a * e (r + 1) b - e r b * e (r + 1) a).natAbs ≤ 2 * (R r * R (r + 1)) := by
  have h1 := nA_mul (h r a (by omega) ha) (h (r + 1) b (by omega) hb)
  have h2 := nA_mul (h r b (by omega) hb) (h (r + 1) a (by omega) ha)
  omega
theorem det_bd {e : Nat → Nat → Int} {R : Nat → Nat} (h : ∀ i j, i < 4 → j < 4 → (e i j).natAbs ≤ R i) : (mdt e).natAbs ≤ 6 * (2 * (R 0 * R 1) * (2 * (R 2 * R 3))) := by
  have hh : ∀ a b x y, a < 4 → b < 4 → x < 4 → y < 4 → ((e 0 a * e 1 b - e 0 b * e 1 a) * (e 2 x * e 3 y - e 2 y * e 3 x)).natAbs ≤ 2 * (R 0 * R 1) * (2 * (R 2 * R 3)) := fun a b x y ha hb hx hy => nA_mul (nA_minor h (by omega) ha hb) (nA_minor h (by omega) hx hy)
  have h1 := hh 0 1 2 3 (by omega) (by omega) (by omega) (by omega)
  have h2 := hh 0 2 1 3 (by omega) (by omega) (by omega) (by omega)
  have h3 := hh 0 3 1 2 (by omega) (by omega) (by omega) (by omega)
  have h4 := hh 1 2 0 3 (by omega) (by omega) (by omega) (by omega)
  have h5 := hh 1 3 0 2 (by omega) (by omega) (by omega) (by omega)
  have h6 := hh 2 3 0 1 (by omega) (by omega) (by omega) (by omega)
  unfold mdt
  generalize 2 * (R 0 * R 1) * (2 * (R 2 * R 3)) = P at *
  omega
def rb (f : Nat → Nat) (i : Nat) : Nat := if f i = 0 then 1 else 2000
theorem eqE_bd (hP : RelP k m tt po u d) (h : ∀ i, i < 4 → ¬ f i = 0 → u i < ow d i) {p i j : Nat} (hi : i < 4) (hj : j < 4) : (eqE tt u d f p i j).natAbs ≤ rb f i := by
  have ht : tt ≤ 5 := hP.1.2.2
  have ho := ow_le hP hi
  have hd := hP.2.1 j i hj (by omega)
  unfold eqE eqR eqM rb
  by_cases q : f i = 0
  · simp only [if_pos q]
    split
    · decide
    · split <;> decide
  · simp only [if_neg q]
    have hu := h i hi q
    split
    · have := nA_mul (x := 10 - (tt : Int)) (y := (u i : Int)) (a := 10) (b := 200) (by omega) (by omega)
      omega
    · split
      · omega
      · have := nA_mul (x := 10 - (tt : Int)) (y := (d j i : Int)) (a := 10) (b := 50) (by omega) (by omega)
        omega
theorem rb_le (f : Nat → Nat) (i : Nat) : rb f i = 1 ∨ rb f i = 2000 := by
  unfold rb
  split
  · exact Or.inl rfl
  · exact Or.inr rfl
theorem eqS_bd (hP : RelP k m tt po u d) (h : okF tt u d f) (p : Nat) : (eqS tt u d f p).natAbs ≤ 384000000000000 := by
  have h1 : (eqS tt u d f p).natAbs ≤ 6 * (2 * (rb f 0 * rb f 1) * (2 * (rb f 2 * rb f 3))) := det_bd (fun i j hi hj => eqE_bd hP h.2.2 hi hj)
  refine Nat.le_trans h1 ?_
  rcases rb_le f 0 with a | a <;> rcases rb_le f 1 with b | b <;> rcases rb_le f 2 with c | c <;> rcases rb_le f 3 with e | e <;> rw [a, b, c, e] <;> decide
theorem eqS_bd0 (hP : RelP k m tt po u d) (h : okF tt u d f) {i : Nat} (hi : i < 4) (h0 : f i = 0) (p : Nat) : (eqS tt u d f p).natAbs ≤ 192000000000 := by
  have h1 : (eqS tt u d f p).natAbs ≤ 6 * (2 * (rb f 0 * rb f 1) * (2 * (rb f 2 * rb f 3))) := det_bd (fun i j hi hj => eqE_bd hP h.2.2 hi hj)
  refine Nat.le_trans h1 ?_
  have hz : rb f i = 1 := if_pos h0
  rcases lt4_cases hi with rfl | rfl | rfl | rfl
  · rcases rb_le f 1 with b | b <;> rcases rb_le f 2 with c | c <;> rcases rb_le f 3 with e | e <;> rw [hz, b, c, e] <;> decide
  · rcases rb_le f 0 with b | b <;> rcases rb_le f 2 with c | c <;> rcases rb_le f 3 with e | e <;> rw [hz, b, c, e] <;> decide
  · rcases rb_le f 0 with b | b <;> rcases rb_le f 1 with c | c <;> rcases rb_le f 3 with e | e <;> rw [hz, b, c, e] <;> decide
  · rcases rb_le f 0 with b | b <;> rcases rb_le f 1 with c | c <;> rcases rb_le f 2 with e | e <;> rw [hz, b, c, e] <;> decide
/-- a product of numbers that are at least 0 -/
theorem mul_bd {x y a b : Int} (h0 : 0 ≤ x) (h1 : x ≤ a) (h2 : 0 ≤ y) (h3 : y ≤ b) : 0 ≤ x * y ∧ x * y ≤ a * b := ⟨Int.mul_nonneg h0 h2, Int.mul_le_mul h1 h3 h2 (Int.le_trans h0 h1)⟩
theorem s4d_bd (hP : RelP k m tt po u d) (h : okF tt u d f) {B : Int} (hB : ∀ p, p < 4 → eqS tt u d f p ≤ B) (hB0 : 0 ≤ B) {i : Nat} (hi : i < 4) : 0 ≤ s4 (fun j => eqS tt u d f j * (d j i : Int)) ∧ s4 (fun j => eqS tt u d f j * (d j i : Int)) ≤ 4 * (B * 50) := by
  have hx : ∀ j, j < 4 → 0 ≤ eqS tt u d f j * (d j i : Int) ∧ eqS tt u d f j * (d j i : Int) ≤ B * 50 := fun j hj => mul_bd (eqS_nn hP.1.2.2 h hj) (hB j hj) (by omega) (by have := hP.2.1 j i hj (by omega); omega)
  have h0 := hx 0 (by omega)
  have h1 := hx 1 (by omega)
  have h2 := hx 2 (by omega)
  have h3 := hx 3 (by omega)
  simp only [s4]
  omega
/-- what a house that has not fallen gets, what it owes: small numbers -/
theorem nf_bd (hP : RelP k m tt po u d) (hk : k ≤ 512) (h : okF tt u d f) {i : Nat} (hi : i < 4) (h0 : f i = 0) : (0 ≤ eqS tt u d f 4 * (ow d i : Int) ∧ eqS tt u d f 4 * (ow d i : Int) ≤ 38400000000000) ∧ 0 ≤ eqG tt u d f i 4 ∧ eqG tt u d f i 4 ≤ 5145600000000000 := by
  have hb : ∀ p, eqS tt u d f p ≤ 192000000000 := fun p => by
    have := eqS_bd0 hP h hi h0 p
    omega
  have hu := c_lt hP hk hi
  have ho := ow_le hP hi
  have h1 := mul_bd (Int.le_of_lt h.1) (hb 4) (y := (ow d i : Int)) (b := 200) (by omega) (by omega)
  have h2 := mul_bd (Int.le_of_lt h.1) (hb 4) (y := (u i : Int)) (b := 26600) (by omega) (by omega)
  have h3 := s4d_bd hP h (fun p _ => hb p) (by decide) hi
  rw [eqG_s4]
  omega
/-- what a fallen house gets -/
theorem fa_bd (hP : RelP k m tt po u d) (h : okF tt u d f) {i : Nat} (hi : i < 4) (h0 : ¬ f i = 0) : 0 ≤ eqG tt u d f i 4 ∧ eqG tt u d f i 4 ≤ 153600000000000000 := by
  have hb : ∀ p, eqS tt u d f p ≤ 384000000000000 := fun p => by
    have := eqS_bd hP h p
    omega
  have hu := h.2.2 i hi h0
  have ho := ow_le hP hi
  have h2 := mul_bd (Int.le_of_lt h.1) (hb 4) (y := (u i : Int)) (b := 200) (by omega) (by omega)
  have h3 := s4d_bd hP h (fun p _ => hb p) (by decide) hi
  rw [eqG_s4]
  omega
theorem fd_int (hP : RelP k m tt po u d) (hk : k ≤ 512) (h : okF tt u d f) {i : Nat} (hi : i < 4) : fd tt u d f i ↔ f i = 0 ∧ eqG tt u d f i 4 < eqS tt u d f 4 * (ow d i : Int) := by
  unfold fd
  constructor
  · rintro ⟨h0, h1⟩
    have hb := nf_bd hP hk h hi h0
    rw [le_J, Int64.toInt_ofInt_of_le (by omega) (by omega), Int64.toInt_ofInt_of_le (by omega) (by omega)] at h1
    exact ⟨h0, by omega⟩
  · rintro ⟨h0, h1⟩
    have hb := nf_bd hP hk h hi h0
    refine ⟨h0, ?_⟩
    rw [le_J, Int64.toInt_ofInt_of_le (by omega) (by omega), Int64.toInt_ofInt_of_le (by omega) (by omega)]
    omega
/-- a fallen house's row -/
def fRow (tt : Nat) (d : Nat → Nat → Nat) (i j : Nat) : Int := if i = j then 10 * (ow d i : Int) else -((10 - (tt : Int)) * (d j i : Int))
theorem eqS_self {i : Nat} (hi : i < 4) (h0 : f i = 0) : eqS tt u d f i = eqS tt u d f 4 := by
  have h := eqS_solve (tt := tt) (u := u) (d := d) (f := f) hi
  rw [s4_one (g := fun p => eqM tt d f i p * eqS tt u d f p) hi (eqS tt u d f i) (fun j hj => by
    show eqM tt d f i j * _ = _
    unfold eqM
    rw [if_pos h0]
    by_cases z : i = j
    · rw [if_pos z, if_pos z, Int.one_mul, z]
    · rw [if_neg z, if_neg z, Int.zero_mul])] at h
  rw [h]
  unfold eqR
  rw [if_pos h0, Int.mul_one]
theorem fRow_sum (hP : RelP k m tt po u d) {i : Nat} (hi : i < 4) (s : Nat → Int) : s4 (fun j => fRow tt d i j * s j) = 10 * ((ow d i : Int) * s i) - (10 - (tt : Int)) * s4 (fun j => s j * (d j i : Int)) := by
  have h0 : ((d i i : Nat) : Int) = 0 := by rw [hP.2.2.1 i hi]; rfl
  unfold fRow
  rcases lt4_cases hi with rfl | rfl | rfl | rfl <;> simp [s4] <;> rw [h0] <;> grind
theorem new_pos (hP : RelP k m tt po u d) (hk : k ≤ 512) (h : okF tt u d f) {i : Nat} (hi : i < 4) (hf : fd tt u d f i) : 0 < s4 (fun j => fRow tt d i j * eqS tt u d f j) := by
  have h1 := (fd_int hP hk h hi).mp hf
  have ht : tt ≤ 5 := hP.1.2.2
  have h3 := s4d_bd hP h (B := 384000000000000) (fun p _ => by have := eqS_bd hP h p; omega) (by decide) hi
  rw [fRow_sum hP hi, eqS_self hi h1.1]
  rw [eqG_s4] at h1
  have h4 : 0 ≤ eqS tt u d f 4 * (u i : Int) := Int.mul_nonneg (Int.le_of_lt h.1) (by omega)
  have h5 : (10 - (tt : Int)) * s4 (fun j => eqS tt u d f j * (d j i : Int)) ≤ 10 * s4 (fun j => eqS tt u d f j * (d j i : Int)) := Int.mul_le_mul_of_nonneg_right (by omega) h3.1
  rw [Int.mul_comm (ow d i : Int)]
  have h6 := h1.2
  generalize (10 - (tt : Int)) * s4 (fun j => eqS tt u d f j * (d j i : Int)) = W at *
  generalize s4 (fun j => eqS tt u d f j * (d j i : Int)) = V at *
  generalize eqS tt u d f 4 * (u i : Int) = U at *
  generalize eqS tt u d f 4 * (ow d i : Int) = O at *
  omega
/-- the houses below n that fall have fallen -/
def gN (tt : Nat) (u : Nat → Nat) (d : Nat → Nat → Nat) (r : Nat) (f : Nat → Nat) (n : Nat) : Nat → Nat := fun i => if i < n ∧ fd tt u d f i then r else f i
theorem gN_ok (hP : RelP k m tt po u d) (hk : k ≤ 512) (h : okF tt u d f) {r : Nat} (hr : 1 ≤ r) : ∀ n, n ≤ 4 → 0 < mdt (eqM tt d (gN tt u d r f n)) ∧ ∀ p q, p < 4 → q < 4 → 0 ≤ cf (eqM tt d (gN tt u d r f n)) q p
  | 0, _ => by
    have e : gN tt u d r f 0 = f := by
      funext i
      unfold gN
      rw [if_neg (by omega)]
    rw [e, ← eqS_4 (u := u)]
    exact ⟨h.1, h.2.1⟩
  | n + 1, hn => by
    have ih := gN_ok hP hk h hr n (by omega)
    have ht : tt ≤ 5 := hP.1.2.2
    have hoth : ∀ p, p ≠ n → gN tt u d r f (n + 1) p = gN tt u d r f n p := by
      intro p hne
      unfold gN
      by_cases z : p < n ∧ fd tt u d f p
      · rw [if_pos z, if_pos ⟨by omega, z.2⟩]
      · rw [if_neg z, if_neg (fun y => z ⟨by omega, y.2⟩)]
    by_cases q : fd tt u d f n
    · have hn0 : gN tt u d r f n n = 0 := by
        unfold gN
        rw [if_neg (by omega)]
        exact q.1
      have hn1 : gN tt u d r f (n + 1) n = r := by
        unfold gN
        rw [if_pos ⟨by omega, q⟩]
      refine zstep (e := eqM tt d (gN tt u d r f n)) (i := n) (a := fRow tt d n) (s := eqS tt u d f) (by omega) (fun j hj => ?_) ih.1 ih.2 (fun j hj hne => ?_) (fun p j hp hj => ?_) (fun p hp => ?_) (new_pos hP hk h (by omega) q)
      · unfold eqM
        rw [if_pos hn0]
      · unfold fRow
        rw [if_neg (fun z => hne z.symm)]
        have := Int.mul_nonneg (a := 10 - (tt : Int)) (b := (d j n : Int)) (by omega) (by omega)
        omega
      · by_cases z : p = n
        · rw [if_pos z, z]
          unfold eqM fRow
          rw [hn1, if_neg (show ¬ r = 0 by omega)]
        · rw [if_neg z]
          unfold eqM
          rw [hoth p z]
      · by_cases z : gN tt u d r f n p = 0
        · rw [s4_one (g := fun j => eqM tt d (gN tt u d r f n) p j * eqS tt u d f j) hp (eqS tt u d f p) (fun j hj => by
            show eqM tt d (gN tt u d r f n) p j * _ = _
            unfold eqM
            rw [if_pos z]
            by_cases y : p = j
            · rw [if_pos y, if_pos y, Int.one_mul, y]
            · rw [if_neg y, if_neg y, Int.zero_mul])]
          exact eqS_nn ht h hp
        · by_cases y : f p = 0
          · have hfd : fd tt u d f p := by
              unfold gN at z
              by_cases x : p < n ∧ fd tt u d f p
              · exact x.2
              · rw [if_neg x] at z
                exact absurd y z
            rw [s4_cong (g := fun j => fRow tt d p j * eqS tt u d f j) (fun j hj => by
              show eqM tt d (gN tt u d r f n) p j * _ = _
              unfold eqM fRow
              rw [if_neg z])]
            exact Int.le_of_lt (new_pos hP hk h hp hfd)
          · rw [s4_cong (g := fun j => eqM tt d f p j * eqS tt u d f j) (fun j hj => by
              show eqM tt d (gN tt u d r f n) p j * _ = _
              unfold eqM
              rw [if_neg z, if_neg y])]
            rw [eqS_solve hp]
            exact Int.mul_nonneg (Int.le_of_lt h.1) (eqR_nn ht)
    · have e : gN tt u d r f (n + 1) = gN tt u d r f n := by
        funext p
        by_cases z : p = n
        · rw [z]
          unfold gN
          rw [if_neg (fun y => q y.2), if_neg (by omega)]
        · exact hoth p z
      rw [e]
      exact ih
theorem nxf_ok (hP : RelP k m tt po u d) (hk : k ≤ 512) (h : okF tt u d f) {r : Nat} (hr : 1 ≤ r) : okF tt u d (nxf tt u d r f) := by
  have h4 := gN_ok hP hk h hr 4 (Nat.le_refl _)
  refine ⟨by rw [eqS_4]; exact h4.1, h4.2, fun i hi z => ?_⟩
  by_cases y : f i = 0
  · have hfd : fd tt u d f i := by
      unfold nxf at z
      by_cases x : i < 4 ∧ fd tt u d f i
      · exact x.2
      · rw [if_neg x] at z
        exact absurd y z
    have h1 := ((fd_int hP hk h hi).mp hfd).2
    have h3 := s4d_bd hP h (B := 384000000000000) (fun p _ => by have := eqS_bd hP h p; omega) (by decide) hi
    rw [eqG_s4] at h1
    have h5 : eqS tt u d f 4 * (u i : Int) < eqS tt u d f 4 * (ow d i : Int) := by omega
    have := Int.lt_of_mul_lt_mul_left h5 (Int.le_of_lt h.1)
    omega
  · exact h.2.2 i hi y
theorem rn_ok (hP : RelP k m tt po u d) (hk : k ≤ 512) : ∀ (q r : Nat) (f : Nat → Nat), 1 ≤ r → okF tt u d f → okF tt u d (rn tt u d q r f).1
  | 0, r, f, _, h => h
  | q + 1, r, f, hr, h => by
    rw [rn]
    by_cases z : an tt u d f
    · rw [if_pos z]
      exact rn_ok hP hk q (r + 1) _ (by omega) (nxf_ok hP hk h hr)
    · rw [if_neg z]
      exact h
theorem rn_end : ∀ (q r : Nat) (f : Nat → Nat), q + r = 5 → 1 ≤ r → r ≤ cnt f + 1 → ¬ an tt u d (rn tt u d q r f).1
  | 0, r, f, e, _, hc => cnt_4 (f := f) (by omega)
  | q + 1, r, f, e, hr, hc => by
    rw [rn]
    by_cases z : an tt u d f
    · rw [if_pos z]
      exact rn_end q (r + 1) _ (by omega) (by omega) (by have := cnt_nx hr z; omega)
    · rw [if_neg z]
      exact z
end PS

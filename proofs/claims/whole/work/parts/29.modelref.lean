/-! the reference -/
section RF
variable {k m tt po : Nat} {u : Nat → Nat} {d : Nat → Nat → Nat} {cash : Nat → Int64} {debts : Nat → Int32}
theorem eqG_cut (hP : RelP k m tt po u d) {f : Nat → Nat} {i : Nat} (hi : i < 4) : ∀ n, n ≤ 4 → m ≤ n → eqG tt u d f i n = eqG tt u d f i m
  | 0, _, h => by rw [show m = 0 by omega]
  | n + 1, hn, h => by
    by_cases e : m = n + 1
    · rw [e]
    · rw [eqG, eqG_cut hP hi n (by omega) (by omega), (hP.2.2.2.1 n (by omega) (by omega)).2 i (by omega)]
      simp
theorem eqG_out (hP : RelP k m tt po u d) {f : Nat → Nat} {i : Nat} (hm : m ≤ i) (hi : i < 4) : ∀ n, n ≤ 4 → eqG tt u d f i n = 0
  | 0, _ => by
    rw [eqG, (hP.2.2.2.1 i hm hi).1]
    simp
  | n + 1, hn => by
    rw [eqG, eqG_out hP hm hi n (by omega), hP.2.2.2.2.1 n i (by omega) hm hi]
    simp
theorem fd_out (hP : RelP k m tt po u d) {f : Nat → Nat} {i : Nat} (hm : m ≤ i) (hi : i < 4) : ¬ fd tt u d f i := by
  rintro ⟨-, h⟩
  rw [eqG_out hP hm hi 4 (Nat.le_refl _), (ow_out hP hm hi).1] at h
  exact h (by simp)
theorem gR_of (hP : RelP k m tt po u d) (hk : k ≤ 512) (hR : RelR m cash debts u d) {f : Nat → Nat} {under : Int64} {shares : Nat → Int64} (hb : under = Int64.ofInt (eqS tt u d f 4)) (hs : ∀ j, j < 4 → shares j = Int64.ofInt (eqS tt u d f j)) {i : Nat} (hi : i < m) : ∀ n, n ≤ m → gR cash under shares debts i n = Int64.ofInt (eqG tt u d f i n)
  | 0, _ => by
    have h4 := hP.1.2.1
    rw [gR, eqG, hb, hR.1 i (by omega), lN_ofInt, Int64.ofInt_mul, Int64.mul_comm]
  | n + 1, hn => by
    have h4 := hP.1.2.1
    have := hP.2.1 n i (by omega) (by omega)
    rw [gR, eqG, gR_of hP hk hR hb hs hi n (by omega), hs n (by omega), hR.2.1 n i (by omega) hi, nI_j (by omega), Int64.ofInt_add, Int64.ofInt_mul]
theorem cR_fd (hP : RelP k m tt po u d) (hk : k ≤ 512) (hR : RelR m cash debts u d) {f : Nat → Nat} {s : rT} (hb : s.2.2.1 = Int64.ofInt (eqS tt u d f 4)) (hs : ∀ j, j < 4 → s.2.1 j = Int64.ofInt (eqS tt u d f j)) {i : Nat} (hi : i < m) (hf : s.1 i = nI (f i)) (hf5 : f i ≤ 5) : cR m cash debts s i ↔ fd tt u d f i := by
  have h4 := hP.1.2.1
  have ho := ow_le hP (show i < 4 by omega)
  unfold cR fd
  rw [hf, i0_eq, nI_eq (by omega) (by decide), gR_of hP hk hR hb hs hi m (Nat.le_refl _), oR_ow hP hR hi, nI_j (by omega), hb, eqG_cut hP (show i < 4 by omega) 4 (Nat.le_refl _) h4, Int64.ofInt_mul, Int64.mul_comm]
theorem nar_01 (P : Prop) [Decidable P] : vp_nar .boolean (nI (if P then 1 else 0)) = nI (if P then 1 else 0) := by
  split <;> rfl
theorem fS_at {s : rT} : ∀ n i, i < n → fS m cash debts s n i = nI (if cR m cash debts s i then 1 else 0)
  | 0, i, h => by omega
  | n + 1, i, h => by
    rw [fS, upd_at]
    by_cases e : i = n
    · rw [if_pos e, nar_01, e]
    · rw [if_neg e, fS_at n i (by omega)]
theorem gS_at {s : rT} : ∀ n, gS m cash debts s n = 0 ↔ ∀ i, i < n → ¬ cR m cash debts s i
  | 0 => ⟨fun _ i hi => by omega, fun _ => rfl⟩
  | n + 1 => by
    have ih := gS_at (s := s) n
    have hl := gS_le (m := m) (cash := cash) (debts := debts) (s := s) n
    have h01 : nI (gS m cash debts s n) = 0 ↔ gS m cash debts s n = 0 := nI_eq (by omega) (by decide)
    rw [gS]
    by_cases z : gS m cash debts s n = 0
    · rw [if_pos (h01.mpr z)]
      by_cases q : cR m cash debts s n
      · rw [if_pos q]
        exact ⟨fun h => absurd h (by decide), fun h => absurd q (h n (by omega))⟩
      · rw [if_neg q]
        refine ⟨fun _ i hi => ?_, fun _ => rfl⟩
        by_cases e : i = n
        · rw [e]; exact q
        · exact ih.mp z i (by omega)
    · rw [if_neg (fun y => z (h01.mp y))]
      exact ⟨fun h => absurd h (by decide), fun h => absurd (ih.mpr (fun i hi => h i (by omega))) z⟩
theorem fF_at {fallen falls : Nat → Int32} {r : Int32} : ∀ n i, fF fallen falls r n i = if i < n then (if falls i = 0 then fallen i else r) else fallen i
  | 0, i => by rw [fF, if_neg (by omega)]
  | n + 1, i => by
    rw [fF, upd_at]
    by_cases e : i = n
    · subst e
      rw [if_pos rfl, if_pos (show i < i + 1 by omega), fF_at i i, if_neg (show ¬ i < i by omega)]
    · rw [if_neg e, fF_at n i]
      by_cases z : i < n
      · rw [if_pos z, if_pos (show i < n + 1 by omega)]
      · rw [if_neg z, if_neg (show ¬ i < n + 1 by omega)]
theorem tb_at {fallen : Nat → Int32} {toll : Int32} {i : Nat} {table : Nat → Int64} : ∀ n q, tb m toll debts fallen i table n q = if 4 * i ≤ q ∧ q < 4 * i + n then tE m toll debts fallen i (q - 4 * i) else table q
  | 0, q => by rw [tb, if_neg (by omega)]
  | n + 1, q => by
    rw [tb, updL_at]
    by_cases e : q = 4 * i + n
    · rw [if_pos e, if_pos (show 4 * i ≤ q ∧ q < 4 * i + (n + 1) by omega), show q - 4 * i = n by omega]
    · rw [if_neg e, tb_at n q]
      by_cases z : 4 * i ≤ q ∧ q < 4 * i + n
      · rw [if_pos z, if_pos (show 4 * i ≤ q ∧ q < 4 * i + (n + 1) by omega)]
      · rw [if_neg z, if_neg (show ¬ (4 * i ≤ q ∧ q < 4 * i + (n + 1)) by omega)]
theorem fR_iff {fallen : Nat → Int32} {f : Nat → Nat} (h4 : m ≤ 4) {i : Nat} (hi : i < 4) (hf : fallen i = nI (f i)) (hf5 : f i ≤ 5) (hm : m ≤ i → f i = 0) : fR m fallen i ↔ ¬ f i = 0 := by
  unfold fR
  rw [hf, nI_le0 (by omega), nI_leI (by omega) (by omega)]
  exact ⟨fun h => h.2, fun h => ⟨fun z => h (hm z), h⟩⟩
theorem keep_l (h : tt ≤ 5) : (nI 10 - nI tt).toInt64 = Int64.ofInt (10 - (tt : Int)) := by
  rw [keep_tt h, oI_l (by omega) (by omega)]
theorem tE_of (hP : RelP k m tt po u d) (hR : RelR m cash debts u d) {fallen : Nat → Int32} {f : Nat → Nat} {i j : Nat} (hi : i < 4) (hj : j < 4) (hf : fallen i = nI (f i)) (hf5 : f i ≤ 5) (hm : m ≤ i → f i = 0) : tE m (nI tt) debts fallen i j = Int64.ofInt (eqM tt d f i j) := by
  have h4 := hP.1.2.1
  have hr := fR_iff h4 hi hf hf5 hm
  have e1 : nI j = nI i ↔ i = j := by
    rw [nI_eq (by omega) (by omega)]
    omega
  have e2 : nI m ≤ nI j ↔ m ≤ j := nI_leI (by omega) (by omega)
  unfold tE eqM
  by_cases q : f i = 0
  · rw [if_pos q]
    have hn : ¬ fR m fallen i := fun z => hr.mp z q
    simp only [if_neg hn]
    by_cases e : i = j
    · rw [if_pos (e1.mpr e), if_pos e]; rfl
    · rw [if_neg (fun z => e (e1.mp z)), if_neg e]; rfl
  · have him : i < m := by
      rcases Nat.lt_or_ge i m with z | z
      · exact z
      · exact absurd (hm z) q
    have ho := ow_le hP hi
    rw [if_neg q]
    have hn : fR m fallen i := hr.mpr q
    simp only [if_pos hn]
    rw [keep_l hP.1.2.2, oR_ow hP hR him, nI_j (by omega)]
    have ed : (if nI m ≤ nI j then (0 : Int64) else (debts (5 * j + i)).toInt64) = Int64.ofInt (d j i : Int) := by
      by_cases z : m ≤ j
      · rw [if_pos (e2.mpr z), (hP.2.2.2.1 j z hj).2 i (by omega)]; rfl
      · have := hP.2.1 j i hj (by omega)
        rw [if_neg (fun y => z (e2.mp y)), hR.2.1 j i (by omega) him, nI_j (by omega)]
    rw [ed]
    by_cases e : i = j
    · subst e
      rw [if_pos rfl, if_pos rfl, hP.2.2.1 i hi, ← Int64.ofInt_mul, Int64.ofInt_mul 10]
      show _ - Int64.ofInt ((10 - (tt : Int)) * 0) = _
      rw [Int.mul_zero]
      exact Int64.sub_zero _
    · rw [if_neg (fun z => e (e1.mp z)), if_neg e, ← Int64.ofInt_mul, Int64.ofInt_neg]
      exact Int64.zero_sub _
theorem eqs_at (hP : RelP k m tt po u d) (hR : RelR m cash debts u d) {fallen : Nat → Int32} {f : Nat → Nat} (hf : ∀ i, i < 4 → fallen i = nI (f i) ∧ f i ≤ 5 ∧ (m ≤ i → f i = 0)) (s : mT) : ∀ n, n ≤ 4 → ∀ i, i < n → (∀ j, j < 4 → (eqs m (nI tt) cash debts fallen s n).1 (4 * i + j) = Int64.ofInt (eqM tt d f i j)) ∧ (eqs m (nI tt) cash debts fallen s n).2 i = Int64.ofInt (eqR tt u f i)
  | 0, _, i, hi => by omega
  | n + 1, hn, i, hi => by
    have h4 := hP.1.2.1
    have hfi := hf i (by omega)
    by_cases e : i = n
    · subst e
      refine ⟨fun j hj => ?_, ?_⟩
      · rw [eqs]
        show tb m (nI tt) debts fallen i (eqs m (nI tt) cash debts fallen s i).1 4 (4 * i + j) = _
        rw [tb_at, if_pos (show 4 * i ≤ 4 * i + j ∧ 4 * i + j < 4 * i + 4 by omega), show 4 * i + j - 4 * i = j by omega]
        exact tE_of hP hR (by omega) hj hfi.1 hfi.2.1 hfi.2.2
      · rw [eqs]
        show rG m (nI tt) cash fallen i (eqs m (nI tt) cash debts fallen s i).2 i = _
        unfold rG eqR
        rw [updL_at, if_pos rfl]
        have hr := fR_iff h4 (show i < 4 by omega) hfi.1 hfi.2.1 hfi.2.2
        by_cases q : f i = 0
        · have hnn : ¬ fR m fallen i := fun z => hr.mp z q
          rw [if_neg hnn, if_pos q]; rfl
        · rw [if_pos (hr.mpr q), if_neg q, keep_l hP.1.2.2, hR.1 i (by omega), lN_ofInt, Int64.ofInt_mul]
    · have ih := eqs_at hP hR hf s n (by omega) i (by omega)
      refine ⟨fun j hj => ?_, ?_⟩
      · rw [eqs]
        show tb m (nI tt) debts fallen n (eqs m (nI tt) cash debts fallen s n).1 4 (4 * i + j) = _
        rw [tb_at, if_neg (show ¬ (4 * n ≤ 4 * i + j ∧ 4 * i + j < 4 * n + 4) by omega)]
        exact ih.1 j hj
      · rw [eqs]
        show rG m (nI tt) cash fallen n (eqs m (nI tt) cash debts fallen s n).2 i = _
        unfold rG
        rw [updL_at, if_neg e]
        exact ih.2
theorem tW_at {table right : Nat → Int64} {c : Int32} {t : Nat → Int64} : ∀ n q, tW table right c t n q = if q < n then (if nI (q % 4) = c then right (q / 4) else table q) else t q
  | 0, q => by rw [tW, if_neg (by omega)]
  | n + 1, q => by
    rw [tW, updL_at]
    by_cases e : q = n
    · rw [if_pos e, if_pos (show q < n + 1 by omega), e]
    · rw [if_neg e, tW_at n q]
      by_cases z : q < n
      · rw [if_pos z, if_pos (show q < n + 1 by omega)]
      · rw [if_neg z, if_neg (show ¬ q < n + 1 by omega)]
theorem dq_of {f : Nat → Nat} {table right t : Nat → Int64} (h : ∀ i, i < 4 → (∀ j, j < 4 → table (4 * i + j) = Int64.ofInt (eqM tt d f i j)) ∧ right i = Int64.ofInt (eqR tt u f i)) : (∀ p, p < 4 → dq (tW table right (nI p) t 16) = Int64.ofInt (eqS tt u d f p)) ∧ dq (tW table right (-1) t 16) = Int64.ofInt (eqS tt u d f 4) := by
  refine ⟨fun p hp => ?_, ?_⟩
  · refine (show dq (tW table right (nI p) t 16) = mdJ (fun r c => tW table right (nI p) t 16 (4 * r + c)) from rfl).trans (mdJ_of (fun r c hr hc => ?_))
    show tW table right (nI p) t 16 (4 * r + c) = _
    rw [tW_at, if_pos (show 4 * r + c < 16 by omega), show (4 * r + c) % 4 = c by omega, show (4 * r + c) / 4 = r by omega]
    unfold eqE
    by_cases e : c = p
    · rw [if_pos (show nI c = nI p by rw [e]), if_pos e]
      exact (h r hr).2
    · rw [if_neg (fun z => e ((nI_eq (by omega) (by omega)).mp z)), if_neg e]
      exact (h r hr).1 c hc
  · refine (show dq (tW table right (-1) t 16) = mdJ (fun r c => tW table right (-1) t 16 (4 * r + c)) from rfl).trans (mdJ_of (fun r c hr hc => ?_))
    show tW table right (-1) t 16 (4 * r + c) = _
    rw [tW_at, if_pos (show 4 * r + c < 16 by omega), show (4 * r + c) % 4 = c by omega, show (4 * r + c) / 4 = r by omega]
    unfold eqE
    rw [if_neg (nI_nm1 c hc), if_neg (show ¬ c = 4 by omega)]
    exact (h r hr).1 c hc
theorem sR_at {table right tried shares : Nat → Int64} : ∀ n q, sR table right tried shares n q = if q < n then dq (trs table right tried (q + 1)) else shares q
  | 0, q => by rw [sR, if_neg (by omega)]
  | n + 1, q => by
    rw [sR, updL_at]
    by_cases e : q = n
    · rw [if_pos e, if_pos (show q < n + 1 by omega), e]
    · rw [if_neg e, sR_at n q]
      by_cases z : q < n
      · rw [if_pos z, if_pos (show q < n + 1 by omega)]
      · rw [if_neg z, if_neg (show ¬ q < n + 1 by omega)]
/-- the reference's state stands for the fallen houses f, after round r -/
def kR (tt : Nat) (u : Nat → Nat) (d : Nat → Nat → Nat) (f : Nat → Nat) (r : Nat) (s : rT) : Prop := (∀ i, i < 4 → s.1 i = nI (f i)) ∧ (∀ i, i < 4 → s.2.1 i = Int64.ofInt (eqS tt u d f i)) ∧ s.2.2.2.2.2.2.2 = nI r ∧ s.2.2.1 = Int64.ofInt (eqS tt u d f 4)
theorem rslv_kR (hP : RelP k m tt po u d) (hR : RelR m cash debts u d) {f : Nat → Nat} {s : rT} {r : Nat} (hf : ∀ i, i < 4 → s.1 i = nI (f i) ∧ f i ≤ 5 ∧ (m ≤ i → f i = 0)) (hr : s.2.2.2.2.2.2.2 = nI r) : kR tt u d f r (rslv m (nI tt) cash debts s) := by
  have h := eqs_at hP hR hf (s.2.2.2.1, s.2.2.2.2.1) 4 (Nat.le_refl _)
  refine ⟨fun i hi => (hf i hi).1, fun i hi => ?_, hr, (dq_of (t := s.2.2.2.2.2.1) h).2⟩
  show sR (eqs m (nI tt) cash debts s.1 (s.2.2.2.1, s.2.2.2.2.1) 4).1 (eqs m (nI tt) cash debts s.1 (s.2.2.2.1, s.2.2.2.2.1) 4).2 s.2.2.2.2.2.1 s.2.1 4 i = _
  rw [sR_at, if_pos hi, trs]
  exact (dq_of (u := u) h).1 i hi
def cnt (f : Nat → Nat) : Nat := fb4 (fun i => if f i = 0 then 0 else 1)
theorem cnt_nx {f : Nat → Nat} {r : Nat} (hr : 1 ≤ r) (ha : an tt u d f) : cnt f + 1 ≤ cnt (nxf tt u d r f) := by
  have h : ∀ i, i < 4 → (fd tt u d f i ∧ (if f i = 0 then 0 else 1) = 0 ∧ (if nxf tt u d r f i = 0 then 0 else 1) = 1) ∨ (¬ fd tt u d f i ∧ (if nxf tt u d r f i = 0 then 0 else 1) = (if f i = 0 then 0 else 1)) := by
    intro i hi
    by_cases q : fd tt u d f i
    · refine Or.inl ⟨q, if_pos q.1, ?_⟩
      unfold nxf
      rw [if_pos (show i < 4 ∧ fd tt u d f i from ⟨hi, q⟩), if_neg (show ¬ r = 0 by omega)]
    · refine Or.inr ⟨q, ?_⟩
      unfold nxf
      rw [if_neg (show ¬ (i < 4 ∧ fd tt u d f i) from fun z => q z.2)]
  have h0 := h 0 (by omega)
  have h1 := h 1 (by omega)
  have h2 := h 2 (by omega)
  have h3 := h 3 (by omega)
  show (if f 0 = 0 then 0 else 1) + (if f 1 = 0 then 0 else 1) + (if f 2 = 0 then 0 else 1) + (if f 3 = 0 then 0 else 1) + 1 ≤ (if nxf tt u d r f 0 = 0 then 0 else 1) + (if nxf tt u d r f 1 = 0 then 0 else 1) + (if nxf tt u d r f 2 = 0 then 0 else 1) + (if nxf tt u d r f 3 = 0 then 0 else 1)
  generalize (if f 0 = 0 then 0 else 1) = a0 at *
  generalize (if f 1 = 0 then 0 else 1) = a1 at *
  generalize (if f 2 = 0 then 0 else 1) = a2 at *
  generalize (if f 3 = 0 then 0 else 1) = a3 at *
  generalize (if nxf tt u d r f 0 = 0 then 0 else 1) = b0 at *
  generalize (if nxf tt u d r f 1 = 0 then 0 else 1) = b1 at *
  generalize (if nxf tt u d r f 2 = 0 then 0 else 1) = b2 at *
  generalize (if nxf tt u d r f 3 = 0 then 0 else 1) = b3 at *
  rcases ha with q | q | q | q
  · rcases h0 with ⟨-, z1, z2⟩ | ⟨z, -⟩
    · rcases h1 with y | y <;> rcases h2 with x | x <;> rcases h3 with w | w <;> omega
    · exact absurd q z
  · rcases h1 with ⟨-, z1, z2⟩ | ⟨z, -⟩
    · rcases h0 with y | y <;> rcases h2 with x | x <;> rcases h3 with w | w <;> omega
    · exact absurd q z
  · rcases h2 with ⟨-, z1, z2⟩ | ⟨z, -⟩
    · rcases h0 with y | y <;> rcases h1 with x | x <;> rcases h3 with w | w <;> omega
    · exact absurd q z
  · rcases h3 with ⟨-, z1, z2⟩ | ⟨z, -⟩
    · rcases h0 with y | y <;> rcases h1 with x | x <;> rcases h2 with w | w <;> omega
    · exact absurd q z
theorem cnt_4 {f : Nat → Nat} (h : 4 ≤ cnt f) : ¬ an tt u d f := by
  have h : 4 ≤ (if f 0 = 0 then 0 else 1) + (if f 1 = 0 then 0 else 1) + (if f 2 = 0 then 0 else 1) + (if f 3 = 0 then 0 else 1) := h
  rintro (⟨q, -⟩ | ⟨q, -⟩ | ⟨q, -⟩ | ⟨q, -⟩)
  all_goals
    rw [if_pos q] at h
    repeat' split at h
    all_goals omega
theorem clr_kR (hP : RelP k m tt po u d) (hk : k ≤ 512) (hR : RelR m cash debts u d) : ∀ (q r : Nat) (f : Nat → Nat) (s : rT), q + r = 5 → 1 ≤ r → (∀ i, i < 4 → f i ≤ 5 ∧ (m ≤ i → f i = 0)) → r ≤ cnt f + 1 → kR tt u d f (r - 1) s → ∃ s9, clr m (nI tt) cash debts (q + 1) s = some s9 ∧ kR tt u d (rn tt u d q r f).1 (rn tt u d q r f).2 s9
  | q, r, f, s, e, hr, h5, hc, h => by
    have h4 := hP.1.2.1
    have hcd : ∀ i, i < m → (cR m cash debts s i ↔ fd tt u d f i) := fun i hi => cR_fd hP hk hR h.2.2.2 h.2.1 hi (h.1 i (by omega)) (h5 i (by omega)).1
    have hl := gS_le (m := m) (cash := cash) (debts := debts) (s := s) m
    have h01 : nI (gS m cash debts s m) = 0 ↔ gS m cash debts s m = 0 := nI_eq (by omega) (by decide)
    by_cases z : an tt u d f
    · match q with
      | 0 => exact absurd z (cnt_4 (by omega))
      | q + 1 =>
        obtain ⟨i, hi, hz⟩ := an_iff.mp z
        have him : i < m := by
          rcases Nat.lt_or_ge i m with y | y
          · exact y
          · exact absurd hz (fd_out hP y hi)
        rw [clr, if_neg (fun y => gS_at m |>.mp (h01.mp y) i him ((hcd i him).mpr hz)), rn, if_pos z]
        have hn : ∀ i, i < 4 → fF s.1 (fS m cash debts s m) (s.2.2.2.2.2.2.2 + nI 1) m i = nI (nxf tt u d r f i) ∧ nxf tt u d r f i ≤ 5 ∧ (m ≤ i → nxf tt u d r f i = 0) := by
          intro i hi
          have h5i := h5 i hi
          rw [fF_at]
          unfold nxf
          by_cases y : i < m
          · rw [if_pos y, fS_at m i y]
            by_cases x : fd tt u d f i
            · rw [if_pos ((hcd i y).mpr x), if_neg (show ¬ nI 1 = 0 by decide), if_pos (show i < 4 ∧ fd tt u d f i from ⟨hi, x⟩), h.2.2.1, nI_add, show r - 1 + 1 = r by omega]
              exact ⟨rfl, by omega, fun w => by omega⟩
            · rw [if_neg (fun w => x ((hcd i y).mp w)), if_pos (show nI 0 = 0 from rfl), if_neg (fun w => x w.2)]
              exact ⟨h.1 i hi, h5i⟩
          · rw [if_neg y, if_neg (fun w => fd_out hP (by omega) hi w.2)]
            exact ⟨h.1 i hi, h5i⟩
        refine clr_kR hP hk hR q (r + 1) (nxf tt u d r f) _ (by omega) (by omega) (fun i hi => (hn i hi).2) (by have := cnt_nx hr z; omega) ?_
        refine rslv_kR hP hR hn ?_
        show s.2.2.2.2.2.2.2 + nI 1 = nI (r + 1 - 1)
        rw [h.2.2.1, nI_add]
        congr 1
        omega
    · have hz : gS m cash debts s m = 0 := (gS_at m).mpr (fun i hi y => z (an_iff.mpr ⟨i, by omega, (hcd i hi).mp y⟩))
      refine ⟨_, by rw [clr, if_pos (h01.mpr hz)], ?_⟩
      have er : rn tt u d q r f = (f, r - 1) := by
        match q with
        | 0 => rfl
        | q + 1 => rw [rn, if_neg z]
      rw [er]
      exact ⟨h.1, h.2.1, h.2.2.1, h.2.2.2⟩
/-- the reference, cleared, stands for the model's last round -/
theorem ref_kR (hP : RelP k m tt po u d) (hk : k ≤ 512) (hR : RelR m cash debts u d) (fallen : Nat → Int32) (shares : Nat → Int64) (under : Int64) (table right tried : Nat → Int64) (falls : Nat → Int32) : ∃ s9, clr m (nI tt) cash debts 5 (rslv m (nI tt) cash debts (zf fallen 4, shares, under, table, right, tried, falls, nI 0)) = some s9 ∧ kR tt u d (rn tt u d 4 1 (fun _ => 0)).1 (rn tt u d 4 1 (fun _ => 0)).2 s9 :=
  clr_kR hP hk hR 4 1 (fun _ => 0) _ rfl (Nat.le_refl _) (fun _ _ => ⟨Nat.zero_le _, fun _ => rfl⟩) (by omega) (rslv_kR hP hR (fun i hi => ⟨zf_in hi, Nat.zero_le _, fun _ => rfl⟩) rfl)
end RF

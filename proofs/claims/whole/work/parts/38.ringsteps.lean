/-! rings, ring, cancel, cancelAll -/
theorem tl_cong {f g : Nat → Nat} : ∀ n, (∀ i, i < n → f i = g i) → tl f n = tl g n
  | 0, _ => rfl
  | n + 1, h => by rw [tl, tl, tl_cong n (fun i hi => h i (by omega)), h n (by omega)]
theorem rgf_mem {p : Nat × Nat → Bool} {q : Nat} {y : Nat × Nat} (h : (rgL.filter p)[q]? = some y) : y ∈ rgL ∧ p y = true := List.mem_filter.mp (List.mem_of_getElem? h)
theorem ref_ring {k m tt po : Nat} {cash : Nat → Int64} {debts : Nat → Int32} {c : Nat → Nat} {d : Nat → Nat → Nat} (hP : RelP k m tt po c d) (hR : RelR m cash debts c d) {q : Nat} (hq : q < 2 ^ 31) (ro r : Nat → Nat) : ((rgL.filter (dvB d))[q]? = none → (skF debts m (nI q) ro r).2.1 = 0) ∧ ∀ y, (rgL.filter (dvB d))[q]? = some y → (skF debts m (nI q) ro r).2.1 = y.1 ∧ ∀ i, i < y.1 → (skF debts m (nI q) ro r).2.2.1 i = cdg y i := by
  have h := skF_rX (debts := debts) (w := nI q) (ro := ro) (r := r) hP.1.1 hP.1.2.1
  rw [ref_live hP hR] at h
  have hg := stp_get hq (rgL.filter (dvB d)) 0 none (rgf_len _)
  rw [if_pos (Nat.zero_le _), Nat.sub_zero] at hg
  refine ⟨fun z => h.2.1 ?_, fun y z => h.2.2 y ?_⟩
  · rw [hg, z]
  · rw [hg, z]
theorem st_rings (Z : ZT) : StI Z yX3_rings cX3_rings 1 4 yX4_rings cX4_rings 1 2 [] := by
  intro k wc wr hk hR
  obtain ⟨m, tt, po, c, d, coin, debt, fall, shr, mat, rgt, pen, last, below, cash, debts, fallen, rounds, shares, under, table, right, tried, falls, rsize, ro, r, found, hh, hP, hC, hRr, rfl, rfl⟩ := hR
  have h := (skF_rX (debts := debts) (w := (-1)) (ro := ro) (r := r) hP.1.1 hP.1.2.1).1
  rw [ref_live hP hRr, stp_cnt] at h
  have h2 := hm_len hP hC 20 (Nat.le_refl _)
  have e : (skF debts m (-1) ro r).1 = hm debt 20 := by
    rw [h, h2, show rgL.take 20 = rgL from rfl, Nat.zero_add]
  exact bothI M_rings (R_rings hP.1.2.1 hP.1.1) (congrArg nI e) (Rel.mk hP.up hC hRr)
theorem st_ring (Z : ZT) (a : Int32) : StI Z yX3_ring cX3_ring 2 4 yX4_ring cX4_ring 4 2 [.int a] := by
  intro k wc wr hk hR
  have hR0 := hR
  obtain ⟨m, tt, po, c, d, coin, debt, fall, shr, mat, rgt, pen, last, below, cash, debts, fallen, rounds, shares, under, table, right, tried, falls, rsize, ro, r, found, hh, hP, hC, hRr, rfl, rfl⟩ := hR
  by_cases ha : a < 0
  · exact bothI M_ring (R_ring_U ha) (fgo_neg ha 20 0 0 (Nat.le_refl _) rfl).symm hR0.up
  · have h0 : 0 ≤ a := Int32.not_lt.mp ha
    have h1 : (0 : Int) ≤ a.toInt := le_I.mp h0
    have h2 : a.toInt < 2 ^ 31 := Int32.toInt_lt a
    have e : a = nI a.toInt.toNat := Int32.toInt_inj.mp (by rw [nI_toInt (by omega)]; omega)
    have hq : a.toInt.toNat < 2 ^ 31 := by omega
    generalize a.toInt.toNat = q at e hq
    subst e
    have hr := ref_ring hP hRr hq ro r
    have hf := fgo_get hP hC hq 20 0 0 rfl (Nat.le_refl _) (Nat.zero_le _)
    rw [Nat.sub_zero, show rgL.drop 0 = rgL from rfl] at hf
    refine bothI M_ring (R_ring hP.1.2.1 hP.1.1 h0) ?_ (Rel.mk hP.up hC hRr)
    rw [hf]
    cases hy : (rgL.filter (dvB d))[q]? with
    | none =>
      rw [hr.1 hy, if_pos (show nI 0 = 0 from rfl)]
      rfl
    | some y =>
      have hs := rgL_sz y (rgf_mem hy).1
      have h3 := hr.2 y hy
      rw [h3.1, if_neg (fun z => by have := (nI_eq (b := 0) (by omega) (by decide)).mp z; omega), tl_cong y.1 h3.2]
      rfl
/-! a ring's debts fall by its least -/
abbrev onR (y : Nat × Nat) (a b : Nat) : Prop := ∃ i, i < y.1 ∧ (a = cdg y i ∧ b = cdg y (nx y.1 i))
def rd (d : Nat → Nat → Nat) (j : Nat) : Nat → Nat → Nat := fun a b => if onR (tlg j) a b then d a b - rl d j else d a b
theorem rd_le {d : Nat → Nat → Nat} {j a b : Nat} : rd d j a b ≤ d a b := by
  unfold rd
  split <;> omega
theorem dsum_mono {f g : Nat → Nat → Nat} (h : ∀ a b, f a b ≤ g a b) : dsum f ≤ dsum g := by
  have h5 : ∀ i, fb5 (f i) ≤ fb5 (g i) := fun i => by
    have := h i 0
    have := h i 1
    have := h i 2
    have := h i 3
    have := h i 4
    unfold fb5
    omega
  have := h5 0
  have := h5 1
  have := h5 2
  have := h5 3
  show fb5 (f 0) + fb5 (f 1) + fb5 (f 2) + fb5 (f 3) ≤ fb5 (g 0) + fb5 (g 1) + fb5 (g 2) + fb5 (g 3)
  omega
theorem RelP_le {k m tt po : Nat} {c : Nat → Nat} {d e : Nat → Nat → Nat} (hP : RelP k m tt po c d) (h : ∀ a b, e a b ≤ d a b) : RelP k m tt po c e := by
  obtain ⟨h1, h2, h3, h4, h5, h6, h7⟩ := hP
  have hd := dsum_mono h
  refine ⟨h1, fun i j hi hj => Nat.le_trans (h i j) (h2 i j hi hj), fun i hi => by have := h i i; have := h3 i hi; omega, fun i hm hi => ⟨(h4 i hm hi).1, fun j hj => by have := h i j; have := (h4 i hm hi).2 j hj; omega⟩, fun i j hi hm hj => by have := h i j; have := h5 i j hi hm hj; omega, fun i hi => by have := h6 i hi; omega, by omega⟩
theorem nI_sub {a b : Nat} (h : b ≤ a) : nI a - nI b = nI (a - b) := by
  have e : nI a = nI (a - b) + nI b := by rw [nI_add, Nat.sub_add_cancel h]
  rw [e, Int32.add_sub_cancel]
theorem ls_at {debt : Nat → Int32} {V : Int32} {j : Nat} (hj : j < 20) : ∀ n, n ≤ (tlg j).1 → ∀ q, ls debt (fg j) V n q = if ∃ i, i < n ∧ ce (fg j) i = q then debt q - V else debt q
  | 0, _, q => by rw [ls, if_neg (fun ⟨i, h, _⟩ => by omega)]
  | n + 1, hn, q => by
    have ih := ls_at (debt := debt) (V := V) hj n (by omega)
    rw [ls, upd_at]
    by_cases e : q = ce (fg j) n
    · rw [if_pos e, if_pos ⟨n, by omega, e.symm⟩, ih, if_neg (fun ⟨i, h, z⟩ => tlg_ne j hj n (by omega) i h z), e]
    · rw [if_neg e, ih]
      by_cases z : ∃ i, i < n ∧ ce (fg j) i = q
      · obtain ⟨i, z1, z2⟩ := z
        rw [if_pos ⟨i, z1, z2⟩, if_pos ⟨i, by omega, z2⟩]
      · rw [if_neg z, if_neg]
        rintro ⟨i, z1, z2⟩
        by_cases w : i = n
        · exact e (w ▸ z2.symm)
        · exact z ⟨i, by omega, z2⟩
theorem dlR_at {debts : Nat → Int32} {V : Int32} {ro : Nat → Nat} {j : Nat} (hj : j < 20) (hro : ∀ i, i < (tlg j).1 → ro i = cdg (tlg j) i) : ∀ n, n ≤ (tlg j).1 → ∀ q, dlR debts ro (tlg j).1 V n q = if ∃ i, i < n ∧ 5 * cdg (tlg j) i + cdg (tlg j) (nx (tlg j).1 i) = q then debts q - V else debts q
  | 0, _, q => by rw [dlR, if_neg (fun ⟨i, h, _⟩ => by omega)]
  | n + 1, hn, q => by
    have ih := dlR_at (debts := debts) (V := V) hj hro n (by omega)
    have hz := (tlg_sz j hj).2.2.1
    have hc : cel ro (tlg j).1 n = 5 * cdg (tlg j) n + cdg (tlg j) (nx (tlg j).1 n) := by
      show 5 * ro n + ro (nx (tlg j).1 n) = _
      rw [hro n (by omega), hro _ (nx_lt (by omega) hz)]
    rw [dlR, upd_at, hc]
    by_cases e : q = 5 * cdg (tlg j) n + cdg (tlg j) (nx (tlg j).1 n)
    · rw [if_pos e, if_pos ⟨n, by omega, e.symm⟩, ih, if_neg (fun ⟨i, h, z⟩ => tlg_ne2 j hj n (by omega) i h z), e]
    · rw [if_neg e, ih]
      by_cases z : ∃ i, i < n ∧ 5 * cdg (tlg j) i + cdg (tlg j) (nx (tlg j).1 i) = q
      · obtain ⟨i, z1, z2⟩ := z
        rw [if_pos ⟨i, z1, z2⟩, if_pos ⟨i, by omega, z2⟩]
      · rw [if_neg z, if_neg]
        rintro ⟨i, z1, z2⟩
        by_cases w : i = n
        · exact e (w ▸ z2.symm)
        · exact z ⟨i, by omega, z2⟩
theorem live_lt {k m tt po : Nat} {c : Nat → Nat} {d : Nat → Nat → Nat} (hP : RelP k m tt po c d) {y : Nat × Nat} (h : dvB d y = true) {i : Nat} (hi : i < y.1) : cdg y i < m := by
  have h := of_decide_eq_true h
  rcases Nat.lt_or_ge (cdg y i) m with w | w
  · exact w
  · exact absurd ((hP.2.2.2.1 _ w (cdg_lt y i)).2 _ (by have := cdg_lt y (nx y.1 i); omega)) (h i hi)
theorem loR_mR {k m tt po : Nat} {cash : Nat → Int64} {debts : Nat → Int32} {c : Nat → Nat} {d : Nat → Nat → Nat} (hP : RelP k m tt po c d) (hR : RelR m cash debts c d) {y : Nat × Nat} (hz : y.1 ≤ 4) (hl : dvB d y = true) {ro : Nat → Nat} (hro : ∀ i, i < y.1 → ro i = cdg y i) : ∀ n, n ≤ y.1 → loR debts ro y.1 n = nI (mR (rv d y) n)
  | 0, _ => rfl
  | n + 1, hn => by
    have hc : debts (cel ro y.1 n) = nI (rv d y n) := by
      show debts (5 * ro n + ro (nx y.1 n)) = _
      rw [hro n (by omega), hro _ (nx_lt (by omega) hz)]
      exact hR.2.1 _ _ (live_lt hP hl (by omega)) (live_lt hP hl (nx_lt (by omega) hz))
    have ih := loR_mR hP hR hz hl hro n (by omega)
    rw [loR, mR, hc, ih]
    by_cases e : n = 0
    · rw [if_pos (by rw [e]; rfl), if_pos e, e]
    · have h5 := rv_le hP y n
      have hm5 : mR (rv d y) n ≤ 50 := by
        match n, e with
        | 0, e => exact absurd rfl e
        | n + 1, _ =>
          have : ∀ n, mR (rv d y) (n + 1) ≤ 50 := by
            intro n
            induction n with
            | zero => exact rv_le hP y 0
            | succ n ih => rw [mR_s]; omega
          exact this n
      rw [if_neg (show ¬ nI n = 0 from fun z => e ((nI_eq (b := 0) (by omega) (by decide)).mp z)), if_neg e]
      by_cases w : mR (rv d y) n ≤ rv d y n
      · rw [if_pos (nI_le w (by omega)), if_pos w]
      · rw [if_neg (nI_ge (by omega) (by omega)), if_neg w]
/-- the first ring away: books behind it -/
theorem cancel_both {k m tt po : Nat} {coin debt debts : Nat → Int32} {cash : Nat → Int64} {c : Nat → Nat} {d : Nat → Nat → Nat} (hP : RelP k m tt po c d) (hC : RelC coin debt c d) (hR : RelR m cash debts c d) (ro r : Nat → Nat) {j : Nat} (hf : fr debt = some j) :
    ¬ rl d j = 0 ∧ lm debt (fg j) (sz (fg j)) = nI (rl d j) ∧ coL m (debts, ro, r) = nI (rl d j) ∧ (skF debts m (nI 0) ro r).2.1 = sz (fg j) ∧ j < 20 ∧ RelP k m tt po c (rd d j) ∧ RelC coin (ls debt (fg j) (nI (rl d j)) (sz (fg j))) c (rd d j) ∧ RelR m cash (coN m (debts, ro, r)).1 c (rd d j) := by
  have hj : j < 20 := by have := frk_lt hf; omega
  have hg := frk_get hP hC 20 0 rfl
  rw [show rgL.drop 0 = rgL from rfl, show frk debt 20 0 = some j from hf] at hg
  have hl : dvB d (tlg j) = true := (rgf_mem hg).2
  have hx := (ref_ring hP hR (q := 0) (by decide) ro r).2 (tlg j) hg
  have hs := tlg_sz j hj
  have hle := rl_le (d := d) (j := j)
  have h4 := hP.1.2.1
  have hlo : coL m (debts, ro, r) = nI (rl d j) := by
    show loR debts (skF debts m (nI 0) ro r).2.2.1 (skF debts m (nI 0) ro r).2.1 (skF debts m (nI 0) ro r).2.1 = _
    rw [hx.1, loR_mR hP hR hs.2.2.1 hl hx.2 _ (Nat.le_refl _)]
    unfold rl
    rw [mC_mR (fun i => rv_le hP (tlg j) i) hs.2.1 hs.2.2.1]
  refine ⟨(rl_live hj).mpr hl, lm_rl hP hC hj, hlo, hx.1.trans hs.1.symm, hj, RelP_le hP (fun a b => rd_le), ⟨hC.1, fun a b ha hb => ?_⟩, ⟨hR.1, fun a b ha hb => ?_, fun a ha => ?_⟩⟩
  · rw [hs.1, ls_at hj _ (Nat.le_refl _)]
    unfold rd
    have hce : (∃ i, i < (tlg j).1 ∧ ce (fg j) i = a * 5 + b) ↔ onR (tlg j) a b := by
      constructor
      · rintro ⟨i, h1, h2⟩
        rw [tlg_ce j hj i h1] at h2
        have := cdg_lt (tlg j) (nx (tlg j).1 ((tlg j).1 - 1 - i))
        have h3 := (cell_eq hb (by omega)).mp h2
        exact ⟨(tlg j).1 - 1 - i, by omega, h3.1.symm, h3.2.symm⟩
      · rintro ⟨i, h1, h2, h3⟩
        refine ⟨(tlg j).1 - 1 - i, by omega, ?_⟩
        rw [tlg_ce j hj _ (by omega), show (tlg j).1 - 1 - ((tlg j).1 - 1 - i) = i by omega, h2, h3]
    by_cases z : onR (tlg j) a b
    · rw [if_pos (hce.mpr z), if_pos z, hC.2 a b ha hb]
      obtain ⟨i, h1, h2, h3⟩ := z
      refine nI_sub ?_
      have := hle.2 i h1
      rw [h2, h3]
      exact this
    · rw [if_neg (fun y => z (hce.mp y)), if_neg z]
      exact hC.2 a b ha hb
  · show dlR debts (skF debts m (nI 0) ro r).2.2.1 (skF debts m (nI 0) ro r).2.1 (coL m (debts, ro, r)) (skF debts m (nI 0) ro r).2.1 (5 * a + b) = _
    rw [hx.1, hlo, dlR_at hj hx.2 _ (Nat.le_refl _)]
    unfold rd
    have hce : (∃ i, i < (tlg j).1 ∧ 5 * cdg (tlg j) i + cdg (tlg j) (nx (tlg j).1 i) = 5 * a + b) ↔ onR (tlg j) a b := by
      constructor
      · rintro ⟨i, h1, h2⟩
        have := cdg_lt (tlg j) (nx (tlg j).1 i)
        exact ⟨i, h1, by omega, by omega⟩
      · rintro ⟨i, h1, h2, h3⟩
        exact ⟨i, h1, by rw [h2, h3]⟩
    by_cases z : onR (tlg j) a b
    · rw [if_pos (hce.mpr z), if_pos z, hR.2.1 a b ha hb]
      obtain ⟨i, h1, h2, h3⟩ := z
      refine nI_sub ?_
      have := hle.2 i h1
      rw [h2, h3]
      exact this
    · rw [if_neg (fun y => z (hce.mp y)), if_neg z]
      exact hR.2.1 a b ha hb
  · show dlR debts (skF debts m (nI 0) ro r).2.2.1 (skF debts m (nI 0) ro r).2.1 (coL m (debts, ro, r)) (skF debts m (nI 0) ro r).2.1 (5 * a + m) = _
    rw [hx.1, hlo, dlR_at hj hx.2 _ (Nat.le_refl _)]
    unfold rd
    rw [if_neg, if_neg]
    · exact hR.2.2 a ha
    · rintro ⟨i, h1, h2, h3⟩
      have := cdg_lt (tlg j) (nx (tlg j).1 i)
      omega
    · rintro ⟨i, h1, h2⟩
      have := live_lt hP hl (nx_lt h1 hs.2.2.1)
      omega
theorem cancel_none {k m tt po : Nat} {coin debt debts : Nat → Int32} {cash : Nat → Int64} {c : Nat → Nat} {d : Nat → Nat → Nat} (hP : RelP k m tt po c d) (hC : RelC coin debt c d) (hR : RelR m cash debts c d) (ro r : Nat → Nat) (hf : fr debt = none) : coL m (debts, ro, r) = nI 0 ∧ (coN m (debts, ro, r)).1 = debts := by
  have hg := frk_get hP hC 20 0 rfl
  rw [show rgL.drop 0 = rgL from rfl, show frk debt 20 0 = none from hf] at hg
  have hx := (ref_ring hP hR (q := 0) (by decide) ro r).1 hg
  refine ⟨?_, ?_⟩
  · show loR debts (skF debts m (nI 0) ro r).2.2.1 (skF debts m (nI 0) ro r).2.1 (skF debts m (nI 0) ro r).2.1 = _
    rw [hx]
    rfl
  · show dlR debts (skF debts m (nI 0) ro r).2.2.1 (skF debts m (nI 0) ro r).2.1 (coL m (debts, ro, r)) (skF debts m (nI 0) ro r).2.1 = _
    rw [hx]
    rfl
theorem st_cancel (Z : ZT) : StI Z yX3_cancel cX3_cancel 2 4 yX4_cancel cX4_cancel 1 3 [] := by
  intro k wc wr hk hR
  obtain ⟨m, tt, po, c, d, coin, debt, fall, shr, mat, rgt, pen, last, below, cash, debts, fallen, rounds, shares, under, table, right, tried, falls, rsize, ro, r, found, hh, hP, hC, hRr, rfl, rfl⟩ := hR
  cases hf : fr debt with
  | none =>
    have h := cancel_none hP hC hRr ro r hf
    exact bothI (M_cancel_none hf) (R_cancel hP.1.2.1 hP.1.1) h.1 (Rel.mk hP.up hC (h.2.symm ▸ hRr))
  | some j =>
    have h := cancel_both hP hC hRr ro r hf
    have e := h.2.1
    refine bothI (M_cancel hf) (R_cancel hP.1.2.1 hP.1.1) (h.2.2.1.trans e.symm) (Rel.mk (RelP.up h.2.2.2.2.2.1) ?_ h.2.2.2.2.2.2.2)
    rw [e]
    exact h.2.2.2.2.2.2.1
theorem nz_rd {k m tt po : Nat} {c : Nat → Nat} {d : Nat → Nat → Nat} (hP : RelP k m tt po c d) {j : Nat} (hj : j < 20) (h0 : ¬ rl d j = 0) : nz (rd d j) < nz d := by
  have hs := tlg_sz j hj
  have hle := rl_le (d := d) (j := j)
  have hat : ∃ i, i < (tlg j).1 ∧ rl d j = rv d (tlg j) i := by
    rcases mC_at (fun i => rv d (tlg j) ((tlg j).1 - 1 - i)) (tlg j).1 with z | ⟨i, hi, z⟩
    · have z2 : rl d j = 50 := z
      have h1 := hle.2 0 (by omega)
      have h2 := rv_le hP (tlg j) 0
      exact ⟨0, by omega, by omega⟩
    · exact ⟨(tlg j).1 - 1 - i, by omega, z⟩
  obtain ⟨i, hi, e⟩ := hat
  have ha := cdg_lt (tlg j) i
  have hb := cdg_lt (tlg j) (nx (tlg j).1 i)
  have e2 : rl d j = d (cdg (tlg j) i) (cdg (tlg j) (nx (tlg j).1 i)) := e
  have h1 := dsum_sd (d := ind d) (v := 0) ha (show cdg (tlg j) (nx (tlg j).1 i) < 5 by omega)
  have h2 : ind d (cdg (tlg j) i) (cdg (tlg j) (nx (tlg j).1 i)) = 1 := if_neg (by omega)
  have h3 : dsum (ind (rd d j)) ≤ dsum (sd (ind d) (cdg (tlg j) i) (cdg (tlg j) (nx (tlg j).1 i)) 0) := by
    refine dsum_mono (fun a b => ?_)
    unfold sd
    by_cases z : a = cdg (tlg j) i ∧ b = cdg (tlg j) (nx (tlg j).1 i)
    · rw [if_pos z, z.1, z.2]
      unfold ind rd
      rw [if_pos (show onR (tlg j) (cdg (tlg j) i) (cdg (tlg j) (nx (tlg j).1 i)) from ⟨i, hi, rfl, rfl⟩), if_pos (by omega)]
      exact Nat.le_refl _
    · rw [if_neg z]
      have := rd_le (d := d) (j := j) (a := a) (b := b)
      unfold ind
      by_cases w : d a b = 0
      · rw [if_pos w, if_pos (by omega)]
        exact Nat.le_refl _
      · rw [if_neg w]
        split <;> omega
  unfold nz
  omega
theorem all_both {k m tt po : Nat} {coin : Nat → Int32} {cash : Nat → Int64} {c : Nat → Nat} : ∀ (n : Nat) (d : Nat → Nat → Nat) (debt debts : Nat → Int32) (ro r : Nat → Nat) (a : Int32), nz d ≤ n → RelP k m tt po c d → RelC coin debt c d → RelR m cash debts c d →
    ∃ (x9 : Int32 × coT) (e : Nat → Nat → Nat), rca m (n + 1) a (debts, ro, r) = some x9 ∧ x9.1 = (caC n debt a).1 ∧ RelP k m tt po c e ∧ RelC coin (caC n debt a).2 c e ∧ RelR m cash (coN m x9.2).1 c e
  | n, d, debt, debts, ro, r, a, hn, hP, hC, hR => by
    cases hf : fr debt with
    | none =>
      have h := cancel_none hP hC hR ro r hf
      have e : caC n debt a = (a, debt) := by
        match n with
        | 0 => rfl
        | n + 1 => exact caC_none hf
      rw [e]
      refine ⟨(a, (debts, ro, r)), d, ?_, rfl, hP, hC, ?_⟩
      · rw [rca, if_pos (by rw [h.1]; decide)]
      · show RelR m cash (coN m (debts, ro, r)).1 c d
        rw [h.2]
        exact hR
    | some j =>
      have h := cancel_both hP hC hR ro r hf
      have hz := nz_rd hP h.2.2.2.2.1 h.1
      have h50 := (rl_le (d := d) (j := j)).1
      match n with
      | 0 => omega
      | n + 1 =>
        have hgo : ¬ coL m (debts, ro, r) ≤ 0 := by
          rw [h.2.2.1, nI_le0 (by omega)]
          exact h.1
        have ih := all_both n (rd d j) (ls debt (fg j) (nI (rl d j)) (sz (fg j))) (coN m (debts, ro, r)).1 (coN m (debts, ro, r)).2.1 (coN m (debts, ro, r)).2.2 (a + nI (sz (fg j)) * nI (rl d j)) (by omega) h.2.2.2.2.2.1 h.2.2.2.2.2.2.1 h.2.2.2.2.2.2.2
        rw [caC_some hf, h.2.1]
        obtain ⟨x9, e, i1, i2⟩ := ih
        refine ⟨x9, e, ?_, i2⟩
        rw [rca, if_neg hgo]
        show rca m (n + 1) (a + coL m (debts, ro, r) * nI (skF debts m (nI 0) ro r).2.1) (coN m (debts, ro, r)) = _
        rw [h.2.2.1, h.2.2.2.1, Int32.mul_comm]
        exact i1
theorem st_cancelAll (Z : ZT) : StI Z yX3_cancelAll cX3_cancelAll 5 4 yX4_cancelAll cX4_cancelAll 3 3 [] := by
  intro k wc wr hk hR
  obtain ⟨m, tt, po, c, d, coin, debt, fall, shr, mat, rgt, pen, last, below, cash, debts, fallen, rounds, shares, under, table, right, tried, falls, rsize, ro, r, found, hh, hP, hC, hRr, rfl, rfl⟩ := hR
  obtain ⟨x9, e, a1, a2, a3, a4, a5⟩ := all_both 20 d debt debts ro r (nI 0) (nz_le d) hP hC hRr
  exact bothI M_cancelAll (R_cancelAll hP.1.2.1 hP.1.1 a1) a2 (Rel.mk a3.up a4 a5)

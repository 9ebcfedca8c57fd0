/-! falls, rounds, drag -/
theorem bothI {Z : ZT} {k : Nat} {yc : MethodName} {cc : ByteArray} {mlc dc : Nat} {yr : MethodName} {cr : ByteArray} {mlr dr : Nat} {ac ar : List Value} {wc wr wc' wr' : va_W} {x y : Int32} (h1 : MM Z yc cc mlc (some .int) dc ac wc (some (.int x)) wc') (h2 : MM Z yr cr mlr (some .int) dr ar wr (some (.int y)) wr') (e : y = x) (h : Rel Z k wc' wr') : ∃ (x : Int32) (wc' wr' : va_W), MM Z yc cc mlc (some .int) dc ac wc (some (.int x)) wc' ∧ MM Z yr cr mlr (some .int) dr ar wr (some (.int x)) wr' ∧ Rel Z k wc' wr' := ⟨x, wc', wr', h1, e ▸ h2, h⟩
theorem bothJ {Z : ZT} {k : Nat} {yc : MethodName} {cc : ByteArray} {mlc dc : Nat} {yr : MethodName} {cr : ByteArray} {mlr dr : Nat} {ac ar : List Value} {wc wr wc' wr' : va_W} {x y : Int64} (h1 : MM Z yc cc mlc (some .long) dc ac wc (some (.long x)) wc') (h2 : MM Z yr cr mlr (some .long) dr ar wr (some (.long y)) wr') (e : y = x) (h : Rel Z k wc' wr') : ∃ (x : Int64) (wc' wr' : va_W), MM Z yc cc mlc (some .long) dc ac wc (some (.long x)) wc' ∧ MM Z yr cr mlr (some .long) dr ar wr (some (.long x)) wr' ∧ Rel Z k wc' wr' := ⟨x, wc', wr', h1, e ▸ h2, h⟩
theorem uC_none {coin : Nat → Int32} {i : Nat} (hi : i < 4) : uC (-1) coin i = coin i := by
  unfold uC
  rw [if_neg (nI_nm1 i hi)]
theorem st_falls (Z : ZT) (a : Int32) : StI Z yX3_falls cX3_falls 2 6 yX4_falls cX4_falls 2 4 [.int a] := by
  intro k wc wr hk hR
  have hR0 := hR
  obtain ⟨m, tt, po, c, d, coin, debt, fall, shr, mat, rgt, pen, last, below, cash, debts, fallen, rounds, shares, under, table, right, tried, falls, rsize, ro, r, found, hh, hP, hC, hRr, rfl, rfl⟩ := hR
  obtain ⟨⟨h1, h4, ht⟩, hrest⟩ := id hP
  rcases house_cases a h1 h4 with ⟨i, hi, rfl⟩ | ⟨u1, u2⟩
  · have hc := cst_CS hP (by omega) (pen := -1) (fun i hi => (uC_none hi).trans (hC.1 i hi)) hC.2 fall shr mat rgt
    obtain ⟨s9, hs, hr⟩ := ref_kR hP (by omega) hRr fallen shares under table right tried falls
    have e : s9.1 i = (cst (nI tt) (-1) coin debt fall shr mat rgt).1 i := by rw [hr.1 i (by omega), hc.1 i (by omega)]
    exact bothI (M_falls hi h4) (R_falls hi h4 h1 hs) e (Rel.mk hP.up hC hRr)
  · exact ⟨(-101), _, _, M_falls_U u1, R_falls_U h1 u2, hR0.up⟩
theorem st_rounds (Z : ZT) : StI Z yX3_rounds cX3_rounds 1 6 yX4_rounds cX4_rounds 1 4 [] := by
  intro k wc wr hk hR
  obtain ⟨m, tt, po, c, d, coin, debt, fall, shr, mat, rgt, pen, last, below, cash, debts, fallen, rounds, shares, under, table, right, tried, falls, rsize, ro, r, found, hh, hP, hC, hRr, rfl, rfl⟩ := hR
  obtain ⟨⟨h1, h4, ht⟩, hrest⟩ := id hP
  have hc := cst_CS hP (by omega) (pen := -1) (fun i hi => (uC_none hi).trans (hC.1 i hi)) hC.2 fall shr mat rgt
  obtain ⟨s9, hs, hr⟩ := ref_kR hP (by omega) hRr fallen shares under table right tried falls
  have e : s9.2.2.2.2.2.2.2 = (cst (nI tt) (-1) coin debt fall shr mat rgt).2.2.2.2.1 := by rw [hr.2.2.1, hc.2.2.1]
  exact bothI M_rounds (R_rounds h4 hs) e (Rel.mk hP.up hC hRr)
theorem fl_kS {f : Nat → Nat} {fall : Nat → Int32} {i : Nat} (h : fall i = nI (f i)) (h5 : f i < 2 ^ 31) : fl fall i ↔ ¬ f i = 0 := by
  show ¬ fall i ≤ 0 ↔ _
  rw [h, nI_le0 h5]
theorem fC_cnt {f : Nat → Nat} {fall : Nat → Int32} (h : ∀ i, i < 4 → fall i = nI (f i) ∧ f i < 2 ^ 31) : ∀ n, n ≤ 4 → fC fall n = sN (fun i => if f i = 0 then 0 else 1) n
  | 0, _ => rfl
  | n + 1, hn => by
    have hn4 := h n (by omega)
    have hq := fl_kS hn4.1 hn4.2
    rw [fC, sN, fC_cnt h n (by omega)]
    by_cases q : f n = 0
    · rw [if_neg (fun z => hq.mp z q), if_pos q]; rfl
    · rw [if_pos (hq.mpr q), if_neg q]
theorem fcR_cnt {f : Nat → Nat} {fall : Nat → Int32} (h : ∀ i, i < 4 → fall i = nI (f i) ∧ f i < 2 ^ 31) : ∀ n, n ≤ 4 → fcR fall n = sN (fun i => if f i = 0 then 0 else 1) n
  | 0, _ => rfl
  | n + 1, hn => by
    have hn4 := h n (by omega)
    have hq : fall n ≤ 0 ↔ f n = 0 := by rw [hn4.1, nI_le0 hn4.2]
    rw [fcR, sN, fcR_cnt h n (by omega)]
    by_cases q : f n = 0
    · rw [if_pos (hq.mpr q), if_pos q]
    · rw [if_neg (fun z => q (hq.mp z)), if_neg q]
theorem rn_f {k m tt po : Nat} {u : Nat → Nat} {d : Nat → Nat → Nat} (hP : RelP k m tt po u d) : ∀ (q r : Nat) (f : Nat → Nat), q + r ≤ 5 → (∀ i, i < 4 → f i ≤ 5 ∧ (m ≤ i → f i = 0)) → ∀ i, i < 4 → (rn tt u d q r f).1 i ≤ 5 ∧ (m ≤ i → (rn tt u d q r f).1 i = 0)
  | 0, r, f, _, h => h
  | q + 1, r, f, e, h => by
    rw [rn]
    by_cases z : an tt u d f
    · rw [if_pos z]
      refine rn_f hP q (r + 1) _ (by omega) (fun i hi => ?_)
      have := h i hi
      unfold nxf
      by_cases y : i < 4 ∧ fd tt u d f i
      · rw [if_pos y]
        exact ⟨by omega, fun w => absurd y.2 (fd_out hP w hi)⟩
      · rw [if_neg y]; exact this
    · rw [if_neg z]; exact h
theorem st_drag (Z : ZT) (a : Int32) : StI Z yX3_drag cX3_drag 2 6 yX4_drag cX4_drag 6 4 [.int a] := by
  intro k wc wr hk hR
  have hR0 := hR
  obtain ⟨m, tt, po, c, d, coin, debt, fall, shr, mat, rgt, pen, last, below, cash, debts, fallen, rounds, shares, under, table, right, tried, falls, rsize, ro, r, found, hh, hP, hC, hRr, rfl, rfl⟩ := hR
  obtain ⟨⟨h1, h4, ht⟩, hd50, hdd, hout, hcol, hcs, hpo⟩ := id hP
  rcases house_cases a h1 h4 with ⟨i, hi, rfl⟩ | ⟨u1, u2⟩
  · have hP2 : RelP k m tt po (fun q => if q = i then 0 else c q) d := by
      refine ⟨⟨h1, h4, ht⟩, hd50, hdd, fun q hq hq4 => ⟨?_, (hout q hq hq4).2⟩, hcol, fun q hq => ?_, hpo⟩
      · show (if q = i then 0 else c q) = 0
        rw [if_neg (by omega)]
        exact (hout q hq hq4).1
      · have := hcs q hq
        show (if q = i then 0 else c q) + dsum d ≤ _
        split <;> omega
    have hu : ∀ q, q < 4 → uC (nI i) coin q = nI (if q = i then 0 else c q) := by
      intro q hq
      unfold uC
      by_cases e : q = i
      · rw [if_pos (by rw [e]), if_pos e]
      · rw [if_neg (fun z => e ((nI_eq (by omega) (by omega)).mp z)), if_neg e]
        exact hC.1 q hq
    have hR2 : RelR m (vp_updL cash i 0) debts (fun q => if q = i then 0 else c q) d := by
      refine ⟨fun q hq => ?_, hRr.2.1, hRr.2.2⟩
      rw [updL_at]
      show _ = lN (if q = i then 0 else c q)
      by_cases e : q = i
      · rw [if_pos e, if_pos e]; rfl
      · rw [if_neg e, if_neg e]
        exact hRr.1 q hq
    have hc := cst_CS hP2 (by omega) hu hC.2 fall shr mat rgt
    obtain ⟨s9, hs, hr⟩ := ref_kR hP2 (by omega) hR2 fallen shares under table right tried falls
    have hf := rn_f hP2 4 1 (fun _ => 0) (by omega) (fun _ _ => ⟨Nat.zero_le _, fun _ => rfl⟩)
    have e : fcR s9.1 m = fC (cst (nI tt) (nI i) coin debt fall shr mat rgt).1 4 := by
      rw [fC_cnt (fun i hi => ⟨hc.1 i hi, by have := (hf i hi).1; omega⟩) 4 (Nat.le_refl _), fcR_cnt (fun i hi => ⟨hr.1 i hi, by have := (hf i hi).1; omega⟩) m h4, sN4]
      exact sN_cut h1 h4 (fun j hj hj4 => by rw [if_pos ((hf j hj4).2 hj)])
    refine bothI (M_drag hi h4) (R_drag hi h4 h1 hs) (congrArg nI e) (Rel.mk (c := c) hP.up hC ⟨fun q hq => ?_, hRr.2.1, hRr.2.2⟩)
    rw [updL_at, updL_at]
    by_cases z : q = i
    · rw [if_pos z, ← z]
      exact hRr.1 q hq
    · rw [if_neg z, if_neg z]
      exact hRr.1 q hq
  · exact ⟨(-101), _, _, M_drag_U u1, R_drag_U h1 u2, hR0.up⟩

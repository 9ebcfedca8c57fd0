/-! digest -/
theorem dg4_1 {m i : Nat} {coin debt debts : Nat → Int32} {cash : Nat → Int64} {c : Nat → Nat} {d : Nat → Nat → Nat} (hC : RelC coin debt c d) (hR : RelR m cash debts c d) (h4 : m ≤ 4) (hi : i < m) (h : Int64) : ∀ n, n ≤ m → dg4 m debts i h n = dg1 debt i h n
  | 0, _ => rfl
  | n + 1, hn => by rw [dg4, dg1, dg4_1 hC hR h4 hi h n (by omega), hR.2.1 i n hi (by omega), hC.2 i n (by omega) (by omega)]
theorem dg5_2 {k m tt po : Nat} {coin debt debts : Nat → Int32} {cash : Nat → Int64} {c : Nat → Nat} {d : Nat → Nat → Nat} (hP : RelP k m tt po c d) (hk : k ≤ 512) (hC : RelC coin debt c d) (hR : RelR m cash debts c d) (h : Int64) : ∀ n, n ≤ m → dg5 m cash debts h n = dg2 m coin debt h n
  | 0, _ => rfl
  | n + 1, hn => by
    have h4 := hP.1.2.1
    have hc := c_lt hP hk (show n < 4 by omega)
    rw [dg5, dg2, dg5_2 hP hk hC hR h n (by omega), dg4, dg4_1 hC hR h4 (by omega) _ m (Nat.le_refl _), hR.2.2 n (by omega), hC.2 n 4 (by omega) (by omega), hR.1 n (by omega), hC.1 n (by omega), nI_l (show c n < 2 ^ 31 by omega)]
theorem st_digest (Z : ZT) : StJ Z yX3_digest cX3_digest 5 6 yX4_digest cX4_digest 3 4 [] := by
  intro k wc wr hk hR
  obtain ⟨m, tt, po, c, d, coin, debt, fall, shr, mat, rgt, pen, last, below, cash, debts, fallen, rounds, shares, under, table, right, tried, falls, rsize, ro, r, found, hh, hP, hC, hRr, rfl, rfl⟩ := hR
  obtain ⟨⟨h1, h4, ht⟩, hrest⟩ := id hP
  obtain ⟨F, n, s9, hs, hok, han, hF, hr, hc⟩ := clr_all hP (by omega) hC hRr fall shr mat rgt fallen shares under table right tried falls
  have b2 := un_bd hP hok
  have hg : ∀ i, i < 4 → ∃ g : Int64, cmn 128 (s9.2.1 i) s9.2.2.1 = some g ∧ ¬ g = 0 ∧ ∀ p : Int32, lT ((cst (nI tt) (-1) coin debt fall shr mat rgt).2.1 i) (cst (nI tt) (-1) coin debt fall shr mat rgt).2.2.2.2.2 p = if p = 0 then s9.2.1 i / g else s9.2.2.1 / g := by
    intro i hi
    have b1 := sh_bd hP hok hi
    obtain ⟨g, a1, a2, a3⟩ := low_both b1.1 (by omega) b2.1 (by omega)
    refine ⟨g, by rw [hr.2.1 i hi, hr.2.2.2]; exact a1, a2, fun p => ?_⟩
    rw [hc.2.1 i hi, hc.2.2.2, hr.2.1 i hi, hr.2.2.2]
    exact a3 p
  have hG : ∀ i, i < m → cmn 128 (s9.2.1 i) s9.2.2.1 = some ((cmn 128 (s9.2.1 i) s9.2.2.1).getD 0) ∧ ¬ (cmn 128 (s9.2.1 i) s9.2.2.1).getD 0 = 0 := by
    intro i hi
    obtain ⟨g, a1, a2, a3⟩ := hg i (by omega)
    rw [a1]
    exact ⟨rfl, a2⟩
  have e6 : ∀ (h : Int64) (q : Nat), q ≤ m → dg6 s9.1 s9.2.1 s9.2.2.1 (fun i => (cmn 128 (s9.2.1 i) s9.2.2.1).getD 0) h q = dg3 (cst (nI tt) (-1) coin debt fall shr mat rgt) h q := by
    intro h q
    induction q with
    | zero => intro _; rfl
    | succ q ih =>
      intro hq
      obtain ⟨g, a1, a2, a3⟩ := hg q (by omega)
      rw [dg6, dg3, ih (by omega), a3, a3, if_pos (show nI 0 = 0 from rfl), if_neg (show ¬ nI 1 = 0 by decide), hr.1 q (by omega), hc.1 q (by omega)]
      simp only [a1, Option.getD_some]
  have hpo := po_lt hP (by omega)
  refine bothJ (M_digest h4) (R_digest (K2 := 128) (G := fun i => (cmn 128 (s9.2.1 i) s9.2.2.1).getD 0) h4 hs hG) ?_ (Rel.mk hP.up hC hRr)
  rw [e6 _ m (Nat.le_refl _), dg5_2 hP (by omega) hC hRr _ m (Nat.le_refl _), nI_l (show po < 2 ^ 31 by omega)]

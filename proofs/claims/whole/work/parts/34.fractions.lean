/-! share, gross, left, pays, lost, digest -/
theorem clr_all {k m tt po : Nat} {c : Nat → Nat} {d : Nat → Nat → Nat} {coin debt debts : Nat → Int32} {cash : Nat → Int64} (hP : RelP k m tt po c d) (hk : k ≤ 512) (hC : RelC coin debt c d) (hR : RelR m cash debts c d) (fall : Nat → Int32) (shr mat rgt : Nat → Int64) (fallen : Nat → Int32) (shares : Nat → Int64) (under : Int64) (table right tried : Nat → Int64) (falls : Nat → Int32) :
    ∃ (F : Nat → Nat) (n : Nat) (s9 : rT), clr m (nI tt) cash debts 5 (rslv m (nI tt) cash debts (zf fallen 4, shares, under, table, right, tried, falls, nI 0)) = some s9 ∧ okF tt c d F ∧ ¬ an tt c d F ∧ (∀ i, i < 4 → F i ≤ 5 ∧ (m ≤ i → F i = 0)) ∧ kR tt c d F n s9 ∧ kS tt c d F n (cst (nI tt) (-1) coin debt fall shr mat rgt) := by
  obtain ⟨s9, hs, hr⟩ := ref_kR hP hk hR fallen shares under table right tried falls
  exact ⟨_, _, s9, hs, rn_ok hP hk 4 1 (fun _ => 0) (Nat.le_refl _) (okF_0 (fun _ _ => rfl)), rn_end 4 1 (fun _ => 0) rfl (Nat.le_refl _) (by omega), rn_f hP 4 1 (fun _ => 0) (by omega) (fun _ _ => ⟨Nat.zero_le _, fun _ => rfl⟩), hr, cst_CS hP hk (pen := -1) (fun i hi => (uC_none hi).trans (hC.1 i hi)) hC.2 fall shr mat rgt⟩
section FR
variable {k m tt po : Nat} {u : Nat → Nat} {d : Nat → Nat → Nat} {f : Nat → Nat}
theorem un_bd (hP : RelP k m tt po u d) (h : okF tt u d f) : 0 < eqS tt u d f 4 ∧ eqS tt u d f 4 ≤ 384000000000000 := ⟨h.1, by have := eqS_bd hP h 4; omega⟩
theorem sh_bd (hP : RelP k m tt po u d) (h : okF tt u d f) {i : Nat} (hi : i < 4) : 0 ≤ eqS tt u d f i ∧ eqS tt u d f i ≤ 384000000000000 := ⟨eqS_nn hP.1.2.2 h hi, by have := eqS_bd hP h i; omega⟩
theorem gr_bd (hP : RelP k m tt po u d) (hk : k ≤ 512) (h : okF tt u d f) {i : Nat} (hi : i < 4) : 0 ≤ eqG tt u d f i 4 ∧ eqG tt u d f i 4 ≤ 153600000000000000 := by
  by_cases z : f i = 0
  · have := (nf_bd hP hk h hi z).2
    omega
  · exact fa_bd hP h hi z
theorem le_bd (hP : RelP k m tt po u d) (hk : k ≤ 512) (h : okF tt u d f) (ha : ¬ an tt u d f) {i : Nat} (hi : i < 4) (h0 : f i = 0) : 0 ≤ eqG tt u d f i 4 - eqS tt u d f 4 * (ow d i : Int) ∧ eqG tt u d f i 4 - eqS tt u d f 4 * (ow d i : Int) ≤ 153600000000000000 := by
  have h1 := nf_bd hP hk h hi h0
  have h2 : ¬ fd tt u d f i := fun z => ha (an_iff.mpr ⟨i, hi, z⟩)
  rw [fd_int hP hk h hi] at h2
  have h3 : ¬ eqG tt u d f i 4 < eqS tt u d f 4 * (ow d i : Int) := fun z => h2 ⟨h0, z⟩
  omega
end FR
theorem st_share (Z : ZT) (a b : Int32) : StJ Z yX3_share cX3_share 3 6 yX4_share cX4_share 3 4 [.int a, .int b] := by
  intro k wc wr hk hR
  have hR0 := hR
  obtain ⟨m, tt, po, c, d, coin, debt, fall, shr, mat, rgt, pen, last, below, cash, debts, fallen, rounds, shares, under, table, right, tried, falls, rsize, ro, r, found, hh, hP, hC, hRr, rfl, rfl⟩ := hR
  obtain ⟨⟨h1, h4, ht⟩, hrest⟩ := id hP
  rcases house_cases a h1 h4 with ⟨i, hi, rfl⟩ | ⟨u1, u2⟩
  · rcases part_cases b with ⟨p1, p2⟩ | ⟨p1, p2⟩
    · obtain ⟨F, n, s9, hs, hok, han, hF, hr, hc⟩ := clr_all hP (by omega) hC hRr fall shr mat rgt fallen shares under table right tried falls
      have b1 := sh_bd hP hok (show i < 4 by omega)
      have b2 := un_bd hP hok
      obtain ⟨g, a1, a2, a3⟩ := low_both b1.1 (by omega) b2.1 (by omega)
      have a1' : cmn 128 (s9.2.1 i) s9.2.2.1 = some g := by rw [hr.2.1 i (by omega), hr.2.2.2]; exact a1
      exact bothJ (M_share hi h4 p1) (R_share hi h4 h1 p2 hs a1' a2) (by rw [hr.2.1 i (by omega), hr.2.2.2, hc.2.1 i (by omega), hc.2.2.2, a3]) (Rel.mk hP.up hC hRr)
    · exact ⟨(-102), _, _, M_share_O hi h4 p1, R_share_O hi h4 h1 p2, hR0.up⟩
  · exact ⟨(-101), _, _, M_share_U u1, R_share_U h1 u2, hR0.up⟩
theorem st_gross (Z : ZT) (a b : Int32) : StJ Z yX3_gross cX3_gross 3 6 yX4_gross cX4_gross 3 4 [.int a, .int b] := by
  intro k wc wr hk hR
  have hR0 := hR
  obtain ⟨m, tt, po, c, d, coin, debt, fall, shr, mat, rgt, pen, last, below, cash, debts, fallen, rounds, shares, under, table, right, tried, falls, rsize, ro, r, found, hh, hP, hC, hRr, rfl, rfl⟩ := hR
  obtain ⟨⟨h1, h4, ht⟩, hrest⟩ := id hP
  rcases house_cases a h1 h4 with ⟨i, hi, rfl⟩ | ⟨u1, u2⟩
  · rcases part_cases b with ⟨p1, p2⟩ | ⟨p1, p2⟩
    · obtain ⟨F, n, s9, hs, hok, han, hF, hr, hc⟩ := clr_all hP (by omega) hC hRr fall shr mat rgt fallen shares under table right tried falls
      have b1 := gr_bd hP (by omega) hok (show i < 4 by omega)
      have b2 := un_bd hP hok
      obtain ⟨g, a1, a2, a3⟩ := low_both b1.1 (by omega) b2.1 (by omega)
      have e1 : gR cash s9.2.2.1 s9.2.1 debts i m = Int64.ofInt (eqG tt c d F i 4) := by
        rw [gR_of hP (by omega) hRr hr.2.2.2 hr.2.1 hi m (Nat.le_refl _), eqG_cut hP (show i < 4 by omega) 4 (Nat.le_refl _) h4]
      have e2 := gA_of hP (by omega) (pen := -1) (fun i hi => (uC_none hi).trans (hC.1 i hi)) hC.2 hc.2.2.2 hc.2.1 (show i < 4 by omega) 4 (Nat.le_refl _)
      have a1' : cmn 128 (gR cash s9.2.2.1 s9.2.1 debts i m) s9.2.2.1 = some g := by rw [e1, hr.2.2.2]; exact a1
      exact bothJ (M_gross hi h4 p1) (R_gross hi h4 h1 p2 hs a1' a2) (by rw [e1, e2, hr.2.2.2, hc.2.2.2, a3]) (Rel.mk hP.up hC hRr)
    · exact ⟨(-102), _, _, M_gross_O hi h4 p1, R_gross_O hi h4 h1 p2, hR0.up⟩
  · exact ⟨(-101), _, _, M_gross_U u1, R_gross_U h1 u2, hR0.up⟩
theorem st_left (Z : ZT) (a b : Int32) : StJ Z yX3_left cX3_left 3 6 yX4_left cX4_left 3 4 [.int a, .int b] := by
  intro k wc wr hk hR
  have hR0 := hR
  obtain ⟨m, tt, po, c, d, coin, debt, fall, shr, mat, rgt, pen, last, below, cash, debts, fallen, rounds, shares, under, table, right, tried, falls, rsize, ro, r, found, hh, hP, hC, hRr, rfl, rfl⟩ := hR
  obtain ⟨⟨h1, h4, ht⟩, hrest⟩ := id hP
  rcases house_cases a h1 h4 with ⟨i, hi, rfl⟩ | ⟨u1, u2⟩
  · rcases part_cases b with ⟨p1, p2⟩ | ⟨p1, p2⟩
    · obtain ⟨F, n, s9, hs, hok, han, hF, hr, hc⟩ := clr_all hP (by omega) hC hRr fall shr mat rgt fallen shares under table right tried falls
      have hi4 : i < 4 := by omega
      have b2 := un_bd hP hok
      have hfl := fl_kS (hc.1 i hi4) (by have := (hF i hi4).1; omega)
      have hfr : s9.1 i ≤ 0 ↔ F i = 0 := by rw [hr.1 i hi4, nI_le0 (by have := (hF i hi4).1; omega)]
      by_cases z : F i = 0
      · have b1 := le_bd hP (by omega) hok han hi4 z
        obtain ⟨g, a1, a2, a3⟩ := low_both b1.1 (by omega) b2.1 (by omega)
        have ho := ow_le hP hi4
        have e1 : gR cash s9.2.2.1 s9.2.1 debts i m - (oR debts m i).toInt64 * s9.2.2.1 = Int64.ofInt (eqG tt c d F i 4 - eqS tt c d F 4 * (ow d i : Int)) := by
          rw [gR_of hP (by omega) hRr hr.2.2.2 hr.2.1 hi m (Nat.le_refl _), eqG_cut hP hi4 4 (Nat.le_refl _) h4, oR_ow hP hRr hi, nI_j (by omega), hr.2.2.2, Int64.ofInt_sub, Int64.ofInt_mul, Int64.mul_comm (Int64.ofInt (ow d i : Int))]
        have e2 : (if fl (cst (nI tt) (-1) coin debt fall shr mat rgt).1 i then 0 else gA (cst (nI tt) (-1) coin debt fall shr mat rgt).2.2.2.2.2 (-1) coin debt (cst (nI tt) (-1) coin debt fall shr mat rgt).2.1 i 4 - (cst (nI tt) (-1) coin debt fall shr mat rgt).2.2.2.2.2 * (oB debt i).toInt64) = Int64.ofInt (eqG tt c d F i 4 - eqS tt c d F 4 * (ow d i : Int)) := by
          rw [if_neg (fun y => hfl.mp y z), gA_of hP (by omega) (pen := -1) (fun i hi => (uC_none hi).trans (hC.1 i hi)) hC.2 hc.2.2.2 hc.2.1 hi4 4 (Nat.le_refl _), hc.2.2.2, oB_ow hC hi4, nI_j (by omega), Int64.ofInt_sub, Int64.ofInt_mul]
        have a1' : cmn 128 (gR cash s9.2.2.1 s9.2.1 debts i m - (oR debts m i).toInt64 * s9.2.2.1) s9.2.2.1 = some g := by rw [e1, hr.2.2.2]; exact a1
        exact bothJ (M_left hi h4 p1) (R_left hi h4 h1 p2 hs (hfr.mpr z) a1' a2) (by rw [e1, e2, hr.2.2.2, hc.2.2.2, a3]) (Rel.mk hP.up hC hRr)
      · obtain ⟨g, a1, a2, a3⟩ := low_both (x := 0) (Int.le_refl _) (by omega) b2.1 (by omega)
        have e2 : (if fl (cst (nI tt) (-1) coin debt fall shr mat rgt).1 i then 0 else gA (cst (nI tt) (-1) coin debt fall shr mat rgt).2.2.2.2.2 (-1) coin debt (cst (nI tt) (-1) coin debt fall shr mat rgt).2.1 i 4 - (cst (nI tt) (-1) coin debt fall shr mat rgt).2.2.2.2.2 * (oB debt i).toInt64) = Int64.ofInt 0 := by
          rw [if_pos (hfl.mpr z)]
          rfl
        have a1' : cmn 128 0 s9.2.2.1 = some g := by rw [hr.2.2.2]; exact a1
        exact bothJ (M_left hi h4 p1) (R_left_F hi h4 h1 p2 hs (fun y => z (hfr.mp y)) a1' a2) (by rw [e2, hr.2.2.2, hc.2.2.2, a3]; rfl) (Rel.mk hP.up hC hRr)
    · exact ⟨(-102), _, _, M_left_O hi h4 p1, R_left_O hi h4 h1 p2, hR0.up⟩
  · exact ⟨(-101), _, _, M_left_U u1, R_left_U h1 u2, hR0.up⟩
theorem st_pays (Z : ZT) (a b p : Int32) : StJ Z yX3_pays cX3_pays 6 6 yX4_pays cX4_pays 4 4 [.int a, .int b, .int p] := by
  intro k wc wr hk hR
  have hR0 := hR
  obtain ⟨m, tt, po, c, d, coin, debt, fall, shr, mat, rgt, pen, last, below, cash, debts, fallen, rounds, shares, under, table, right, tried, falls, rsize, ro, r, found, hh, hP, hC, hRr, rfl, rfl⟩ := hR
  obtain ⟨⟨h1, h4, ht⟩, hrest⟩ := id hP
  rcases house_cases a h1 h4 with ⟨i, hi, rfl⟩ | ⟨u1, u2⟩
  · rcases payee_cases b h4 with ⟨j, hj, rfl⟩ | u3
    · rcases part_cases p with ⟨p1, p2⟩ | ⟨p1, p2⟩
      · obtain ⟨F, n, s9, hs, hok, han, hF, hr, hc⟩ := clr_all hP (by omega) hC hRr fall shr mat rgt fallen shares under table right tried falls
        have hi4 : i < 4 := by omega
        have hcm : cm m j < 5 := col_lt hj h4
        have h50 := hP.2.1 i (cm m j) hi4 hcm
        have b0 := sh_bd hP hok hi4
        have b1 := mul_bd b0.1 b0.2 (y := (d i (cm m j) : Int)) (b := 50) (by omega) (by omega)
        have b2 := un_bd hP hok
        obtain ⟨g, a1, a2, a3⟩ := low_both b1.1 (by omega) b2.1 (by omega)
        have e1 : s9.2.1 i * (debts (5 * i + j)).toInt64 = Int64.ofInt (eqS tt c d F i * (d i (cm m j) : Int)) := by
          rw [hr.2.1 i hi4, rel_d hC hRr h4 hi hj, hC.2 i (cm m j) hi4 hcm, nI_j (by omega), Int64.ofInt_mul]
        have e2 : (cst (nI tt) (-1) coin debt fall shr mat rgt).2.1 i * (debt (i * 5 + cm m j)).toInt64 = Int64.ofInt (eqS tt c d F i * (d i (cm m j) : Int)) := by
          rw [hc.2.1 i hi4, hC.2 i (cm m j) hi4 hcm, nI_j (by omega), Int64.ofInt_mul]
        have a1' : cmn 128 (s9.2.1 i * (debts (5 * i + j)).toInt64) s9.2.2.1 = some g := by rw [e1, hr.2.2.2]; exact a1
        exact bothJ (M_pays hi h4 hj p1) (R_pays hi h4 h1 hj p2 hs a1' a2) (by rw [e1, e2, hr.2.2.2, hc.2.2.2, a3]) (Rel.mk hP.up hC hRr)
      · exact ⟨(-102), _, _, M_pays_O hi h4 hj p1, R_pays_O hi h4 h1 hj p2, hR0.up⟩
    · exact ⟨(-101), _, _, M_pays_UP hi h4 u3, R_pays_UP hi h4 h1 u3, hR0.up⟩
  · exact ⟨(-101), _, _, M_pays_U u1, R_pays_U h1 u2, hR0.up⟩
/-- what the fallen houses get, together -/
def fG (tt : Nat) (u : Nat → Nat) (d : Nat → Nat → Nat) (f : Nat → Nat) : Nat → Int
  | 0 => 0
  | i + 1 => fG tt u d f i + (if f i = 0 then 0 else eqG tt u d f i 4)
theorem fG_bd {k m tt po : Nat} {u : Nat → Nat} {d : Nat → Nat → Nat} {f : Nat → Nat} (hP : RelP k m tt po u d) (h : okF tt u d f) : ∀ n, n ≤ 4 → 0 ≤ fG tt u d f n ∧ fG tt u d f n ≤ 153600000000000000 * (n : Int)
  | 0, _ => ⟨Int.le_refl _, Int.le_refl _⟩
  | n + 1, hn => by
    have ih := fG_bd hP h n (by omega)
    rw [fG]
    by_cases z : f n = 0
    · rw [if_pos z]; omega
    · have := fa_bd hP h (show n < 4 by omega) z
      rw [if_neg z]; omega
theorem fG_cut {m tt : Nat} {u : Nat → Nat} {d : Nat → Nat → Nat} {f : Nat → Nat} (hf : ∀ i, i < 4 → m ≤ i → f i = 0) : ∀ n, n ≤ 4 → m ≤ n → fG tt u d f n = fG tt u d f m
  | 0, _, h => by rw [show m = 0 by omega]
  | n + 1, hn, h => by
    by_cases e : m = n + 1
    · rw [e]
    · rw [fG, fG_cut hf n (by omega) (by omega), if_pos (hf n (by omega) (by omega)), Int.add_zero]
theorem st_lost (Z : ZT) (b : Int32) : StJ Z yX3_lost cX3_lost 2 6 yX4_lost cX4_lost 5 4 [.int b] := by
  intro k wc wr hk hR
  have hR0 := hR
  obtain ⟨m, tt, po, c, d, coin, debt, fall, shr, mat, rgt, pen, last, below, cash, debts, fallen, rounds, shares, under, table, right, tried, falls, rsize, ro, r, found, hh, hP, hC, hRr, rfl, rfl⟩ := hR
  obtain ⟨⟨h1, h4, ht⟩, hrest⟩ := id hP
  rcases part_cases b with ⟨p1, p2⟩ | ⟨p1, p2⟩
  · obtain ⟨F, n, s9, hs, hok, han, hF, hr, hc⟩ := clr_all hP (by omega) hC hRr fall shr mat rgt fallen shares under table right tried falls
    have b0 := fG_bd hP hok 4 (Nat.le_refl _)
    have b1 := mul_bd b0.1 b0.2 (y := (tt : Int)) (b := 5) (by omega) (by omega)
    have b2 := un_bd hP hok
    obtain ⟨g, a1, a2, a3⟩ := low_both (x := fG tt c d F 4 * (tt : Int)) (y := eqS tt c d F 4 * 10) b1.1 (by omega) (by omega) (by omega)
    have el : ∀ q, q ≤ m → lR m cash s9.2.2.1 s9.2.1 debts s9.1 q = Int64.ofInt (fG tt c d F q) := by
      intro q
      induction q with
      | zero => intro _; rfl
      | succ q ih =>
        intro hq
        rw [lR, fG, ih (by omega), Int64.ofInt_add]
        congr 1
        have hq4 : q < 4 := by omega
        have hfr : s9.1 q ≤ 0 ↔ F q = 0 := by rw [hr.1 q hq4, nI_le0 (by have := (hF q hq4).1; omega)]
        by_cases z : F q = 0
        · rw [if_pos (hfr.mpr z), if_pos z]; rfl
        · rw [if_neg (fun y => z (hfr.mp y)), if_neg z, gR_of hP (by omega) hRr hr.2.2.2 hr.2.1 (by omega) m (Nat.le_refl _), eqG_cut hP hq4 4 (Nat.le_refl _) h4]
    have ec : ∀ q, q ≤ 4 → lA (nI tt) (cst (nI tt) (-1) coin debt fall shr mat rgt).2.2.2.2.2 (-1) coin debt (cst (nI tt) (-1) coin debt fall shr mat rgt).2.1 (cst (nI tt) (-1) coin debt fall shr mat rgt).1 q = Int64.ofInt (fG tt c d F q * (tt : Int)) := by
      intro q
      induction q with
      | zero => intro _; rw [lA, fG, Int.zero_mul]; rfl
      | succ q ih =>
        intro hq
        have hq4 : q < 4 := by omega
        have hfl := fl_kS (hc.1 q hq4) (by have := (hF q hq4).1; omega)
        rw [lA, fG, ih (by omega)]
        by_cases z : F q = 0
        · rw [if_neg (fun y => hfl.mp y z), if_pos z, Int.add_zero]
        · rw [if_pos (hfl.mpr z), if_neg z, gA_of hP (by omega) (pen := -1) (fun i hi => (uC_none hi).trans (hC.1 i hi)) hC.2 hc.2.2.2 hc.2.1 hq4 4 (Nat.le_refl _), nI_j (by omega), Int.add_mul, Int64.ofInt_add, Int64.ofInt_mul (eqG tt c d F q 4)]
    have e1 : lR m cash s9.2.2.1 s9.2.1 debts s9.1 m * (nI tt).toInt64 = Int64.ofInt (fG tt c d F 4 * (tt : Int)) := by
      rw [el m (Nat.le_refl _), nI_j (by omega), fG_cut (fun i hi hm => (hF i hi).2 hm) 4 (Nat.le_refl _) h4, Int64.ofInt_mul]
    have e10 : s9.2.2.1 * 10 = Int64.ofInt (eqS tt c d F 4 * 10) := by
      rw [hr.2.2.2, Int64.ofInt_mul]; rfl
    have e11 : (cst (nI tt) (-1) coin debt fall shr mat rgt).2.2.2.2.2 * 10 = Int64.ofInt (eqS tt c d F 4 * 10) := by
      rw [hc.2.2.2, Int64.ofInt_mul]; rfl
    have a1' : cmn 128 (lR m cash s9.2.2.1 s9.2.1 debts s9.1 m * (nI tt).toInt64) (s9.2.2.1 * 10) = some g := by rw [e1, e10]; exact a1
    exact bothJ (M_lost p1) (R_lost h4 p2 hs a1' a2) (by rw [e1, e10, ec 4 (Nat.le_refl _), e11, a3]) (Rel.mk hP.up hC hRr)
  · exact ⟨(-102), _, _, M_lost_O p1, R_lost_O p2, hR0.up⟩

theorem M_X3_at {Z : ZT} {w : va_W} {q0 a n k : Nat} {f : Nat → Int32} (he : w[q0]? = some (a, .inl (Z.2.1 0, n, .inl f))) (hk : k < n) (hn : n < 2 ^ 31) : MM Z yX3_at cX3_at 2 (some .int) 0 [.ref a, .int (nI k)] w (some (.int (f k))) w := by
  refine MM.intro (by decide) [some (.ref a), some (.int (nI k))] rfl (Nat.le_of_ble_eq_true rfl) (fun X (h : OK Z X cX3_at RX3 2 (rmd 0)) hr => ?_)
  refine g_aload_n (i := 0) h dX3_at_0 rfl rfl (pc' := 1) rfl ?_
  refine g_ifnull h dX3_at_1 (pc' := 4) rfl ?_
  refine g_iload_n (i := 1) h dX3_at_4 rfl rfl (pc' := 5) rfl ?_
  refine g_if_ltF (tg := 20) h dX3_at_5 (by decide) (pc' := 8) rfl (nI_pos (by omega)) ?_
  refine g_iload_n (i := 1) h dX3_at_8 rfl rfl (pc' := 9) rfl ?_
  refine g_aload_n (i := 0) h dX3_at_9 rfl rfl (pc' := 10) rfl ?_
  refine g_alen0 h dX3_at_10 he (pc' := 11) rfl ?_
  refine g_icmp_geF (tg := 20) h dX3_at_11 (by decide) (pc' := 14) rfl (nI_ge hk hn) ?_
  refine g_aload_n (i := 0) h dX3_at_14 rfl rfl (pc' := 15) rfl ?_
  refine g_iload_n (i := 1) h dX3_at_15 rfl rfl (pc' := 16) rfl ?_
  refine g_ial h dX3_at_16 he rfl hk hn (pc' := 17) rfl ?_
  refine g_goto (pc' := 21) h dX3_at_17 (by decide) ?_
  exact g_iret h hr dX3_at_21 rfl rfl
theorem M_X3_longAt {Z : ZT} {w : va_W} {q0 a n k : Nat} {f : Nat → Int64} (he : w[q0]? = some (a, .inl (Z.2.1 1, n, .inr (.inl f)))) (hk : k < n) (hn : n < 2 ^ 31) : MM Z yX3_longAt cX3_longAt 2 (some .long) 0 [.ref a, .int (nI k)] w (some (.long (f k))) w := by
  refine MM.intro (by decide) [some (.ref a), some (.int (nI k))] rfl (Nat.le_of_ble_eq_true rfl) (fun X (h : OK Z X cX3_longAt RX3 2 (rmd 0)) hr => ?_)
  refine g_aload_n (i := 0) h dX3_longAt_0 rfl rfl (pc' := 1) rfl ?_
  refine g_ifnull h dX3_longAt_1 (pc' := 4) rfl ?_
  refine g_iload_n (i := 1) h dX3_longAt_4 rfl rfl (pc' := 5) rfl ?_
  refine g_if_ltF (tg := 20) h dX3_longAt_5 (by decide) (pc' := 8) rfl (nI_pos (by omega)) ?_
  refine g_iload_n (i := 1) h dX3_longAt_8 rfl rfl (pc' := 9) rfl ?_
  refine g_aload_n (i := 0) h dX3_longAt_9 rfl rfl (pc' := 10) rfl ?_
  refine g_alen1 h dX3_longAt_10 he (pc' := 11) rfl ?_
  refine g_icmp_geF (tg := 20) h dX3_longAt_11 (by decide) (pc' := 14) rfl (nI_ge hk hn) ?_
  refine g_aload_n (i := 0) h dX3_longAt_14 rfl rfl (pc' := 15) rfl ?_
  refine g_iload_n (i := 1) h dX3_longAt_15 rfl rfl (pc' := 16) rfl ?_
  refine g_lal h dX3_longAt_16 he rfl hk hn (pc' := 17) rfl ?_
  refine g_goto (pc' := 21) h dX3_longAt_17 (by decide) ?_
  exact g_lret h hr dX3_longAt_21 rfl rfl
theorem M_X3_put {Z : ZT} {w : va_W} {q0 a n k : Nat} {f : Nat → Int32} {x : Int32} (he : w[q0]? = some (a, .inl (Z.2.1 0, n, .inl f))) (hk : k < n) (hn : n < 2 ^ 31) : MM Z yX3_put cX3_put 3 none 0 [.ref a, .int (nI k), .int x] w none (w.set q0 (a, .inl (Z.2.1 0, n, .inl (upd f k x)))) := by
  refine MM.intro (by decide) [some (.ref a), some (.int (nI k)), some (.int x)] rfl (Nat.le_of_ble_eq_true rfl) (fun X (h : OK Z X cX3_put RX3 3 (rmd 0)) hr => ?_)
  refine g_aload_n (i := 0) h dX3_put_0 rfl rfl (pc' := 1) rfl ?_
  refine g_ifnull h dX3_put_1 (pc' := 4) rfl ?_
  refine g_iload_n (i := 1) h dX3_put_4 rfl rfl (pc' := 5) rfl ?_
  refine g_if_ltF (tg := 18) h dX3_put_5 (by decide) (pc' := 8) rfl (nI_pos (by omega)) ?_
  refine g_iload_n (i := 1) h dX3_put_8 rfl rfl (pc' := 9) rfl ?_
  refine g_aload_n (i := 0) h dX3_put_9 rfl rfl (pc' := 10) rfl ?_
  refine g_alen0 h dX3_put_10 he (pc' := 11) rfl ?_
  refine g_icmp_geF (tg := 18) h dX3_put_11 (by decide) (pc' := 14) rfl (nI_ge hk hn) ?_
  refine g_aload_n (i := 0) h dX3_put_14 rfl rfl (pc' := 15) rfl ?_
  refine g_iload_n (i := 1) h dX3_put_15 rfl rfl (pc' := 16) rfl ?_
  refine g_iload_n (i := 2) h dX3_put_16 rfl rfl (pc' := 17) rfl ?_
  refine g_ias h dX3_put_17 he rfl hk hn (pc' := 18) rfl ?_
  exact g_vret h hr dX3_put_18 rfl rfl
theorem M_X3_putLong {Z : ZT} {w : va_W} {q0 a n k : Nat} {f : Nat → Int64} {x : Int64} (he : w[q0]? = some (a, .inl (Z.2.1 1, n, .inr (.inl f)))) (hk : k < n) (hn : n < 2 ^ 31) : MM Z yX3_putLong cX3_putLong 4 none 0 [.ref a, .int (nI k), .long x] w none (w.set q0 (a, .inl (Z.2.1 1, n, .inr (.inl (vp_updL f k x))))) := by
  refine MM.intro (by decide) [some (.ref a), some (.int (nI k)), some (.long x), none] rfl (Nat.le_of_ble_eq_true rfl) (fun X (h : OK Z X cX3_putLong RX3 4 (rmd 0)) hr => ?_)
  refine g_aload_n (i := 0) h dX3_putLong_0 rfl rfl (pc' := 1) rfl ?_
  refine g_ifnull h dX3_putLong_1 (pc' := 4) rfl ?_
  refine g_iload_n (i := 1) h dX3_putLong_4 rfl rfl (pc' := 5) rfl ?_
  refine g_if_ltF (tg := 18) h dX3_putLong_5 (by decide) (pc' := 8) rfl (nI_pos (by omega)) ?_
  refine g_iload_n (i := 1) h dX3_putLong_8 rfl rfl (pc' := 9) rfl ?_
  refine g_aload_n (i := 0) h dX3_putLong_9 rfl rfl (pc' := 10) rfl ?_
  refine g_alen1 h dX3_putLong_10 he (pc' := 11) rfl ?_
  refine g_icmp_geF (tg := 18) h dX3_putLong_11 (by decide) (pc' := 14) rfl (nI_ge hk hn) ?_
  refine g_aload_n (i := 0) h dX3_putLong_14 rfl rfl (pc' := 15) rfl ?_
  refine g_iload_n (i := 1) h dX3_putLong_15 rfl rfl (pc' := 16) rfl ?_
  refine g_lload_n (i := 2) h dX3_putLong_16 rfl rfl (pc' := 17) rfl ?_
  refine g_las h dX3_putLong_17 he rfl hk hn (pc' := 18) rfl ?_
  exact g_vret h hr dX3_putLong_18 rfl rfl
theorem M_X3_at_all {Z : ZT} {w : va_W} {k : Nat} (hk : k < 20) : MM Z yX3_at cX3_at 2 (some .int) 0 [.ref (Z.2.2 21), .int (nI k)] w (some (.int (allR k))) w := by
  refine MM.intro (by decide) [some (.ref (Z.2.2 21)), some (.int (nI k))] rfl (Nat.le_of_ble_eq_true rfl) (fun X (h : OK Z X cX3_at RX3 2 (rmd 0)) hr => ?_)
  refine g_aload_n (i := 0) h dX3_at_0 rfl rfl (pc' := 1) rfl ?_
  refine g_ifnull h dX3_at_1 (pc' := 4) rfl ?_
  refine g_iload_n (i := 1) h dX3_at_4 rfl rfl (pc' := 5) rfl ?_
  refine g_if_ltF (tg := 20) h dX3_at_5 (by decide) (pc' := 8) rfl (nI_pos (by omega)) ?_
  refine g_iload_n (i := 1) h dX3_at_8 rfl rfl (pc' := 9) rfl ?_
  refine g_aload_n (i := 0) h dX3_at_9 rfl rfl (pc' := 10) rfl ?_
  refine g_alenAll h dX3_at_10 (pc' := 11) rfl ?_
  refine g_icmp_geF (tg := 20) h dX3_at_11 (by decide) (pc' := 14) rfl (nI_ge hk (by decide)) ?_
  refine g_aload_n (i := 0) h dX3_at_14 rfl rfl (pc' := 15) rfl ?_
  refine g_iload_n (i := 1) h dX3_at_15 rfl rfl (pc' := 16) rfl ?_
  refine g_ialAll h dX3_at_16 rfl hk (pc' := 17) rfl ?_
  refine g_goto (pc' := 21) h dX3_at_17 (by decide) ?_
  exact g_iret h hr dX3_at_21 rfl rfl
theorem M_X3_at_4 {Z : ZT} {n : Int32} {toll : Int32} {paid : Int32} {coin : Nat → Int32} {debt : Nat → Int32} {fall : Nat → Int32} {shr : Nat → Int64} {mat : Nat → Int64} {rgt : Nat → Int64} {pen : Int32} {last : Int32} {below : Int64} {k : Nat} (hk : k < 4) : MM Z yX3_at cX3_at 2 (some .int) 0 [.ref (Z.2.2 4), .int (nI k)] (wC Z n toll paid coin debt fall shr mat rgt pen last below) (some (.int (coin k))) (wC Z n toll paid coin debt fall shr mat rgt pen last below) := M_X3_at (q0 := 4) rfl hk (by decide)
theorem M_X3_put_4 {Z : ZT} {n : Int32} {toll : Int32} {paid : Int32} {coin : Nat → Int32} {debt : Nat → Int32} {fall : Nat → Int32} {shr : Nat → Int64} {mat : Nat → Int64} {rgt : Nat → Int64} {pen : Int32} {last : Int32} {below : Int64} {k : Nat} {x : Int32} (hk : k < 4) : MM Z yX3_put cX3_put 3 none 0 [.ref (Z.2.2 4), .int (nI k), .int x] (wC Z n toll paid coin debt fall shr mat rgt pen last below) none (wC Z n toll paid (upd coin k x) debt fall shr mat rgt pen last below) := M_X3_put (q0 := 4) rfl hk (by decide)
theorem M_X3_at_5 {Z : ZT} {n : Int32} {toll : Int32} {paid : Int32} {coin : Nat → Int32} {debt : Nat → Int32} {fall : Nat → Int32} {shr : Nat → Int64} {mat : Nat → Int64} {rgt : Nat → Int64} {pen : Int32} {last : Int32} {below : Int64} {k : Nat} (hk : k < 20) : MM Z yX3_at cX3_at 2 (some .int) 0 [.ref (Z.2.2 5), .int (nI k)] (wC Z n toll paid coin debt fall shr mat rgt pen last below) (some (.int (debt k))) (wC Z n toll paid coin debt fall shr mat rgt pen last below) := M_X3_at (q0 := 5) rfl hk (by decide)
theorem M_X3_put_5 {Z : ZT} {n : Int32} {toll : Int32} {paid : Int32} {coin : Nat → Int32} {debt : Nat → Int32} {fall : Nat → Int32} {shr : Nat → Int64} {mat : Nat → Int64} {rgt : Nat → Int64} {pen : Int32} {last : Int32} {below : Int64} {k : Nat} {x : Int32} (hk : k < 20) : MM Z yX3_put cX3_put 3 none 0 [.ref (Z.2.2 5), .int (nI k), .int x] (wC Z n toll paid coin debt fall shr mat rgt pen last below) none (wC Z n toll paid coin (upd debt k x) fall shr mat rgt pen last below) := M_X3_put (q0 := 5) rfl hk (by decide)
theorem M_X3_at_6 {Z : ZT} {n : Int32} {toll : Int32} {paid : Int32} {coin : Nat → Int32} {debt : Nat → Int32} {fall : Nat → Int32} {shr : Nat → Int64} {mat : Nat → Int64} {rgt : Nat → Int64} {pen : Int32} {last : Int32} {below : Int64} {k : Nat} (hk : k < 4) : MM Z yX3_at cX3_at 2 (some .int) 0 [.ref (Z.2.2 6), .int (nI k)] (wC Z n toll paid coin debt fall shr mat rgt pen last below) (some (.int (fall k))) (wC Z n toll paid coin debt fall shr mat rgt pen last below) := M_X3_at (q0 := 6) rfl hk (by decide)
theorem M_X3_put_6 {Z : ZT} {n : Int32} {toll : Int32} {paid : Int32} {coin : Nat → Int32} {debt : Nat → Int32} {fall : Nat → Int32} {shr : Nat → Int64} {mat : Nat → Int64} {rgt : Nat → Int64} {pen : Int32} {last : Int32} {below : Int64} {k : Nat} {x : Int32} (hk : k < 4) : MM Z yX3_put cX3_put 3 none 0 [.ref (Z.2.2 6), .int (nI k), .int x] (wC Z n toll paid coin debt fall shr mat rgt pen last below) none (wC Z n toll paid coin debt (upd fall k x) shr mat rgt pen last below) := M_X3_put (q0 := 6) rfl hk (by decide)
theorem M_X3_longAt_7 {Z : ZT} {n : Int32} {toll : Int32} {paid : Int32} {coin : Nat → Int32} {debt : Nat → Int32} {fall : Nat → Int32} {shr : Nat → Int64} {mat : Nat → Int64} {rgt : Nat → Int64} {pen : Int32} {last : Int32} {below : Int64} {k : Nat} (hk : k < 4) : MM Z yX3_longAt cX3_longAt 2 (some .long) 0 [.ref (Z.2.2 7), .int (nI k)] (wC Z n toll paid coin debt fall shr mat rgt pen last below) (some (.long (shr k))) (wC Z n toll paid coin debt fall shr mat rgt pen last below) := M_X3_longAt (q0 := 7) rfl hk (by decide)
theorem M_X3_putLong_7 {Z : ZT} {n : Int32} {toll : Int32} {paid : Int32} {coin : Nat → Int32} {debt : Nat → Int32} {fall : Nat → Int32} {shr : Nat → Int64} {mat : Nat → Int64} {rgt : Nat → Int64} {pen : Int32} {last : Int32} {below : Int64} {k : Nat} {x : Int64} (hk : k < 4) : MM Z yX3_putLong cX3_putLong 4 none 0 [.ref (Z.2.2 7), .int (nI k), .long x] (wC Z n toll paid coin debt fall shr mat rgt pen last below) none (wC Z n toll paid coin debt fall (vp_updL shr k x) mat rgt pen last below) := M_X3_putLong (q0 := 7) rfl hk (by decide)
theorem M_X3_longAt_8 {Z : ZT} {n : Int32} {toll : Int32} {paid : Int32} {coin : Nat → Int32} {debt : Nat → Int32} {fall : Nat → Int32} {shr : Nat → Int64} {mat : Nat → Int64} {rgt : Nat → Int64} {pen : Int32} {last : Int32} {below : Int64} {k : Nat} (hk : k < 16) : MM Z yX3_longAt cX3_longAt 2 (some .long) 0 [.ref (Z.2.2 8), .int (nI k)] (wC Z n toll paid coin debt fall shr mat rgt pen last below) (some (.long (mat k))) (wC Z n toll paid coin debt fall shr mat rgt pen last below) := M_X3_longAt (q0 := 8) rfl hk (by decide)
theorem M_X3_putLong_8 {Z : ZT} {n : Int32} {toll : Int32} {paid : Int32} {coin : Nat → Int32} {debt : Nat → Int32} {fall : Nat → Int32} {shr : Nat → Int64} {mat : Nat → Int64} {rgt : Nat → Int64} {pen : Int32} {last : Int32} {below : Int64} {k : Nat} {x : Int64} (hk : k < 16) : MM Z yX3_putLong cX3_putLong 4 none 0 [.ref (Z.2.2 8), .int (nI k), .long x] (wC Z n toll paid coin debt fall shr mat rgt pen last below) none (wC Z n toll paid coin debt fall shr (vp_updL mat k x) rgt pen last below) := M_X3_putLong (q0 := 8) rfl hk (by decide)
theorem M_X3_longAt_9 {Z : ZT} {n : Int32} {toll : Int32} {paid : Int32} {coin : Nat → Int32} {debt : Nat → Int32} {fall : Nat → Int32} {shr : Nat → Int64} {mat : Nat → Int64} {rgt : Nat → Int64} {pen : Int32} {last : Int32} {below : Int64} {k : Nat} (hk : k < 4) : MM Z yX3_longAt cX3_longAt 2 (some .long) 0 [.ref (Z.2.2 9), .int (nI k)] (wC Z n toll paid coin debt fall shr mat rgt pen last below) (some (.long (rgt k))) (wC Z n toll paid coin debt fall shr mat rgt pen last below) := M_X3_longAt (q0 := 9) rfl hk (by decide)
theorem M_X3_putLong_9 {Z : ZT} {n : Int32} {toll : Int32} {paid : Int32} {coin : Nat → Int32} {debt : Nat → Int32} {fall : Nat → Int32} {shr : Nat → Int64} {mat : Nat → Int64} {rgt : Nat → Int64} {pen : Int32} {last : Int32} {below : Int64} {k : Nat} {x : Int64} (hk : k < 4) : MM Z yX3_putLong cX3_putLong 4 none 0 [.ref (Z.2.2 9), .int (nI k), .long x] (wC Z n toll paid coin debt fall shr mat rgt pen last below) none (wC Z n toll paid coin debt fall shr mat (vp_updL rgt k x) pen last below) := M_X3_putLong (q0 := 9) rfl hk (by decide)
set_option maxRecDepth 20000 in
set_option maxHeartbeats 4000000 in
theorem M_X3_isPart {Z : ZT} {n : Int32} {toll : Int32} {paid : Int32} {coin : Nat → Int32} {debt : Nat → Int32} {fall : Nat → Int32} {shr : Nat → Int64} {mat : Nat → Int64} {rgt : Nat → Int64} {pen : Int32} {last : Int32} {below : Int64} {p : Int32}   : MM Z yX3_isPart cX3_isPart 1 (some .boolean) 0 [.int p] (wC Z n toll paid coin debt fall shr mat rgt pen last below) (some (.int (bI (p = 0 ∨ p = nI 1)))) (wC Z n toll paid coin debt fall shr mat rgt pen last below) := by
  refine MM.intro (by decide) [some (.int p)] rfl (Nat.le_of_ble_eq_true rfl) (fun X (h : OK Z X cX3_isPart RX3 1 (rmd 0)) hr => ?_)
  refine g_iload_n (i := 0) h dX3_isPart_0 rfl rfl (pc' := 1) rfl ?_
  refine g_if_eq (tg := 9) h dX3_isPart_1 (by decide) (pc' := 4) rfl (fun c1 => ?_) (fun c1 => ?_)
  · skip
    refine g_iconst (v := nI 1) h dX3_isPart_9 (by decide) (pc' := 10) rfl ?_
    refine g_goto (pc' := 14) h dX3_isPart_10 (by decide) ?_
    exact g_zret h hr dX3_isPart_14 (by decide) (by simp [bI, c1]; try rfl) rfl
  · skip
    refine g_iload_n (i := 0) h dX3_isPart_4 rfl rfl (pc' := 5) rfl ?_
    refine g_iconst (v := nI 1) h dX3_isPart_5 (by decide) (pc' := 6) rfl ?_
    refine g_icmp_ne (tg := 13) h dX3_isPart_6 (by decide) (pc' := 9) rfl (fun c2 => ?_) (fun c2 => ?_)
    · skip
      refine g_iconst (v := nI 0) h dX3_isPart_13 (by decide) (pc' := 14) rfl ?_
      exact g_zret h hr dX3_isPart_14 (by decide) (by simp [bI, c1, c2]; try rfl) rfl
    · skip
      refine g_iconst (v := nI 1) h dX3_isPart_9 (by decide) (pc' := 10) rfl ?_
      refine g_goto (pc' := 14) h dX3_isPart_10 (by decide) ?_
      exact g_zret h hr dX3_isPart_14 (by decide) (by simp [bI, c1, c2]; try rfl) rfl
set_option maxRecDepth 20000 in
set_option maxHeartbeats 4000000 in
theorem M_X3_commonDivisor {Z : ZT} {n : Int32} {toll : Int32} {paid : Int32} {coin : Nat → Int32} {debt : Nat → Int32} {fall : Nat → Int32} {shr : Nat → Int64} {mat : Nat → Int64} {rgt : Nat → Int64} {pen : Int32} {last : Int32} {below : Int64} {a : Int64} {b : Int64}   : MM Z yX3_commonDivisor cX3_commonDivisor 11 (some .long) 1 [.long a, .long b] (wC Z n toll paid coin debt fall shr mat rgt pen last below) (some (.long (cdv 200 (labs a) (labs b)))) (wC Z n toll paid coin debt fall shr mat rgt pen last below) := by
  refine MM.intro (by decide) [some (.long a), none, some (.long b), none, none, none, none, none, none, none, none] rfl (Nat.le_of_ble_eq_true rfl) (fun X (h : OK Z X cX3_commonDivisor RX3 11 (rmd 1)) hr => ?_)
  refine g_lload_n (i := 0) h dX3_commonDivisor_0 rfl rfl (pc' := 1) rfl ?_
  refine g_mabs ml_X3_158 ms_abs mi_math mc_abs h dX3_commonDivisor_1 (by decide) (Nat.le_of_ble_eq_true rfl) (pc' := 4) rfl ?_
  refine g_lstore4 h dX3_commonDivisor_4 rfl (by decide) (pc' := 6) rfl ?_
  refine g_lload_n (i := 2) h dX3_commonDivisor_6 rfl rfl (pc' := 7) rfl ?_
  refine g_mabs ml_X3_158 ms_abs mi_math mc_abs h dX3_commonDivisor_7 (by decide) (Nat.le_of_ble_eq_true rfl) (pc' := 10) rfl ?_
  refine g_lstore6 h dX3_commonDivisor_10 rfl (by decide) (pc' := 12) rfl ?_
  refine g_iconst (v := nI 0) h dX3_commonDivisor_12 (by decide) (pc' := 13) rfl ?_
  refine g_istore8 h dX3_commonDivisor_13 rfl (by decide) (pc' := 15) rfl ?_
  have key15 : ∀ (k : Nat) (j : Nat) (x y : Int64), (j + k = 200) → (cdv 200 (labs a) (labs b) = cdv k x y) → GG Z X 15 [some (.long a), none, some (.long b), none, some (.long x), none, some (.long y), none, some (.int (nI j)), none, none] [] (wC Z n toll paid coin debt fall shr mat rgt pen last below) := by
    intro k
    induction k with
    | zero =>
      intro j x y e15_0 e15_1
      refine g_iload h dX3_commonDivisor_15 rfl (pc' := 17) rfl ?_
      refine g_sipush (v := nI 200) h dX3_commonDivisor_17 (by decide) (pc' := 20) rfl ?_
      refine g_icmp_geT (tg := 51) h dX3_commonDivisor_20 (by decide) (by rw [show j = 200 by omega]; exact Int32.le_refl _) ?_
      refine g_lload h dX3_commonDivisor_51 rfl (pc' := 53) rfl ?_
      exact g_lret h hr dX3_commonDivisor_53 (by first | (rw [e15_1]; simp [cdv, ]) | (rw [e15_1]; rfl)) rfl
    | succ k ih15 =>
      intro j x y e15_0 e15_1
      have hj : j < 200 := by omega
      refine g_iload h dX3_commonDivisor_15 rfl (pc' := 17) rfl ?_
      refine g_sipush (v := nI 200) h dX3_commonDivisor_17 (by decide) (pc' := 20) rfl ?_
      refine g_icmp_geF (tg := 51) h dX3_commonDivisor_20 (by decide) (pc' := 23) rfl (nI_ge hj (by decide)) ?_
      refine g_lload h dX3_commonDivisor_23 rfl (pc' := 25) rfl ?_
      refine g_lconst (v := 0) h dX3_commonDivisor_25 (by decide) (pc' := 26) rfl ?_
      refine g_lcmp_eq (pc1 := 27) (tg := 51) h dX3_commonDivisor_26 rfl dX3_commonDivisor_27 (by decide) (pc' := 30) rfl (fun c1 => ?_) (fun c1 => ?_)
      · skip
        refine g_lload h dX3_commonDivisor_51 rfl (pc' := 53) rfl ?_
        exact g_lret h hr dX3_commonDivisor_53 (by first | (rw [e15_1]; simp [cdv, c1]) | (rw [e15_1]; rfl)) rfl
      · skip
        refine g_lload h dX3_commonDivisor_30 rfl (pc' := 32) rfl ?_
        refine g_lload h dX3_commonDivisor_32 rfl (pc' := 34) rfl ?_
        refine g_lrem h dX3_commonDivisor_34 c1 (pc' := 35) rfl ?_
        refine g_lstore9 h dX3_commonDivisor_35 rfl (by decide) (pc' := 37) rfl ?_
        refine g_lload h dX3_commonDivisor_37 rfl (pc' := 39) rfl ?_
        refine g_lstore4 h dX3_commonDivisor_39 rfl (by decide) (pc' := 41) rfl ?_
        refine g_lload h dX3_commonDivisor_41 rfl (pc' := 43) rfl ?_
        refine g_lstore6 h dX3_commonDivisor_43 rfl (by decide) (pc' := 45) rfl ?_
        refine g_iinc8 (v := nI (j + 1)) h dX3_commonDivisor_45 rfl (inc1 j) (by decide) (pc' := 48) rfl ?_
        refine g_goto (pc' := 15) h dX3_commonDivisor_48 (by decide) ?_
        exact GG.castW (ih15 (j + 1) y (jrem x y) (by omega) (e15_1.trans (if_neg c1))) ⟨rfl, rfl, rfl, rfl, rfl, trivial⟩ rfl rfl
  exact GG.castW (key15 200 0 (labs a) (labs b) rfl rfl) ⟨rfl, rfl, rfl, rfl, rfl, trivial⟩ rfl rfl
def lT (a b : Int64) (p : Int32) : Int64 := if cdv 200 (labs a) (labs b) = 0 then 0 else if p = 0 then a / cdv 200 (labs a) (labs b) else b / cdv 200 (labs a) (labs b)
set_option maxRecDepth 20000 in
set_option maxHeartbeats 4000000 in
theorem M_X3_lowestTerms {Z : ZT} {n : Int32} {toll : Int32} {paid : Int32} {coin : Nat → Int32} {debt : Nat → Int32} {fall : Nat → Int32} {shr : Nat → Int64} {mat : Nat → Int64} {rgt : Nat → Int64} {pen : Int32} {last : Int32} {below : Int64} {a : Int64} {b : Int64} {p : Int32}   : MM Z yX3_lowestTerms cX3_lowestTerms 7 (some .long) 2 [.long a, .long b, .int p] (wC Z n toll paid coin debt fall shr mat rgt pen last below) (some (.long (lT a b p))) (wC Z n toll paid coin debt fall shr mat rgt pen last below) := by
  refine MM.intro (by decide) [some (.long a), none, some (.long b), none, some (.int p), none, none] rfl (Nat.le_of_ble_eq_true rfl) (fun X (h : OK Z X cX3_lowestTerms RX3 7 (rmd 2)) hr => ?_)
  refine g_lload_n (i := 0) h dX3_lowestTerms_0 rfl rfl (pc' := 1) rfl ?_
  refine g_lload_n (i := 2) h dX3_lowestTerms_1 rfl rfl (pc' := 2) rfl ?_
  refine g_callS1 h dX3_lowestTerms_2 cf_X3_154 (M_X3_commonDivisor (a := a) (b := b) ) rfl (by decide) rfl (Nat.le_of_ble_eq_true rfl) (pc' := 5) rfl ?_
  refine g_lstore5 h dX3_lowestTerms_5 rfl (by decide) (pc' := 7) rfl ?_
  refine g_lload h dX3_lowestTerms_7 rfl (pc' := 9) rfl ?_
  refine g_lconst (v := 0) h dX3_lowestTerms_9 (by decide) (pc' := 10) rfl ?_
  refine g_lcmp_ne (pc1 := 11) (tg := 16) h dX3_lowestTerms_10 rfl dX3_lowestTerms_11 (by decide) (pc' := 14) rfl (fun c1 => ?_) (fun c1 => ?_)
  · skip
    refine g_iload h dX3_lowestTerms_16 rfl (pc' := 18) rfl ?_
    refine g_if_ne (tg := 25) h dX3_lowestTerms_18 (by decide) (pc' := 21) rfl (fun c2 => ?_) (fun c2 => ?_)
    · skip
      refine g_lload_n (i := 2) h dX3_lowestTerms_25 rfl rfl (pc' := 26) rfl ?_
      refine g_lload h dX3_lowestTerms_26 rfl (pc' := 28) rfl ?_
      refine g_ldiv h dX3_lowestTerms_28 c1 (pc' := 29) rfl ?_
      exact g_lret h hr dX3_lowestTerms_29 (by simp only [lT, if_neg c1, if_neg c2]) rfl
    · skip
      refine g_lload_n (i := 0) h dX3_lowestTerms_21 rfl rfl (pc' := 22) rfl ?_
      refine g_goto (pc' := 26) h dX3_lowestTerms_22 (by decide) ?_
      refine g_lload h dX3_lowestTerms_26 rfl (pc' := 28) rfl ?_
      refine g_ldiv h dX3_lowestTerms_28 c1 (pc' := 29) rfl ?_
      exact g_lret h hr dX3_lowestTerms_29 (by simp only [lT, if_neg c1, if_pos c2]) rfl
  · skip
    refine g_lconst (v := 0) h dX3_lowestTerms_14 (by decide) (pc' := 15) rfl ?_
    exact g_lret h hr dX3_lowestTerms_15 (by simp only [lT, if_pos c1]) rfl

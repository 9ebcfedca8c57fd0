set_option maxRecDepth 20000 in
set_option maxHeartbeats 4000000 in
theorem M_X4_isRing {Z : ZT} {m : Nat} {toll : Int32} {paid : Int64} {cash : Nat → Int64} {debts : Nat → Int32} {fallen : Nat → Int32} {rounds : Int32} {shares : Nat → Int64} {under : Int64} {table : Nat → Int64} {right : Nat → Int64} {tried : Nat → Int64} {falls : Nat → Int32} {rsize : Int32} {ringOf : Nat → Int32} {r : Nat → Nat} {found : Int32} {hh : Int64} {s : Nat}  (g0 : s ≤ 4) (g1 : m ≤ 4) (g2 : ∀ q, q < s → r q < 4) : MM Z yX4_isRing cX4_isRing 5 (some .boolean) 0 [.ref (Z.2.2 10), .int (nI s)] (wR Z (nI m) toll paid cash debts fallen rounds shares under table right tried falls rsize ringOf (fun q => nI (r q)) found hh) (some (.int (nI (iR debts m r s s 0 1)))) (wR Z (nI m) toll paid cash debts fallen rounds shares under table right tried falls rsize ringOf (fun q => nI (r q)) found hh) := by
  refine MM.intro (by decide) [some (.ref (Z.2.2 10)), some (.int (nI s)), none, none, none] rfl (Nat.le_of_ble_eq_true rfl) (fun X (h : OK Z X cX4_isRing RX4 5 (rmd 0)) hr => ?_)
  refine g_iconst (v := nI 1) h dX4_isRing_0 (by decide) (pc' := 1) rfl ?_
  refine g_istore2 h dX4_isRing_1 rfl (by decide) (pc' := 2) rfl ?_
  refine g_iconst (v := nI 0) h dX4_isRing_2 (by decide) (pc' := 3) rfl ?_
  refine g_istore3 h dX4_isRing_3 rfl (by decide) (pc' := 4) rfl ?_
  have key4 : ∀ (f : Nat) (k b : Nat), (k + f = s) → (b ≤ 1) → (iR debts m r s s 0 1 = iR debts m r s f k b) → GG Z X 4 [some (.ref (Z.2.2 10)), some (.int (nI s)), some (.int (nI b)), some (.int (nI k)), none] [] (wR Z (nI m) toll paid cash debts fallen rounds shares under table right tried falls rsize ringOf (fun q => nI (r q)) found hh) := by
    intro f
    induction f with
    | zero =>
      intro k b e4_0 e4_1 e4_2
      refine g_iload_n (i := 3) h dX4_isRing_4 rfl rfl (pc' := 5) rfl ?_
      refine g_iload_n (i := 1) h dX4_isRing_5 rfl rfl (pc' := 6) rfl ?_
      refine g_icmp_geT (tg := 134) h dX4_isRing_6 (by decide) (by rw [show k = s by omega]; exact Int32.le_refl _) ?_
      refine g_iload_n (i := 2) h dX4_isRing_134 rfl rfl (pc' := 135) rfl ?_
      exact g_zret h hr dX4_isRing_135 (nar01 (iR_le (Nat.le_refl 1))) (by rw [e4_2]; rfl) rfl
    | succ f ih4 =>
      intro k b e4_0 e4_1 e4_2
      have hk : k < s := by omega
      have hrk := g2 k hk
      have hr0 := g2 0 (by omega)
      refine g_iload_n (i := 3) h dX4_isRing_4 rfl rfl (pc' := 5) rfl ?_
      refine g_iload_n (i := 1) h dX4_isRing_5 rfl rfl (pc' := 6) rfl ?_
      refine g_icmp_geF (tg := 134) h dX4_isRing_6 (by decide) (pc' := 9) rfl (nI_ge hk (by omega)) ?_
      refine g_iload_n (i := 2) h dX4_isRing_9 rfl rfl (pc' := 10) rfl ?_
      refine g_if_eq (tg := 134) h dX4_isRing_10 (by decide) (pc' := 13) rfl (fun c1 => ?_) (fun c1 => ?_)
      · skip
        refine g_iload_n (i := 2) h dX4_isRing_134 rfl rfl (pc' := 135) rfl ?_
        exact g_zret h hr dX4_isRing_135 (nar01 (iR_le (Nat.le_refl 1))) (by rw [e4_2, iR, if_pos c1]) rfl
      · skip
        refine g_aload_n (i := 0) h dX4_isRing_13 rfl rfl (pc' := 14) rfl ?_
        refine gf_X4_43 h dX4_isRing_14 (pc' := 17) rfl ?_
        refine g_iload_n (i := 3) h dX4_isRing_17 rfl rfl (pc' := 18) rfl ?_
        refine al_20 (j := k) h dX4_isRing_18 rfl (by omega) (pc' := 19) rfl ?_
        refine g_aload_n (i := 0) h dX4_isRing_19 rfl rfl (pc' := 20) rfl ?_
        refine gf_X4_7 h dX4_isRing_20 (pc' := 23) rfl ?_
        refine g_icmp_ge (tg := 85) h dX4_isRing_23 (by decide) (pc' := 26) rfl (fun c2 => ?_) (fun c2 => ?_)
        · skip
          refine g_iconst (v := nI 0) h dX4_isRing_85 (by decide) (pc' := 86) rfl ?_
          refine g_istore2 h dX4_isRing_86 rfl (by decide) (pc' := 87) rfl ?_
          refine g_iconst (v := nI 1) h dX4_isRing_87 (by decide) (pc' := 88) rfl ?_
          refine g_istore4 h dX4_isRing_88 rfl (by decide) (pc' := 90) rfl ?_
          refine GG.castW (lp (P := fun t => GG Z X 90 [some (.ref (Z.2.2 10)), some (.int (nI s)), some (.int (nI (inn r k 0 t))), some (.int (nI k)), some (.int (nI (t + 1)))] [] (wR Z (nI m) toll paid cash debts fallen rounds shares under table right tried falls rsize ringOf (fun q => nI (r q)) found hh)) (k - 1) ?_ ?_) ⟨rfl, rfl, rfl, rfl, rfl, trivial⟩ rfl rfl
          · skip
            refine g_iload h dX4_isRing_90 rfl (pc' := 92) rfl ?_
            refine g_iload_n (i := 3) h dX4_isRing_92 rfl rfl (pc' := 93) rfl ?_
            refine g_icmp_geT (tg := 128) h dX4_isRing_93 (by decide) (nI_le (by omega) (by omega)) ?_
            refine g_iinc3 (v := nI (k + 1)) h dX4_isRing_128 rfl (inc1 k) (by decide) (pc' := 131) rfl ?_
            refine g_goto (pc' := 4) h dX4_isRing_131 (by decide) ?_
            exact GG.castW (ih4 (k + 1) (inn r k 0 (k - 1)) (by omega) (inn_le (by decide) _) (by rw [e4_2, iR, if_neg c1]; simp only [is0, nx, if_pos c2])) ⟨rfl, rfl, rfl, rfl, trivial⟩ rfl rfl
          · intro t ht ih90
            have hrt := g2 (t + 1) (by omega)
            refine g_iload h dX4_isRing_90 rfl (pc' := 92) rfl ?_
            refine g_iload_n (i := 3) h dX4_isRing_92 rfl rfl (pc' := 93) rfl ?_
            refine g_icmp_geF (tg := 128) h dX4_isRing_93 (by decide) (pc' := 96) rfl (nI_ge (by omega) (by omega)) ?_
            refine g_iload_n (i := 2) h dX4_isRing_96 rfl rfl (pc' := 97) rfl ?_
            refine g_if_eq (tg := 120) h dX4_isRing_97 (by decide) (pc' := 100) rfl (fun c3 => ?_) (fun c3 => ?_)
            · skip
              refine g_iconst (v := nI 0) h dX4_isRing_120 (by decide) (pc' := 121) rfl ?_
              refine g_istore2 h dX4_isRing_121 rfl (by decide) (pc' := 122) rfl ?_
              refine g_iinc4 (v := nI (t + 1 + 1)) h dX4_isRing_122 rfl (inc1 (t + 1)) (by decide) (pc' := 125) rfl ?_
              refine g_goto (pc' := 90) h dX4_isRing_125 (by decide) ?_
              exact GG.castW ih90 ⟨rfl, rfl, (by simp only [List.head?_cons, List.tail_cons, inn, if_neg c1, if_pos c2, if_pos c3]), rfl, rfl, trivial⟩ rfl rfl
            · skip
              refine g_aload_n (i := 0) h dX4_isRing_100 rfl rfl (pc' := 101) rfl ?_
              refine gf_X4_43 h dX4_isRing_101 (pc' := 104) rfl ?_
              refine g_iload h dX4_isRing_104 rfl (pc' := 106) rfl ?_
              refine al_20 (j := t + 1) h dX4_isRing_106 rfl (by omega) (pc' := 107) rfl ?_
              refine g_aload_n (i := 0) h dX4_isRing_107 rfl rfl (pc' := 108) rfl ?_
              refine gf_X4_43 h dX4_isRing_108 (pc' := 111) rfl ?_
              refine g_iload_n (i := 3) h dX4_isRing_111 rfl rfl (pc' := 112) rfl ?_
              refine al_20 (j := k) h dX4_isRing_112 rfl (by omega) (pc' := 113) rfl ?_
              refine g_icmp_eq (tg := 120) h dX4_isRing_113 (by decide) (pc' := 116) rfl (fun c4 => ?_) (fun c4 => ?_)
              · skip
                refine g_iconst (v := nI 0) h dX4_isRing_120 (by decide) (pc' := 121) rfl ?_
                refine g_istore2 h dX4_isRing_121 rfl (by decide) (pc' := 122) rfl ?_
                refine g_iinc4 (v := nI (t + 1 + 1)) h dX4_isRing_122 rfl (inc1 (t + 1)) (by decide) (pc' := 125) rfl ?_
                refine g_goto (pc' := 90) h dX4_isRing_125 (by decide) ?_
                exact GG.castW ih90 ⟨rfl, rfl, (by simp only [List.head?_cons, List.tail_cons, inn, if_neg c1, if_pos c2, if_neg c3, if_pos c4]), rfl, rfl, trivial⟩ rfl rfl
              · skip
                refine g_iconst (v := nI 1) h dX4_isRing_116 (by decide) (pc' := 117) rfl ?_
                refine g_goto (pc' := 121) h dX4_isRing_117 (by decide) ?_
                refine g_istore2 h dX4_isRing_121 rfl (by decide) (pc' := 122) rfl ?_
                refine g_iinc4 (v := nI (t + 1 + 1)) h dX4_isRing_122 rfl (inc1 (t + 1)) (by decide) (pc' := 125) rfl ?_
                refine g_goto (pc' := 90) h dX4_isRing_125 (by decide) ?_
                exact GG.castW ih90 ⟨rfl, rfl, (by simp only [List.head?_cons, List.tail_cons, inn, if_neg c1, if_pos c2, if_neg c3, if_neg c4]), rfl, rfl, trivial⟩ rfl rfl
        · skip
          refine g_iload_n (i := 3) h dX4_isRing_26 rfl rfl (pc' := 27) rfl ?_
          refine g_if_eq (tg := 45) h dX4_isRing_27 (by decide) (pc' := 30) rfl (fun c3 => ?_) (fun c3 => ?_)
          · skip
            refine g_aload_n (i := 0) h dX4_isRing_45 rfl rfl (pc' := 46) rfl ?_
            refine gf_X4_17 h dX4_isRing_46 (pc' := 49) rfl ?_
            refine g_iconst (v := nI 5) h dX4_isRing_49 (by decide) (pc' := 50) rfl ?_
            refine g_aload_n (i := 0) h dX4_isRing_50 rfl rfl (pc' := 51) rfl ?_
            refine gf_X4_43 h dX4_isRing_51 (pc' := 54) rfl ?_
            refine g_iload_n (i := 3) h dX4_isRing_54 rfl rfl (pc' := 55) rfl ?_
            refine al_20 (j := k) h dX4_isRing_55 rfl (by omega) (pc' := 56) rfl ?_
            refine g_imulN h dX4_isRing_56 (pc' := 57) rfl ?_
            refine g_aload_n (i := 0) h dX4_isRing_57 rfl rfl (pc' := 58) rfl ?_
            refine gf_X4_43 h dX4_isRing_58 (pc' := 61) rfl ?_
            refine g_iload_n (i := 3) h dX4_isRing_61 rfl rfl (pc' := 62) rfl ?_
            refine g_iconst (v := nI 1) h dX4_isRing_62 (by decide) (pc' := 63) rfl ?_
            refine g_iaddN h dX4_isRing_63 (pc' := 64) rfl ?_
            refine g_iload_n (i := 1) h dX4_isRing_64 rfl rfl (pc' := 65) rfl ?_
            refine g_icmp_ne (tg := 72) h dX4_isRing_65 (by decide) (pc' := 68) rfl (fun c4 => ?_) (fun c4 => ?_)
            · skip
              refine g_iload_n (i := 3) h dX4_isRing_72 rfl rfl (pc' := 73) rfl ?_
              refine g_iconst (v := nI 1) h dX4_isRing_73 (by decide) (pc' := 74) rfl ?_
              refine g_iaddN h dX4_isRing_74 (pc' := 75) rfl ?_
              refine al_20 (j := k + 1) h dX4_isRing_75 rfl (by omega) (pc' := 76) rfl ?_
              refine g_iaddN h dX4_isRing_76 (pc' := 77) rfl ?_
              refine al_12 (j := (5 * (r k)) + (r (k + 1))) h dX4_isRing_77 rfl (by omega) (pc' := 78) rfl ?_
              refine g_if_le (tg := 85) h dX4_isRing_78 (by decide) (pc' := 81) rfl (fun c5 => ?_) (fun c5 => ?_)
              · skip
                refine g_iconst (v := nI 0) h dX4_isRing_85 (by decide) (pc' := 86) rfl ?_
                refine g_istore2 h dX4_isRing_86 rfl (by decide) (pc' := 87) rfl ?_
                refine g_iconst (v := nI 1) h dX4_isRing_87 (by decide) (pc' := 88) rfl ?_
                refine g_istore4 h dX4_isRing_88 rfl (by decide) (pc' := 90) rfl ?_
                refine GG.castW (lp (P := fun t => GG Z X 90 [some (.ref (Z.2.2 10)), some (.int (nI s)), some (.int (nI (inn r k 0 t))), some (.int (nI k)), some (.int (nI (t + 1)))] [] (wR Z (nI m) toll paid cash debts fallen rounds shares under table right tried falls rsize ringOf (fun q => nI (r q)) found hh)) (k - 1) ?_ ?_) ⟨rfl, rfl, rfl, rfl, rfl, trivial⟩ rfl rfl
                · skip
                  refine g_iload h dX4_isRing_90 rfl (pc' := 92) rfl ?_
                  refine g_iload_n (i := 3) h dX4_isRing_92 rfl rfl (pc' := 93) rfl ?_
                  refine g_icmp_geT (tg := 128) h dX4_isRing_93 (by decide) (nI_le (by omega) (by omega)) ?_
                  refine g_iinc3 (v := nI (k + 1)) h dX4_isRing_128 rfl (inc1 k) (by decide) (pc' := 131) rfl ?_
                  refine g_goto (pc' := 4) h dX4_isRing_131 (by decide) ?_
                  exact GG.castW (ih4 (k + 1) (inn r k 0 (k - 1)) (by omega) (inn_le (by decide) _) (by rw [e4_2, iR, if_neg c1]; simp only [is0, nx, if_neg c2, if_pos c3, if_neg c4, if_pos c5])) ⟨rfl, rfl, rfl, rfl, trivial⟩ rfl rfl
                · intro t ht ih90
                  have hrt := g2 (t + 1) (by omega)
                  refine g_iload h dX4_isRing_90 rfl (pc' := 92) rfl ?_
                  refine g_iload_n (i := 3) h dX4_isRing_92 rfl rfl (pc' := 93) rfl ?_
                  refine g_icmp_geF (tg := 128) h dX4_isRing_93 (by decide) (pc' := 96) rfl (nI_ge (by omega) (by omega)) ?_
                  refine g_iload_n (i := 2) h dX4_isRing_96 rfl rfl (pc' := 97) rfl ?_
                  refine g_if_eq (tg := 120) h dX4_isRing_97 (by decide) (pc' := 100) rfl (fun c6 => ?_) (fun c6 => ?_)
                  · skip
                    refine g_iconst (v := nI 0) h dX4_isRing_120 (by decide) (pc' := 121) rfl ?_
                    refine g_istore2 h dX4_isRing_121 rfl (by decide) (pc' := 122) rfl ?_
                    refine g_iinc4 (v := nI (t + 1 + 1)) h dX4_isRing_122 rfl (inc1 (t + 1)) (by decide) (pc' := 125) rfl ?_
                    refine g_goto (pc' := 90) h dX4_isRing_125 (by decide) ?_
                    exact GG.castW ih90 ⟨rfl, rfl, (by simp only [List.head?_cons, List.tail_cons, inn, if_neg c1, if_neg c2, if_pos c3, if_neg c4, if_pos c5, if_pos c6]), rfl, rfl, trivial⟩ rfl rfl
                  · skip
                    refine g_aload_n (i := 0) h dX4_isRing_100 rfl rfl (pc' := 101) rfl ?_
                    refine gf_X4_43 h dX4_isRing_101 (pc' := 104) rfl ?_
                    refine g_iload h dX4_isRing_104 rfl (pc' := 106) rfl ?_
                    refine al_20 (j := t + 1) h dX4_isRing_106 rfl (by omega) (pc' := 107) rfl ?_
                    refine g_aload_n (i := 0) h dX4_isRing_107 rfl rfl (pc' := 108) rfl ?_
                    refine gf_X4_43 h dX4_isRing_108 (pc' := 111) rfl ?_
                    refine g_iload_n (i := 3) h dX4_isRing_111 rfl rfl (pc' := 112) rfl ?_
                    refine al_20 (j := k) h dX4_isRing_112 rfl (by omega) (pc' := 113) rfl ?_
                    refine g_icmp_eq (tg := 120) h dX4_isRing_113 (by decide) (pc' := 116) rfl (fun c7 => ?_) (fun c7 => ?_)
                    · skip
                      refine g_iconst (v := nI 0) h dX4_isRing_120 (by decide) (pc' := 121) rfl ?_
                      refine g_istore2 h dX4_isRing_121 rfl (by decide) (pc' := 122) rfl ?_
                      refine g_iinc4 (v := nI (t + 1 + 1)) h dX4_isRing_122 rfl (inc1 (t + 1)) (by decide) (pc' := 125) rfl ?_
                      refine g_goto (pc' := 90) h dX4_isRing_125 (by decide) ?_
                      exact GG.castW ih90 ⟨rfl, rfl, (by simp only [List.head?_cons, List.tail_cons, inn, if_neg c1, if_neg c2, if_pos c3, if_neg c4, if_pos c5, if_neg c6, if_pos c7]), rfl, rfl, trivial⟩ rfl rfl
                    · skip
                      refine g_iconst (v := nI 1) h dX4_isRing_116 (by decide) (pc' := 117) rfl ?_
                      refine g_goto (pc' := 121) h dX4_isRing_117 (by decide) ?_
                      refine g_istore2 h dX4_isRing_121 rfl (by decide) (pc' := 122) rfl ?_
                      refine g_iinc4 (v := nI (t + 1 + 1)) h dX4_isRing_122 rfl (inc1 (t + 1)) (by decide) (pc' := 125) rfl ?_
                      refine g_goto (pc' := 90) h dX4_isRing_125 (by decide) ?_
                      exact GG.castW ih90 ⟨rfl, rfl, (by simp only [List.head?_cons, List.tail_cons, inn, if_neg c1, if_neg c2, if_pos c3, if_neg c4, if_pos c5, if_neg c6, if_neg c7]), rfl, rfl, trivial⟩ rfl rfl
              · skip
                refine g_iconst (v := nI 1) h dX4_isRing_81 (by decide) (pc' := 82) rfl ?_
                refine g_goto (pc' := 86) h dX4_isRing_82 (by decide) ?_
                refine g_istore2 h dX4_isRing_86 rfl (by decide) (pc' := 87) rfl ?_
                refine g_iconst (v := nI 1) h dX4_isRing_87 (by decide) (pc' := 88) rfl ?_
                refine g_istore4 h dX4_isRing_88 rfl (by decide) (pc' := 90) rfl ?_
                refine GG.castW (lp (P := fun t => GG Z X 90 [some (.ref (Z.2.2 10)), some (.int (nI s)), some (.int (nI (inn r k 1 t))), some (.int (nI k)), some (.int (nI (t + 1)))] [] (wR Z (nI m) toll paid cash debts fallen rounds shares under table right tried falls rsize ringOf (fun q => nI (r q)) found hh)) (k - 1) ?_ ?_) ⟨rfl, rfl, rfl, rfl, rfl, trivial⟩ rfl rfl
                · skip
                  refine g_iload h dX4_isRing_90 rfl (pc' := 92) rfl ?_
                  refine g_iload_n (i := 3) h dX4_isRing_92 rfl rfl (pc' := 93) rfl ?_
                  refine g_icmp_geT (tg := 128) h dX4_isRing_93 (by decide) (nI_le (by omega) (by omega)) ?_
                  refine g_iinc3 (v := nI (k + 1)) h dX4_isRing_128 rfl (inc1 k) (by decide) (pc' := 131) rfl ?_
                  refine g_goto (pc' := 4) h dX4_isRing_131 (by decide) ?_
                  exact GG.castW (ih4 (k + 1) (inn r k 1 (k - 1)) (by omega) (inn_le (by decide) _) (by rw [e4_2, iR, if_neg c1]; simp only [is0, nx, if_neg c2, if_pos c3, if_neg c4, if_neg c5])) ⟨rfl, rfl, rfl, rfl, trivial⟩ rfl rfl
                · intro t ht ih90
                  have hrt := g2 (t + 1) (by omega)
                  refine g_iload h dX4_isRing_90 rfl (pc' := 92) rfl ?_
                  refine g_iload_n (i := 3) h dX4_isRing_92 rfl rfl (pc' := 93) rfl ?_
                  refine g_icmp_geF (tg := 128) h dX4_isRing_93 (by decide) (pc' := 96) rfl (nI_ge (by omega) (by omega)) ?_
                  refine g_iload_n (i := 2) h dX4_isRing_96 rfl rfl (pc' := 97) rfl ?_
                  refine g_if_eq (tg := 120) h dX4_isRing_97 (by decide) (pc' := 100) rfl (fun c6 => ?_) (fun c6 => ?_)
                  · skip
                    refine g_iconst (v := nI 0) h dX4_isRing_120 (by decide) (pc' := 121) rfl ?_
                    refine g_istore2 h dX4_isRing_121 rfl (by decide) (pc' := 122) rfl ?_
                    refine g_iinc4 (v := nI (t + 1 + 1)) h dX4_isRing_122 rfl (inc1 (t + 1)) (by decide) (pc' := 125) rfl ?_
                    refine g_goto (pc' := 90) h dX4_isRing_125 (by decide) ?_
                    exact GG.castW ih90 ⟨rfl, rfl, (by simp only [List.head?_cons, List.tail_cons, inn, if_neg c1, if_neg c2, if_pos c3, if_neg c4, if_neg c5, if_pos c6]), rfl, rfl, trivial⟩ rfl rfl
                  · skip
                    refine g_aload_n (i := 0) h dX4_isRing_100 rfl rfl (pc' := 101) rfl ?_
                    refine gf_X4_43 h dX4_isRing_101 (pc' := 104) rfl ?_
                    refine g_iload h dX4_isRing_104 rfl (pc' := 106) rfl ?_
                    refine al_20 (j := t + 1) h dX4_isRing_106 rfl (by omega) (pc' := 107) rfl ?_
                    refine g_aload_n (i := 0) h dX4_isRing_107 rfl rfl (pc' := 108) rfl ?_
                    refine gf_X4_43 h dX4_isRing_108 (pc' := 111) rfl ?_
                    refine g_iload_n (i := 3) h dX4_isRing_111 rfl rfl (pc' := 112) rfl ?_
                    refine al_20 (j := k) h dX4_isRing_112 rfl (by omega) (pc' := 113) rfl ?_
                    refine g_icmp_eq (tg := 120) h dX4_isRing_113 (by decide) (pc' := 116) rfl (fun c7 => ?_) (fun c7 => ?_)
                    · skip
                      refine g_iconst (v := nI 0) h dX4_isRing_120 (by decide) (pc' := 121) rfl ?_
                      refine g_istore2 h dX4_isRing_121 rfl (by decide) (pc' := 122) rfl ?_
                      refine g_iinc4 (v := nI (t + 1 + 1)) h dX4_isRing_122 rfl (inc1 (t + 1)) (by decide) (pc' := 125) rfl ?_
                      refine g_goto (pc' := 90) h dX4_isRing_125 (by decide) ?_
                      exact GG.castW ih90 ⟨rfl, rfl, (by simp only [List.head?_cons, List.tail_cons, inn, if_neg c1, if_neg c2, if_pos c3, if_neg c4, if_neg c5, if_neg c6, if_pos c7]), rfl, rfl, trivial⟩ rfl rfl
                    · skip
                      refine g_iconst (v := nI 1) h dX4_isRing_116 (by decide) (pc' := 117) rfl ?_
                      refine g_goto (pc' := 121) h dX4_isRing_117 (by decide) ?_
                      refine g_istore2 h dX4_isRing_121 rfl (by decide) (pc' := 122) rfl ?_
                      refine g_iinc4 (v := nI (t + 1 + 1)) h dX4_isRing_122 rfl (inc1 (t + 1)) (by decide) (pc' := 125) rfl ?_
                      refine g_goto (pc' := 90) h dX4_isRing_125 (by decide) ?_
                      exact GG.castW ih90 ⟨rfl, rfl, (by simp only [List.head?_cons, List.tail_cons, inn, if_neg c1, if_neg c2, if_pos c3, if_neg c4, if_neg c5, if_neg c6, if_neg c7]), rfl, rfl, trivial⟩ rfl rfl
            · skip
              refine g_iconst (v := nI 0) h dX4_isRing_68 (by decide) (pc' := 69) rfl ?_
              refine g_goto (pc' := 75) h dX4_isRing_69 (by decide) ?_
              refine al_20 (j := 0) h dX4_isRing_75 rfl (by omega) (pc' := 76) rfl ?_
              refine g_iaddN h dX4_isRing_76 (pc' := 77) rfl ?_
              refine al_12 (j := (5 * (r k)) + (r 0)) h dX4_isRing_77 rfl (by omega) (pc' := 78) rfl ?_
              refine g_if_le (tg := 85) h dX4_isRing_78 (by decide) (pc' := 81) rfl (fun c5 => ?_) (fun c5 => ?_)
              · skip
                refine g_iconst (v := nI 0) h dX4_isRing_85 (by decide) (pc' := 86) rfl ?_
                refine g_istore2 h dX4_isRing_86 rfl (by decide) (pc' := 87) rfl ?_
                refine g_iconst (v := nI 1) h dX4_isRing_87 (by decide) (pc' := 88) rfl ?_
                refine g_istore4 h dX4_isRing_88 rfl (by decide) (pc' := 90) rfl ?_
                refine GG.castW (lp (P := fun t => GG Z X 90 [some (.ref (Z.2.2 10)), some (.int (nI s)), some (.int (nI (inn r k 0 t))), some (.int (nI k)), some (.int (nI (t + 1)))] [] (wR Z (nI m) toll paid cash debts fallen rounds shares under table right tried falls rsize ringOf (fun q => nI (r q)) found hh)) (k - 1) ?_ ?_) ⟨rfl, rfl, rfl, rfl, rfl, trivial⟩ rfl rfl
                · skip
                  refine g_iload h dX4_isRing_90 rfl (pc' := 92) rfl ?_
                  refine g_iload_n (i := 3) h dX4_isRing_92 rfl rfl (pc' := 93) rfl ?_
                  refine g_icmp_geT (tg := 128) h dX4_isRing_93 (by decide) (nI_le (by omega) (by omega)) ?_
                  refine g_iinc3 (v := nI (k + 1)) h dX4_isRing_128 rfl (inc1 k) (by decide) (pc' := 131) rfl ?_
                  refine g_goto (pc' := 4) h dX4_isRing_131 (by decide) ?_
                  exact GG.castW (ih4 (k + 1) (inn r k 0 (k - 1)) (by omega) (inn_le (by decide) _) (by rw [e4_2, iR, if_neg c1]; simp only [is0, nx, if_neg c2, if_pos c3, if_pos c4, if_pos c5])) ⟨rfl, rfl, rfl, rfl, trivial⟩ rfl rfl
                · intro t ht ih90
                  have hrt := g2 (t + 1) (by omega)
                  refine g_iload h dX4_isRing_90 rfl (pc' := 92) rfl ?_
                  refine g_iload_n (i := 3) h dX4_isRing_92 rfl rfl (pc' := 93) rfl ?_
                  refine g_icmp_geF (tg := 128) h dX4_isRing_93 (by decide) (pc' := 96) rfl (nI_ge (by omega) (by omega)) ?_
                  refine g_iload_n (i := 2) h dX4_isRing_96 rfl rfl (pc' := 97) rfl ?_
                  refine g_if_eq (tg := 120) h dX4_isRing_97 (by decide) (pc' := 100) rfl (fun c6 => ?_) (fun c6 => ?_)
                  · skip
                    refine g_iconst (v := nI 0) h dX4_isRing_120 (by decide) (pc' := 121) rfl ?_
                    refine g_istore2 h dX4_isRing_121 rfl (by decide) (pc' := 122) rfl ?_
                    refine g_iinc4 (v := nI (t + 1 + 1)) h dX4_isRing_122 rfl (inc1 (t + 1)) (by decide) (pc' := 125) rfl ?_
                    refine g_goto (pc' := 90) h dX4_isRing_125 (by decide) ?_
                    exact GG.castW ih90 ⟨rfl, rfl, (by simp only [List.head?_cons, List.tail_cons, inn, if_neg c1, if_neg c2, if_pos c3, if_pos c4, if_pos c5, if_pos c6]), rfl, rfl, trivial⟩ rfl rfl
                  · skip
                    refine g_aload_n (i := 0) h dX4_isRing_100 rfl rfl (pc' := 101) rfl ?_
                    refine gf_X4_43 h dX4_isRing_101 (pc' := 104) rfl ?_
                    refine g_iload h dX4_isRing_104 rfl (pc' := 106) rfl ?_
                    refine al_20 (j := t + 1) h dX4_isRing_106 rfl (by omega) (pc' := 107) rfl ?_
                    refine g_aload_n (i := 0) h dX4_isRing_107 rfl rfl (pc' := 108) rfl ?_
                    refine gf_X4_43 h dX4_isRing_108 (pc' := 111) rfl ?_
                    refine g_iload_n (i := 3) h dX4_isRing_111 rfl rfl (pc' := 112) rfl ?_
                    refine al_20 (j := k) h dX4_isRing_112 rfl (by omega) (pc' := 113) rfl ?_
                    refine g_icmp_eq (tg := 120) h dX4_isRing_113 (by decide) (pc' := 116) rfl (fun c7 => ?_) (fun c7 => ?_)
                    · skip
                      refine g_iconst (v := nI 0) h dX4_isRing_120 (by decide) (pc' := 121) rfl ?_
                      refine g_istore2 h dX4_isRing_121 rfl (by decide) (pc' := 122) rfl ?_
                      refine g_iinc4 (v := nI (t + 1 + 1)) h dX4_isRing_122 rfl (inc1 (t + 1)) (by decide) (pc' := 125) rfl ?_
                      refine g_goto (pc' := 90) h dX4_isRing_125 (by decide) ?_
                      exact GG.castW ih90 ⟨rfl, rfl, (by simp only [List.head?_cons, List.tail_cons, inn, if_neg c1, if_neg c2, if_pos c3, if_pos c4, if_pos c5, if_neg c6, if_pos c7]), rfl, rfl, trivial⟩ rfl rfl
                    · skip
                      refine g_iconst (v := nI 1) h dX4_isRing_116 (by decide) (pc' := 117) rfl ?_
                      refine g_goto (pc' := 121) h dX4_isRing_117 (by decide) ?_
                      refine g_istore2 h dX4_isRing_121 rfl (by decide) (pc' := 122) rfl ?_
                      refine g_iinc4 (v := nI (t + 1 + 1)) h dX4_isRing_122 rfl (inc1 (t + 1)) (by decide) (pc' := 125) rfl ?_
                      refine g_goto (pc' := 90) h dX4_isRing_125 (by decide) ?_
                      exact GG.castW ih90 ⟨rfl, rfl, (by simp only [List.head?_cons, List.tail_cons, inn, if_neg c1, if_neg c2, if_pos c3, if_pos c4, if_pos c5, if_neg c6, if_neg c7]), rfl, rfl, trivial⟩ rfl rfl
              · skip
                refine g_iconst (v := nI 1) h dX4_isRing_81 (by decide) (pc' := 82) rfl ?_
                refine g_goto (pc' := 86) h dX4_isRing_82 (by decide) ?_
                refine g_istore2 h dX4_isRing_86 rfl (by decide) (pc' := 87) rfl ?_
                refine g_iconst (v := nI 1) h dX4_isRing_87 (by decide) (pc' := 88) rfl ?_
                refine g_istore4 h dX4_isRing_88 rfl (by decide) (pc' := 90) rfl ?_
                refine GG.castW (lp (P := fun t => GG Z X 90 [some (.ref (Z.2.2 10)), some (.int (nI s)), some (.int (nI (inn r k 1 t))), some (.int (nI k)), some (.int (nI (t + 1)))] [] (wR Z (nI m) toll paid cash debts fallen rounds shares under table right tried falls rsize ringOf (fun q => nI (r q)) found hh)) (k - 1) ?_ ?_) ⟨rfl, rfl, rfl, rfl, rfl, trivial⟩ rfl rfl
                · skip
                  refine g_iload h dX4_isRing_90 rfl (pc' := 92) rfl ?_
                  refine g_iload_n (i := 3) h dX4_isRing_92 rfl rfl (pc' := 93) rfl ?_
                  refine g_icmp_geT (tg := 128) h dX4_isRing_93 (by decide) (nI_le (by omega) (by omega)) ?_
                  refine g_iinc3 (v := nI (k + 1)) h dX4_isRing_128 rfl (inc1 k) (by decide) (pc' := 131) rfl ?_
                  refine g_goto (pc' := 4) h dX4_isRing_131 (by decide) ?_
                  exact GG.castW (ih4 (k + 1) (inn r k 1 (k - 1)) (by omega) (inn_le (by decide) _) (by rw [e4_2, iR, if_neg c1]; simp only [is0, nx, if_neg c2, if_pos c3, if_pos c4, if_neg c5])) ⟨rfl, rfl, rfl, rfl, trivial⟩ rfl rfl
                · intro t ht ih90
                  have hrt := g2 (t + 1) (by omega)
                  refine g_iload h dX4_isRing_90 rfl (pc' := 92) rfl ?_
                  refine g_iload_n (i := 3) h dX4_isRing_92 rfl rfl (pc' := 93) rfl ?_
                  refine g_icmp_geF (tg := 128) h dX4_isRing_93 (by decide) (pc' := 96) rfl (nI_ge (by omega) (by omega)) ?_
                  refine g_iload_n (i := 2) h dX4_isRing_96 rfl rfl (pc' := 97) rfl ?_
                  refine g_if_eq (tg := 120) h dX4_isRing_97 (by decide) (pc' := 100) rfl (fun c6 => ?_) (fun c6 => ?_)
                  · skip
                    refine g_iconst (v := nI 0) h dX4_isRing_120 (by decide) (pc' := 121) rfl ?_
                    refine g_istore2 h dX4_isRing_121 rfl (by decide) (pc' := 122) rfl ?_
                    refine g_iinc4 (v := nI (t + 1 + 1)) h dX4_isRing_122 rfl (inc1 (t + 1)) (by decide) (pc' := 125) rfl ?_
                    refine g_goto (pc' := 90) h dX4_isRing_125 (by decide) ?_
                    exact GG.castW ih90 ⟨rfl, rfl, (by simp only [List.head?_cons, List.tail_cons, inn, if_neg c1, if_neg c2, if_pos c3, if_pos c4, if_neg c5, if_pos c6]), rfl, rfl, trivial⟩ rfl rfl
                  · skip
                    refine g_aload_n (i := 0) h dX4_isRing_100 rfl rfl (pc' := 101) rfl ?_
                    refine gf_X4_43 h dX4_isRing_101 (pc' := 104) rfl ?_
                    refine g_iload h dX4_isRing_104 rfl (pc' := 106) rfl ?_
                    refine al_20 (j := t + 1) h dX4_isRing_106 rfl (by omega) (pc' := 107) rfl ?_
                    refine g_aload_n (i := 0) h dX4_isRing_107 rfl rfl (pc' := 108) rfl ?_
                    refine gf_X4_43 h dX4_isRing_108 (pc' := 111) rfl ?_
                    refine g_iload_n (i := 3) h dX4_isRing_111 rfl rfl (pc' := 112) rfl ?_
                    refine al_20 (j := k) h dX4_isRing_112 rfl (by omega) (pc' := 113) rfl ?_
                    refine g_icmp_eq (tg := 120) h dX4_isRing_113 (by decide) (pc' := 116) rfl (fun c7 => ?_) (fun c7 => ?_)
                    · skip
                      refine g_iconst (v := nI 0) h dX4_isRing_120 (by decide) (pc' := 121) rfl ?_
                      refine g_istore2 h dX4_isRing_121 rfl (by decide) (pc' := 122) rfl ?_
                      refine g_iinc4 (v := nI (t + 1 + 1)) h dX4_isRing_122 rfl (inc1 (t + 1)) (by decide) (pc' := 125) rfl ?_
                      refine g_goto (pc' := 90) h dX4_isRing_125 (by decide) ?_
                      exact GG.castW ih90 ⟨rfl, rfl, (by simp only [List.head?_cons, List.tail_cons, inn, if_neg c1, if_neg c2, if_pos c3, if_pos c4, if_neg c5, if_neg c6, if_pos c7]), rfl, rfl, trivial⟩ rfl rfl
                    · skip
                      refine g_iconst (v := nI 1) h dX4_isRing_116 (by decide) (pc' := 117) rfl ?_
                      refine g_goto (pc' := 121) h dX4_isRing_117 (by decide) ?_
                      refine g_istore2 h dX4_isRing_121 rfl (by decide) (pc' := 122) rfl ?_
                      refine g_iinc4 (v := nI (t + 1 + 1)) h dX4_isRing_122 rfl (inc1 (t + 1)) (by decide) (pc' := 125) rfl ?_
                      refine g_goto (pc' := 90) h dX4_isRing_125 (by decide) ?_
                      exact GG.castW ih90 ⟨rfl, rfl, (by simp only [List.head?_cons, List.tail_cons, inn, if_neg c1, if_neg c2, if_pos c3, if_pos c4, if_neg c5, if_neg c6, if_neg c7]), rfl, rfl, trivial⟩ rfl rfl
          · skip
            refine g_aload_n (i := 0) h dX4_isRing_30 rfl rfl (pc' := 31) rfl ?_
            refine gf_X4_43 h dX4_isRing_31 (pc' := 34) rfl ?_
            refine g_iload_n (i := 3) h dX4_isRing_34 rfl rfl (pc' := 35) rfl ?_
            refine al_20 (j := k) h dX4_isRing_35 rfl (by omega) (pc' := 36) rfl ?_
            refine g_aload_n (i := 0) h dX4_isRing_36 rfl rfl (pc' := 37) rfl ?_
            refine gf_X4_43 h dX4_isRing_37 (pc' := 40) rfl ?_
            refine g_iconst (v := nI 0) h dX4_isRing_40 (by decide) (pc' := 41) rfl ?_
            refine al_20 (j := 0) h dX4_isRing_41 rfl (by omega) (pc' := 42) rfl ?_
            refine g_icmp_le (tg := 85) h dX4_isRing_42 (by decide) (pc' := 45) rfl (fun c4 => ?_) (fun c4 => ?_)
            · skip
              refine g_iconst (v := nI 0) h dX4_isRing_85 (by decide) (pc' := 86) rfl ?_
              refine g_istore2 h dX4_isRing_86 rfl (by decide) (pc' := 87) rfl ?_
              refine g_iconst (v := nI 1) h dX4_isRing_87 (by decide) (pc' := 88) rfl ?_
              refine g_istore4 h dX4_isRing_88 rfl (by decide) (pc' := 90) rfl ?_
              refine GG.castW (lp (P := fun t => GG Z X 90 [some (.ref (Z.2.2 10)), some (.int (nI s)), some (.int (nI (inn r k 0 t))), some (.int (nI k)), some (.int (nI (t + 1)))] [] (wR Z (nI m) toll paid cash debts fallen rounds shares under table right tried falls rsize ringOf (fun q => nI (r q)) found hh)) (k - 1) ?_ ?_) ⟨rfl, rfl, rfl, rfl, rfl, trivial⟩ rfl rfl
              · skip
                refine g_iload h dX4_isRing_90 rfl (pc' := 92) rfl ?_
                refine g_iload_n (i := 3) h dX4_isRing_92 rfl rfl (pc' := 93) rfl ?_
                refine g_icmp_geT (tg := 128) h dX4_isRing_93 (by decide) (nI_le (by omega) (by omega)) ?_
                refine g_iinc3 (v := nI (k + 1)) h dX4_isRing_128 rfl (inc1 k) (by decide) (pc' := 131) rfl ?_
                refine g_goto (pc' := 4) h dX4_isRing_131 (by decide) ?_
                exact GG.castW (ih4 (k + 1) (inn r k 0 (k - 1)) (by omega) (inn_le (by decide) _) (by rw [e4_2, iR, if_neg c1]; simp only [is0, nx, if_neg c2, if_neg c3, if_pos c4])) ⟨rfl, rfl, rfl, rfl, trivial⟩ rfl rfl
              · intro t ht ih90
                have hrt := g2 (t + 1) (by omega)
                refine g_iload h dX4_isRing_90 rfl (pc' := 92) rfl ?_
                refine g_iload_n (i := 3) h dX4_isRing_92 rfl rfl (pc' := 93) rfl ?_
                refine g_icmp_geF (tg := 128) h dX4_isRing_93 (by decide) (pc' := 96) rfl (nI_ge (by omega) (by omega)) ?_
                refine g_iload_n (i := 2) h dX4_isRing_96 rfl rfl (pc' := 97) rfl ?_
                refine g_if_eq (tg := 120) h dX4_isRing_97 (by decide) (pc' := 100) rfl (fun c5 => ?_) (fun c5 => ?_)
                · skip
                  refine g_iconst (v := nI 0) h dX4_isRing_120 (by decide) (pc' := 121) rfl ?_
                  refine g_istore2 h dX4_isRing_121 rfl (by decide) (pc' := 122) rfl ?_
                  refine g_iinc4 (v := nI (t + 1 + 1)) h dX4_isRing_122 rfl (inc1 (t + 1)) (by decide) (pc' := 125) rfl ?_
                  refine g_goto (pc' := 90) h dX4_isRing_125 (by decide) ?_
                  exact GG.castW ih90 ⟨rfl, rfl, (by simp only [List.head?_cons, List.tail_cons, inn, if_neg c1, if_neg c2, if_neg c3, if_pos c4, if_pos c5]), rfl, rfl, trivial⟩ rfl rfl
                · skip
                  refine g_aload_n (i := 0) h dX4_isRing_100 rfl rfl (pc' := 101) rfl ?_
                  refine gf_X4_43 h dX4_isRing_101 (pc' := 104) rfl ?_
                  refine g_iload h dX4_isRing_104 rfl (pc' := 106) rfl ?_
                  refine al_20 (j := t + 1) h dX4_isRing_106 rfl (by omega) (pc' := 107) rfl ?_
                  refine g_aload_n (i := 0) h dX4_isRing_107 rfl rfl (pc' := 108) rfl ?_
                  refine gf_X4_43 h dX4_isRing_108 (pc' := 111) rfl ?_
                  refine g_iload_n (i := 3) h dX4_isRing_111 rfl rfl (pc' := 112) rfl ?_
                  refine al_20 (j := k) h dX4_isRing_112 rfl (by omega) (pc' := 113) rfl ?_
                  refine g_icmp_eq (tg := 120) h dX4_isRing_113 (by decide) (pc' := 116) rfl (fun c6 => ?_) (fun c6 => ?_)
                  · skip
                    refine g_iconst (v := nI 0) h dX4_isRing_120 (by decide) (pc' := 121) rfl ?_
                    refine g_istore2 h dX4_isRing_121 rfl (by decide) (pc' := 122) rfl ?_
                    refine g_iinc4 (v := nI (t + 1 + 1)) h dX4_isRing_122 rfl (inc1 (t + 1)) (by decide) (pc' := 125) rfl ?_
                    refine g_goto (pc' := 90) h dX4_isRing_125 (by decide) ?_
                    exact GG.castW ih90 ⟨rfl, rfl, (by simp only [List.head?_cons, List.tail_cons, inn, if_neg c1, if_neg c2, if_neg c3, if_pos c4, if_neg c5, if_pos c6]), rfl, rfl, trivial⟩ rfl rfl
                  · skip
                    refine g_iconst (v := nI 1) h dX4_isRing_116 (by decide) (pc' := 117) rfl ?_
                    refine g_goto (pc' := 121) h dX4_isRing_117 (by decide) ?_
                    refine g_istore2 h dX4_isRing_121 rfl (by decide) (pc' := 122) rfl ?_
                    refine g_iinc4 (v := nI (t + 1 + 1)) h dX4_isRing_122 rfl (inc1 (t + 1)) (by decide) (pc' := 125) rfl ?_
                    refine g_goto (pc' := 90) h dX4_isRing_125 (by decide) ?_
                    exact GG.castW ih90 ⟨rfl, rfl, (by simp only [List.head?_cons, List.tail_cons, inn, if_neg c1, if_neg c2, if_neg c3, if_pos c4, if_neg c5, if_neg c6]), rfl, rfl, trivial⟩ rfl rfl
            · skip
              refine g_aload_n (i := 0) h dX4_isRing_45 rfl rfl (pc' := 46) rfl ?_
              refine gf_X4_17 h dX4_isRing_46 (pc' := 49) rfl ?_
              refine g_iconst (v := nI 5) h dX4_isRing_49 (by decide) (pc' := 50) rfl ?_
              refine g_aload_n (i := 0) h dX4_isRing_50 rfl rfl (pc' := 51) rfl ?_
              refine gf_X4_43 h dX4_isRing_51 (pc' := 54) rfl ?_
              refine g_iload_n (i := 3) h dX4_isRing_54 rfl rfl (pc' := 55) rfl ?_
              refine al_20 (j := k) h dX4_isRing_55 rfl (by omega) (pc' := 56) rfl ?_
              refine g_imulN h dX4_isRing_56 (pc' := 57) rfl ?_
              refine g_aload_n (i := 0) h dX4_isRing_57 rfl rfl (pc' := 58) rfl ?_
              refine gf_X4_43 h dX4_isRing_58 (pc' := 61) rfl ?_
              refine g_iload_n (i := 3) h dX4_isRing_61 rfl rfl (pc' := 62) rfl ?_
              refine g_iconst (v := nI 1) h dX4_isRing_62 (by decide) (pc' := 63) rfl ?_
              refine g_iaddN h dX4_isRing_63 (pc' := 64) rfl ?_
              refine g_iload_n (i := 1) h dX4_isRing_64 rfl rfl (pc' := 65) rfl ?_
              refine g_icmp_ne (tg := 72) h dX4_isRing_65 (by decide) (pc' := 68) rfl (fun c5 => ?_) (fun c5 => ?_)
              · skip
                refine g_iload_n (i := 3) h dX4_isRing_72 rfl rfl (pc' := 73) rfl ?_
                refine g_iconst (v := nI 1) h dX4_isRing_73 (by decide) (pc' := 74) rfl ?_
                refine g_iaddN h dX4_isRing_74 (pc' := 75) rfl ?_
                refine al_20 (j := k + 1) h dX4_isRing_75 rfl (by omega) (pc' := 76) rfl ?_
                refine g_iaddN h dX4_isRing_76 (pc' := 77) rfl ?_
                refine al_12 (j := (5 * (r k)) + (r (k + 1))) h dX4_isRing_77 rfl (by omega) (pc' := 78) rfl ?_
                refine g_if_le (tg := 85) h dX4_isRing_78 (by decide) (pc' := 81) rfl (fun c6 => ?_) (fun c6 => ?_)
                · skip
                  refine g_iconst (v := nI 0) h dX4_isRing_85 (by decide) (pc' := 86) rfl ?_
                  refine g_istore2 h dX4_isRing_86 rfl (by decide) (pc' := 87) rfl ?_
                  refine g_iconst (v := nI 1) h dX4_isRing_87 (by decide) (pc' := 88) rfl ?_
                  refine g_istore4 h dX4_isRing_88 rfl (by decide) (pc' := 90) rfl ?_
                  refine GG.castW (lp (P := fun t => GG Z X 90 [some (.ref (Z.2.2 10)), some (.int (nI s)), some (.int (nI (inn r k 0 t))), some (.int (nI k)), some (.int (nI (t + 1)))] [] (wR Z (nI m) toll paid cash debts fallen rounds shares under table right tried falls rsize ringOf (fun q => nI (r q)) found hh)) (k - 1) ?_ ?_) ⟨rfl, rfl, rfl, rfl, rfl, trivial⟩ rfl rfl
                  · skip
                    refine g_iload h dX4_isRing_90 rfl (pc' := 92) rfl ?_
                    refine g_iload_n (i := 3) h dX4_isRing_92 rfl rfl (pc' := 93) rfl ?_
                    refine g_icmp_geT (tg := 128) h dX4_isRing_93 (by decide) (nI_le (by omega) (by omega)) ?_
                    refine g_iinc3 (v := nI (k + 1)) h dX4_isRing_128 rfl (inc1 k) (by decide) (pc' := 131) rfl ?_
                    refine g_goto (pc' := 4) h dX4_isRing_131 (by decide) ?_
                    exact GG.castW (ih4 (k + 1) (inn r k 0 (k - 1)) (by omega) (inn_le (by decide) _) (by rw [e4_2, iR, if_neg c1]; simp only [is0, nx, if_neg c2, if_neg c3, if_neg c4, if_neg c5, if_pos c6])) ⟨rfl, rfl, rfl, rfl, trivial⟩ rfl rfl
                  · intro t ht ih90
                    have hrt := g2 (t + 1) (by omega)
                    refine g_iload h dX4_isRing_90 rfl (pc' := 92) rfl ?_
                    refine g_iload_n (i := 3) h dX4_isRing_92 rfl rfl (pc' := 93) rfl ?_
                    refine g_icmp_geF (tg := 128) h dX4_isRing_93 (by decide) (pc' := 96) rfl (nI_ge (by omega) (by omega)) ?_
                    refine g_iload_n (i := 2) h dX4_isRing_96 rfl rfl (pc' := 97) rfl ?_
                    refine g_if_eq (tg := 120) h dX4_isRing_97 (by decide) (pc' := 100) rfl (fun c7 => ?_) (fun c7 => ?_)
                    · skip
                      refine g_iconst (v := nI 0) h dX4_isRing_120 (by decide) (pc' := 121) rfl ?_
                      refine g_istore2 h dX4_isRing_121 rfl (by decide) (pc' := 122) rfl ?_
                      refine g_iinc4 (v := nI (t + 1 + 1)) h dX4_isRing_122 rfl (inc1 (t + 1)) (by decide) (pc' := 125) rfl ?_
                      refine g_goto (pc' := 90) h dX4_isRing_125 (by decide) ?_
                      exact GG.castW ih90 ⟨rfl, rfl, (by simp only [List.head?_cons, List.tail_cons, inn, if_neg c1, if_neg c2, if_neg c3, if_neg c4, if_neg c5, if_pos c6, if_pos c7]), rfl, rfl, trivial⟩ rfl rfl
                    · skip
                      refine g_aload_n (i := 0) h dX4_isRing_100 rfl rfl (pc' := 101) rfl ?_
                      refine gf_X4_43 h dX4_isRing_101 (pc' := 104) rfl ?_
                      refine g_iload h dX4_isRing_104 rfl (pc' := 106) rfl ?_
                      refine al_20 (j := t + 1) h dX4_isRing_106 rfl (by omega) (pc' := 107) rfl ?_
                      refine g_aload_n (i := 0) h dX4_isRing_107 rfl rfl (pc' := 108) rfl ?_
                      refine gf_X4_43 h dX4_isRing_108 (pc' := 111) rfl ?_
                      refine g_iload_n (i := 3) h dX4_isRing_111 rfl rfl (pc' := 112) rfl ?_
                      refine al_20 (j := k) h dX4_isRing_112 rfl (by omega) (pc' := 113) rfl ?_
                      refine g_icmp_eq (tg := 120) h dX4_isRing_113 (by decide) (pc' := 116) rfl (fun c8 => ?_) (fun c8 => ?_)
                      · skip
                        refine g_iconst (v := nI 0) h dX4_isRing_120 (by decide) (pc' := 121) rfl ?_
                        refine g_istore2 h dX4_isRing_121 rfl (by decide) (pc' := 122) rfl ?_
                        refine g_iinc4 (v := nI (t + 1 + 1)) h dX4_isRing_122 rfl (inc1 (t + 1)) (by decide) (pc' := 125) rfl ?_
                        refine g_goto (pc' := 90) h dX4_isRing_125 (by decide) ?_
                        exact GG.castW ih90 ⟨rfl, rfl, (by simp only [List.head?_cons, List.tail_cons, inn, if_neg c1, if_neg c2, if_neg c3, if_neg c4, if_neg c5, if_pos c6, if_neg c7, if_pos c8]), rfl, rfl, trivial⟩ rfl rfl
                      · skip
                        refine g_iconst (v := nI 1) h dX4_isRing_116 (by decide) (pc' := 117) rfl ?_
                        refine g_goto (pc' := 121) h dX4_isRing_117 (by decide) ?_
                        refine g_istore2 h dX4_isRing_121 rfl (by decide) (pc' := 122) rfl ?_
                        refine g_iinc4 (v := nI (t + 1 + 1)) h dX4_isRing_122 rfl (inc1 (t + 1)) (by decide) (pc' := 125) rfl ?_
                        refine g_goto (pc' := 90) h dX4_isRing_125 (by decide) ?_
                        exact GG.castW ih90 ⟨rfl, rfl, (by simp only [List.head?_cons, List.tail_cons, inn, if_neg c1, if_neg c2, if_neg c3, if_neg c4, if_neg c5, if_pos c6, if_neg c7, if_neg c8]), rfl, rfl, trivial⟩ rfl rfl
                · skip
                  refine g_iconst (v := nI 1) h dX4_isRing_81 (by decide) (pc' := 82) rfl ?_
                  refine g_goto (pc' := 86) h dX4_isRing_82 (by decide) ?_
                  refine g_istore2 h dX4_isRing_86 rfl (by decide) (pc' := 87) rfl ?_
                  refine g_iconst (v := nI 1) h dX4_isRing_87 (by decide) (pc' := 88) rfl ?_
                  refine g_istore4 h dX4_isRing_88 rfl (by decide) (pc' := 90) rfl ?_
                  refine GG.castW (lp (P := fun t => GG Z X 90 [some (.ref (Z.2.2 10)), some (.int (nI s)), some (.int (nI (inn r k 1 t))), some (.int (nI k)), some (.int (nI (t + 1)))] [] (wR Z (nI m) toll paid cash debts fallen rounds shares under table right tried falls rsize ringOf (fun q => nI (r q)) found hh)) (k - 1) ?_ ?_) ⟨rfl, rfl, rfl, rfl, rfl, trivial⟩ rfl rfl
                  · skip
                    refine g_iload h dX4_isRing_90 rfl (pc' := 92) rfl ?_
                    refine g_iload_n (i := 3) h dX4_isRing_92 rfl rfl (pc' := 93) rfl ?_
                    refine g_icmp_geT (tg := 128) h dX4_isRing_93 (by decide) (nI_le (by omega) (by omega)) ?_
                    refine g_iinc3 (v := nI (k + 1)) h dX4_isRing_128 rfl (inc1 k) (by decide) (pc' := 131) rfl ?_
                    refine g_goto (pc' := 4) h dX4_isRing_131 (by decide) ?_
                    exact GG.castW (ih4 (k + 1) (inn r k 1 (k - 1)) (by omega) (inn_le (by decide) _) (by rw [e4_2, iR, if_neg c1]; simp only [is0, nx, if_neg c2, if_neg c3, if_neg c4, if_neg c5, if_neg c6])) ⟨rfl, rfl, rfl, rfl, trivial⟩ rfl rfl
                  · intro t ht ih90
                    have hrt := g2 (t + 1) (by omega)
                    refine g_iload h dX4_isRing_90 rfl (pc' := 92) rfl ?_
                    refine g_iload_n (i := 3) h dX4_isRing_92 rfl rfl (pc' := 93) rfl ?_
                    refine g_icmp_geF (tg := 128) h dX4_isRing_93 (by decide) (pc' := 96) rfl (nI_ge (by omega) (by omega)) ?_
                    refine g_iload_n (i := 2) h dX4_isRing_96 rfl rfl (pc' := 97) rfl ?_
                    refine g_if_eq (tg := 120) h dX4_isRing_97 (by decide) (pc' := 100) rfl (fun c7 => ?_) (fun c7 => ?_)
                    · skip
                      refine g_iconst (v := nI 0) h dX4_isRing_120 (by decide) (pc' := 121) rfl ?_
                      refine g_istore2 h dX4_isRing_121 rfl (by decide) (pc' := 122) rfl ?_
                      refine g_iinc4 (v := nI (t + 1 + 1)) h dX4_isRing_122 rfl (inc1 (t + 1)) (by decide) (pc' := 125) rfl ?_
                      refine g_goto (pc' := 90) h dX4_isRing_125 (by decide) ?_
                      exact GG.castW ih90 ⟨rfl, rfl, (by simp only [List.head?_cons, List.tail_cons, inn, if_neg c1, if_neg c2, if_neg c3, if_neg c4, if_neg c5, if_neg c6, if_pos c7]), rfl, rfl, trivial⟩ rfl rfl
                    · skip
                      refine g_aload_n (i := 0) h dX4_isRing_100 rfl rfl (pc' := 101) rfl ?_
                      refine gf_X4_43 h dX4_isRing_101 (pc' := 104) rfl ?_
                      refine g_iload h dX4_isRing_104 rfl (pc' := 106) rfl ?_
                      refine al_20 (j := t + 1) h dX4_isRing_106 rfl (by omega) (pc' := 107) rfl ?_
                      refine g_aload_n (i := 0) h dX4_isRing_107 rfl rfl (pc' := 108) rfl ?_
                      refine gf_X4_43 h dX4_isRing_108 (pc' := 111) rfl ?_
                      refine g_iload_n (i := 3) h dX4_isRing_111 rfl rfl (pc' := 112) rfl ?_
                      refine al_20 (j := k) h dX4_isRing_112 rfl (by omega) (pc' := 113) rfl ?_
                      refine g_icmp_eq (tg := 120) h dX4_isRing_113 (by decide) (pc' := 116) rfl (fun c8 => ?_) (fun c8 => ?_)
                      · skip
                        refine g_iconst (v := nI 0) h dX4_isRing_120 (by decide) (pc' := 121) rfl ?_
                        refine g_istore2 h dX4_isRing_121 rfl (by decide) (pc' := 122) rfl ?_
                        refine g_iinc4 (v := nI (t + 1 + 1)) h dX4_isRing_122 rfl (inc1 (t + 1)) (by decide) (pc' := 125) rfl ?_
                        refine g_goto (pc' := 90) h dX4_isRing_125 (by decide) ?_
                        exact GG.castW ih90 ⟨rfl, rfl, (by simp only [List.head?_cons, List.tail_cons, inn, if_neg c1, if_neg c2, if_neg c3, if_neg c4, if_neg c5, if_neg c6, if_neg c7, if_pos c8]), rfl, rfl, trivial⟩ rfl rfl
                      · skip
                        refine g_iconst (v := nI 1) h dX4_isRing_116 (by decide) (pc' := 117) rfl ?_
                        refine g_goto (pc' := 121) h dX4_isRing_117 (by decide) ?_
                        refine g_istore2 h dX4_isRing_121 rfl (by decide) (pc' := 122) rfl ?_
                        refine g_iinc4 (v := nI (t + 1 + 1)) h dX4_isRing_122 rfl (inc1 (t + 1)) (by decide) (pc' := 125) rfl ?_
                        refine g_goto (pc' := 90) h dX4_isRing_125 (by decide) ?_
                        exact GG.castW ih90 ⟨rfl, rfl, (by simp only [List.head?_cons, List.tail_cons, inn, if_neg c1, if_neg c2, if_neg c3, if_neg c4, if_neg c5, if_neg c6, if_neg c7, if_neg c8]), rfl, rfl, trivial⟩ rfl rfl
              · skip
                refine g_iconst (v := nI 0) h dX4_isRing_68 (by decide) (pc' := 69) rfl ?_
                refine g_goto (pc' := 75) h dX4_isRing_69 (by decide) ?_
                refine al_20 (j := 0) h dX4_isRing_75 rfl (by omega) (pc' := 76) rfl ?_
                refine g_iaddN h dX4_isRing_76 (pc' := 77) rfl ?_
                refine al_12 (j := (5 * (r k)) + (r 0)) h dX4_isRing_77 rfl (by omega) (pc' := 78) rfl ?_
                refine g_if_le (tg := 85) h dX4_isRing_78 (by decide) (pc' := 81) rfl (fun c6 => ?_) (fun c6 => ?_)
                · skip
                  refine g_iconst (v := nI 0) h dX4_isRing_85 (by decide) (pc' := 86) rfl ?_
                  refine g_istore2 h dX4_isRing_86 rfl (by decide) (pc' := 87) rfl ?_
                  refine g_iconst (v := nI 1) h dX4_isRing_87 (by decide) (pc' := 88) rfl ?_
                  refine g_istore4 h dX4_isRing_88 rfl (by decide) (pc' := 90) rfl ?_
                  refine GG.castW (lp (P := fun t => GG Z X 90 [some (.ref (Z.2.2 10)), some (.int (nI s)), some (.int (nI (inn r k 0 t))), some (.int (nI k)), some (.int (nI (t + 1)))] [] (wR Z (nI m) toll paid cash debts fallen rounds shares under table right tried falls rsize ringOf (fun q => nI (r q)) found hh)) (k - 1) ?_ ?_) ⟨rfl, rfl, rfl, rfl, rfl, trivial⟩ rfl rfl
                  · skip
                    refine g_iload h dX4_isRing_90 rfl (pc' := 92) rfl ?_
                    refine g_iload_n (i := 3) h dX4_isRing_92 rfl rfl (pc' := 93) rfl ?_
                    refine g_icmp_geT (tg := 128) h dX4_isRing_93 (by decide) (nI_le (by omega) (by omega)) ?_
                    refine g_iinc3 (v := nI (k + 1)) h dX4_isRing_128 rfl (inc1 k) (by decide) (pc' := 131) rfl ?_
                    refine g_goto (pc' := 4) h dX4_isRing_131 (by decide) ?_
                    exact GG.castW (ih4 (k + 1) (inn r k 0 (k - 1)) (by omega) (inn_le (by decide) _) (by rw [e4_2, iR, if_neg c1]; simp only [is0, nx, if_neg c2, if_neg c3, if_neg c4, if_pos c5, if_pos c6])) ⟨rfl, rfl, rfl, rfl, trivial⟩ rfl rfl
                  · intro t ht ih90
                    have hrt := g2 (t + 1) (by omega)
                    refine g_iload h dX4_isRing_90 rfl (pc' := 92) rfl ?_
                    refine g_iload_n (i := 3) h dX4_isRing_92 rfl rfl (pc' := 93) rfl ?_
                    refine g_icmp_geF (tg := 128) h dX4_isRing_93 (by decide) (pc' := 96) rfl (nI_ge (by omega) (by omega)) ?_
                    refine g_iload_n (i := 2) h dX4_isRing_96 rfl rfl (pc' := 97) rfl ?_
                    refine g_if_eq (tg := 120) h dX4_isRing_97 (by decide) (pc' := 100) rfl (fun c7 => ?_) (fun c7 => ?_)
                    · skip
                      refine g_iconst (v := nI 0) h dX4_isRing_120 (by decide) (pc' := 121) rfl ?_
                      refine g_istore2 h dX4_isRing_121 rfl (by decide) (pc' := 122) rfl ?_
                      refine g_iinc4 (v := nI (t + 1 + 1)) h dX4_isRing_122 rfl (inc1 (t + 1)) (by decide) (pc' := 125) rfl ?_
                      refine g_goto (pc' := 90) h dX4_isRing_125 (by decide) ?_
                      exact GG.castW ih90 ⟨rfl, rfl, (by simp only [List.head?_cons, List.tail_cons, inn, if_neg c1, if_neg c2, if_neg c3, if_neg c4, if_pos c5, if_pos c6, if_pos c7]), rfl, rfl, trivial⟩ rfl rfl
                    · skip
                      refine g_aload_n (i := 0) h dX4_isRing_100 rfl rfl (pc' := 101) rfl ?_
                      refine gf_X4_43 h dX4_isRing_101 (pc' := 104) rfl ?_
                      refine g_iload h dX4_isRing_104 rfl (pc' := 106) rfl ?_
                      refine al_20 (j := t + 1) h dX4_isRing_106 rfl (by omega) (pc' := 107) rfl ?_
                      refine g_aload_n (i := 0) h dX4_isRing_107 rfl rfl (pc' := 108) rfl ?_
                      refine gf_X4_43 h dX4_isRing_108 (pc' := 111) rfl ?_
                      refine g_iload_n (i := 3) h dX4_isRing_111 rfl rfl (pc' := 112) rfl ?_
                      refine al_20 (j := k) h dX4_isRing_112 rfl (by omega) (pc' := 113) rfl ?_
                      refine g_icmp_eq (tg := 120) h dX4_isRing_113 (by decide) (pc' := 116) rfl (fun c8 => ?_) (fun c8 => ?_)
                      · skip
                        refine g_iconst (v := nI 0) h dX4_isRing_120 (by decide) (pc' := 121) rfl ?_
                        refine g_istore2 h dX4_isRing_121 rfl (by decide) (pc' := 122) rfl ?_
                        refine g_iinc4 (v := nI (t + 1 + 1)) h dX4_isRing_122 rfl (inc1 (t + 1)) (by decide) (pc' := 125) rfl ?_
                        refine g_goto (pc' := 90) h dX4_isRing_125 (by decide) ?_
                        exact GG.castW ih90 ⟨rfl, rfl, (by simp only [List.head?_cons, List.tail_cons, inn, if_neg c1, if_neg c2, if_neg c3, if_neg c4, if_pos c5, if_pos c6, if_neg c7, if_pos c8]), rfl, rfl, trivial⟩ rfl rfl
                      · skip
                        refine g_iconst (v := nI 1) h dX4_isRing_116 (by decide) (pc' := 117) rfl ?_
                        refine g_goto (pc' := 121) h dX4_isRing_117 (by decide) ?_
                        refine g_istore2 h dX4_isRing_121 rfl (by decide) (pc' := 122) rfl ?_
                        refine g_iinc4 (v := nI (t + 1 + 1)) h dX4_isRing_122 rfl (inc1 (t + 1)) (by decide) (pc' := 125) rfl ?_
                        refine g_goto (pc' := 90) h dX4_isRing_125 (by decide) ?_
                        exact GG.castW ih90 ⟨rfl, rfl, (by simp only [List.head?_cons, List.tail_cons, inn, if_neg c1, if_neg c2, if_neg c3, if_neg c4, if_pos c5, if_pos c6, if_neg c7, if_neg c8]), rfl, rfl, trivial⟩ rfl rfl
                · skip
                  refine g_iconst (v := nI 1) h dX4_isRing_81 (by decide) (pc' := 82) rfl ?_
                  refine g_goto (pc' := 86) h dX4_isRing_82 (by decide) ?_
                  refine g_istore2 h dX4_isRing_86 rfl (by decide) (pc' := 87) rfl ?_
                  refine g_iconst (v := nI 1) h dX4_isRing_87 (by decide) (pc' := 88) rfl ?_
                  refine g_istore4 h dX4_isRing_88 rfl (by decide) (pc' := 90) rfl ?_
                  refine GG.castW (lp (P := fun t => GG Z X 90 [some (.ref (Z.2.2 10)), some (.int (nI s)), some (.int (nI (inn r k 1 t))), some (.int (nI k)), some (.int (nI (t + 1)))] [] (wR Z (nI m) toll paid cash debts fallen rounds shares under table right tried falls rsize ringOf (fun q => nI (r q)) found hh)) (k - 1) ?_ ?_) ⟨rfl, rfl, rfl, rfl, rfl, trivial⟩ rfl rfl
                  · skip
                    refine g_iload h dX4_isRing_90 rfl (pc' := 92) rfl ?_
                    refine g_iload_n (i := 3) h dX4_isRing_92 rfl rfl (pc' := 93) rfl ?_
                    refine g_icmp_geT (tg := 128) h dX4_isRing_93 (by decide) (nI_le (by omega) (by omega)) ?_
                    refine g_iinc3 (v := nI (k + 1)) h dX4_isRing_128 rfl (inc1 k) (by decide) (pc' := 131) rfl ?_
                    refine g_goto (pc' := 4) h dX4_isRing_131 (by decide) ?_
                    exact GG.castW (ih4 (k + 1) (inn r k 1 (k - 1)) (by omega) (inn_le (by decide) _) (by rw [e4_2, iR, if_neg c1]; simp only [is0, nx, if_neg c2, if_neg c3, if_neg c4, if_pos c5, if_neg c6])) ⟨rfl, rfl, rfl, rfl, trivial⟩ rfl rfl
                  · intro t ht ih90
                    have hrt := g2 (t + 1) (by omega)
                    refine g_iload h dX4_isRing_90 rfl (pc' := 92) rfl ?_
                    refine g_iload_n (i := 3) h dX4_isRing_92 rfl rfl (pc' := 93) rfl ?_
                    refine g_icmp_geF (tg := 128) h dX4_isRing_93 (by decide) (pc' := 96) rfl (nI_ge (by omega) (by omega)) ?_
                    refine g_iload_n (i := 2) h dX4_isRing_96 rfl rfl (pc' := 97) rfl ?_
                    refine g_if_eq (tg := 120) h dX4_isRing_97 (by decide) (pc' := 100) rfl (fun c7 => ?_) (fun c7 => ?_)
                    · skip
                      refine g_iconst (v := nI 0) h dX4_isRing_120 (by decide) (pc' := 121) rfl ?_
                      refine g_istore2 h dX4_isRing_121 rfl (by decide) (pc' := 122) rfl ?_
                      refine g_iinc4 (v := nI (t + 1 + 1)) h dX4_isRing_122 rfl (inc1 (t + 1)) (by decide) (pc' := 125) rfl ?_
                      refine g_goto (pc' := 90) h dX4_isRing_125 (by decide) ?_
                      exact GG.castW ih90 ⟨rfl, rfl, (by simp only [List.head?_cons, List.tail_cons, inn, if_neg c1, if_neg c2, if_neg c3, if_neg c4, if_pos c5, if_neg c6, if_pos c7]), rfl, rfl, trivial⟩ rfl rfl
                    · skip
                      refine g_aload_n (i := 0) h dX4_isRing_100 rfl rfl (pc' := 101) rfl ?_
                      refine gf_X4_43 h dX4_isRing_101 (pc' := 104) rfl ?_
                      refine g_iload h dX4_isRing_104 rfl (pc' := 106) rfl ?_
                      refine al_20 (j := t + 1) h dX4_isRing_106 rfl (by omega) (pc' := 107) rfl ?_
                      refine g_aload_n (i := 0) h dX4_isRing_107 rfl rfl (pc' := 108) rfl ?_
                      refine gf_X4_43 h dX4_isRing_108 (pc' := 111) rfl ?_
                      refine g_iload_n (i := 3) h dX4_isRing_111 rfl rfl (pc' := 112) rfl ?_
                      refine al_20 (j := k) h dX4_isRing_112 rfl (by omega) (pc' := 113) rfl ?_
                      refine g_icmp_eq (tg := 120) h dX4_isRing_113 (by decide) (pc' := 116) rfl (fun c8 => ?_) (fun c8 => ?_)
                      · skip
                        refine g_iconst (v := nI 0) h dX4_isRing_120 (by decide) (pc' := 121) rfl ?_
                        refine g_istore2 h dX4_isRing_121 rfl (by decide) (pc' := 122) rfl ?_
                        refine g_iinc4 (v := nI (t + 1 + 1)) h dX4_isRing_122 rfl (inc1 (t + 1)) (by decide) (pc' := 125) rfl ?_
                        refine g_goto (pc' := 90) h dX4_isRing_125 (by decide) ?_
                        exact GG.castW ih90 ⟨rfl, rfl, (by simp only [List.head?_cons, List.tail_cons, inn, if_neg c1, if_neg c2, if_neg c3, if_neg c4, if_pos c5, if_neg c6, if_neg c7, if_pos c8]), rfl, rfl, trivial⟩ rfl rfl
                      · skip
                        refine g_iconst (v := nI 1) h dX4_isRing_116 (by decide) (pc' := 117) rfl ?_
                        refine g_goto (pc' := 121) h dX4_isRing_117 (by decide) ?_
                        refine g_istore2 h dX4_isRing_121 rfl (by decide) (pc' := 122) rfl ?_
                        refine g_iinc4 (v := nI (t + 1 + 1)) h dX4_isRing_122 rfl (inc1 (t + 1)) (by decide) (pc' := 125) rfl ?_
                        refine g_goto (pc' := 90) h dX4_isRing_125 (by decide) ?_
                        exact GG.castW ih90 ⟨rfl, rfl, (by simp only [List.head?_cons, List.tail_cons, inn, if_neg c1, if_neg c2, if_neg c3, if_neg c4, if_pos c5, if_neg c6, if_neg c7, if_neg c8]), rfl, rfl, trivial⟩ rfl rfl
  exact GG.castW (key4 s 0 1 (Nat.zero_add s) (Nat.le_refl 1) rfl) ⟨rfl, rfl, rfl, rfl, trivial⟩ rfl rfl

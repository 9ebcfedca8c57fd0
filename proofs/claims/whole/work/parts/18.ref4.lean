set_option maxRecDepth 20000 in
set_option maxHeartbeats 4000000 in
theorem M_X4_isRing {Z : ZT} {m : Nat} {toll : Int32} {paid : Int64} {cash : Nat → Int64} {debts : Nat → Int32} {fallen : Nat → Int32} {rounds : Int32} {shares : Nat → Int64} {under : Int64} {table : Nat → Int64} {right : Nat → Int64} {tried : Nat → Int64} {falls : Nat → Int32} {rsize : Int32} {ringOf : Nat → Int32} {r : Nat → Nat} {found : Int32} {hh : Int64} {s : Nat}  (g0 : s ≤ 4) (g1 : m ≤ 4) (g2 : ∀ q, q < s → r q < 4) : MM Z yX4_isRing cX4_isRing 5 (some .boolean) 0 [.ref (Z.2.2 10), .int (nI s)] (wR Z (nI m) toll paid cash debts fallen rounds shares under table right tried falls rsize ringOf (fun q => nI (r q)) found hh) (some (.int (nI (iR debts m r s s 0 1)))) (wR Z (nI m) toll paid cash debts fallen rounds shares under table right tried falls rsize ringOf (fun q => nI (r q)) found hh) := by
  refine MM.intro (by decide) [some (.ref (Z.2.2 10)), some (.int (nI s)), none, none, none] rfl (Nat.le_of_ble_eq_true rfl) (fun X (h : OK Z X cX4_isRing RX4 5 (rmd 0)) hr => ?_)
  refine g_iconst (v := nI 1) h dX4_isRing_0 (by decide) (pc' := 1) rfl ?_
  refine g_istore2 h dX4_isRing_1 rfl (by decide) (pc' := 2) rfl ?_
  refine g_iconst (v := nI 0) h dX4_isRing_2 (by decide) (pc' := 3) rfl ?_
  refine g_istore3 h dX4_isRing_3 rfl (by decide) (pc' := 4) rfl ?_
  have key4 : ∀ (f : Nat) (k b : Nat), (k + f = s) → (b ≤ 1) → (iR debts m r s s 0 1 = iR debts m r s f k b) → GG Z X 4 [some (.ref (Z.2.2 10)), some (.int (nI s)), some (.int (nI b)), some (.int (nI k)), none] [] (wR Z (nI m) toll paid cash debts fallen rounds shares under table right tried falls rsize ringOf (fun q => nI (r q)) found hh) := by
    intro f
    induction f with
    | zero =>
      intro k b e4_0 e4_1 e4_2
      refine g_iload_n (i := 3) h dX4_isRing_4 rfl rfl (pc' := 5) rfl ?_
      refine g_iload_n (i := 1) h dX4_isRing_5 rfl rfl (pc' := 6) rfl ?_
      refine g_icmp_geT (tg := 134) h dX4_isRing_6 (by decide) (by rw [show k = s by omega]; exact Int32.le_refl _) ?_
      refine g_iload_n (i := 2) h dX4_isRing_134 rfl rfl (pc' := 135) rfl ?_
      exact g_zret h hr dX4_isRing_135 (nar01 e4_1) (by rw [e4_2]; rfl) rfl
    | succ f ih4 =>
      intro k b e4_0 e4_1 e4_2
      have hk : k < s := by omega
      have hrk := g2 k hk
      have hr0 := g2 0 (by omega)
      refine g_iload_n (i := 3) h dX4_isRing_4 rfl rfl (pc' := 5) rfl ?_
      refine g_iload_n (i := 1) h dX4_isRing_5 rfl rfl (pc' := 6) rfl ?_
      refine g_icmp_geF (tg := 134) h dX4_isRing_6 (by decide) (pc' := 9) rfl (nI_ge hk (by omega)) ?_
      refine g_iload_n (i := 2) h dX4_isRing_9 rfl rfl (pc' := 10) rfl ?_
      refine g_if_eq (tg := 134) h dX4_isRing_10 (by decide) (pc' := 13) rfl (fun c1 => ?_) (fun c1 => ?_)
      · skip
        refine g_iload_n (i := 2) h dX4_isRing_134 rfl rfl (pc' := 135) rfl ?_
        exact g_zret h hr dX4_isRing_135 (nar01 e4_1) (by rw [e4_2, iR, if_pos c1]) rfl
      · skip
        refine g_aload_n (i := 0) h dX4_isRing_13 rfl rfl (pc' := 14) rfl ?_
        refine gf_X4_43 h dX4_isRing_14 (pc' := 17) rfl ?_
        refine g_iload_n (i := 3) h dX4_isRing_17 rfl rfl (pc' := 18) rfl ?_
        refine al_20 (j := k) h dX4_isRing_18 rfl (by omega) (pc' := 19) rfl ?_
        refine g_aload_n (i := 0) h dX4_isRing_19 rfl rfl (pc' := 20) rfl ?_
        refine gf_X4_7 h dX4_isRing_20 (pc' := 23) rfl ?_
        refine g_icmp_ge (tg := 85) h dX4_isRing_23 (by decide) (pc' := 26) rfl (fun c2 => ?_) (fun c2 => ?_)
        · skip
          refine g_iconst (v := nI 0) h dX4_isRing_85 (by decide) (pc' := 86) rfl ?_
          refine g_istore2 h dX4_isRing_86 rfl (by decide) (pc' := 87) rfl ?_
          refine g_iconst (v := nI 1) h dX4_isRing_87 (by decide) (pc' := 88) rfl ?_
          refine g_istore4 h dX4_isRing_88 rfl (by decide) (pc' := 90) rfl ?_
          refine GG.castW (lp (P := fun t => GG Z X 90 [some (.ref (Z.2.2 10)), some (.int (nI s)), some (.int (nI (inn r k 0 t))), some (.int (nI k)), some (.int (nI (t + 1)))] [] (wR Z (nI m) toll paid cash debts fallen rounds shares under table right tried falls rsize ringOf (fun q => nI (r q)) found hh)) (k - 1) ?_ ?_) ⟨rfl, rfl, rfl, rfl, rfl, trivial⟩ rfl rfl
          · skip
            refine g_iload h dX4_isRing_90 rfl (pc' := 92) rfl ?_
            refine g_iload_n (i := 3) h dX4_isRing_92 rfl rfl (pc' := 93) rfl ?_
            refine g_icmp_geT (tg := 128) h dX4_isRing_93 (by decide) (nI_le (by omega) (by omega)) ?_
            refine g_iinc3 (v := nI (k + 1)) h dX4_isRing_128 rfl (inc1 k) (by decide) (pc' := 131) rfl ?_
            refine g_goto (pc' := 4) h dX4_isRing_131 (by decide) ?_
            exact GG.castW (ih4 (k + 1) (inn r k 0 (k - 1)) (by omega) (inn_le (by decide) _) (by rw [e4_2, iR, if_neg c1]; simp only [is0, nx, if_pos c2])) ⟨rfl, rfl, rfl, rfl, trivial⟩ rfl rfl
          · intro t ht ih90
            have hrt := g2 (t + 1) (by omega)
            refine g_iload h dX4_isRing_90 rfl (pc' := 92) rfl ?_
            refine g_iload_n (i := 3) h dX4_isRing_92 rfl rfl (pc' := 93) rfl ?_
            refine g_icmp_geF (tg := 128) h dX4_isRing_93 (by decide) (pc' := 96) rfl (nI_ge (by omega) (by omega)) ?_
            refine g_iload_n (i := 2) h dX4_isRing_96 rfl rfl (pc' := 97) rfl ?_
            refine g_if_eq (tg := 120) h dX4_isRing_97 (by decide) (pc' := 100) rfl (fun c3 => ?_) (fun c3 => ?_)
            · skip
              refine g_iconst (v := nI 0) h dX4_isRing_120 (by decide) (pc' := 121) rfl ?_
              refine g_istore2 h dX4_isRing_121 rfl (by decide) (pc' := 122) rfl ?_
              refine g_iinc4 (v := nI (t + 1 + 1)) h dX4_isRing_122 rfl (inc1 (t + 1)) (by decide) (pc' := 125) rfl ?_
              refine g_goto (pc' := 90) h dX4_isRing_125 (by decide) ?_
              exact GG.castW ih90 ⟨rfl, rfl, (by simp only [List.head?_cons, List.tail_cons, inn, if_neg c1, if_pos c2, if_pos c3]), rfl, rfl, trivial⟩ rfl rfl
            · skip
              refine g_aload_n (i := 0) h dX4_isRing_100 rfl rfl (pc' := 101) rfl ?_
              refine gf_X4_43 h dX4_isRing_101 (pc' := 104) rfl ?_
              refine g_iload h dX4_isRing_104 rfl (pc' := 106) rfl ?_
              refine al_20 (j := t + 1) h dX4_isRing_106 rfl (by omega) (pc' := 107) rfl ?_
              refine g_aload_n (i := 0) h dX4_isRing_107 rfl rfl (pc' := 108) rfl ?_
              refine gf_X4_43 h dX4_isRing_108 (pc' := 111) rfl ?_
              refine g_iload_n (i := 3) h dX4_isRing_111 rfl rfl (pc' := 112) rfl ?_
              refine al_20 (j := k) h dX4_isRing_112 rfl (by omega) (pc' := 113) rfl ?_
              refine g_icmp_eq (tg := 120) h dX4_isRing_113 (by decide) (pc' := 116) rfl (fun c4 => ?_) (fun c4 => ?_)
              · skip
                refine g_iconst (v := nI 0) h dX4_isRing_120 (by decide) (pc' := 121) rfl ?_
                refine g_istore2 h dX4_isRing_121 rfl (by decide) (pc' := 122) rfl ?_
                refine g_iinc4 (v := nI (t + 1 + 1)) h dX4_isRing_122 rfl (inc1 (t + 1)) (by decide) (pc' := 125) rfl ?_
                refine g_goto (pc' := 90) h dX4_isRing_125 (by decide) ?_
                exact GG.castW ih90 ⟨rfl, rfl, (by simp only [List.head?_cons, List.tail_cons, inn, if_neg c1, if_pos c2, if_neg c3, if_pos c4]), rfl, rfl, trivial⟩ rfl rfl
              · skip
                refine g_iconst (v := nI 1) h dX4_isRing_116 (by decide) (pc' := 117) rfl ?_
                refine g_goto (pc' := 121) h dX4_isRing_117 (by decide) ?_
                refine g_istore2 h dX4_isRing_121 rfl (by decide) (pc' := 122) rfl ?_
                refine g_iinc4 (v := nI (t + 1 + 1)) h dX4_isRing_122 rfl (inc1 (t + 1)) (by decide) (pc' := 125) rfl ?_
                refine g_goto (pc' := 90) h dX4_isRing_125 (by decide) ?_
                exact GG.castW ih90 ⟨rfl, rfl, (by simp only [List.head?_cons, List.tail_cons, inn, if_neg c1, if_pos c2, if_neg c3, if_neg c4]), rfl, rfl, trivial⟩ rfl rfl
        · skip
          refine g_iload_n (i := 3) h dX4_isRing_26 rfl rfl (pc' := 27) rfl ?_
          refine g_if_eq (tg := 45) h dX4_isRing_27 (by decide) (pc' := 30) rfl (fun c3 => ?_) (fun c3 => ?_)
          · skip
            refine g_aload_n (i := 0) h dX4_isRing_45 rfl rfl (pc' := 46) rfl ?_
            refine gf_X4_17 h dX4_isRing_46 (pc' := 49) rfl ?_
            refine g_iconst (v := nI 5) h dX4_isRing_49 (by decide) (pc' := 50) rfl ?_
            refine g_aload_n (i := 0) h dX4_isRing_50 rfl rfl (pc' := 51) rfl ?_
            refine gf_X4_43 h dX4_isRing_51 (pc' := 54) rfl ?_
            refine g_iload_n (i := 3) h dX4_isRing_54 rfl rfl (pc' := 55) rfl ?_
            refine al_20 (j := k) h dX4_isRing_55 rfl (by omega) (pc' := 56) rfl ?_
            refine g_imulN h dX4_isRing_56 (pc' := 57) rfl ?_
            refine g_aload_n (i := 0) h dX4_isRing_57 rfl rfl (pc' := 58) rfl ?_
            refine gf_X4_43 h dX4_isRing_58 (pc' := 61) rfl ?_
            refine g_iload_n (i := 3) h dX4_isRing_61 rfl rfl (pc' := 62) rfl ?_
            refine g_iconst (v := nI 1) h dX4_isRing_62 (by decide) (pc' := 63) rfl ?_
            refine g_iaddN h dX4_isRing_63 (pc' := 64) rfl ?_
            refine g_iload_n (i := 1) h dX4_isRing_64 rfl rfl (pc' := 65) rfl ?_
            refine g_icmp_ne (tg := 72) h dX4_isRing_65 (by decide) (pc' := 68) rfl (fun c4 => ?_) (fun c4 => ?_)
            · skip
              have hne : ¬ k + 1 = s := fun q => c4 (by rw [q])
              have hrn := g2 (k + 1) (by omega)
              refine g_iload_n (i := 3) h dX4_isRing_72 rfl rfl (pc' := 73) rfl ?_
              refine g_iconst (v := nI 1) h dX4_isRing_73 (by decide) (pc' := 74) rfl ?_
              refine g_iaddN h dX4_isRing_74 (pc' := 75) rfl ?_
              refine al_20 (j := k + 1) h dX4_isRing_75 rfl (by omega) (pc' := 76) rfl ?_
              refine g_iaddN h dX4_isRing_76 (pc' := 77) rfl ?_
              refine al_12 (j := (5 * (r k)) + (r (k + 1))) h dX4_isRing_77 rfl (by omega) (pc' := 78) rfl ?_
              refine g_if_le (tg := 85) h dX4_isRing_78 (by decide) (pc' := 81) rfl (fun c5 => ?_) (fun c5 => ?_)
              · skip
                refine g_iconst (v := nI 0) h dX4_isRing_85 (by decide) (pc' := 86) rfl ?_
                refine g_istore2 h dX4_isRing_86 rfl (by decide) (pc' := 87) rfl ?_
                refine g_iconst (v := nI 1) h dX4_isRing_87 (by decide) (pc' := 88) rfl ?_
                refine g_istore4 h dX4_isRing_88 rfl (by decide) (pc' := 90) rfl ?_
                refine GG.castW (lp (P := fun t => GG Z X 90 [some (.ref (Z.2.2 10)), some (.int (nI s)), some (.int (nI (inn r k 0 t))), some (.int (nI k)), some (.int (nI (t + 1)))] [] (wR Z (nI m) toll paid cash debts fallen rounds shares under table right tried falls rsize ringOf (fun q => nI (r q)) found hh)) (k - 1) ?_ ?_) ⟨rfl, rfl, rfl, rfl, rfl, trivial⟩ rfl rfl
                · skip
                  refine g_iload h dX4_isRing_90 rfl (pc' := 92) rfl ?_
                  refine g_iload_n (i := 3) h dX4_isRing_92 rfl rfl (pc' := 93) rfl ?_
                  refine g_icmp_geT (tg := 128) h dX4_isRing_93 (by decide) (nI_le (by omega) (by omega)) ?_
                  refine g_iinc3 (v := nI (k + 1)) h dX4_isRing_128 rfl (inc1 k) (by decide) (pc' := 131) rfl ?_
                  refine g_goto (pc' := 4) h dX4_isRing_131 (by decide) ?_
                  exact GG.castW (ih4 (k + 1) (inn r k 0 (k - 1)) (by omega) (inn_le (by decide) _) (by rw [e4_2, iR, if_neg c1]; simp only [is0, nx, if_neg c2, if_pos c3, if_neg c4, if_pos c5])) ⟨rfl, rfl, rfl, rfl, trivial⟩ rfl rfl
                · intro t ht ih90
                  have hrt := g2 (t + 1) (by omega)
                  refine g_iload h dX4_isRing_90 rfl (pc' := 92) rfl ?_
                  refine g_iload_n (i := 3) h dX4_isRing_92 rfl rfl (pc' := 93) rfl ?_
                  refine g_icmp_geF (tg := 128) h dX4_isRing_93 (by decide) (pc' := 96) rfl (nI_ge (by omega) (by omega)) ?_
                  refine g_iload_n (i := 2) h dX4_isRing_96 rfl rfl (pc' := 97) rfl ?_
                  refine g_if_eq (tg := 120) h dX4_isRing_97 (by decide) (pc' := 100) rfl (fun c6 => ?_) (fun c6 => ?_)
                  · skip
                    refine g_iconst (v := nI 0) h dX4_isRing_120 (by decide) (pc' := 121) rfl ?_
                    refine g_istore2 h dX4_isRing_121 rfl (by decide) (pc' := 122) rfl ?_
                    refine g_iinc4 (v := nI (t + 1 + 1)) h dX4_isRing_122 rfl (inc1 (t + 1)) (by decide) (pc' := 125) rfl ?_
                    refine g_goto (pc' := 90) h dX4_isRing_125 (by decide) ?_
                    exact GG.castW ih90 ⟨rfl, rfl, (by simp only [List.head?_cons, List.tail_cons, inn, if_neg c1, if_neg c2, if_pos c3, if_neg c4, if_pos c5, if_pos c6]), rfl, rfl, trivial⟩ rfl rfl
                  · skip
                    refine g_aload_n (i := 0) h dX4_isRing_100 rfl rfl (pc' := 101) rfl ?_
                    refine gf_X4_43 h dX4_isRing_101 (pc' := 104) rfl ?_
                    refine g_iload h dX4_isRing_104 rfl (pc' := 106) rfl ?_
                    refine al_20 (j := t + 1) h dX4_isRing_106 rfl (by omega) (pc' := 107) rfl ?_
                    refine g_aload_n (i := 0) h dX4_isRing_107 rfl rfl (pc' := 108) rfl ?_
                    refine gf_X4_43 h dX4_isRing_108 (pc' := 111) rfl ?_
                    refine g_iload_n (i := 3) h dX4_isRing_111 rfl rfl (pc' := 112) rfl ?_
                    refine al_20 (j := k) h dX4_isRing_112 rfl (by omega) (pc' := 113) rfl ?_
                    refine g_icmp_eq (tg := 120) h dX4_isRing_113 (by decide) (pc' := 116) rfl (fun c7 => ?_) (fun c7 => ?_)
                    · skip
                      refine g_iconst (v := nI 0) h dX4_isRing_120 (by decide) (pc' := 121) rfl ?_
                      refine g_istore2 h dX4_isRing_121 rfl (by decide) (pc' := 122) rfl ?_
                      refine g_iinc4 (v := nI (t + 1 + 1)) h dX4_isRing_122 rfl (inc1 (t + 1)) (by decide) (pc' := 125) rfl ?_
                      refine g_goto (pc' := 90) h dX4_isRing_125 (by decide) ?_
                      exact GG.castW ih90 ⟨rfl, rfl, (by simp only [List.head?_cons, List.tail_cons, inn, if_neg c1, if_neg c2, if_pos c3, if_neg c4, if_pos c5, if_neg c6, if_pos c7]), rfl, rfl, trivial⟩ rfl rfl
                    · skip
                      refine g_iconst (v := nI 1) h dX4_isRing_116 (by decide) (pc' := 117) rfl ?_
                      refine g_goto (pc' := 121) h dX4_isRing_117 (by decide) ?_
                      refine g_istore2 h dX4_isRing_121 rfl (by decide) (pc' := 122) rfl ?_
                      refine g_iinc4 (v := nI (t + 1 + 1)) h dX4_isRing_122 rfl (inc1 (t + 1)) (by decide) (pc' := 125) rfl ?_
                      refine g_goto (pc' := 90) h dX4_isRing_125 (by decide) ?_
                      exact GG.castW ih90 ⟨rfl, rfl, (by simp only [List.head?_cons, List.tail_cons, inn, if_neg c1, if_neg c2, if_pos c3, if_neg c4, if_pos c5, if_neg c6, if_neg c7]), rfl, rfl, trivial⟩ rfl rfl
              · skip
                refine g_iconst (v := nI 1) h dX4_isRing_81 (by decide) (pc' := 82) rfl ?_
                refine g_goto (pc' := 86) h dX4_isRing_82 (by decide) ?_
                refine g_istore2 h dX4_isRing_86 rfl (by decide) (pc' := 87) rfl ?_
                refine g_iconst (v := nI 1) h dX4_isRing_87 (by decide) (pc' := 88) rfl ?_
                refine g_istore4 h dX4_isRing_88 rfl (by decide) (pc' := 90) rfl ?_
                refine GG.castW (lp (P := fun t => GG Z X 90 [some (.ref (Z.2.2 10)), some (.int (nI s)), some (.int (nI (inn r k 1 t))), some (.int (nI k)), some (.int (nI (t + 1)))] [] (wR Z (nI m) toll paid cash debts fallen rounds shares under table right tried falls rsize ringOf (fun q => nI (r q)) found hh)) (k - 1) ?_ ?_) ⟨rfl, rfl, rfl, rfl, rfl, trivial⟩ rfl rfl
                · skip
                  refine g_iload h dX4_isRing_90 rfl (pc' := 92) rfl ?_
                  refine g_iload_n (i := 3) h dX4_isRing_92 rfl rfl (pc' := 93) rfl ?_
                  refine g_icmp_geT (tg := 128) h dX4_isRing_93 (by decide) (nI_le (by omega) (by omega)) ?_
                  refine g_iinc3 (v := nI (k + 1)) h dX4_isRing_128 rfl (inc1 k) (by decide) (pc' := 131) rfl ?_
                  refine g_goto (pc' := 4) h dX4_isRing_131 (by decide) ?_
                  exact GG.castW (ih4 (k + 1) (inn r k 1 (k - 1)) (by omega) (inn_le (by decide) _) (by rw [e4_2, iR, if_neg c1]; simp only [is0, nx, if_neg c2, if_pos c3, if_neg c4, if_neg c5])) ⟨rfl, rfl, rfl, rfl, trivial⟩ rfl rfl
                · intro t ht ih90
                  have hrt := g2 (t + 1) (by omega)
                  refine g_iload h dX4_isRing_90 rfl (pc' := 92) rfl ?_
                  refine g_iload_n (i := 3) h dX4_isRing_92 rfl rfl (pc' := 93) rfl ?_
                  refine g_icmp_geF (tg := 128) h dX4_isRing_93 (by decide) (pc' := 96) rfl (nI_ge (by omega) (by omega)) ?_
                  refine g_iload_n (i := 2) h dX4_isRing_96 rfl rfl (pc' := 97) rfl ?_
                  refine g_if_eq (tg := 120) h dX4_isRing_97 (by decide) (pc' := 100) rfl (fun c6 => ?_) (fun c6 => ?_)
                  · skip
                    refine g_iconst (v := nI 0) h dX4_isRing_120 (by decide) (pc' := 121) rfl ?_
                    refine g_istore2 h dX4_isRing_121 rfl (by decide) (pc' := 122) rfl ?_
                    refine g_iinc4 (v := nI (t + 1 + 1)) h dX4_isRing_122 rfl (inc1 (t + 1)) (by decide) (pc' := 125) rfl ?_
                    refine g_goto (pc' := 90) h dX4_isRing_125 (by decide) ?_
                    exact GG.castW ih90 ⟨rfl, rfl, (by simp only [List.head?_cons, List.tail_cons, inn, if_neg c1, if_neg c2, if_pos c3, if_neg c4, if_neg c5, if_pos c6]), rfl, rfl, trivial⟩ rfl rfl
                  · skip
                    refine g_aload_n (i := 0) h dX4_isRing_100 rfl rfl (pc' := 101) rfl ?_
                    refine gf_X4_43 h dX4_isRing_101 (pc' := 104) rfl ?_
                    refine g_iload h dX4_isRing_104 rfl (pc' := 106) rfl ?_
                    refine al_20 (j := t + 1) h dX4_isRing_106 rfl (by omega) (pc' := 107) rfl ?_
                    refine g_aload_n (i := 0) h dX4_isRing_107 rfl rfl (pc' := 108) rfl ?_
                    refine gf_X4_43 h dX4_isRing_108 (pc' := 111) rfl ?_
                    refine g_iload_n (i := 3) h dX4_isRing_111 rfl rfl (pc' := 112) rfl ?_
                    refine al_20 (j := k) h dX4_isRing_112 rfl (by omega) (pc' := 113) rfl ?_
                    refine g_icmp_eq (tg := 120) h dX4_isRing_113 (by decide) (pc' := 116) rfl (fun c7 => ?_) (fun c7 => ?_)
                    · skip
                      refine g_iconst (v := nI 0) h dX4_isRing_120 (by decide) (pc' := 121) rfl ?_
                      refine g_istore2 h dX4_isRing_121 rfl (by decide) (pc' := 122) rfl ?_
                      refine g_iinc4 (v := nI (t + 1 + 1)) h dX4_isRing_122 rfl (inc1 (t + 1)) (by decide) (pc' := 125) rfl ?_
                      refine g_goto (pc' := 90) h dX4_isRing_125 (by decide) ?_
                      exact GG.castW ih90 ⟨rfl, rfl, (by simp only [List.head?_cons, List.tail_cons, inn, if_neg c1, if_neg c2, if_pos c3, if_neg c4, if_neg c5, if_neg c6, if_pos c7]), rfl, rfl, trivial⟩ rfl rfl
                    · skip
                      refine g_iconst (v := nI 1) h dX4_isRing_116 (by decide) (pc' := 117) rfl ?_
                      refine g_goto (pc' := 121) h dX4_isRing_117 (by decide) ?_
                      refine g_istore2 h dX4_isRing_121 rfl (by decide) (pc' := 122) rfl ?_
                      refine g_iinc4 (v := nI (t + 1 + 1)) h dX4_isRing_122 rfl (inc1 (t + 1)) (by decide) (pc' := 125) rfl ?_
                      refine g_goto (pc' := 90) h dX4_isRing_125 (by decide) ?_
                      exact GG.castW ih90 ⟨rfl, rfl, (by simp only [List.head?_cons, List.tail_cons, inn, if_neg c1, if_neg c2, if_pos c3, if_neg c4, if_neg c5, if_neg c6, if_neg c7]), rfl, rfl, trivial⟩ rfl rfl
            · skip
              refine g_iconst (v := nI 0) h dX4_isRing_68 (by decide) (pc' := 69) rfl ?_
              refine g_goto (pc' := 75) h dX4_isRing_69 (by decide) ?_
              refine al_20 (j := 0) h dX4_isRing_75 rfl (by omega) (pc' := 76) rfl ?_
              refine g_iaddN h dX4_isRing_76 (pc' := 77) rfl ?_
              refine al_12 (j := (5 * (r k)) + (r 0)) h dX4_isRing_77 rfl (by omega) (pc' := 78) rfl ?_
              refine g_if_le (tg := 85) h dX4_isRing_78 (by decide) (pc' := 81) rfl (fun c5 => ?_) (fun c5 => ?_)
              · skip
                refine g_iconst (v := nI 0) h dX4_isRing_85 (by decide) (pc' := 86) rfl ?_
                refine g_istore2 h dX4_isRing_86 rfl (by decide) (pc' := 87) rfl ?_
                refine g_iconst (v := nI 1) h dX4_isRing_87 (by decide) (pc' := 88) rfl ?_
                refine g_istore4 h dX4_isRing_88 rfl (by decide) (pc' := 90) rfl ?_
                refine GG.castW (lp (P := fun t => GG Z X 90 [some (.ref (Z.2.2 10)), some (.int (nI s)), some (.int (nI (inn r k 0 t))), some (.int (nI k)), some (.int (nI (t + 1)))] [] (wR Z (nI m) toll paid cash debts fallen rounds shares under table right tried falls rsize ringOf (fun q => nI (r q)) found hh)) (k - 1) ?_ ?_) ⟨rfl, rfl, rfl, rfl, rfl, trivial⟩ rfl rfl
                · skip
                  refine g_iload h dX4_isRing_90 rfl (pc' := 92) rfl ?_
                  refine g_iload_n (i := 3) h dX4_isRing_92 rfl rfl (pc' := 93) rfl ?_
                  refine g_icmp_geT (tg := 128) h dX4_isRing_93 (by decide) (nI_le (by omega) (by omega)) ?_
                  refine g_iinc3 (v := nI (k + 1)) h dX4_isRing_128 rfl (inc1 k) (by decide) (pc' := 131) rfl ?_
                  refine g_goto (pc' := 4) h dX4_isRing_131 (by decide) ?_
                  exact GG.castW (ih4 (k + 1) (inn r k 0 (k - 1)) (by omega) (inn_le (by decide) _) (by rw [e4_2, iR, if_neg c1]; simp only [is0, nx, if_neg c2, if_pos c3, if_pos c4, if_pos c5])) ⟨rfl, rfl, rfl, rfl, trivial⟩ rfl rfl
                · intro t ht ih90
                  have hrt := g2 (t + 1) (by omega)
                  refine g_iload h dX4_isRing_90 rfl (pc' := 92) rfl ?_
                  refine g_iload_n (i := 3) h dX4_isRing_92 rfl rfl (pc' := 93) rfl ?_
                  refine g_icmp_geF (tg := 128) h dX4_isRing_93 (by decide) (pc' := 96) rfl (nI_ge (by omega) (by omega)) ?_
                  refine g_iload_n (i := 2) h dX4_isRing_96 rfl rfl (pc' := 97) rfl ?_
                  refine g_if_eq (tg := 120) h dX4_isRing_97 (by decide) (pc' := 100) rfl (fun c6 => ?_) (fun c6 => ?_)
                  · skip
                    refine g_iconst (v := nI 0) h dX4_isRing_120 (by decide) (pc' := 121) rfl ?_
                    refine g_istore2 h dX4_isRing_121 rfl (by decide) (pc' := 122) rfl ?_
                    refine g_iinc4 (v := nI (t + 1 + 1)) h dX4_isRing_122 rfl (inc1 (t + 1)) (by decide) (pc' := 125) rfl ?_
                    refine g_goto (pc' := 90) h dX4_isRing_125 (by decide) ?_
                    exact GG.castW ih90 ⟨rfl, rfl, (by simp only [List.head?_cons, List.tail_cons, inn, if_neg c1, if_neg c2, if_pos c3, if_pos c4, if_pos c5, if_pos c6]), rfl, rfl, trivial⟩ rfl rfl
                  · skip
                    refine g_aload_n (i := 0) h dX4_isRing_100 rfl rfl (pc' := 101) rfl ?_
                    refine gf_X4_43 h dX4_isRing_101 (pc' := 104) rfl ?_
                    refine g_iload h dX4_isRing_104 rfl (pc' := 106) rfl ?_
                    refine al_20 (j := t + 1) h dX4_isRing_106 rfl (by omega) (pc' := 107) rfl ?_
                    refine g_aload_n (i := 0) h dX4_isRing_107 rfl rfl (pc' := 108) rfl ?_
                    refine gf_X4_43 h dX4_isRing_108 (pc' := 111) rfl ?_
                    refine g_iload_n (i := 3) h dX4_isRing_111 rfl rfl (pc' := 112) rfl ?_
                    refine al_20 (j := k) h dX4_isRing_112 rfl (by omega) (pc' := 113) rfl ?_
                    refine g_icmp_eq (tg := 120) h dX4_isRing_113 (by decide) (pc' := 116) rfl (fun c7 => ?_) (fun c7 => ?_)
                    · skip
                      refine g_iconst (v := nI 0) h dX4_isRing_120 (by decide) (pc' := 121) rfl ?_
                      refine g_istore2 h dX4_isRing_121 rfl (by decide) (pc' := 122) rfl ?_
                      refine g_iinc4 (v := nI (t + 1 + 1)) h dX4_isRing_122 rfl (inc1 (t + 1)) (by decide) (pc' := 125) rfl ?_
                      refine g_goto (pc' := 90) h dX4_isRing_125 (by decide) ?_
                      exact GG.castW ih90 ⟨rfl, rfl, (by simp only [List.head?_cons, List.tail_cons, inn, if_neg c1, if_neg c2, if_pos c3, if_pos c4, if_pos c5, if_neg c6, if_pos c7]), rfl, rfl, trivial⟩ rfl rfl
                    · skip
                      refine g_iconst (v := nI 1) h dX4_isRing_116 (by decide) (pc' := 117) rfl ?_
                      refine g_goto (pc' := 121) h dX4_isRing_117 (by decide) ?_
                      refine g_istore2 h dX4_isRing_121 rfl (by decide) (pc' := 122) rfl ?_
                      refine g_iinc4 (v := nI (t + 1 + 1)) h dX4_isRing_122 rfl (inc1 (t + 1)) (by decide) (pc' := 125) rfl ?_
                      refine g_goto (pc' := 90) h dX4_isRing_125 (by decide) ?_
                      exact GG.castW ih90 ⟨rfl, rfl, (by simp only [List.head?_cons, List.tail_cons, inn, if_neg c1, if_neg c2, if_pos c3, if_pos c4, if_pos c5, if_neg c6, if_neg c7]), rfl, rfl, trivial⟩ rfl rfl
              · skip
                refine g_iconst (v := nI 1) h dX4_isRing_81 (by decide) (pc' := 82) rfl ?_
                refine g_goto (pc' := 86) h dX4_isRing_82 (by decide) ?_
                refine g_istore2 h dX4_isRing_86 rfl (by decide) (pc' := 87) rfl ?_
                refine g_iconst (v := nI 1) h dX4_isRing_87 (by decide) (pc' := 88) rfl ?_
                refine g_istore4 h dX4_isRing_88 rfl (by decide) (pc' := 90) rfl ?_
                refine GG.castW (lp (P := fun t => GG Z X 90 [some (.ref (Z.2.2 10)), some (.int (nI s)), some (.int (nI (inn r k 1 t))), some (.int (nI k)), some (.int (nI (t + 1)))] [] (wR Z (nI m) toll paid cash debts fallen rounds shares under table right tried falls rsize ringOf (fun q => nI (r q)) found hh)) (k - 1) ?_ ?_) ⟨rfl, rfl, rfl, rfl, rfl, trivial⟩ rfl rfl
                · skip
                  refine g_iload h dX4_isRing_90 rfl (pc' := 92) rfl ?_
                  refine g_iload_n (i := 3) h dX4_isRing_92 rfl rfl (pc' := 93) rfl ?_
                  refine g_icmp_geT (tg := 128) h dX4_isRing_93 (by decide) (nI_le (by omega) (by omega)) ?_
                  refine g_iinc3 (v := nI (k + 1)) h dX4_isRing_128 rfl (inc1 k) (by decide) (pc' := 131) rfl ?_
                  refine g_goto (pc' := 4) h dX4_isRing_131 (by decide) ?_
                  exact GG.castW (ih4 (k + 1) (inn r k 1 (k - 1)) (by omega) (inn_le (by decide) _) (by rw [e4_2, iR, if_neg c1]; simp only [is0, nx, if_neg c2, if_pos c3, if_pos c4, if_neg c5])) ⟨rfl, rfl, rfl, rfl, trivial⟩ rfl rfl
                · intro t ht ih90
                  have hrt := g2 (t + 1) (by omega)
                  refine g_iload h dX4_isRing_90 rfl (pc' := 92) rfl ?_
                  refine g_iload_n (i := 3) h dX4_isRing_92 rfl rfl (pc' := 93) rfl ?_
                  refine g_icmp_geF (tg := 128) h dX4_isRing_93 (by decide) (pc' := 96) rfl (nI_ge (by omega) (by omega)) ?_
                  refine g_iload_n (i := 2) h dX4_isRing_96 rfl rfl (pc' := 97) rfl ?_
                  refine g_if_eq (tg := 120) h dX4_isRing_97 (by decide) (pc' := 100) rfl (fun c6 => ?_) (fun c6 => ?_)
                  · skip
                    refine g_iconst (v := nI 0) h dX4_isRing_120 (by decide) (pc' := 121) rfl ?_
                    refine g_istore2 h dX4_isRing_121 rfl (by decide) (pc' := 122) rfl ?_
                    refine g_iinc4 (v := nI (t + 1 + 1)) h dX4_isRing_122 rfl (inc1 (t + 1)) (by decide) (pc' := 125) rfl ?_
                    refine g_goto (pc' := 90) h dX4_isRing_125 (by decide) ?_
                    exact GG.castW ih90 ⟨rfl, rfl, (by simp only [List.head?_cons, List.tail_cons, inn, if_neg c1, if_neg c2, if_pos c3, if_pos c4, if_neg c5, if_pos c6]), rfl, rfl, trivial⟩ rfl rfl
                  · skip
                    refine g_aload_n (i := 0) h dX4_isRing_100 rfl rfl (pc' := 101) rfl ?_
                    refine gf_X4_43 h dX4_isRing_101 (pc' := 104) rfl ?_
                    refine g_iload h dX4_isRing_104 rfl (pc' := 106) rfl ?_
                    refine al_20 (j := t + 1) h dX4_isRing_106 rfl (by omega) (pc' := 107) rfl ?_
                    refine g_aload_n (i := 0) h dX4_isRing_107 rfl rfl (pc' := 108) rfl ?_
                    refine gf_X4_43 h dX4_isRing_108 (pc' := 111) rfl ?_
                    refine g_iload_n (i := 3) h dX4_isRing_111 rfl rfl (pc' := 112) rfl ?_
                    refine al_20 (j := k) h dX4_isRing_112 rfl (by omega) (pc' := 113) rfl ?_
                    refine g_icmp_eq (tg := 120) h dX4_isRing_113 (by decide) (pc' := 116) rfl (fun c7 => ?_) (fun c7 => ?_)
                    · skip
                      refine g_iconst (v := nI 0) h dX4_isRing_120 (by decide) (pc' := 121) rfl ?_
                      refine g_istore2 h dX4_isRing_121 rfl (by decide) (pc' := 122) rfl ?_
                      refine g_iinc4 (v := nI (t + 1 + 1)) h dX4_isRing_122 rfl (inc1 (t + 1)) (by decide) (pc' := 125) rfl ?_
                      refine g_goto (pc' := 90) h dX4_isRing_125 (by decide) ?_
                      exact GG.castW ih90 ⟨rfl, rfl, (by simp only [List.head?_cons, List.tail_cons, inn, if_neg c1, if_neg c2, if_pos c3, if_pos c4, if_neg c5, if_neg c6, if_pos c7]), rfl, rfl, trivial⟩ rfl rfl
                    · skip
                      refine g_iconst (v := nI 1) h dX4_isRing_116 (by decide) (pc' := 117) rfl ?_
                      refine g_goto (pc' := 121) h dX4_isRing_117 (by decide) ?_
                      refine g_istore2 h dX4_isRing_121 rfl (by decide) (pc' := 122) rfl ?_
                      refine g_iinc4 (v := nI (t + 1 + 1)) h dX4_isRing_122 rfl (inc1 (t + 1)) (by decide) (pc' := 125) rfl ?_
                      refine g_goto (pc' := 90) h dX4_isRing_125 (by decide) ?_
                      exact GG.castW ih90 ⟨rfl, rfl, (by simp only [List.head?_cons, List.tail_cons, inn, if_neg c1, if_neg c2, if_pos c3, if_pos c4, if_neg c5, if_neg c6, if_neg c7]), rfl, rfl, trivial⟩ rfl rfl
          · skip
            refine g_aload_n (i := 0) h dX4_isRing_30 rfl rfl (pc' := 31) rfl ?_
            refine gf_X4_43 h dX4_isRing_31 (pc' := 34) rfl ?_
            refine g_iload_n (i := 3) h dX4_isRing_34 rfl rfl (pc' := 35) rfl ?_
            refine al_20 (j := k) h dX4_isRing_35 rfl (by omega) (pc' := 36) rfl ?_
            refine g_aload_n (i := 0) h dX4_isRing_36 rfl rfl (pc' := 37) rfl ?_
            refine gf_X4_43 h dX4_isRing_37 (pc' := 40) rfl ?_
            refine g_iconst (v := nI 0) h dX4_isRing_40 (by decide) (pc' := 41) rfl ?_
            refine al_20 (j := 0) h dX4_isRing_41 rfl (by omega) (pc' := 42) rfl ?_
            refine g_icmp_le (tg := 85) h dX4_isRing_42 (by decide) (pc' := 45) rfl (fun c4 => ?_) (fun c4 => ?_)
            · skip
              refine g_iconst (v := nI 0) h dX4_isRing_85 (by decide) (pc' := 86) rfl ?_
              refine g_istore2 h dX4_isRing_86 rfl (by decide) (pc' := 87) rfl ?_
              refine g_iconst (v := nI 1) h dX4_isRing_87 (by decide) (pc' := 88) rfl ?_
              refine g_istore4 h dX4_isRing_88 rfl (by decide) (pc' := 90) rfl ?_
              refine GG.castW (lp (P := fun t => GG Z X 90 [some (.ref (Z.2.2 10)), some (.int (nI s)), some (.int (nI (inn r k 0 t))), some (.int (nI k)), some (.int (nI (t + 1)))] [] (wR Z (nI m) toll paid cash debts fallen rounds shares under table right tried falls rsize ringOf (fun q => nI (r q)) found hh)) (k - 1) ?_ ?_) ⟨rfl, rfl, rfl, rfl, rfl, trivial⟩ rfl rfl
              · skip
                refine g_iload h dX4_isRing_90 rfl (pc' := 92) rfl ?_
                refine g_iload_n (i := 3) h dX4_isRing_92 rfl rfl (pc' := 93) rfl ?_
                refine g_icmp_geT (tg := 128) h dX4_isRing_93 (by decide) (nI_le (by omega) (by omega)) ?_
                refine g_iinc3 (v := nI (k + 1)) h dX4_isRing_128 rfl (inc1 k) (by decide) (pc' := 131) rfl ?_
                refine g_goto (pc' := 4) h dX4_isRing_131 (by decide) ?_
                exact GG.castW (ih4 (k + 1) (inn r k 0 (k - 1)) (by omega) (inn_le (by decide) _) (by rw [e4_2, iR, if_neg c1]; simp only [is0, nx, if_neg c2, if_neg c3, if_pos c4])) ⟨rfl, rfl, rfl, rfl, trivial⟩ rfl rfl
              · intro t ht ih90
                have hrt := g2 (t + 1) (by omega)
                refine g_iload h dX4_isRing_90 rfl (pc' := 92) rfl ?_
                refine g_iload_n (i := 3) h dX4_isRing_92 rfl rfl (pc' := 93) rfl ?_
                refine g_icmp_geF (tg := 128) h dX4_isRing_93 (by decide) (pc' := 96) rfl (nI_ge (by omega) (by omega)) ?_
                refine g_iload_n (i := 2) h dX4_isRing_96 rfl rfl (pc' := 97) rfl ?_
                refine g_if_eq (tg := 120) h dX4_isRing_97 (by decide) (pc' := 100) rfl (fun c5 => ?_) (fun c5 => ?_)
                · skip
                  refine g_iconst (v := nI 0) h dX4_isRing_120 (by decide) (pc' := 121) rfl ?_
                  refine g_istore2 h dX4_isRing_121 rfl (by decide) (pc' := 122) rfl ?_
                  refine g_iinc4 (v := nI (t + 1 + 1)) h dX4_isRing_122 rfl (inc1 (t + 1)) (by decide) (pc' := 125) rfl ?_
                  refine g_goto (pc' := 90) h dX4_isRing_125 (by decide) ?_
                  exact GG.castW ih90 ⟨rfl, rfl, (by simp only [List.head?_cons, List.tail_cons, inn, if_neg c1, if_neg c2, if_neg c3, if_pos c4, if_pos c5]), rfl, rfl, trivial⟩ rfl rfl
                · skip
                  refine g_aload_n (i := 0) h dX4_isRing_100 rfl rfl (pc' := 101) rfl ?_
                  refine gf_X4_43 h dX4_isRing_101 (pc' := 104) rfl ?_
                  refine g_iload h dX4_isRing_104 rfl (pc' := 106) rfl ?_
                  refine al_20 (j := t + 1) h dX4_isRing_106 rfl (by omega) (pc' := 107) rfl ?_
                  refine g_aload_n (i := 0) h dX4_isRing_107 rfl rfl (pc' := 108) rfl ?_
                  refine gf_X4_43 h dX4_isRing_108 (pc' := 111) rfl ?_
                  refine g_iload_n (i := 3) h dX4_isRing_111 rfl rfl (pc' := 112) rfl ?_
                  refine al_20 (j := k) h dX4_isRing_112 rfl (by omega) (pc' := 113) rfl ?_
                  refine g_icmp_eq (tg := 120) h dX4_isRing_113 (by decide) (pc' := 116) rfl (fun c6 => ?_) (fun c6 => ?_)
                  · skip
                    refine g_iconst (v := nI 0) h dX4_isRing_120 (by decide) (pc' := 121) rfl ?_
                    refine g_istore2 h dX4_isRing_121 rfl (by decide) (pc' := 122) rfl ?_
                    refine g_iinc4 (v := nI (t + 1 + 1)) h dX4_isRing_122 rfl (inc1 (t + 1)) (by decide) (pc' := 125) rfl ?_
                    refine g_goto (pc' := 90) h dX4_isRing_125 (by decide) ?_
                    exact GG.castW ih90 ⟨rfl, rfl, (by simp only [List.head?_cons, List.tail_cons, inn, if_neg c1, if_neg c2, if_neg c3, if_pos c4, if_neg c5, if_pos c6]), rfl, rfl, trivial⟩ rfl rfl
                  · skip
                    refine g_iconst (v := nI 1) h dX4_isRing_116 (by decide) (pc' := 117) rfl ?_
                    refine g_goto (pc' := 121) h dX4_isRing_117 (by decide) ?_
                    refine g_istore2 h dX4_isRing_121 rfl (by decide) (pc' := 122) rfl ?_
                    refine g_iinc4 (v := nI (t + 1 + 1)) h dX4_isRing_122 rfl (inc1 (t + 1)) (by decide) (pc' := 125) rfl ?_
                    refine g_goto (pc' := 90) h dX4_isRing_125 (by decide) ?_
                    exact GG.castW ih90 ⟨rfl, rfl, (by simp only [List.head?_cons, List.tail_cons, inn, if_neg c1, if_neg c2, if_neg c3, if_pos c4, if_neg c5, if_neg c6]), rfl, rfl, trivial⟩ rfl rfl
            · skip
              refine g_aload_n (i := 0) h dX4_isRing_45 rfl rfl (pc' := 46) rfl ?_
              refine gf_X4_17 h dX4_isRing_46 (pc' := 49) rfl ?_
              refine g_iconst (v := nI 5) h dX4_isRing_49 (by decide) (pc' := 50) rfl ?_
              refine g_aload_n (i := 0) h dX4_isRing_50 rfl rfl (pc' := 51) rfl ?_
              refine gf_X4_43 h dX4_isRing_51 (pc' := 54) rfl ?_
              refine g_iload_n (i := 3) h dX4_isRing_54 rfl rfl (pc' := 55) rfl ?_
              refine al_20 (j := k) h dX4_isRing_55 rfl (by omega) (pc' := 56) rfl ?_
              refine g_imulN h dX4_isRing_56 (pc' := 57) rfl ?_
              refine g_aload_n (i := 0) h dX4_isRing_57 rfl rfl (pc' := 58) rfl ?_
              refine gf_X4_43 h dX4_isRing_58 (pc' := 61) rfl ?_
              refine g_iload_n (i := 3) h dX4_isRing_61 rfl rfl (pc' := 62) rfl ?_
              refine g_iconst (v := nI 1) h dX4_isRing_62 (by decide) (pc' := 63) rfl ?_
              refine g_iaddN h dX4_isRing_63 (pc' := 64) rfl ?_
              refine g_iload_n (i := 1) h dX4_isRing_64 rfl rfl (pc' := 65) rfl ?_
              refine g_icmp_ne (tg := 72) h dX4_isRing_65 (by decide) (pc' := 68) rfl (fun c5 => ?_) (fun c5 => ?_)
              · skip
                have hne : ¬ k + 1 = s := fun q => c5 (by rw [q])
                have hrn := g2 (k + 1) (by omega)
                refine g_iload_n (i := 3) h dX4_isRing_72 rfl rfl (pc' := 73) rfl ?_
                refine g_iconst (v := nI 1) h dX4_isRing_73 (by decide) (pc' := 74) rfl ?_
                refine g_iaddN h dX4_isRing_74 (pc' := 75) rfl ?_
                refine al_20 (j := k + 1) h dX4_isRing_75 rfl (by omega) (pc' := 76) rfl ?_
                refine g_iaddN h dX4_isRing_76 (pc' := 77) rfl ?_
                refine al_12 (j := (5 * (r k)) + (r (k + 1))) h dX4_isRing_77 rfl (by omega) (pc' := 78) rfl ?_
                refine g_if_le (tg := 85) h dX4_isRing_78 (by decide) (pc' := 81) rfl (fun c6 => ?_) (fun c6 => ?_)
                · skip
                  refine g_iconst (v := nI 0) h dX4_isRing_85 (by decide) (pc' := 86) rfl ?_
                  refine g_istore2 h dX4_isRing_86 rfl (by decide) (pc' := 87) rfl ?_
                  refine g_iconst (v := nI 1) h dX4_isRing_87 (by decide) (pc' := 88) rfl ?_
                  refine g_istore4 h dX4_isRing_88 rfl (by decide) (pc' := 90) rfl ?_
                  refine GG.castW (lp (P := fun t => GG Z X 90 [some (.ref (Z.2.2 10)), some (.int (nI s)), some (.int (nI (inn r k 0 t))), some (.int (nI k)), some (.int (nI (t + 1)))] [] (wR Z (nI m) toll paid cash debts fallen rounds shares under table right tried falls rsize ringOf (fun q => nI (r q)) found hh)) (k - 1) ?_ ?_) ⟨rfl, rfl, rfl, rfl, rfl, trivial⟩ rfl rfl
                  · skip
                    refine g_iload h dX4_isRing_90 rfl (pc' := 92) rfl ?_
                    refine g_iload_n (i := 3) h dX4_isRing_92 rfl rfl (pc' := 93) rfl ?_
                    refine g_icmp_geT (tg := 128) h dX4_isRing_93 (by decide) (nI_le (by omega) (by omega)) ?_
                    refine g_iinc3 (v := nI (k + 1)) h dX4_isRing_128 rfl (inc1 k) (by decide) (pc' := 131) rfl ?_
                    refine g_goto (pc' := 4) h dX4_isRing_131 (by decide) ?_
                    exact GG.castW (ih4 (k + 1) (inn r k 0 (k - 1)) (by omega) (inn_le (by decide) _) (by rw [e4_2, iR, if_neg c1]; simp only [is0, nx, if_neg c2, if_neg c3, if_neg c4, if_neg c5, if_pos c6])) ⟨rfl, rfl, rfl, rfl, trivial⟩ rfl rfl
                  · intro t ht ih90
                    have hrt := g2 (t + 1) (by omega)
                    refine g_iload h dX4_isRing_90 rfl (pc' := 92) rfl ?_
                    refine g_iload_n (i := 3) h dX4_isRing_92 rfl rfl (pc' := 93) rfl ?_
                    refine g_icmp_geF (tg := 128) h dX4_isRing_93 (by decide) (pc' := 96) rfl (nI_ge (by omega) (by omega)) ?_
                    refine g_iload_n (i := 2) h dX4_isRing_96 rfl rfl (pc' := 97) rfl ?_
                    refine g_if_eq (tg := 120) h dX4_isRing_97 (by decide) (pc' := 100) rfl (fun c7 => ?_) (fun c7 => ?_)
                    · skip
                      refine g_iconst (v := nI 0) h dX4_isRing_120 (by decide) (pc' := 121) rfl ?_
                      refine g_istore2 h dX4_isRing_121 rfl (by decide) (pc' := 122) rfl ?_
                      refine g_iinc4 (v := nI (t + 1 + 1)) h dX4_isRing_122 rfl (inc1 (t + 1)) (by decide) (pc' := 125) rfl ?_
                      refine g_goto (pc' := 90) h dX4_isRing_125 (by decide) ?_
                      exact GG.castW ih90 ⟨rfl, rfl, (by simp only [List.head?_cons, List.tail_cons, inn, if_neg c1, if_neg c2, if_neg c3, if_neg c4, if_neg c5, if_pos c6, if_pos c7]), rfl, rfl, trivial⟩ rfl rfl
                    · skip
                      refine g_aload_n (i := 0) h dX4_isRing_100 rfl rfl (pc' := 101) rfl ?_
                      refine gf_X4_43 h dX4_isRing_101 (pc' := 104) rfl ?_
                      refine g_iload h dX4_isRing_104 rfl (pc' := 106) rfl ?_
                      refine al_20 (j := t + 1) h dX4_isRing_106 rfl (by omega) (pc' := 107) rfl ?_
                      refine g_aload_n (i := 0) h dX4_isRing_107 rfl rfl (pc' := 108) rfl ?_
                      refine gf_X4_43 h dX4_isRing_108 (pc' := 111) rfl ?_
                      refine g_iload_n (i := 3) h dX4_isRing_111 rfl rfl (pc' := 112) rfl ?_
                      refine al_20 (j := k) h dX4_isRing_112 rfl (by omega) (pc' := 113) rfl ?_
                      refine g_icmp_eq (tg := 120) h dX4_isRing_113 (by decide) (pc' := 116) rfl (fun c8 => ?_) (fun c8 => ?_)
                      · skip
                        refine g_iconst (v := nI 0) h dX4_isRing_120 (by decide) (pc' := 121) rfl ?_
                        refine g_istore2 h dX4_isRing_121 rfl (by decide) (pc' := 122) rfl ?_
                        refine g_iinc4 (v := nI (t + 1 + 1)) h dX4_isRing_122 rfl (inc1 (t + 1)) (by decide) (pc' := 125) rfl ?_
                        refine g_goto (pc' := 90) h dX4_isRing_125 (by decide) ?_
                        exact GG.castW ih90 ⟨rfl, rfl, (by simp only [List.head?_cons, List.tail_cons, inn, if_neg c1, if_neg c2, if_neg c3, if_neg c4, if_neg c5, if_pos c6, if_neg c7, if_pos c8]), rfl, rfl, trivial⟩ rfl rfl
                      · skip
                        refine g_iconst (v := nI 1) h dX4_isRing_116 (by decide) (pc' := 117) rfl ?_
                        refine g_goto (pc' := 121) h dX4_isRing_117 (by decide) ?_
                        refine g_istore2 h dX4_isRing_121 rfl (by decide) (pc' := 122) rfl ?_
                        refine g_iinc4 (v := nI (t + 1 + 1)) h dX4_isRing_122 rfl (inc1 (t + 1)) (by decide) (pc' := 125) rfl ?_
                        refine g_goto (pc' := 90) h dX4_isRing_125 (by decide) ?_
                        exact GG.castW ih90 ⟨rfl, rfl, (by simp only [List.head?_cons, List.tail_cons, inn, if_neg c1, if_neg c2, if_neg c3, if_neg c4, if_neg c5, if_pos c6, if_neg c7, if_neg c8]), rfl, rfl, trivial⟩ rfl rfl
                · skip
                  refine g_iconst (v := nI 1) h dX4_isRing_81 (by decide) (pc' := 82) rfl ?_
                  refine g_goto (pc' := 86) h dX4_isRing_82 (by decide) ?_
                  refine g_istore2 h dX4_isRing_86 rfl (by decide) (pc' := 87) rfl ?_
                  refine g_iconst (v := nI 1) h dX4_isRing_87 (by decide) (pc' := 88) rfl ?_
                  refine g_istore4 h dX4_isRing_88 rfl (by decide) (pc' := 90) rfl ?_
                  refine GG.castW (lp (P := fun t => GG Z X 90 [some (.ref (Z.2.2 10)), some (.int (nI s)), some (.int (nI (inn r k 1 t))), some (.int (nI k)), some (.int (nI (t + 1)))] [] (wR Z (nI m) toll paid cash debts fallen rounds shares under table right tried falls rsize ringOf (fun q => nI (r q)) found hh)) (k - 1) ?_ ?_) ⟨rfl, rfl, rfl, rfl, rfl, trivial⟩ rfl rfl
                  · skip
                    refine g_iload h dX4_isRing_90 rfl (pc' := 92) rfl ?_
                    refine g_iload_n (i := 3) h dX4_isRing_92 rfl rfl (pc' := 93) rfl ?_
                    refine g_icmp_geT (tg := 128) h dX4_isRing_93 (by decide) (nI_le (by omega) (by omega)) ?_
                    refine g_iinc3 (v := nI (k + 1)) h dX4_isRing_128 rfl (inc1 k) (by decide) (pc' := 131) rfl ?_
                    refine g_goto (pc' := 4) h dX4_isRing_131 (by decide) ?_
                    exact GG.castW (ih4 (k + 1) (inn r k 1 (k - 1)) (by omega) (inn_le (by decide) _) (by rw [e4_2, iR, if_neg c1]; simp only [is0, nx, if_neg c2, if_neg c3, if_neg c4, if_neg c5, if_neg c6])) ⟨rfl, rfl, rfl, rfl, trivial⟩ rfl rfl
                  · intro t ht ih90
                    have hrt := g2 (t + 1) (by omega)
                    refine g_iload h dX4_isRing_90 rfl (pc' := 92) rfl ?_
                    refine g_iload_n (i := 3) h dX4_isRing_92 rfl rfl (pc' := 93) rfl ?_
                    refine g_icmp_geF (tg := 128) h dX4_isRing_93 (by decide) (pc' := 96) rfl (nI_ge (by omega) (by omega)) ?_
                    refine g_iload_n (i := 2) h dX4_isRing_96 rfl rfl (pc' := 97) rfl ?_
                    refine g_if_eq (tg := 120) h dX4_isRing_97 (by decide) (pc' := 100) rfl (fun c7 => ?_) (fun c7 => ?_)
                    · skip
                      refine g_iconst (v := nI 0) h dX4_isRing_120 (by decide) (pc' := 121) rfl ?_
                      refine g_istore2 h dX4_isRing_121 rfl (by decide) (pc' := 122) rfl ?_
                      refine g_iinc4 (v := nI (t + 1 + 1)) h dX4_isRing_122 rfl (inc1 (t + 1)) (by decide) (pc' := 125) rfl ?_
                      refine g_goto (pc' := 90) h dX4_isRing_125 (by decide) ?_
                      exact GG.castW ih90 ⟨rfl, rfl, (by simp only [List.head?_cons, List.tail_cons, inn, if_neg c1, if_neg c2, if_neg c3, if_neg c4, if_neg c5, if_neg c6, if_pos c7]), rfl, rfl, trivial⟩ rfl rfl
                    · skip
                      refine g_aload_n (i := 0) h dX4_isRing_100 rfl rfl (pc' := 101) rfl ?_
                      refine gf_X4_43 h dX4_isRing_101 (pc' := 104) rfl ?_
                      refine g_iload h dX4_isRing_104 rfl (pc' := 106) rfl ?_
                      refine al_20 (j := t + 1) h dX4_isRing_106 rfl (by omega) (pc' := 107) rfl ?_
                      refine g_aload_n (i := 0) h dX4_isRing_107 rfl rfl (pc' := 108) rfl ?_
                      refine gf_X4_43 h dX4_isRing_108 (pc' := 111) rfl ?_
                      refine g_iload_n (i := 3) h dX4_isRing_111 rfl rfl (pc' := 112) rfl ?_
                      refine al_20 (j := k) h dX4_isRing_112 rfl (by omega) (pc' := 113) rfl ?_
                      refine g_icmp_eq (tg := 120) h dX4_isRing_113 (by decide) (pc' := 116) rfl (fun c8 => ?_) (fun c8 => ?_)
                      · skip
                        refine g_iconst (v := nI 0) h dX4_isRing_120 (by decide) (pc' := 121) rfl ?_
                        refine g_istore2 h dX4_isRing_121 rfl (by decide) (pc' := 122) rfl ?_
                        refine g_iinc4 (v := nI (t + 1 + 1)) h dX4_isRing_122 rfl (inc1 (t + 1)) (by decide) (pc' := 125) rfl ?_
                        refine g_goto (pc' := 90) h dX4_isRing_125 (by decide) ?_
                        exact GG.castW ih90 ⟨rfl, rfl, (by simp only [List.head?_cons, List.tail_cons, inn, if_neg c1, if_neg c2, if_neg c3, if_neg c4, if_neg c5, if_neg c6, if_neg c7, if_pos c8]), rfl, rfl, trivial⟩ rfl rfl
                      · skip
                        refine g_iconst (v := nI 1) h dX4_isRing_116 (by decide) (pc' := 117) rfl ?_
                        refine g_goto (pc' := 121) h dX4_isRing_117 (by decide) ?_
                        refine g_istore2 h dX4_isRing_121 rfl (by decide) (pc' := 122) rfl ?_
                        refine g_iinc4 (v := nI (t + 1 + 1)) h dX4_isRing_122 rfl (inc1 (t + 1)) (by decide) (pc' := 125) rfl ?_
                        refine g_goto (pc' := 90) h dX4_isRing_125 (by decide) ?_
                        exact GG.castW ih90 ⟨rfl, rfl, (by simp only [List.head?_cons, List.tail_cons, inn, if_neg c1, if_neg c2, if_neg c3, if_neg c4, if_neg c5, if_neg c6, if_neg c7, if_neg c8]), rfl, rfl, trivial⟩ rfl rfl
              · skip
                refine g_iconst (v := nI 0) h dX4_isRing_68 (by decide) (pc' := 69) rfl ?_
                refine g_goto (pc' := 75) h dX4_isRing_69 (by decide) ?_
                refine al_20 (j := 0) h dX4_isRing_75 rfl (by omega) (pc' := 76) rfl ?_
                refine g_iaddN h dX4_isRing_76 (pc' := 77) rfl ?_
                refine al_12 (j := (5 * (r k)) + (r 0)) h dX4_isRing_77 rfl (by omega) (pc' := 78) rfl ?_
                refine g_if_le (tg := 85) h dX4_isRing_78 (by decide) (pc' := 81) rfl (fun c6 => ?_) (fun c6 => ?_)
                · skip
                  refine g_iconst (v := nI 0) h dX4_isRing_85 (by decide) (pc' := 86) rfl ?_
                  refine g_istore2 h dX4_isRing_86 rfl (by decide) (pc' := 87) rfl ?_
                  refine g_iconst (v := nI 1) h dX4_isRing_87 (by decide) (pc' := 88) rfl ?_
                  refine g_istore4 h dX4_isRing_88 rfl (by decide) (pc' := 90) rfl ?_
                  refine GG.castW (lp (P := fun t => GG Z X 90 [some (.ref (Z.2.2 10)), some (.int (nI s)), some (.int (nI (inn r k 0 t))), some (.int (nI k)), some (.int (nI (t + 1)))] [] (wR Z (nI m) toll paid cash debts fallen rounds shares under table right tried falls rsize ringOf (fun q => nI (r q)) found hh)) (k - 1) ?_ ?_) ⟨rfl, rfl, rfl, rfl, rfl, trivial⟩ rfl rfl
                  · skip
                    refine g_iload h dX4_isRing_90 rfl (pc' := 92) rfl ?_
                    refine g_iload_n (i := 3) h dX4_isRing_92 rfl rfl (pc' := 93) rfl ?_
                    refine g_icmp_geT (tg := 128) h dX4_isRing_93 (by decide) (nI_le (by omega) (by omega)) ?_
                    refine g_iinc3 (v := nI (k + 1)) h dX4_isRing_128 rfl (inc1 k) (by decide) (pc' := 131) rfl ?_
                    refine g_goto (pc' := 4) h dX4_isRing_131 (by decide) ?_
                    exact GG.castW (ih4 (k + 1) (inn r k 0 (k - 1)) (by omega) (inn_le (by decide) _) (by rw [e4_2, iR, if_neg c1]; simp only [is0, nx, if_neg c2, if_neg c3, if_neg c4, if_pos c5, if_pos c6])) ⟨rfl, rfl, rfl, rfl, trivial⟩ rfl rfl
                  · intro t ht ih90
                    have hrt := g2 (t + 1) (by omega)
                    refine g_iload h dX4_isRing_90 rfl (pc' := 92) rfl ?_
                    refine g_iload_n (i := 3) h dX4_isRing_92 rfl rfl (pc' := 93) rfl ?_
                    refine g_icmp_geF (tg := 128) h dX4_isRing_93 (by decide) (pc' := 96) rfl (nI_ge (by omega) (by omega)) ?_
                    refine g_iload_n (i := 2) h dX4_isRing_96 rfl rfl (pc' := 97) rfl ?_
                    refine g_if_eq (tg := 120) h dX4_isRing_97 (by decide) (pc' := 100) rfl (fun c7 => ?_) (fun c7 => ?_)
                    · skip
                      refine g_iconst (v := nI 0) h dX4_isRing_120 (by decide) (pc' := 121) rfl ?_
                      refine g_istore2 h dX4_isRing_121 rfl (by decide) (pc' := 122) rfl ?_
                      refine g_iinc4 (v := nI (t + 1 + 1)) h dX4_isRing_122 rfl (inc1 (t + 1)) (by decide) (pc' := 125) rfl ?_
                      refine g_goto (pc' := 90) h dX4_isRing_125 (by decide) ?_
                      exact GG.castW ih90 ⟨rfl, rfl, (by simp only [List.head?_cons, List.tail_cons, inn, if_neg c1, if_neg c2, if_neg c3, if_neg c4, if_pos c5, if_pos c6, if_pos c7]), rfl, rfl, trivial⟩ rfl rfl
                    · skip
                      refine g_aload_n (i := 0) h dX4_isRing_100 rfl rfl (pc' := 101) rfl ?_
                      refine gf_X4_43 h dX4_isRing_101 (pc' := 104) rfl ?_
                      refine g_iload h dX4_isRing_104 rfl (pc' := 106) rfl ?_
                      refine al_20 (j := t + 1) h dX4_isRing_106 rfl (by omega) (pc' := 107) rfl ?_
                      refine g_aload_n (i := 0) h dX4_isRing_107 rfl rfl (pc' := 108) rfl ?_
                      refine gf_X4_43 h dX4_isRing_108 (pc' := 111) rfl ?_
                      refine g_iload_n (i := 3) h dX4_isRing_111 rfl rfl (pc' := 112) rfl ?_
                      refine al_20 (j := k) h dX4_isRing_112 rfl (by omega) (pc' := 113) rfl ?_
                      refine g_icmp_eq (tg := 120) h dX4_isRing_113 (by decide) (pc' := 116) rfl (fun c8 => ?_) (fun c8 => ?_)
                      · skip
                        refine g_iconst (v := nI 0) h dX4_isRing_120 (by decide) (pc' := 121) rfl ?_
                        refine g_istore2 h dX4_isRing_121 rfl (by decide) (pc' := 122) rfl ?_
                        refine g_iinc4 (v := nI (t + 1 + 1)) h dX4_isRing_122 rfl (inc1 (t + 1)) (by decide) (pc' := 125) rfl ?_
                        refine g_goto (pc' := 90) h dX4_isRing_125 (by decide) ?_
                        exact GG.castW ih90 ⟨rfl, rfl, (by simp only [List.head?_cons, List.tail_cons, inn, if_neg c1, if_neg c2, if_neg c3, if_neg c4, if_pos c5, if_pos c6, if_neg c7, if_pos c8]), rfl, rfl, trivial⟩ rfl rfl
                      · skip
                        refine g_iconst (v := nI 1) h dX4_isRing_116 (by decide) (pc' := 117) rfl ?_
                        refine g_goto (pc' := 121) h dX4_isRing_117 (by decide) ?_
                        refine g_istore2 h dX4_isRing_121 rfl (by decide) (pc' := 122) rfl ?_
                        refine g_iinc4 (v := nI (t + 1 + 1)) h dX4_isRing_122 rfl (inc1 (t + 1)) (by decide) (pc' := 125) rfl ?_
                        refine g_goto (pc' := 90) h dX4_isRing_125 (by decide) ?_
                        exact GG.castW ih90 ⟨rfl, rfl, (by simp only [List.head?_cons, List.tail_cons, inn, if_neg c1, if_neg c2, if_neg c3, if_neg c4, if_pos c5, if_pos c6, if_neg c7, if_neg c8]), rfl, rfl, trivial⟩ rfl rfl
                · skip
                  refine g_iconst (v := nI 1) h dX4_isRing_81 (by decide) (pc' := 82) rfl ?_
                  refine g_goto (pc' := 86) h dX4_isRing_82 (by decide) ?_
                  refine g_istore2 h dX4_isRing_86 rfl (by decide) (pc' := 87) rfl ?_
                  refine g_iconst (v := nI 1) h dX4_isRing_87 (by decide) (pc' := 88) rfl ?_
                  refine g_istore4 h dX4_isRing_88 rfl (by decide) (pc' := 90) rfl ?_
                  refine GG.castW (lp (P := fun t => GG Z X 90 [some (.ref (Z.2.2 10)), some (.int (nI s)), some (.int (nI (inn r k 1 t))), some (.int (nI k)), some (.int (nI (t + 1)))] [] (wR Z (nI m) toll paid cash debts fallen rounds shares under table right tried falls rsize ringOf (fun q => nI (r q)) found hh)) (k - 1) ?_ ?_) ⟨rfl, rfl, rfl, rfl, rfl, trivial⟩ rfl rfl
                  · skip
                    refine g_iload h dX4_isRing_90 rfl (pc' := 92) rfl ?_
                    refine g_iload_n (i := 3) h dX4_isRing_92 rfl rfl (pc' := 93) rfl ?_
                    refine g_icmp_geT (tg := 128) h dX4_isRing_93 (by decide) (nI_le (by omega) (by omega)) ?_
                    refine g_iinc3 (v := nI (k + 1)) h dX4_isRing_128 rfl (inc1 k) (by decide) (pc' := 131) rfl ?_
                    refine g_goto (pc' := 4) h dX4_isRing_131 (by decide) ?_
                    exact GG.castW (ih4 (k + 1) (inn r k 1 (k - 1)) (by omega) (inn_le (by decide) _) (by rw [e4_2, iR, if_neg c1]; simp only [is0, nx, if_neg c2, if_neg c3, if_neg c4, if_pos c5, if_neg c6])) ⟨rfl, rfl, rfl, rfl, trivial⟩ rfl rfl
                  · intro t ht ih90
                    have hrt := g2 (t + 1) (by omega)
                    refine g_iload h dX4_isRing_90 rfl (pc' := 92) rfl ?_
                    refine g_iload_n (i := 3) h dX4_isRing_92 rfl rfl (pc' := 93) rfl ?_
                    refine g_icmp_geF (tg := 128) h dX4_isRing_93 (by decide) (pc' := 96) rfl (nI_ge (by omega) (by omega)) ?_
                    refine g_iload_n (i := 2) h dX4_isRing_96 rfl rfl (pc' := 97) rfl ?_
                    refine g_if_eq (tg := 120) h dX4_isRing_97 (by decide) (pc' := 100) rfl (fun c7 => ?_) (fun c7 => ?_)
                    · skip
                      refine g_iconst (v := nI 0) h dX4_isRing_120 (by decide) (pc' := 121) rfl ?_
                      refine g_istore2 h dX4_isRing_121 rfl (by decide) (pc' := 122) rfl ?_
                      refine g_iinc4 (v := nI (t + 1 + 1)) h dX4_isRing_122 rfl (inc1 (t + 1)) (by decide) (pc' := 125) rfl ?_
                      refine g_goto (pc' := 90) h dX4_isRing_125 (by decide) ?_
                      exact GG.castW ih90 ⟨rfl, rfl, (by simp only [List.head?_cons, List.tail_cons, inn, if_neg c1, if_neg c2, if_neg c3, if_neg c4, if_pos c5, if_neg c6, if_pos c7]), rfl, rfl, trivial⟩ rfl rfl
                    · skip
                      refine g_aload_n (i := 0) h dX4_isRing_100 rfl rfl (pc' := 101) rfl ?_
                      refine gf_X4_43 h dX4_isRing_101 (pc' := 104) rfl ?_
                      refine g_iload h dX4_isRing_104 rfl (pc' := 106) rfl ?_
                      refine al_20 (j := t + 1) h dX4_isRing_106 rfl (by omega) (pc' := 107) rfl ?_
                      refine g_aload_n (i := 0) h dX4_isRing_107 rfl rfl (pc' := 108) rfl ?_
                      refine gf_X4_43 h dX4_isRing_108 (pc' := 111) rfl ?_
                      refine g_iload_n (i := 3) h dX4_isRing_111 rfl rfl (pc' := 112) rfl ?_
                      refine al_20 (j := k) h dX4_isRing_112 rfl (by omega) (pc' := 113) rfl ?_
                      refine g_icmp_eq (tg := 120) h dX4_isRing_113 (by decide) (pc' := 116) rfl (fun c8 => ?_) (fun c8 => ?_)
                      · skip
                        refine g_iconst (v := nI 0) h dX4_isRing_120 (by decide) (pc' := 121) rfl ?_
                        refine g_istore2 h dX4_isRing_121 rfl (by decide) (pc' := 122) rfl ?_
                        refine g_iinc4 (v := nI (t + 1 + 1)) h dX4_isRing_122 rfl (inc1 (t + 1)) (by decide) (pc' := 125) rfl ?_
                        refine g_goto (pc' := 90) h dX4_isRing_125 (by decide) ?_
                        exact GG.castW ih90 ⟨rfl, rfl, (by simp only [List.head?_cons, List.tail_cons, inn, if_neg c1, if_neg c2, if_neg c3, if_neg c4, if_pos c5, if_neg c6, if_neg c7, if_pos c8]), rfl, rfl, trivial⟩ rfl rfl
                      · skip
                        refine g_iconst (v := nI 1) h dX4_isRing_116 (by decide) (pc' := 117) rfl ?_
                        refine g_goto (pc' := 121) h dX4_isRing_117 (by decide) ?_
                        refine g_istore2 h dX4_isRing_121 rfl (by decide) (pc' := 122) rfl ?_
                        refine g_iinc4 (v := nI (t + 1 + 1)) h dX4_isRing_122 rfl (inc1 (t + 1)) (by decide) (pc' := 125) rfl ?_
                        refine g_goto (pc' := 90) h dX4_isRing_125 (by decide) ?_
                        exact GG.castW ih90 ⟨rfl, rfl, (by simp only [List.head?_cons, List.tail_cons, inn, if_neg c1, if_neg c2, if_neg c3, if_neg c4, if_pos c5, if_neg c6, if_neg c7, if_neg c8]), rfl, rfl, trivial⟩ rfl rfl
  exact GG.castW (key4 s 0 1 (Nat.zero_add s) (Nat.le_refl 1) rfl) ⟨rfl, rfl, rfl, rfl, trivial⟩ rfl rfl
set_option maxRecDepth 20000 in
set_option maxHeartbeats 4000000 in
theorem M_X4_seek {Z : ZT} {m : Nat} {toll : Int32} {paid : Int64} {cash : Nat → Int64} {debts : Nat → Int32} {fallen : Nat → Int32} {rounds : Int32} {shares : Nat → Int64} {under : Int64} {table : Nat → Int64} {right : Nat → Int64} {tried : Nat → Int64} {falls : Nat → Int32} {rsize : Int32} {ro : Nat → Nat} {r : Nat → Nat} {found : Int32} {hh : Int64} {w : Int32}  (g0 : m ≤ 4) (g1 : 1 ≤ m) : MM Z yX4_seek cX4_seek 7 none 1 [.ref (Z.2.2 10), .int w] (wR Z (nI m) toll paid cash debts fallen rounds shares under table right tried falls rsize (fun q => nI (ro q)) (fun q => nI (r q)) found hh) none (wR Z (nI m) toll paid cash debts fallen rounds shares under table right tried falls (nI ((skF debts m w ro r).2.1)) (fun q => nI (((skF debts m w ro r).2.2.1) q)) (fun q => nI (((skF debts m w ro r).2.2.2) q)) (nI ((skF debts m w ro r).1)) hh) := by
  refine MM.intro (by decide) [some (.ref (Z.2.2 10)), some (.int w), none, none, none, none, none] rfl (Nat.le_of_ble_eq_true rfl) (fun X (h : OK Z X cX4_seek RX4 7 (rmd 1)) hr => ?_)
  refine g_aload_n (i := 0) h dX4_seek_0 rfl rfl (pc' := 1) rfl ?_
  refine g_iconst (v := nI 0) h dX4_seek_1 (by decide) (pc' := 2) rfl ?_
  refine pf_X4_108 h dX4_seek_2 (pc' := 5) rfl ?_
  refine g_aload_n (i := 0) h dX4_seek_5 rfl rfl (pc' := 6) rfl ?_
  refine g_iconst (v := nI 0) h dX4_seek_6 (by decide) (pc' := 7) rfl ?_
  refine pf_X4_111 h dX4_seek_7 (pc' := 10) rfl ?_
  refine g_iconst (v := nI 2) h dX4_seek_10 (by decide) (pc' := 11) rfl ?_
  refine g_istore2 h dX4_seek_11 rfl (by decide) (pc' := 12) rfl ?_
  refine GG.castW (lp (P := fun i => GG Z X 12 [some (.ref (Z.2.2 10)), some (.int w), some (.int (nI (i + 2))), none, none, none, none] [] (wR Z (nI m) toll paid cash debts fallen rounds shares under table right tried falls (nI ((skO debts m w (0, 0, ro, r) i).2.1)) (fun q => nI (((skO debts m w (0, 0, ro, r) i).2.2.1) q)) (fun q => nI (((skO debts m w (0, 0, ro, r) i).2.2.2) q)) (nI ((skO debts m w (0, 0, ro, r) i).1)) hh)) (m - 1) ?_ ?_) ⟨rfl, rfl, rfl, trivial⟩ rfl rfl
  · skip
    refine g_iload_n (i := 2) h dX4_seek_12 rfl rfl (pc' := 13) rfl ?_
    refine g_aload_n (i := 0) h dX4_seek_13 rfl rfl (pc' := 14) rfl ?_
    refine gf_X4_7 h dX4_seek_14 (pc' := 17) rfl ?_
    refine g_icmp_gtT (tg := 162) h dX4_seek_17 (by decide) (nI_lt (by omega) (by omega)) ?_
    exact g_vret h hr dX4_seek_162 rfl rfl
  · intro i hi ih12
    refine g_iload_n (i := 2) h dX4_seek_12 rfl rfl (pc' := 13) rfl ?_
    refine g_aload_n (i := 0) h dX4_seek_13 rfl rfl (pc' := 14) rfl ?_
    refine gf_X4_7 h dX4_seek_14 (pc' := 17) rfl ?_
    refine g_icmp_gtF (tg := 162) h dX4_seek_17 (by decide) (pc' := 20) rfl (nI_nlt (by omega) (by omega)) ?_
    refine g_iload_n (i := 2) h dX4_seek_20 rfl rfl (pc' := 21) rfl ?_
    refine g_iconst (v := nI 2) h dX4_seek_21 (by decide) (pc' := 22) rfl ?_
    refine g_icmp_ne (tg := 30) h dX4_seek_22 (by decide) (pc' := 25) rfl (fun c1 => ?_) (fun c1 => ?_)
    · skip
      refine g_iload_n (i := 2) h dX4_seek_30 rfl rfl (pc' := 31) rfl ?_
      refine g_iconst (v := nI 3) h dX4_seek_31 (by decide) (pc' := 32) rfl ?_
      refine g_icmp_ne (tg := 40) h dX4_seek_32 (by decide) (pc' := 35) rfl (fun c2 => ?_) (fun c2 => ?_)
      · skip
        refine g_sipush (v := nI 256) h dX4_seek_40 (by decide) (pc' := 43) rfl ?_
        refine g_istore3 h dX4_seek_43 rfl (by decide) (pc' := 44) rfl ?_
        refine g_iconst (v := nI 0) h dX4_seek_44 (by decide) (pc' := 45) rfl ?_
        refine g_istore4 h dX4_seek_45 rfl (by decide) (pc' := 47) rfl ?_
        refine GG.castW (lp (P := fun c => GG Z X 47 [some (.ref (Z.2.2 10)), some (.int w), some (.int (nI (i + 2))), some (.int (nI 256)), some (.int (nI c)), none, none] [] (wR Z (nI m) toll paid cash debts fallen rounds shares under table right tried falls (nI ((skC debts m w (i + 2) c (skO debts m w (0, 0, ro, r) i)).2.1)) (fun q => nI (((skC debts m w (i + 2) c (skO debts m w (0, 0, ro, r) i)).2.2.1) q)) (fun q => nI (((skC debts m w (i + 2) c (skO debts m w (0, 0, ro, r) i)).2.2.2) q)) (nI ((skC debts m w (i + 2) c (skO debts m w (0, 0, ro, r) i)).1)) hh)) 256 ?_ ?_) ⟨rfl, rfl, rfl, rfl, rfl, trivial⟩ rfl rfl
        · skip
          refine g_iload h dX4_seek_47 rfl (pc' := 49) rfl ?_
          refine g_iload_n (i := 3) h dX4_seek_49 rfl rfl (pc' := 50) rfl ?_
          refine g_icmp_geT (tg := 156) h dX4_seek_50 (by decide) (Int32.le_refl _) ?_
          refine g_iinc2 (v := nI (i + 2 + 1)) h dX4_seek_156 rfl (inc1 (i + 2)) (by decide) (pc' := 159) rfl ?_
          refine g_goto (pc' := 12) h dX4_seek_159 (by decide) ?_
          exact GG.castW ih12 ⟨rfl, rfl, rfl, trivial⟩ rfl (by simp only [skO, aln, if_neg c1, if_neg c2])
        · intro c hc ih47
          refine g_iload h dX4_seek_47 rfl (pc' := 49) rfl ?_
          refine g_iload_n (i := 3) h dX4_seek_49 rfl rfl (pc' := 50) rfl ?_
          refine g_icmp_geF (tg := 156) h dX4_seek_50 (by decide) (pc' := 53) rfl (nI_ge hc (by omega)) ?_
          refine g_iload h dX4_seek_53 rfl (pc' := 55) rfl ?_
          refine g_istore5 h dX4_seek_55 rfl (by decide) (pc' := 57) rfl ?_
          refine g_iload_n (i := 2) h dX4_seek_57 rfl rfl (pc' := 58) rfl ?_
          refine g_iconst (v := nI 1) h dX4_seek_58 (by decide) (pc' := 59) rfl ?_
          refine g_isubN h dX4_seek_59 (by omega) (pc' := 60) rfl ?_
          refine g_istore6 h dX4_seek_60 rfl (by decide) (pc' := 62) rfl ?_
          refine GG.castW (lp (P := fun t => GG Z X 62 [some (.ref (Z.2.2 10)), some (.int w), some (.int (nI (i + 2))), some (.int (nI 256)), some (.int (nI c)), some (.int (nI (lf c t))), some (.int (kk (i + 2 - t)))] [] (wR Z (nI m) toll paid cash debts fallen rounds shares under table right tried falls (nI ((skC debts m w (i + 2) c (skO debts m w (0, 0, ro, r) i)).2.1)) (fun q => nI (((skC debts m w (i + 2) c (skO debts m w (0, 0, ro, r) i)).2.2.1) q)) (fun q => nI ((rwf (skC debts m w (i + 2) c (skO debts m w (0, 0, ro, r) i)).2.2.2 c (i + 2) t) q)) (nI ((skC debts m w (i + 2) c (skO debts m w (0, 0, ro, r) i)).1)) hh)) (i + 2) ?_ ?_) ⟨rfl, rfl, rfl, rfl, rfl, rfl, rfl, trivial⟩ rfl rfl
          · skip
            refine g_iload h dX4_seek_62 rfl (pc' := 64) rfl ?_
            refine g_if_ltT (tg := 90) h dX4_seek_64 (by decide) (by rw [Nat.sub_self]; decide) ?_
            refine g_aload_n (i := 0) h dX4_seek_90 rfl rfl (pc' := 91) rfl ?_
            refine g_iload_n (i := 2) h dX4_seek_91 rfl rfl (pc' := 92) rfl ?_
            refine g_callV1 (q0 := 0) h dX4_seek_92 cf_X4_114 (M_X4_isRing (s := i + 2) (by omega) (by omega) (fun q hq => rwf_lt _ (Nat.le_refl _) q (by omega) hq)) rfl rfl rfl rfl (by decide) rfl (Nat.le_of_ble_eq_true rfl) (pc' := 95) rfl ?_
            refine g_if_eq (tg := 150) h dX4_seek_95 (by decide) (pc' := 98) rfl (fun c3 => ?_) (fun c3 => ?_)
            · skip
              refine g_iinc4 (v := nI (c + 1)) h dX4_seek_150 rfl (inc1 c) (by decide) (pc' := 153) rfl ?_
              refine g_goto (pc' := 47) h dX4_seek_153 (by decide) ?_
              exact GG.castW ih47 ⟨rfl, rfl, rfl, rfl, rfl, trivial⟩ rfl (by simp only [skC, skS, if_neg c1, if_neg c2, if_pos c3])
            · skip
              refine g_aload_n (i := 0) h dX4_seek_98 rfl rfl (pc' := 99) rfl ?_
              refine gf_X4_108 h dX4_seek_99 (pc' := 102) rfl ?_
              refine g_iload_n (i := 1) h dX4_seek_102 rfl rfl (pc' := 103) rfl ?_
              refine g_icmp_ne (tg := 140) h dX4_seek_103 (by decide) (pc' := 106) rfl (fun c4 => ?_) (fun c4 => ?_)
              · skip
                refine g_aload_n (i := 0) h dX4_seek_140 rfl rfl (pc' := 141) rfl ?_
                refine g_dupR h dX4_seek_141 (pc' := 142) rfl ?_
                refine gf_X4_108 h dX4_seek_142 (pc' := 145) rfl ?_
                refine g_iconst (v := nI 1) h dX4_seek_145 (by decide) (pc' := 146) rfl ?_
                refine g_iaddN h dX4_seek_146 (pc' := 147) rfl ?_
                refine pf_X4_108 h dX4_seek_147 (pc' := 150) rfl ?_
                refine g_iinc4 (v := nI (c + 1)) h dX4_seek_150 rfl (inc1 c) (by decide) (pc' := 153) rfl ?_
                refine g_goto (pc' := 47) h dX4_seek_153 (by decide) ?_
                exact GG.castW ih47 ⟨rfl, rfl, rfl, rfl, rfl, trivial⟩ rfl (by simp only [skC, skS, if_neg c1, if_neg c2, if_neg c3, if_neg c4])
              · skip
                refine g_aload_n (i := 0) h dX4_seek_106 rfl rfl (pc' := 107) rfl ?_
                refine g_iload_n (i := 2) h dX4_seek_107 rfl rfl (pc' := 108) rfl ?_
                refine pf_X4_111 h dX4_seek_108 (pc' := 111) rfl ?_
                refine g_iconst (v := nI 0) h dX4_seek_111 (by decide) (pc' := 112) rfl ?_
                refine g_istore6 h dX4_seek_112 rfl (by decide) (pc' := 114) rfl ?_
                refine GG.castW (lp (P := fun u => GG Z X 114 [some (.ref (Z.2.2 10)), some (.int w), some (.int (nI (i + 2))), some (.int (nI 256)), some (.int (nI c)), none, some (.int (nI u))] [] (wR Z (nI m) toll paid cash debts fallen rounds shares under table right tried falls (nI (i + 2)) (fun q => nI ((cpf ((skC debts m w (i + 2) c (skO debts m w (0, 0, ro, r) i)).2.2.1) (rwf (skC debts m w (i + 2) c (skO debts m w (0, 0, ro, r) i)).2.2.2 c (i + 2) (i + 2)) u) q)) (fun q => nI ((rwf (skC debts m w (i + 2) c (skO debts m w (0, 0, ro, r) i)).2.2.2 c (i + 2) (i + 2)) q)) (nI ((skC debts m w (i + 2) c (skO debts m w (0, 0, ro, r) i)).1)) hh)) (i + 2) ?_ ?_) ⟨rfl, rfl, rfl, rfl, rfl, rfl, trivial⟩ rfl rfl
                · skip
                  refine g_iload h dX4_seek_114 rfl (pc' := 116) rfl ?_
                  refine g_iload_n (i := 2) h dX4_seek_116 rfl rfl (pc' := 117) rfl ?_
                  refine g_icmp_geT (tg := 140) h dX4_seek_117 (by decide) (Int32.le_refl _) ?_
                  refine g_aload_n (i := 0) h dX4_seek_140 rfl rfl (pc' := 141) rfl ?_
                  refine g_dupR h dX4_seek_141 (pc' := 142) rfl ?_
                  refine gf_X4_108 h dX4_seek_142 (pc' := 145) rfl ?_
                  refine g_iconst (v := nI 1) h dX4_seek_145 (by decide) (pc' := 146) rfl ?_
                  refine g_iaddN h dX4_seek_146 (pc' := 147) rfl ?_
                  refine pf_X4_108 h dX4_seek_147 (pc' := 150) rfl ?_
                  refine g_iinc4 (v := nI (c + 1)) h dX4_seek_150 rfl (inc1 c) (by decide) (pc' := 153) rfl ?_
                  refine g_goto (pc' := 47) h dX4_seek_153 (by decide) ?_
                  exact GG.castW ih47 ⟨rfl, rfl, rfl, rfl, rfl, trivial⟩ rfl (by simp only [skC, skS, if_neg c1, if_neg c2, if_neg c3, if_pos c4])
                · intro u hu ih114
                  refine g_iload h dX4_seek_114 rfl (pc' := 116) rfl ?_
                  refine g_iload_n (i := 2) h dX4_seek_116 rfl rfl (pc' := 117) rfl ?_
                  refine g_icmp_geF (tg := 140) h dX4_seek_117 (by decide) (pc' := 120) rfl (nI_ge hu (by omega)) ?_
                  refine g_aload_n (i := 0) h dX4_seek_120 rfl rfl (pc' := 121) rfl ?_
                  refine gf_X4_40 h dX4_seek_121 (pc' := 124) rfl ?_
                  refine g_iload h dX4_seek_124 rfl (pc' := 126) rfl ?_
                  refine g_aload_n (i := 0) h dX4_seek_126 rfl rfl (pc' := 127) rfl ?_
                  refine gf_X4_43 h dX4_seek_127 (pc' := 130) rfl ?_
                  refine g_iload h dX4_seek_130 rfl (pc' := 132) rfl ?_
                  refine al_20 (j := u) h dX4_seek_132 rfl (by omega) (pc' := 133) rfl ?_
                  refine as_19 (j := u) h dX4_seek_133 rfl (by omega) (pc' := 134) rfl ?_
                  rw [upd_AN (r := cpf ((skC debts m w (i + 2) c (skO debts m w (0, 0, ro, r) i)).2.2.1) (rwf (skC debts m w (i + 2) c (skO debts m w (0, 0, ro, r) i)).2.2.2 c (i + 2) (i + 2)) u) (k := u) (v := (rwf (skC debts m w (i + 2) c (skO debts m w (0, 0, ro, r) i)).2.2.2 c (i + 2) (i + 2)) u)]
                  refine g_iinc6 (v := nI (u + 1)) h dX4_seek_134 rfl (inc1 u) (by decide) (pc' := 137) rfl ?_
                  refine g_goto (pc' := 114) h dX4_seek_137 (by decide) ?_
                  exact GG.castW ih114 ⟨rfl, rfl, rfl, rfl, rfl, rfl, trivial⟩ rfl rfl
          · intro t ht ih62
            rw [kkpos ht]; have hlf := lf_le c t
            refine g_iload h dX4_seek_62 rfl (pc' := 64) rfl ?_
            refine g_if_ltF (tg := 90) h dX4_seek_64 (by decide) (pc' := 67) rfl (nI_pos (by omega)) ?_
            refine g_aload_n (i := 0) h dX4_seek_67 rfl rfl (pc' := 68) rfl ?_
            refine gf_X4_43 h dX4_seek_68 (pc' := 71) rfl ?_
            refine g_iload h dX4_seek_71 rfl (pc' := 73) rfl ?_
            refine g_iload h dX4_seek_73 rfl (pc' := 75) rfl ?_
            refine g_iconst (v := nI 4) h dX4_seek_75 (by decide) (pc' := 76) rfl ?_
            refine g_iremN h dX4_seek_76 (by omega) (by omega) (by omega) (pc' := 77) rfl ?_
            refine as_20 (j := i + 2 - t - 1) h dX4_seek_77 rfl (by omega) (pc' := 78) rfl ?_
            rw [upd_AN (r := rwf (skC debts m w (i + 2) c (skO debts m w (0, 0, ro, r) i)).2.2.2 c (i + 2) t) (k := i + 2 - t - 1) (v := (lf c t) % 4)]
            refine g_iload h dX4_seek_78 rfl (pc' := 80) rfl ?_
            refine g_iconst (v := nI 4) h dX4_seek_80 (by decide) (pc' := 81) rfl ?_
            refine g_idivN h dX4_seek_81 (by omega) (by omega) (by omega) (pc' := 82) rfl ?_
            refine g_istore5 h dX4_seek_82 rfl (by decide) (pc' := 84) rfl ?_
            refine g_iinc6 (v := kk (i + 2 - t - 1)) h dX4_seek_84 rfl (kkdec _) (by decide) (pc' := 87) rfl ?_
            refine g_goto (pc' := 62) h dX4_seek_87 (by decide) ?_
            exact GG.castW ih62 ⟨rfl, rfl, rfl, rfl, rfl, rfl, rfl, trivial⟩ rfl rfl
      · skip
        refine g_bipush (v := nI 64) h dX4_seek_35 (by decide) (pc' := 37) rfl ?_
        refine g_goto (pc' := 43) h dX4_seek_37 (by decide) ?_
        refine g_istore3 h dX4_seek_43 rfl (by decide) (pc' := 44) rfl ?_
        refine g_iconst (v := nI 0) h dX4_seek_44 (by decide) (pc' := 45) rfl ?_
        refine g_istore4 h dX4_seek_45 rfl (by decide) (pc' := 47) rfl ?_
        refine GG.castW (lp (P := fun c => GG Z X 47 [some (.ref (Z.2.2 10)), some (.int w), some (.int (nI (i + 2))), some (.int (nI 64)), some (.int (nI c)), none, none] [] (wR Z (nI m) toll paid cash debts fallen rounds shares under table right tried falls (nI ((skC debts m w (i + 2) c (skO debts m w (0, 0, ro, r) i)).2.1)) (fun q => nI (((skC debts m w (i + 2) c (skO debts m w (0, 0, ro, r) i)).2.2.1) q)) (fun q => nI (((skC debts m w (i + 2) c (skO debts m w (0, 0, ro, r) i)).2.2.2) q)) (nI ((skC debts m w (i + 2) c (skO debts m w (0, 0, ro, r) i)).1)) hh)) 64 ?_ ?_) ⟨rfl, rfl, rfl, rfl, rfl, trivial⟩ rfl rfl
        · skip
          refine g_iload h dX4_seek_47 rfl (pc' := 49) rfl ?_
          refine g_iload_n (i := 3) h dX4_seek_49 rfl rfl (pc' := 50) rfl ?_
          refine g_icmp_geT (tg := 156) h dX4_seek_50 (by decide) (Int32.le_refl _) ?_
          refine g_iinc2 (v := nI (i + 2 + 1)) h dX4_seek_156 rfl (inc1 (i + 2)) (by decide) (pc' := 159) rfl ?_
          refine g_goto (pc' := 12) h dX4_seek_159 (by decide) ?_
          exact GG.castW ih12 ⟨rfl, rfl, rfl, trivial⟩ rfl (by simp only [skO, aln, if_neg c1, if_pos c2])
        · intro c hc ih47
          refine g_iload h dX4_seek_47 rfl (pc' := 49) rfl ?_
          refine g_iload_n (i := 3) h dX4_seek_49 rfl rfl (pc' := 50) rfl ?_
          refine g_icmp_geF (tg := 156) h dX4_seek_50 (by decide) (pc' := 53) rfl (nI_ge hc (by omega)) ?_
          refine g_iload h dX4_seek_53 rfl (pc' := 55) rfl ?_
          refine g_istore5 h dX4_seek_55 rfl (by decide) (pc' := 57) rfl ?_
          refine g_iload_n (i := 2) h dX4_seek_57 rfl rfl (pc' := 58) rfl ?_
          refine g_iconst (v := nI 1) h dX4_seek_58 (by decide) (pc' := 59) rfl ?_
          refine g_isubN h dX4_seek_59 (by omega) (pc' := 60) rfl ?_
          refine g_istore6 h dX4_seek_60 rfl (by decide) (pc' := 62) rfl ?_
          refine GG.castW (lp (P := fun t => GG Z X 62 [some (.ref (Z.2.2 10)), some (.int w), some (.int (nI (i + 2))), some (.int (nI 64)), some (.int (nI c)), some (.int (nI (lf c t))), some (.int (kk (i + 2 - t)))] [] (wR Z (nI m) toll paid cash debts fallen rounds shares under table right tried falls (nI ((skC debts m w (i + 2) c (skO debts m w (0, 0, ro, r) i)).2.1)) (fun q => nI (((skC debts m w (i + 2) c (skO debts m w (0, 0, ro, r) i)).2.2.1) q)) (fun q => nI ((rwf (skC debts m w (i + 2) c (skO debts m w (0, 0, ro, r) i)).2.2.2 c (i + 2) t) q)) (nI ((skC debts m w (i + 2) c (skO debts m w (0, 0, ro, r) i)).1)) hh)) (i + 2) ?_ ?_) ⟨rfl, rfl, rfl, rfl, rfl, rfl, rfl, trivial⟩ rfl rfl
          · skip
            refine g_iload h dX4_seek_62 rfl (pc' := 64) rfl ?_
            refine g_if_ltT (tg := 90) h dX4_seek_64 (by decide) (by rw [Nat.sub_self]; decide) ?_
            refine g_aload_n (i := 0) h dX4_seek_90 rfl rfl (pc' := 91) rfl ?_
            refine g_iload_n (i := 2) h dX4_seek_91 rfl rfl (pc' := 92) rfl ?_
            refine g_callV1 (q0 := 0) h dX4_seek_92 cf_X4_114 (M_X4_isRing (s := i + 2) (by omega) (by omega) (fun q hq => rwf_lt _ (Nat.le_refl _) q (by omega) hq)) rfl rfl rfl rfl (by decide) rfl (Nat.le_of_ble_eq_true rfl) (pc' := 95) rfl ?_
            refine g_if_eq (tg := 150) h dX4_seek_95 (by decide) (pc' := 98) rfl (fun c3 => ?_) (fun c3 => ?_)
            · skip
              refine g_iinc4 (v := nI (c + 1)) h dX4_seek_150 rfl (inc1 c) (by decide) (pc' := 153) rfl ?_
              refine g_goto (pc' := 47) h dX4_seek_153 (by decide) ?_
              exact GG.castW ih47 ⟨rfl, rfl, rfl, rfl, rfl, trivial⟩ rfl (by simp only [skC, skS, if_neg c1, if_pos c2, if_pos c3])
            · skip
              refine g_aload_n (i := 0) h dX4_seek_98 rfl rfl (pc' := 99) rfl ?_
              refine gf_X4_108 h dX4_seek_99 (pc' := 102) rfl ?_
              refine g_iload_n (i := 1) h dX4_seek_102 rfl rfl (pc' := 103) rfl ?_
              refine g_icmp_ne (tg := 140) h dX4_seek_103 (by decide) (pc' := 106) rfl (fun c4 => ?_) (fun c4 => ?_)
              · skip
                refine g_aload_n (i := 0) h dX4_seek_140 rfl rfl (pc' := 141) rfl ?_
                refine g_dupR h dX4_seek_141 (pc' := 142) rfl ?_
                refine gf_X4_108 h dX4_seek_142 (pc' := 145) rfl ?_
                refine g_iconst (v := nI 1) h dX4_seek_145 (by decide) (pc' := 146) rfl ?_
                refine g_iaddN h dX4_seek_146 (pc' := 147) rfl ?_
                refine pf_X4_108 h dX4_seek_147 (pc' := 150) rfl ?_
                refine g_iinc4 (v := nI (c + 1)) h dX4_seek_150 rfl (inc1 c) (by decide) (pc' := 153) rfl ?_
                refine g_goto (pc' := 47) h dX4_seek_153 (by decide) ?_
                exact GG.castW ih47 ⟨rfl, rfl, rfl, rfl, rfl, trivial⟩ rfl (by simp only [skC, skS, if_neg c1, if_pos c2, if_neg c3, if_neg c4])
              · skip
                refine g_aload_n (i := 0) h dX4_seek_106 rfl rfl (pc' := 107) rfl ?_
                refine g_iload_n (i := 2) h dX4_seek_107 rfl rfl (pc' := 108) rfl ?_
                refine pf_X4_111 h dX4_seek_108 (pc' := 111) rfl ?_
                refine g_iconst (v := nI 0) h dX4_seek_111 (by decide) (pc' := 112) rfl ?_
                refine g_istore6 h dX4_seek_112 rfl (by decide) (pc' := 114) rfl ?_
                refine GG.castW (lp (P := fun u => GG Z X 114 [some (.ref (Z.2.2 10)), some (.int w), some (.int (nI (i + 2))), some (.int (nI 64)), some (.int (nI c)), none, some (.int (nI u))] [] (wR Z (nI m) toll paid cash debts fallen rounds shares under table right tried falls (nI (i + 2)) (fun q => nI ((cpf ((skC debts m w (i + 2) c (skO debts m w (0, 0, ro, r) i)).2.2.1) (rwf (skC debts m w (i + 2) c (skO debts m w (0, 0, ro, r) i)).2.2.2 c (i + 2) (i + 2)) u) q)) (fun q => nI ((rwf (skC debts m w (i + 2) c (skO debts m w (0, 0, ro, r) i)).2.2.2 c (i + 2) (i + 2)) q)) (nI ((skC debts m w (i + 2) c (skO debts m w (0, 0, ro, r) i)).1)) hh)) (i + 2) ?_ ?_) ⟨rfl, rfl, rfl, rfl, rfl, rfl, trivial⟩ rfl rfl
                · skip
                  refine g_iload h dX4_seek_114 rfl (pc' := 116) rfl ?_
                  refine g_iload_n (i := 2) h dX4_seek_116 rfl rfl (pc' := 117) rfl ?_
                  refine g_icmp_geT (tg := 140) h dX4_seek_117 (by decide) (Int32.le_refl _) ?_
                  refine g_aload_n (i := 0) h dX4_seek_140 rfl rfl (pc' := 141) rfl ?_
                  refine g_dupR h dX4_seek_141 (pc' := 142) rfl ?_
                  refine gf_X4_108 h dX4_seek_142 (pc' := 145) rfl ?_
                  refine g_iconst (v := nI 1) h dX4_seek_145 (by decide) (pc' := 146) rfl ?_
                  refine g_iaddN h dX4_seek_146 (pc' := 147) rfl ?_
                  refine pf_X4_108 h dX4_seek_147 (pc' := 150) rfl ?_
                  refine g_iinc4 (v := nI (c + 1)) h dX4_seek_150 rfl (inc1 c) (by decide) (pc' := 153) rfl ?_
                  refine g_goto (pc' := 47) h dX4_seek_153 (by decide) ?_
                  exact GG.castW ih47 ⟨rfl, rfl, rfl, rfl, rfl, trivial⟩ rfl (by simp only [skC, skS, if_neg c1, if_pos c2, if_neg c3, if_pos c4])
                · intro u hu ih114
                  refine g_iload h dX4_seek_114 rfl (pc' := 116) rfl ?_
                  refine g_iload_n (i := 2) h dX4_seek_116 rfl rfl (pc' := 117) rfl ?_
                  refine g_icmp_geF (tg := 140) h dX4_seek_117 (by decide) (pc' := 120) rfl (nI_ge hu (by omega)) ?_
                  refine g_aload_n (i := 0) h dX4_seek_120 rfl rfl (pc' := 121) rfl ?_
                  refine gf_X4_40 h dX4_seek_121 (pc' := 124) rfl ?_
                  refine g_iload h dX4_seek_124 rfl (pc' := 126) rfl ?_
                  refine g_aload_n (i := 0) h dX4_seek_126 rfl rfl (pc' := 127) rfl ?_
                  refine gf_X4_43 h dX4_seek_127 (pc' := 130) rfl ?_
                  refine g_iload h dX4_seek_130 rfl (pc' := 132) rfl ?_
                  refine al_20 (j := u) h dX4_seek_132 rfl (by omega) (pc' := 133) rfl ?_
                  refine as_19 (j := u) h dX4_seek_133 rfl (by omega) (pc' := 134) rfl ?_
                  rw [upd_AN (r := cpf ((skC debts m w (i + 2) c (skO debts m w (0, 0, ro, r) i)).2.2.1) (rwf (skC debts m w (i + 2) c (skO debts m w (0, 0, ro, r) i)).2.2.2 c (i + 2) (i + 2)) u) (k := u) (v := (rwf (skC debts m w (i + 2) c (skO debts m w (0, 0, ro, r) i)).2.2.2 c (i + 2) (i + 2)) u)]
                  refine g_iinc6 (v := nI (u + 1)) h dX4_seek_134 rfl (inc1 u) (by decide) (pc' := 137) rfl ?_
                  refine g_goto (pc' := 114) h dX4_seek_137 (by decide) ?_
                  exact GG.castW ih114 ⟨rfl, rfl, rfl, rfl, rfl, rfl, trivial⟩ rfl rfl
          · intro t ht ih62
            rw [kkpos ht]; have hlf := lf_le c t
            refine g_iload h dX4_seek_62 rfl (pc' := 64) rfl ?_
            refine g_if_ltF (tg := 90) h dX4_seek_64 (by decide) (pc' := 67) rfl (nI_pos (by omega)) ?_
            refine g_aload_n (i := 0) h dX4_seek_67 rfl rfl (pc' := 68) rfl ?_
            refine gf_X4_43 h dX4_seek_68 (pc' := 71) rfl ?_
            refine g_iload h dX4_seek_71 rfl (pc' := 73) rfl ?_
            refine g_iload h dX4_seek_73 rfl (pc' := 75) rfl ?_
            refine g_iconst (v := nI 4) h dX4_seek_75 (by decide) (pc' := 76) rfl ?_
            refine g_iremN h dX4_seek_76 (by omega) (by omega) (by omega) (pc' := 77) rfl ?_
            refine as_20 (j := i + 2 - t - 1) h dX4_seek_77 rfl (by omega) (pc' := 78) rfl ?_
            rw [upd_AN (r := rwf (skC debts m w (i + 2) c (skO debts m w (0, 0, ro, r) i)).2.2.2 c (i + 2) t) (k := i + 2 - t - 1) (v := (lf c t) % 4)]
            refine g_iload h dX4_seek_78 rfl (pc' := 80) rfl ?_
            refine g_iconst (v := nI 4) h dX4_seek_80 (by decide) (pc' := 81) rfl ?_
            refine g_idivN h dX4_seek_81 (by omega) (by omega) (by omega) (pc' := 82) rfl ?_
            refine g_istore5 h dX4_seek_82 rfl (by decide) (pc' := 84) rfl ?_
            refine g_iinc6 (v := kk (i + 2 - t - 1)) h dX4_seek_84 rfl (kkdec _) (by decide) (pc' := 87) rfl ?_
            refine g_goto (pc' := 62) h dX4_seek_87 (by decide) ?_
            exact GG.castW ih62 ⟨rfl, rfl, rfl, rfl, rfl, rfl, rfl, trivial⟩ rfl rfl
    · skip
      refine g_bipush (v := nI 16) h dX4_seek_25 (by decide) (pc' := 27) rfl ?_
      refine g_goto (pc' := 43) h dX4_seek_27 (by decide) ?_
      refine g_istore3 h dX4_seek_43 rfl (by decide) (pc' := 44) rfl ?_
      refine g_iconst (v := nI 0) h dX4_seek_44 (by decide) (pc' := 45) rfl ?_
      refine g_istore4 h dX4_seek_45 rfl (by decide) (pc' := 47) rfl ?_
      refine GG.castW (lp (P := fun c => GG Z X 47 [some (.ref (Z.2.2 10)), some (.int w), some (.int (nI (i + 2))), some (.int (nI 16)), some (.int (nI c)), none, none] [] (wR Z (nI m) toll paid cash debts fallen rounds shares under table right tried falls (nI ((skC debts m w (i + 2) c (skO debts m w (0, 0, ro, r) i)).2.1)) (fun q => nI (((skC debts m w (i + 2) c (skO debts m w (0, 0, ro, r) i)).2.2.1) q)) (fun q => nI (((skC debts m w (i + 2) c (skO debts m w (0, 0, ro, r) i)).2.2.2) q)) (nI ((skC debts m w (i + 2) c (skO debts m w (0, 0, ro, r) i)).1)) hh)) 16 ?_ ?_) ⟨rfl, rfl, rfl, rfl, rfl, trivial⟩ rfl rfl
      · skip
        refine g_iload h dX4_seek_47 rfl (pc' := 49) rfl ?_
        refine g_iload_n (i := 3) h dX4_seek_49 rfl rfl (pc' := 50) rfl ?_
        refine g_icmp_geT (tg := 156) h dX4_seek_50 (by decide) (Int32.le_refl _) ?_
        refine g_iinc2 (v := nI (i + 2 + 1)) h dX4_seek_156 rfl (inc1 (i + 2)) (by decide) (pc' := 159) rfl ?_
        refine g_goto (pc' := 12) h dX4_seek_159 (by decide) ?_
        exact GG.castW ih12 ⟨rfl, rfl, rfl, trivial⟩ rfl (by simp only [skO, aln, if_pos c1])
      · intro c hc ih47
        refine g_iload h dX4_seek_47 rfl (pc' := 49) rfl ?_
        refine g_iload_n (i := 3) h dX4_seek_49 rfl rfl (pc' := 50) rfl ?_
        refine g_icmp_geF (tg := 156) h dX4_seek_50 (by decide) (pc' := 53) rfl (nI_ge hc (by omega)) ?_
        refine g_iload h dX4_seek_53 rfl (pc' := 55) rfl ?_
        refine g_istore5 h dX4_seek_55 rfl (by decide) (pc' := 57) rfl ?_
        refine g_iload_n (i := 2) h dX4_seek_57 rfl rfl (pc' := 58) rfl ?_
        refine g_iconst (v := nI 1) h dX4_seek_58 (by decide) (pc' := 59) rfl ?_
        refine g_isubN h dX4_seek_59 (by omega) (pc' := 60) rfl ?_
        refine g_istore6 h dX4_seek_60 rfl (by decide) (pc' := 62) rfl ?_
        refine GG.castW (lp (P := fun t => GG Z X 62 [some (.ref (Z.2.2 10)), some (.int w), some (.int (nI (i + 2))), some (.int (nI 16)), some (.int (nI c)), some (.int (nI (lf c t))), some (.int (kk (i + 2 - t)))] [] (wR Z (nI m) toll paid cash debts fallen rounds shares under table right tried falls (nI ((skC debts m w (i + 2) c (skO debts m w (0, 0, ro, r) i)).2.1)) (fun q => nI (((skC debts m w (i + 2) c (skO debts m w (0, 0, ro, r) i)).2.2.1) q)) (fun q => nI ((rwf (skC debts m w (i + 2) c (skO debts m w (0, 0, ro, r) i)).2.2.2 c (i + 2) t) q)) (nI ((skC debts m w (i + 2) c (skO debts m w (0, 0, ro, r) i)).1)) hh)) (i + 2) ?_ ?_) ⟨rfl, rfl, rfl, rfl, rfl, rfl, rfl, trivial⟩ rfl rfl
        · skip
          refine g_iload h dX4_seek_62 rfl (pc' := 64) rfl ?_
          refine g_if_ltT (tg := 90) h dX4_seek_64 (by decide) (by rw [Nat.sub_self]; decide) ?_
          refine g_aload_n (i := 0) h dX4_seek_90 rfl rfl (pc' := 91) rfl ?_
          refine g_iload_n (i := 2) h dX4_seek_91 rfl rfl (pc' := 92) rfl ?_
          refine g_callV1 (q0 := 0) h dX4_seek_92 cf_X4_114 (M_X4_isRing (s := i + 2) (by omega) (by omega) (fun q hq => rwf_lt _ (Nat.le_refl _) q (by omega) hq)) rfl rfl rfl rfl (by decide) rfl (Nat.le_of_ble_eq_true rfl) (pc' := 95) rfl ?_
          refine g_if_eq (tg := 150) h dX4_seek_95 (by decide) (pc' := 98) rfl (fun c2 => ?_) (fun c2 => ?_)
          · skip
            refine g_iinc4 (v := nI (c + 1)) h dX4_seek_150 rfl (inc1 c) (by decide) (pc' := 153) rfl ?_
            refine g_goto (pc' := 47) h dX4_seek_153 (by decide) ?_
            exact GG.castW ih47 ⟨rfl, rfl, rfl, rfl, rfl, trivial⟩ rfl (by simp only [skC, skS, if_pos c1, if_pos c2])
          · skip
            refine g_aload_n (i := 0) h dX4_seek_98 rfl rfl (pc' := 99) rfl ?_
            refine gf_X4_108 h dX4_seek_99 (pc' := 102) rfl ?_
            refine g_iload_n (i := 1) h dX4_seek_102 rfl rfl (pc' := 103) rfl ?_
            refine g_icmp_ne (tg := 140) h dX4_seek_103 (by decide) (pc' := 106) rfl (fun c3 => ?_) (fun c3 => ?_)
            · skip
              refine g_aload_n (i := 0) h dX4_seek_140 rfl rfl (pc' := 141) rfl ?_
              refine g_dupR h dX4_seek_141 (pc' := 142) rfl ?_
              refine gf_X4_108 h dX4_seek_142 (pc' := 145) rfl ?_
              refine g_iconst (v := nI 1) h dX4_seek_145 (by decide) (pc' := 146) rfl ?_
              refine g_iaddN h dX4_seek_146 (pc' := 147) rfl ?_
              refine pf_X4_108 h dX4_seek_147 (pc' := 150) rfl ?_
              refine g_iinc4 (v := nI (c + 1)) h dX4_seek_150 rfl (inc1 c) (by decide) (pc' := 153) rfl ?_
              refine g_goto (pc' := 47) h dX4_seek_153 (by decide) ?_
              exact GG.castW ih47 ⟨rfl, rfl, rfl, rfl, rfl, trivial⟩ rfl (by simp only [skC, skS, if_pos c1, if_neg c2, if_neg c3])
            · skip
              refine g_aload_n (i := 0) h dX4_seek_106 rfl rfl (pc' := 107) rfl ?_
              refine g_iload_n (i := 2) h dX4_seek_107 rfl rfl (pc' := 108) rfl ?_
              refine pf_X4_111 h dX4_seek_108 (pc' := 111) rfl ?_
              refine g_iconst (v := nI 0) h dX4_seek_111 (by decide) (pc' := 112) rfl ?_
              refine g_istore6 h dX4_seek_112 rfl (by decide) (pc' := 114) rfl ?_
              refine GG.castW (lp (P := fun u => GG Z X 114 [some (.ref (Z.2.2 10)), some (.int w), some (.int (nI (i + 2))), some (.int (nI 16)), some (.int (nI c)), none, some (.int (nI u))] [] (wR Z (nI m) toll paid cash debts fallen rounds shares under table right tried falls (nI (i + 2)) (fun q => nI ((cpf ((skC debts m w (i + 2) c (skO debts m w (0, 0, ro, r) i)).2.2.1) (rwf (skC debts m w (i + 2) c (skO debts m w (0, 0, ro, r) i)).2.2.2 c (i + 2) (i + 2)) u) q)) (fun q => nI ((rwf (skC debts m w (i + 2) c (skO debts m w (0, 0, ro, r) i)).2.2.2 c (i + 2) (i + 2)) q)) (nI ((skC debts m w (i + 2) c (skO debts m w (0, 0, ro, r) i)).1)) hh)) (i + 2) ?_ ?_) ⟨rfl, rfl, rfl, rfl, rfl, rfl, trivial⟩ rfl rfl
              · skip
                refine g_iload h dX4_seek_114 rfl (pc' := 116) rfl ?_
                refine g_iload_n (i := 2) h dX4_seek_116 rfl rfl (pc' := 117) rfl ?_
                refine g_icmp_geT (tg := 140) h dX4_seek_117 (by decide) (Int32.le_refl _) ?_
                refine g_aload_n (i := 0) h dX4_seek_140 rfl rfl (pc' := 141) rfl ?_
                refine g_dupR h dX4_seek_141 (pc' := 142) rfl ?_
                refine gf_X4_108 h dX4_seek_142 (pc' := 145) rfl ?_
                refine g_iconst (v := nI 1) h dX4_seek_145 (by decide) (pc' := 146) rfl ?_
                refine g_iaddN h dX4_seek_146 (pc' := 147) rfl ?_
                refine pf_X4_108 h dX4_seek_147 (pc' := 150) rfl ?_
                refine g_iinc4 (v := nI (c + 1)) h dX4_seek_150 rfl (inc1 c) (by decide) (pc' := 153) rfl ?_
                refine g_goto (pc' := 47) h dX4_seek_153 (by decide) ?_
                exact GG.castW ih47 ⟨rfl, rfl, rfl, rfl, rfl, trivial⟩ rfl (by simp only [skC, skS, if_pos c1, if_neg c2, if_pos c3])
              · intro u hu ih114
                refine g_iload h dX4_seek_114 rfl (pc' := 116) rfl ?_
                refine g_iload_n (i := 2) h dX4_seek_116 rfl rfl (pc' := 117) rfl ?_
                refine g_icmp_geF (tg := 140) h dX4_seek_117 (by decide) (pc' := 120) rfl (nI_ge hu (by omega)) ?_
                refine g_aload_n (i := 0) h dX4_seek_120 rfl rfl (pc' := 121) rfl ?_
                refine gf_X4_40 h dX4_seek_121 (pc' := 124) rfl ?_
                refine g_iload h dX4_seek_124 rfl (pc' := 126) rfl ?_
                refine g_aload_n (i := 0) h dX4_seek_126 rfl rfl (pc' := 127) rfl ?_
                refine gf_X4_43 h dX4_seek_127 (pc' := 130) rfl ?_
                refine g_iload h dX4_seek_130 rfl (pc' := 132) rfl ?_
                refine al_20 (j := u) h dX4_seek_132 rfl (by omega) (pc' := 133) rfl ?_
                refine as_19 (j := u) h dX4_seek_133 rfl (by omega) (pc' := 134) rfl ?_
                rw [upd_AN (r := cpf ((skC debts m w (i + 2) c (skO debts m w (0, 0, ro, r) i)).2.2.1) (rwf (skC debts m w (i + 2) c (skO debts m w (0, 0, ro, r) i)).2.2.2 c (i + 2) (i + 2)) u) (k := u) (v := (rwf (skC debts m w (i + 2) c (skO debts m w (0, 0, ro, r) i)).2.2.2 c (i + 2) (i + 2)) u)]
                refine g_iinc6 (v := nI (u + 1)) h dX4_seek_134 rfl (inc1 u) (by decide) (pc' := 137) rfl ?_
                refine g_goto (pc' := 114) h dX4_seek_137 (by decide) ?_
                exact GG.castW ih114 ⟨rfl, rfl, rfl, rfl, rfl, rfl, trivial⟩ rfl rfl
        · intro t ht ih62
          rw [kkpos ht]; have hlf := lf_le c t
          refine g_iload h dX4_seek_62 rfl (pc' := 64) rfl ?_
          refine g_if_ltF (tg := 90) h dX4_seek_64 (by decide) (pc' := 67) rfl (nI_pos (by omega)) ?_
          refine g_aload_n (i := 0) h dX4_seek_67 rfl rfl (pc' := 68) rfl ?_
          refine gf_X4_43 h dX4_seek_68 (pc' := 71) rfl ?_
          refine g_iload h dX4_seek_71 rfl (pc' := 73) rfl ?_
          refine g_iload h dX4_seek_73 rfl (pc' := 75) rfl ?_
          refine g_iconst (v := nI 4) h dX4_seek_75 (by decide) (pc' := 76) rfl ?_
          refine g_iremN h dX4_seek_76 (by omega) (by omega) (by omega) (pc' := 77) rfl ?_
          refine as_20 (j := i + 2 - t - 1) h dX4_seek_77 rfl (by omega) (pc' := 78) rfl ?_
          rw [upd_AN (r := rwf (skC debts m w (i + 2) c (skO debts m w (0, 0, ro, r) i)).2.2.2 c (i + 2) t) (k := i + 2 - t - 1) (v := (lf c t) % 4)]
          refine g_iload h dX4_seek_78 rfl (pc' := 80) rfl ?_
          refine g_iconst (v := nI 4) h dX4_seek_80 (by decide) (pc' := 81) rfl ?_
          refine g_idivN h dX4_seek_81 (by omega) (by omega) (by omega) (pc' := 82) rfl ?_
          refine g_istore5 h dX4_seek_82 rfl (by decide) (pc' := 84) rfl ?_
          refine g_iinc6 (v := kk (i + 2 - t - 1)) h dX4_seek_84 rfl (kkdec _) (by decide) (pc' := 87) rfl ?_
          refine g_goto (pc' := 62) h dX4_seek_87 (by decide) ?_
          exact GG.castW ih62 ⟨rfl, rfl, rfl, rfl, rfl, rfl, rfl, trivial⟩ rfl rfl
set_option maxRecDepth 20000 in
set_option maxHeartbeats 4000000 in
theorem R_rings {Z : ZT} {m : Nat} {toll : Int32} {paid : Int64} {cash : Nat → Int64} {debts : Nat → Int32} {fallen : Nat → Int32} {rounds : Int32} {shares : Nat → Int64} {under : Int64} {table : Nat → Int64} {right : Nat → Int64} {tried : Nat → Int64} {falls : Nat → Int32} {rsize : Int32} {ro : Nat → Nat} {r : Nat → Nat} {found : Int32} {hh : Int64}   (g0 : m ≤ 4) (g1 : 1 ≤ m) : MM Z yX4_rings cX4_rings 1 (some .int) 2 [.ref (Z.2.2 10)] (wR Z (nI m) toll paid cash debts fallen rounds shares under table right tried falls rsize (fun q => nI (ro q)) (fun q => nI (r q)) found hh) (some (.int (nI ((skF debts m (-1) ro r).1)))) (wR Z (nI m) toll paid cash debts fallen rounds shares under table right tried falls (nI ((skF debts m (-1) ro r).2.1)) (fun q => nI (((skF debts m (-1) ro r).2.2.1) q)) (fun q => nI (((skF debts m (-1) ro r).2.2.2) q)) (nI ((skF debts m (-1) ro r).1)) hh) := by
  refine MM.intro (by decide) [some (.ref (Z.2.2 10))] rfl (Nat.le_of_ble_eq_true rfl) (fun X (h : OK Z X cX4_rings RX4 1 (rmd 2)) hr => ?_)
  refine g_aload_n (i := 0) h dX4_rings_0 rfl rfl (pc' := 1) rfl ?_
  refine g_iconst (v := (-1)) h dX4_rings_1 (by decide) (pc' := 2) rfl ?_
  refine g_callV0 (q0 := 0) h dX4_rings_2 cf_X4_117 (M_X4_seek (w := (-1)) (by omega) (by omega)) rfl rfl rfl rfl (by decide) rfl (Nat.le_of_ble_eq_true rfl) (pc' := 5) rfl ?_
  refine g_aload_n (i := 0) h dX4_rings_5 rfl rfl (pc' := 6) rfl ?_
  refine gf_X4_108 h dX4_rings_6 (pc' := 9) rfl ?_
  exact g_iret h hr dX4_rings_9 rfl rfl
set_option maxRecDepth 20000 in
set_option maxHeartbeats 4000000 in
theorem R_ring_U {Z : ZT} {m : Nat} {toll : Int32} {paid : Int64} {cash : Nat → Int64} {debts : Nat → Int32} {fallen : Nat → Int32} {rounds : Int32} {shares : Nat → Int64} {under : Int64} {table : Nat → Int64} {right : Nat → Int64} {tried : Nat → Int64} {falls : Nat → Int32} {rsize : Int32} {ro : Nat → Nat} {r : Nat → Nat} {found : Int32} {hh : Int64} {w : Int32}  (g0 : w < 0) : MM Z yX4_ring cX4_ring 4 (some .int) 2 [.ref (Z.2.2 10), .int w] (wR Z (nI m) toll paid cash debts fallen rounds shares under table right tried falls rsize (fun q => nI (ro q)) (fun q => nI (r q)) found hh) (some (.int (-1))) (wR Z (nI m) toll paid cash debts fallen rounds shares under table right tried falls rsize (fun q => nI (ro q)) (fun q => nI (r q)) found hh) := by
  refine MM.intro (by decide) [some (.ref (Z.2.2 10)), some (.int w), none, none] rfl (Nat.le_of_ble_eq_true rfl) (fun X (h : OK Z X cX4_ring RX4 4 (rmd 2)) hr => ?_)
  refine g_iload_n (i := 1) h dX4_ring_0 rfl rfl (pc' := 1) rfl ?_
  refine g_if_geF (tg := 6) h dX4_ring_1 (by decide) (pc' := 4) rfl (fun q => by have := Int32.not_le.mpr g0; exact this q) ?_
  refine g_iconst (v := (-1)) h dX4_ring_4 (by decide) (pc' := 5) rfl ?_
  exact g_iret h hr dX4_ring_5 rfl rfl
set_option maxRecDepth 20000 in
set_option maxHeartbeats 4000000 in
theorem R_ring {Z : ZT} {m : Nat} {toll : Int32} {paid : Int64} {cash : Nat → Int64} {debts : Nat → Int32} {fallen : Nat → Int32} {rounds : Int32} {shares : Nat → Int64} {under : Int64} {table : Nat → Int64} {right : Nat → Int64} {tried : Nat → Int64} {falls : Nat → Int32} {rsize : Int32} {ro : Nat → Nat} {r : Nat → Nat} {found : Int32} {hh : Int64} {w : Int32}  (g0 : m ≤ 4) (g1 : 1 ≤ m) (g2 : 0 ≤ w) : MM Z yX4_ring cX4_ring 4 (some .int) 2 [.ref (Z.2.2 10), .int w] (wR Z (nI m) toll paid cash debts fallen rounds shares under table right tried falls rsize (fun q => nI (ro q)) (fun q => nI (r q)) found hh) (some (.int (if nI (skF debts m w ro r).2.1 = 0 then (-1) else nI (tl (skF debts m w ro r).2.2.1 (skF debts m w ro r).2.1)))) (wR Z (nI m) toll paid cash debts fallen rounds shares under table right tried falls (nI (((skF debts m w ro r)).2.1)) (fun q => nI ((((skF debts m w ro r)).2.2.1) q)) (fun q => nI ((((skF debts m w ro r)).2.2.2) q)) (nI (((skF debts m w ro r)).1)) hh) := by
  refine MM.intro (by decide) [some (.ref (Z.2.2 10)), some (.int w), none, none] rfl (Nat.le_of_ble_eq_true rfl) (fun X (h : OK Z X cX4_ring RX4 4 (rmd 2)) hr => ?_)
  refine g_iload_n (i := 1) h dX4_ring_0 rfl rfl (pc' := 1) rfl ?_
  refine g_if_geT (tg := 6) h dX4_ring_1 (by decide) g2 ?_
  refine g_aload_n (i := 0) h dX4_ring_6 rfl rfl (pc' := 7) rfl ?_
  refine g_iload_n (i := 1) h dX4_ring_7 rfl rfl (pc' := 8) rfl ?_
  refine g_callV0 (q0 := 0) h dX4_ring_8 cf_X4_117 (M_X4_seek (w := w) (by omega) (by omega)) rfl rfl rfl rfl (by decide) rfl (Nat.le_of_ble_eq_true rfl) (pc' := 11) rfl ?_
  refine g_iconst (v := nI 0) h dX4_ring_11 (by decide) (pc' := 12) rfl ?_
  refine g_istore2 h dX4_ring_12 rfl (by decide) (pc' := 13) rfl ?_
  refine g_iconst (v := nI 0) h dX4_ring_13 (by decide) (pc' := 14) rfl ?_
  refine g_istore3 h dX4_ring_14 rfl (by decide) (pc' := 15) rfl ?_
  refine GG.castW (lp (P := fun i => GG Z X 15 [some (.ref (Z.2.2 10)), some (.int w), some (.int (nI (tl (skF debts m w ro r).2.2.1 i))), some (.int (nI i))] [] (wR Z (nI m) toll paid cash debts fallen rounds shares under table right tried falls (nI ((skF debts m w ro r).2.1)) (fun q => nI (((skF debts m w ro r).2.2.1) q)) (fun q => nI (((skF debts m w ro r).2.2.2) q)) (nI ((skF debts m w ro r).1)) hh)) ((skF debts m w ro r).2.1) ?_ ?_) ⟨rfl, rfl, rfl, rfl, trivial⟩ rfl rfl
  · skip
    have hz := (skF_G (debts := debts) (m := m) (w := w) (ro := ro) (r := r)).1
    refine g_iload_n (i := 3) h dX4_ring_15 rfl rfl (pc' := 16) rfl ?_
    refine g_aload_n (i := 0) h dX4_ring_16 rfl rfl (pc' := 17) rfl ?_
    refine gf_X4_111 h dX4_ring_17 (pc' := 20) rfl ?_
    refine g_icmp_geT (tg := 43) h dX4_ring_20 (by decide) (Int32.le_refl _) ?_
    refine g_aload_n (i := 0) h dX4_ring_43 rfl rfl (pc' := 44) rfl ?_
    refine gf_X4_111 h dX4_ring_44 (pc' := 47) rfl ?_
    refine g_if_ne (tg := 54) h dX4_ring_47 (by decide) (pc' := 50) rfl (fun c1 => ?_) (fun c1 => ?_)
    · skip
      refine g_iload_n (i := 2) h dX4_ring_54 rfl rfl (pc' := 55) rfl ?_
      exact g_iret h hr dX4_ring_55 (by first | rfl | simp only [if_neg c1] | simp [c1]) rfl
    · skip
      refine g_iconst (v := (-1)) h dX4_ring_50 (by decide) (pc' := 51) rfl ?_
      refine g_goto (pc' := 55) h dX4_ring_51 (by decide) ?_
      exact g_iret h hr dX4_ring_55 (by first | rfl | simp only [if_pos c1] | simp [c1]) rfl
  · intro i hi ih15
    have hz := (skF_G (debts := debts) (m := m) (w := w) (ro := ro) (r := r)).1
    refine g_iload_n (i := 3) h dX4_ring_15 rfl rfl (pc' := 16) rfl ?_
    refine g_aload_n (i := 0) h dX4_ring_16 rfl rfl (pc' := 17) rfl ?_
    refine gf_X4_111 h dX4_ring_17 (pc' := 20) rfl ?_
    refine g_icmp_geF (tg := 43) h dX4_ring_20 (by decide) (pc' := 23) rfl (nI_ge hi (by omega)) ?_
    refine g_bipush (v := nI 10) h dX4_ring_23 (by decide) (pc' := 25) rfl ?_
    refine g_iload_n (i := 2) h dX4_ring_25 rfl rfl (pc' := 26) rfl ?_
    refine g_imulN h dX4_ring_26 (pc' := 27) rfl ?_
    refine g_aload_n (i := 0) h dX4_ring_27 rfl rfl (pc' := 28) rfl ?_
    refine gf_X4_40 h dX4_ring_28 (pc' := 31) rfl ?_
    refine g_iload_n (i := 3) h dX4_ring_31 rfl rfl (pc' := 32) rfl ?_
    refine al_19 (j := i) h dX4_ring_32 rfl (by omega) (pc' := 33) rfl ?_
    refine g_iaddN h dX4_ring_33 (pc' := 34) rfl ?_
    refine g_iconst (v := nI 1) h dX4_ring_34 (by decide) (pc' := 35) rfl ?_
    refine g_iaddN h dX4_ring_35 (pc' := 36) rfl ?_
    refine g_istore2 h dX4_ring_36 rfl (by decide) (pc' := 37) rfl ?_
    refine g_iinc3 (v := nI (i + 1)) h dX4_ring_37 rfl (inc1 i) (by decide) (pc' := 40) rfl ?_
    refine g_goto (pc' := 15) h dX4_ring_40 (by decide) ?_
    exact GG.castW ih15 ⟨rfl, rfl, rfl, rfl, trivial⟩ rfl rfl
set_option maxRecDepth 20000 in
set_option maxHeartbeats 4000000 in
theorem M_X4_debtOf {Z : ZT} {n : Int32} {toll : Int32} {paid : Int64} {cash : Nat → Int64} {debts : Nat → Int32} {fallen : Nat → Int32} {rounds : Int32} {shares : Nat → Int64} {under : Int64} {table : Nat → Int64} {right : Nat → Int64} {tried : Nat → Int64} {falls : Nat → Int32} {z : Nat} {ro : Nat → Nat} {row : Nat → Int32} {found : Int32} {hh : Int64} {k : Nat}  (g0 : k < z) (g1 : z ≤ 4) : MM Z yX4_debtOf cX4_debtOf 2 (some .int) 0 [.ref (Z.2.2 10), .int (nI k)] (wR Z n toll paid cash debts fallen rounds shares under table right tried falls (nI z) (fun q => nI (ro q)) row found hh) (some (.int (nI (5 * ro k + ro (nx z k))))) (wR Z n toll paid cash debts fallen rounds shares under table right tried falls (nI z) (fun q => nI (ro q)) row found hh) := by
  refine MM.intro (by decide) [some (.ref (Z.2.2 10)), some (.int (nI k))] rfl (Nat.le_of_ble_eq_true rfl) (fun X (h : OK Z X cX4_debtOf RX4 2 (rmd 0)) hr => ?_)
  refine g_iconst (v := nI 5) h dX4_debtOf_0 (by decide) (pc' := 1) rfl ?_
  refine g_aload_n (i := 0) h dX4_debtOf_1 rfl rfl (pc' := 2) rfl ?_
  refine gf_X4_40 h dX4_debtOf_2 (pc' := 5) rfl ?_
  refine g_iload_n (i := 1) h dX4_debtOf_5 rfl rfl (pc' := 6) rfl ?_
  refine al_19 (j := k) h dX4_debtOf_6 rfl (by omega) (pc' := 7) rfl ?_
  refine g_imulN h dX4_debtOf_7 (pc' := 8) rfl ?_
  refine g_aload_n (i := 0) h dX4_debtOf_8 rfl rfl (pc' := 9) rfl ?_
  refine gf_X4_40 h dX4_debtOf_9 (pc' := 12) rfl ?_
  refine g_iload_n (i := 1) h dX4_debtOf_12 rfl rfl (pc' := 13) rfl ?_
  refine g_iconst (v := nI 1) h dX4_debtOf_13 (by decide) (pc' := 14) rfl ?_
  refine g_iaddN h dX4_debtOf_14 (pc' := 15) rfl ?_
  refine g_aload_n (i := 0) h dX4_debtOf_15 rfl rfl (pc' := 16) rfl ?_
  refine gf_X4_111 h dX4_debtOf_16 (pc' := 19) rfl ?_
  refine g_icmp_ne (tg := 26) h dX4_debtOf_19 (by decide) (pc' := 22) rfl (fun c1 => ?_) (fun c1 => ?_)
  · skip
    have hne : ¬ k + 1 = z := fun q => c1 (by rw [q])
    refine g_iload_n (i := 1) h dX4_debtOf_26 rfl rfl (pc' := 27) rfl ?_
    refine g_iconst (v := nI 1) h dX4_debtOf_27 (by decide) (pc' := 28) rfl ?_
    refine g_iaddN h dX4_debtOf_28 (pc' := 29) rfl ?_
    refine al_19 (j := k + 1) h dX4_debtOf_29 rfl (by omega) (pc' := 30) rfl ?_
    refine g_iaddN h dX4_debtOf_30 (pc' := 31) rfl ?_
    exact g_iret h hr dX4_debtOf_31 (by simp only [nx, if_neg c1]) rfl
  · skip
    refine g_iconst (v := nI 0) h dX4_debtOf_22 (by decide) (pc' := 23) rfl ?_
    refine g_goto (pc' := 29) h dX4_debtOf_23 (by decide) ?_
    refine al_19 (j := 0) h dX4_debtOf_29 rfl (by omega) (pc' := 30) rfl ?_
    refine g_iaddN h dX4_debtOf_30 (pc' := 31) rfl ?_
    exact g_iret h hr dX4_debtOf_31 (by simp only [nx, if_pos c1]) rfl
set_option maxRecDepth 20000 in
set_option maxHeartbeats 4000000 in
theorem M_X4_cancelOne {Z : ZT} {m : Nat} {toll : Int32} {paid : Int64} {cash : Nat → Int64} {debts : Nat → Int32} {fallen : Nat → Int32} {rounds : Int32} {shares : Nat → Int64} {under : Int64} {table : Nat → Int64} {right : Nat → Int64} {tried : Nat → Int64} {falls : Nat → Int32} {rsize : Int32} {ro : Nat → Nat} {r : Nat → Nat} {found : Int32} {hh : Int64}   (g0 : m ≤ 4) (g1 : 1 ≤ m) : MM Z yX4_cancelOne cX4_cancelOne 4 (some .int) 2 [.ref (Z.2.2 10)] (wR Z (nI m) toll paid cash debts fallen rounds shares under table right tried falls rsize (fun q => nI (ro q)) (fun q => nI (r q)) found hh) (some (.int (coL m (debts, ro, r)))) (wR Z (nI m) toll paid cash ((coN m (debts, ro, r)).1) fallen rounds shares under table right tried falls (nI ((skF debts m (nI 0) ro r).2.1)) (fun q => nI (((coN m (debts, ro, r)).2.1) q)) (fun q => nI (((coN m (debts, ro, r)).2.2) q)) (nI ((skF debts m (nI 0) ro r).1)) hh) := by
  refine MM.intro (by decide) [some (.ref (Z.2.2 10)), none, none, none] rfl (Nat.le_of_ble_eq_true rfl) (fun X (h : OK Z X cX4_cancelOne RX4 4 (rmd 2)) hr => ?_)
  refine g_aload_n (i := 0) h dX4_cancelOne_0 rfl rfl (pc' := 1) rfl ?_
  refine g_iconst (v := nI 0) h dX4_cancelOne_1 (by decide) (pc' := 2) rfl ?_
  refine g_callV0 (q0 := 0) h dX4_cancelOne_2 cf_X4_117 (M_X4_seek (w := nI 0) (by omega) (by omega)) rfl rfl rfl rfl (by decide) rfl (Nat.le_of_ble_eq_true rfl) (pc' := 5) rfl ?_
  refine g_iconst (v := nI 0) h dX4_cancelOne_5 (by decide) (pc' := 6) rfl ?_
  refine g_istore1 h dX4_cancelOne_6 rfl (by decide) (pc' := 7) rfl ?_
  refine g_iconst (v := nI 0) h dX4_cancelOne_7 (by decide) (pc' := 8) rfl ?_
  refine g_istore2 h dX4_cancelOne_8 rfl (by decide) (pc' := 9) rfl ?_
  refine GG.castW (lp (P := fun k => GG Z X 9 [some (.ref (Z.2.2 10)), some (.int (loR debts (skF debts m (nI 0) ro r).2.2.1 (skF debts m (nI 0) ro r).2.1 k)), some (.int (nI k)), none] [] (wR Z (nI m) toll paid cash debts fallen rounds shares under table right tried falls (nI ((skF debts m (nI 0) ro r).2.1)) (fun q => nI (((skF debts m (nI 0) ro r).2.2.1) q)) (fun q => nI (((skF debts m (nI 0) ro r).2.2.2) q)) (nI ((skF debts m (nI 0) ro r).1)) hh)) ((skF debts m (nI 0) ro r).2.1) ?_ ?_) ⟨rfl, rfl, rfl, trivial⟩ rfl rfl
  · skip
    have hz := (skF_G (debts := debts) (m := m) (w := (nI 0)) (ro := ro) (r := r)).1
    refine g_iload_n (i := 2) h dX4_cancelOne_9 rfl rfl (pc' := 10) rfl ?_
    refine g_aload_n (i := 0) h dX4_cancelOne_10 rfl rfl (pc' := 11) rfl ?_
    refine gf_X4_111 h dX4_cancelOne_11 (pc' := 14) rfl ?_
    refine g_icmp_geT (tg := 49) h dX4_cancelOne_14 (by decide) (Int32.le_refl _) ?_
    refine g_iconst (v := nI 0) h dX4_cancelOne_49 (by decide) (pc' := 50) rfl ?_
    refine g_istore2 h dX4_cancelOne_50 rfl (by decide) (pc' := 51) rfl ?_
    refine GG.castW (lp (P := fun k => GG Z X 51 [some (.ref (Z.2.2 10)), some (.int (loR debts (skF debts m (nI 0) ro r).2.2.1 (skF debts m (nI 0) ro r).2.1 (skF debts m (nI 0) ro r).2.1)), some (.int (nI k)), none] [] (wR Z (nI m) toll paid cash (dlR debts (skF debts m (nI 0) ro r).2.2.1 (skF debts m (nI 0) ro r).2.1 (loR debts (skF debts m (nI 0) ro r).2.2.1 (skF debts m (nI 0) ro r).2.1 (skF debts m (nI 0) ro r).2.1) k) fallen rounds shares under table right tried falls (nI ((skF debts m (nI 0) ro r).2.1)) (fun q => nI (((skF debts m (nI 0) ro r).2.2.1) q)) (fun q => nI (((skF debts m (nI 0) ro r).2.2.2) q)) (nI ((skF debts m (nI 0) ro r).1)) hh)) ((skF debts m (nI 0) ro r).2.1) ?_ ?_) ⟨rfl, rfl, rfl, trivial⟩ rfl rfl
    · skip
      have hz := (skF_G (debts := debts) (m := m) (w := (nI 0)) (ro := ro) (r := r)).1
      refine g_iload_n (i := 2) h dX4_cancelOne_51 rfl rfl (pc' := 52) rfl ?_
      refine g_aload_n (i := 0) h dX4_cancelOne_52 rfl rfl (pc' := 53) rfl ?_
      refine gf_X4_111 h dX4_cancelOne_53 (pc' := 56) rfl ?_
      refine g_icmp_geT (tg := 79) h dX4_cancelOne_56 (by decide) (Int32.le_refl _) ?_
      refine g_iload_n (i := 1) h dX4_cancelOne_79 rfl rfl (pc' := 80) rfl ?_
      exact g_iret h hr dX4_cancelOne_80 rfl rfl
    · intro k hk ih51
      have hz := (skF_G (debts := debts) (m := m) (w := (nI 0)) (ro := ro) (r := r)).1; have hcl := cel_lt hk (show (skF debts m (nI 0) ro r).2.1 ≤ 4 by omega) (skF_G (debts := debts) (m := m) (w := nI 0) (ro := ro) (r := r)).2
      refine g_iload_n (i := 2) h dX4_cancelOne_51 rfl rfl (pc' := 52) rfl ?_
      refine g_aload_n (i := 0) h dX4_cancelOne_52 rfl rfl (pc' := 53) rfl ?_
      refine gf_X4_111 h dX4_cancelOne_53 (pc' := 56) rfl ?_
      refine g_icmp_geF (tg := 79) h dX4_cancelOne_56 (by decide) (pc' := 59) rfl (nI_ge hk (by omega)) ?_
      refine g_aload_n (i := 0) h dX4_cancelOne_59 rfl rfl (pc' := 60) rfl ?_
      refine gf_X4_17 h dX4_cancelOne_60 (pc' := 63) rfl ?_
      refine g_aload_n (i := 0) h dX4_cancelOne_63 rfl rfl (pc' := 64) rfl ?_
      refine g_iload_n (i := 2) h dX4_cancelOne_64 rfl rfl (pc' := 65) rfl ?_
      refine g_callV1 (q0 := 0) h dX4_cancelOne_65 cf_X4_121 (M_X4_debtOf (k := k) hk (by omega)) rfl rfl rfl rfl (by decide) rfl (Nat.le_of_ble_eq_true rfl) (pc' := 68) rfl ?_
      refine g_dup2 (y := 0) h dX4_cancelOne_68 (pc' := 69) rfl ?_
      refine al_12 (j := 5 * ((skF debts m (nI 0) ro r).2.2.1) k + ((skF debts m (nI 0) ro r).2.2.1) (nx ((skF debts m (nI 0) ro r).2.1) k)) h dX4_cancelOne_69 rfl hcl (pc' := 70) rfl ?_
      refine g_iload_n (i := 1) h dX4_cancelOne_70 rfl rfl (pc' := 71) rfl ?_
      refine g_isub h dX4_cancelOne_71 (pc' := 72) rfl ?_
      refine as_12 (j := 5 * ((skF debts m (nI 0) ro r).2.2.1) k + ((skF debts m (nI 0) ro r).2.2.1) (nx ((skF debts m (nI 0) ro r).2.1) k)) h dX4_cancelOne_72 rfl hcl (pc' := 73) rfl ?_
      refine g_iinc2 (v := nI (k + 1)) h dX4_cancelOne_73 rfl (inc1 k) (by decide) (pc' := 76) rfl ?_
      refine g_goto (pc' := 51) h dX4_cancelOne_76 (by decide) ?_
      exact GG.castW ih51 ⟨rfl, rfl, rfl, trivial⟩ rfl rfl
  · intro k hk ih9
    have hz := (skF_G (debts := debts) (m := m) (w := (nI 0)) (ro := ro) (r := r)).1; have hcl := cel_lt hk (show (skF debts m (nI 0) ro r).2.1 ≤ 4 by omega) (skF_G (debts := debts) (m := m) (w := nI 0) (ro := ro) (r := r)).2
    refine g_iload_n (i := 2) h dX4_cancelOne_9 rfl rfl (pc' := 10) rfl ?_
    refine g_aload_n (i := 0) h dX4_cancelOne_10 rfl rfl (pc' := 11) rfl ?_
    refine gf_X4_111 h dX4_cancelOne_11 (pc' := 14) rfl ?_
    refine g_icmp_geF (tg := 49) h dX4_cancelOne_14 (by decide) (pc' := 17) rfl (nI_ge hk (by omega)) ?_
    refine g_aload_n (i := 0) h dX4_cancelOne_17 rfl rfl (pc' := 18) rfl ?_
    refine gf_X4_17 h dX4_cancelOne_18 (pc' := 21) rfl ?_
    refine g_aload_n (i := 0) h dX4_cancelOne_21 rfl rfl (pc' := 22) rfl ?_
    refine g_iload_n (i := 2) h dX4_cancelOne_22 rfl rfl (pc' := 23) rfl ?_
    refine g_callV1 (q0 := 0) h dX4_cancelOne_23 cf_X4_121 (M_X4_debtOf (k := k) hk (by omega)) rfl rfl rfl rfl (by decide) rfl (Nat.le_of_ble_eq_true rfl) (pc' := 26) rfl ?_
    refine al_12 (j := 5 * ((skF debts m (nI 0) ro r).2.2.1) k + ((skF debts m (nI 0) ro r).2.2.1) (nx ((skF debts m (nI 0) ro r).2.1) k)) h dX4_cancelOne_26 rfl hcl (pc' := 27) rfl ?_
    refine g_istore3 h dX4_cancelOne_27 rfl (by decide) (pc' := 28) rfl ?_
    refine g_iload_n (i := 2) h dX4_cancelOne_28 rfl rfl (pc' := 29) rfl ?_
    refine g_if_eq (tg := 37) h dX4_cancelOne_29 (by decide) (pc' := 32) rfl (fun c1 => ?_) (fun c1 => ?_)
    · skip
      refine g_iload_n (i := 3) h dX4_cancelOne_37 rfl rfl (pc' := 38) rfl ?_
      refine g_goto (pc' := 42) h dX4_cancelOne_38 (by decide) ?_
      refine g_istore1 h dX4_cancelOne_42 rfl (by decide) (pc' := 43) rfl ?_
      refine g_iinc2 (v := nI (k + 1)) h dX4_cancelOne_43 rfl (inc1 k) (by decide) (pc' := 46) rfl ?_
      refine g_goto (pc' := 9) h dX4_cancelOne_46 (by decide) ?_
      exact GG.castW ih9 ⟨rfl, (by simp only [List.head?_cons, List.tail_cons, loR, cel, if_pos c1]), rfl, trivial⟩ rfl rfl
    · skip
      refine g_iload_n (i := 3) h dX4_cancelOne_32 rfl rfl (pc' := 33) rfl ?_
      refine g_iload_n (i := 1) h dX4_cancelOne_33 rfl rfl (pc' := 34) rfl ?_
      refine g_icmp_ge (tg := 41) h dX4_cancelOne_34 (by decide) (pc' := 37) rfl (fun c2 => ?_) (fun c2 => ?_)
      · skip
        refine g_iload_n (i := 1) h dX4_cancelOne_41 rfl rfl (pc' := 42) rfl ?_
        refine g_istore1 h dX4_cancelOne_42 rfl (by decide) (pc' := 43) rfl ?_
        refine g_iinc2 (v := nI (k + 1)) h dX4_cancelOne_43 rfl (inc1 k) (by decide) (pc' := 46) rfl ?_
        refine g_goto (pc' := 9) h dX4_cancelOne_46 (by decide) ?_
        exact GG.castW ih9 ⟨rfl, (by simp only [List.head?_cons, List.tail_cons, loR, cel, if_neg c1, if_pos c2]), rfl, trivial⟩ rfl rfl
      · skip
        refine g_iload_n (i := 3) h dX4_cancelOne_37 rfl rfl (pc' := 38) rfl ?_
        refine g_goto (pc' := 42) h dX4_cancelOne_38 (by decide) ?_
        refine g_istore1 h dX4_cancelOne_42 rfl (by decide) (pc' := 43) rfl ?_
        refine g_iinc2 (v := nI (k + 1)) h dX4_cancelOne_43 rfl (inc1 k) (by decide) (pc' := 46) rfl ?_
        refine g_goto (pc' := 9) h dX4_cancelOne_46 (by decide) ?_
        exact GG.castW ih9 ⟨rfl, (by simp only [List.head?_cons, List.tail_cons, loR, cel, if_neg c1, if_neg c2]), rfl, trivial⟩ rfl rfl
set_option maxRecDepth 20000 in
set_option maxHeartbeats 4000000 in
theorem R_cancel {Z : ZT} {m : Nat} {toll : Int32} {paid : Int64} {cash : Nat → Int64} {debts : Nat → Int32} {fallen : Nat → Int32} {rounds : Int32} {shares : Nat → Int64} {under : Int64} {table : Nat → Int64} {right : Nat → Int64} {tried : Nat → Int64} {falls : Nat → Int32} {rsize : Int32} {ro : Nat → Nat} {r : Nat → Nat} {found : Int32} {hh : Int64}   (g0 : m ≤ 4) (g1 : 1 ≤ m) : MM Z yX4_cancel cX4_cancel 1 (some .int) 3 [.ref (Z.2.2 10)] (wR Z (nI m) toll paid cash debts fallen rounds shares under table right tried falls rsize (fun q => nI (ro q)) (fun q => nI (r q)) found hh) (some (.int (coL m (debts, ro, r)))) (wR Z (nI m) toll paid cash ((coN m (debts, ro, r)).1) fallen rounds shares under table right tried falls (nI ((skF debts m (nI 0) ro r).2.1)) (fun q => nI (((coN m (debts, ro, r)).2.1) q)) (fun q => nI (((coN m (debts, ro, r)).2.2) q)) (nI ((skF debts m (nI 0) ro r).1)) hh) := by
  refine MM.intro (by decide) [some (.ref (Z.2.2 10))] rfl (Nat.le_of_ble_eq_true rfl) (fun X (h : OK Z X cX4_cancel RX4 1 (rmd 3)) hr => ?_)
  refine g_aload_n (i := 0) h dX4_cancel_0 rfl rfl (pc' := 1) rfl ?_
  refine g_callV1 (q0 := 0) h dX4_cancel_1 cf_X4_124 (M_X4_cancelOne  (by omega) (by omega)) rfl rfl rfl rfl (by decide) rfl (Nat.le_of_ble_eq_true rfl) (pc' := 4) rfl ?_
  exact g_iret h hr dX4_cancel_4 rfl rfl
set_option maxRecDepth 20000 in
set_option maxHeartbeats 4000000 in
theorem R_cancelAll {Z : ZT} {m : Nat} {toll : Int32} {paid : Int64} {cash : Nat → Int64} {debts : Nat → Int32} {fallen : Nat → Int32} {rounds : Int32} {shares : Nat → Int64} {under : Int64} {table : Nat → Int64} {right : Nat → Int64} {tried : Nat → Int64} {falls : Nat → Int32} {rsize : Int32} {ro : Nat → Nat} {r : Nat → Nat} {found : Int32} {hh : Int64}  {K : Nat} {x9 : Int32 × coT} (g0 : m ≤ 4) (g1 : 1 ≤ m) (g2 : rca m K (nI 0) (debts, ro, r) = some x9) : MM Z yX4_cancelAll cX4_cancelAll 3 (some .int) 3 [.ref (Z.2.2 10)] (wR Z (nI m) toll paid cash debts fallen rounds shares under table right tried falls rsize (fun q => nI (ro q)) (fun q => nI (r q)) found hh) (some (.int x9.1)) (wR Z (nI m) toll paid cash ((coN m x9.2).1) fallen rounds shares under table right tried falls (nI ((skF x9.2.1 m (nI 0) x9.2.2.1 x9.2.2.2).2.1)) (fun q => nI (((coN m x9.2).2.1) q)) (fun q => nI (((coN m x9.2).2.2) q)) (nI ((skF x9.2.1 m (nI 0) x9.2.2.1 x9.2.2.2).1)) hh) := by
  refine MM.intro (by decide) [some (.ref (Z.2.2 10)), none, none] rfl (Nat.le_of_ble_eq_true rfl) (fun X (h : OK Z X cX4_cancelAll RX4 3 (rmd 3)) hr => ?_)
  refine g_iconst (v := nI 0) h dX4_cancelAll_0 (by decide) (pc' := 1) rfl ?_
  refine g_istore1 h dX4_cancelAll_1 rfl (by decide) (pc' := 2) rfl ?_
  refine g_aload_n (i := 0) h dX4_cancelAll_2 rfl rfl (pc' := 3) rfl ?_
  refine g_callV1 (q0 := 0) h dX4_cancelAll_3 cf_X4_124 (M_X4_cancelOne  (by omega) (by omega)) rfl rfl rfl rfl (by decide) rfl (Nat.le_of_ble_eq_true rfl) (pc' := 6) rfl ?_
  refine g_istore2 h dX4_cancelAll_6 rfl (by decide) (pc' := 7) rfl ?_
  have key7 : ∀ (k : Nat) (a : Int32) (y : coT), (rca m k a y = some x9) → GG Z X 7 [some (.ref (Z.2.2 10)), some (.int a), some (.int (coL m y))] [] (wR Z (nI m) toll paid cash ((coN m y).1) fallen rounds shares under table right tried falls (nI ((skF y.1 m (nI 0) y.2.1 y.2.2).2.1)) (fun q => nI (((coN m y).2.1) q)) (fun q => nI (((coN m y).2.2) q)) (nI ((skF y.1 m (nI 0) y.2.1 y.2.2).1)) hh) := by
    intro k
    induction k with
    | zero =>
      intro a y e7_0
      exact absurd e7_0 (by simp [rca])
    | succ k ih7 =>
      intro a y e7_0
      refine g_iload_n (i := 2) h dX4_cancelAll_7 rfl rfl (pc' := 8) rfl ?_
      refine g_if_le (tg := 28) h dX4_cancelAll_8 (by decide) (pc' := 11) rfl (fun c1 => ?_) (fun c1 => ?_)
      · skip
        refine g_iload_n (i := 1) h dX4_cancelAll_28 rfl rfl (pc' := 29) rfl ?_
        exact g_iret h hr dX4_cancelAll_29 (by have e := e7_0; rw [rca, if_pos c1] at e; cases e; rfl) (by have e := e7_0; rw [rca, if_pos c1] at e; cases e; rfl)
      · skip
        refine g_iload_n (i := 1) h dX4_cancelAll_11 rfl rfl (pc' := 12) rfl ?_
        refine g_iload_n (i := 2) h dX4_cancelAll_12 rfl rfl (pc' := 13) rfl ?_
        refine g_aload_n (i := 0) h dX4_cancelAll_13 rfl rfl (pc' := 14) rfl ?_
        refine gf_X4_111 h dX4_cancelAll_14 (pc' := 17) rfl ?_
        refine g_imul h dX4_cancelAll_17 (pc' := 18) rfl ?_
        refine g_iadd h dX4_cancelAll_18 (pc' := 19) rfl ?_
        refine g_istore1 h dX4_cancelAll_19 rfl (by decide) (pc' := 20) rfl ?_
        refine g_aload_n (i := 0) h dX4_cancelAll_20 rfl rfl (pc' := 21) rfl ?_
        refine g_callV1 (q0 := 0) h dX4_cancelAll_21 cf_X4_124 (M_X4_cancelOne  (by omega) (by omega)) rfl rfl rfl rfl (by decide) rfl (Nat.le_of_ble_eq_true rfl) (pc' := 24) rfl ?_
        refine g_istore2 h dX4_cancelAll_24 rfl (by decide) (pc' := 25) rfl ?_
        refine g_goto (pc' := 7) h dX4_cancelAll_25 (by decide) ?_
        exact GG.castW (ih7 (a + ((coL m y) * (nI ((skF y.1 m (nI 0) y.2.1 y.2.2).2.1)))) (coN m y) (by have e := e7_0; rw [rca, if_neg c1] at e; exact e)) ⟨rfl, rfl, rfl, trivial⟩ rfl rfl
  exact GG.castW (key7 K (nI 0) (debts, ro, r) g2) ⟨rfl, rfl, rfl, trivial⟩ rfl rfl

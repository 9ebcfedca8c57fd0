theorem g_callC {Z : ZT} {X : XT} {cc : ByteArray} {own : String} {nL : Nat} {R : Room} {pc pc' : Nat} {L : List (Option Value)} {S rest : List Value} {w1 w2 w1' : va_W} {y : MethodName} {bytes : ByteArray} {maxL d n index ci : Nat} {ret : Option FieldType} {b : Nat} {As : List Value} {x : Value} {q : vw_C} {fs : List Value}
    (h : OK Z X cc own nL R) (hd : decode cc pc = .ok (.invokevirtual index, 3)) (cf : CF 0 own index y bytes maxL ret n) (hM : MM Z y bytes maxL ret d (.ref b :: As) w1 (some x) w1')
    (hq : w1[0]? = some (b, .inr (ci, fs))) (hc : clsL[ci]? = some q) (hqc : q.1 = y.cls) (hn : As.length = n) (hR : d + 1 ≤ R.frames ∧ 8 + (maxL + 11) + 30 * d ≤ R.locals) (hst : S = As.reverse ++ .ref b :: rest) (h8 : (rest.map fun v => v.category).sum ≤ 8) (hp : pc + 3 = pc')
    (k : GG Z X pc' L (x :: rest) (w1' ++ w2)) : GG Z X pc L S (w1 ++ w2) := g_callM (w0 := []) h hd cf hM hq hc hqc hn hR hst h8 hp k
theorem g_callR {Z : ZT} {X : XT} {cc : ByteArray} {own : String} {nL : Nat} {R : Room} {pc pc' : Nat} {L : List (Option Value)} {S rest : List Value} {w0 w1 w1' : va_W} {y : MethodName} {bytes : ByteArray} {maxL d n index ci : Nat} {ret : Option FieldType} {b : Nat} {As : List Value} {x : Value} {q : vw_C} {fs : List Value}
    (h : OK Z X cc own nL R) (hd : decode cc pc = .ok (.invokevirtual index, 3)) (cf : CF 0 own index y bytes maxL ret n) (hM : MM Z y bytes maxL ret d (.ref b :: As) w1 (some x) w1')
    (hq : w1[0]? = some (b, .inr (ci, fs))) (hc : clsL[ci]? = some q) (hqc : q.1 = y.cls) (hn : As.length = n) (hR : d + 1 ≤ R.frames ∧ 8 + (maxL + 11) + 30 * d ≤ R.locals) (hst : S = As.reverse ++ .ref b :: rest) (h8 : (rest.map fun v => v.category).sum ≤ 8) (hp : pc + 3 = pc')
    (k : GG Z X pc' L (x :: rest) (w0 ++ w1')) : GG Z X pc L S (w0 ++ w1) := by
  have e1 : w0 ++ w1 = w0 ++ (w1 ++ []) := by simp
  have e2 : w0 ++ w1' = w0 ++ (w1' ++ []) := by simp
  rw [e1]
  rw [e2] at k
  exact g_callM (w0 := w0) (w2 := []) h hd cf hM hq hc hqc hn hR hst h8 hp k
/-- the law's script, and its end -/
def LW (X : XT) (b N : Nat) (xs : Nat → Int32) : Prop := match X with
  | (_, _, _, _, s, _, args, below, meth, c, ce, sl, _, A, Q) => va_X b N xs s s.heap ∧ b < s.heap.size ∧ ¬ A b ∧ c.code = code ∧ meth.sig.returnType = ret ∧ meth.locks = false ∧ (∀ q, A q → s.heap.size ≤ q) ∧ ce = 21 ∧ sl = 167 ∧ args = #[Value.ref b] ∧ Q = lw_Z below #[Value.ref b] s
theorem g_sld {Z : ZT} {X : XT} {cc : ByteArray} {own : String} {nL : Nat} {R : Room} {pc pc' : Nat} {L : List (Option Value)} {S : List Value} {w : va_W} {b N : Nat} {xs : Nat → Int32} {i : Int32} {j : Nat} (h : OK Z X cc own nL R) (hl : LW X b N xs) (hd : decode cc pc = .ok (.iaload, 1)) (hi : i = nI j) (hj : j < N) (hN : N < 2 ^ 31) (hp : pc + 1 = pc') (k : GG Z X pc' L (.int (xs j) :: S) w) : GG Z X pc L (.int i :: .ref b :: S) w := by
  obtain ⟨p, l, e, R0, s, m, args, below, meth, c, ce, sl, nL', A, Q⟩ := X
  obtain ⟨⟨hx, hb, hml⟩, hown, hts, hlk, hK, hST, hA, rfl, rfl, hce, hsl⟩ := h
  obtain ⟨hX, hbl, hbA, -⟩ := hl
  subst hp
  subst hi
  intro H locs ls hP hD hS hl
  have e : (nI j).toNatClampNeg = j := nI_clamp (Nat.lt_trans hj hN)
  exact va_sld hx hb hX hbl hbA hS (vp_in_nI hj hN) hd (by rw [e]; exact k H locs ls hP hD hS hl)
theorem g_slen {Z : ZT} {X : XT} {cc : ByteArray} {own : String} {nL : Nat} {R : Room} {pc pc' : Nat} {L : List (Option Value)} {S : List Value} {w : va_W} {b N : Nat} {xs : Nat → Int32} (h : OK Z X cc own nL R) (hl : LW X b N xs) (hd : decode cc pc = .ok (.arraylength, 1)) (hp : pc + 1 = pc') (k : GG Z X pc' L (.int (nI N) :: S) w) : GG Z X pc L (.ref b :: S) w := by
  obtain ⟨p, l, e, R0, s, m, args, below, meth, c, ce, sl, nL', A, Q⟩ := X
  obtain ⟨⟨hx, hb, hml⟩, hown, hts, hlk, hK, hST, hA, rfl, rfl, hce, hsl⟩ := h
  obtain ⟨hX, hbl, hbA, -⟩ := hl
  subst hp
  intro H locs ls hP hD hS hl
  exact va_slen hx hb hX hbl hbA hS hd (k H locs ls hP hD hS hl)
theorem g_lend {Z : ZT} {X : XT} {cc : ByteArray} {own : String} {nL : Nat} {pc : Nat} {L : List (Option Value)} {w : va_W} {b N : Nat} {xs : Nat → Int32} (h : OK Z X cc own nL room_1) (hl : LW X b N xs) (hd : decode code pc = .ok (.ireturn, 1)) : GG Z X pc L [.int 1] w := by
  obtain ⟨p, l, e, R0, s, m, args, below, meth, c, ce, sl, nL', A, Q⟩ := X
  obtain ⟨⟨hx, hb, hml⟩, hown, hts, hlk, hK, hST, hA, rfl, rfl, hce, hsl⟩ := h
  obtain ⟨hX, hbl, hbA, hc, hr, hlo, hAs, rfl, rfl, rfl, rfl⟩ := hl
  intro H locs ls hP hD hS hl
  refine va_forget (fun q hq => hAs _ (hS.2.2 q hq)) ?_
  exact lw_ret hx hc hr hlo hd
theorem and31 (x : Int32) : ∃ j : Nat, j < 32 ∧ x &&& nI 31 = nI j := pk_andE x 5 (by decide)
theorem le_of_ngt {N k : Nat} (hN : N ≤ 2048) (hk : k ≤ 4096) (h : ¬ nI N - nI 4 < nI k) : k + 4 ≤ N := by
  have h1 : (nI N - nI 4).toInt = (N : Int) - 4 := pk_sub_toInt (by omega) (by decide)
  have h2 : (nI k).toInt = (k : Int) := nI_toInt (by omega)
  rw [Int32.lt_iff_toInt_lt, h1, h2] at h
  omega
set_option maxRecDepth 20000 in
set_option maxHeartbeats 8000000 in
/-- the law's loop: ahead of the k-th call the class and the reference agree -/
theorem law_loop {Z : ZT} {X : XT} {b N : Nat} {xs : Nat → Int32} (hN : N ≤ 2048) (ST : Steps Z) (h : OK Z X cL_law RL 4 room_1) (hw : LW X b N xs) : ∀ (n k : Nat) (wc wr : va_W), N < 4 * (k + n) → 4 * k ≤ N → Rel Z k wc wr → GG Z X 18 [some (.ref b), some (.ref (Z.2.2 0)), some (.ref (Z.2.2 10)), some (.int (nI (4 * k)))] [] (wc ++ wr) := by
  obtain ⟨s_houses, s_cash, s_owe, s_toll, s_cashOf, s_debt, s_owes, s_falls, s_rounds, s_share, s_gross, s_pays, s_left, s_lost, s_drag, s_help, s_best, s_net, s_rings, s_ring, s_cancel, s_cancelAll, s_day, s_days, s_count, s_digest⟩ := ST
  intro n
  induction n with
  | zero =>
    intro k wc wr h1 h2
    exact absurd h1 (by omega)
  | succ n ih =>
    intro k wc wr h1 h2 hR
    refine g_iload_n (i := 3) h dL_law_18 rfl rfl (pc' := 19) rfl ?_
    refine g_aload_n (i := 0) h dL_law_19 rfl rfl (pc' := 20) rfl ?_
    refine g_slen h hw dL_law_20 (pc' := 21) rfl ?_
    refine g_iconst (v := nI 4) h dL_law_21 (by decide) (pc' := 22) rfl ?_
    refine g_isub h dL_law_22 (pc' := 23) rfl ?_
    refine g_icmp_gt (tg := 772) h dL_law_23 (by decide) (pc' := 26) rfl (fun c1 => ?_) (fun c1 => ?_)
    · skip
      refine g_iconst (v := 1) h dL_law_772 (by decide) (pc' := 773) rfl ?_
      exact g_lend h hw dL_law_773
    · skip
      have h4 : 4 * k + 4 ≤ N := le_of_ngt hN (by omega) c1
      have hk : k < 512 := by omega
      refine g_aload_n (i := 0) h dL_law_26 rfl rfl (pc' := 27) rfl ?_
      refine g_iload_n (i := 3) h dL_law_27 rfl rfl (pc' := 28) rfl ?_
      refine g_sld (j := 4 * k) h hw dL_law_28 rfl (by omega) (by omega) (pc' := 29) rfl ?_
      refine g_bipush (v := nI 31) h dL_law_29 (by decide) (pc' := 31) rfl ?_
      refine g_iand h dL_law_31 (pc' := 32) rfl ?_
      obtain ⟨j, hj, ej⟩ := and31 (xs (4 * k))
      rw [ej]
      have fin : ∀ (wc' wr' : va_W), Rel Z (k + 1) wc' wr' → GG Z X 766 [some (.ref b), some (.ref (Z.2.2 0)), some (.ref (Z.2.2 10)), some (.int (nI (4 * k)))] [] (wc' ++ wr') := by
        intro wc' wr' hR'
        refine g_iinc3 (v := nI (4 * (k + 1))) h dL_law_766 rfl (by rw [show (Int32.ofInt 4) = nI 4 from rfl, nI_add]; rfl) (by decide) (pc' := 769) rfl ?_
        refine g_goto (pc' := 18) h dL_law_769 (by decide) ?_
        exact ih (k + 1) wc' wr' (by omega) (by omega) hR'
      rcases (show j = 0 ∨ j = 1 ∨ j = 2 ∨ j = 3 ∨ j = 4 ∨ j = 5 ∨ j = 6 ∨ j = 7 ∨ j = 8 ∨ j = 9 ∨ j = 10 ∨ j = 11 ∨ j = 12 ∨ j = 13 ∨ j = 14 ∨ j = 15 ∨ j = 16 ∨ j = 17 ∨ j = 18 ∨ j = 19 ∨ j = 20 ∨ j = 21 ∨ j = 22 ∨ j = 23 ∨ j = 24 ∨ j = 25 ∨ j = 26 ∨ j = 27 ∨ j = 28 ∨ j = 29 ∨ j = 30 ∨ j = 31 by omega) with rfl | rfl | rfl | rfl | rfl | rfl | rfl | rfl | rfl | rfl | rfl | rfl | rfl | rfl | rfl | rfl | rfl | rfl | rfl | rfl | rfl | rfl | rfl | rfl | rfl | rfl | rfl | rfl | rfl | rfl | rfl | rfl
      · skip
        refine g_tabIn (off := 120) (tg := 152) h dL_law_32 (by decide) (by decide) (by decide) (by decide) ?_
        obtain ⟨x, wc', wr', hm1, hm2, hR'⟩ := s_houses (xs (4 * k + 1)) k wc wr hk hR
        obtain ⟨fs, hrc⟩ := hR.rcR
        refine g_aload_n (i := 1) h dL_law_152 rfl rfl (pc' := 153) rfl ?_
        refine g_aload_n (i := 0) h dL_law_153 rfl rfl (pc' := 154) rfl ?_
        refine g_iload_n (i := 3) h dL_law_154 rfl rfl (pc' := 155) rfl ?_
        refine g_iconst (v := nI 1) h dL_law_155 (by decide) (pc' := 156) rfl ?_
        refine g_iaddN h dL_law_156 (pc' := 157) rfl ?_
        refine g_sld (j := 4 * k + 1) h hw dL_law_157 rfl (by omega) (by omega) (pc' := 158) rfl ?_
        refine g_callC h dL_law_158 cf_L_13 hm1 hR.rcC rfl rfl rfl (by decide) rfl (Nat.le_of_ble_eq_true rfl) (pc' := 161) rfl ?_
        refine g_aload_n (i := 2) h dL_law_161 rfl rfl (pc' := 162) rfl ?_
        refine g_aload_n (i := 0) h dL_law_162 rfl rfl (pc' := 163) rfl ?_
        refine g_iload_n (i := 3) h dL_law_163 rfl rfl (pc' := 164) rfl ?_
        refine g_iconst (v := nI 1) h dL_law_164 (by decide) (pc' := 165) rfl ?_
        refine g_iaddN h dL_law_165 (pc' := 166) rfl ?_
        refine g_sld (j := 4 * k + 1) h hw dL_law_166 rfl (by omega) (by omega) (pc' := 167) rfl ?_
        refine g_callR h dL_law_167 cf_L_17 hm2 hrc rfl rfl rfl (by decide) rfl (Nat.le_of_ble_eq_true rfl) (pc' := 170) rfl ?_
        refine g_icmp_eqT (tg := 766) h dL_law_170 (by decide) rfl ?_
        exact fin wc' wr' hR'
      · skip
        refine g_tabIn (off := 143) (tg := 175) h dL_law_32 (by decide) (by decide) (by decide) (by decide) ?_
        obtain ⟨x, wc', wr', hm1, hm2, hR'⟩ := s_cash (xs (4 * k + 1)) (xs (4 * k + 2)) k wc wr hk hR
        obtain ⟨fs, hrc⟩ := hR.rcR
        refine g_aload_n (i := 1) h dL_law_175 rfl rfl (pc' := 176) rfl ?_
        refine g_aload_n (i := 0) h dL_law_176 rfl rfl (pc' := 177) rfl ?_
        refine g_iload_n (i := 3) h dL_law_177 rfl rfl (pc' := 178) rfl ?_
        refine g_iconst (v := nI 1) h dL_law_178 (by decide) (pc' := 179) rfl ?_
        refine g_iaddN h dL_law_179 (pc' := 180) rfl ?_
        refine g_sld (j := 4 * k + 1) h hw dL_law_180 rfl (by omega) (by omega) (pc' := 181) rfl ?_
        refine g_aload_n (i := 0) h dL_law_181 rfl rfl (pc' := 182) rfl ?_
        refine g_iload_n (i := 3) h dL_law_182 rfl rfl (pc' := 183) rfl ?_
        refine g_iconst (v := nI 2) h dL_law_183 (by decide) (pc' := 184) rfl ?_
        refine g_iaddN h dL_law_184 (pc' := 185) rfl ?_
        refine g_sld (j := 4 * k + 2) h hw dL_law_185 rfl (by omega) (by omega) (pc' := 186) rfl ?_
        refine g_callC h dL_law_186 cf_L_18 hm1 hR.rcC rfl rfl rfl (by decide) rfl (Nat.le_of_ble_eq_true rfl) (pc' := 189) rfl ?_
        refine g_aload_n (i := 2) h dL_law_189 rfl rfl (pc' := 190) rfl ?_
        refine g_aload_n (i := 0) h dL_law_190 rfl rfl (pc' := 191) rfl ?_
        refine g_iload_n (i := 3) h dL_law_191 rfl rfl (pc' := 192) rfl ?_
        refine g_iconst (v := nI 1) h dL_law_192 (by decide) (pc' := 193) rfl ?_
        refine g_iaddN h dL_law_193 (pc' := 194) rfl ?_
        refine g_sld (j := 4 * k + 1) h hw dL_law_194 rfl (by omega) (by omega) (pc' := 195) rfl ?_
        refine g_aload_n (i := 0) h dL_law_195 rfl rfl (pc' := 196) rfl ?_
        refine g_iload_n (i := 3) h dL_law_196 rfl rfl (pc' := 197) rfl ?_
        refine g_iconst (v := nI 2) h dL_law_197 (by decide) (pc' := 198) rfl ?_
        refine g_iaddN h dL_law_198 (pc' := 199) rfl ?_
        refine g_sld (j := 4 * k + 2) h hw dL_law_199 rfl (by omega) (by omega) (pc' := 200) rfl ?_
        refine g_callR h dL_law_200 cf_L_22 hm2 hrc rfl rfl rfl (by decide) rfl (Nat.le_of_ble_eq_true rfl) (pc' := 203) rfl ?_
        refine g_icmp_eqT (tg := 766) h dL_law_203 (by decide) rfl ?_
        exact fin wc' wr' hR'
      · skip
        refine g_tabIn (off := 176) (tg := 208) h dL_law_32 (by decide) (by decide) (by decide) (by decide) ?_
        obtain ⟨x, wc', wr', hm1, hm2, hR'⟩ := s_owe (xs (4 * k + 1)) (xs (4 * k + 2)) (xs (4 * k + 3)) k wc wr hk hR
        obtain ⟨fs, hrc⟩ := hR.rcR
        refine g_aload_n (i := 1) h dL_law_208 rfl rfl (pc' := 209) rfl ?_
        refine g_aload_n (i := 0) h dL_law_209 rfl rfl (pc' := 210) rfl ?_
        refine g_iload_n (i := 3) h dL_law_210 rfl rfl (pc' := 211) rfl ?_
        refine g_iconst (v := nI 1) h dL_law_211 (by decide) (pc' := 212) rfl ?_
        refine g_iaddN h dL_law_212 (pc' := 213) rfl ?_
        refine g_sld (j := 4 * k + 1) h hw dL_law_213 rfl (by omega) (by omega) (pc' := 214) rfl ?_
        refine g_aload_n (i := 0) h dL_law_214 rfl rfl (pc' := 215) rfl ?_
        refine g_iload_n (i := 3) h dL_law_215 rfl rfl (pc' := 216) rfl ?_
        refine g_iconst (v := nI 2) h dL_law_216 (by decide) (pc' := 217) rfl ?_
        refine g_iaddN h dL_law_217 (pc' := 218) rfl ?_
        refine g_sld (j := 4 * k + 2) h hw dL_law_218 rfl (by omega) (by omega) (pc' := 219) rfl ?_
        refine g_aload_n (i := 0) h dL_law_219 rfl rfl (pc' := 220) rfl ?_
        refine g_iload_n (i := 3) h dL_law_220 rfl rfl (pc' := 221) rfl ?_
        refine g_iconst (v := nI 3) h dL_law_221 (by decide) (pc' := 222) rfl ?_
        refine g_iaddN h dL_law_222 (pc' := 223) rfl ?_
        refine g_sld (j := 4 * k + 3) h hw dL_law_223 rfl (by omega) (by omega) (pc' := 224) rfl ?_
        refine g_callC h dL_law_224 cf_L_23 hm1 hR.rcC rfl rfl rfl (by decide) rfl (Nat.le_of_ble_eq_true rfl) (pc' := 227) rfl ?_
        refine g_aload_n (i := 2) h dL_law_227 rfl rfl (pc' := 228) rfl ?_
        refine g_aload_n (i := 0) h dL_law_228 rfl rfl (pc' := 229) rfl ?_
        refine g_iload_n (i := 3) h dL_law_229 rfl rfl (pc' := 230) rfl ?_
        refine g_iconst (v := nI 1) h dL_law_230 (by decide) (pc' := 231) rfl ?_
        refine g_iaddN h dL_law_231 (pc' := 232) rfl ?_
        refine g_sld (j := 4 * k + 1) h hw dL_law_232 rfl (by omega) (by omega) (pc' := 233) rfl ?_
        refine g_aload_n (i := 0) h dL_law_233 rfl rfl (pc' := 234) rfl ?_
        refine g_iload_n (i := 3) h dL_law_234 rfl rfl (pc' := 235) rfl ?_
        refine g_iconst (v := nI 2) h dL_law_235 (by decide) (pc' := 236) rfl ?_
        refine g_iaddN h dL_law_236 (pc' := 237) rfl ?_
        refine g_sld (j := 4 * k + 2) h hw dL_law_237 rfl (by omega) (by omega) (pc' := 238) rfl ?_
        refine g_aload_n (i := 0) h dL_law_238 rfl rfl (pc' := 239) rfl ?_
        refine g_iload_n (i := 3) h dL_law_239 rfl rfl (pc' := 240) rfl ?_
        refine g_iconst (v := nI 3) h dL_law_240 (by decide) (pc' := 241) rfl ?_
        refine g_iaddN h dL_law_241 (pc' := 242) rfl ?_
        refine g_sld (j := 4 * k + 3) h hw dL_law_242 rfl (by omega) (by omega) (pc' := 243) rfl ?_
        refine g_callR h dL_law_243 cf_L_27 hm2 hrc rfl rfl rfl (by decide) rfl (Nat.le_of_ble_eq_true rfl) (pc' := 246) rfl ?_
        refine g_icmp_eqT (tg := 766) h dL_law_246 (by decide) rfl ?_
        exact fin wc' wr' hR'
      · skip
        refine g_tabIn (off := 219) (tg := 251) h dL_law_32 (by decide) (by decide) (by decide) (by decide) ?_
        obtain ⟨x, wc', wr', hm1, hm2, hR'⟩ := s_toll (xs (4 * k + 1)) k wc wr hk hR
        obtain ⟨fs, hrc⟩ := hR.rcR
        refine g_aload_n (i := 1) h dL_law_251 rfl rfl (pc' := 252) rfl ?_
        refine g_aload_n (i := 0) h dL_law_252 rfl rfl (pc' := 253) rfl ?_
        refine g_iload_n (i := 3) h dL_law_253 rfl rfl (pc' := 254) rfl ?_
        refine g_iconst (v := nI 1) h dL_law_254 (by decide) (pc' := 255) rfl ?_
        refine g_iaddN h dL_law_255 (pc' := 256) rfl ?_
        refine g_sld (j := 4 * k + 1) h hw dL_law_256 rfl (by omega) (by omega) (pc' := 257) rfl ?_
        refine g_callC h dL_law_257 cf_L_28 hm1 hR.rcC rfl rfl rfl (by decide) rfl (Nat.le_of_ble_eq_true rfl) (pc' := 260) rfl ?_
        refine g_aload_n (i := 2) h dL_law_260 rfl rfl (pc' := 261) rfl ?_
        refine g_aload_n (i := 0) h dL_law_261 rfl rfl (pc' := 262) rfl ?_
        refine g_iload_n (i := 3) h dL_law_262 rfl rfl (pc' := 263) rfl ?_
        refine g_iconst (v := nI 1) h dL_law_263 (by decide) (pc' := 264) rfl ?_
        refine g_iaddN h dL_law_264 (pc' := 265) rfl ?_
        refine g_sld (j := 4 * k + 1) h hw dL_law_265 rfl (by omega) (by omega) (pc' := 266) rfl ?_
        refine g_callR h dL_law_266 cf_L_31 hm2 hrc rfl rfl rfl (by decide) rfl (Nat.le_of_ble_eq_true rfl) (pc' := 269) rfl ?_
        refine g_icmp_eqT (tg := 766) h dL_law_269 (by decide) rfl ?_
        exact fin wc' wr' hR'
      · skip
        refine g_tabIn (off := 242) (tg := 274) h dL_law_32 (by decide) (by decide) (by decide) (by decide) ?_
        obtain ⟨x, wc', wr', hm1, hm2, hR'⟩ := s_cashOf (xs (4 * k + 1)) k wc wr hk hR
        obtain ⟨fs, hrc⟩ := hR.rcR
        refine g_aload_n (i := 1) h dL_law_274 rfl rfl (pc' := 275) rfl ?_
        refine g_aload_n (i := 0) h dL_law_275 rfl rfl (pc' := 276) rfl ?_
        refine g_iload_n (i := 3) h dL_law_276 rfl rfl (pc' := 277) rfl ?_
        refine g_iconst (v := nI 1) h dL_law_277 (by decide) (pc' := 278) rfl ?_
        refine g_iaddN h dL_law_278 (pc' := 279) rfl ?_
        refine g_sld (j := 4 * k + 1) h hw dL_law_279 rfl (by omega) (by omega) (pc' := 280) rfl ?_
        refine g_callC h dL_law_280 cf_L_32 hm1 hR.rcC rfl rfl rfl (by decide) rfl (Nat.le_of_ble_eq_true rfl) (pc' := 283) rfl ?_
        refine g_aload_n (i := 2) h dL_law_283 rfl rfl (pc' := 284) rfl ?_
        refine g_aload_n (i := 0) h dL_law_284 rfl rfl (pc' := 285) rfl ?_
        refine g_iload_n (i := 3) h dL_law_285 rfl rfl (pc' := 286) rfl ?_
        refine g_iconst (v := nI 1) h dL_law_286 (by decide) (pc' := 287) rfl ?_
        refine g_iaddN h dL_law_287 (pc' := 288) rfl ?_
        refine g_sld (j := 4 * k + 1) h hw dL_law_288 rfl (by omega) (by omega) (pc' := 289) rfl ?_
        refine g_callR h dL_law_289 cf_L_35 hm2 hrc rfl rfl rfl (by decide) rfl (Nat.le_of_ble_eq_true rfl) (pc' := 292) rfl ?_
        refine g_icmp_eqT (tg := 766) h dL_law_292 (by decide) rfl ?_
        exact fin wc' wr' hR'
      · skip
        refine g_tabIn (off := 265) (tg := 297) h dL_law_32 (by decide) (by decide) (by decide) (by decide) ?_
        obtain ⟨x, wc', wr', hm1, hm2, hR'⟩ := s_debt (xs (4 * k + 1)) (xs (4 * k + 2)) k wc wr hk hR
        obtain ⟨fs, hrc⟩ := hR.rcR
        refine g_aload_n (i := 1) h dL_law_297 rfl rfl (pc' := 298) rfl ?_
        refine g_aload_n (i := 0) h dL_law_298 rfl rfl (pc' := 299) rfl ?_
        refine g_iload_n (i := 3) h dL_law_299 rfl rfl (pc' := 300) rfl ?_
        refine g_iconst (v := nI 1) h dL_law_300 (by decide) (pc' := 301) rfl ?_
        refine g_iaddN h dL_law_301 (pc' := 302) rfl ?_
        refine g_sld (j := 4 * k + 1) h hw dL_law_302 rfl (by omega) (by omega) (pc' := 303) rfl ?_
        refine g_aload_n (i := 0) h dL_law_303 rfl rfl (pc' := 304) rfl ?_
        refine g_iload_n (i := 3) h dL_law_304 rfl rfl (pc' := 305) rfl ?_
        refine g_iconst (v := nI 2) h dL_law_305 (by decide) (pc' := 306) rfl ?_
        refine g_iaddN h dL_law_306 (pc' := 307) rfl ?_
        refine g_sld (j := 4 * k + 2) h hw dL_law_307 rfl (by omega) (by omega) (pc' := 308) rfl ?_
        refine g_callC h dL_law_308 cf_L_36 hm1 hR.rcC rfl rfl rfl (by decide) rfl (Nat.le_of_ble_eq_true rfl) (pc' := 311) rfl ?_
        refine g_aload_n (i := 2) h dL_law_311 rfl rfl (pc' := 312) rfl ?_
        refine g_aload_n (i := 0) h dL_law_312 rfl rfl (pc' := 313) rfl ?_
        refine g_iload_n (i := 3) h dL_law_313 rfl rfl (pc' := 314) rfl ?_
        refine g_iconst (v := nI 1) h dL_law_314 (by decide) (pc' := 315) rfl ?_
        refine g_iaddN h dL_law_315 (pc' := 316) rfl ?_
        refine g_sld (j := 4 * k + 1) h hw dL_law_316 rfl (by omega) (by omega) (pc' := 317) rfl ?_
        refine g_aload_n (i := 0) h dL_law_317 rfl rfl (pc' := 318) rfl ?_
        refine g_iload_n (i := 3) h dL_law_318 rfl rfl (pc' := 319) rfl ?_
        refine g_iconst (v := nI 2) h dL_law_319 (by decide) (pc' := 320) rfl ?_
        refine g_iaddN h dL_law_320 (pc' := 321) rfl ?_
        refine g_sld (j := 4 * k + 2) h hw dL_law_321 rfl (by omega) (by omega) (pc' := 322) rfl ?_
        refine g_callR h dL_law_322 cf_L_39 hm2 hrc rfl rfl rfl (by decide) rfl (Nat.le_of_ble_eq_true rfl) (pc' := 325) rfl ?_
        refine g_icmp_eqT (tg := 766) h dL_law_325 (by decide) rfl ?_
        exact fin wc' wr' hR'
      · skip
        refine g_tabIn (off := 298) (tg := 330) h dL_law_32 (by decide) (by decide) (by decide) (by decide) ?_
        obtain ⟨x, wc', wr', hm1, hm2, hR'⟩ := s_owes (xs (4 * k + 1)) k wc wr hk hR
        obtain ⟨fs, hrc⟩ := hR.rcR
        refine g_aload_n (i := 1) h dL_law_330 rfl rfl (pc' := 331) rfl ?_
        refine g_aload_n (i := 0) h dL_law_331 rfl rfl (pc' := 332) rfl ?_
        refine g_iload_n (i := 3) h dL_law_332 rfl rfl (pc' := 333) rfl ?_
        refine g_iconst (v := nI 1) h dL_law_333 (by decide) (pc' := 334) rfl ?_
        refine g_iaddN h dL_law_334 (pc' := 335) rfl ?_
        refine g_sld (j := 4 * k + 1) h hw dL_law_335 rfl (by omega) (by omega) (pc' := 336) rfl ?_
        refine g_callC h dL_law_336 cf_L_40 hm1 hR.rcC rfl rfl rfl (by decide) rfl (Nat.le_of_ble_eq_true rfl) (pc' := 339) rfl ?_
        refine g_aload_n (i := 2) h dL_law_339 rfl rfl (pc' := 340) rfl ?_
        refine g_aload_n (i := 0) h dL_law_340 rfl rfl (pc' := 341) rfl ?_
        refine g_iload_n (i := 3) h dL_law_341 rfl rfl (pc' := 342) rfl ?_
        refine g_iconst (v := nI 1) h dL_law_342 (by decide) (pc' := 343) rfl ?_
        refine g_iaddN h dL_law_343 (pc' := 344) rfl ?_
        refine g_sld (j := 4 * k + 1) h hw dL_law_344 rfl (by omega) (by omega) (pc' := 345) rfl ?_
        refine g_callR h dL_law_345 cf_L_43 hm2 hrc rfl rfl rfl (by decide) rfl (Nat.le_of_ble_eq_true rfl) (pc' := 348) rfl ?_
        refine g_icmp_eqT (tg := 766) h dL_law_348 (by decide) rfl ?_
        exact fin wc' wr' hR'
      · skip
        refine g_tabIn (off := 321) (tg := 353) h dL_law_32 (by decide) (by decide) (by decide) (by decide) ?_
        obtain ⟨x, wc', wr', hm1, hm2, hR'⟩ := s_falls (xs (4 * k + 1)) k wc wr hk hR
        obtain ⟨fs, hrc⟩ := hR.rcR
        refine g_aload_n (i := 1) h dL_law_353 rfl rfl (pc' := 354) rfl ?_
        refine g_aload_n (i := 0) h dL_law_354 rfl rfl (pc' := 355) rfl ?_
        refine g_iload_n (i := 3) h dL_law_355 rfl rfl (pc' := 356) rfl ?_
        refine g_iconst (v := nI 1) h dL_law_356 (by decide) (pc' := 357) rfl ?_
        refine g_iaddN h dL_law_357 (pc' := 358) rfl ?_
        refine g_sld (j := 4 * k + 1) h hw dL_law_358 rfl (by omega) (by omega) (pc' := 359) rfl ?_
        refine g_callC h dL_law_359 cf_L_44 hm1 hR.rcC rfl rfl rfl (by decide) rfl (Nat.le_of_ble_eq_true rfl) (pc' := 362) rfl ?_
        refine g_aload_n (i := 2) h dL_law_362 rfl rfl (pc' := 363) rfl ?_
        refine g_aload_n (i := 0) h dL_law_363 rfl rfl (pc' := 364) rfl ?_
        refine g_iload_n (i := 3) h dL_law_364 rfl rfl (pc' := 365) rfl ?_
        refine g_iconst (v := nI 1) h dL_law_365 (by decide) (pc' := 366) rfl ?_
        refine g_iaddN h dL_law_366 (pc' := 367) rfl ?_
        refine g_sld (j := 4 * k + 1) h hw dL_law_367 rfl (by omega) (by omega) (pc' := 368) rfl ?_
        refine g_callR h dL_law_368 cf_L_47 hm2 hrc rfl rfl rfl (by decide) rfl (Nat.le_of_ble_eq_true rfl) (pc' := 371) rfl ?_
        refine g_icmp_eqT (tg := 766) h dL_law_371 (by decide) rfl ?_
        exact fin wc' wr' hR'
      · skip
        refine g_tabIn (off := 344) (tg := 376) h dL_law_32 (by decide) (by decide) (by decide) (by decide) ?_
        obtain ⟨x, wc', wr', hm1, hm2, hR'⟩ := s_rounds  k wc wr hk hR
        obtain ⟨fs, hrc⟩ := hR.rcR
        refine g_aload_n (i := 1) h dL_law_376 rfl rfl (pc' := 377) rfl ?_
        refine g_callC h dL_law_377 cf_L_48 hm1 hR.rcC rfl rfl rfl (by decide) rfl (Nat.le_of_ble_eq_true rfl) (pc' := 380) rfl ?_
        refine g_aload_n (i := 2) h dL_law_380 rfl rfl (pc' := 381) rfl ?_
        refine g_callR h dL_law_381 cf_L_52 hm2 hrc rfl rfl rfl (by decide) rfl (Nat.le_of_ble_eq_true rfl) (pc' := 384) rfl ?_
        refine g_icmp_eqT (tg := 766) h dL_law_384 (by decide) rfl ?_
        exact fin wc' wr' hR'
      · skip
        refine g_tabIn (off := 357) (tg := 389) h dL_law_32 (by decide) (by decide) (by decide) (by decide) ?_
        obtain ⟨x, wc', wr', hm1, hm2, hR'⟩ := s_share (xs (4 * k + 1)) (xs (4 * k + 2)) k wc wr hk hR
        obtain ⟨fs, hrc⟩ := hR.rcR
        refine g_aload_n (i := 1) h dL_law_389 rfl rfl (pc' := 390) rfl ?_
        refine g_aload_n (i := 0) h dL_law_390 rfl rfl (pc' := 391) rfl ?_
        refine g_iload_n (i := 3) h dL_law_391 rfl rfl (pc' := 392) rfl ?_
        refine g_iconst (v := nI 1) h dL_law_392 (by decide) (pc' := 393) rfl ?_
        refine g_iaddN h dL_law_393 (pc' := 394) rfl ?_
        refine g_sld (j := 4 * k + 1) h hw dL_law_394 rfl (by omega) (by omega) (pc' := 395) rfl ?_
        refine g_aload_n (i := 0) h dL_law_395 rfl rfl (pc' := 396) rfl ?_
        refine g_iload_n (i := 3) h dL_law_396 rfl rfl (pc' := 397) rfl ?_
        refine g_iconst (v := nI 2) h dL_law_397 (by decide) (pc' := 398) rfl ?_
        refine g_iaddN h dL_law_398 (pc' := 399) rfl ?_
        refine g_sld (j := 4 * k + 2) h hw dL_law_399 rfl (by omega) (by omega) (pc' := 400) rfl ?_
        refine g_callC h dL_law_400 cf_L_53 hm1 hR.rcC rfl rfl rfl (by decide) rfl (Nat.le_of_ble_eq_true rfl) (pc' := 403) rfl ?_
        refine g_aload_n (i := 2) h dL_law_403 rfl rfl (pc' := 404) rfl ?_
        refine g_aload_n (i := 0) h dL_law_404 rfl rfl (pc' := 405) rfl ?_
        refine g_iload_n (i := 3) h dL_law_405 rfl rfl (pc' := 406) rfl ?_
        refine g_iconst (v := nI 1) h dL_law_406 (by decide) (pc' := 407) rfl ?_
        refine g_iaddN h dL_law_407 (pc' := 408) rfl ?_
        refine g_sld (j := 4 * k + 1) h hw dL_law_408 rfl (by omega) (by omega) (pc' := 409) rfl ?_
        refine g_aload_n (i := 0) h dL_law_409 rfl rfl (pc' := 410) rfl ?_
        refine g_iload_n (i := 3) h dL_law_410 rfl rfl (pc' := 411) rfl ?_
        refine g_iconst (v := nI 2) h dL_law_411 (by decide) (pc' := 412) rfl ?_
        refine g_iaddN h dL_law_412 (pc' := 413) rfl ?_
        refine g_sld (j := 4 * k + 2) h hw dL_law_413 rfl (by omega) (by omega) (pc' := 414) rfl ?_
        refine g_callR h dL_law_414 cf_L_57 hm2 hrc rfl rfl rfl (by decide) rfl (Nat.le_of_ble_eq_true rfl) (pc' := 417) rfl ?_
        refine g_lcmp_eq (pc1 := 418) (tg := 766) h dL_law_417 rfl dL_law_418 (by decide) (pc' := 421) rfl (fun cd => ?_) (fun cd => absurd rfl cd)
        exact fin wc' wr' hR'
      · skip
        refine g_tabIn (off := 391) (tg := 423) h dL_law_32 (by decide) (by decide) (by decide) (by decide) ?_
        obtain ⟨x, wc', wr', hm1, hm2, hR'⟩ := s_gross (xs (4 * k + 1)) (xs (4 * k + 2)) k wc wr hk hR
        obtain ⟨fs, hrc⟩ := hR.rcR
        refine g_aload_n (i := 1) h dL_law_423 rfl rfl (pc' := 424) rfl ?_
        refine g_aload_n (i := 0) h dL_law_424 rfl rfl (pc' := 425) rfl ?_
        refine g_iload_n (i := 3) h dL_law_425 rfl rfl (pc' := 426) rfl ?_
        refine g_iconst (v := nI 1) h dL_law_426 (by decide) (pc' := 427) rfl ?_
        refine g_iaddN h dL_law_427 (pc' := 428) rfl ?_
        refine g_sld (j := 4 * k + 1) h hw dL_law_428 rfl (by omega) (by omega) (pc' := 429) rfl ?_
        refine g_aload_n (i := 0) h dL_law_429 rfl rfl (pc' := 430) rfl ?_
        refine g_iload_n (i := 3) h dL_law_430 rfl rfl (pc' := 431) rfl ?_
        refine g_iconst (v := nI 2) h dL_law_431 (by decide) (pc' := 432) rfl ?_
        refine g_iaddN h dL_law_432 (pc' := 433) rfl ?_
        refine g_sld (j := 4 * k + 2) h hw dL_law_433 rfl (by omega) (by omega) (pc' := 434) rfl ?_
        refine g_callC h dL_law_434 cf_L_58 hm1 hR.rcC rfl rfl rfl (by decide) rfl (Nat.le_of_ble_eq_true rfl) (pc' := 437) rfl ?_
        refine g_aload_n (i := 2) h dL_law_437 rfl rfl (pc' := 438) rfl ?_
        refine g_aload_n (i := 0) h dL_law_438 rfl rfl (pc' := 439) rfl ?_
        refine g_iload_n (i := 3) h dL_law_439 rfl rfl (pc' := 440) rfl ?_
        refine g_iconst (v := nI 1) h dL_law_440 (by decide) (pc' := 441) rfl ?_
        refine g_iaddN h dL_law_441 (pc' := 442) rfl ?_
        refine g_sld (j := 4 * k + 1) h hw dL_law_442 rfl (by omega) (by omega) (pc' := 443) rfl ?_
        refine g_aload_n (i := 0) h dL_law_443 rfl rfl (pc' := 444) rfl ?_
        refine g_iload_n (i := 3) h dL_law_444 rfl rfl (pc' := 445) rfl ?_
        refine g_iconst (v := nI 2) h dL_law_445 (by decide) (pc' := 446) rfl ?_
        refine g_iaddN h dL_law_446 (pc' := 447) rfl ?_
        refine g_sld (j := 4 * k + 2) h hw dL_law_447 rfl (by omega) (by omega) (pc' := 448) rfl ?_
        refine g_callR h dL_law_448 cf_L_61 hm2 hrc rfl rfl rfl (by decide) rfl (Nat.le_of_ble_eq_true rfl) (pc' := 451) rfl ?_
        refine g_lcmp_eq (pc1 := 452) (tg := 766) h dL_law_451 rfl dL_law_452 (by decide) (pc' := 455) rfl (fun cd => ?_) (fun cd => absurd rfl cd)
        exact fin wc' wr' hR'
      · skip
        refine g_tabIn (off := 425) (tg := 457) h dL_law_32 (by decide) (by decide) (by decide) (by decide) ?_
        obtain ⟨x, wc', wr', hm1, hm2, hR'⟩ := s_pays (xs (4 * k + 1)) (xs (4 * k + 2)) (xs (4 * k + 3)) k wc wr hk hR
        obtain ⟨fs, hrc⟩ := hR.rcR
        refine g_aload_n (i := 1) h dL_law_457 rfl rfl (pc' := 458) rfl ?_
        refine g_aload_n (i := 0) h dL_law_458 rfl rfl (pc' := 459) rfl ?_
        refine g_iload_n (i := 3) h dL_law_459 rfl rfl (pc' := 460) rfl ?_
        refine g_iconst (v := nI 1) h dL_law_460 (by decide) (pc' := 461) rfl ?_
        refine g_iaddN h dL_law_461 (pc' := 462) rfl ?_
        refine g_sld (j := 4 * k + 1) h hw dL_law_462 rfl (by omega) (by omega) (pc' := 463) rfl ?_
        refine g_aload_n (i := 0) h dL_law_463 rfl rfl (pc' := 464) rfl ?_
        refine g_iload_n (i := 3) h dL_law_464 rfl rfl (pc' := 465) rfl ?_
        refine g_iconst (v := nI 2) h dL_law_465 (by decide) (pc' := 466) rfl ?_
        refine g_iaddN h dL_law_466 (pc' := 467) rfl ?_
        refine g_sld (j := 4 * k + 2) h hw dL_law_467 rfl (by omega) (by omega) (pc' := 468) rfl ?_
        refine g_aload_n (i := 0) h dL_law_468 rfl rfl (pc' := 469) rfl ?_
        refine g_iload_n (i := 3) h dL_law_469 rfl rfl (pc' := 470) rfl ?_
        refine g_iconst (v := nI 3) h dL_law_470 (by decide) (pc' := 471) rfl ?_
        refine g_iaddN h dL_law_471 (pc' := 472) rfl ?_
        refine g_sld (j := 4 * k + 3) h hw dL_law_472 rfl (by omega) (by omega) (pc' := 473) rfl ?_
        refine g_callC h dL_law_473 cf_L_62 hm1 hR.rcC rfl rfl rfl (by decide) rfl (Nat.le_of_ble_eq_true rfl) (pc' := 476) rfl ?_
        refine g_aload_n (i := 2) h dL_law_476 rfl rfl (pc' := 477) rfl ?_
        refine g_aload_n (i := 0) h dL_law_477 rfl rfl (pc' := 478) rfl ?_
        refine g_iload_n (i := 3) h dL_law_478 rfl rfl (pc' := 479) rfl ?_
        refine g_iconst (v := nI 1) h dL_law_479 (by decide) (pc' := 480) rfl ?_
        refine g_iaddN h dL_law_480 (pc' := 481) rfl ?_
        refine g_sld (j := 4 * k + 1) h hw dL_law_481 rfl (by omega) (by omega) (pc' := 482) rfl ?_
        refine g_aload_n (i := 0) h dL_law_482 rfl rfl (pc' := 483) rfl ?_
        refine g_iload_n (i := 3) h dL_law_483 rfl rfl (pc' := 484) rfl ?_
        refine g_iconst (v := nI 2) h dL_law_484 (by decide) (pc' := 485) rfl ?_
        refine g_iaddN h dL_law_485 (pc' := 486) rfl ?_
        refine g_sld (j := 4 * k + 2) h hw dL_law_486 rfl (by omega) (by omega) (pc' := 487) rfl ?_
        refine g_aload_n (i := 0) h dL_law_487 rfl rfl (pc' := 488) rfl ?_
        refine g_iload_n (i := 3) h dL_law_488 rfl rfl (pc' := 489) rfl ?_
        refine g_iconst (v := nI 3) h dL_law_489 (by decide) (pc' := 490) rfl ?_
        refine g_iaddN h dL_law_490 (pc' := 491) rfl ?_
        refine g_sld (j := 4 * k + 3) h hw dL_law_491 rfl (by omega) (by omega) (pc' := 492) rfl ?_
        refine g_callR h dL_law_492 cf_L_66 hm2 hrc rfl rfl rfl (by decide) rfl (Nat.le_of_ble_eq_true rfl) (pc' := 495) rfl ?_
        refine g_lcmp_eq (pc1 := 496) (tg := 766) h dL_law_495 rfl dL_law_496 (by decide) (pc' := 499) rfl (fun cd => ?_) (fun cd => absurd rfl cd)
        exact fin wc' wr' hR'
      · skip
        refine g_tabIn (off := 469) (tg := 501) h dL_law_32 (by decide) (by decide) (by decide) (by decide) ?_
        obtain ⟨x, wc', wr', hm1, hm2, hR'⟩ := s_left (xs (4 * k + 1)) (xs (4 * k + 2)) k wc wr hk hR
        obtain ⟨fs, hrc⟩ := hR.rcR
        refine g_aload_n (i := 1) h dL_law_501 rfl rfl (pc' := 502) rfl ?_
        refine g_aload_n (i := 0) h dL_law_502 rfl rfl (pc' := 503) rfl ?_
        refine g_iload_n (i := 3) h dL_law_503 rfl rfl (pc' := 504) rfl ?_
        refine g_iconst (v := nI 1) h dL_law_504 (by decide) (pc' := 505) rfl ?_
        refine g_iaddN h dL_law_505 (pc' := 506) rfl ?_
        refine g_sld (j := 4 * k + 1) h hw dL_law_506 rfl (by omega) (by omega) (pc' := 507) rfl ?_
        refine g_aload_n (i := 0) h dL_law_507 rfl rfl (pc' := 508) rfl ?_
        refine g_iload_n (i := 3) h dL_law_508 rfl rfl (pc' := 509) rfl ?_
        refine g_iconst (v := nI 2) h dL_law_509 (by decide) (pc' := 510) rfl ?_
        refine g_iaddN h dL_law_510 (pc' := 511) rfl ?_
        refine g_sld (j := 4 * k + 2) h hw dL_law_511 rfl (by omega) (by omega) (pc' := 512) rfl ?_
        refine g_callC h dL_law_512 cf_L_67 hm1 hR.rcC rfl rfl rfl (by decide) rfl (Nat.le_of_ble_eq_true rfl) (pc' := 515) rfl ?_
        refine g_aload_n (i := 2) h dL_law_515 rfl rfl (pc' := 516) rfl ?_
        refine g_aload_n (i := 0) h dL_law_516 rfl rfl (pc' := 517) rfl ?_
        refine g_iload_n (i := 3) h dL_law_517 rfl rfl (pc' := 518) rfl ?_
        refine g_iconst (v := nI 1) h dL_law_518 (by decide) (pc' := 519) rfl ?_
        refine g_iaddN h dL_law_519 (pc' := 520) rfl ?_
        refine g_sld (j := 4 * k + 1) h hw dL_law_520 rfl (by omega) (by omega) (pc' := 521) rfl ?_
        refine g_aload_n (i := 0) h dL_law_521 rfl rfl (pc' := 522) rfl ?_
        refine g_iload_n (i := 3) h dL_law_522 rfl rfl (pc' := 523) rfl ?_
        refine g_iconst (v := nI 2) h dL_law_523 (by decide) (pc' := 524) rfl ?_
        refine g_iaddN h dL_law_524 (pc' := 525) rfl ?_
        refine g_sld (j := 4 * k + 2) h hw dL_law_525 rfl (by omega) (by omega) (pc' := 526) rfl ?_
        refine g_callR h dL_law_526 cf_L_70 hm2 hrc rfl rfl rfl (by decide) rfl (Nat.le_of_ble_eq_true rfl) (pc' := 529) rfl ?_
        refine g_lcmp_eq (pc1 := 530) (tg := 766) h dL_law_529 rfl dL_law_530 (by decide) (pc' := 533) rfl (fun cd => ?_) (fun cd => absurd rfl cd)
        exact fin wc' wr' hR'
      · skip
        refine g_tabIn (off := 503) (tg := 535) h dL_law_32 (by decide) (by decide) (by decide) (by decide) ?_
        obtain ⟨x, wc', wr', hm1, hm2, hR'⟩ := s_lost (xs (4 * k + 1)) k wc wr hk hR
        obtain ⟨fs, hrc⟩ := hR.rcR
        refine g_aload_n (i := 1) h dL_law_535 rfl rfl (pc' := 536) rfl ?_
        refine g_aload_n (i := 0) h dL_law_536 rfl rfl (pc' := 537) rfl ?_
        refine g_iload_n (i := 3) h dL_law_537 rfl rfl (pc' := 538) rfl ?_
        refine g_iconst (v := nI 1) h dL_law_538 (by decide) (pc' := 539) rfl ?_
        refine g_iaddN h dL_law_539 (pc' := 540) rfl ?_
        refine g_sld (j := 4 * k + 1) h hw dL_law_540 rfl (by omega) (by omega) (pc' := 541) rfl ?_
        refine g_callC h dL_law_541 cf_L_71 hm1 hR.rcC rfl rfl rfl (by decide) rfl (Nat.le_of_ble_eq_true rfl) (pc' := 544) rfl ?_
        refine g_aload_n (i := 2) h dL_law_544 rfl rfl (pc' := 545) rfl ?_
        refine g_aload_n (i := 0) h dL_law_545 rfl rfl (pc' := 546) rfl ?_
        refine g_iload_n (i := 3) h dL_law_546 rfl rfl (pc' := 547) rfl ?_
        refine g_iconst (v := nI 1) h dL_law_547 (by decide) (pc' := 548) rfl ?_
        refine g_iaddN h dL_law_548 (pc' := 549) rfl ?_
        refine g_sld (j := 4 * k + 1) h hw dL_law_549 rfl (by omega) (by omega) (pc' := 550) rfl ?_
        refine g_callR h dL_law_550 cf_L_75 hm2 hrc rfl rfl rfl (by decide) rfl (Nat.le_of_ble_eq_true rfl) (pc' := 553) rfl ?_
        refine g_lcmp_eq (pc1 := 554) (tg := 766) h dL_law_553 rfl dL_law_554 (by decide) (pc' := 557) rfl (fun cd => ?_) (fun cd => absurd rfl cd)
        exact fin wc' wr' hR'
      · skip
        refine g_tabIn (off := 527) (tg := 559) h dL_law_32 (by decide) (by decide) (by decide) (by decide) ?_
        obtain ⟨x, wc', wr', hm1, hm2, hR'⟩ := s_drag (xs (4 * k + 1)) k wc wr hk hR
        obtain ⟨fs, hrc⟩ := hR.rcR
        refine g_aload_n (i := 1) h dL_law_559 rfl rfl (pc' := 560) rfl ?_
        refine g_aload_n (i := 0) h dL_law_560 rfl rfl (pc' := 561) rfl ?_
        refine g_iload_n (i := 3) h dL_law_561 rfl rfl (pc' := 562) rfl ?_
        refine g_iconst (v := nI 1) h dL_law_562 (by decide) (pc' := 563) rfl ?_
        refine g_iaddN h dL_law_563 (pc' := 564) rfl ?_
        refine g_sld (j := 4 * k + 1) h hw dL_law_564 rfl (by omega) (by omega) (pc' := 565) rfl ?_
        refine g_callC h dL_law_565 cf_L_76 hm1 hR.rcC rfl rfl rfl (by decide) rfl (Nat.le_of_ble_eq_true rfl) (pc' := 568) rfl ?_
        refine g_aload_n (i := 2) h dL_law_568 rfl rfl (pc' := 569) rfl ?_
        refine g_aload_n (i := 0) h dL_law_569 rfl rfl (pc' := 570) rfl ?_
        refine g_iload_n (i := 3) h dL_law_570 rfl rfl (pc' := 571) rfl ?_
        refine g_iconst (v := nI 1) h dL_law_571 (by decide) (pc' := 572) rfl ?_
        refine g_iaddN h dL_law_572 (pc' := 573) rfl ?_
        refine g_sld (j := 4 * k + 1) h hw dL_law_573 rfl (by omega) (by omega) (pc' := 574) rfl ?_
        refine g_callR h dL_law_574 cf_L_79 hm2 hrc rfl rfl rfl (by decide) rfl (Nat.le_of_ble_eq_true rfl) (pc' := 577) rfl ?_
        refine g_icmp_eqT (tg := 766) h dL_law_577 (by decide) rfl ?_
        exact fin wc' wr' hR'
      · skip
        refine g_tabIn (off := 550) (tg := 582) h dL_law_32 (by decide) (by decide) (by decide) (by decide) ?_
        obtain ⟨x, wc', wr', hm1, hm2, hR'⟩ := s_help (xs (4 * k + 1)) k wc wr hk hR
        obtain ⟨fs, hrc⟩ := hR.rcR
        refine g_aload_n (i := 1) h dL_law_582 rfl rfl (pc' := 583) rfl ?_
        refine g_aload_n (i := 0) h dL_law_583 rfl rfl (pc' := 584) rfl ?_
        refine g_iload_n (i := 3) h dL_law_584 rfl rfl (pc' := 585) rfl ?_
        refine g_iconst (v := nI 1) h dL_law_585 (by decide) (pc' := 586) rfl ?_
        refine g_iaddN h dL_law_586 (pc' := 587) rfl ?_
        refine g_sld (j := 4 * k + 1) h hw dL_law_587 rfl (by omega) (by omega) (pc' := 588) rfl ?_
        refine g_callC h dL_law_588 cf_L_80 hm1 hR.rcC rfl rfl rfl (by decide) rfl (Nat.le_of_ble_eq_true rfl) (pc' := 591) rfl ?_
        refine g_aload_n (i := 2) h dL_law_591 rfl rfl (pc' := 592) rfl ?_
        refine g_aload_n (i := 0) h dL_law_592 rfl rfl (pc' := 593) rfl ?_
        refine g_iload_n (i := 3) h dL_law_593 rfl rfl (pc' := 594) rfl ?_
        refine g_iconst (v := nI 1) h dL_law_594 (by decide) (pc' := 595) rfl ?_
        refine g_iaddN h dL_law_595 (pc' := 596) rfl ?_
        refine g_sld (j := 4 * k + 1) h hw dL_law_596 rfl (by omega) (by omega) (pc' := 597) rfl ?_
        refine g_callR h dL_law_597 cf_L_83 hm2 hrc rfl rfl rfl (by decide) rfl (Nat.le_of_ble_eq_true rfl) (pc' := 600) rfl ?_
        refine g_icmp_eqT (tg := 766) h dL_law_600 (by decide) rfl ?_
        exact fin wc' wr' hR'
      · skip
        refine g_tabIn (off := 573) (tg := 605) h dL_law_32 (by decide) (by decide) (by decide) (by decide) ?_
        obtain ⟨x, wc', wr', hm1, hm2, hR'⟩ := s_best  k wc wr hk hR
        obtain ⟨fs, hrc⟩ := hR.rcR
        refine g_aload_n (i := 1) h dL_law_605 rfl rfl (pc' := 606) rfl ?_
        refine g_callC h dL_law_606 cf_L_84 hm1 hR.rcC rfl rfl rfl (by decide) rfl (Nat.le_of_ble_eq_true rfl) (pc' := 609) rfl ?_
        refine g_aload_n (i := 2) h dL_law_609 rfl rfl (pc' := 610) rfl ?_
        refine g_callR h dL_law_610 cf_L_87 hm2 hrc rfl rfl rfl (by decide) rfl (Nat.le_of_ble_eq_true rfl) (pc' := 613) rfl ?_
        refine g_icmp_eqT (tg := 766) h dL_law_613 (by decide) rfl ?_
        exact fin wc' wr' hR'
      · skip
        refine g_tabIn (off := 586) (tg := 618) h dL_law_32 (by decide) (by decide) (by decide) (by decide) ?_
        obtain ⟨x, wc', wr', hm1, hm2, hR'⟩ := s_net (xs (4 * k + 1)) k wc wr hk hR
        obtain ⟨fs, hrc⟩ := hR.rcR
        refine g_aload_n (i := 1) h dL_law_618 rfl rfl (pc' := 619) rfl ?_
        refine g_aload_n (i := 0) h dL_law_619 rfl rfl (pc' := 620) rfl ?_
        refine g_iload_n (i := 3) h dL_law_620 rfl rfl (pc' := 621) rfl ?_
        refine g_iconst (v := nI 1) h dL_law_621 (by decide) (pc' := 622) rfl ?_
        refine g_iaddN h dL_law_622 (pc' := 623) rfl ?_
        refine g_sld (j := 4 * k + 1) h hw dL_law_623 rfl (by omega) (by omega) (pc' := 624) rfl ?_
        refine g_callC h dL_law_624 cf_L_88 hm1 hR.rcC rfl rfl rfl (by decide) rfl (Nat.le_of_ble_eq_true rfl) (pc' := 627) rfl ?_
        refine g_aload_n (i := 2) h dL_law_627 rfl rfl (pc' := 628) rfl ?_
        refine g_aload_n (i := 0) h dL_law_628 rfl rfl (pc' := 629) rfl ?_
        refine g_iload_n (i := 3) h dL_law_629 rfl rfl (pc' := 630) rfl ?_
        refine g_iconst (v := nI 1) h dL_law_630 (by decide) (pc' := 631) rfl ?_
        refine g_iaddN h dL_law_631 (pc' := 632) rfl ?_
        refine g_sld (j := 4 * k + 1) h hw dL_law_632 rfl (by omega) (by omega) (pc' := 633) rfl ?_
        refine g_callR h dL_law_633 cf_L_91 hm2 hrc rfl rfl rfl (by decide) rfl (Nat.le_of_ble_eq_true rfl) (pc' := 636) rfl ?_
        refine g_icmp_eqT (tg := 766) h dL_law_636 (by decide) rfl ?_
        exact fin wc' wr' hR'
      · skip
        refine g_tabIn (off := 609) (tg := 641) h dL_law_32 (by decide) (by decide) (by decide) (by decide) ?_
        obtain ⟨x, wc', wr', hm1, hm2, hR'⟩ := s_rings  k wc wr hk hR
        obtain ⟨fs, hrc⟩ := hR.rcR
        refine g_aload_n (i := 1) h dL_law_641 rfl rfl (pc' := 642) rfl ?_
        refine g_callC h dL_law_642 cf_L_92 hm1 hR.rcC rfl rfl rfl (by decide) rfl (Nat.le_of_ble_eq_true rfl) (pc' := 645) rfl ?_
        refine g_aload_n (i := 2) h dL_law_645 rfl rfl (pc' := 646) rfl ?_
        refine g_callR h dL_law_646 cf_L_95 hm2 hrc rfl rfl rfl (by decide) rfl (Nat.le_of_ble_eq_true rfl) (pc' := 649) rfl ?_
        refine g_icmp_eqT (tg := 766) h dL_law_649 (by decide) rfl ?_
        exact fin wc' wr' hR'
      · skip
        refine g_tabIn (off := 622) (tg := 654) h dL_law_32 (by decide) (by decide) (by decide) (by decide) ?_
        obtain ⟨x, wc', wr', hm1, hm2, hR'⟩ := s_ring (xs (4 * k + 1)) k wc wr hk hR
        obtain ⟨fs, hrc⟩ := hR.rcR
        refine g_aload_n (i := 1) h dL_law_654 rfl rfl (pc' := 655) rfl ?_
        refine g_aload_n (i := 0) h dL_law_655 rfl rfl (pc' := 656) rfl ?_
        refine g_iload_n (i := 3) h dL_law_656 rfl rfl (pc' := 657) rfl ?_
        refine g_iconst (v := nI 1) h dL_law_657 (by decide) (pc' := 658) rfl ?_
        refine g_iaddN h dL_law_658 (pc' := 659) rfl ?_
        refine g_sld (j := 4 * k + 1) h hw dL_law_659 rfl (by omega) (by omega) (pc' := 660) rfl ?_
        refine g_callC h dL_law_660 cf_L_96 hm1 hR.rcC rfl rfl rfl (by decide) rfl (Nat.le_of_ble_eq_true rfl) (pc' := 663) rfl ?_
        refine g_aload_n (i := 2) h dL_law_663 rfl rfl (pc' := 664) rfl ?_
        refine g_aload_n (i := 0) h dL_law_664 rfl rfl (pc' := 665) rfl ?_
        refine g_iload_n (i := 3) h dL_law_665 rfl rfl (pc' := 666) rfl ?_
        refine g_iconst (v := nI 1) h dL_law_666 (by decide) (pc' := 667) rfl ?_
        refine g_iaddN h dL_law_667 (pc' := 668) rfl ?_
        refine g_sld (j := 4 * k + 1) h hw dL_law_668 rfl (by omega) (by omega) (pc' := 669) rfl ?_
        refine g_callR h dL_law_669 cf_L_99 hm2 hrc rfl rfl rfl (by decide) rfl (Nat.le_of_ble_eq_true rfl) (pc' := 672) rfl ?_
        refine g_icmp_eqT (tg := 766) h dL_law_672 (by decide) rfl ?_
        exact fin wc' wr' hR'
      · skip
        refine g_tabIn (off := 645) (tg := 677) h dL_law_32 (by decide) (by decide) (by decide) (by decide) ?_
        obtain ⟨x, wc', wr', hm1, hm2, hR'⟩ := s_cancel  k wc wr hk hR
        obtain ⟨fs, hrc⟩ := hR.rcR
        refine g_aload_n (i := 1) h dL_law_677 rfl rfl (pc' := 678) rfl ?_
        refine g_callC h dL_law_678 cf_L_100 hm1 hR.rcC rfl rfl rfl (by decide) rfl (Nat.le_of_ble_eq_true rfl) (pc' := 681) rfl ?_
        refine g_aload_n (i := 2) h dL_law_681 rfl rfl (pc' := 682) rfl ?_
        refine g_callR h dL_law_682 cf_L_103 hm2 hrc rfl rfl rfl (by decide) rfl (Nat.le_of_ble_eq_true rfl) (pc' := 685) rfl ?_
        refine g_icmp_eqT (tg := 766) h dL_law_685 (by decide) rfl ?_
        exact fin wc' wr' hR'
      · skip
        refine g_tabIn (off := 658) (tg := 690) h dL_law_32 (by decide) (by decide) (by decide) (by decide) ?_
        obtain ⟨x, wc', wr', hm1, hm2, hR'⟩ := s_cancelAll  k wc wr hk hR
        obtain ⟨fs, hrc⟩ := hR.rcR
        refine g_aload_n (i := 1) h dL_law_690 rfl rfl (pc' := 691) rfl ?_
        refine g_callC h dL_law_691 cf_L_104 hm1 hR.rcC rfl rfl rfl (by decide) rfl (Nat.le_of_ble_eq_true rfl) (pc' := 694) rfl ?_
        refine g_aload_n (i := 2) h dL_law_694 rfl rfl (pc' := 695) rfl ?_
        refine g_callR h dL_law_695 cf_L_107 hm2 hrc rfl rfl rfl (by decide) rfl (Nat.le_of_ble_eq_true rfl) (pc' := 698) rfl ?_
        refine g_icmp_eqT (tg := 766) h dL_law_698 (by decide) rfl ?_
        exact fin wc' wr' hR'
      · skip
        refine g_tabIn (off := 671) (tg := 703) h dL_law_32 (by decide) (by decide) (by decide) (by decide) ?_
        obtain ⟨x, wc', wr', hm1, hm2, hR'⟩ := s_day  k wc wr hk hR
        obtain ⟨fs, hrc⟩ := hR.rcR
        refine g_aload_n (i := 1) h dL_law_703 rfl rfl (pc' := 704) rfl ?_
        refine g_callC h dL_law_704 cf_L_108 hm1 hR.rcC rfl rfl rfl (by decide) rfl (Nat.le_of_ble_eq_true rfl) (pc' := 707) rfl ?_
        refine g_aload_n (i := 2) h dL_law_707 rfl rfl (pc' := 708) rfl ?_
        refine g_callR h dL_law_708 cf_L_111 hm2 hrc rfl rfl rfl (by decide) rfl (Nat.le_of_ble_eq_true rfl) (pc' := 711) rfl ?_
        refine g_icmp_eqT (tg := 766) h dL_law_711 (by decide) rfl ?_
        exact fin wc' wr' hR'
      · skip
        refine g_tabIn (off := 684) (tg := 716) h dL_law_32 (by decide) (by decide) (by decide) (by decide) ?_
        obtain ⟨x, wc', wr', hm1, hm2, hR'⟩ := s_days  k wc wr hk hR
        obtain ⟨fs, hrc⟩ := hR.rcR
        refine g_aload_n (i := 1) h dL_law_716 rfl rfl (pc' := 717) rfl ?_
        refine g_callC h dL_law_717 cf_L_112 hm1 hR.rcC rfl rfl rfl (by decide) rfl (Nat.le_of_ble_eq_true rfl) (pc' := 720) rfl ?_
        refine g_aload_n (i := 2) h dL_law_720 rfl rfl (pc' := 721) rfl ?_
        refine g_callR h dL_law_721 cf_L_115 hm2 hrc rfl rfl rfl (by decide) rfl (Nat.le_of_ble_eq_true rfl) (pc' := 724) rfl ?_
        refine g_icmp_eqT (tg := 766) h dL_law_724 (by decide) rfl ?_
        exact fin wc' wr' hR'
      · skip
        refine g_tabIn (off := 697) (tg := 729) h dL_law_32 (by decide) (by decide) (by decide) (by decide) ?_
        obtain ⟨x, wc', wr', hm1, hm2, hR'⟩ := s_count (xs (4 * k + 1)) k wc wr hk hR
        obtain ⟨fs, hrc⟩ := hR.rcR
        refine g_aload_n (i := 1) h dL_law_729 rfl rfl (pc' := 730) rfl ?_
        refine g_aload_n (i := 0) h dL_law_730 rfl rfl (pc' := 731) rfl ?_
        refine g_iload_n (i := 3) h dL_law_731 rfl rfl (pc' := 732) rfl ?_
        refine g_iconst (v := nI 1) h dL_law_732 (by decide) (pc' := 733) rfl ?_
        refine g_iaddN h dL_law_733 (pc' := 734) rfl ?_
        refine g_sld (j := 4 * k + 1) h hw dL_law_734 rfl (by omega) (by omega) (pc' := 735) rfl ?_
        refine g_callC h dL_law_735 cf_L_116 hm1 hR.rcC rfl rfl rfl (by decide) rfl (Nat.le_of_ble_eq_true rfl) (pc' := 738) rfl ?_
        refine g_aload_n (i := 2) h dL_law_738 rfl rfl (pc' := 739) rfl ?_
        refine g_aload_n (i := 0) h dL_law_739 rfl rfl (pc' := 740) rfl ?_
        refine g_iload_n (i := 3) h dL_law_740 rfl rfl (pc' := 741) rfl ?_
        refine g_iconst (v := nI 1) h dL_law_741 (by decide) (pc' := 742) rfl ?_
        refine g_iaddN h dL_law_742 (pc' := 743) rfl ?_
        refine g_sld (j := 4 * k + 1) h hw dL_law_743 rfl (by omega) (by omega) (pc' := 744) rfl ?_
        refine g_callR h dL_law_744 cf_L_119 hm2 hrc rfl rfl rfl (by decide) rfl (Nat.le_of_ble_eq_true rfl) (pc' := 747) rfl ?_
        refine g_icmp_eqT (tg := 766) h dL_law_747 (by decide) rfl ?_
        exact fin wc' wr' hR'
      · skip
        refine g_tabIn (off := 720) (tg := 752) h dL_law_32 (by decide) (by decide) (by decide) (by decide) ?_
        obtain ⟨x, wc', wr', hm1, hm2, hR'⟩ := s_digest  k wc wr hk hR
        obtain ⟨fs, hrc⟩ := hR.rcR
        refine g_aload_n (i := 1) h dL_law_752 rfl rfl (pc' := 753) rfl ?_
        refine g_callC h dL_law_753 cf_L_120 hm1 hR.rcC rfl rfl rfl (by decide) rfl (Nat.le_of_ble_eq_true rfl) (pc' := 756) rfl ?_
        refine g_aload_n (i := 2) h dL_law_756 rfl rfl (pc' := 757) rfl ?_
        refine g_callR h dL_law_757 cf_L_124 hm2 hrc rfl rfl rfl (by decide) rfl (Nat.le_of_ble_eq_true rfl) (pc' := 760) rfl ?_
        refine g_lcmp_eq (pc1 := 761) (tg := 766) h dL_law_760 rfl dL_law_761 (by decide) (pc' := 764) rfl (fun cd => ?_) (fun cd => absurd rfl cd)
        exact fin wc' wr' hR'
      · skip
        refine g_tabOut (tg := 766) h dL_law_32 (by decide) (by decide) ?_
        exact fin wc wr hR.up
      · skip
        refine g_tabOut (tg := 766) h dL_law_32 (by decide) (by decide) ?_
        exact fin wc wr hR.up
      · skip
        refine g_tabOut (tg := 766) h dL_law_32 (by decide) (by decide) ?_
        exact fin wc wr hR.up
      · skip
        refine g_tabOut (tg := 766) h dL_law_32 (by decide) (by decide) ?_
        exact fin wc wr hR.up
      · skip
        refine g_tabOut (tg := 766) h dL_law_32 (by decide) (by decide) ?_
        exact fin wc wr hR.up
      · skip
        refine g_tabOut (tg := 766) h dL_law_32 (by decide) (by decide) ?_
        exact fin wc wr hR.up

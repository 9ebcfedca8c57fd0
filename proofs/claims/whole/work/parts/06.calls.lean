section CG
variable {p : Program} {l : Launch} {e : Env} {R : Room} {s : State} {m : MethodId} {args : Array Value} {below : List Frame} {meth : Method} {c : Code} {H : Heap} {locs : List Loc} {ce sl : Nat} {Q : State → Prop}
theorem call_go {Z : ZT} {pc : Nat} {ls : Array Slot} {rest st0 : List Value} {a : Array Value} {A : Nat → Prop} {v : Option Value} {w1 w1' : va_W} (hr : va_Run p l e R s m args below meth c H locs ce sl 0 0 (F0 m pc ls st0) rest (mQ Z v w1' (va_A w1 H.size) a) (va_A w1 H.size)) (hS : va_S A s.heap H locs) (hA : ∀ q, va_A w1 H.size q → A q)
    (kk : ∀ (H1 : Heap) (locs1 : List Loc), va_P Z.1 clsL w1' H1 → va_D (va_A w1 H.size) w1' → (∀ q : Nat, q < H.size → ¬ va_A w1 H.size q → H1[q]? = H[q]?) → va_S A s.heap H1 locs1 → W p l e R s m args below meth c H1 locs1 ce sl Q (F0 m (pc + 3) ls (v.toList ++ rest))) : W p l e R s m args below meth c H locs ce sl Q (F0 m pc ls st0) := by
  intro T hT X
  obtain ⟨v0, st₀, t, T', L, h0, X', hL, e1, e2, ⟨⟨hv, hP1, hK1, hD1⟩, hz, hk⟩, st⟩ := hr T hT X
  cases hv
  rw [h0] at hz hk
  obtain ⟨t2, a1, b1⟩ := kk T'.heap (locs ++ L) (by rw [e1]; exact hP1) hD1 (fun q h1 h2 => by rw [e1]; exact hk q h1 h2)
    ⟨Nat.le_trans hS.1 (by rw [e1]; exact hz), fun q h1 h2 => by rw [e1, hk q (Nat.lt_of_lt_of_le h1 hS.1) (fun z => h2 (hA q z))]; exact hS.2.1 q h1 h2, fun q hq => by
      rcases List.mem_append.mp hq with h | h
      · exact hS.2.2 q h
      · exact hA _ (hL q h)⟩ T' rfl X'
  exact ⟨t2, st t2 a1, b1⟩
end CG
/-- the tables' words of a call -/
def CF (k : Nat) (own : String) (index : Nat) (y : MethodName) (bytes : ByteArray) (maxL : Nat) (ret : Option FieldType) (n : Nat) : Prop :=
  (match k with
    | 0 => Cond.methodLink own index y ∈ tblG ∧ Cond.instanceMethod y ∈ tblG ∧ Cond.selects y.cls y y ∈ tblG
    | 1 => Cond.methodLink own index y ∈ tblG ∧ Cond.static y ∈ tblG
    | _ => (own, index, y) ∈ nestL ∧ Cond.static y ∈ tblG) ∧
  Cond.initialized y.cls ∈ tblG ∧ Cond.code y bytes maxL ret ∈ tblG ∧ (y.cls ≠ "java/lang/invoke/MethodHandle" ∧ y.cls ≠ "java/lang/invoke/VarHandle") ∧ (parseMethodDescriptor y.desc).map (fun d => d.parameters.length) = some n
theorem num_par {y : MethodName} {n : Nat} (h : (parseMethodDescriptor y.desc).map (fun d => d.parameters.length) = some n) : ∀ sig, parseMethodDescriptor y.desc = some sig → n = sig.parameters.length := by
  intro sig hs
  rw [hs] at h
  exact (Option.some.inj h).symm
/-- the callee's world at a call, out of the caller's -/
theorem zST.at {Z : ZT} {A B : Nat → Prop} {s U : State} {H : Heap} {locs : List Loc} (hz : zST Z A s s.heap) (hS : va_S A s.heap H locs) (hU : U.heap = H) (hW : s.WarmedH U.vm) (hAB : ∀ q, B q → A q) : zST Z B U U.heap := by
  subst hU
  have hq : ∀ a : Nat, a < s.heap.size → ¬ A a → U.heap[a]? = s.heap[a]? := fun a h1 h2 => hS.2.1 a h1 h2
  exact ⟨((va_Z.moved hW.alike hz.1).kept hq).narrow hAB, ((va_T.moved hW.alike hz.2.1).kept hq).narrow hAB, fun q h => va_Nw.warmM hW (hz.2.2 q h)⟩
theorem va_A_mid {A : Nat → Prop} {w0 w1 w2 : va_W} {H0 H : Heap} {locs : List Loc} (hD : va_D A (w0 ++ (w1 ++ w2))) (hS : va_S A H0 H locs) (hA : ∀ q, H0.size ≤ q → A q) : ∀ q, va_A w1 H.size q → A q := by
  intro q h
  rcases h with ⟨k, e, h⟩ | h
  · have hlt : k < w1.length := (List.getElem?_eq_some_iff.mp h).1
    have : (w0 ++ (w1 ++ w2))[w0.length + k]? = some (q, e) := by
      rw [List.getElem?_append_right (by omega), Nat.add_sub_cancel_left, List.getElem?_append_left hlt]
      exact h
    exact hD.2 _ _ this
  · exact hA q (Nat.le_trans hS.1 h)
theorem mid_P {D : va_G} {cl : List vw_C} {w0 w1 w2 : va_W} {H : Heap} (hP : va_P D cl (w0 ++ (w1 ++ w2)) H) : va_P D cl w1 H := fun k q hq => by
  have hlt : k < w1.length := (List.getElem?_eq_some_iff.mp hq).1
  refine hP (w0.length + k) q ?_
  rw [List.getElem?_append_right (by omega), Nat.add_sub_cancel_left, List.getElem?_append_left hlt]
  exact hq
theorem mid_D {A : Nat → Prop} {w0 w1 w2 : va_W} (hD : va_D A (w0 ++ (w1 ++ w2))) : va_D A w1 := by
  have key : ∀ (k : Nat) (q : Nat × va_E), w1[k]? = some q → (w0 ++ (w1 ++ w2))[w0.length + k]? = some q := fun k q hq => by
    have hlt : k < w1.length := (List.getElem?_eq_some_iff.mp hq).1
    rw [List.getElem?_append_right (by omega), Nat.add_sub_cancel_left, List.getElem?_append_left hlt]
    exact hq
  refine ⟨fun i j p q hp hq h => ?_, fun k q hq => hD.2 _ q (key k q hq)⟩
  have := hD.1 _ _ p q (key i p hp) (key j q hq) h
  omega
/-- behind the call: the callee's new world in the middle of the caller's, the rest as it was -/
theorem mid_join {A : Nat → Prop} {D : va_G} {cl : List vw_C} {w0 w1 w2 w1' : va_W} {H H1 : Heap} (hP : va_P D cl (w0 ++ (w1 ++ w2)) H) (hD : va_D A (w0 ++ (w1 ++ w2))) (hk : ∀ q : Nat, q < H.size → ¬ va_A w1 H.size q → H1[q]? = H[q]?) (hA : ∀ q, va_A w1 H.size q → A q)
    (hP1 : va_P D cl w1' H1) (hD1 : va_D (va_A w1 H.size) w1') : va_P D cl (w0 ++ (w1' ++ w2)) H1 ∧ va_D A (w0 ++ (w1' ++ w2)) := by
  have k1 : ∀ (k : Nat) (q : Nat × va_E), w1[k]? = some q → (w0 ++ (w1 ++ w2))[w0.length + k]? = some q := fun k q hq => by
    have hlt : k < w1.length := (List.getElem?_eq_some_iff.mp hq).1
    rw [List.getElem?_append_right (by omega), Nat.add_sub_cancel_left, List.getElem?_append_left hlt]
    exact hq
  have k0 : ∀ (k : Nat) (q : Nat × va_E), w0[k]? = some q → (w0 ++ (w1 ++ w2))[k]? = some q := fun k q hq => by
    have hlt : k < w0.length := (List.getElem?_eq_some_iff.mp hq).1
    rw [List.getElem?_append_left hlt]
    exact hq
  have k2 : ∀ (k : Nat) (q : Nat × va_E), w2[k]? = some q → (w0 ++ (w1 ++ w2))[w0.length + (w1.length + k)]? = some q := fun k q hq => by
    rw [List.getElem?_append_right (by omega), Nat.add_sub_cancel_left, List.getElem?_append_right (by omega), Nat.add_sub_cancel_left]
    exact hq
  have ap : ∀ (i : Nat) (q : Nat × va_E), (w0 ++ (w1 ++ w2))[i]? = some q → (i < w0.length ∨ w0.length + w1.length ≤ i) → q.1 < H.size ∧ ¬ va_A w1 H.size q.1 := by
    intro i q hq hi
    have hl := (hP i q hq).lt
    refine ⟨hl, fun h => ?_⟩
    rcases h with ⟨k, e, h⟩ | h
    · have hlt : k < w1.length := (List.getElem?_eq_some_iff.mp h).1
      have := hD.1 i (w0.length + k) q (q.1, e) hq (k1 k _ h) rfl
      omega
    · omega
  have a0 : ∀ (k : Nat) (q : Nat × va_E), w0[k]? = some q → q.1 < H.size ∧ ¬ va_A w1 H.size q.1 := fun k q hq => ap k q (k0 k q hq) (Or.inl (List.getElem?_eq_some_iff.mp hq).1)
  have a2 : ∀ (k : Nat) (q : Nat × va_E), w2[k]? = some q → q.1 < H.size ∧ ¬ va_A w1 H.size q.1 := fun k q hq => ap _ q (k2 k q hq) (Or.inr (by omega))
  have P0 : va_P D cl w0 H1 := fun k q hq => (hP _ q (k0 k q hq)).kept (hk q.1 (a0 k q hq).1 (a0 k q hq).2)
  have P2 : va_P D cl w2 H1 := fun k q hq => (hP _ q (k2 k q hq)).kept (hk q.1 (a2 k q hq).1 (a2 k q hq).2)
  have D0 : va_D A w0 := ⟨fun i j p q hp hq h => hD.1 i j p q (k0 i p hp) (k0 j q hq) h, fun k q hq => hD.2 k q (k0 k q hq)⟩
  have D2 : va_D A w2 := ⟨fun i j p q hp hq h => by have := hD.1 _ _ p q (k2 i p hp) (k2 j q hq) h; omega, fun k q hq => hD.2 _ q (k2 k q hq)⟩
  refine ⟨P0.app (hP1.app P2), D0.app ((hD1.weaken (fun k q _ h => hA q.1 h)).app D2 (fun i j x y hx hy hxy => (a2 j y hy).2 (hxy ▸ hD1.2 i x hx))) (fun i j x y hx hy hxy => ?_)⟩
  rcases List.mem_append.mp (List.mem_of_getElem? hy) with h | h
  · obtain ⟨j', hj'⟩ := List.getElem?_of_mem h
    exact (a0 i x hx).2 (hxy ▸ hD1.2 j' y hj')
  · obtain ⟨j', hj'⟩ := List.getElem?_of_mem h
    have := hD.1 _ _ x y (k0 i x hx) (k2 j' y hj') hxy
    have := (List.getElem?_eq_some_iff.mp hx).1
    omega
theorem g_callM {Z : ZT} {X : XT} {cc : ByteArray} {own : String} {nL : Nat} {R : Room} {pc pc' : Nat} {L : List (Option Value)} {S rest : List Value} {w0 w1 w2 w1' : va_W} {y : MethodName} {bytes : ByteArray} {maxL d n index q0 ci : Nat} {ret : Option FieldType} {b : Nat} {As : List Value} {v : Option Value} {q : vw_C} {fs : List Value}
    (h : OK Z X cc own nL R) (hd : decode cc pc = .ok (.invokevirtual index, 3)) (cf : CF 0 own index y bytes maxL ret n) (hM : MM Z y bytes maxL ret d (.ref b :: As) w1 v w1')
    (hq : w1[q0]? = some (b, .inr (ci, fs))) (hc : clsL[ci]? = some q) (hqc : q.1 = y.cls) (hn : As.length = n) (hR : d + 1 ≤ R.frames ∧ 8 + (maxL + 11) + 30 * d ≤ R.locals) (hst : S = As.reverse ++ .ref b :: rest) (h8 : (rest.map fun v => v.category).sum ≤ 8) (hp : pc + 3 = pc')
    (k : GG Z X pc' L (v.toList ++ rest) (w0 ++ (w1' ++ w2))) : GG Z X pc L S (w0 ++ (w1 ++ w2)) := by
  obtain ⟨p, l, e, R0, s, m, args, below, meth, c, ce, sl, nL', A, Q⟩ := X
  obtain ⟨⟨hx, hb, hml⟩, hown, hts, hlk, hK, hST, hA, rfl, rfl, hce, hsl⟩ := h
  subst hp
  subst hst
  intro H locs ls hP hD hS hl
  obtain ⟨⟨hlink, hinst, hsel⟩, hini, hco, hy, hnp⟩ := cf
  have hAm := va_A_mid hD hS hA
  obtain ⟨cellB, r1, r2, r3⟩ := va_recv hK (mid_P hP) hc hq
  rw [hqc] at r3
  refine call_go (v := v) (w1 := w1) (w1' := w1') (rest := rest) (va_runV (C := y.cls) (As := As) (n := n) ⟨hx, hb, hml, hown, hts⟩ (hM l H.size)
    ⟨⟨rfl, rfl, hR.1, hR.2, pay_in hts (good_cons hco), List.mem_cons_self, hts _ hco, hts _ hini, hy, num_par hnp, hts _ hlink⟩, hts _ hinst, hts _ hsel⟩
    ⟨mP_blind, ⟨cellB, r1, r2, r3⟩, fun U hU hW => ⟨rfl, by rw [hU], by rw [hU]; exact mid_P hP, va_K.moved hW.alike hK, (mid_D hD).weaken (fun _ _ _ _ => trivial), hST.at hS hU hW hAm⟩⟩ rfl hn hl.1 rfl (lv_room h8) hd ⟨hce, hsl⟩) hS hAm (fun H1 locs1 hP1 hD1 hk hS1 => ?_)
  obtain ⟨hP2, hD2⟩ := mid_join hP hD hk hAm hP1 hD1
  exact k H1 locs1 ls hP2 hD2 hS1 hl
theorem g_callV {Z : ZT} {X : XT} {cc : ByteArray} {own : String} {nL : Nat} {R : Room} {pc pc' : Nat} {L : List (Option Value)} {S rest : List Value} {w w' : va_W} {y : MethodName} {bytes : ByteArray} {maxL d n index q0 ci : Nat} {ret : Option FieldType} {b : Nat} {As : List Value} {v : Option Value} {q : vw_C} {fs : List Value}
    (h : OK Z X cc own nL R) (hd : decode cc pc = .ok (.invokevirtual index, 3)) (cf : CF 0 own index y bytes maxL ret n) (hM : MM Z y bytes maxL ret d (.ref b :: As) w v w')
    (hq : w[q0]? = some (b, .inr (ci, fs))) (hc : clsL[ci]? = some q) (hqc : q.1 = y.cls) (hn : As.length = n) (hR : d + 1 ≤ R.frames ∧ 8 + (maxL + 11) + 30 * d ≤ R.locals) (hst : S = As.reverse ++ .ref b :: rest) (h8 : (rest.map fun v => v.category).sum ≤ 8) (hp : pc + 3 = pc')
    (k : GG Z X pc' L (v.toList ++ rest) w') : GG Z X pc L S w := by
  have e1 : w = [] ++ (w ++ []) := by simp
  have e2 : w' = [] ++ (w' ++ []) := by simp
  rw [e1]
  rw [e2] at k
  exact g_callM h hd cf hM hq hc hqc hn hR hst h8 hp k
theorem g_callS {Z : ZT} {X : XT} {cc : ByteArray} {own : String} {nL : Nat} {R : Room} {pc pc' : Nat} {L : List (Option Value)} {S rest : List Value} {w w' : va_W} {y : MethodName} {bytes : ByteArray} {maxL d n index : Nat} {ret : Option FieldType} {As : List Value} {v : Option Value}
    (h : OK Z X cc own nL R) (hd : decode cc pc = .ok (.invokestatic index, 3)) (cf : CF 1 own index y bytes maxL ret n) (hM : MM Z y bytes maxL ret d As w v w')
    (hn : As.length = n) (hR : d + 1 ≤ R.frames ∧ 8 + (maxL + 11) + 30 * d ≤ R.locals) (hst : S = As.reverse ++ rest) (h8 : (rest.map fun v => v.category).sum ≤ 8) (hp : pc + 3 = pc')
    (k : GG Z X pc' L (v.toList ++ rest) w') : GG Z X pc L S w := by
  have e1 : w = [] ++ (w ++ []) := by simp
  have e2 : w' = [] ++ (w' ++ []) := by simp
  rw [e1]
  rw [e2] at k
  obtain ⟨p, l, e, R0, s, m, args, below, meth, c, ce, sl, nL', A, Q⟩ := X
  obtain ⟨⟨hx, hb, hml⟩, hown, hts, hlk, hK, hST, hA, rfl, rfl, hce, hsl⟩ := h
  subst hp
  subst hst
  intro H locs ls hP hD hS hl
  obtain ⟨⟨hlink, hstt⟩, hini, hco, hy, hnp⟩ := cf
  have hAm := va_A_mid hD hS hA
  refine call_go (v := v) (w1 := w) (w1' := w') (rest := rest) (va_runS (As := As) (n := n) ⟨hx, hb, hml, hown, hts⟩ (hM l H.size)
    ⟨⟨rfl, rfl, hR.1, hR.2, pay_in hts (good_cons hco), List.mem_cons_self, hts _ hco, hts _ hini, hy, num_par hnp, hts _ hlink⟩, hts _ hstt⟩
    ⟨mP_blind, fun U hU hW => ⟨rfl, by rw [hU], by rw [hU]; exact mid_P hP, va_K.moved hW.alike hK, (mid_D hD).weaken (fun _ _ _ _ => trivial), hST.at hS hU hW hAm⟩⟩ rfl hn hl.1 rfl (lv_room h8) hd ⟨hce, hsl⟩) hS hAm (fun H1 locs1 hP1 hD1 hk hS1 => ?_)
  obtain ⟨hP2, hD2⟩ := mid_join hP hD hk hAm hP1 hD1
  exact k H1 locs1 ls hP2 hD2 hS1 hl
theorem g_callN {Z : ZT} {X : XT} {cc : ByteArray} {own : String} {nL : Nat} {R : Room} {pc pc' : Nat} {L : List (Option Value)} {S rest : List Value} {w w' : va_W} {y : MethodName} {bytes : ByteArray} {maxL d n index : Nat} {ret : Option FieldType} {As : List Value} {v : Option Value}
    (h : OK Z X cc own nL R) (hd : decode cc pc = .ok (.invokestatic index, 3)) (cf : CF 2 own index y bytes maxL ret n) (hM : MM Z y bytes maxL ret d As w v w')
    (hn : As.length = n) (hR : d + 1 ≤ R.frames ∧ 8 + (maxL + 11) + 30 * d ≤ R.locals) (hst : S = As.reverse ++ rest) (h8 : (rest.map fun v => v.category).sum ≤ 8) (hp : pc + 3 = pc')
    (k : GG Z X pc' L (v.toList ++ rest) w') : GG Z X pc L S w := by
  have e1 : w = [] ++ (w ++ []) := by simp
  have e2 : w' = [] ++ (w' ++ []) := by simp
  rw [e1]
  rw [e2] at k
  obtain ⟨p, l, e, R0, s, m, args, below, meth, c, ce, sl, nL', A, Q⟩ := X
  obtain ⟨⟨hx, hb, hml⟩, hown, hts, hlk, hK, hST, hA, rfl, rfl, hce, hsl⟩ := h
  subst hp
  subst hst
  intro H locs ls hP hD hS hl
  obtain ⟨⟨hlink, hstt⟩, hini, hco, hy, hnp⟩ := cf
  have hAm := va_A_mid hD hS hA
  refine call_go (v := v) (w1 := w) (w1' := w') (rest := rest) (va_runSN (host := "WhoPays") (As := As) (n := n) ⟨hx, hb, hml, hown, hts⟩ (hM l H.size)
    ⟨⟨⟨rfl, rfl, hR.1, hR.2, pay_in hts (good_cons hco), List.mem_cons_self⟩, hts _ hco, hts _ hini, hy, num_par hnp, va_Nw.use rfl (hST.2.2 _ hlink)⟩, hts _ hstt, trivial⟩
    ⟨mP_blind, fun U hU hW => ⟨rfl, by rw [hU], by rw [hU]; exact mid_P hP, va_K.moved hW.alike hK, (mid_D hD).weaken (fun _ _ _ _ => trivial), hST.at hS hU hW hAm⟩⟩ rfl hn hl.1 rfl (lv_room h8) hd ⟨hce, hsl⟩) hS hAm (fun H1 locs1 hP1 hD1 hk hS1 => ?_)
  obtain ⟨hP2, hD2⟩ := mid_join hP hD hk hAm hP1 hD1
  exact k H1 locs1 ls hP2 hD2 hS1 hl

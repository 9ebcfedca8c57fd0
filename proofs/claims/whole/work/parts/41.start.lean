theorem K_uI {D : va_G} {tys : List (ClassId × FieldType)} {s : State} (hK : va_K D clsL tys s) (i j : Nat) {a b : ClassId} (hi : tys[i]? = some (a, .int)) (hj : tys[j]? = some (b, .int)) : a = b :=
  Option.some.inj ((show s.vm.findClass _ = some a from (hK.2 i _ hi).2).symm.trans (show s.vm.findClass _ = some b from (hK.2 j _ hj).2))
theorem K_uJ {D : va_G} {tys : List (ClassId × FieldType)} {s : State} (hK : va_K D clsL tys s) (i j : Nat) {a b : ClassId} (hi : tys[i]? = some (a, .long)) (hj : tys[j]? = some (b, .long)) : a = b :=
  Option.some.inj ((show s.vm.findClass _ = some a from (hK.2 i _ hi).2).symm.trans (show s.vm.findClass _ = some b from (hK.2 j _ hj).2))
theorem nest_in : ∀ q ∈ nestL, Cond.methodLinkNest q.1 q.2.1 q.2.2 "WhoPays" ∈ lw_tbl := by decide +kernel
theorem all_el : ∀ j, j < 20 → (Cond.eq (.elem (.static "WhoPays$Rings" "ALL" "[I") (.int (Int32.ofNat j))) (.int (allR j))) ∈ flatC (Jvm.Cond.and given_1 narrow_1) := by decide +kernel
theorem co_lw1 : Cond.methodLink RL 9 yX3_init ∈ tblG := mG 36 (by decide +kernel) rfl
theorem co_lw2 : Cond.methodLink RL 12 yX4_init ∈ tblG := mG 437 (by decide +kernel) rfl
theorem co_lc1 : Cond.classLink RL 7 RX3 ∈ tblG := mG 34 (by decide +kernel) rfl
theorem co_lc2 : Cond.classLink RL 10 RX4 ∈ tblG := mG 435 (by decide +kernel) rfl
theorem goLG {a : Array Value} {s : State} (hts : ∀ w ∈ lw_tbl, w.before a s = true) : ∀ w ∈ tblG, w.before a s = true := fun w h => hts w (List.mem_filter.mp h).1
set_option maxRecDepth 20000 in
set_option maxHeartbeats 8000000 in
/-- THE LAW, from its entry -/
theorem whole_start {p : Program} {e : Env} {s : State} {m : MethodId} {below : List Frame} {meth : Method} {c : Code} (l : Launch) (hflags : l.flags = flags0) {b L : Nat} {xs : Nat → Int32} (hL : L ≤ 2048) (C0 : lw_At p s m meth c b L xs) : W p l e room_1 s m #[Value.ref b] below meth c s.heap [] 0 0 (lw_Z below #[Value.ref b] s) (entryFrame m ([Value.ref b] : List Value).toArray 4) := by
  obtain ⟨hx, hb, hr, hml, hown, hts, hX, hbl, hlocks, hgv⟩ := id C0
  have htg := goLG hts
  obtain ⟨c0, iS0, hKn0⟩ := u_known (C := RX0) (T := TX0) (N := 5) (n := 5) htg inX0 (htg _ co_ins_X0)
  obtain ⟨c1, iS1, hKn1⟩ := u_known (C := RX1) (T := TX1) (N := 8) (n := 8) htg inX1 (htg _ co_ins_X1)
  obtain ⟨c2, iS2, hKn2⟩ := u_known (C := RX2) (T := TX2) (N := 1) (n := 1) htg inX2 (htg _ co_ins_X2)
  obtain ⟨c3, iS3, hKn3⟩ := u_known (C := RX3) (T := TX3) (N := 3) (n := 3) htg inX3 (htg _ co_ins_X3)
  obtain ⟨c4, iS4, hKn4⟩ := u_known (C := RX4) (T := TX4) (N := 18) (n := 18) htg inX4 (htg _ co_ins_X4)
  obtain ⟨D, hKc⟩ : ∃ D : va_G, ∀ (k : Nat) (q : vw_C), clsL[k]? = some q → u_Kn s q.1 q.2.1 q.2.2 (D.1 k) (D.2 k) := by
    refine ⟨(fun k => if k = 0 then c0 else if k = 1 then c1 else if k = 2 then c2 else if k = 3 then c3 else c4, fun k => if k = 0 then iS0 else if k = 1 then iS1 else if k = 2 then iS2 else if k = 3 then iS3 else iS4), ?_⟩
    intro k q hq
    match k, hq with
    | 0, hq => cases hq; exact hKn0
    | 1, hq => cases hq; exact hKn1
    | 2, hq => cases hq; exact hKn2
    | 3, hq => cases hq; exact hKn3
    | 4, hq => cases hq; exact hKn4
    | k + 5, hq => simp [clsL] at hq
  have hK0 : va_K D clsL [] s := ⟨hKc, fun k q h => by simp at h⟩
  have hP0 : va_P D clsL [] s.heap := fun k q h => by simp at h
  have hD0 : va_D (fun q : Nat => s.heap.size ≤ q) [] := ⟨fun i j p q h => by simp at h, fun k q h => by simp at h⟩
  have hnw : zNW s := fun q hq => va_Nw.of rfl (hts _ (nest_in q hq))
  have hs := flat_of_before _ hgv
  obtain ⟨t, hte, hT⟩ := va_Tof (args := #[Value.ref b]) (s := s) (tm := .static "WhoPays$Rings" "ALL" "[I") (ty := .int) (N := 20) (f := fun j => .int (allR j)) (A := fun q : Nat => s.heap.size ≤ q) (by decide) (hs _ (by decide +kernel)) (va_eqt (hs _ (by decide +kernel))) (fun j hj => va_eqt (hs _ (all_el j hj))) (fun a ha => Nat.not_le.mpr ha)
  have hZ : va_Z "WhoPays$Rings" "ALL" "[I" (.ref t) (fun q : Nat => s.heap.size ≤ q) s s.heap := va_Zof (args := #[Value.ref b]) (hts _ (by decide +kernel)) (hts _ (by decide +kernel)) hte (fun a ha => Nat.not_le.mpr ha)
  have hl := lv_entry ([.ref b]) (n := 4) (Nat.le_of_ble_eq_true rfl)
  rw [lg_entry_eq]
  generalize hX0 : ((p, l, e, room_1, s, m, #[Value.ref b], below, meth, c, 21, 167, 4, (fun q : Nat => s.heap.size ≤ q), lw_Z below #[Value.ref b] s) : XT) = X
  have hOC : OC X cL_law RL 4 room_1 := by
    rw [← hX0]
    exact ⟨⟨hx, hb, hml⟩, hown, htg, hlocks, hnw, fun _ h => h, rfl, rfl⟩
  have hLW : LW X b L xs := by
    rw [← hX0]
    exact ⟨hX, hbl, Nat.not_le.mpr hbl, hb, hr, hlocks, fun _ h => h, rfl, rfl, rfl, rfl⟩
  have main : GC D X 0 [some (.ref b), none, none, none] [] [] [] 0 0 := by
    refine c_new (fs := [.null, .null, .null]) (ci := 3) (C := RX3) (T := TX3) (N := 3) (ty := tyX3) hOC dL_law_0 inX3 tyX3_ok co_lc1 co_ins_X3 co_ini_X3 rfl (fun j hj => by rcases (show j = 0 ∨ j = 1 ∨ j = 2 by omega) with rfl | rfl | rfl <;> rfl) (by decide) (by decide) (pc' := 3) rfl (fun ho => ?_)
    refine c_dup hOC dL_law_3 (pc' := 4) rfl ?_
    refine c_call (n := 0) (w0 := []) (rest := [.ref ho]) (As := []) false hOC dL_law_4 rfl co_lw1 co_im_X3 co_ini_X3 co_cd_X3 ⟨by decide +kernel, by decide +kernel⟩ (by decide +kernel) (M_X3_init ho) ⟨rfl, rfl⟩ rfl (by decide) (by decide) (by decide) rfl (Nat.le_of_ble_eq_true rfl) rfl (pc' := 7) rfl (fun w1 t1 hpo => ?_)
    obtain ⟨cq1, cp9q1, cp9k1, cp9q2, cp9k2, cq4, cp24q1, cp24k1, cp24q2, cp24k2, cp24q3, cp24k3, cp24q4, cp24k4, cq9, rfl, rfl⟩ := hpo
    refine c_astore (i := 1) hOC dL_law_7 rfl rfl (by decide) (pc' := 8) rfl ?_
    refine c_new (fs := [.int 0, .int 0, .long 0, .null, .null, .null, .int 0, .null, .long 0, .null, .null, .null, .null, .int 0, .null, .null, .int 0, .long 0]) (ci := 4) (C := RX4) (T := TX4) (N := 18) (ty := tyX4) hOC dL_law_8 inX4 tyX4_ok co_lc2 co_ins_X4 co_ini_X4 rfl (fun j hj => by rcases (show j = 0 ∨ j = 1 ∨ j = 2 ∨ j = 3 ∨ j = 4 ∨ j = 5 ∨ j = 6 ∨ j = 7 ∨ j = 8 ∨ j = 9 ∨ j = 10 ∨ j = 11 ∨ j = 12 ∨ j = 13 ∨ j = 14 ∨ j = 15 ∨ j = 16 ∨ j = 17 by omega) with rfl | rfl | rfl | rfl | rfl | rfl | rfl | rfl | rfl | rfl | rfl | rfl | rfl | rfl | rfl | rfl | rfl | rfl <;> rfl) (by decide) (by decide) (pc' := 11) rfl (fun hm => ?_)
    refine c_dup hOC dL_law_11 (pc' := 12) rfl ?_
    refine c_call (n := 0) (w0 := [(ho, .inr (3, [.ref cq1, .ref cq4, .ref cq9])), (cq1, .inr (0, [.int 1, .int 0, .int 0, .ref cp9q1, .ref cp9q2])), (cp9q1, .inl (cp9k1, 4, .inl (fun _ => 0))), (cp9q2, .inl (cp9k2, 20, .inl (fun _ => 0))), (cq4, .inr (1, [.ref cq1, .ref cp24q1, .ref cp24q2, .ref cp24q3, .ref cp24q4, .int (-1), .int 0, .long 1])), (cp24q1, .inl (cp24k1, 4, .inl (fun _ => 0))), (cp24q2, .inl (cp24k2, 4, .inr (.inl (fun _ => 0)))), (cp24q3, .inl (cp24k3, 16, .inr (.inl (fun _ => 0)))), (cp24q4, .inl (cp24k4, 4, .inr (.inl (fun _ => 0)))), (cq9, .inr (2, [.ref cq1]))]) (rest := [.ref hm]) (As := []) false hOC dL_law_12 rfl co_lw2 co_im_X4 co_ini_X4 co_cd_X4 ⟨by decide +kernel, by decide +kernel⟩ (by decide +kernel) (M_X4_init hm) ⟨rfl, rfl⟩ rfl (by decide) (by decide) (by decide) rfl (Nat.le_of_ble_eq_true rfl) rfl (pc' := 15) rfl (fun w2 t2 hpo => ?_)
    obtain ⟨mq1, mk1, mq2, mk2, mq3, mk3, mq4, mk4, mq5, mk5, mq6, mk6, mq7, mk7, mq8, mk8, mq9, mk9, mq10, mk10, rfl, rfl⟩ := hpo
    refine c_astore (i := 2) hOC dL_law_15 rfl rfl (by decide) (pc' := 16) rfl ?_
    show GC D X 16 [some (.ref b), some (.ref ho), some (.ref hm), none] [] [(ho, .inr (3, [.ref cq1, .ref cq4, .ref cq9])), (cq1, .inr (0, [.int 1, .int 0, .int 0, .ref cp9q1, .ref cp9q2])), (cp9q1, .inl (cp9k1, 4, .inl (fun _ => 0))), (cp9q2, .inl (cp9k2, 20, .inl (fun _ => 0))), (cq4, .inr (1, [.ref cq1, .ref cp24q1, .ref cp24q2, .ref cp24q3, .ref cp24q4, .int (-1), .int 0, .long 1])), (cp24q1, .inl (cp24k1, 4, .inl (fun _ => 0))), (cp24q2, .inl (cp24k2, 4, .inr (.inl (fun _ => 0)))), (cp24q3, .inl (cp24k3, 16, .inr (.inl (fun _ => 0)))), (cp24q4, .inl (cp24k4, 4, .inr (.inl (fun _ => 0)))), (cq9, .inr (2, [.ref cq1])), (hm, .inr (4, [.int 1, .int 0, .long 0, .ref mq1, .ref mq2, .ref mq3, .int 0, .ref mq4, .long 0, .ref mq5, .ref mq6, .ref mq7, .ref mq8, .int 0, .ref mq9, .ref mq10, .int 0, .long 0])), (mq1, .inl (mk1, 4, .inr (.inl (fun _ => 0)))), (mq2, .inl (mk2, 20, .inl (fun _ => 0))), (mq3, .inl (mk3, 4, .inl (fun _ => 0))), (mq4, .inl (mk4, 4, .inr (.inl (fun _ => 0)))), (mq5, .inl (mk5, 16, .inr (.inl (fun _ => 0)))), (mq6, .inl (mk6, 4, .inr (.inl (fun _ => 0)))), (mq7, .inl (mk7, 16, .inr (.inl (fun _ => 0)))), (mq8, .inl (mk8, 4, .inl (fun _ => 0))), (mq9, .inl (mk9, 4, .inl (fun _ => 0))), (mq10, .inl (mk10, 4, .inl (fun _ => 0)))] [(cp9k1, .int), (cp9k2, .int), (cp24k1, .int), (cp24k2, .long), (cp24k3, .long), (cp24k4, .long), (mk1, .long), (mk2, .int), (mk3, .int), (mk4, .long), (mk5, .long), (mk6, .long), (mk7, .long), (mk8, .boolean), (mk9, .int), (mk10, .int)] 21 167
    subst hX0
    intro H locs ls hK hP hD hS hl
    have e1 := K_uI hK 0 1 rfl rfl
    have e2 := K_uI hK 0 2 rfl rfl
    have e7 := K_uI hK 0 7 rfl rfl
    have e8 := K_uI hK 0 8 rfl rfl
    have e14 := K_uI hK 0 14 rfl rfl
    have e15 := K_uI hK 0 15 rfl rfl
    have e4 := K_uJ hK 3 4 rfl rfl
    have e5 := K_uJ hK 3 5 rfl rfl
    have e6 := K_uJ hK 3 6 rfl rfl
    have e9 := K_uJ hK 3 9 rfl rfl
    have e10 := K_uJ hK 3 10 rfl rfl
    have e11 := K_uJ hK 3 11 rfl rfl
    have e12 := K_uJ hK 3 12 rfl rfl
    subst e1
    subst e2
    subst e7
    subst e8
    subst e14
    subst e15
    subst e4
    subst e5
    subst e6
    subst e9
    subst e10
    subst e11
    subst e12
    have hP := hP.sub (ws' := [(ho, .inr (3, [.ref cq1, .ref cq4, .ref cq9])), (cq1, .inr (0, [.int 1, .int 0, .int 0, .ref cp9q1, .ref cp9q2])), (cq4, .inr (1, [.ref cq1, .ref cp24q1, .ref cp24q2, .ref cp24q3, .ref cp24q4, .int (-1), .int 0, .long 1])), (cq9, .inr (2, [.ref cq1])), (cp9q1, .inl (cp9k1, 4, .inl (fun _ => 0))), (cp9q2, .inl (cp9k1, 20, .inl (fun _ => 0))), (cp24q1, .inl (cp9k1, 4, .inl (fun _ => 0))), (cp24q2, .inl (cp24k2, 4, .inr (.inl (fun _ => 0)))), (cp24q3, .inl (cp24k2, 16, .inr (.inl (fun _ => 0)))), (cp24q4, .inl (cp24k2, 4, .inr (.inl (fun _ => 0)))), (hm, .inr (4, [.int 1, .int 0, .long 0, .ref mq1, .ref mq2, .ref mq3, .int 0, .ref mq4, .long 0, .ref mq5, .ref mq6, .ref mq7, .ref mq8, .int 0, .ref mq9, .ref mq10, .int 0, .long 0])), (mq1, .inl (cp24k2, 4, .inr (.inl (fun _ => 0)))), (mq2, .inl (cp9k1, 20, .inl (fun _ => 0))), (mq3, .inl (cp9k1, 4, .inl (fun _ => 0))), (mq4, .inl (cp24k2, 4, .inr (.inl (fun _ => 0)))), (mq5, .inl (cp24k2, 16, .inr (.inl (fun _ => 0)))), (mq6, .inl (cp24k2, 4, .inr (.inl (fun _ => 0)))), (mq7, .inl (cp24k2, 16, .inr (.inl (fun _ => 0)))), (mq8, .inl (mk8, 4, .inl (fun _ => 0))), (mq9, .inl (cp9k1, 4, .inl (fun _ => 0))), (mq10, .inl (cp9k1, 4, .inl (fun _ => 0)))]) [0, 1, 4, 9, 2, 3, 5, 6, 7, 8, 10, 11, 12, 13, 14, 15, 16, 17, 18, 19, 20] rfl
    have hD := hD.sub (ws' := [(ho, .inr (3, [.ref cq1, .ref cq4, .ref cq9])), (cq1, .inr (0, [.int 1, .int 0, .int 0, .ref cp9q1, .ref cp9q2])), (cq4, .inr (1, [.ref cq1, .ref cp24q1, .ref cp24q2, .ref cp24q3, .ref cp24q4, .int (-1), .int 0, .long 1])), (cq9, .inr (2, [.ref cq1])), (cp9q1, .inl (cp9k1, 4, .inl (fun _ => 0))), (cp9q2, .inl (cp9k1, 20, .inl (fun _ => 0))), (cp24q1, .inl (cp9k1, 4, .inl (fun _ => 0))), (cp24q2, .inl (cp24k2, 4, .inr (.inl (fun _ => 0)))), (cp24q3, .inl (cp24k2, 16, .inr (.inl (fun _ => 0)))), (cp24q4, .inl (cp24k2, 4, .inr (.inl (fun _ => 0)))), (hm, .inr (4, [.int 1, .int 0, .long 0, .ref mq1, .ref mq2, .ref mq3, .int 0, .ref mq4, .long 0, .ref mq5, .ref mq6, .ref mq7, .ref mq8, .int 0, .ref mq9, .ref mq10, .int 0, .long 0])), (mq1, .inl (cp24k2, 4, .inr (.inl (fun _ => 0)))), (mq2, .inl (cp9k1, 20, .inl (fun _ => 0))), (mq3, .inl (cp9k1, 4, .inl (fun _ => 0))), (mq4, .inl (cp24k2, 4, .inr (.inl (fun _ => 0)))), (mq5, .inl (cp24k2, 16, .inr (.inl (fun _ => 0)))), (mq6, .inl (cp24k2, 4, .inr (.inl (fun _ => 0)))), (mq7, .inl (cp24k2, 16, .inr (.inl (fun _ => 0)))), (mq8, .inl (mk8, 4, .inl (fun _ => 0))), (mq9, .inl (cp9k1, 4, .inl (fun _ => 0))), (mq10, .inl (cp9k1, 4, .inl (fun _ => 0)))]) [0, 1, 4, 9, 2, 3, 5, 6, 7, 8, 10, 11, 12, 13, 14, 15, 16, 17, 18, 19, 20] (by decide) rfl
    have hK := hK.sub [0, 3, 13] rfl
    have hOK : OK (D, (fun k => match k with | 0 => cp9k1 | 1 => cp24k2 | _ => mk8), (fun k => match k with | 0 => ho | 1 => cq1 | 2 => cq4 | 3 => cq9 | 4 => cp9q1 | 5 => cp9q2 | 6 => cp24q1 | 7 => cp24q2 | 8 => cp24q3 | 9 => cp24q4 | 10 => hm | 11 => mq1 | 12 => mq2 | 13 => mq3 | 14 => mq4 | 15 => mq5 | 16 => mq6 | 17 => mq7 | 18 => mq8 | 19 => mq9 | 20 => mq10 | _ => t)) (p, l, e, room_1, s, m, #[Value.ref b], below, meth, c, 21, 167, 4, (fun q : Nat => s.heap.size ≤ q), lw_Z below #[Value.ref b] s) cL_law RL 4 room_1 :=
      ⟨⟨hx, hb, hml⟩, hown, htg, hlocks, hK, ⟨hZ, hT, hnw⟩, fun _ h => h, rfl, rfl, by decide, by decide⟩
    have go : GG (D, (fun k => match k with | 0 => cp9k1 | 1 => cp24k2 | _ => mk8), (fun k => match k with | 0 => ho | 1 => cq1 | 2 => cq4 | 3 => cq9 | 4 => cp9q1 | 5 => cp9q2 | 6 => cp24q1 | 7 => cp24q2 | 8 => cp24q3 | 9 => cp24q4 | 10 => hm | 11 => mq1 | 12 => mq2 | 13 => mq3 | 14 => mq4 | 15 => mq5 | 16 => mq6 | 17 => mq7 | 18 => mq8 | 19 => mq9 | 20 => mq10 | _ => t)) (p, l, e, room_1, s, m, #[Value.ref b], below, meth, c, 21, 167, 4, (fun q : Nat => s.heap.size ≤ q), lw_Z below #[Value.ref b] s) 16 [some (.ref b), some (.ref ho), some (.ref hm), none] []
        (wC (D, (fun k => match k with | 0 => cp9k1 | 1 => cp24k2 | _ => mk8), (fun k => match k with | 0 => ho | 1 => cq1 | 2 => cq4 | 3 => cq9 | 4 => cp9q1 | 5 => cp9q2 | 6 => cp24q1 | 7 => cp24q2 | 8 => cp24q3 | 9 => cp24q4 | 10 => hm | 11 => mq1 | 12 => mq2 | 13 => mq3 | 14 => mq4 | 15 => mq5 | 16 => mq6 | 17 => mq7 | 18 => mq8 | 19 => mq9 | 20 => mq10 | _ => t)) (nI 1) (nI 0) (nI 0) (fun _ => 0) (fun _ => 0) (fun _ => 0) (fun _ => 0) (fun _ => 0) (fun _ => 0) (-1) 0 1 ++ wR (D, (fun k => match k with | 0 => cp9k1 | 1 => cp24k2 | _ => mk8), (fun k => match k with | 0 => ho | 1 => cq1 | 2 => cq4 | 3 => cq9 | 4 => cp9q1 | 5 => cp9q2 | 6 => cp24q1 | 7 => cp24q2 | 8 => cp24q3 | 9 => cp24q4 | 10 => hm | 11 => mq1 | 12 => mq2 | 13 => mq3 | 14 => mq4 | 15 => mq5 | 16 => mq6 | 17 => mq7 | 18 => mq8 | 19 => mq9 | 20 => mq10 | _ => t)) (nI 1) (nI 0) (lN 0) (fun _ => 0) (fun _ => 0) (fun _ => 0) 0 (fun _ => 0) 0 (fun _ => 0) (fun _ => 0) (fun _ => 0) (fun _ => 0) 0 (fun q => nI ((fun _ => 0) q)) (fun q => nI ((fun _ => 0) q)) 0 0) := by
      refine g_iconst (v := nI 0) hOK dL_law_16 (by decide) (pc' := 17) rfl ?_
      refine g_istore3 hOK dL_law_17 rfl (by decide) (pc' := 18) rfl ?_
      exact law_loop hL (steps_all _) hOK hLW (L + 1) 0 _ _ (by omega) (by omega) ⟨1, 0, 0, fun _ => 0, fun _ _ => 0, _, _, _, _, _, _, _, _, _, _, _, _, _, _, _, _, _, _, _, _, _, _, _, _, ⟨⟨by decide, by decide, by decide⟩, fun _ _ _ _ => Nat.zero_le _, fun _ _ => rfl, fun _ _ _ => ⟨rfl, fun _ _ => rfl⟩, fun _ _ _ _ _ => rfl, fun _ _ => (show 0 + dsum (fun _ _ => 0) ≤ 1000 + 50 * 0 by decide), by decide⟩, ⟨fun _ _ => rfl, fun _ _ _ _ => rfl⟩, ⟨fun _ _ => rfl, fun _ _ _ _ => rfl, fun _ _ => rfl⟩, rfl, rfl⟩
    exact go H locs ls hP hD hS hl
  subst hX0
  exact main s.heap [] _ hK0 hP0 hD0 va_S.rf hl

theorem co_objI : Cond.instanceMethod objectInit ∈ tblG := mG 40 (by decide +kernel) rfl
theorem co_objC : Cond.code objectInit ⟨#[0xb1]⟩ 1 none ∈ tblG := mG 41 (by decide +kernel) rfl
theorem co_arrI : Cond.arrayClass .int ∈ tblG := mG 68 (by decide +kernel) rfl
theorem co_arrJ : Cond.arrayClass .long ∈ tblG := mG 102 (by decide +kernel) rfl
theorem co_arrZ : Cond.arrayClass .boolean ∈ tblG := mG 496 (by decide +kernel) rfl
theorem co_obj_X3 : Cond.methodLink RX3 1 objectInit ∈ tblG := mG 39 (by decide +kernel) rfl
theorem co_obj_X0 : Cond.methodLink RX0 5 objectInit ∈ tblG := mG 47 (by decide +kernel) rfl
theorem co_obj_X1 : Cond.methodLink RX1 3 objectInit ∈ tblG := mG 74 (by decide +kernel) rfl
theorem co_obj_X2 : Cond.methodLink RX2 3 objectInit ∈ tblG := mG 108 (by decide +kernel) rfl
theorem co_obj_X4 : Cond.methodLink RX4 1 objectInit ∈ tblG := mG 440 (by decide +kernel) rfl
theorem co_ins_X0 : Cond.instantiable RX0 5 ∈ tblG := mG 43 (by decide +kernel) rfl
theorem co_ins_X1 : Cond.instantiable RX1 8 ∈ tblG := mG 70 (by decide +kernel) rfl
theorem co_ins_X2 : Cond.instantiable RX2 1 ∈ tblG := mG 104 (by decide +kernel) rfl
theorem co_ins_X3 : Cond.instantiable RX3 3 ∈ tblG := mG 35 (by decide +kernel) rfl
theorem co_ins_X4 : Cond.instantiable RX4 18 ∈ tblG := mG 436 (by decide +kernel) rfl
theorem co_ini_X0 : Cond.initialized RX0 ∈ tblG := mG 29 (by decide +kernel) rfl
theorem co_ini_X1 : Cond.initialized RX1 ∈ tblG := mG 30 (by decide +kernel) rfl
theorem co_ini_X2 : Cond.initialized RX2 ∈ tblG := mG 31 (by decide +kernel) rfl
theorem co_ini_X3 : Cond.initialized RX3 ∈ tblG := mG 28 (by decide +kernel) rfl
theorem co_ini_X4 : Cond.initialized RX4 ∈ tblG := mG 32 (by decide +kernel) rfl
theorem co_im_X0 : Cond.instanceMethod yX0_init ∈ tblG := mG 45 (by decide +kernel) rfl
theorem co_cd_X0 : Cond.code yX0_init cX0_init 1 none ∈ tblG := mG 46 (by decide +kernel) rfl
theorem co_im_X1 : Cond.instanceMethod yX1_init ∈ tblG := mG 72 (by decide +kernel) rfl
theorem co_cd_X1 : Cond.code yX1_init cX1_init 2 none ∈ tblG := mG 73 (by decide +kernel) rfl
theorem co_im_X2 : Cond.instanceMethod yX2_init ∈ tblG := mG 106 (by decide +kernel) rfl
theorem co_cd_X2 : Cond.code yX2_init cX2_init 2 none ∈ tblG := mG 107 (by decide +kernel) rfl
theorem co_im_X3 : Cond.instanceMethod yX3_init ∈ tblG := mG 37 (by decide +kernel) rfl
theorem co_cd_X3 : Cond.code yX3_init cX3_init 1 none ∈ tblG := mG 38 (by decide +kernel) rfl
theorem co_im_X4 : Cond.instanceMethod yX4_init ∈ tblG := mG 438 (by decide +kernel) rfl
theorem co_cd_X4 : Cond.code yX4_init cX4_init 1 none ∈ tblG := mG 439 (by decide +kernel) rfl
set_option maxRecDepth 20000 in
set_option maxHeartbeats 4000000 in
def P_X2 (h0 b0 : Nat) : va_W → List (ClassId × FieldType) → Prop := fun w ty => w = [(h0, .inr (2, [.ref b0]))] ∧ ty = []
set_option maxRecDepth 20000 in
set_option maxHeartbeats 4000000 in
theorem M_X2_init {D : va_G} (h0 b0 : Nat) : MC D yX2_init cX2_init 2 { frames := 1, cells := 0, slots := 0, locals := 12 } [.ref h0, .ref b0] [(h0, .inr (2, [.null]))] 0 0 (P_X2 h0 b0) := by
  refine MC.intro (by decide) rfl [some (.ref h0), some (.ref b0)] rfl (Nat.le_of_ble_eq_true rfl) (fun X (h : OC X cX2_init RX2 2 _) hi hr => ?_)
  refine c_aload (i := 0) h dX2_init_0 rfl rfl (pc' := 1) rfl ?_
  refine c_obj (S := []) h dX2_init_1 co_obj_X2 co_objI co_objC (by decide) (pc' := 4) rfl ?_
  refine c_aload (i := 0) h dX2_init_4 rfl rfl (pc' := 5) rfl ?_
  refine c_aload (i := 1) h dX2_init_5 rfl rfl (pc' := 6) rfl ?_
  refine c_putf (q0 := 0) (v := .ref b0) (ty := .object "WhoPays$Books") (C := RX2) (T := TX2) (N := 1) (ci := 2) (ty0 := tyX2) (w' := [(h0, .inr (2, [.ref b0]))]) 0 inX2 tyX2_ok nmX2 rfl (by decide) (mG 109 (by decide +kernel) rfl) hi rfl (by decide +kernel) rfl rfl h dX2_init_6 rfl (Nat.le_of_ble_eq_true rfl) rfl (pc' := 9) rfl ?_
  exact c_ret (S := []) (pc' := 0) h hr dX2_init_9 ⟨rfl, rfl⟩
set_option maxRecDepth 20000 in
set_option maxHeartbeats 4000000 in
def P_X0 (h0 : Nat) : va_W → List (ClassId × FieldType) → Prop := fun w ty => ∃ (q1 : Nat) (k1 : ClassId) (q2 : Nat) (k2 : ClassId), w = [(h0, .inr (0, [.int 1, .int 0, .int 0, .ref q1, .ref q2])), (q1, .inl (k1, 4, .inl (fun _ => 0))), (q2, .inl (k2, 20, .inl (fun _ => 0)))] ∧ ty = [(k1, .int), (k2, .int)]
set_option maxRecDepth 20000 in
set_option maxHeartbeats 4000000 in
theorem M_X0_init {D : va_G} (h0 : Nat) : MC D yX0_init cX0_init 1 { frames := 1, cells := 2, slots := 24, locals := 12 } [.ref h0] [(h0, .inr (0, [.int 0, .int 0, .int 0, .null, .null]))] 2 24 (P_X0 h0) := by
  refine MC.intro (by decide) rfl [some (.ref h0)] rfl (Nat.le_of_ble_eq_true rfl) (fun X (h : OC X cX0_init RX0 1 _) hi hr => ?_)
  refine c_aload (i := 0) h dX0_init_0 rfl rfl (pc' := 1) rfl ?_
  refine c_obj (S := []) h dX0_init_1 co_obj_X0 co_objI co_objC (by decide) (pc' := 4) rfl ?_
  refine c_aload (i := 0) h dX0_init_4 rfl rfl (pc' := 5) rfl ?_
  refine c_iconst (v := 1) h dX0_init_5 (by decide) (pc' := 6) rfl ?_
  refine c_putf (q0 := 0) (v := .int 1) (ty := .int) (C := RX0) (T := TX0) (N := 5) (ci := 0) (ty0 := tyX0) (w' := [(h0, .inr (0, [.int 1, .int 0, .int 0, .null, .null]))]) 0 inX0 tyX0_ok nmX0 rfl (by decide) (mG 48 (by decide +kernel) rfl) hi rfl (by decide +kernel) rfl rfl h dX0_init_6 rfl (Nat.le_of_ble_eq_true rfl) rfl (pc' := 9) rfl ?_
  refine c_aload (i := 0) h dX0_init_9 rfl rfl (pc' := 10) rfl ?_
  refine c_iconst (v := 0) h dX0_init_10 (by decide) (pc' := 11) rfl ?_
  refine c_putf (q0 := 0) (v := .int 0) (ty := .int) (C := RX0) (T := TX0) (N := 5) (ci := 0) (ty0 := tyX0) (w' := [(h0, .inr (0, [.int 1, .int 0, .int 0, .null, .null]))]) 1 inX0 tyX0_ok nmX0 rfl (by decide) (mG 50 (by decide +kernel) rfl) hi rfl (by decide +kernel) rfl rfl h dX0_init_11 rfl (Nat.le_of_ble_eq_true rfl) rfl (pc' := 14) rfl ?_
  refine c_aload (i := 0) h dX0_init_14 rfl rfl (pc' := 15) rfl ?_
  refine c_iconst (v := 0) h dX0_init_15 (by decide) (pc' := 16) rfl ?_
  refine c_putf (q0 := 0) (v := .int 0) (ty := .int) (C := RX0) (T := TX0) (N := 5) (ci := 0) (ty0 := tyX0) (w' := [(h0, .inr (0, [.int 1, .int 0, .int 0, .null, .null]))]) 2 inX0 tyX0_ok nmX0 rfl (by decide) (mG 53 (by decide +kernel) rfl) hi rfl (by decide +kernel) rfl rfl h dX0_init_16 rfl (Nat.le_of_ble_eq_true rfl) rfl (pc' := 19) rfl ?_
  refine c_aload (i := 0) h dX0_init_19 rfl rfl (pc' := 20) rfl ?_
  refine c_iconst (v := 4) h dX0_init_20 (by decide) (pc' := 21) rfl ?_
  refine c_newa (N' := 4) (ty := .int) (a0 := (4, .inl (fun _ => 0))) h dX0_init_21 rfl co_arrI (fun cA => rfl) (by decide) (by decide) (by decide) (by decide) (by decide) (pc' := 23) rfl (fun q1 k1 => ?_)
  refine c_putf (q0 := 0) (v := .ref q1) (ty := .array .int) (C := RX0) (T := TX0) (N := 5) (ci := 0) (ty0 := tyX0) (w' := [(h0, .inr (0, [.int 1, .int 0, .int 0, .ref q1, .null])), (q1, .inl (k1, 4, .inl (fun _ => 0)))]) 3 inX0 tyX0_ok nmX0 rfl (by decide) (mG 55 (by decide +kernel) rfl) hi rfl (by decide +kernel) rfl rfl h dX0_init_23 rfl (Nat.le_of_ble_eq_true rfl) rfl (pc' := 26) rfl ?_
  refine c_aload (i := 0) h dX0_init_26 rfl rfl (pc' := 27) rfl ?_
  refine c_bipush (v := 20) h dX0_init_27 (by decide) (pc' := 29) rfl ?_
  refine c_newa (N' := 20) (ty := .int) (a0 := (20, .inl (fun _ => 0))) h dX0_init_29 rfl co_arrI (fun cA => rfl) (by decide) (by decide) (by decide) (by decide) (by decide) (pc' := 31) rfl (fun q2 k2 => ?_)
  refine c_putf (q0 := 0) (v := .ref q2) (ty := .array .int) (C := RX0) (T := TX0) (N := 5) (ci := 0) (ty0 := tyX0) (w' := [(h0, .inr (0, [.int 1, .int 0, .int 0, .ref q1, .ref q2])), (q1, .inl (k1, 4, .inl (fun _ => 0))), (q2, .inl (k2, 20, .inl (fun _ => 0)))]) 4 inX0 tyX0_ok nmX0 rfl (by decide) (mG 56 (by decide +kernel) rfl) hi rfl (by decide +kernel) rfl rfl h dX0_init_31 rfl (Nat.le_of_ble_eq_true rfl) rfl (pc' := 34) rfl ?_
  exact c_ret (S := []) (pc' := 0) h hr dX0_init_34 ⟨q1, k1, q2, k2, rfl, rfl⟩
set_option maxRecDepth 20000 in
set_option maxHeartbeats 4000000 in
def P_X1 (h0 b0 : Nat) : va_W → List (ClassId × FieldType) → Prop := fun w ty => ∃ (q1 : Nat) (k1 : ClassId) (q2 : Nat) (k2 : ClassId) (q3 : Nat) (k3 : ClassId) (q4 : Nat) (k4 : ClassId), w = [(h0, .inr (1, [.ref b0, .ref q1, .ref q2, .ref q3, .ref q4, .int (-1), .int 0, .long 1])), (q1, .inl (k1, 4, .inl (fun _ => 0))), (q2, .inl (k2, 4, .inr (.inl (fun _ => 0)))), (q3, .inl (k3, 16, .inr (.inl (fun _ => 0)))), (q4, .inl (k4, 4, .inr (.inl (fun _ => 0))))] ∧ ty = [(k1, .int), (k2, .long), (k3, .long), (k4, .long)]
set_option maxRecDepth 20000 in
set_option maxHeartbeats 4000000 in
theorem M_X1_init {D : va_G} (h0 b0 : Nat) : MC D yX1_init cX1_init 2 { frames := 1, cells := 4, slots := 28, locals := 12 } [.ref h0, .ref b0] [(h0, .inr (1, [.null, .null, .null, .null, .null, .int 0, .int 0, .long 0]))] 4 28 (P_X1 h0 b0) := by
  refine MC.intro (by decide) rfl [some (.ref h0), some (.ref b0)] rfl (Nat.le_of_ble_eq_true rfl) (fun X (h : OC X cX1_init RX1 2 _) hi hr => ?_)
  refine c_aload (i := 0) h dX1_init_0 rfl rfl (pc' := 1) rfl ?_
  refine c_obj (S := []) h dX1_init_1 co_obj_X1 co_objI co_objC (by decide) (pc' := 4) rfl ?_
  refine c_aload (i := 0) h dX1_init_4 rfl rfl (pc' := 5) rfl ?_
  refine c_iconst (v := 4) h dX1_init_5 (by decide) (pc' := 6) rfl ?_
  refine c_newa (N' := 4) (ty := .int) (a0 := (4, .inl (fun _ => 0))) h dX1_init_6 rfl co_arrI (fun cA => rfl) (by decide) (by decide) (by decide) (by decide) (by decide) (pc' := 8) rfl (fun q1 k1 => ?_)
  refine c_putf (q0 := 0) (v := .ref q1) (ty := .array .int) (C := RX1) (T := TX1) (N := 8) (ci := 1) (ty0 := tyX1) (w' := [(h0, .inr (1, [.null, .ref q1, .null, .null, .null, .int 0, .int 0, .long 0])), (q1, .inl (k1, 4, .inl (fun _ => 0)))]) 1 inX1 tyX1_ok nmX1 rfl (by decide) (mG 76 (by decide +kernel) rfl) hi rfl (by decide +kernel) rfl rfl h dX1_init_8 rfl (Nat.le_of_ble_eq_true rfl) rfl (pc' := 11) rfl ?_
  refine c_aload (i := 0) h dX1_init_11 rfl rfl (pc' := 12) rfl ?_
  refine c_iconst (v := 4) h dX1_init_12 (by decide) (pc' := 13) rfl ?_
  refine c_newa (N' := 4) (ty := .long) (a0 := (4, .inr (.inl (fun _ => 0)))) h dX1_init_13 rfl co_arrJ (fun cA => rfl) (by decide) (by decide) (by decide) (by decide) (by decide) (pc' := 15) rfl (fun q2 k2 => ?_)
  refine c_putf (q0 := 0) (v := .ref q2) (ty := .array .long) (C := RX1) (T := TX1) (N := 8) (ci := 1) (ty0 := tyX1) (w' := [(h0, .inr (1, [.null, .ref q1, .ref q2, .null, .null, .int 0, .int 0, .long 0])), (q1, .inl (k1, 4, .inl (fun _ => 0))), (q2, .inl (k2, 4, .inr (.inl (fun _ => 0))))]) 2 inX1 tyX1_ok nmX1 rfl (by decide) (mG 77 (by decide +kernel) rfl) hi rfl (by decide +kernel) rfl rfl h dX1_init_15 rfl (Nat.le_of_ble_eq_true rfl) rfl (pc' := 18) rfl ?_
  refine c_aload (i := 0) h dX1_init_18 rfl rfl (pc' := 19) rfl ?_
  refine c_bipush (v := 16) h dX1_init_19 (by decide) (pc' := 21) rfl ?_
  refine c_newa (N' := 16) (ty := .long) (a0 := (16, .inr (.inl (fun _ => 0)))) h dX1_init_21 rfl co_arrJ (fun cA => rfl) (by decide) (by decide) (by decide) (by decide) (by decide) (pc' := 23) rfl (fun q3 k3 => ?_)
  refine c_putf (q0 := 0) (v := .ref q3) (ty := .array .long) (C := RX1) (T := TX1) (N := 8) (ci := 1) (ty0 := tyX1) (w' := [(h0, .inr (1, [.null, .ref q1, .ref q2, .ref q3, .null, .int 0, .int 0, .long 0])), (q1, .inl (k1, 4, .inl (fun _ => 0))), (q2, .inl (k2, 4, .inr (.inl (fun _ => 0)))), (q3, .inl (k3, 16, .inr (.inl (fun _ => 0))))]) 3 inX1 tyX1_ok nmX1 rfl (by decide) (mG 78 (by decide +kernel) rfl) hi rfl (by decide +kernel) rfl rfl h dX1_init_23 rfl (Nat.le_of_ble_eq_true rfl) rfl (pc' := 26) rfl ?_
  refine c_aload (i := 0) h dX1_init_26 rfl rfl (pc' := 27) rfl ?_
  refine c_iconst (v := 4) h dX1_init_27 (by decide) (pc' := 28) rfl ?_
  refine c_newa (N' := 4) (ty := .long) (a0 := (4, .inr (.inl (fun _ => 0)))) h dX1_init_28 rfl co_arrJ (fun cA => rfl) (by decide) (by decide) (by decide) (by decide) (by decide) (pc' := 30) rfl (fun q4 k4 => ?_)
  refine c_putf (q0 := 0) (v := .ref q4) (ty := .array .long) (C := RX1) (T := TX1) (N := 8) (ci := 1) (ty0 := tyX1) (w' := [(h0, .inr (1, [.null, .ref q1, .ref q2, .ref q3, .ref q4, .int 0, .int 0, .long 0])), (q1, .inl (k1, 4, .inl (fun _ => 0))), (q2, .inl (k2, 4, .inr (.inl (fun _ => 0)))), (q3, .inl (k3, 16, .inr (.inl (fun _ => 0)))), (q4, .inl (k4, 4, .inr (.inl (fun _ => 0))))]) 4 inX1 tyX1_ok nmX1 rfl (by decide) (mG 79 (by decide +kernel) rfl) hi rfl (by decide +kernel) rfl rfl h dX1_init_30 rfl (Nat.le_of_ble_eq_true rfl) rfl (pc' := 33) rfl ?_
  refine c_aload (i := 0) h dX1_init_33 rfl rfl (pc' := 34) rfl ?_
  refine c_iconst (v := (-1)) h dX1_init_34 (by decide) (pc' := 35) rfl ?_
  refine c_putf (q0 := 0) (v := .int (-1)) (ty := .int) (C := RX1) (T := TX1) (N := 8) (ci := 1) (ty0 := tyX1) (w' := [(h0, .inr (1, [.null, .ref q1, .ref q2, .ref q3, .ref q4, .int (-1), .int 0, .long 0])), (q1, .inl (k1, 4, .inl (fun _ => 0))), (q2, .inl (k2, 4, .inr (.inl (fun _ => 0)))), (q3, .inl (k3, 16, .inr (.inl (fun _ => 0)))), (q4, .inl (k4, 4, .inr (.inl (fun _ => 0))))]) 5 inX1 tyX1_ok nmX1 rfl (by decide) (mG 80 (by decide +kernel) rfl) hi rfl (by decide +kernel) rfl rfl h dX1_init_35 rfl (Nat.le_of_ble_eq_true rfl) rfl (pc' := 38) rfl ?_
  refine c_aload (i := 0) h dX1_init_38 rfl rfl (pc' := 39) rfl ?_
  refine c_iconst (v := 0) h dX1_init_39 (by decide) (pc' := 40) rfl ?_
  refine c_putf (q0 := 0) (v := .int 0) (ty := .int) (C := RX1) (T := TX1) (N := 8) (ci := 1) (ty0 := tyX1) (w' := [(h0, .inr (1, [.null, .ref q1, .ref q2, .ref q3, .ref q4, .int (-1), .int 0, .long 0])), (q1, .inl (k1, 4, .inl (fun _ => 0))), (q2, .inl (k2, 4, .inr (.inl (fun _ => 0)))), (q3, .inl (k3, 16, .inr (.inl (fun _ => 0)))), (q4, .inl (k4, 4, .inr (.inl (fun _ => 0))))]) 6 inX1 tyX1_ok nmX1 rfl (by decide) (mG 81 (by decide +kernel) rfl) hi rfl (by decide +kernel) rfl rfl h dX1_init_40 rfl (Nat.le_of_ble_eq_true rfl) rfl (pc' := 43) rfl ?_
  refine c_aload (i := 0) h dX1_init_43 rfl rfl (pc' := 44) rfl ?_
  refine c_lconst (v := 1) h dX1_init_44 (by decide) (pc' := 45) rfl ?_
  refine c_putf (q0 := 0) (v := .long 1) (ty := .long) (C := RX1) (T := TX1) (N := 8) (ci := 1) (ty0 := tyX1) (w' := [(h0, .inr (1, [.null, .ref q1, .ref q2, .ref q3, .ref q4, .int (-1), .int 0, .long 1])), (q1, .inl (k1, 4, .inl (fun _ => 0))), (q2, .inl (k2, 4, .inr (.inl (fun _ => 0)))), (q3, .inl (k3, 16, .inr (.inl (fun _ => 0)))), (q4, .inl (k4, 4, .inr (.inl (fun _ => 0))))]) 7 inX1 tyX1_ok nmX1 rfl (by decide) (mG 83 (by decide +kernel) rfl) hi rfl (by decide +kernel) rfl rfl h dX1_init_45 rfl (Nat.le_of_ble_eq_true rfl) rfl (pc' := 48) rfl ?_
  refine c_aload (i := 0) h dX1_init_48 rfl rfl (pc' := 49) rfl ?_
  refine c_aload (i := 1) h dX1_init_49 rfl rfl (pc' := 50) rfl ?_
  refine c_putf (q0 := 0) (v := .ref b0) (ty := .object "WhoPays$Books") (C := RX1) (T := TX1) (N := 8) (ci := 1) (ty0 := tyX1) (w' := [(h0, .inr (1, [.ref b0, .ref q1, .ref q2, .ref q3, .ref q4, .int (-1), .int 0, .long 1])), (q1, .inl (k1, 4, .inl (fun _ => 0))), (q2, .inl (k2, 4, .inr (.inl (fun _ => 0)))), (q3, .inl (k3, 16, .inr (.inl (fun _ => 0)))), (q4, .inl (k4, 4, .inr (.inl (fun _ => 0))))]) 0 inX1 tyX1_ok nmX1 rfl (by decide) (mG 75 (by decide +kernel) rfl) hi rfl (by decide +kernel) rfl rfl h dX1_init_50 rfl (Nat.le_of_ble_eq_true rfl) rfl (pc' := 53) rfl ?_
  exact c_ret (S := []) (pc' := 0) h hr dX1_init_53 ⟨q1, k1, q2, k2, q3, k3, q4, k4, rfl, rfl⟩
set_option maxRecDepth 20000 in
set_option maxHeartbeats 4000000 in
def P_X3 (h0 : Nat) : va_W → List (ClassId × FieldType) → Prop := fun w ty => ∃ (q1 : Nat) (p9q1 : Nat) (p9k1 : ClassId) (p9q2 : Nat) (p9k2 : ClassId) (q4 : Nat) (p24q1 : Nat) (p24k1 : ClassId) (p24q2 : Nat) (p24k2 : ClassId) (p24q3 : Nat) (p24k3 : ClassId) (p24q4 : Nat) (p24k4 : ClassId) (q9 : Nat), w = [(h0, .inr (3, [.ref q1, .ref q4, .ref q9])), (q1, .inr (0, [.int 1, .int 0, .int 0, .ref p9q1, .ref p9q2])), (p9q1, .inl (p9k1, 4, .inl (fun _ => 0))), (p9q2, .inl (p9k2, 20, .inl (fun _ => 0))), (q4, .inr (1, [.ref q1, .ref p24q1, .ref p24q2, .ref p24q3, .ref p24q4, .int (-1), .int 0, .long 1])), (p24q1, .inl (p24k1, 4, .inl (fun _ => 0))), (p24q2, .inl (p24k2, 4, .inr (.inl (fun _ => 0)))), (p24q3, .inl (p24k3, 16, .inr (.inl (fun _ => 0)))), (p24q4, .inl (p24k4, 4, .inr (.inl (fun _ => 0)))), (q9, .inr (2, [.ref q1]))] ∧ ty = [(p9k1, .int), (p9k2, .int), (p24k1, .int), (p24k2, .long), (p24k3, .long), (p24k4, .long)]
set_option maxRecDepth 20000 in
set_option maxHeartbeats 4000000 in
theorem M_X3_init {D : va_G} (h0 : Nat) : MC D yX3_init cX3_init 1 { frames := 2, cells := 9, slots := 66, locals := 60 } [.ref h0] [(h0, .inr (3, [.null, .null, .null]))] 9 66 (P_X3 h0) := by
  refine MC.intro (by decide) rfl [some (.ref h0)] rfl (Nat.le_of_ble_eq_true rfl) (fun X (h : OC X cX3_init RX3 1 _) hi hr => ?_)
  refine c_aload (i := 0) h dX3_init_0 rfl rfl (pc' := 1) rfl ?_
  refine c_obj (S := []) h dX3_init_1 co_obj_X3 co_objI co_objC (by decide) (pc' := 4) rfl ?_
  refine c_aload (i := 0) h dX3_init_4 rfl rfl (pc' := 5) rfl ?_
  refine c_new (fs := [.int 0, .int 0, .int 0, .null, .null]) (ci := 0) (C := RX0) (T := TX0) (N := 5) (ty := tyX0) h dX3_init_5 inX0 tyX0_ok (mG 42 (by decide +kernel) rfl) co_ins_X0 co_ini_X0 rfl (fun j hj => by rcases (show j = 0 ∨ j = 1 ∨ j = 2 ∨ j = 3 ∨ j = 4 by omega) with rfl | rfl | rfl | rfl | rfl <;> rfl) (by decide) (by decide) (pc' := 8) rfl (fun q1 => ?_)
  refine c_dup h dX3_init_8 (pc' := 9) rfl ?_
  refine c_call (n := 0) (w0 := [(h0, .inr (3, [.null, .null, .null]))]) (rest := [.ref q1, .ref h0]) (As := []) true h dX3_init_9 rfl (by decide +kernel) co_im_X0 co_ini_X0 co_cd_X0 ⟨by decide +kernel, by decide +kernel⟩ (by decide +kernel) (M_X0_init q1 ) ⟨rfl, rfl⟩ rfl (by decide) (by decide) (by decide) rfl (Nat.le_of_ble_eq_true rfl) rfl (pc' := 12) rfl (fun w1 t1 hpo => ?_)
  obtain ⟨p9q1, p9k1, p9q2, p9k2, rfl, rfl⟩ := hpo
  show GC D X 12 [some (.ref h0)] [.ref q1, .ref h0] [(h0, .inr (3, [.null, .null, .null])), (q1, .inr (0, [.int 1, .int 0, .int 0, .ref p9q1, .ref p9q2])), (p9q1, .inl (p9k1, 4, .inl (fun _ => 0))), (p9q2, .inl (p9k2, 20, .inl (fun _ => 0)))] [(p9k1, .int), (p9k2, .int)] _ _
  refine c_putf (q0 := 0) (v := .ref q1) (ty := .object "WhoPays$Books") (C := RX3) (T := TX3) (N := 3) (ci := 3) (ty0 := tyX3) (w' := [(h0, .inr (3, [.ref q1, .null, .null])), (q1, .inr (0, [.int 1, .int 0, .int 0, .ref p9q1, .ref p9q2])), (p9q1, .inl (p9k1, 4, .inl (fun _ => 0))), (p9q2, .inl (p9k2, 20, .inl (fun _ => 0)))]) 0 inX3 tyX3_ok nmX3 rfl (by decide) (mG 113 (by decide +kernel) rfl) hi rfl (by decide +kernel) rfl rfl h dX3_init_12 rfl (Nat.le_of_ble_eq_true rfl) rfl (pc' := 15) rfl ?_
  refine c_aload (i := 0) h dX3_init_15 rfl rfl (pc' := 16) rfl ?_
  refine c_new (fs := [.null, .null, .null, .null, .null, .int 0, .int 0, .long 0]) (ci := 1) (C := RX1) (T := TX1) (N := 8) (ty := tyX1) h dX3_init_16 inX1 tyX1_ok (mG 69 (by decide +kernel) rfl) co_ins_X1 co_ini_X1 rfl (fun j hj => by rcases (show j = 0 ∨ j = 1 ∨ j = 2 ∨ j = 3 ∨ j = 4 ∨ j = 5 ∨ j = 6 ∨ j = 7 by omega) with rfl | rfl | rfl | rfl | rfl | rfl | rfl | rfl <;> rfl) (by decide) (by decide) (pc' := 19) rfl (fun q4 => ?_)
  refine c_dup h dX3_init_19 (pc' := 20) rfl ?_
  refine c_aload (i := 0) h dX3_init_20 rfl rfl (pc' := 21) rfl ?_
  refine c_getf (q0 := 0) (C := RX3) (T := TX3) (N := 3) (ci := 3) 0 inX3 rfl (by decide) (mG 113 (by decide +kernel) rfl) h dX3_init_21 rfl rfl (pc' := 24) rfl ?_
  refine c_call (n := 1) (w0 := [(h0, .inr (3, [.ref q1, .null, .null])), (q1, .inr (0, [.int 1, .int 0, .int 0, .ref p9q1, .ref p9q2])), (p9q1, .inl (p9k1, 4, .inl (fun _ => 0))), (p9q2, .inl (p9k2, 20, .inl (fun _ => 0)))]) (rest := [.ref q4, .ref h0]) (As := [.ref q1]) false h dX3_init_24 rfl (mG 71 (by decide +kernel) rfl) co_im_X1 co_ini_X1 co_cd_X1 ⟨by decide +kernel, by decide +kernel⟩ (by decide +kernel) (M_X1_init q4 q1) ⟨rfl, rfl⟩ rfl (by decide) (by decide) (by decide) rfl (Nat.le_of_ble_eq_true rfl) rfl (pc' := 27) rfl (fun w1 t1 hpo => ?_)
  obtain ⟨p24q1, p24k1, p24q2, p24k2, p24q3, p24k3, p24q4, p24k4, rfl, rfl⟩ := hpo
  show GC D X 27 [some (.ref h0)] [.ref q4, .ref h0] [(h0, .inr (3, [.ref q1, .null, .null])), (q1, .inr (0, [.int 1, .int 0, .int 0, .ref p9q1, .ref p9q2])), (p9q1, .inl (p9k1, 4, .inl (fun _ => 0))), (p9q2, .inl (p9k2, 20, .inl (fun _ => 0))), (q4, .inr (1, [.ref q1, .ref p24q1, .ref p24q2, .ref p24q3, .ref p24q4, .int (-1), .int 0, .long 1])), (p24q1, .inl (p24k1, 4, .inl (fun _ => 0))), (p24q2, .inl (p24k2, 4, .inr (.inl (fun _ => 0)))), (p24q3, .inl (p24k3, 16, .inr (.inl (fun _ => 0)))), (p24q4, .inl (p24k4, 4, .inr (.inl (fun _ => 0))))] [(p9k1, .int), (p9k2, .int), (p24k1, .int), (p24k2, .long), (p24k3, .long), (p24k4, .long)] _ _
  refine c_putf (q0 := 0) (v := .ref q4) (ty := .object "WhoPays$Clearing") (C := RX3) (T := TX3) (N := 3) (ci := 3) (ty0 := tyX3) (w' := [(h0, .inr (3, [.ref q1, .ref q4, .null])), (q1, .inr (0, [.int 1, .int 0, .int 0, .ref p9q1, .ref p9q2])), (p9q1, .inl (p9k1, 4, .inl (fun _ => 0))), (p9q2, .inl (p9k2, 20, .inl (fun _ => 0))), (q4, .inr (1, [.ref q1, .ref p24q1, .ref p24q2, .ref p24q3, .ref p24q4, .int (-1), .int 0, .long 1])), (p24q1, .inl (p24k1, 4, .inl (fun _ => 0))), (p24q2, .inl (p24k2, 4, .inr (.inl (fun _ => 0)))), (p24q3, .inl (p24k3, 16, .inr (.inl (fun _ => 0)))), (p24q4, .inl (p24k4, 4, .inr (.inl (fun _ => 0))))]) 1 inX3 tyX3_ok nmX3 rfl (by decide) (mG 114 (by decide +kernel) rfl) hi rfl (by decide +kernel) rfl rfl h dX3_init_27 rfl (Nat.le_of_ble_eq_true rfl) rfl (pc' := 30) rfl ?_
  refine c_aload (i := 0) h dX3_init_30 rfl rfl (pc' := 31) rfl ?_
  refine c_new (fs := [.null]) (ci := 2) (C := RX2) (T := TX2) (N := 1) (ty := tyX2) h dX3_init_31 inX2 tyX2_ok (mG 103 (by decide +kernel) rfl) co_ins_X2 co_ini_X2 rfl (fun j hj => by rcases (show j = 0 by omega) with rfl <;> rfl) (by decide) (by decide) (pc' := 34) rfl (fun q9 => ?_)
  refine c_dup h dX3_init_34 (pc' := 35) rfl ?_
  refine c_aload (i := 0) h dX3_init_35 rfl rfl (pc' := 36) rfl ?_
  refine c_getf (q0 := 0) (C := RX3) (T := TX3) (N := 3) (ci := 3) 0 inX3 rfl (by decide) (mG 113 (by decide +kernel) rfl) h dX3_init_36 rfl rfl (pc' := 39) rfl ?_
  refine c_call (n := 1) (w0 := [(h0, .inr (3, [.ref q1, .ref q4, .null])), (q1, .inr (0, [.int 1, .int 0, .int 0, .ref p9q1, .ref p9q2])), (p9q1, .inl (p9k1, 4, .inl (fun _ => 0))), (p9q2, .inl (p9k2, 20, .inl (fun _ => 0))), (q4, .inr (1, [.ref q1, .ref p24q1, .ref p24q2, .ref p24q3, .ref p24q4, .int (-1), .int 0, .long 1])), (p24q1, .inl (p24k1, 4, .inl (fun _ => 0))), (p24q2, .inl (p24k2, 4, .inr (.inl (fun _ => 0)))), (p24q3, .inl (p24k3, 16, .inr (.inl (fun _ => 0)))), (p24q4, .inl (p24k4, 4, .inr (.inl (fun _ => 0))))]) (rest := [.ref q9, .ref h0]) (As := [.ref q1]) false h dX3_init_39 rfl (mG 105 (by decide +kernel) rfl) co_im_X2 co_ini_X2 co_cd_X2 ⟨by decide +kernel, by decide +kernel⟩ (by decide +kernel) (M_X2_init q9 q1) ⟨rfl, rfl⟩ rfl (by decide) (by decide) (by decide) rfl (Nat.le_of_ble_eq_true rfl) rfl (pc' := 42) rfl (fun w1 t1 hpo => ?_)
  obtain ⟨rfl, rfl⟩ := hpo
  show GC D X 42 [some (.ref h0)] [.ref q9, .ref h0] [(h0, .inr (3, [.ref q1, .ref q4, .null])), (q1, .inr (0, [.int 1, .int 0, .int 0, .ref p9q1, .ref p9q2])), (p9q1, .inl (p9k1, 4, .inl (fun _ => 0))), (p9q2, .inl (p9k2, 20, .inl (fun _ => 0))), (q4, .inr (1, [.ref q1, .ref p24q1, .ref p24q2, .ref p24q3, .ref p24q4, .int (-1), .int 0, .long 1])), (p24q1, .inl (p24k1, 4, .inl (fun _ => 0))), (p24q2, .inl (p24k2, 4, .inr (.inl (fun _ => 0)))), (p24q3, .inl (p24k3, 16, .inr (.inl (fun _ => 0)))), (p24q4, .inl (p24k4, 4, .inr (.inl (fun _ => 0)))), (q9, .inr (2, [.ref q1]))] [(p9k1, .int), (p9k2, .int), (p24k1, .int), (p24k2, .long), (p24k3, .long), (p24k4, .long)] _ _
  refine c_putf (q0 := 0) (v := .ref q9) (ty := .object "WhoPays$Rings") (C := RX3) (T := TX3) (N := 3) (ci := 3) (ty0 := tyX3) (w' := [(h0, .inr (3, [.ref q1, .ref q4, .ref q9])), (q1, .inr (0, [.int 1, .int 0, .int 0, .ref p9q1, .ref p9q2])), (p9q1, .inl (p9k1, 4, .inl (fun _ => 0))), (p9q2, .inl (p9k2, 20, .inl (fun _ => 0))), (q4, .inr (1, [.ref q1, .ref p24q1, .ref p24q2, .ref p24q3, .ref p24q4, .int (-1), .int 0, .long 1])), (p24q1, .inl (p24k1, 4, .inl (fun _ => 0))), (p24q2, .inl (p24k2, 4, .inr (.inl (fun _ => 0)))), (p24q3, .inl (p24k3, 16, .inr (.inl (fun _ => 0)))), (p24q4, .inl (p24k4, 4, .inr (.inl (fun _ => 0)))), (q9, .inr (2, [.ref q1]))]) 2 inX3 tyX3_ok nmX3 rfl (by decide) (mG 115 (by decide +kernel) rfl) hi rfl (by decide +kernel) rfl rfl h dX3_init_42 rfl (Nat.le_of_ble_eq_true rfl) rfl (pc' := 45) rfl ?_
  exact c_ret (S := []) (pc' := 0) h hr dX3_init_45 ⟨q1, p9q1, p9k1, p9q2, p9k2, q4, p24q1, p24k1, p24q2, p24k2, p24q3, p24k3, p24q4, p24k4, q9, rfl, rfl⟩
set_option maxRecDepth 20000 in
set_option maxHeartbeats 4000000 in
def P_X4 (h0 : Nat) : va_W → List (ClassId × FieldType) → Prop := fun w ty => ∃ (q1 : Nat) (k1 : ClassId) (q2 : Nat) (k2 : ClassId) (q3 : Nat) (k3 : ClassId) (q4 : Nat) (k4 : ClassId) (q5 : Nat) (k5 : ClassId) (q6 : Nat) (k6 : ClassId) (q7 : Nat) (k7 : ClassId) (q8 : Nat) (k8 : ClassId) (q9 : Nat) (k9 : ClassId) (q10 : Nat) (k10 : ClassId), w = [(h0, .inr (4, [.int 1, .int 0, .long 0, .ref q1, .ref q2, .ref q3, .int 0, .ref q4, .long 0, .ref q5, .ref q6, .ref q7, .ref q8, .int 0, .ref q9, .ref q10, .int 0, .long 0])), (q1, .inl (k1, 4, .inr (.inl (fun _ => 0)))), (q2, .inl (k2, 20, .inl (fun _ => 0))), (q3, .inl (k3, 4, .inl (fun _ => 0))), (q4, .inl (k4, 4, .inr (.inl (fun _ => 0)))), (q5, .inl (k5, 16, .inr (.inl (fun _ => 0)))), (q6, .inl (k6, 4, .inr (.inl (fun _ => 0)))), (q7, .inl (k7, 16, .inr (.inl (fun _ => 0)))), (q8, .inl (k8, 4, .inl (fun _ => 0))), (q9, .inl (k9, 4, .inl (fun _ => 0))), (q10, .inl (k10, 4, .inl (fun _ => 0)))] ∧ ty = [(k1, .long), (k2, .int), (k3, .int), (k4, .long), (k5, .long), (k6, .long), (k7, .long), (k8, .boolean), (k9, .int), (k10, .int)]
set_option maxRecDepth 20000 in
set_option maxHeartbeats 4000000 in
theorem M_X4_init {D : va_G} (h0 : Nat) : MC D yX4_init cX4_init 1 { frames := 1, cells := 10, slots := 80, locals := 12 } [.ref h0] [(h0, .inr (4, [.int 0, .int 0, .long 0, .null, .null, .null, .int 0, .null, .long 0, .null, .null, .null, .null, .int 0, .null, .null, .int 0, .long 0]))] 10 80 (P_X4 h0) := by
  refine MC.intro (by decide) rfl [some (.ref h0)] rfl (Nat.le_of_ble_eq_true rfl) (fun X (h : OC X cX4_init RX4 1 _) hi hr => ?_)
  refine c_aload (i := 0) h dX4_init_0 rfl rfl (pc' := 1) rfl ?_
  refine c_obj (S := []) h dX4_init_1 co_obj_X4 co_objI co_objC (by decide) (pc' := 4) rfl ?_
  refine c_aload (i := 0) h dX4_init_4 rfl rfl (pc' := 5) rfl ?_
  refine c_iconst (v := 1) h dX4_init_5 (by decide) (pc' := 6) rfl ?_
  refine c_putf (q0 := 0) (v := .int 1) (ty := .int) (C := RX4) (T := TX4) (N := 18) (ci := 4) (ty0 := tyX4) (w' := [(h0, .inr (4, [.int 1, .int 0, .long 0, .null, .null, .null, .int 0, .null, .long 0, .null, .null, .null, .null, .int 0, .null, .null, .int 0, .long 0]))]) 0 inX4 tyX4_ok nmX4 rfl (by decide) (mG 441 (by decide +kernel) rfl) hi rfl (by decide +kernel) rfl rfl h dX4_init_6 rfl (Nat.le_of_ble_eq_true rfl) rfl (pc' := 9) rfl ?_
  refine c_aload (i := 0) h dX4_init_9 rfl rfl (pc' := 10) rfl ?_
  refine c_iconst (v := 4) h dX4_init_10 (by decide) (pc' := 11) rfl ?_
  refine c_newa (N' := 4) (ty := .long) (a0 := (4, .inr (.inl (fun _ => 0)))) h dX4_init_11 rfl co_arrJ (fun cA => rfl) (by decide) (by decide) (by decide) (by decide) (by decide) (pc' := 13) rfl (fun q1 k1 => ?_)
  refine c_putf (q0 := 0) (v := .ref q1) (ty := .array .long) (C := RX4) (T := TX4) (N := 18) (ci := 4) (ty0 := tyX4) (w' := [(h0, .inr (4, [.int 1, .int 0, .long 0, .ref q1, .null, .null, .int 0, .null, .long 0, .null, .null, .null, .null, .int 0, .null, .null, .int 0, .long 0])), (q1, .inl (k1, 4, .inr (.inl (fun _ => 0))))]) 3 inX4 tyX4_ok nmX4 rfl (by decide) (mG 444 (by decide +kernel) rfl) hi rfl (by decide +kernel) rfl rfl h dX4_init_13 rfl (Nat.le_of_ble_eq_true rfl) rfl (pc' := 16) rfl ?_
  refine c_aload (i := 0) h dX4_init_16 rfl rfl (pc' := 17) rfl ?_
  refine c_bipush (v := 20) h dX4_init_17 (by decide) (pc' := 19) rfl ?_
  refine c_newa (N' := 20) (ty := .int) (a0 := (20, .inl (fun _ => 0))) h dX4_init_19 rfl co_arrI (fun cA => rfl) (by decide) (by decide) (by decide) (by decide) (by decide) (pc' := 21) rfl (fun q2 k2 => ?_)
  refine c_putf (q0 := 0) (v := .ref q2) (ty := .array .int) (C := RX4) (T := TX4) (N := 18) (ci := 4) (ty0 := tyX4) (w' := [(h0, .inr (4, [.int 1, .int 0, .long 0, .ref q1, .ref q2, .null, .int 0, .null, .long 0, .null, .null, .null, .null, .int 0, .null, .null, .int 0, .long 0])), (q1, .inl (k1, 4, .inr (.inl (fun _ => 0)))), (q2, .inl (k2, 20, .inl (fun _ => 0)))]) 4 inX4 tyX4_ok nmX4 rfl (by decide) (mG 445 (by decide +kernel) rfl) hi rfl (by decide +kernel) rfl rfl h dX4_init_21 rfl (Nat.le_of_ble_eq_true rfl) rfl (pc' := 24) rfl ?_
  refine c_aload (i := 0) h dX4_init_24 rfl rfl (pc' := 25) rfl ?_
  refine c_iconst (v := 4) h dX4_init_25 (by decide) (pc' := 26) rfl ?_
  refine c_newa (N' := 4) (ty := .int) (a0 := (4, .inl (fun _ => 0))) h dX4_init_26 rfl co_arrI (fun cA => rfl) (by decide) (by decide) (by decide) (by decide) (by decide) (pc' := 28) rfl (fun q3 k3 => ?_)
  refine c_putf (q0 := 0) (v := .ref q3) (ty := .array .int) (C := RX4) (T := TX4) (N := 18) (ci := 4) (ty0 := tyX4) (w' := [(h0, .inr (4, [.int 1, .int 0, .long 0, .ref q1, .ref q2, .ref q3, .int 0, .null, .long 0, .null, .null, .null, .null, .int 0, .null, .null, .int 0, .long 0])), (q1, .inl (k1, 4, .inr (.inl (fun _ => 0)))), (q2, .inl (k2, 20, .inl (fun _ => 0))), (q3, .inl (k3, 4, .inl (fun _ => 0)))]) 5 inX4 tyX4_ok nmX4 rfl (by decide) (mG 446 (by decide +kernel) rfl) hi rfl (by decide +kernel) rfl rfl h dX4_init_28 rfl (Nat.le_of_ble_eq_true rfl) rfl (pc' := 31) rfl ?_
  refine c_aload (i := 0) h dX4_init_31 rfl rfl (pc' := 32) rfl ?_
  refine c_iconst (v := 4) h dX4_init_32 (by decide) (pc' := 33) rfl ?_
  refine c_newa (N' := 4) (ty := .long) (a0 := (4, .inr (.inl (fun _ => 0)))) h dX4_init_33 rfl co_arrJ (fun cA => rfl) (by decide) (by decide) (by decide) (by decide) (by decide) (pc' := 35) rfl (fun q4 k4 => ?_)
  refine c_putf (q0 := 0) (v := .ref q4) (ty := .array .long) (C := RX4) (T := TX4) (N := 18) (ci := 4) (ty0 := tyX4) (w' := [(h0, .inr (4, [.int 1, .int 0, .long 0, .ref q1, .ref q2, .ref q3, .int 0, .ref q4, .long 0, .null, .null, .null, .null, .int 0, .null, .null, .int 0, .long 0])), (q1, .inl (k1, 4, .inr (.inl (fun _ => 0)))), (q2, .inl (k2, 20, .inl (fun _ => 0))), (q3, .inl (k3, 4, .inl (fun _ => 0))), (q4, .inl (k4, 4, .inr (.inl (fun _ => 0))))]) 7 inX4 tyX4_ok nmX4 rfl (by decide) (mG 448 (by decide +kernel) rfl) hi rfl (by decide +kernel) rfl rfl h dX4_init_35 rfl (Nat.le_of_ble_eq_true rfl) rfl (pc' := 38) rfl ?_
  refine c_aload (i := 0) h dX4_init_38 rfl rfl (pc' := 39) rfl ?_
  refine c_bipush (v := 16) h dX4_init_39 (by decide) (pc' := 41) rfl ?_
  refine c_newa (N' := 16) (ty := .long) (a0 := (16, .inr (.inl (fun _ => 0)))) h dX4_init_41 rfl co_arrJ (fun cA => rfl) (by decide) (by decide) (by decide) (by decide) (by decide) (pc' := 43) rfl (fun q5 k5 => ?_)
  refine c_putf (q0 := 0) (v := .ref q5) (ty := .array .long) (C := RX4) (T := TX4) (N := 18) (ci := 4) (ty0 := tyX4) (w' := [(h0, .inr (4, [.int 1, .int 0, .long 0, .ref q1, .ref q2, .ref q3, .int 0, .ref q4, .long 0, .ref q5, .null, .null, .null, .int 0, .null, .null, .int 0, .long 0])), (q1, .inl (k1, 4, .inr (.inl (fun _ => 0)))), (q2, .inl (k2, 20, .inl (fun _ => 0))), (q3, .inl (k3, 4, .inl (fun _ => 0))), (q4, .inl (k4, 4, .inr (.inl (fun _ => 0)))), (q5, .inl (k5, 16, .inr (.inl (fun _ => 0))))]) 9 inX4 tyX4_ok nmX4 rfl (by decide) (mG 450 (by decide +kernel) rfl) hi rfl (by decide +kernel) rfl rfl h dX4_init_43 rfl (Nat.le_of_ble_eq_true rfl) rfl (pc' := 46) rfl ?_
  refine c_aload (i := 0) h dX4_init_46 rfl rfl (pc' := 47) rfl ?_
  refine c_iconst (v := 4) h dX4_init_47 (by decide) (pc' := 48) rfl ?_
  refine c_newa (N' := 4) (ty := .long) (a0 := (4, .inr (.inl (fun _ => 0)))) h dX4_init_48 rfl co_arrJ (fun cA => rfl) (by decide) (by decide) (by decide) (by decide) (by decide) (pc' := 50) rfl (fun q6 k6 => ?_)
  refine c_putf (q0 := 0) (v := .ref q6) (ty := .array .long) (C := RX4) (T := TX4) (N := 18) (ci := 4) (ty0 := tyX4) (w' := [(h0, .inr (4, [.int 1, .int 0, .long 0, .ref q1, .ref q2, .ref q3, .int 0, .ref q4, .long 0, .ref q5, .ref q6, .null, .null, .int 0, .null, .null, .int 0, .long 0])), (q1, .inl (k1, 4, .inr (.inl (fun _ => 0)))), (q2, .inl (k2, 20, .inl (fun _ => 0))), (q3, .inl (k3, 4, .inl (fun _ => 0))), (q4, .inl (k4, 4, .inr (.inl (fun _ => 0)))), (q5, .inl (k5, 16, .inr (.inl (fun _ => 0)))), (q6, .inl (k6, 4, .inr (.inl (fun _ => 0))))]) 10 inX4 tyX4_ok nmX4 rfl (by decide) (mG 451 (by decide +kernel) rfl) hi rfl (by decide +kernel) rfl rfl h dX4_init_50 rfl (Nat.le_of_ble_eq_true rfl) rfl (pc' := 53) rfl ?_
  refine c_aload (i := 0) h dX4_init_53 rfl rfl (pc' := 54) rfl ?_
  refine c_bipush (v := 16) h dX4_init_54 (by decide) (pc' := 56) rfl ?_
  refine c_newa (N' := 16) (ty := .long) (a0 := (16, .inr (.inl (fun _ => 0)))) h dX4_init_56 rfl co_arrJ (fun cA => rfl) (by decide) (by decide) (by decide) (by decide) (by decide) (pc' := 58) rfl (fun q7 k7 => ?_)
  refine c_putf (q0 := 0) (v := .ref q7) (ty := .array .long) (C := RX4) (T := TX4) (N := 18) (ci := 4) (ty0 := tyX4) (w' := [(h0, .inr (4, [.int 1, .int 0, .long 0, .ref q1, .ref q2, .ref q3, .int 0, .ref q4, .long 0, .ref q5, .ref q6, .ref q7, .null, .int 0, .null, .null, .int 0, .long 0])), (q1, .inl (k1, 4, .inr (.inl (fun _ => 0)))), (q2, .inl (k2, 20, .inl (fun _ => 0))), (q3, .inl (k3, 4, .inl (fun _ => 0))), (q4, .inl (k4, 4, .inr (.inl (fun _ => 0)))), (q5, .inl (k5, 16, .inr (.inl (fun _ => 0)))), (q6, .inl (k6, 4, .inr (.inl (fun _ => 0)))), (q7, .inl (k7, 16, .inr (.inl (fun _ => 0))))]) 11 inX4 tyX4_ok nmX4 rfl (by decide) (mG 452 (by decide +kernel) rfl) hi rfl (by decide +kernel) rfl rfl h dX4_init_58 rfl (Nat.le_of_ble_eq_true rfl) rfl (pc' := 61) rfl ?_
  refine c_aload (i := 0) h dX4_init_61 rfl rfl (pc' := 62) rfl ?_
  refine c_iconst (v := 4) h dX4_init_62 (by decide) (pc' := 63) rfl ?_
  refine c_newa (N' := 4) (ty := .boolean) (a0 := (4, .inl (fun _ => 0))) h dX4_init_63 rfl co_arrZ (fun cA => rfl) (by decide) (by decide) (by decide) (by decide) (by decide) (pc' := 65) rfl (fun q8 k8 => ?_)
  refine c_putf (q0 := 0) (v := .ref q8) (ty := .array .boolean) (C := RX4) (T := TX4) (N := 18) (ci := 4) (ty0 := tyX4) (w' := [(h0, .inr (4, [.int 1, .int 0, .long 0, .ref q1, .ref q2, .ref q3, .int 0, .ref q4, .long 0, .ref q5, .ref q6, .ref q7, .ref q8, .int 0, .null, .null, .int 0, .long 0])), (q1, .inl (k1, 4, .inr (.inl (fun _ => 0)))), (q2, .inl (k2, 20, .inl (fun _ => 0))), (q3, .inl (k3, 4, .inl (fun _ => 0))), (q4, .inl (k4, 4, .inr (.inl (fun _ => 0)))), (q5, .inl (k5, 16, .inr (.inl (fun _ => 0)))), (q6, .inl (k6, 4, .inr (.inl (fun _ => 0)))), (q7, .inl (k7, 16, .inr (.inl (fun _ => 0)))), (q8, .inl (k8, 4, .inl (fun _ => 0)))]) 12 inX4 tyX4_ok nmX4 rfl (by decide) (mG 453 (by decide +kernel) rfl) hi rfl (by decide +kernel) rfl rfl h dX4_init_65 rfl (Nat.le_of_ble_eq_true rfl) rfl (pc' := 68) rfl ?_
  refine c_aload (i := 0) h dX4_init_68 rfl rfl (pc' := 69) rfl ?_
  refine c_iconst (v := 4) h dX4_init_69 (by decide) (pc' := 70) rfl ?_
  refine c_newa (N' := 4) (ty := .int) (a0 := (4, .inl (fun _ => 0))) h dX4_init_70 rfl co_arrI (fun cA => rfl) (by decide) (by decide) (by decide) (by decide) (by decide) (pc' := 72) rfl (fun q9 k9 => ?_)
  refine c_putf (q0 := 0) (v := .ref q9) (ty := .array .int) (C := RX4) (T := TX4) (N := 18) (ci := 4) (ty0 := tyX4) (w' := [(h0, .inr (4, [.int 1, .int 0, .long 0, .ref q1, .ref q2, .ref q3, .int 0, .ref q4, .long 0, .ref q5, .ref q6, .ref q7, .ref q8, .int 0, .ref q9, .null, .int 0, .long 0])), (q1, .inl (k1, 4, .inr (.inl (fun _ => 0)))), (q2, .inl (k2, 20, .inl (fun _ => 0))), (q3, .inl (k3, 4, .inl (fun _ => 0))), (q4, .inl (k4, 4, .inr (.inl (fun _ => 0)))), (q5, .inl (k5, 16, .inr (.inl (fun _ => 0)))), (q6, .inl (k6, 4, .inr (.inl (fun _ => 0)))), (q7, .inl (k7, 16, .inr (.inl (fun _ => 0)))), (q8, .inl (k8, 4, .inl (fun _ => 0))), (q9, .inl (k9, 4, .inl (fun _ => 0)))]) 14 inX4 tyX4_ok nmX4 rfl (by decide) (mG 455 (by decide +kernel) rfl) hi rfl (by decide +kernel) rfl rfl h dX4_init_72 rfl (Nat.le_of_ble_eq_true rfl) rfl (pc' := 75) rfl ?_
  refine c_aload (i := 0) h dX4_init_75 rfl rfl (pc' := 76) rfl ?_
  refine c_iconst (v := 4) h dX4_init_76 (by decide) (pc' := 77) rfl ?_
  refine c_newa (N' := 4) (ty := .int) (a0 := (4, .inl (fun _ => 0))) h dX4_init_77 rfl co_arrI (fun cA => rfl) (by decide) (by decide) (by decide) (by decide) (by decide) (pc' := 79) rfl (fun q10 k10 => ?_)
  refine c_putf (q0 := 0) (v := .ref q10) (ty := .array .int) (C := RX4) (T := TX4) (N := 18) (ci := 4) (ty0 := tyX4) (w' := [(h0, .inr (4, [.int 1, .int 0, .long 0, .ref q1, .ref q2, .ref q3, .int 0, .ref q4, .long 0, .ref q5, .ref q6, .ref q7, .ref q8, .int 0, .ref q9, .ref q10, .int 0, .long 0])), (q1, .inl (k1, 4, .inr (.inl (fun _ => 0)))), (q2, .inl (k2, 20, .inl (fun _ => 0))), (q3, .inl (k3, 4, .inl (fun _ => 0))), (q4, .inl (k4, 4, .inr (.inl (fun _ => 0)))), (q5, .inl (k5, 16, .inr (.inl (fun _ => 0)))), (q6, .inl (k6, 4, .inr (.inl (fun _ => 0)))), (q7, .inl (k7, 16, .inr (.inl (fun _ => 0)))), (q8, .inl (k8, 4, .inl (fun _ => 0))), (q9, .inl (k9, 4, .inl (fun _ => 0))), (q10, .inl (k10, 4, .inl (fun _ => 0)))]) 15 inX4 tyX4_ok nmX4 rfl (by decide) (mG 456 (by decide +kernel) rfl) hi rfl (by decide +kernel) rfl rfl h dX4_init_79 rfl (Nat.le_of_ble_eq_true rfl) rfl (pc' := 82) rfl ?_
  exact c_ret (S := []) (pc' := 0) h hr dX4_init_82 ⟨q1, k1, q2, k2, q3, k3, q4, k4, q5, k5, q6, k6, q7, k7, q8, k8, q9, k9, q10, k10, rfl, rfl⟩

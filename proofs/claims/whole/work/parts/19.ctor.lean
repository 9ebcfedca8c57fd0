/-! making: the world grows -/
def GC (D : va_G) (X : XT) (pc : Nat) (L : List (Option Value)) (S : List Value) (w : va_W) (tys : List (ClassId × FieldType)) (ce sl : Nat) : Prop := match X with
  | (p, l, e, R, s, m, args, below, meth, c, _, _, nL, A, Q) => ∀ (H : Heap) (locs : List Loc) (ls : Array Slot), va_K D clsL tys s → va_P D clsL w H → va_D A w → va_S A s.heap H locs → lv_has ls nL (lcs 0 L) →
    W p l e R s m args below meth c H locs ce sl Q (F0 m pc ls S)
def OC (X : XT) (cc : ByteArray) (own : String) (nL : Nat) (R : Room) : Prop := match X with
  | (p, _, _, R', s, m, args, _, meth, c, _, _, nL', A, _) => (p.tables.exec = Jvm.exec ∧ c.code = cc ∧ c.maxLocals = nL) ∧ s.vm.findClass own = some m.cls ∧ (∀ w ∈ tblG, w.before args s = true) ∧ meth.locks = false ∧
    zNW s ∧ (∀ q, s.heap.size ≤ q → A q) ∧ nL' = nL ∧ R' = R
def isInit (X : XT) : Prop := match X with
  | (_, _, _, _, _, _, _, _, meth, _, _, _, _, _, _) => meth.name = "<init>"
def cQ (D : va_G) (post : va_W → List (ClassId × FieldType) → Prop) (A : Nat → Prop) : Array Value → State → Outcome → State → Prop := fun _ st oc t =>
  (∃ (w' : va_W) (tys : List (ClassId × FieldType)), oc = .returned none ∧ post w' tys ∧ va_P D clsL w' t.heap ∧ va_K D clsL tys t ∧ va_D A w') ∧ va_F A st t
def cP (D : va_G) (args : List Value) (w : va_W) (sz : Nat) : Array Value → State → Prop := va_Pc args (fun U => U.heap.size = sz ∧ va_P D clsL w U.heap ∧ va_K D clsL [] U ∧ va_D (fun _ => True) w ∧ zNW U)
theorem cP_blind {D : va_G} {args : List Value} {w : va_W} {sz : Nat} : FrameBlind (cP D args w sz) := by
  intro a U g mk q
  obtain ⟨q0, q1, qP, qK, qD, qN⟩ := q
  exact ⟨q0, q1, qP, va_K.moved (u := U) (U := U.calling g mk a) (Vm.Alike.refl U.vm) qK, qD, fun q hq => va_Nw.same (U := U.calling g mk a) rfl rfl (qN q hq)⟩
def MC (D : va_G) (y : MethodName) (cc : ByteArray) (maxL : Nat) (rm : Room) (args : List Value) (w : va_W) (mc ms : Nat) (post : va_W → List (ClassId × FieldType) → Prop) : Prop :=
  ∀ (l : Launch) (sz : Nat), Met l y (Cond.code y cc maxL none :: tblG) rm (cP D args w sz) (cQ D post (va_A w sz)) mc ms (va_A w sz)
def RC (D : va_G) (X : XT) (post : va_W → List (ClassId × FieldType) → Prop) (mc ms : Nat) : Prop := match X with
  | (_, _, _, _, s, _, args, below, meth, _, _, _, _, A, Q) => meth.sig.returnType = none ∧ Q = MQ below (cQ D post A) args s mc ms A
theorem MC.intro {D : va_G} {y : MethodName} {cc : ByteArray} {maxL : Nat} {rm : Room} {args : List Value} {w : va_W} {mc ms : Nat} {post : va_W → List (ClassId × FieldType) → Prop} (hy : plainName y.cls = true) (hni : y.name = "<init>") (L0 : List (Option Value)) (hL : lcs 0 L0 = lv_args 0 args) (hn : (lg_sl args).length ≤ maxL)
    (body : ∀ X : XT, OC X cc y.cls maxL rm → isInit X → RC D X post mc ms → GC D X 0 L0 [] w [] 0 0) : MC D y cc maxL rm args w mc ms post := by
  intro l sz
  refine Met.ofW (cc := cc) (maxL := maxL) (ret := none) hy rfl ?_
  intro p e s m args' below meth c s₁ B hml hv
  obtain ⟨rfl, hsz, hP, hK, hD0, hNW⟩ := hv
  subst hsz
  have hts := atoms_spec (ws := Cond.code y cc maxL none :: tblG) B.pre
  have hl := lv_entry args (n := maxL) hn
  rw [← hL] at hl
  rw [lg_entry_eq]
  exact body (p, l, e, rm, s, m, args.toArray, below, meth, c, 0, 0, maxL, va_A w s.heap.size, MQ below (cQ D post (va_A w s.heap.size)) args.toArray s mc ms (va_A w s.heap.size))
    ⟨⟨B.exec, B.bytes, hml⟩, findClass_of_methodNamed B.named, fun x hx => hts x (List.mem_cons_of_mem _ hx), B.notSynchronized, hNW, fun q h => Or.inr h, rfl, rfl⟩
    ((name_of_methodNamed B.named B.method).1.trans hni) ⟨B.returns, rfl⟩ s.heap [] _ hK hP (hD0.self (sz := s.heap.size)) va_S.rf hl
theorem c_iconst {D : va_G} {X : XT} {cc : ByteArray} {own : String} {nL : Nat} {R : Room} {pc pc' : Nat} {L : List (Option Value)} {S : List Value} {w : va_W} {tys : List (ClassId × FieldType)} {ce sl : Nat} {n : Int} {v : Int32} (h : OC X cc own nL R) (hd : decode cc pc = .ok (.iconst n, 1)) (hv : Int32.ofInt n = v) (hp : pc + 1 = pc') (k : GC D X pc' L (.int v :: S) w tys ce sl) : GC D X pc L S w tys ce sl := by
  obtain ⟨p, l, e, R0, s, m, args, below, meth, c, ce0, sl0, nL', A, Q⟩ := X
  obtain ⟨⟨hx, hb, hml⟩, hown, hts, hlk, hnw, hA, rfl, rfl⟩ := h
  subst hp
  intro H locs ls hK hP hD hS hl
  exact lv_iconst hx hb hd hv (k H locs ls hK hP hD hS hl)
theorem c_bipush {D : va_G} {X : XT} {cc : ByteArray} {own : String} {nL : Nat} {R : Room} {pc pc' : Nat} {L : List (Option Value)} {S : List Value} {w : va_W} {tys : List (ClassId × FieldType)} {ce sl : Nat} {n : Int} {v : Int32} (h : OC X cc own nL R) (hd : decode cc pc = .ok (.bipush n, 2)) (hv : (Int8.ofInt n).toInt32 = v) (hp : pc + 2 = pc') (k : GC D X pc' L (.int v :: S) w tys ce sl) : GC D X pc L S w tys ce sl := by
  obtain ⟨p, l, e, R0, s, m, args, below, meth, c, ce0, sl0, nL', A, Q⟩ := X
  obtain ⟨⟨hx, hb, hml⟩, hown, hts, hlk, hnw, hA, rfl, rfl⟩ := h
  subst hp
  intro H locs ls hK hP hD hS hl
  exact lv_bipush hx hb hd hv (k H locs ls hK hP hD hS hl)
theorem c_lconst {D : va_G} {X : XT} {cc : ByteArray} {own : String} {nL : Nat} {R : Room} {pc pc' : Nat} {L : List (Option Value)} {S : List Value} {w : va_W} {tys : List (ClassId × FieldType)} {ce sl : Nat} {n : Fin 2} {v : Int64} (h : OC X cc own nL R) (hd : decode cc pc = .ok (.lconst n, 1)) (hv : Int64.ofNat (n : Nat) = v) (hp : pc + 1 = pc') (k : GC D X pc' L (.long v :: S) w tys ce sl) : GC D X pc L S w tys ce sl := by
  obtain ⟨p, l, e, R0, s, m, args, below, meth, c, ce0, sl0, nL', A, Q⟩ := X
  obtain ⟨⟨hx, hb, hml⟩, hown, hts, hlk, hnw, hA, rfl, rfl⟩ := h
  subst hp
  intro H locs ls hK hP hD hS hl
  exact lv_lconst hx hb hd hv (k H locs ls hK hP hD hS hl)
theorem c_aload {D : va_G} {X : XT} {cc : ByteArray} {own : String} {nL : Nat} {R : Room} {pc pc' : Nat} {L : List (Option Value)} {S : List Value} {w : va_W} {tys : List (ClassId × FieldType)} {ce sl : Nat} {k4 : Fin 4} {i : Nat} {x : Nat} (h : OC X cc own nL R) (hd : decode cc pc = .ok (.aload_n k4, 1)) (hi : (k4 : Nat) = i) (hL : L[i]? = some (some (.ref x))) (hp : pc + 1 = pc') (k : GC D X pc' L (.ref x :: S) w tys ce sl) : GC D X pc L S w tys ce sl := by
  obtain ⟨p, l, e, R0, s, m, args, below, meth, c, ce0, sl0, nL', A, Q⟩ := X
  obtain ⟨⟨hx, hb, hml⟩, hown, hts, hlk, hnw, hA, rfl, rfl⟩ := h
  subst hp
  intro H locs ls hK hP hD hS hl
  exact lv_aload_n hx hb hd hi (hl.2.2 (i, _) ((lcs0 L (i, _)).mpr hL)) (k H locs ls hK hP hD hS hl)
theorem c_dup {D : va_G} {X : XT} {cc : ByteArray} {own : String} {nL : Nat} {R : Room} {pc pc' : Nat} {L : List (Option Value)} {S : List Value} {w : va_W} {tys : List (ClassId × FieldType)} {ce sl : Nat} {x : Nat} (h : OC X cc own nL R) (hd : decode cc pc = .ok (.dup, 1))  (hp : pc + 1 = pc') (k : GC D X pc' L (.ref x :: .ref x :: S) w tys ce sl) : GC D X pc L (.ref x :: S) w tys ce sl := by
  obtain ⟨p, l, e, R0, s, m, args, below, meth, c, ce0, sl0, nL', A, Q⟩ := X
  obtain ⟨⟨hx, hb, hml⟩, hown, hts, hlk, hnw, hA, rfl, rfl⟩ := h
  subst hp
  intro H locs ls hK hP hD hS hl
  exact lv_dup hx hb hd rfl (k H locs ls hK hP hD hS hl)
theorem c_astore {D : va_G} {X : XT} {cc : ByteArray} {own : String} {nL : Nat} {R : Room} {pc pc' : Nat} {L : List (Option Value)} {S : List Value} {w : va_W} {tys : List (ClassId × FieldType)} {ce sl : Nat} {k4 : Fin 4} {i : Nat} {x : Nat} (h : OC X cc own nL R) (hd : decode cc pc = .ok (.astore_n k4, 1)) (hi : (k4 : Nat) = i) (hv : pv L i = true) (hn : i < nL) (hp : pc + 1 = pc') (k : GC D X pc' (L.set i (some (.ref x))) S w tys ce sl) : GC D X pc L (.ref x :: S) w tys ce sl := by
  obtain ⟨p, l, e, R0, s, m, args, below, meth, c, ce0, sl0, nL', A, Q⟩ := X
  obtain ⟨⟨hx, hb, hml⟩, hown, hts, hlk, hnw, hA, rfl, rfl⟩ := h
  subst hp
  intro H locs ls hK hP hD hS hl
  exact lv_astore_n hx hb hd hi hl hn rfl (fun ls' hl' => k H locs ls' hK hP hD hS (lvh_mono hl' (lcs_set hv)))
theorem c_obj {D : va_G} {X : XT} {cc : ByteArray} {own : String} {nL : Nat} {R : Room} {pc pc' : Nat} {L : List (Option Value)} {S : List Value} {w : va_W} {tys : List (ClassId × FieldType)} {ce sl : Nat} {idx a : Nat} (h : OC X cc own nL R) (hd : decode cc pc = .ok (.invokespecial idx, 3)) (h1 : Cond.methodLink own idx objectInit ∈ tblG) (h2 : Cond.instanceMethod objectInit ∈ tblG) (h3 : Cond.code objectInit ⟨#[0xb1]⟩ 1 none ∈ tblG) (hR : 1 ≤ R.frames ∧ 12 ≤ R.locals) (hp : pc + 3 = pc') (k : GC D X pc' L [] w tys ce sl) : GC D X pc L [.ref a] w tys ce sl := by
  obtain ⟨p, l, e, R0, s, m, args, below, meth, c, ce0, sl0, nL', A, Q⟩ := X
  obtain ⟨⟨hx, hb, hml⟩, hown, hts, hlk, hnw, hA, rfl, rfl⟩ := h
  subst hp
  intro H locs ls hK hP hD hS hl
  exact W.objInit hx hb hown (hts _ h1) (hts _ h2) (hts _ h3) rfl (by rw [hml]; exact hl.1) rfl hd hR.1 (by show 2 * 0 + 0 + 12 ≤ _; omega) (W.eq (g2 := F0 m (pc + 3) ls []) rfl (k H locs ls hK hP hD hS hl))
theorem c_newa {D : va_G} {X : XT} {cc : ByteArray} {own : String} {nL : Nat} {R : Room} {pc pc' : Nat} {L : List (Option Value)} {S : List Value} {w : va_W} {tys : List (ClassId × FieldType)} {ce sl : Nat} {atype : ArrayType} {ty : FieldType} {n : Int32} {N' : Nat} {a0 : vp_A} (h : OC X cc own nL R) (hd : decode cc pc = .ok (.newarray atype, 2)) (hty : newarray.typeOf atype = ty) (harr : Cond.arrayClass (newarray.typeOf atype) ∈ tblG) (ha : ∀ cA : ClassId, vp_cell cA a0 = arrV cA N' (fun _ => defaultValue ty)) (hn : ¬ n < 0) (hN : n.toNatClampNeg = N') (hby : N' * componentBytes ty ≤ 536870912) (hce : ce + 1 ≤ R.cells) (hsl : sl + N' ≤ R.slots) (hp : pc + 2 = pc')
    (k : ∀ (q : Nat) (cA : ClassId), GC D X pc' L (.ref q :: S) (w ++ [(q, .inl (cA, a0))]) (tys ++ [(cA, ty)]) (ce + 1) (sl + N')) : GC D X pc L (.int n :: S) w tys ce sl := by
  obtain ⟨p, l, e, R0, s, m, args, below, meth, c, ce0, sl0, nL', A, Q⟩ := X
  obtain ⟨⟨hx, hb, hml⟩, hown, hts, hlk, hnw, hA, rfl, rfl⟩ := h
  subst hp
  intro H locs ls hK hP hD hS hl
  exact va_newa hx hb (hts _ harr) hty hK hP hD hS hA ha hn hN hby hce hsl hd (fun q cA H1 hK1 hP1 hD1 hS1 => k q cA H1 locs ls hK1 hP1 hD1 hS1 hl)
theorem c_new {D : va_G} {X : XT} {cc : ByteArray} {own : String} {nL : Nat} {R : Room} {pc pc' : Nat} {L : List (Option Value)} {S : List Value} {w : va_W} {tys : List (ClassId × FieldType)} {ce sl : Nat} {C : String} {T : u_T} {N ci index : Nat} {ty : Nat → FieldType} {fs : List Value} (h : OC X cc own nL R) (hd : decode cc pc = .ok (.new index, 3)) (hin : ∀ x ∈ u_ws C T N, x ∈ tblG) (hty : ∀ k, k < N → parseFieldDescriptor (T k).2.2.1 = some (ty k)) (hcl : Cond.classLink own index C ∈ tblG) (hins : Cond.instantiable C N ∈ tblG) (hini : Cond.initialized C ∈ tblG) (hc : clsL[ci]? = some (C, T, N)) (hfs : ∀ j, j < N → defaultValue (ty j) = vp_V fs j) (hce : ce + 1 ≤ R.cells) (hsl : sl + N ≤ R.slots) (hp : pc + 3 = pc')
    (k : ∀ q : Nat, GC D X pc' L (.ref q :: S) (w ++ [(q, .inr (ci, fs))]) tys (ce + 1) (sl + N)) : GC D X pc L S w tys ce sl := by
  obtain ⟨p, l, e, R0, s, m, args, below, meth, c, ce0, sl0, nL', A, Q⟩ := X
  obtain ⟨⟨hx, hb, hml⟩, hown, hts, hlk, hnw, hA, rfl, rfl⟩ := h
  subst hp
  intro H locs ls hK hP hD hS hl
  exact va_new hx hb hts hin ty hty hown (hts _ hcl) (hts _ hins) (hts _ hini) hK hP hD hS hA hc hfs hce hsl hd (fun q H1 hP1 hD1 hS1 => k q H1 locs ls hK hP1 hD1 hS1 hl)
theorem c_getf {D : va_G} {X : XT} {cc : ByteArray} {own : String} {nL : Nat} {R : Room} {pc pc' : Nat} {L : List (Option Value)} {S : List Value} {w : va_W} {tys : List (ClassId × FieldType)} {ce sl : Nat} {idx q0 ci N : Nat} {C : String} {T : u_T} {a : Nat} {fs : List Value} {v : Value} (kf : Nat) (hin : ∀ x ∈ u_ws C T N, x ∈ tblG) (hc : clsL[ci]? = some (C, T, N)) (hk : kf < N) (hlink : Cond.fieldLink own idx (T kf).1 (T kf).2.1 (T kf).2.2.1 ∈ tblG) (h : OC X cc own nL R) (hd : decode cc pc = .ok (.getfield idx, 3)) (he : w[q0]? = some (a, .inr (ci, fs))) (hv : fs[kf]? = some v) (hp : pc + 3 = pc') (k : GC D X pc' L (v :: S) w tys ce sl) : GC D X pc L (.ref a :: S) w tys ce sl := by
  obtain ⟨p, l, e, R0, s, m, args, below, meth, c, ce0, sl0, nL', A, Q⟩ := X
  obtain ⟨⟨hx, hb, hml⟩, hown, hts, hlk, hnw, hA, rfl, rfl⟩ := h
  subst hp
  intro H locs ls hK hP hD hS hl
  exact va_get hx hb hts hin hown hK hP q0 he hc kf hk (hts _ hlink) (fun _ h9 => h9) hv hd (k H locs ls hK hP hD hS hl)
theorem c_putf {D : va_G} {X : XT} {cc : ByteArray} {own : String} {nL : Nat} {R : Room} {pc pc' : Nat} {L : List (Option Value)} {S : List Value} {w : va_W} {tys : List (ClassId × FieldType)} {ce sl : Nat} {idx q0 ci N : Nat} {C : String} {T : u_T} {ty0 : Nat → FieldType} {a : Nat} {fs : List Value} {v : Value} {ty : FieldType} {w' : va_W} (kf : Nat) (hin : ∀ x ∈ u_ws C T N, x ∈ tblG) (hty : ∀ k, k < N → parseFieldDescriptor (T k).2.2.1 = some (ty0 k)) (hnm : ∀ a, a < N → ∀ b, b < N → a ≠ b → (T a).2.1 ≠ (T b).2.1) (hc : clsL[ci]? = some (C, T, N)) (hk : kf < N) (hlink : Cond.fieldLink own idx (T kf).1 (T kf).2.1 (T kf).2.2.1 ∈ tblG) (hini : isInit X) (hdecl : (T kf).1 = own) (hpd : parseFieldDescriptor (T kf).2.2.1 = some ty) (hnar : narrow ty v = v) (hfit : fits ty v = true) (h : OC X cc own nL R) (hd : decode cc pc = .ok (.putfield idx, 3)) (he : w[q0]? = some (a, .inr (ci, fs))) (hl1 : kf < fs.length) (hw : w.set q0 (a, .inr (ci, fs.set kf v)) = w') (hp : pc + 3 = pc') (k : GC D X pc' L S w' tys ce sl) : GC D X pc L (v :: .ref a :: S) w tys ce sl := by
  subst hw
  have hin0 := hini
  obtain ⟨p, l, e, R0, s, m, args, below, meth, c, ce0, sl0, nL', A, Q⟩ := X
  obtain ⟨⟨hx, hb, hml⟩, hown, hts, hlk, hnw, hA, rfl, rfl⟩ := h
  subst hp
  intro H locs ls hK hP hD hS hl
  by_cases hf : (T kf).2.2.2 = true
  · exact va_putF hx hb hts hin ty0 hty hnm hown hK hP hD hS q0 he hc kf hk (hts _ hlink) (fun _ h9 => h9) hf hin0 hdecl hpd hnar hfit hl1 hd (fun H1 locs1 hP1 hD1 hS1 => k H1 locs1 ls hK hP1 hD1 hS1 hl)
  · exact va_put hx hb hts hin ty0 hty hnm hown hK hP hD hS q0 he hc kf hk (hts _ hlink) (fun _ h9 => h9) (by simpa using hf) hpd hnar hfit hl1 hd (fun H1 locs1 hP1 hD1 hS1 => k H1 locs1 ls hK hP1 hD1 hS1 hl)
theorem c_ret {D : va_G} {X : XT} {cc : ByteArray} {own : String} {nL : Nat} {R : Room} {pc pc' : Nat} {L : List (Option Value)} {S : List Value} {w : va_W} {tys : List (ClassId × FieldType)} {ce sl : Nat} {post : va_W → List (ClassId × FieldType) → Prop} (h : OC X cc own nL R) (hr : RC D X post ce sl) (hd : decode cc pc = .ok (.return_, 1)) (hpo : post w tys) : GC D X pc L [] w tys ce sl := by
  obtain ⟨p, l, e, R0, s, m, args, below, meth, c, ce0, sl0, nL', A, Q⟩ := X
  obtain ⟨⟨hx, hb, hml⟩, hown, hts, hlk, hnw, hA, rfl, rfl⟩ := h
  obtain ⟨hrt, rfl⟩ := hr
  intro H locs ls hK hP hD hS hl
  exact W.vret hx hb hrt (fun t ht hW => ⟨⟨w, tys, rfl, hpo, by rw [ht]; exact hP, va_K.moved hW.alike hK, hD⟩, hS.F ht⟩) hS.2.2 hd hlk
/-- a constructor's call: the new object, last in the world, becomes what the constructor makes of it -/
theorem c_call {D : va_G} {X : XT} {cc : ByteArray} {own : String} {nL : Nat} {R : Room} {pc pc' : Nat} {L : List (Option Value)} {S : List Value} {w : va_W} {tys : List (ClassId × FieldType)} {ce sl : Nat} {w0 wc : va_W} {rest : List Value} {y : MethodName} {bytes : ByteArray} {maxL n index mc ms b : Nat} {rm : Room} {As : List Value} {post : va_W → List (ClassId × FieldType) → Prop} (nest : Bool) (h : OC X cc own nL R) (hd : decode cc pc = .ok (.invokespecial index, 3)) (hyn : y.name = "<init>") (hli : if nest then (own, index, y) ∈ nestL else Cond.methodLink own index y ∈ tblG) (hin : Cond.instanceMethod y ∈ tblG) (hini : Cond.initialized y.cls ∈ tblG) (hco : Cond.code y bytes maxL none ∈ tblG) (hy : y.cls ≠ "java/lang/invoke/MethodHandle" ∧ y.cls ≠ "java/lang/invoke/VarHandle") (hnp : (parseMethodDescriptor y.desc).map (fun d => d.parameters.length) = some n)
    (hM : MC D y bytes maxL rm (.ref b :: As) wc mc ms post) (hrm : rm.cells = mc ∧ rm.slots = ms) (hn : As.length = n) (hR : rm.frames + 1 ≤ R.frames ∧ 8 + (maxL + 11) + rm.locals ≤ R.locals) (hce : ce + mc ≤ R.cells) (hsl : sl + ms ≤ R.slots) (hst : S = As.reverse ++ .ref b :: rest) (h8 : (rest.map fun v => v.category).sum ≤ 8) (hw : w = w0 ++ wc) (hp : pc + 3 = pc')
    (k : ∀ (w' : va_W) (ty' : List (ClassId × FieldType)), post w' ty' → GC D X pc' L rest (w0 ++ w') (tys ++ ty') (ce + mc) (sl + ms)) : GC D X pc L S w tys ce sl := by
  have e1 : w = w0 ++ (wc ++ []) := by rw [hw]; simp
  subst e1
  obtain ⟨p, l, e, R0, s, m, args, below, meth, c, ce0, sl0, nL', A, Q⟩ := X
  obtain ⟨⟨hx, hb, hml⟩, hown, hts, hlk, hnw, hA, rfl, rfl⟩ := h
  subst hp
  subst hst
  intro H locs ls hK hP hD hS hl
  have hAm := va_A_mid hD hS hA
  have hpre : ∀ U : State, U.heap = H → s.WarmedH U.vm → cP D (.ref b :: As) wc H.size (Value.ref b :: As).toArray U := fun U hU hW => ⟨rfl, by rw [hU], by rw [hU]; exact mid_P hP, va_K.moved hW.alike (hK.sub (tys' := []) [] rfl), (mid_D hD).weaken (fun _ _ _ _ => trivial), fun q h => va_Nw.warmM hW (hnw q h)⟩
  have run : va_Run p l e R0 s m args below meth c H locs ce sl mc ms (F0 m pc ls (As.reverse ++ .ref b :: rest)) rest (cQ D post (va_A wc H.size) (Value.ref b :: As).toArray) (va_A wc H.size) := by
    cases nest with
    | true => exact va_runIN (host := "WhoPays") (As := As) (n := n) ⟨hx, hb, hml, hown, hts⟩ (hM l H.size) ⟨⟨⟨hrm.1, hrm.2, hR.1, hR.2, pay_in hts (good_cons hco), List.mem_cons_self⟩, hts _ hco, hts _ hini, hy, num_par hnp, va_Nw.use rfl (hnw _ hli)⟩, hyn, hts _ hin⟩ ⟨cP_blind, hpre⟩ rfl hn hl.1 rfl (lv_room h8) hd ⟨hce, hsl⟩
    | false => exact va_runI (As := As) (n := n) ⟨hx, hb, hml, hown, hts⟩ (hM l H.size) ⟨⟨hrm.1, hrm.2, hR.1, hR.2, pay_in hts (good_cons hco), List.mem_cons_self, hts _ hco, hts _ hini, hy, num_par hnp, hts _ hli⟩, hyn, hts _ hin⟩ ⟨cP_blind, hpre⟩ rfl hn hl.1 rfl (lv_room h8) hd ⟨hce, hsl⟩
  intro T hT XX
  obtain ⟨v0, st₀, t, T', L1, h0, X', hL, e1, e2, ⟨⟨w', ty', hv, hpo, hP1, hK1, hD1⟩, hz, hk⟩, st⟩ := run T hT XX
  cases hv
  rw [h0] at hz hk
  have hP1 : va_P D clsL w' T'.heap := by rw [e1]; exact hP1
  have hk1 : ∀ q : Nat, q < H.size → ¬ va_A wc H.size q → T'.heap[q]? = H[q]? := fun q h1 h2 => by rw [e1]; exact hk q h1 h2
  obtain ⟨hP2, hD2⟩ := mid_join hP hD hk1 hAm hP1 hD1
  rw [List.append_nil] at hP2 hD2
  have hK2 : va_K D clsL ty' s := va_K.moved (u := t) (U := s) (by have := X'.warmed.alike; rw [e2] at this; exact this.symm) hK1
  obtain ⟨t2, a1, b1⟩ := k w' ty' hpo T'.heap (locs ++ L1) ls (hK.app hK2) hP2 hD2
    ⟨Nat.le_trans hS.1 (by rw [e1]; exact hz), fun q h1 h2 => by rw [hk1 q (Nat.lt_of_lt_of_le h1 hS.1) (fun z => h2 (hAm q z))]; exact hS.2.1 q h1 h2, fun q hq => by
      rcases List.mem_append.mp hq with h | h
      · exact hS.2.2 q h
      · exact hAm _ (hL q h)⟩ hl T' rfl X'
  exact ⟨t2, st t2 a1, b1⟩

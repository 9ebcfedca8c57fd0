abbrev ZT : Type := va_G × (Nat → ClassId) × (Nat → Nat)
abbrev XT : Type := Program × Launch × Env × Room × State × MethodId × Array Value × List Frame × Method × Code × Nat × Nat × Nat × (Nat → Prop) × (State → Prop)
def lcs : Nat → List (Option Value) → List (Nat × Value)
  | _, [] => []
  | i, none :: t => lcs (i + 1) t
  | i, some v :: t => (i, v) :: lcs (i + 1) t
theorem lcs_mem : ∀ (L : List (Option Value)) (b : Nat) (q : Nat × Value), q ∈ lcs b L ↔ b ≤ q.1 ∧ L[q.1 - b]? = some (some q.2)
  | [], b, q => by simp [lcs]
  | none :: t, b, q => by
    rw [lcs, lcs_mem t (b + 1) q]
    constructor
    · rintro ⟨h1, h2⟩
      have e : q.1 - b = (q.1 - (b + 1)) + 1 := by omega
      exact ⟨by omega, by rw [e]; simpa using h2⟩
    · rintro ⟨h1, h2⟩
      by_cases e : q.1 = b
      · rw [show q.1 - b = 0 by omega] at h2
        simp at h2
      · have e2 : q.1 - b = (q.1 - (b + 1)) + 1 := by omega
        rw [e2] at h2
        exact ⟨by omega, by simpa using h2⟩
  | some v :: t, b, q => by
    rw [lcs, List.mem_cons, lcs_mem t (b + 1) q]
    constructor
    · rintro (h | ⟨h1, h2⟩)
      · subst h
        simp
      · have e : q.1 - b = (q.1 - (b + 1)) + 1 := by omega
        exact ⟨by omega, by rw [e]; simpa using h2⟩
    · rintro ⟨h1, h2⟩
      by_cases e : q.1 = b
      · left
        rw [show q.1 - b = 0 by omega] at h2
        simp at h2
        exact Prod.ext e h2.symm
      · right
        have e2 : q.1 - b = (q.1 - (b + 1)) + 1 := by omega
        rw [e2] at h2
        exact ⟨by omega, by simpa using h2⟩
theorem lcs0 (L : List (Option Value)) (q : Nat × Value) : q ∈ lcs 0 L ↔ L[q.1]? = some (some q.2) := by
  rw [lcs_mem]; simp
theorem lvh_mono {ls : Array Slot} {n : Nat} {l l' : List (Nat × Value)} (h : lv_has ls n l) (hs : ∀ q ∈ l', q ∈ l) : lv_has ls n l' := ⟨h.1, h.2.1, fun q hq => h.2.2 q (hs q hq)⟩
def nl : Option Value → Bool
  | some (.long _) => false
  | some (.double _) => false
  | _ => true
theorem nl_cat {v : Value} (h : nl (some v) = true) : v.category = 1 := by
  cases v <;> first | rfl | (simp [nl] at h)
/-- the slot ahead of i holds no long -/
def pv (L : List (Option Value)) (i : Nat) : Bool := match i with
  | 0 => true
  | j + 1 => nl (L[j]?.getD none)
theorem pv_ok {L : List (Option Value)} {i : Nat} (h : pv L i = true) {q : Nat × Value} (hq : L[q.1]? = some (some q.2)) (e : q.1 + 1 = i) : q.2.category = 1 := by
  subst e
  rw [pv, hq] at h
  exact nl_cat h
theorem lcs_set {L : List (Option Value)} {i : Nat} {v : Value} (hp : pv L i = true) : ∀ q ∈ lcs 0 (L.set i (some v)), q ∈ (i, v) :: (lcs 0 L).filter (fun q => !(q.1 == i) && !(q.1 + 1 == i && q.2.category == 2)) := by
  intro q hq
  rw [lcs0, List.getElem?_set] at hq
  by_cases e : i = q.1
  · subst e
    rw [if_pos rfl] at hq
    by_cases hl : q.1 < L.length
    · rw [if_pos hl] at hq
      simp at hq
      exact List.mem_cons.mpr (Or.inl (Prod.ext rfl hq.symm))
    · rw [if_neg hl] at hq
      cases hq
  · rw [if_neg e] at hq
    refine List.mem_cons.mpr (Or.inr (List.mem_filter.mpr ⟨(lcs0 L q).mpr hq, ?_⟩))
    have e1 : ¬ q.1 = i := fun h => e h.symm
    by_cases e2 : q.1 + 1 = i
    · have := pv_ok hp hq e2
      simp [e1, this]
    · simp [e1, e2]
theorem lcs_set2 {L : List (Option Value)} {i : Nat} {v : Value} (hp : pv L i = true) : ∀ q ∈ lcs 0 ((L.set i (some v)).set (i + 1) none), q ∈ (i, v) :: (lcs 0 L).filter (fun q => !(q.1 == i) && (!(q.1 == i + 1) && !(q.1 + 1 == i && q.2.category == 2))) := by
  intro q hq
  rw [lcs0, List.getElem?_set] at hq
  by_cases e0 : i + 1 = q.1
  · rw [if_pos e0] at hq
    by_cases hl : i + 1 < (L.set i (some v)).length
    · rw [if_pos hl] at hq
      simp at hq
    · rw [if_neg hl] at hq
      cases hq
  rw [if_neg e0, List.getElem?_set] at hq
  by_cases e : i = q.1
  · subst e
    rw [if_pos rfl] at hq
    by_cases hl : q.1 < L.length
    · rw [if_pos hl] at hq
      simp at hq
      exact List.mem_cons.mpr (Or.inl (Prod.ext rfl hq.symm))
    · rw [if_neg hl] at hq
      cases hq
  · rw [if_neg e] at hq
    refine List.mem_cons.mpr (Or.inr (List.mem_filter.mpr ⟨(lcs0 L q).mpr hq, ?_⟩))
    have e1 : ¬ q.1 = i := fun h => e h.symm
    have e3 : ¬ q.1 = i + 1 := fun h => e0 h.symm
    by_cases e2 : q.1 + 1 = i
    · have := pv_ok hp hq e2
      simp [e1, e3, this]
    · simp [e1, e2, e3]
def tysZ (Z : ZT) : List (ClassId × FieldType) := [(Z.2.1 0, .int), (Z.2.1 1, .long), (Z.2.1 2, .boolean)]
def allL : List Int32 := [12, 13, 14, 23, 24, 34, 123, 124, 132, 134, 142, 143, 234, 243, 1234, 1243, 1324, 1342, 1423, 1432]
def allR (j : Nat) : Int32 := allL.getD j 0
/-- the calls of a private method of a nest mate -/
def nestL : List (String × Nat × MethodName) := [(RX0, 28, yX3_put), (RX0, 32, yX3_at), (RX1, 40, yX3_put), (RX1, 44, yX3_putLong), (RX1, 103, yX3_at), (RX1, 99, yX3_longAt), (RX2, 19, yX3_at), (RX3, 9, yX0_init)]
def zNW (U : State) : Prop := ∀ q ∈ nestL, va_Nw (.methodLinkNest q.1 q.2.1 q.2.2 "WhoPays") U
/-- the one static row, which nobody writes; the words of the nest -/
def zST (Z : ZT) (A : Nat → Prop) (U : State) (H : Heap) : Prop := va_Z "WhoPays$Rings" "ALL" "[I" (.ref (Z.2.2 21)) A U H ∧ va_T .int (Z.2.2 21) 20 (fun j => .int (allR j)) A U H ∧ zNW U
def rmd (d : Nat) : Room := { frames := d, cells := 0, slots := 0, locals := 30 * d }
/-- a method's end: its answer and its world -/
def mQ (Z : ZT) (v : Option Value) (w' : va_W) (A : Nat → Prop) : Array Value → State → Outcome → State → Prop := fun _ st oc t =>
  (oc = .returned v ∧ va_P Z.1 clsL w' t.heap ∧ va_K Z.1 clsL (tysZ Z) t ∧ va_D A w') ∧ va_F A st t
/-- a method's start -/
def mP (Z : ZT) (args : List Value) (w : va_W) (sz : Nat) : Array Value → State → Prop :=
  va_Pc args (fun U => U.heap.size = sz ∧ va_P Z.1 clsL w U.heap ∧ va_K Z.1 clsL (tysZ Z) U ∧ va_D (fun _ => True) w ∧ zST Z (va_A w sz) U U.heap)
/-- a method's contract: from the world w with these arguments it answers v, and the world is w' -/
def MM (Z : ZT) (y : MethodName) (cc : ByteArray) (maxL : Nat) (ret : Option FieldType) (d : Nat) (args : List Value) (w : va_W) (v : Option Value) (w' : va_W) : Prop :=
  ∀ (l : Launch) (sz : Nat), Met l y (Cond.code y cc maxL ret :: tblG) (rmd d) (mP Z args w sz) (mQ Z v w' (va_A w sz)) 0 0 (va_A w sz)
theorem mP_blind {Z : ZT} {args : List Value} {w : va_W} {sz : Nat} : FrameBlind (mP Z args w sz) := by
  intro a U g mk q
  obtain ⟨q0, q1, qP, qK, qD, qS⟩ := q
  exact ⟨q0, q1, qP, va_K.moved (u := U) (U := U.calling g mk a) (Vm.Alike.refl U.vm) qK, qD, va_Z.moved (u := U) (U := U.calling g mk a) (Vm.Alike.refl U.vm) qS.1, va_T.moved (u := U) (U := U.calling g mk a) (Vm.Alike.refl U.vm) qS.2.1, fun q hq => va_Nw.same (U := U.calling g mk a) rfl rfl (qS.2.2 q hq)⟩
abbrev xS (X : XT) : State := X.2.2.2.2.1
abbrev xA (X : XT) : Nat → Prop := X.2.2.2.2.2.2.2.2.2.2.2.2.2.1
abbrev xnL (X : XT) : Nat := X.2.2.2.2.2.2.2.2.2.2.2.2.1
def GG (Z : ZT) (X : XT) (pc : Nat) (L : List (Option Value)) (S : List Value) (w : va_W) : Prop := match X with
  | (p, l, e, R, s, m, args, below, meth, c, ce, sl, nL, A, Q) => ∀ (H : Heap) (locs : List Loc) (ls : Array Slot), va_P Z.1 clsL w H → va_D A w → va_S A s.heap H locs → lv_has ls nL (lcs 0 L) →
    W p l e R s m args below meth c H locs ce sl Q (F0 m pc ls S)
def OK (Z : ZT) (X : XT) (cc : ByteArray) (own : String) (nL : Nat) (R : Room) : Prop := match X with
  | (p, _, _, R', s, m, args, _, meth, c, ce, sl, nL', A, _) => (p.tables.exec = Jvm.exec ∧ c.code = cc ∧ c.maxLocals = nL) ∧ s.vm.findClass own = some m.cls ∧ (∀ w ∈ tblG, w.before args s = true) ∧ meth.locks = false ∧
    va_K Z.1 clsL (tysZ Z) s ∧ zST Z A s s.heap ∧ (∀ q, s.heap.size ≤ q → A q) ∧ nL' = nL ∧ R' = R ∧ ce ≤ R.cells ∧ sl ≤ R.slots
def RT (Z : ZT) (X : XT) (ret : Option FieldType) (v : Option Value) (w' : va_W) : Prop := match X with
  | (_, _, _, _, s, _, args, below, meth, _, ce, sl, _, A, Q) => meth.sig.returnType = ret ∧ Q = MQ below (mQ Z v w' A) args s ce sl A
theorem MM.intro {Z : ZT} {y : MethodName} {cc : ByteArray} {maxL : Nat} {ret : Option FieldType} {d : Nat} {args : List Value} {w : va_W} {v : Option Value} {w' : va_W} (hy : plainName y.cls = true) (L0 : List (Option Value)) (hL : lcs 0 L0 = lv_args 0 args) (hn : (lg_sl args).length ≤ maxL)
    (body : ∀ X : XT, OK Z X cc y.cls maxL (rmd d) → RT Z X ret v w' → GG Z X 0 L0 [] w) : MM Z y cc maxL ret d args w v w' := by
  intro l sz
  refine Met.ofW (cc := cc) (maxL := maxL) (ret := ret) hy rfl ?_
  intro p e s m args' below meth c s₁ B hml hv
  obtain ⟨rfl, hsz, hP, hK, hD0, hST⟩ := hv
  subst hsz
  have hts := atoms_spec (ws := Cond.code y cc maxL ret :: tblG) B.pre
  have hl := lv_entry args (n := maxL) hn
  rw [← hL] at hl
  rw [lg_entry_eq]
  exact body (p, l, e, rmd d, s, m, args.toArray, below, meth, c, 0, 0, maxL, va_A w s.heap.size, MQ below (mQ Z v w' (va_A w s.heap.size)) args.toArray s 0 0 (va_A w s.heap.size))
    ⟨⟨B.exec, B.bytes, hml⟩, findClass_of_methodNamed B.named, fun x hx => hts x (List.mem_cons_of_mem _ hx), B.notSynchronized, hK, hST, fun q h => Or.inr h, rfl, rfl, Nat.zero_le _, Nat.zero_le _⟩
    ⟨B.returns, rfl⟩ s.heap [] _ hP (hD0.self (sz := s.heap.size)) va_S.rf hl

/-! A POINT OF A WALK: the world ws, the locals ls, the stack st at pc; the heap is packed away. X: the walk's fixed things. -/
abbrev jX : Type := Program × Launch × Env × Room × State × MethodId × Array Value × List Frame × Method × Code × va_G × List (ClassId × FieldType) × (Nat → Prop) × Nat × (State → Prop)
def J (X : jX) (k n : Nat) (ws : va_W) (pc : Nat) (ls : List (Nat × Value)) (st : List Value) : Prop :=
  match X with
  | (p, l, e, R, s, m, args, below, meth, c, D, T, A, nL, Q) => ∀ (H : Heap) (locs : List Loc) (sl : Array Slot), va_P D vwCl ws H → va_D A ws → va_S A s.heap H locs → lv_has sl nL ls → W p l e R s m args below meth c H locs k n Q (F0 m pc sl st)
def jOK (X : jX) (l0 : Launch) (D0 : va_G) (T0 : List (ClassId × FieldType)) (cc : ByteArray) (own : String) (rt : Option FieldType) (rm : Room) (nL0 : Nat) : Prop :=
  match X with
  | (p, l, e, R, s, m, args, below, meth, c, D, T, A, nL, Q) => p.tables.exec = Jvm.exec ∧ c.code = cc ∧ (l = l0 ∧ D = D0 ∧ T = T0 ∧ R = rm ∧ nL = nL0) ∧ meth.sig.returnType = rt ∧ s.vm.findClass own = some m.cls ∧ (∀ w ∈ GW, w.before args s = true) ∧ (∀ w ∈ NW, w.before args s = true) ∧ va_K D vwCl T s ∧ (∀ q, s.heap.size ≤ q → A q) ∧ c.maxLocals = nL ∧ meth.locks = false ∧ jZ s s.heap A
/-- what a method leaves: its answer and its world, as P says -/
def jQc (D : va_G) (T : List (ClassId × FieldType)) (P : Option Value → va_W → Prop) (A : Nat → Prop) : Array Value → State → Outcome → State → Prop := fun _ st oc t => (∃ (v : Option Value) (w : va_W), oc = .returned v ∧ P v w ∧ va_P D vwCl w t.heap ∧ va_K D vwCl T t ∧ va_D A w) ∧ va_F A st t
def jEnd (X : jX) (P : Option Value → va_W → Prop) (mc ms : Nat) : Prop :=
  match X with
  | (p, l, e, R, s, m, args, below, meth, c, D, T, A, nL, Q) => Q = MQ below (jQc D T P A) args s mc ms A
/-- A CONTRACT: from the world w0 at these arguments the method returns, as P says; at most mc cells of ms slots are new -/
def cm (l : Launch) (D : va_G) (T : List (ClassId × FieldType)) (y : MethodName) (cc : ByteArray) (maxL : Nat) (ret : Option FieldType) (rm : Room) (av : List Value) (w0 : va_W) (P : Option Value → va_W → Prop) : Prop :=
  ∀ sz : Nat, Met l y (Cond.code y cc maxL ret :: GW) rm (va_Pc av (fun U => U.heap.size = sz ∧ va_P D vwCl w0 U.heap ∧ va_K D vwCl T U ∧ va_D (fun _ => True) w0 ∧ (∀ w ∈ NW, va_Nw w U) ∧ jZ U U.heap (va_A w0 sz))) (jQc D T P (va_A w0 sz)) rm.cells rm.slots (va_A w0 sz)
theorem nw_onTables : ∀ w ∈ NW, w.onTables = true := by decide +kernel
section JRows
variable {X : jX} {l0 : Launch} {D0 : va_G} {T0 : List (ClassId × FieldType)} {cc : ByteArray} {own : String} {rt : Option FieldType} {rm : Room} {nL : Nat} {a b : Nat} {ws : va_W} {pc : Nat} {ls : List (Nat × Value)} {st : List Value}

theorem j_iconst (h : jOK X l0 D0 T0 cc own rt rm nL) {n : Int} (v : Int32) (d : decode cc pc = .ok (.iconst n, 1)) (hv1 : Int32.ofInt n = v)
    (kk : J X a b ws (pc + 1) ls (.int v :: st)) : J X a b ws pc ls st := by
  obtain ⟨p, l, e, R, s, m, args, below, meth, c, D, T, A, nL1, Q⟩ := X
  obtain ⟨hx, hb, ⟨rfl, rfl, rfl, rfl, rfl⟩, hr, hown, hts, hnw, hK, hA, hml, hlocks, hZ⟩ := h
  exact fun H locs sl hP hD hS hv => lv_iconst hx hb d hv1 (kk H locs sl hP hD hS hv)
theorem j_bipush (h : jOK X l0 D0 T0 cc own rt rm nL) {n : Int} (v : Int32) (d : decode cc pc = .ok (.bipush n, 2)) (hv1 : (Int8.ofInt n).toInt32 = v)
    (kk : J X a b ws (pc + 2) ls (.int v :: st)) : J X a b ws pc ls st := by
  obtain ⟨p, l, e, R, s, m, args, below, meth, c, D, T, A, nL1, Q⟩ := X
  obtain ⟨hx, hb, ⟨rfl, rfl, rfl, rfl, rfl⟩, hr, hown, hts, hnw, hK, hA, hml, hlocks, hZ⟩ := h
  exact fun H locs sl hP hD hS hv => lv_bipush hx hb d hv1 (kk H locs sl hP hD hS hv)
theorem j_sipush (h : jOK X l0 D0 T0 cc own rt rm nL) {n : Int} (v : Int32) (d : decode cc pc = .ok (.sipush n, 3)) (hv1 : (Int16.ofInt n).toInt32 = v)
    (kk : J X a b ws (pc + 3) ls (.int v :: st)) : J X a b ws pc ls st := by
  obtain ⟨p, l, e, R, s, m, args, below, meth, c, D, T, A, nL1, Q⟩ := X
  obtain ⟨hx, hb, ⟨rfl, rfl, rfl, rfl, rfl⟩, hr, hown, hts, hnw, hK, hA, hml, hlocks, hZ⟩ := h
  exact fun H locs sl hP hD hS hv => lv_sipush hx hb d hv1 (kk H locs sl hP hD hS hv)
theorem j_iload_n (h : jOK X l0 D0 T0 cc own rt rm nL) {k : Fin 4} {i : Nat} {x : Int32} (d : decode cc pc = .ok (.iload_n k, 1)) (hi : (k : Nat) = i) (j : Nat) (hl : ls[j]? = some (i, .int x))
    (kk : J X a b ws (pc + 1) ls (.int x :: st)) : J X a b ws pc ls st := by
  obtain ⟨p, l, e, R, s, m, args, below, meth, c, D, T, A, nL1, Q⟩ := X
  obtain ⟨hx, hb, ⟨rfl, rfl, rfl, rfl, rfl⟩, hr, hown, hts, hnw, hK, hA, hml, hlocks, hZ⟩ := h
  exact fun H locs sl hP hD hS hv => lv_iload_n hx hb d hi (lv_at hv j hl) (kk H locs sl hP hD hS hv)
theorem j_iload (h : jOK X l0 D0 T0 cc own rt rm nL) {i : Nat} {x : Int32} (d : decode cc pc = .ok (.iload i, 2)) (j : Nat) (hl : ls[j]? = some (i, .int x))
    (kk : J X a b ws (pc + 2) ls (.int x :: st)) : J X a b ws pc ls st := by
  obtain ⟨p, l, e, R, s, m, args, below, meth, c, D, T, A, nL1, Q⟩ := X
  obtain ⟨hx, hb, ⟨rfl, rfl, rfl, rfl, rfl⟩, hr, hown, hts, hnw, hK, hA, hml, hlocks, hZ⟩ := h
  exact fun H locs sl hP hD hS hv => lv_iload hx hb d (lv_at hv j hl) (kk H locs sl hP hD hS hv)
theorem j_aload_n (h : jOK X l0 D0 T0 cc own rt rm nL) {k : Fin 4} {i : Nat} {x : Nat} (d : decode cc pc = .ok (.aload_n k, 1)) (hi : (k : Nat) = i) (j : Nat) (hl : ls[j]? = some (i, .ref x))
    (kk : J X a b ws (pc + 1) ls (.ref x :: st)) : J X a b ws pc ls st := by
  obtain ⟨p, l, e, R, s, m, args, below, meth, c, D, T, A, nL1, Q⟩ := X
  obtain ⟨hx, hb, ⟨rfl, rfl, rfl, rfl, rfl⟩, hr, hown, hts, hnw, hK, hA, hml, hlocks, hZ⟩ := h
  exact fun H locs sl hP hD hS hv => lv_aload_n hx hb d hi (lv_at hv j hl) (kk H locs sl hP hD hS hv)
theorem j_aload (h : jOK X l0 D0 T0 cc own rt rm nL) {i : Nat} {x : Nat} (d : decode cc pc = .ok (.aload i, 2)) (j : Nat) (hl : ls[j]? = some (i, .ref x))
    (kk : J X a b ws (pc + 2) ls (.ref x :: st)) : J X a b ws pc ls st := by
  obtain ⟨p, l, e, R, s, m, args, below, meth, c, D, T, A, nL1, Q⟩ := X
  obtain ⟨hx, hb, ⟨rfl, rfl, rfl, rfl, rfl⟩, hr, hown, hts, hnw, hK, hA, hml, hlocks, hZ⟩ := h
  exact fun H locs sl hP hD hS hv => lv_aload hx hb d (lv_at hv j hl) (kk H locs sl hP hD hS hv)
theorem j_istore_n (h : jOK X l0 D0 T0 cc own rt rm nL) {k : Fin 4} {i : Nat} {x : Int32} (ls' : List (Nat × Value)) (d : decode cc pc = .ok (.istore_n k, 1)) (hi : (k : Nat) = i) (hn : i < nL) (hl : (i, Value.int x) :: ls.filter (fun q => !(q.1 == i) && !(q.1 + 1 == i && q.2.category == 2)) = ls')
    (kk : J X a b ws (pc + 1) ls' st) : J X a b ws pc ls (.int x :: st) := by
  obtain ⟨p, l, e, R, s, m, args, below, meth, c, D, T, A, nL1, Q⟩ := X
  obtain ⟨hx, hb, ⟨rfl, rfl, rfl, rfl, rfl⟩, hr, hown, hts, hnw, hK, hA, hml, hlocks, hZ⟩ := h
  exact fun H locs sl hP hD hS hv => lv_istore_n hx hb d hi hv hn hl (fun sl hv => kk H locs sl hP hD hS hv)
theorem j_istore (h : jOK X l0 D0 T0 cc own rt rm nL) {i : Nat} {x : Int32} (ls' : List (Nat × Value)) (d : decode cc pc = .ok (.istore i, 2)) (hn : i < nL) (hl : (i, Value.int x) :: ls.filter (fun q => !(q.1 == i) && !(q.1 + 1 == i && q.2.category == 2)) = ls')
    (kk : J X a b ws (pc + 2) ls' st) : J X a b ws pc ls (.int x :: st) := by
  obtain ⟨p, l, e, R, s, m, args, below, meth, c, D, T, A, nL1, Q⟩ := X
  obtain ⟨hx, hb, ⟨rfl, rfl, rfl, rfl, rfl⟩, hr, hown, hts, hnw, hK, hA, hml, hlocks, hZ⟩ := h
  exact fun H locs sl hP hD hS hv => lv_istore hx hb d hv hn hl (fun sl hv => kk H locs sl hP hD hS hv)
theorem j_astore_n (h : jOK X l0 D0 T0 cc own rt rm nL) {k : Fin 4} {i : Nat} {x : Nat} (ls' : List (Nat × Value)) (d : decode cc pc = .ok (.astore_n k, 1)) (hi : (k : Nat) = i) (hn : i < nL) (hl : (i, Value.ref x) :: ls.filter (fun q => !(q.1 == i) && !(q.1 + 1 == i && q.2.category == 2)) = ls')
    (kk : J X a b ws (pc + 1) ls' st) : J X a b ws pc ls (.ref x :: st) := by
  obtain ⟨p, l, e, R, s, m, args, below, meth, c, D, T, A, nL1, Q⟩ := X
  obtain ⟨hx, hb, ⟨rfl, rfl, rfl, rfl, rfl⟩, hr, hown, hts, hnw, hK, hA, hml, hlocks, hZ⟩ := h
  exact fun H locs sl hP hD hS hv => lv_astore_n hx hb d hi hv hn hl (fun sl hv => kk H locs sl hP hD hS hv)
theorem j_astore (h : jOK X l0 D0 T0 cc own rt rm nL) {i : Nat} {x : Nat} (ls' : List (Nat × Value)) (d : decode cc pc = .ok (.astore i, 2)) (hn : i < nL) (hl : (i, Value.ref x) :: ls.filter (fun q => !(q.1 == i) && !(q.1 + 1 == i && q.2.category == 2)) = ls')
    (kk : J X a b ws (pc + 2) ls' st) : J X a b ws pc ls (.ref x :: st) := by
  obtain ⟨p, l, e, R, s, m, args, below, meth, c, D, T, A, nL1, Q⟩ := X
  obtain ⟨hx, hb, ⟨rfl, rfl, rfl, rfl, rfl⟩, hr, hown, hts, hnw, hK, hA, hml, hlocks, hZ⟩ := h
  exact fun H locs sl hP hD hS hv => lv_astore hx hb d hv hn hl (fun sl hv => kk H locs sl hP hD hS hv)
theorem j_iinc (h : jOK X l0 D0 T0 cc own rt rm nL) {i : Nat} {n : Int} {x : Int32} (v : Int32) (ls' : List (Nat × Value)) (d : decode cc pc = .ok (.iinc i n, 3)) (j : Nat) (hj : ls[j]? = some (i, .int x)) (hv1 : x + Int32.ofInt n = v) (hn : i < nL) (hl : (i, Value.int v) :: ls.filter (fun q => !(q.1 == i) && !(q.1 + 1 == i && q.2.category == 2)) = ls')
    (kk : J X a b ws (pc + 3) ls' st) : J X a b ws pc ls st := by
  obtain ⟨p, l, e, R, s, m, args, below, meth, c, D, T, A, nL1, Q⟩ := X
  obtain ⟨hx, hb, ⟨rfl, rfl, rfl, rfl, rfl⟩, hr, hown, hts, hnw, hK, hA, hml, hlocks, hZ⟩ := h
  exact fun H locs sl hP hD hS hv => lv_iinc hx hb d hv hj hv1 hn hl (fun sl hv => kk H locs sl hP hD hS hv)
theorem j_iadd (h : jOK X l0 D0 T0 cc own rt rm nL) {x y : Int32} (d : decode cc pc = .ok (.iadd, 1))
    (kk : J X a b ws (pc + 1) ls (.int (x + y) :: st)) : J X a b ws pc ls (.int y :: .int x :: st) := by
  obtain ⟨p, l, e, R, s, m, args, below, meth, c, D, T, A, nL1, Q⟩ := X
  obtain ⟨hx, hb, ⟨rfl, rfl, rfl, rfl, rfl⟩, hr, hown, hts, hnw, hK, hA, hml, hlocks, hZ⟩ := h
  exact fun H locs sl hP hD hS hv => lv_iadd hx hb d (kk H locs sl hP hD hS hv)
theorem j_isub (h : jOK X l0 D0 T0 cc own rt rm nL) {x y : Int32} (d : decode cc pc = .ok (.isub, 1))
    (kk : J X a b ws (pc + 1) ls (.int (x - y) :: st)) : J X a b ws pc ls (.int y :: .int x :: st) := by
  obtain ⟨p, l, e, R, s, m, args, below, meth, c, D, T, A, nL1, Q⟩ := X
  obtain ⟨hx, hb, ⟨rfl, rfl, rfl, rfl, rfl⟩, hr, hown, hts, hnw, hK, hA, hml, hlocks, hZ⟩ := h
  exact fun H locs sl hP hD hS hv => lv_isub hx hb d (kk H locs sl hP hD hS hv)
theorem j_imul (h : jOK X l0 D0 T0 cc own rt rm nL) {x y : Int32} (d : decode cc pc = .ok (.imul, 1))
    (kk : J X a b ws (pc + 1) ls (.int (x * y) :: st)) : J X a b ws pc ls (.int y :: .int x :: st) := by
  obtain ⟨p, l, e, R, s, m, args, below, meth, c, D, T, A, nL1, Q⟩ := X
  obtain ⟨hx, hb, ⟨rfl, rfl, rfl, rfl, rfl⟩, hr, hown, hts, hnw, hK, hA, hml, hlocks, hZ⟩ := h
  exact fun H locs sl hP hD hS hv => lv_imul hx hb d (kk H locs sl hP hD hS hv)
theorem j_iand (h : jOK X l0 D0 T0 cc own rt rm nL) {x y : Int32} (d : decode cc pc = .ok (.iand, 1))
    (kk : J X a b ws (pc + 1) ls (.int (x &&& y) :: st)) : J X a b ws pc ls (.int y :: .int x :: st) := by
  obtain ⟨p, l, e, R, s, m, args, below, meth, c, D, T, A, nL1, Q⟩ := X
  obtain ⟨hx, hb, ⟨rfl, rfl, rfl, rfl, rfl⟩, hr, hown, hts, hnw, hK, hA, hml, hlocks, hZ⟩ := h
  exact fun H locs sl hP hD hS hv => lv_iand hx hb d (kk H locs sl hP hD hS hv)
theorem j_ior (h : jOK X l0 D0 T0 cc own rt rm nL) {x y : Int32} (d : decode cc pc = .ok (.ior, 1))
    (kk : J X a b ws (pc + 1) ls (.int (x ||| y) :: st)) : J X a b ws pc ls (.int y :: .int x :: st) := by
  obtain ⟨p, l, e, R, s, m, args, below, meth, c, D, T, A, nL1, Q⟩ := X
  obtain ⟨hx, hb, ⟨rfl, rfl, rfl, rfl, rfl⟩, hr, hown, hts, hnw, hK, hA, hml, hlocks, hZ⟩ := h
  exact fun H locs sl hP hD hS hv => lv_ior hx hb d (kk H locs sl hP hD hS hv)
theorem j_ixor (h : jOK X l0 D0 T0 cc own rt rm nL) {x y : Int32} (d : decode cc pc = .ok (.ixor, 1))
    (kk : J X a b ws (pc + 1) ls (.int (x ^^^ y) :: st)) : J X a b ws pc ls (.int y :: .int x :: st) := by
  obtain ⟨p, l, e, R, s, m, args, below, meth, c, D, T, A, nL1, Q⟩ := X
  obtain ⟨hx, hb, ⟨rfl, rfl, rfl, rfl, rfl⟩, hr, hown, hts, hnw, hK, hA, hml, hlocks, hZ⟩ := h
  exact fun H locs sl hP hD hS hv => lv_ixor hx hb d (kk H locs sl hP hD hS hv)
theorem j_ishl (h : jOK X l0 D0 T0 cc own rt rm nL) {x y : Int32} (d : decode cc pc = .ok (.ishl, 1))
    (kk : J X a b ws (pc + 1) ls (.int (x <<< (y &&& 31)) :: st)) : J X a b ws pc ls (.int y :: .int x :: st) := by
  obtain ⟨p, l, e, R, s, m, args, below, meth, c, D, T, A, nL1, Q⟩ := X
  obtain ⟨hx, hb, ⟨rfl, rfl, rfl, rfl, rfl⟩, hr, hown, hts, hnw, hK, hA, hml, hlocks, hZ⟩ := h
  exact fun H locs sl hP hD hS hv => lv_ishl hx hb d (kk H locs sl hP hD hS hv)
theorem j_ishr (h : jOK X l0 D0 T0 cc own rt rm nL) {x y : Int32} (d : decode cc pc = .ok (.ishr, 1))
    (kk : J X a b ws (pc + 1) ls (.int (x >>> (y &&& 31)) :: st)) : J X a b ws pc ls (.int y :: .int x :: st) := by
  obtain ⟨p, l, e, R, s, m, args, below, meth, c, D, T, A, nL1, Q⟩ := X
  obtain ⟨hx, hb, ⟨rfl, rfl, rfl, rfl, rfl⟩, hr, hown, hts, hnw, hK, hA, hml, hlocks, hZ⟩ := h
  exact fun H locs sl hP hD hS hv => lv_ishr hx hb d (kk H locs sl hP hD hS hv)
theorem j_ineg (h : jOK X l0 D0 T0 cc own rt rm nL) {x : Int32} (d : decode cc pc = .ok (.ineg, 1))
    (kk : J X a b ws (pc + 1) ls (.int (-x) :: st)) : J X a b ws pc ls (.int x :: st) := by
  obtain ⟨p, l, e, R, s, m, args, below, meth, c, D, T, A, nL1, Q⟩ := X
  obtain ⟨hx, hb, ⟨rfl, rfl, rfl, rfl, rfl⟩, hr, hown, hts, hnw, hK, hA, hml, hlocks, hZ⟩ := h
  exact fun H locs sl hP hD hS hv => lv_ineg hx hb d (kk H locs sl hP hD hS hv)
theorem j_iushr (h : jOK X l0 D0 T0 cc own rt rm nL) {x y : Int32} (d : decode cc pc = .ok (.iushr, 1))
    (kk : J X a b ws (pc + 1) ls (.int ((x.toUInt32 >>> (y.toUInt32 &&& Int32.toUInt32 31)).toInt32) :: st)) : J X a b ws pc ls (.int y :: .int x :: st) := by
  obtain ⟨p, l, e, R, s, m, args, below, meth, c, D, T, A, nL1, Q⟩ := X
  obtain ⟨hx, hb, ⟨rfl, rfl, rfl, rfl, rfl⟩, hr, hown, hts, hnw, hK, hA, hml, hlocks, hZ⟩ := h
  exact fun H locs sl hP hD hS hv => lv_iushr hx hb d rfl (kk H locs sl hP hD hS hv)
theorem j_idiv (h : jOK X l0 D0 T0 cc own rt rm nL) {x y : Int32} (d : decode cc pc = .ok (.idiv, 1)) (hne : ¬ y = 0)
    (kk : J X a b ws (pc + 1) ls (.int (x / y) :: st)) : J X a b ws pc ls (.int y :: .int x :: st) := by
  obtain ⟨p, l, e, R, s, m, args, below, meth, c, D, T, A, nL1, Q⟩ := X
  obtain ⟨hx, hb, ⟨rfl, rfl, rfl, rfl, rfl⟩, hr, hown, hts, hnw, hK, hA, hml, hlocks, hZ⟩ := h
  exact fun H locs sl hP hD hS hv => lv_idiv hx hb d hne (kk H locs sl hP hD hS hv)
theorem j_irem (h : jOK X l0 D0 T0 cc own rt rm nL) {x y : Int32} (d : decode cc pc = .ok (.irem, 1)) (hne : ¬ y = 0)
    (kk : J X a b ws (pc + 1) ls (.int (x - x / y * y) :: st)) : J X a b ws pc ls (.int y :: .int x :: st) := by
  obtain ⟨p, l, e, R, s, m, args, below, meth, c, D, T, A, nL1, Q⟩ := X
  obtain ⟨hx, hb, ⟨rfl, rfl, rfl, rfl, rfl⟩, hr, hown, hts, hnw, hK, hA, hml, hlocks, hZ⟩ := h
  exact fun H locs sl hP hD hS hv => lv_irem hx hb d hne (kk H locs sl hP hD hS hv)
theorem j_i2c (h : jOK X l0 D0 T0 cc own rt rm nL) {x : Int32} (d : decode cc pc = .ok (.i2c, 1))
    (kk : J X a b ws (pc + 1) ls (.int ((x.toUInt32 % 65536).toInt32) :: st)) : J X a b ws pc ls (.int x :: st) := by
  obtain ⟨p, l, e, R, s, m, args, below, meth, c, D, T, A, nL1, Q⟩ := X
  obtain ⟨hx, hb, ⟨rfl, rfl, rfl, rfl, rfl⟩, hr, hown, hts, hnw, hK, hA, hml, hlocks, hZ⟩ := h
  exact fun H locs sl hP hD hS hv => lv_i2c hx hb d rfl (kk H locs sl hP hD hS hv)
theorem j_i2l (h : jOK X l0 D0 T0 cc own rt rm nL) {x : Int32} (d : decode cc pc = .ok (.i2l, 1))
    (kk : J X a b ws (pc + 1) ls (.long x.toInt64 :: st)) : J X a b ws pc ls (.int x :: st) := by
  obtain ⟨p, l, e, R, s, m, args, below, meth, c, D, T, A, nL1, Q⟩ := X
  obtain ⟨hx, hb, ⟨rfl, rfl, rfl, rfl, rfl⟩, hr, hown, hts, hnw, hK, hA, hml, hlocks, hZ⟩ := h
  exact fun H locs sl hP hD hS hv => lv_i2l hx hb d rfl (kk H locs sl hP hD hS hv)
theorem j_lload_n (h : jOK X l0 D0 T0 cc own rt rm nL) {k : Fin 4} {i : Nat} {x : Int64} (d : decode cc pc = .ok (.lload_n k, 1)) (hi : (k : Nat) = i) (j : Nat) (hl : ls[j]? = some (i, .long x))
    (kk : J X a b ws (pc + 1) ls (.long x :: st)) : J X a b ws pc ls st := by
  obtain ⟨p, l, e, R, s, m, args, below, meth, c, D, T, A, nL1, Q⟩ := X
  obtain ⟨hx, hb, ⟨rfl, rfl, rfl, rfl, rfl⟩, hr, hown, hts, hnw, hK, hA, hml, hlocks, hZ⟩ := h
  exact fun H locs sl hP hD hS hv => lv_lload_n hx hb d hi (lv_at hv j hl) (kk H locs sl hP hD hS hv)
theorem j_lload (h : jOK X l0 D0 T0 cc own rt rm nL) {i : Nat} {x : Int64} (d : decode cc pc = .ok (.lload i, 2)) (j : Nat) (hl : ls[j]? = some (i, .long x))
    (kk : J X a b ws (pc + 2) ls (.long x :: st)) : J X a b ws pc ls st := by
  obtain ⟨p, l, e, R, s, m, args, below, meth, c, D, T, A, nL1, Q⟩ := X
  obtain ⟨hx, hb, ⟨rfl, rfl, rfl, rfl, rfl⟩, hr, hown, hts, hnw, hK, hA, hml, hlocks, hZ⟩ := h
  exact fun H locs sl hP hD hS hv => lv_lload hx hb d (lv_at hv j hl) (kk H locs sl hP hD hS hv)
theorem j_lcmp (h : jOK X l0 D0 T0 cc own rt rm nL) {x y : Int64} (d : decode cc pc = .ok (.lcmp, 1))
    (kk : J X a b ws (pc + 1) ls (.int (lg_cmp x y) :: st)) : J X a b ws pc ls (.long y :: .long x :: st) := by
  obtain ⟨p, l, e, R, s, m, args, below, meth, c, D, T, A, nL1, Q⟩ := X
  obtain ⟨hx, hb, ⟨rfl, rfl, rfl, rfl, rfl⟩, hr, hown, hts, hnw, hK, hA, hml, hlocks, hZ⟩ := h
  exact fun H locs sl hP hD hS hv => W.lcmp hx hb d (kk H locs sl hP hD hS hv)
theorem j_lconst (h : jOK X l0 D0 T0 cc own rt rm nL) {n : Fin 2} (v : Int64) (d : decode cc pc = .ok (.lconst n, 1)) (hv1 : Int64.ofNat (n : Nat) = v)
    (kk : J X a b ws (pc + 1) ls (.long v :: st)) : J X a b ws pc ls st := by
  obtain ⟨p, l, e, R, s, m, args, below, meth, c, D, T, A, nL1, Q⟩ := X
  obtain ⟨hx, hb, ⟨rfl, rfl, rfl, rfl, rfl⟩, hr, hown, hts, hnw, hK, hA, hml, hlocks, hZ⟩ := h
  exact fun H locs sl hP hD hS hv => lv_lconst hx hb d hv1 (kk H locs sl hP hD hS hv)
theorem j_ldc (h : jOK X l0 D0 T0 cc own rt rm nL) {index : Nat} {v : Int32} (m1 : Cond.constant own index v ∈ GW) (d : decode cc pc = .ok (.ldc index, 2))
    (kk : J X a b ws (pc + 2) ls (.int v :: st)) : J X a b ws pc ls st := by
  obtain ⟨p, l, e, R, s, m, args, below, meth, c, D, T, A, nL1, Q⟩ := X
  obtain ⟨hx, hb, ⟨rfl, rfl, rfl, rfl, rfl⟩, hr, hown, hts, hnw, hK, hA, hml, hlocks, hZ⟩ := h
  exact fun H locs sl hP hD hS hv => lv_ldc hx hb hown (hts _ m1) d (kk H locs sl hP hD hS hv)
theorem j_ldcw (h : jOK X l0 D0 T0 cc own rt rm nL) {index : Nat} {v : Int32} (m1 : Cond.constant own index v ∈ GW) (d : decode cc pc = .ok (.ldc_w index, 3))
    (kk : J X a b ws (pc + 3) ls (.int v :: st)) : J X a b ws pc ls st := by
  obtain ⟨p, l, e, R, s, m, args, below, meth, c, D, T, A, nL1, Q⟩ := X
  obtain ⟨hx, hb, ⟨rfl, rfl, rfl, rfl, rfl⟩, hr, hown, hts, hnw, hK, hA, hml, hlocks, hZ⟩ := h
  exact fun H locs sl hP hD hS hv => lv_ldcw hx hb hown (hts _ m1) d (kk H locs sl hP hD hS hv)
theorem j_ldc2 (h : jOK X l0 D0 T0 cc own rt rm nL) {index : Nat} {v : Int64} (m1 : Cond.constantLong own index v ∈ GW) (d : decode cc pc = .ok (.ldc2_w index, 3))
    (kk : J X a b ws (pc + 3) ls (.long v :: st)) : J X a b ws pc ls st := by
  obtain ⟨p, l, e, R, s, m, args, below, meth, c, D, T, A, nL1, Q⟩ := X
  obtain ⟨hx, hb, ⟨rfl, rfl, rfl, rfl, rfl⟩, hr, hown, hts, hnw, hK, hA, hml, hlocks, hZ⟩ := h
  exact fun H locs sl hP hD hS hv => lv_ldc2 hx hb hown (hts _ m1) d (kk H locs sl hP hD hS hv)
theorem j_gets (h : jOK X l0 D0 T0 cc own rt rm nL) {index : Nat} {C n0 d0 : String} {v : Value} (hZ0 : ∀ U H A, jZ U H A → va_Z C n0 d0 v A U H) (m1 : Cond.fieldLink own index C n0 d0 ∈ GW) (d : decode cc pc = .ok (.getstatic index, 3))
    (kk : J X a b ws (pc + 3) ls (v :: st)) : J X a b ws pc ls st := by
  obtain ⟨p, l, e, R, s, m, args, below, meth, c, D, T, A, nL1, Q⟩ := X
  obtain ⟨hx, hb, ⟨rfl, rfl, rfl, rfl, rfl⟩, hr, hown, hts, hnw, hK, hA, hml, hlocks, hZ⟩ := h
  exact fun H locs sl hP hD hS hv => va_gets hx hb (hZ0 _ _ _ hZ) hS hown (hts _ m1) (fun _ h9 => h9) d (kk H locs sl hP hD hS hv)
theorem j_dup (h : jOK X l0 D0 T0 cc own rt rm nL) {va : Value} (d : decode cc pc = .ok (.dup, 1)) (hva : va.category = 1)
    (kk : J X a b ws (pc + 1) ls (va :: va :: st)) : J X a b ws pc ls (va :: st) := by
  obtain ⟨p, l, e, R, s, m, args, below, meth, c, D, T, A, nL1, Q⟩ := X
  obtain ⟨hx, hb, ⟨rfl, rfl, rfl, rfl, rfl⟩, hr, hown, hts, hnw, hK, hA, hml, hlocks, hZ⟩ := h
  exact fun H locs sl hP hD hS hv => lv_dup hx hb d hva (kk H locs sl hP hD hS hv)
theorem j_pop (h : jOK X l0 D0 T0 cc own rt rm nL) {va : Value} (d : decode cc pc = .ok (.pop, 1)) (hva : va.category = 1)
    (kk : J X a b ws (pc + 1) ls st) : J X a b ws pc ls (va :: st) := by
  obtain ⟨p, l, e, R, s, m, args, below, meth, c, D, T, A, nL1, Q⟩ := X
  obtain ⟨hx, hb, ⟨rfl, rfl, rfl, rfl, rfl⟩, hr, hown, hts, hnw, hK, hA, hml, hlocks, hZ⟩ := h
  exact fun H locs sl hP hD hS hv => lv_pop hx hb d hva (kk H locs sl hP hD hS hv)
theorem j_dup_x1 (h : jOK X l0 D0 T0 cc own rt rm nL) {va vb : Value} (d : decode cc pc = .ok (.dup_x1, 1)) (hva : va.category = 1) (hvb : vb.category = 1)
    (kk : J X a b ws (pc + 1) ls (va :: vb :: va :: st)) : J X a b ws pc ls (va :: vb :: st) := by
  obtain ⟨p, l, e, R, s, m, args, below, meth, c, D, T, A, nL1, Q⟩ := X
  obtain ⟨hx, hb, ⟨rfl, rfl, rfl, rfl, rfl⟩, hr, hown, hts, hnw, hK, hA, hml, hlocks, hZ⟩ := h
  exact fun H locs sl hP hD hS hv => lv_dup_x1 hx hb d hva hvb (kk H locs sl hP hD hS hv)
theorem j_dup2 (h : jOK X l0 D0 T0 cc own rt rm nL) {va vb : Value} (d : decode cc pc = .ok (.dup2, 1)) (hva : va.category = 1) (hvb : vb.category = 1)
    (kk : J X a b ws (pc + 1) ls (va :: vb :: va :: vb :: st)) : J X a b ws pc ls (va :: vb :: st) := by
  obtain ⟨p, l, e, R, s, m, args, below, meth, c, D, T, A, nL1, Q⟩ := X
  obtain ⟨hx, hb, ⟨rfl, rfl, rfl, rfl, rfl⟩, hr, hown, hts, hnw, hK, hA, hml, hlocks, hZ⟩ := h
  exact fun H locs sl hP hD hS hv => lv_dup2_11 hx hb d hva hvb (kk H locs sl hP hD hS hv)
theorem j_goto (h : jOK X l0 D0 T0 cc own rt rm nL) {off : Int} (tgt : Nat) (d : decode cc pc = .ok (.goto off, 3)) (ht : (pc : Int) + off = (tgt : Int))
    (kk : J X a b ws tgt ls st) : J X a b ws pc ls st := by
  obtain ⟨p, l, e, R, s, m, args, below, meth, c, D, T, A, nL1, Q⟩ := X
  obtain ⟨hx, hb, ⟨rfl, rfl, rfl, rfl, rfl⟩, hr, hown, hts, hnw, hK, hA, hml, hlocks, hZ⟩ := h
  exact fun H locs sl hP hD hS hv => lv_goto hx hb d ht (kk H locs sl hP hD hS hv)
theorem j_if_eq (h : jOK X l0 D0 T0 cc own rt rm nL) {α : Type} {F G : Option α} {o : Option α} {x : Int32} {off : Int} (tgt : Nat) (d : decode cc pc = .ok (.ifCond .eq off, 3)) (ht : (pc : Int) + off = (tgt : Int)) (hf : (if x = 0 then F else G) = o)
    (kt : x = 0 → F = o → J X a b ws tgt ls st) (kf : ¬ (x = 0) → G = o → J X a b ws (pc + 3) ls st) : J X a b ws pc ls (.int x :: st) := by
  obtain ⟨p, l, e, R, s, m, args, below, meth, c, D, T, A, nL1, Q⟩ := X
  obtain ⟨hx, hb, ⟨rfl, rfl, rfl, rfl, rfl⟩, hr, hown, hts, hnw, hK, hA, hml, hlocks, hZ⟩ := h
  exact fun H locs sl hP hD hS hv => lv_if_eq hx hb d ht (fun hc => kt hc (by rw [if_pos hc] at hf; exact hf) H locs sl hP hD hS hv) (fun hc => kf hc (by rw [if_neg hc] at hf; exact hf) H locs sl hP hD hS hv)

theorem j_if_ne (h : jOK X l0 D0 T0 cc own rt rm nL) {α : Type} {F G : Option α} {o : Option α} {x : Int32} {off : Int} (tgt : Nat) (d : decode cc pc = .ok (.ifCond .ne off, 3)) (ht : (pc : Int) + off = (tgt : Int)) (hf : (if x = 0 then G else F) = o)
    (kt : ¬ (x = 0) → F = o → J X a b ws tgt ls st) (kf : x = 0 → G = o → J X a b ws (pc + 3) ls st) : J X a b ws pc ls (.int x :: st) := by
  obtain ⟨p, l, e, R, s, m, args, below, meth, c, D, T, A, nL1, Q⟩ := X
  obtain ⟨hx, hb, ⟨rfl, rfl, rfl, rfl, rfl⟩, hr, hown, hts, hnw, hK, hA, hml, hlocks, hZ⟩ := h
  exact fun H locs sl hP hD hS hv => lv_if_ne hx hb d ht (fun hc => kt hc (by rw [if_neg hc] at hf; exact hf) H locs sl hP hD hS hv) (fun hc => kf hc (by rw [if_pos hc] at hf; exact hf) H locs sl hP hD hS hv)

theorem j_if_lt (h : jOK X l0 D0 T0 cc own rt rm nL) {α : Type} {F G : Option α} {o : Option α} {x : Int32} {off : Int} (tgt : Nat) (d : decode cc pc = .ok (.ifCond .lt off, 3)) (ht : (pc : Int) + off = (tgt : Int)) (hf : (if x < 0 then F else G) = o)
    (kt : x < 0 → F = o → J X a b ws tgt ls st) (kf : ¬ (x < 0) → G = o → J X a b ws (pc + 3) ls st) : J X a b ws pc ls (.int x :: st) := by
  obtain ⟨p, l, e, R, s, m, args, below, meth, c, D, T, A, nL1, Q⟩ := X
  obtain ⟨hx, hb, ⟨rfl, rfl, rfl, rfl, rfl⟩, hr, hown, hts, hnw, hK, hA, hml, hlocks, hZ⟩ := h
  exact fun H locs sl hP hD hS hv => lv_if_lt hx hb d ht (fun hc => kt hc (by rw [if_pos hc] at hf; exact hf) H locs sl hP hD hS hv) (fun hc => kf hc (by rw [if_neg hc] at hf; exact hf) H locs sl hP hD hS hv)

theorem j_if_ge (h : jOK X l0 D0 T0 cc own rt rm nL) {α : Type} {F G : Option α} {o : Option α} {x : Int32} {off : Int} (tgt : Nat) (d : decode cc pc = .ok (.ifCond .ge off, 3)) (ht : (pc : Int) + off = (tgt : Int)) (hf : (if 0 ≤ x then F else G) = o)
    (kt : 0 ≤ x → F = o → J X a b ws tgt ls st) (kf : ¬ (0 ≤ x) → G = o → J X a b ws (pc + 3) ls st) : J X a b ws pc ls (.int x :: st) := by
  obtain ⟨p, l, e, R, s, m, args, below, meth, c, D, T, A, nL1, Q⟩ := X
  obtain ⟨hx, hb, ⟨rfl, rfl, rfl, rfl, rfl⟩, hr, hown, hts, hnw, hK, hA, hml, hlocks, hZ⟩ := h
  exact fun H locs sl hP hD hS hv => lv_if_ge hx hb d ht (fun hc => kt hc (by rw [if_pos hc] at hf; exact hf) H locs sl hP hD hS hv) (fun hc => kf hc (by rw [if_neg hc] at hf; exact hf) H locs sl hP hD hS hv)

theorem j_if_gt (h : jOK X l0 D0 T0 cc own rt rm nL) {α : Type} {F G : Option α} {o : Option α} {x : Int32} {off : Int} (tgt : Nat) (d : decode cc pc = .ok (.ifCond .gt off, 3)) (ht : (pc : Int) + off = (tgt : Int)) (hf : (if 0 < x then F else G) = o)
    (kt : 0 < x → F = o → J X a b ws tgt ls st) (kf : ¬ (0 < x) → G = o → J X a b ws (pc + 3) ls st) : J X a b ws pc ls (.int x :: st) := by
  obtain ⟨p, l, e, R, s, m, args, below, meth, c, D, T, A, nL1, Q⟩ := X
  obtain ⟨hx, hb, ⟨rfl, rfl, rfl, rfl, rfl⟩, hr, hown, hts, hnw, hK, hA, hml, hlocks, hZ⟩ := h
  exact fun H locs sl hP hD hS hv => lv_if_gt hx hb d ht (fun hc => kt hc (by rw [if_pos hc] at hf; exact hf) H locs sl hP hD hS hv) (fun hc => kf hc (by rw [if_neg hc] at hf; exact hf) H locs sl hP hD hS hv)

theorem j_if_le (h : jOK X l0 D0 T0 cc own rt rm nL) {α : Type} {F G : Option α} {o : Option α} {x : Int32} {off : Int} (tgt : Nat) (d : decode cc pc = .ok (.ifCond .le off, 3)) (ht : (pc : Int) + off = (tgt : Int)) (hf : (if x ≤ 0 then F else G) = o)
    (kt : x ≤ 0 → F = o → J X a b ws tgt ls st) (kf : ¬ (x ≤ 0) → G = o → J X a b ws (pc + 3) ls st) : J X a b ws pc ls (.int x :: st) := by
  obtain ⟨p, l, e, R, s, m, args, below, meth, c, D, T, A, nL1, Q⟩ := X
  obtain ⟨hx, hb, ⟨rfl, rfl, rfl, rfl, rfl⟩, hr, hown, hts, hnw, hK, hA, hml, hlocks, hZ⟩ := h
  exact fun H locs sl hP hD hS hv => lv_if_le hx hb d ht (fun hc => kt hc (by rw [if_pos hc] at hf; exact hf) H locs sl hP hD hS hv) (fun hc => kf hc (by rw [if_neg hc] at hf; exact hf) H locs sl hP hD hS hv)

theorem j_icmp_eq (h : jOK X l0 D0 T0 cc own rt rm nL) {α : Type} {F G : Option α} {o : Option α} {x y : Int32} {off : Int} (tgt : Nat) (d : decode cc pc = .ok (.if_icmp .eq off, 3)) (ht : (pc : Int) + off = (tgt : Int)) (hf : (if x = y then F else G) = o)
    (kt : x = y → F = o → J X a b ws tgt ls st) (kf : ¬ (x = y) → G = o → J X a b ws (pc + 3) ls st) : J X a b ws pc ls (.int y :: .int x :: st) := by
  obtain ⟨p, l, e, R, s, m, args, below, meth, c, D, T, A, nL1, Q⟩ := X
  obtain ⟨hx, hb, ⟨rfl, rfl, rfl, rfl, rfl⟩, hr, hown, hts, hnw, hK, hA, hml, hlocks, hZ⟩ := h
  exact fun H locs sl hP hD hS hv => lv_icmp_eq hx hb d ht (fun hc => kt hc (by rw [if_pos hc] at hf; exact hf) H locs sl hP hD hS hv) (fun hc => kf hc (by rw [if_neg hc] at hf; exact hf) H locs sl hP hD hS hv)

theorem j_icmp_ne (h : jOK X l0 D0 T0 cc own rt rm nL) {α : Type} {F G : Option α} {o : Option α} {x y : Int32} {off : Int} (tgt : Nat) (d : decode cc pc = .ok (.if_icmp .ne off, 3)) (ht : (pc : Int) + off = (tgt : Int)) (hf : (if x = y then G else F) = o)
    (kt : ¬ (x = y) → F = o → J X a b ws tgt ls st) (kf : x = y → G = o → J X a b ws (pc + 3) ls st) : J X a b ws pc ls (.int y :: .int x :: st) := by
  obtain ⟨p, l, e, R, s, m, args, below, meth, c, D, T, A, nL1, Q⟩ := X
  obtain ⟨hx, hb, ⟨rfl, rfl, rfl, rfl, rfl⟩, hr, hown, hts, hnw, hK, hA, hml, hlocks, hZ⟩ := h
  exact fun H locs sl hP hD hS hv => lv_icmp_ne hx hb d ht (fun hc => kt hc (by rw [if_neg hc] at hf; exact hf) H locs sl hP hD hS hv) (fun hc => kf hc (by rw [if_pos hc] at hf; exact hf) H locs sl hP hD hS hv)

theorem j_icmp_lt (h : jOK X l0 D0 T0 cc own rt rm nL) {α : Type} {F G : Option α} {o : Option α} {x y : Int32} {off : Int} (tgt : Nat) (d : decode cc pc = .ok (.if_icmp .lt off, 3)) (ht : (pc : Int) + off = (tgt : Int)) (hf : (if x < y then F else G) = o)
    (kt : x < y → F = o → J X a b ws tgt ls st) (kf : ¬ (x < y) → G = o → J X a b ws (pc + 3) ls st) : J X a b ws pc ls (.int y :: .int x :: st) := by
  obtain ⟨p, l, e, R, s, m, args, below, meth, c, D, T, A, nL1, Q⟩ := X
  obtain ⟨hx, hb, ⟨rfl, rfl, rfl, rfl, rfl⟩, hr, hown, hts, hnw, hK, hA, hml, hlocks, hZ⟩ := h
  exact fun H locs sl hP hD hS hv => lv_icmp_lt hx hb d ht (fun hc => kt hc (by rw [if_pos hc] at hf; exact hf) H locs sl hP hD hS hv) (fun hc => kf hc (by rw [if_neg hc] at hf; exact hf) H locs sl hP hD hS hv)

theorem j_icmp_ge (h : jOK X l0 D0 T0 cc own rt rm nL) {α : Type} {F G : Option α} {o : Option α} {x y : Int32} {off : Int} (tgt : Nat) (d : decode cc pc = .ok (.if_icmp .ge off, 3)) (ht : (pc : Int) + off = (tgt : Int)) (hf : (if y ≤ x then F else G) = o)
    (kt : y ≤ x → F = o → J X a b ws tgt ls st) (kf : ¬ (y ≤ x) → G = o → J X a b ws (pc + 3) ls st) : J X a b ws pc ls (.int y :: .int x :: st) := by
  obtain ⟨p, l, e, R, s, m, args, below, meth, c, D, T, A, nL1, Q⟩ := X
  obtain ⟨hx, hb, ⟨rfl, rfl, rfl, rfl, rfl⟩, hr, hown, hts, hnw, hK, hA, hml, hlocks, hZ⟩ := h
  exact fun H locs sl hP hD hS hv => lv_icmp_ge hx hb d ht (fun hc => kt hc (by rw [if_pos hc] at hf; exact hf) H locs sl hP hD hS hv) (fun hc => kf hc (by rw [if_neg hc] at hf; exact hf) H locs sl hP hD hS hv)

theorem j_icmp_gt (h : jOK X l0 D0 T0 cc own rt rm nL) {α : Type} {F G : Option α} {o : Option α} {x y : Int32} {off : Int} (tgt : Nat) (d : decode cc pc = .ok (.if_icmp .gt off, 3)) (ht : (pc : Int) + off = (tgt : Int)) (hf : (if y < x then F else G) = o)
    (kt : y < x → F = o → J X a b ws tgt ls st) (kf : ¬ (y < x) → G = o → J X a b ws (pc + 3) ls st) : J X a b ws pc ls (.int y :: .int x :: st) := by
  obtain ⟨p, l, e, R, s, m, args, below, meth, c, D, T, A, nL1, Q⟩ := X
  obtain ⟨hx, hb, ⟨rfl, rfl, rfl, rfl, rfl⟩, hr, hown, hts, hnw, hK, hA, hml, hlocks, hZ⟩ := h
  exact fun H locs sl hP hD hS hv => lv_icmp_gt hx hb d ht (fun hc => kt hc (by rw [if_pos hc] at hf; exact hf) H locs sl hP hD hS hv) (fun hc => kf hc (by rw [if_neg hc] at hf; exact hf) H locs sl hP hD hS hv)

theorem j_icmp_le (h : jOK X l0 D0 T0 cc own rt rm nL) {α : Type} {F G : Option α} {o : Option α} {x y : Int32} {off : Int} (tgt : Nat) (d : decode cc pc = .ok (.if_icmp .le off, 3)) (ht : (pc : Int) + off = (tgt : Int)) (hf : (if x ≤ y then F else G) = o)
    (kt : x ≤ y → F = o → J X a b ws tgt ls st) (kf : ¬ (x ≤ y) → G = o → J X a b ws (pc + 3) ls st) : J X a b ws pc ls (.int y :: .int x :: st) := by
  obtain ⟨p, l, e, R, s, m, args, below, meth, c, D, T, A, nL1, Q⟩ := X
  obtain ⟨hx, hb, ⟨rfl, rfl, rfl, rfl, rfl⟩, hr, hown, hts, hnw, hK, hA, hml, hlocks, hZ⟩ := h
  exact fun H locs sl hP hD hS hv => lv_icmp_le hx hb d ht (fun hc => kt hc (by rw [if_pos hc] at hf; exact hf) H locs sl hP hD hS hv) (fun hc => kf hc (by rw [if_neg hc] at hf; exact hf) H locs sl hP hD hS hv)

/-- an index is in its row -/
def jin (i : Int32) (n : Nat) : Bool := decide (¬ i < 0) && decide (i.toNatClampNeg < n)
theorem jin_in {i : Int32} {n : Nat} (h : jin i n = true) : vp_in i n := by
  simp only [jin, Bool.and_eq_true, decide_eq_true_eq] at h
  exact fun q => q.elim h.1 (fun z => absurd z (Nat.not_le.mpr h.2))
theorem jif {α : Type} {c : Prop} {i : Decidable c} {F : Option α} {o : α} (h : (@ite (Option α) c i F none) = some o) : c ∧ F = some o := by
  by_cases hc : c
  · rw [if_pos hc] at h; exact ⟨hc, h⟩
  · rw [if_neg hc] at h; cases h
theorem jbind {α β : Type} {f : Option α} {k : α → Option β} {o : β} (h : Option.bind f k = some o) : ∃ u, f = some u ∧ k u = some o := by
  cases f with
  | none => cases h
  | some u => exact ⟨u, rfl, h⟩
/-- a value gets a name -/
def jlet {β : Type} (x : Int32) (f : Int32 → β) : β := f x
theorem j_let {β : Type} {x : Int32} {f : Int32 → β} {o : β} (h : jOK X l0 D0 T0 cc own rt rm nL) (hf : jlet x f = o) (kk : ∀ y : Int32, y = x → f y = o → J X a b ws pc ls (.int y :: st)) : J X a b ws pc ls (.int x :: st) := kk x rfl hf
theorem j_iald (h : jOK X l0 D0 T0 cc own rt rm nL) {α : Type} {G : Option α} {o : α} {ad n : Nat} {cA : ClassId} {f : Nat → Int32} {i : Int32} (d : decode cc pc = .ok (.iaload, 1)) (q0 t0 : Nat) (ha : ws[q0]? = some (ad, .inl (cA, n, .inl f))) (ht : T0[t0]? = some (cA, .int)) (hf : (if jin i n = true then G else none) = some o)
    (kk : jin i n = true → G = some o → J X a b ws (pc + 1) ls (.int (f i.toNatClampNeg) :: st)) : J X a b ws pc ls (.int i :: .ref ad :: st) := by
  obtain ⟨p, l, e, R, s, m, args, below, meth, c, D, T, A, nL1, Q⟩ := X
  obtain ⟨hx, hb, ⟨rfl, rfl, rfl, rfl, rfl⟩, hr, hown, hts, hnw, hK, hA, hml, hlocks, hZ⟩ := h
  exact fun H locs sl hP hD hS hv => va_iald hx hb hK hP q0 t0 ha ht (jin_in (jif hf).1) d (kk (jif hf).1 (jif hf).2 H locs sl hP hD hS hv)
theorem j_cald (h : jOK X l0 D0 T0 cc own rt rm nL) {α : Type} {G : Option α} {o : α} {ad n : Nat} {cA : ClassId} {f : Nat → Int32} {i : Int32} (d : decode cc pc = .ok (.caload, 1)) (q0 t0 : Nat) (ha : ws[q0]? = some (ad, .inl (cA, n, .inl f))) (ht : T0[t0]? = some (cA, .char)) (hf : (if jin i n = true then G else none) = some o)
    (kk : jin i n = true → G = some o → J X a b ws (pc + 1) ls (.int (f i.toNatClampNeg) :: st)) : J X a b ws pc ls (.int i :: .ref ad :: st) := by
  obtain ⟨p, l, e, R, s, m, args, below, meth, c, D, T, A, nL1, Q⟩ := X
  obtain ⟨hx, hb, ⟨rfl, rfl, rfl, rfl, rfl⟩, hr, hown, hts, hnw, hK, hA, hml, hlocks, hZ⟩ := h
  exact fun H locs sl hP hD hS hv => va_cald hx hb hK hP q0 t0 ha ht (jin_in (jif hf).1) d (kk (jif hf).1 (jif hf).2 H locs sl hP hD hS hv)
theorem j_bald (h : jOK X l0 D0 T0 cc own rt rm nL) {α : Type} {G : Option α} {o : α} {ad n : Nat} {cA : ClassId} {f : Nat → Int32} {i : Int32} (d : decode cc pc = .ok (.baload, 1)) (q0 t0 : Nat) (ha : ws[q0]? = some (ad, .inl (cA, n, .inl f))) (ht : T0[t0]? = some (cA, .byte)) (hf : (if jin i n = true then G else none) = some o)
    (kk : jin i n = true → G = some o → J X a b ws (pc + 1) ls (.int (f i.toNatClampNeg) :: st)) : J X a b ws pc ls (.int i :: .ref ad :: st) := by
  obtain ⟨p, l, e, R, s, m, args, below, meth, c, D, T, A, nL1, Q⟩ := X
  obtain ⟨hx, hb, ⟨rfl, rfl, rfl, rfl, rfl⟩, hr, hown, hts, hnw, hK, hA, hml, hlocks, hZ⟩ := h
  exact fun H locs sl hP hD hS hv => va_bald hx hb hK hP q0 t0 ha ht (jin_in (jif hf).1) d (kk (jif hf).1 (jif hf).2 H locs sl hP hD hS hv)
theorem j_iast (h : jOK X l0 D0 T0 cc own rt rm nL) {α : Type} {G : Option α} {o : α} {ad n : Nat} {cA : ClassId} {f : Nat → Int32} {i x : Int32} (ws' : va_W) (d : decode cc pc = .ok (.iastore, 1)) (q0 t0 : Nat) (ha : ws[q0]? = some (ad, .inl (cA, n, .inl f))) (ht : T0[t0]? = some (cA, .int)) (hw : ws.set q0 (ad, .inl (cA, n, .inl (upd f i.toNatClampNeg x))) = ws') (hf : (if jin i n = true then G else none) = some o)
    (kk : jin i n = true → G = some o → J X a b ws' (pc + 1) ls st) : J X a b ws pc ls (.int x :: .int i :: .ref ad :: st) := by
  obtain ⟨p, l, e, R, s, m, args, below, meth, c, D, T, A, nL1, Q⟩ := X
  obtain ⟨hx, hb, ⟨rfl, rfl, rfl, rfl, rfl⟩, hr, hown, hts, hnw, hK, hA, hml, hlocks, hZ⟩ := h
  subst hw
  exact fun H locs sl hP hD hS hv => va_iast hx hb hK hP hD hS q0 t0 ha ht (jin_in (jif hf).1) d (fun H1 locs1 hP hD hS => kk (jif hf).1 (jif hf).2 H1 locs1 sl hP hD hS hv)
theorem j_cast (h : jOK X l0 D0 T0 cc own rt rm nL) {α : Type} {G : Option α} {o : α} {ad n : Nat} {cA : ClassId} {f : Nat → Int32} {i x : Int32} (ws' : va_W) (d : decode cc pc = .ok (.castore, 1)) (q0 t0 : Nat) (ha : ws[q0]? = some (ad, .inl (cA, n, .inl f))) (ht : T0[t0]? = some (cA, .char)) (hw : ws.set q0 (ad, .inl (cA, n, .inl (upd f i.toNatClampNeg (vp_nar .char x)))) = ws') (hf : (if jin i n = true then G else none) = some o)
    (kk : jin i n = true → G = some o → J X a b ws' (pc + 1) ls st) : J X a b ws pc ls (.int x :: .int i :: .ref ad :: st) := by
  obtain ⟨p, l, e, R, s, m, args, below, meth, c, D, T, A, nL1, Q⟩ := X
  obtain ⟨hx, hb, ⟨rfl, rfl, rfl, rfl, rfl⟩, hr, hown, hts, hnw, hK, hA, hml, hlocks, hZ⟩ := h
  subst hw
  exact fun H locs sl hP hD hS hv => va_cast hx hb hK hP hD hS q0 t0 ha ht (jin_in (jif hf).1) d (fun H1 locs1 hP hD hS => kk (jif hf).1 (jif hf).2 H1 locs1 sl hP hD hS hv)
theorem j_alen (h : jOK X l0 D0 T0 cc own rt rm nL) {ad : Nat} {cA : ClassId} {x : vp_A} (v : Int32) (d : decode cc pc = .ok (.arraylength, 1)) (q0 t0 : Nat) (ha : ws[q0]? = some (ad, .inl (cA, x))) {ty : FieldType} (ht : T0[t0]? = some (cA, ty)) (hv1 : Int32.ofNat x.1 = v)
    (kk : J X a b ws (pc + 1) ls (.int v :: st)) : J X a b ws pc ls (.ref ad :: st) := by
  obtain ⟨p, l, e, R, s, m, args, below, meth, c, D, T, A, nL1, Q⟩ := X
  obtain ⟨hx, hb, ⟨rfl, rfl, rfl, rfl, rfl⟩, hr, hown, hts, hnw, hK, hA, hml, hlocks, hZ⟩ := h
  exact fun H locs sl hP hD hS hv => va_alen hx hb hK hP q0 t0 ha ht hv1 d (kk H locs sl hP hD hS hv)
theorem j_get (h : jOK X l0 D0 T0 cc own rt rm nL) {ad ci N index : Nat} {ref C : String} {TT : u_T} {fs : List Value} {v : Value} (d : decode cc pc = .ok (.getfield index, 3)) (hin : ∀ w ∈ u_ws C TT N, w ∈ GW) (k : Nat) (hlink : Cond.fieldLink own index ref (TT k).2.1 (TT k).2.2.1 ∈ GW) (q0 : Nat) (he : ws[q0]? = some (ad, .inr (ci, fs))) (hc : vwCl[ci]? = some (C, TT, N)) (hk : k < N) (hr0 : (TT k).1 = ref) (hv1 : fs[k]? = some v)
    (kk : J X a b ws (pc + 3) ls (v :: st)) : J X a b ws pc ls (.ref ad :: st) := by
  obtain ⟨p, l, e, R, s, m, args, below, meth, c, D, T, A, nL1, Q⟩ := X
  obtain ⟨hx, hb, ⟨rfl, rfl, rfl, rfl, rfl⟩, hr, hown, hts, hnw, hK, hA, hml, hlocks, hZ⟩ := h
  exact fun H locs sl hP hD hS hv => va_get hx hb hts hin hown hK hP q0 he hc k hk (hts _ hlink) (fun _ h9 => by rw [← hr0]; exact h9) hv1 d (kk H locs sl hP hD hS hv)
theorem j_getN (h : jOK X l0 D0 T0 cc own rt rm nL) {ad ci N index : Nat} {ref C host : String} {TT : u_T} {fs : List Value} {v : Value} (d : decode cc pc = .ok (.getfield index, 3)) (hin : ∀ w ∈ u_ws C TT N, w ∈ GW) (k : Nat) (hlink : Cond.fieldLinkNest own index ref (TT k).2.1 (TT k).2.2.1 host ∈ NW) (q0 : Nat) (he : ws[q0]? = some (ad, .inr (ci, fs))) (hc : vwCl[ci]? = some (C, TT, N)) (hk : k < N) (hr0 : (TT k).1 = ref) (hv1 : fs[k]? = some v)
    (kk : J X a b ws (pc + 3) ls (v :: st)) : J X a b ws pc ls (.ref ad :: st) := by
  obtain ⟨p, l, e, R, s, m, args, below, meth, c, D, T, A, nL1, Q⟩ := X
  obtain ⟨hx, hb, ⟨rfl, rfl, rfl, rfl, rfl⟩, hr, hown, hts, hnw, hK, hA, hml, hlocks, hZ⟩ := h
  exact fun H locs sl hP hD hS hv => va_getN hx hb hts hin hown hK hP q0 he hc k hk (hnw _ hlink) (fun _ h9 => by rw [← hr0]; exact h9) hv1 d (kk H locs sl hP hD hS hv)
theorem j_put (h : jOK X l0 D0 T0 cc own rt rm nL) {ad ci N index : Nat} {ref C : String} {TT : u_T} {fs : List Value} {v : Value} {ty : FieldType} (ws' : va_W) (ty0 : Nat → FieldType) (d : decode cc pc = .ok (.putfield index, 3)) (hin : ∀ w ∈ u_ws C TT N, w ∈ GW) (hty : ∀ k, k < N → parseFieldDescriptor (TT k).2.2.1 = some (ty0 k)) (hnm : ∀ a, a < N → ∀ b, b < N → a ≠ b → (TT a).2.1 ≠ (TT b).2.1) (k : Nat) (hlink : Cond.fieldLink own index ref (TT k).2.1 (TT k).2.2.1 ∈ GW) (q0 : Nat) (he : ws[q0]? = some (ad, .inr (ci, fs))) (hc : vwCl[ci]? = some (C, TT, N)) (hk : k < N) (hr0 : (TT k).1 = ref) (hfin : (TT k).2.2.2 = false) (hd : ty0 k = ty) (hn : narrow ty v = v) (hfit : fits ty v = true) (hl : k < fs.length) (hw : ws.set q0 (ad, .inr (ci, fs.set k v)) = ws')
    (kk : J X a b ws' (pc + 3) ls st) : J X a b ws pc ls (v :: .ref ad :: st) := by
  obtain ⟨p, l, e, R, s, m, args, below, meth, c, D, T, A, nL1, Q⟩ := X
  obtain ⟨hx, hb, ⟨rfl, rfl, rfl, rfl, rfl⟩, hr, hown, hts, hnw, hK, hA, hml, hlocks, hZ⟩ := h
  subst hw
  exact fun H locs sl hP hD hS hv => va_put hx hb hts hin ty0 hty hnm hown hK hP hD hS q0 he hc k hk (hts _ hlink) (fun _ h9 => by rw [← hr0]; exact h9) hfin (by rw [hty k hk, hd]) hn hfit hl d (fun H1 locs1 hP hD hS => kk H1 locs1 sl hP hD hS hv)
theorem j_putN (h : jOK X l0 D0 T0 cc own rt rm nL) {ad ci N index : Nat} {ref C host : String} {TT : u_T} {fs : List Value} {v : Value} {ty : FieldType} (ws' : va_W) (ty0 : Nat → FieldType) (d : decode cc pc = .ok (.putfield index, 3)) (hin : ∀ w ∈ u_ws C TT N, w ∈ GW) (hty : ∀ k, k < N → parseFieldDescriptor (TT k).2.2.1 = some (ty0 k)) (hnm : ∀ a, a < N → ∀ b, b < N → a ≠ b → (TT a).2.1 ≠ (TT b).2.1) (k : Nat) (hlink : Cond.fieldLinkNest own index ref (TT k).2.1 (TT k).2.2.1 host ∈ NW) (q0 : Nat) (he : ws[q0]? = some (ad, .inr (ci, fs))) (hc : vwCl[ci]? = some (C, TT, N)) (hk : k < N) (hr0 : (TT k).1 = ref) (hfin : (TT k).2.2.2 = false) (hd : ty0 k = ty) (hn : narrow ty v = v) (hfit : fits ty v = true) (hl : k < fs.length) (hw : ws.set q0 (ad, .inr (ci, fs.set k v)) = ws')
    (kk : J X a b ws' (pc + 3) ls st) : J X a b ws pc ls (v :: .ref ad :: st) := by
  obtain ⟨p, l, e, R, s, m, args, below, meth, c, D, T, A, nL1, Q⟩ := X
  obtain ⟨hx, hb, ⟨rfl, rfl, rfl, rfl, rfl⟩, hr, hown, hts, hnw, hK, hA, hml, hlocks, hZ⟩ := h
  subst hw
  exact fun H locs sl hP hD hS hv => va_putN hx hb hts hin ty0 hty hnm hown hK hP hD hS q0 he hc k hk (hnw _ hlink) (fun _ h9 => by rw [← hr0]; exact h9) hfin (by rw [hty k hk, hd]) hn hfit hl d (fun H1 locs1 hP hD hS => kk H1 locs1 sl hP hD hS hv)
variable {P : Option Value → va_W → Prop} {mc ms : Nat} {ty : FieldType}
theorem j_iret (h : jOK X l0 D0 T0 cc own (some .int) rm nL) (hE : jEnd X P mc ms) {v : Int32} (d : decode cc pc = .ok (.ireturn, 1)) (hk : a ≤ mc) (hn : b ≤ ms) (hp : P (some (.int v)) ws) : J X a b ws pc ls [.int v] := by
  obtain ⟨p, l, e, R, s, m, args, below, meth, c, D, T, A, nL1, Q⟩ := X
  obtain ⟨hx, hb, ⟨rfl, rfl, rfl, rfl, rfl⟩, hr, hown, hts, hnw, hK, hA, hml, hlocks, hZ⟩ := h
  subst hE
  exact fun H locs sl hP hD hS hv => W.widen hk hn (W.iret hx hb hr  (fun t ht hW => ⟨⟨_, ws, rfl, hp, by rw [ht]; exact hP, va_K.moved hW.alike hK, hD⟩, hS.F ht⟩) hS.2.2 d hlocks)
theorem j_zret (h : jOK X l0 D0 T0 cc own (some ty) rm nL) (hE : jEnd X P mc ms) {v : Int32} (hn0 : narrow ty (.int v) = .int v) (d : decode cc pc = .ok (.ireturn, 1)) (hk : a ≤ mc) (hn : b ≤ ms) (hp : P (some (.int v)) ws) : J X a b ws pc ls [.int v] := by
  obtain ⟨p, l, e, R, s, m, args, below, meth, c, D, T, A, nL1, Q⟩ := X
  obtain ⟨hx, hb, ⟨rfl, rfl, rfl, rfl, rfl⟩, hr, hown, hts, hnw, hK, hA, hml, hlocks, hZ⟩ := h
  subst hE
  exact fun H locs sl hP hD hS hv => W.widen hk hn (W.zret hx hb hr hn0 (fun t ht hW => ⟨⟨_, ws, rfl, hp, by rw [ht]; exact hP, va_K.moved hW.alike hK, hD⟩, hS.F ht⟩) hS.2.2 d hlocks)
theorem j_vret (h : jOK X l0 D0 T0 cc own none rm nL) (hE : jEnd X P mc ms)  (d : decode cc pc = .ok (.return_, 1)) (hk : a ≤ mc) (hn : b ≤ ms) (hp : P none ws) : J X a b ws pc ls [] := by
  obtain ⟨p, l, e, R, s, m, args, below, meth, c, D, T, A, nL1, Q⟩ := X
  obtain ⟨hx, hb, ⟨rfl, rfl, rfl, rfl, rfl⟩, hr, hown, hts, hnw, hK, hA, hml, hlocks, hZ⟩ := h
  subst hE
  exact fun H locs sl hP hD hS hv => W.widen hk hn (W.vret hx hb hr  (fun t ht hW => ⟨⟨_, ws, rfl, hp, by rw [ht]; exact hP, va_K.moved hW.alike hK, hD⟩, hS.F ht⟩) hS.2.2 d hlocks)
theorem j_sub (h : jOK X l0 D0 T0 cc own rt rm nL) (ls' : List (Nat × Value)) (ks : List Nat) (hl : lv_pick ls ks = ls') (kk : J X a b ws pc ls' st) : J X a b ws pc ls st := by
  obtain ⟨p, l, e, R, s, m, args, below, meth, c, D, T, A, nL1, Q⟩ := X
  obtain ⟨hx, hb, ⟨rfl, rfl, rfl, rfl, rfl⟩, hr, hown, hts, hnw, hK, hA, hml, hlocks, hZ⟩ := h
  exact fun H locs sl hP hD hS hv => kk H locs sl hP hD hS (lv_sub hv ks hl)
theorem j_wide (h : jOK X l0 D0 T0 cc own rt rm nL) {a2 b2 : Nat} (h1 : a ≤ a2) (h2 : b ≤ b2) (kk : J X a2 b2 ws pc ls st) : J X a b ws pc ls st := by
  obtain ⟨p, l, e, R, s, m, args, below, meth, c, D, T, A, nL1, Q⟩ := X
  obtain ⟨hx, hb, ⟨rfl, rfl, rfl, rfl, rfl⟩, hr, hown, hts, hnw, hK, hA, hml, hlocks, hZ⟩ := h
  exact fun H locs sl hP hD hS hv => W.widen h1 h2 (kk H locs sl hP hD hS hv)
end JRows
/-- a contract from the walk of the method's body -/
theorem cm_of {l : Launch} {D : va_G} {T : List (ClassId × FieldType)} {y : MethodName} {cc : ByteArray} {maxL : Nat} {ret : Option FieldType} {rm : Room} {av : List Value} {w0 : va_W} {P : Option Value → va_W → Prop} (own : String) (hown0 : y.cls = own) (hy : plainName y.cls = true) (hav : (lg_sl av).length ≤ maxL)
    (body : ∀ X : jX, jOK X l D T cc own ret rm maxL → jEnd X P rm.cells rm.slots → J X 0 0 w0 0 (lv_args 0 av) []) : cm l D T y cc maxL ret rm av w0 P := by
  intro sz
  refine Met.ofW (cc := cc) (maxL := maxL) (ret := ret) hy rfl ?_
  intro p e s m args below meth c s₁ B hml hv
  obtain ⟨rfl, hsz, hP, hK, hD0, hN, hZ⟩ := hv
  have hts := atoms_spec (ws := Cond.code y cc maxL ret :: GW) B.pre
  subst hsz
  have hD := hD0.self (sz := s.heap.size)
  rw [lg_entry_eq]
  exact body (p, l, e, rm, s, m, av.toArray, below, meth, c, D, T, va_A w0 s.heap.size, maxL, MQ below (jQc D T P (va_A w0 s.heap.size)) av.toArray s rm.cells rm.slots (va_A w0 s.heap.size))
    ⟨B.exec, B.bytes, ⟨rfl, rfl, rfl, rfl, rfl⟩, B.returns, by rw [← hown0]; exact findClass_of_methodNamed B.named, fun w hw => hts w (List.mem_cons_of_mem _ hw), fun w hw => va_Nw.use (nw_onTables w hw) (hN w hw), hK, fun q h => Or.inr h, hml, B.notSynchronized, hZ⟩ rfl
    s.heap [] _ hP hD va_S.rf (lv_entry av hav)

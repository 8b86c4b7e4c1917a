/-! FLOATS AND DOUBLES -/
def jN64 (r : UInt64) : Bool := decide (r &&& 0x7fffffffffffffff ≤ 0x7ff0000000000000)
def jN32 (r : UInt32) : Bool := decide (r &&& 0x7fffffff ≤ 0x7f800000)
theorem jN64_n {r : UInt64} (h : jN64 r = true) : vf_n64 r := of_decide_eq_true (p := r &&& 0x7fffffffffffffff ≤ 0x7ff0000000000000) h
theorem jN32_n {r : UInt32} (h : jN32 r = true) : vf_n32 r := of_decide_eq_true (p := r &&& 0x7fffffff ≤ 0x7f800000) h
section JFloat
variable {X : jX} {l0 : Launch} {D0 : va_G} {T0 : List (ClassId × FieldType)} {cc : ByteArray} {own : String} {rt : Option FieldType} {rm : Room} {nL : Nat} {a b : Nat} {ws : va_W} {pc : Nat} {ls : List (Nat × Value)} {st : List Value}
variable {P : Option Value → va_W → Prop} {PX : String → va_W → Prop} {mc ms : Nat}
theorem j_i2d (h : jOK X l0 D0 T0 cc own rt rm nL) {x : Int32} (d : decode cc pc = .ok (.i2d, 1)) 
    (kk : J X a b ws (pc + 1) ls (.double (FP.i2d x) :: st)) : J X a b ws pc ls (.int x :: st) := by
  obtain ⟨p, l, e, R, s, m, args, below, meth, c, D, T, A, nL1, Q⟩ := X
  obtain ⟨hx, hb, ⟨rfl, rfl, rfl, rfl, rfl⟩, hr, hown, hts, hnw, hK, hA, hml, hlocks, hZ⟩ := h
  exact fun H locs sl hP hD hS hv => lv_i2d hx hb d (kk H locs sl hP hD hS hv)
theorem j_i2f (h : jOK X l0 D0 T0 cc own rt rm nL) {x : Int32} (d : decode cc pc = .ok (.i2f, 1)) 
    (kk : J X a b ws (pc + 1) ls (.float (FP.i2f x) :: st)) : J X a b ws pc ls (.int x :: st) := by
  obtain ⟨p, l, e, R, s, m, args, below, meth, c, D, T, A, nL1, Q⟩ := X
  obtain ⟨hx, hb, ⟨rfl, rfl, rfl, rfl, rfl⟩, hr, hown, hts, hnw, hK, hA, hml, hlocks, hZ⟩ := h
  exact fun H locs sl hP hD hS hv => lv_i2f hx hb d (kk H locs sl hP hD hS hv)
theorem j_dconst0 (h : jOK X l0 D0 T0 cc own rt rm nL) (d : decode cc pc = .ok (.dconst 0, 1)) 
    (kk : J X a b ws (pc + 1) ls (.double FP.dconst0 :: st)) : J X a b ws pc ls st := by
  obtain ⟨p, l, e, R, s, m, args, below, meth, c, D, T, A, nL1, Q⟩ := X
  obtain ⟨hx, hb, ⟨rfl, rfl, rfl, rfl, rfl⟩, hr, hown, hts, hnw, hK, hA, hml, hlocks, hZ⟩ := h
  exact fun H locs sl hP hD hS hv => lv_dconst0 hx hb d (kk H locs sl hP hD hS hv)
theorem j_fconst0 (h : jOK X l0 D0 T0 cc own rt rm nL) (d : decode cc pc = .ok (.fconst 0, 1)) 
    (kk : J X a b ws (pc + 1) ls (.float FP.fconst0 :: st)) : J X a b ws pc ls st := by
  obtain ⟨p, l, e, R, s, m, args, below, meth, c, D, T, A, nL1, Q⟩ := X
  obtain ⟨hx, hb, ⟨rfl, rfl, rfl, rfl, rfl⟩, hr, hown, hts, hnw, hK, hA, hml, hlocks, hZ⟩ := h
  exact fun H locs sl hP hD hS hv => lv_fconst0 hx hb d (kk H locs sl hP hD hS hv)
theorem j_dcmp (h : jOK X l0 D0 T0 cc own rt rm nL) {x y : UInt64} {op : CmpOp} (d : decode cc pc = .ok (.dcmp op, 1)) 
    (kk : J X a b ws (pc + 1) ls (.int (Op.cmpValue (FP.dcmp x y) op) :: st)) : J X a b ws pc ls (.double y :: .double x :: st) := by
  obtain ⟨p, l, e, R, s, m, args, below, meth, c, D, T, A, nL1, Q⟩ := X
  obtain ⟨hx, hb, ⟨rfl, rfl, rfl, rfl, rfl⟩, hr, hown, hts, hnw, hK, hA, hml, hlocks, hZ⟩ := h
  exact fun H locs sl hP hD hS hv => lv_dcmp hx hb d (kk H locs sl hP hD hS hv)
theorem j_dload (h : jOK X l0 D0 T0 cc own rt rm nL) {i : Nat} {x : UInt64} (d : decode cc pc = .ok (.dload i, 2)) (j : Nat) (hl : ls[j]? = some (i, .double x))
    (kk : J X a b ws (pc + 2) ls (.double x :: st)) : J X a b ws pc ls st := by
  obtain ⟨p, l, e, R, s, m, args, below, meth, c, D, T, A, nL1, Q⟩ := X
  obtain ⟨hx, hb, ⟨rfl, rfl, rfl, rfl, rfl⟩, hr, hown, hts, hnw, hK, hA, hml, hlocks, hZ⟩ := h
  exact fun H locs sl hP hD hS hv => lv_dload hx hb d (lv_at hv j hl) (kk H locs sl hP hD hS hv)
theorem j_fload (h : jOK X l0 D0 T0 cc own rt rm nL) {i : Nat} {x : UInt32} (d : decode cc pc = .ok (.fload i, 2)) (j : Nat) (hl : ls[j]? = some (i, .float x))
    (kk : J X a b ws (pc + 2) ls (.float x :: st)) : J X a b ws pc ls st := by
  obtain ⟨p, l, e, R, s, m, args, below, meth, c, D, T, A, nL1, Q⟩ := X
  obtain ⟨hx, hb, ⟨rfl, rfl, rfl, rfl, rfl⟩, hr, hown, hts, hnw, hK, hA, hml, hlocks, hZ⟩ := h
  exact fun H locs sl hP hD hS hv => lv_fload hx hb d (lv_at hv j hl) (kk H locs sl hP hD hS hv)
theorem j_dstore (h : jOK X l0 D0 T0 cc own rt rm nL) {i : Nat} {x : UInt64} (ls' : List (Nat × Value)) (d : decode cc pc = .ok (.dstore i, 2)) (hn : i + 1 < nL) (hl : (i, Value.double x) :: ls.filter (fun q => !(q.1 == i) && (!(q.1 == i + 1) && !(q.1 + 1 == i && q.2.category == 2))) = ls')
    (kk : J X a b ws (pc + 2) ls' st) : J X a b ws pc ls (.double x :: st) := by
  obtain ⟨p, l, e, R, s, m, args, below, meth, c, D, T, A, nL1, Q⟩ := X
  obtain ⟨hx, hb, ⟨rfl, rfl, rfl, rfl, rfl⟩, hr, hown, hts, hnw, hK, hA, hml, hlocks, hZ⟩ := h
  exact fun H locs sl hP hD hS hv => lv_dstore hx hb d hv hn hl (fun sl hv => kk H locs sl hP hD hS hv)
theorem j_fstore (h : jOK X l0 D0 T0 cc own rt rm nL) {i : Nat} {x : UInt32} (ls' : List (Nat × Value)) (d : decode cc pc = .ok (.fstore i, 2)) (hn : i < nL) (hl : (i, Value.float x) :: ls.filter (fun q => !(q.1 == i) && !(q.1 + 1 == i && q.2.category == 2)) = ls')
    (kk : J X a b ws (pc + 2) ls' st) : J X a b ws pc ls (.float x :: st) := by
  obtain ⟨p, l, e, R, s, m, args, below, meth, c, D, T, A, nL1, Q⟩ := X
  obtain ⟨hx, hb, ⟨rfl, rfl, rfl, rfl, rfl⟩, hr, hown, hts, hnw, hK, hA, hml, hlocks, hZ⟩ := h
  exact fun H locs sl hP hD hS hv => lv_fstore hx hb d hv hn hl (fun sl hv => kk H locs sl hP hD hS hv)
theorem j_ddiv (h : jOK X l0 D0 T0 cc own rt rm nL) {α : Type} {G : Option α} {o9 : α} {x y : UInt64} (d : decode cc pc = .ok (.ddiv, 1)) (hf : (if jN64 (FP.ddiv x y) = true then G else none) = some o9)
    (kk : jN64 (FP.ddiv x y) = true → G = some o9 → J X a b ws (pc + 1) ls (.double (FP.ddiv x y) :: st)) : J X a b ws pc ls (.double y :: .double x :: st) := by
  obtain ⟨p, l, e, R, s, m, args, below, meth, c, D, T, A, nL1, Q⟩ := X
  obtain ⟨hx, hb, ⟨rfl, rfl, rfl, rfl, rfl⟩, hr, hown, hts, hnw, hK, hA, hml, hlocks, hZ⟩ := h
  exact fun H locs sl hP hD hS hv => lv_ddiv hx hb d (jN64_n (jif hf).1) (kk (jif hf).1 (jif hf).2 H locs sl hP hD hS hv)
theorem j_fdiv (h : jOK X l0 D0 T0 cc own rt rm nL) {α : Type} {G : Option α} {o9 : α} {x y : UInt32} (d : decode cc pc = .ok (.fdiv, 1)) (hf : (if jN32 (FP.fdiv x y) = true then G else none) = some o9)
    (kk : jN32 (FP.fdiv x y) = true → G = some o9 → J X a b ws (pc + 1) ls (.float (FP.fdiv x y) :: st)) : J X a b ws pc ls (.float y :: .float x :: st) := by
  obtain ⟨p, l, e, R, s, m, args, below, meth, c, D, T, A, nL1, Q⟩ := X
  obtain ⟨hx, hb, ⟨rfl, rfl, rfl, rfl, rfl⟩, hr, hown, hts, hnw, hK, hA, hml, hlocks, hZ⟩ := h
  exact fun H locs sl hP hD hS hv => lv_fdiv hx hb d (jN32_n (jif hf).1) (kk (jif hf).1 (jif hf).2 H locs sl hP hD hS hv)
theorem j_f2d (h : jOK X l0 D0 T0 cc own rt rm nL) {α : Type} {G : Option α} {o9 : α} {x : UInt32} (d : decode cc pc = .ok (.f2d, 1)) (hf : (if jN64 (FP.f2d x) = true then G else none) = some o9)
    (kk : jN64 (FP.f2d x) = true → G = some o9 → J X a b ws (pc + 1) ls (.double (FP.f2d x) :: st)) : J X a b ws pc ls (.float x :: st) := by
  obtain ⟨p, l, e, R, s, m, args, below, meth, c, D, T, A, nL1, Q⟩ := X
  obtain ⟨hx, hb, ⟨rfl, rfl, rfl, rfl, rfl⟩, hr, hown, hts, hnw, hK, hA, hml, hlocks, hZ⟩ := h
  exact fun H locs sl hP hD hS hv => lv_f2d hx hb d (jN64_n (jif hf).1) (kk (jif hf).1 (jif hf).2 H locs sl hP hD hS hv)
theorem j_dast {α : Type} {G : Option α} {o9 : α} (h : jOK X l0 D0 T0 cc own rt rm nL) {ad n : Nat} {cA : ClassId} {f : Nat → UInt64} {i : Int32} {x : UInt64} (ws' : va_W) (d : decode cc pc = .ok (.dastore, 1)) (q0 t0 : Nat) (ha : ws[q0]? = some (ad, .inl (cA, n, .inr (.inr (.inr (.inl f)))))) (ht : T0[t0]? = some (cA, .double)) (hw : ws.set q0 (ad, .inl (cA, n, .inr (.inr (.inr (.inl (vf_upd f i.toNatClampNeg x)))))) = ws') (hf : (if jin i n = true then G else none) = some o9)
    (kk : jin i n = true → G = some o9 → J X a b ws' (pc + 1) ls st) : J X a b ws pc ls (.double x :: .int i :: .ref ad :: st) := by
  obtain ⟨p, l, e, R, s, m, args, below, meth, c, D, T, A, nL1, Q⟩ := X
  obtain ⟨hx, hb, ⟨rfl, rfl, rfl, rfl, rfl⟩, hr, hown, hts, hnw, hK, hA, hml, hlocks, hZ⟩ := h
  subst hw
  exact fun H locs sl hP hD hS hv => va_dast hx hb hK hP hD hS q0 t0 ha ht (jin_in (jif hf).1) d (fun H1 locs1 hP hD hS => kk (jif hf).1 (jif hf).2 H1 locs1 sl hP hD hS hv)
theorem j_dald {α : Type} {G : Option α} {o9 : α} (h : jOK X l0 D0 T0 cc own rt rm nL) {ad n : Nat} {cA : ClassId} {f : Nat → UInt64} {i : Int32} (d : decode cc pc = .ok (.daload, 1)) (q0 t0 : Nat) (ha : ws[q0]? = some (ad, .inl (cA, n, .inr (.inr (.inr (.inl f)))))) (ht : T0[t0]? = some (cA, .double)) (hf : (if jin i n = true then G else none) = some o9)
    (kk : jin i n = true → G = some o9 → J X a b ws (pc + 1) ls (.double (f i.toNatClampNeg) :: st)) : J X a b ws pc ls (.int i :: .ref ad :: st) := by
  obtain ⟨p, l, e, R, s, m, args, below, meth, c, D, T, A, nL1, Q⟩ := X
  obtain ⟨hx, hb, ⟨rfl, rfl, rfl, rfl, rfl⟩, hr, hown, hts, hnw, hK, hA, hml, hlocks, hZ⟩ := h
  exact fun H locs sl hP hD hS hv => va_dald hx hb hK hP q0 t0 ha ht (jin_in (jif hf).1) d (kk (jif hf).1 (jif hf).2 H locs sl hP hD hS hv)
theorem j_dret (h : jOK X l0 D0 T0 cc own (some .double) rm nL) (hE : jEnd X P mc ms) {v : UInt64} (d : decode cc pc = .ok (.dreturn, 1)) (hk : a ≤ mc) (hn : b ≤ ms) (hp : P (some (.double v)) ws) : J X a b ws pc ls [.double v] := by
  obtain ⟨p, l, e, R, s, m, args, below, meth, c, D, T, A, nL1, Q⟩ := X
  obtain ⟨hx, hb, ⟨rfl, rfl, rfl, rfl, rfl⟩, hr, hown, hts, hnw, hK, hA, hml, hlocks, hZ⟩ := h
  subst hE
  exact fun H locs sl hP hD hS hv => (W.widen hk hn (W.dret hx hb hr (fun t ht hW => ⟨⟨_, ws, rfl, hp, by rw [ht]; exact hP, va_K.moved hW.alike hK, hD⟩, hS.F ht⟩) hS.2.2 d hlocks))
theorem jx_dret (h : jOK X l0 D0 T0 cc own (some .double) rm nL) (hE : jEndX X P PX mc ms) {v : UInt64} (d : decode cc pc = .ok (.dreturn, 1)) (hk : a ≤ mc) (hn : b ≤ ms) (hp : P (some (.double v)) ws) : J X a b ws pc ls [.double v] := by
  obtain ⟨p, l, e, R, s, m, args, below, meth, c, D, T, A, nL1, Q⟩ := X
  obtain ⟨hx, hb, ⟨rfl, rfl, rfl, rfl, rfl⟩, hr, hown, hts, hnw, hK, hA, hml, hlocks, hZ⟩ := h
  subst hE
  exact fun H locs sl hP hD hS hv => vx_ret (W.widen hk hn (W.dret hx hb hr (fun t ht hW => ⟨⟨_, ws, rfl, hp, by rw [ht]; exact hP, va_K.moved hW.alike hK, hD⟩, hS.F ht⟩) hS.2.2 d hlocks))
theorem j_fret (h : jOK X l0 D0 T0 cc own (some .float) rm nL) (hE : jEnd X P mc ms) {v : UInt32} (d : decode cc pc = .ok (.freturn, 1)) (hk : a ≤ mc) (hn : b ≤ ms) (hp : P (some (.float v)) ws) : J X a b ws pc ls [.float v] := by
  obtain ⟨p, l, e, R, s, m, args, below, meth, c, D, T, A, nL1, Q⟩ := X
  obtain ⟨hx, hb, ⟨rfl, rfl, rfl, rfl, rfl⟩, hr, hown, hts, hnw, hK, hA, hml, hlocks, hZ⟩ := h
  subst hE
  exact fun H locs sl hP hD hS hv => (W.widen hk hn (W.fret hx hb hr (fun t ht hW => ⟨⟨_, ws, rfl, hp, by rw [ht]; exact hP, va_K.moved hW.alike hK, hD⟩, hS.F ht⟩) hS.2.2 d hlocks))
theorem jx_fret (h : jOK X l0 D0 T0 cc own (some .float) rm nL) (hE : jEndX X P PX mc ms) {v : UInt32} (d : decode cc pc = .ok (.freturn, 1)) (hk : a ≤ mc) (hn : b ≤ ms) (hp : P (some (.float v)) ws) : J X a b ws pc ls [.float v] := by
  obtain ⟨p, l, e, R, s, m, args, below, meth, c, D, T, A, nL1, Q⟩ := X
  obtain ⟨hx, hb, ⟨rfl, rfl, rfl, rfl, rfl⟩, hr, hown, hts, hnw, hK, hA, hml, hlocks, hZ⟩ := h
  subst hE
  exact fun H locs sl hP hD hS hv => vx_ret (W.widen hk hn (W.fret hx hb hr (fun t ht hW => ⟨⟨_, ws, rfl, hp, by rw [ht]; exact hP, va_K.moved hW.alike hK, hD⟩, hS.F ht⟩) hS.2.2 d hlocks))
end JFloat

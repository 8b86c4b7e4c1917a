/-! THE LAW: the script, the room of a turn -/
def jScr (b L : Nat) (xs : Nat → Int32) : jFz := fun U H A => va_X b L xs U H ∧ b < H.size ∧ ¬ A b
theorem jfit {a b k n c s : Nat} (h : a + 20 ≤ 603072 ∧ b + 2500 ≤ 7207018) (hk : k + c ≤ 20) (hn : n + s ≤ 2500) : (a + k) + c ≤ 603072 ∧ (b + n) + s ≤ 7207018 := ⟨by omega, by omega⟩
section JLaw
variable {X : jX} {l0 : Launch} {D0 : va_G} {T0 : List (ClassId × FieldType)} {cc : ByteArray} {own : String} {rt : Option FieldType} {rm : Room} {nL : Nat} {a b : Nat} {ws : va_W} {pc : Nat} {ls : List (Nat × Value)} {st : List Value} {bS L : Nat} {xs : Nat → Int32}
theorem j_sld (h : jOK X l0 D0 T0 cc own rt rm nL) (hz : jXz X (jScr bS L xs)) {i k : Nat} {x : Int32} (hx0 : x = nI (i + k)) (hk : i + k < L) (hL : L < 2147483648) (d : decode cc pc = .ok (.iaload, 1))
    (kk : J X a b ws (pc + 1) ls (.int (xs (i + k)) :: st)) : J X a b ws pc ls (.int x :: .ref bS :: st) := by
  obtain ⟨p, l, e, R, s, m, args, below, meth, c, D, T, A, nL1, Q⟩ := X
  obtain ⟨hx, hb, ⟨rfl, rfl, rfl, rfl, rfl⟩, hr, hown, hts, hnw, hK, hA, hml, hlocks, hZ⟩ := h
  subst hx0
  have e1 : (nI (i + k)).toNatClampNeg = i + k := nI_clamp (by omega)
  obtain ⟨z1, z2, z3⟩ := hz
  exact fun H locs sl hP hD hS hv => va_sld hx hb z1 z2 z3 hS (vp_in_nI hk hL) d (by rw [e1]; exact kk H locs sl hP hD hS hv)
theorem j_slen (h : jOK X l0 D0 T0 cc own rt rm nL) (hz : jXz X (jScr bS L xs)) (d : decode cc pc = .ok (.arraylength, 1))
    (kk : J X a b ws (pc + 1) ls (.int (nI L) :: st)) : J X a b ws pc ls (.ref bS :: st) := by
  obtain ⟨p, l, e, R, s, m, args, below, meth, c, D, T, A, nL1, Q⟩ := X
  obtain ⟨hx, hb, ⟨rfl, rfl, rfl, rfl, rfl⟩, hr, hown, hts, hnw, hK, hA, hml, hlocks, hZ⟩ := h
  obtain ⟨z1, z2, z3⟩ := hz
  exact fun H locs sl hP hD hS hv => va_slen hx hb z1 z2 z3 hS d (kk H locs sl hP hD hS hv)
theorem j_fcmp (h : jOK X l0 D0 T0 cc own rt rm nL) {x y : UInt32} {op : CmpOp} (d : decode cc pc = .ok (.fcmp op, 1))
    (kk : J X a b ws (pc + 1) ls (.int (Op.cmpValue (FP.fcmp x y) op) :: st)) : J X a b ws pc ls (.float y :: .float x :: st) := by
  obtain ⟨p, l, e, R, s, m, args, below, meth, c, D, T, A, nL1, Q⟩ := X
  obtain ⟨hx, hb, ⟨rfl, rfl, rfl, rfl, rfl⟩, hr, hown, hts, hnw, hK, hA, hml, hlocks, hZ⟩ := h
  exact fun H locs sl hP hD hS hv => lv_fcmp hx hb d (kk H locs sl hP hD hS hv)
end JLaw

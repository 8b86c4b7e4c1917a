/-! THE LAW: the script, the room of a turn -/
def jScr (b L : Nat) (xs : Nat → Int32) : jFz := fun U H A => va_X b L xs U H ∧ b < H.size ∧ ¬ A b
theorem jfit {a b k n c s : Nat} (h : a + 20 ≤ 603072 ∧ b + 2500 ≤ 7207018) (hk : k + c ≤ 20) (hn : n + s ≤ 2500) : (a + k) + c ≤ 603072 ∧ (b + n) + s ≤ 7207018 := ⟨by omega, by omega⟩
section JLaw
variable {X : jX} {l0 : Launch} {D0 : va_G} {T0 : List (ClassId × FieldType)} {cc : ByteArray} {own : String} {rt : Option FieldType} {rm : Room} {nL : Nat} {a b : Nat} {ws : va_W} {pc : Nat} {ls : List (Nat × Value)} {st : List Value} {bS L : Nat} {xs : Nat → Int32}
theorem j_sld (h : jOK X l0 D0 T0 cc own rt rm nL) (hz : jXz X (jScr bS L xs)) {i k : Nat} {x : Int32} (hx0 : x = nI (i + k)) (hk : i + k < L) (hL : L < 2147483648) (d : decode cc pc = .ok (.iaload, 1))
    (kk : J X a b ws (pc + 1) ls (.int (xs (i + k)) :: st)) : J X a b ws pc ls (.int x :: .ref bS :: st) := by
  obtain ⟨p, l, e, R, s, m, args, below, meth, c, D, T, A, nL1, Q⟩ := X
  obtain ⟨hx, hb, ⟨rfl, rfl, rfl, rfl, rfl⟩, hr, hown, hts, hnw, hK, hA, hml, hlocks, hZ⟩ := h
  subst hx0
  have e1 : (nI (i + k)).toNatClampNeg = i + k := nI_clamp (by omega)
  obtain ⟨z1, z2, z3⟩ := hz
  exact fun H locs sl hP hD hS hv => va_sld hx hb z1 z2 z3 hS (vp_in_nI hk hL) d (by rw [e1]; exact kk H locs sl hP hD hS hv)
theorem j_slen (h : jOK X l0 D0 T0 cc own rt rm nL) (hz : jXz X (jScr bS L xs)) (d : decode cc pc = .ok (.arraylength, 1))
    (kk : J X a b ws (pc + 1) ls (.int (nI L) :: st)) : J X a b ws pc ls (.ref bS :: st) := by
  obtain ⟨p, l, e, R, s, m, args, below, meth, c, D, T, A, nL1, Q⟩ := X
  obtain ⟨hx, hb, ⟨rfl, rfl, rfl, rfl, rfl⟩, hr, hown, hts, hnw, hK, hA, hml, hlocks, hZ⟩ := h
  obtain ⟨z1, z2, z3⟩ := hz
  exact fun H locs sl hP hD hS hv => va_slen hx hb z1 z2 z3 hS d (kk H locs sl hP hD hS hv)
theorem j_fcmp (h : jOK X l0 D0 T0 cc own rt rm nL) {x y : UInt32} {op : CmpOp} (d : decode cc pc = .ok (.fcmp op, 1))
    (kk : J X a b ws (pc + 1) ls (.int (Op.cmpValue (FP.fcmp x y) op) :: st)) : J X a b ws pc ls (.float y :: .float x :: st) := by
  obtain ⟨p, l, e, R, s, m, args, below, meth, c, D, T, A, nL1, Q⟩ := X
  obtain ⟨hx, hb, ⟨rfl, rfl, rfl, rfl, rfl⟩, hr, hown, hts, hnw, hK, hA, hml, hlocks, hZ⟩ := h
  exact fun H locs sl hP hD hS hv => lv_fcmp hx hb d (kk H locs sl hP hD hS hv)
end JLaw
section JXN
variable {X : jX} {l0 : Launch} {D0 : va_G} {T0 : List (ClassId × FieldType)} {cc : ByteArray} {own : String} {rt : Option FieldType} {rm : Room} {nL : Nat} {a b : Nat} {ws : va_W} {pc : Nat} {ls : List (Nat × Value)} {st : List Value}
variable {y : MethodName} {bytes : ByteArray} {maxL : Nat} {ret : Option FieldType} {rc : Room} {As : List Value} {wc : va_W} {P : Option Value → va_W → Prop} {PX : String → va_W → Prop} {index n9 : Nat}
/-- a callee that may throw, called where it cannot -/
theorem j_callVXN {o : Nat} {C : String} (h : jOK X l0 D0 T0 cc own rt rm nL) (hc : cx l0 D0 T0 y bytes maxL ret rc (.ref o :: As) wc P PX) (m1 : Cond.methodLink own index y ∈ GW) (m2 : Cond.instanceMethod y ∈ GW) (m3 : Cond.selects C y y ∈ GW) (m4 : Cond.initialized y.cls ∈ GW) (m5 : Cond.code y bytes maxL ret ∈ GW) (hn : As.length = n9) (hg : jGo y n9 maxL rc rm)
    (q0 : Nat) {ci : Nat} {fs : List Value} {qc : vw_C} (he : wc[q0]? = some (o, .inr (ci, fs))) (hq : vwCl[ci]? = some qc) (hqc : qc.1 = C) (d : decode cc pc = .ok (.invokevirtual index, 3)) (hst : (st.map fun v => v.category).sum ≤ 8) (hf : a + rc.cells ≤ rm.cells ∧ b + rc.slots ≤ rm.slots)
    (fr : va_W → va_W) (hfr : jFr fr) (hw : ws = fr wc) {st0 : List Value} (hs0 : st0 = As.reverse ++ .ref o :: st)
    (kx : ∀ E w, PX E w → False)
    (kk : ∀ v w, P v w → J X (a + rc.cells) (b + rc.slots) (fr w) (pc + 3) ls (v.toList ++ st)) : J X a b ws pc ls st0 := by
  obtain ⟨p, l, e, R, s, m, args, below, meth, c, D, T, A, nL1, Q⟩ := X
  obtain ⟨hx, hb, ⟨rfl, rfl, rfl, rfl, rfl⟩, hr, hown, hts, hnw, hK, hA, hml, hlocks, hZ⟩ := h
  obtain ⟨pre, post, hpp⟩ := hfr
  subst hw hs0 hn
  intro H locs sl hP hD hS hv
  rw [hpp] at hP hD
  refine jcallx_core (vx_runV (As := As) (rest := st) (n := As.length) ⟨hx, hb, hml, hown, hts⟩ (hc H.size) (⟨callB_of As.length hts (gw_sub (w1 := Cond.code y bytes maxL ret) m5) rfl rfl rfl (hts _ m4) (hts _ m1) hg.1 hg.2, hts _ m2, hts _ m3⟩) ⟨cx_blind, by
    have := va_recv (q := qc) hK (jP_mid hP) hq he
    rw [hqc] at this
    exact this, fun U hU hW => ⟨rfl, by rw [hU], by rw [hU]; exact jP_mid hP, va_K.moved hW.alike hK, (jD_mid hD).weaken (fun _ _ _ _ => trivial), fun w hw => nw_warm w hw hW (va_Nw.of (nw_onTables w hw) (hnw w hw)), by rw [hU]; exact ((hZ.kept hS.2.1).narrow (jA_mid hD hS hA)).warm hW⟩⟩ rfl rfl hv.1 rfl (lv_room hst) d hf) hP hD hS hA
    (fun E w H1 locs1 ce q9 hp h1 h2 h3 hce hcv hcl => (kx E w hp).elim)
    (fun v w H1 locs1 hp h1 h2 h3 => kk v w hp H1 locs1 sl (by rw [hpp]; exact h1) (by rw [hpp]; exact h2) h3 hv)
end JXN

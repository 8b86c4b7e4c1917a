/-- the fuel of every loop -/
def jFU : Nat := 1000000
def jmax (x y : Int32) : Int32 := if x < y then y else x
def jmin (x y : Int32) : Int32 := if x < y then x else y
def jabs (x : Int32) : Int32 := if 0 ≤ x then x else 0 - x
theorem jz_n {v : Int32} (h : v = 0 ∨ v = 1) : narrow .boolean (.int v) = .int v := by
  rcases h with rfl | rfl <;> rfl
theorem jz_f {v : Int32} (h : v = 0 ∨ v = 1) : fits .boolean (.int v) = true := by
  rcases h with rfl | rfl <;> rfl
theorem jFr_r (post : va_W) : jFr (fun w => w ++ post) := ⟨[], post, fun _ => rfl⟩
/-- a switch's cases: key and place -/
def jtabck (pc : Nat) (dflt lo hi : Int) (offs : Array Int) (df : Nat) (cs : List (Int32 × Nat)) : Bool :=
  decide ((pc : Int) + dflt = (df : Int)) && cs.all (fun q => decide (lo ≤ q.1.toInt) && decide (q.1.toInt ≤ hi) && (match offs[(q.1.toInt - lo).toNat]? with | some off => decide ((pc : Int) + off = (q.2 : Int)) | none => false)) && (List.range (hi - lo + 1).toNat).all (fun i => cs.any (fun q => decide (q.1.toInt = lo + (i : Int))))
def jnone (x : Int32) : List (Int32 × Nat) → Prop
  | [] => True
  | q :: r => ¬ x = q.1 ∧ jnone x r
theorem jnone_mem {x : Int32} : ∀ {cs : List (Int32 × Nat)}, jnone x cs → ∀ q ∈ cs, ¬ x = q.1
  | [], _, q, hq => absurd hq List.not_mem_nil
  | c :: r, h, q, hq => by
    rcases List.mem_cons.mp hq with rfl | hq
    · exact h.1
    · exact jnone_mem h.2 q hq
def jlookck (pc : Nat) (dflt : Int) (ps : Array (Int × Int)) (df : Nat) (cs : List (Int32 × Nat)) : Bool :=
  decide ((pc : Int) + dflt = (df : Int)) && (ps.toList.zip (ps.toList.drop 1)).all (fun q => decide (q.1.1 < q.2.1)) && decide (ps.toList = cs.map (fun q => (q.1.toInt, (q.2 : Int) - (pc : Int))))
def jcp (sp dp n : Int32) (n0 n1 : Nat) : Bool := decide (¬ sp < 0) && decide (¬ dp < 0) && decide (¬ n < 0) && decide (sp.toNatClampNeg + n.toNatClampNeg ≤ n0) && decide (dp.toNatClampNeg + n.toNatClampNeg ≤ n1)
section JMore
variable {X : jX} {l0 : Launch} {D0 : va_G} {T0 : List (ClassId × FieldType)} {cc : ByteArray} {own : String} {rt : Option FieldType} {rm : Room} {nL : Nat} {a b : Nat} {ws : va_W} {pc : Nat} {ls : List (Nat × Value)} {st : List Value}
theorem j_tab_c (h : jOK X l0 D0 T0 cc own rt rm nL) {dflt lo hi : Int} {offs : Array Int} {len : Nat} {x : Int32} (df : Nat) (d : decode cc pc = .ok (.tableswitch dflt lo hi offs, len)) (cs : List (Int32 × Nat)) (hck : jtabck pc dflt lo hi offs df cs = true) (i : Nat) {k : Int32} {tg : Nat} (hx1 : x = k) (hi1 : cs[i]? = some (k, tg))
    (kk : J X a b ws tg ls st) : J X a b ws pc ls (.int x :: st) := by
  obtain ⟨p, l, e, R, s, m, args, below, meth, c, D, T, A, nL1, Q⟩ := X
  obtain ⟨hx, hb, ⟨rfl, rfl, rfl, rfl, rfl⟩, hr, hown, hts, hnw, hK, hA, hml, hlocks, hZ⟩ := h
  subst hx1
  simp only [jtabck, Bool.and_eq_true] at hck
  have h1 := List.all_eq_true.mp hck.1.2 _ (List.mem_of_getElem? hi1)
  simp only [Bool.and_eq_true, decide_eq_true_eq] at h1
  obtain ⟨⟨h2, h3⟩, h4⟩ := h1
  cases ho : offs[(x.toInt - lo).toNat]? with
  | none => rw [ho] at h4; cases h4
  | some off =>
    rw [ho] at h4
    exact fun H locs sl hP hD hS hv => lv_tableIn hx hb d (by omega) (by omega) ho (of_decide_eq_true h4) (kk H locs sl hP hD hS hv)
theorem j_tab_d (h : jOK X l0 D0 T0 cc own rt rm nL) {dflt lo hi : Int} {offs : Array Int} {len : Nat} {x : Int32} (df : Nat) (d : decode cc pc = .ok (.tableswitch dflt lo hi offs, len)) (cs : List (Int32 × Nat)) (hck : jtabck pc dflt lo hi offs df cs = true) (hn : jnone x cs)
    (kk : J X a b ws df ls st) : J X a b ws pc ls (.int x :: st) := by
  obtain ⟨p, l, e, R, s, m, args, below, meth, c, D, T, A, nL1, Q⟩ := X
  obtain ⟨hx, hb, ⟨rfl, rfl, rfl, rfl, rfl⟩, hr, hown, hts, hnw, hK, hA, hml, hlocks, hZ⟩ := h
  simp only [jtabck, Bool.and_eq_true, decide_eq_true_eq] at hck
  have hout : x.toInt < lo ∨ hi < x.toInt := by
    by_cases q : x.toInt < lo
    · exact Or.inl q
    · by_cases q2 : hi < x.toInt
      · exact Or.inr q2
      · have h1 := List.all_eq_true.mp hck.2 (x.toInt - lo).toNat (List.mem_range.mpr (by omega))
        obtain ⟨z, hz, he⟩ := List.any_eq_true.mp h1
        simp only [decide_eq_true_eq] at he
        exact absurd (Int32.toInt_inj.mp (by omega : x.toInt = z.1.toInt)) (jnone_mem hn z hz)
  exact fun H locs sl hP hD hS hv => lv_tableOut hx hb d hout hck.1.1 (kk H locs sl hP hD hS hv)
theorem j_mmax {index : Nat} (h : jOK X l0 D0 T0 cc own rt rm nL) (m1 : Cond.methodLink own index Lib.Math.max.name ∈ GW) {x y : Int32} (d : decode cc pc = .ok (.invokestatic index, 3)) (hst : (st.map fun v => v.category).sum ≤ 8) (hrm : 1 ≤ rm.frames ∧ 21 ≤ rm.locals) (hcs : a ≤ rm.cells ∧ b ≤ rm.slots)
    (kk : J X a b ws (pc + 3) ls (.int (jmax x y) :: st)) : J X a b ws pc ls (.int y :: .int x :: st) := by
  obtain ⟨p, l, e, R, s, m, args, below, meth, c, D, T, A, nL1, Q⟩ := X
  obtain ⟨hx, hb, ⟨rfl, rfl, rfl, rfl, rfl⟩, hr, hown, hts, hnw, hK, hA, hml, hlocks, hZ⟩ := h
  exact fun H locs sl hP hD hS hv => va_mmax hx hb (by rw [hml]; exact hv.1.symm) hown (hts _ m1) (hts _ q510) (hts _ q22) (hts _ q511) hrm.1 (by omega) hcs.1 hcs.2 d (kk H locs sl hP hD hS hv)
theorem j_mmin {index : Nat} (h : jOK X l0 D0 T0 cc own rt rm nL) (m1 : Cond.methodLink own index Lib.Math.min.name ∈ GW) {x y : Int32} (d : decode cc pc = .ok (.invokestatic index, 3)) (hst : (st.map fun v => v.category).sum ≤ 8) (hrm : 1 ≤ rm.frames ∧ 21 ≤ rm.locals) (hcs : a ≤ rm.cells ∧ b ≤ rm.slots)
    (kk : J X a b ws (pc + 3) ls (.int (jmin x y) :: st)) : J X a b ws pc ls (.int y :: .int x :: st) := by
  obtain ⟨p, l, e, R, s, m, args, below, meth, c, D, T, A, nL1, Q⟩ := X
  obtain ⟨hx, hb, ⟨rfl, rfl, rfl, rfl, rfl⟩, hr, hown, hts, hnw, hK, hA, hml, hlocks, hZ⟩ := h
  exact fun H locs sl hP hD hS hv => va_mmin hx hb (by rw [hml]; exact hv.1.symm) hown (hts _ m1) (hts _ q221) (hts _ q22) (hts _ q222) hrm.1 (by omega) hcs.1 hcs.2 d (kk H locs sl hP hD hS hv)
theorem j_mabs {index : Nat} (h : jOK X l0 D0 T0 cc own rt rm nL) (m1 : Cond.methodLink own index Lib.Math.abs.name ∈ GW) {x : Int32} (d : decode cc pc = .ok (.invokestatic index, 3)) (hst : (st.map fun v => v.category).sum ≤ 8) (hrm : 1 ≤ rm.frames ∧ 21 ≤ rm.locals) (hcs : a ≤ rm.cells ∧ b ≤ rm.slots)
    (kk : J X a b ws (pc + 3) ls (.int (jabs x) :: st)) : J X a b ws pc ls (.int x :: st) := by
  obtain ⟨p, l, e, R, s, m, args, below, meth, c, D, T, A, nL1, Q⟩ := X
  obtain ⟨hx, hb, ⟨rfl, rfl, rfl, rfl, rfl⟩, hr, hown, hts, hnw, hK, hA, hml, hlocks, hZ⟩ := h
  exact fun H locs sl hP hD hS hv => va_mabs hx hb (by rw [hml]; exact hv.1.symm) hown (hts _ m1) (hts _ q276) (hts _ q22) (hts _ q277) hrm.1 (by omega) hcs.1 hcs.2 d (kk H locs sl hP hD hS hv)
/-- a copy stays in its rows -/
theorem j_copyi {α : Type} {G : Option α} {o9 : α} {index : Nat} (h : jOK X l0 D0 T0 cc own rt rm nL) (ws' : va_W) (m1 : Cond.methodLink own index arraycopyName ∈ GW) {sp dp n : Int32} {a0 a1 n0 n1 : Nat} {c0 c1 : ClassId} {f g : Nat → Int32} (d : decode cc pc = .ok (.invokestatic index, 3)) (q0 q1 t0 : Nat) (ha0 : ws[q0]? = some (a0, .inl (c0, n0, .inl f))) (ha1 : ws[q1]? = some (a1, .inl (c1, n1, .inl g))) (ht0 : T0[t0]? = some (c0, .int)) (ht1 : T0[t0]? = some (c1, .int))
    (hw : ws.set q1 (a1, .inl (c1, n1, .inl (va_cpy f g sp.toNatClampNeg dp.toNatClampNeg n.toNatClampNeg))) = ws') (hf : (if jcp sp dp n n0 n1 = true then G else none) = some o9) (hst : (st.map fun v => v.category).sum ≤ 8) (hrm : 1 ≤ rm.frames ∧ 8 + (nativeFrameWords "java/lang/System" "arraycopy" 5 + 11) ≤ rm.locals)
    (kk : jcp sp dp n n0 n1 = true → G = some o9 → J X a b ws' (pc + 3) ls st) : J X a b ws pc ls (.int n :: .int dp :: .ref a1 :: .int sp :: .ref a0 :: st) := by
  obtain ⟨p, l, e, R, s, m, args, below, meth, c, D, T, A, nL1, Q⟩ := X
  obtain ⟨hx, hb, ⟨rfl, rfl, rfl, rfl, rfl⟩, hr, hown, hts, hnw, hK, hA, hml, hlocks, hZ⟩ := h
  subst hw
  obtain ⟨hc, hf⟩ := jif hf
  have hc' := hc
  simp only [jcp, Bool.and_eq_true, decide_eq_true_eq] at hc'
  obtain ⟨⟨⟨⟨h1, h2⟩, h3⟩, h4⟩, h5⟩ := hc'
  exact fun H locs sl hP hD hS hv => va_copyi hx hb (by rw [hml]; exact hv.1.symm) hown (hts _ m1) (hts _ q210) (hts _ q209) (hts _ q21) hK hP hD hS q0 q1 t0 t0 ha0 ha1 ht0 ht1 rfl h1 h2 h3 h4 h5 (fun _ _ => rfl) hrm.1 (by omega) d (fun H1 locs1 hP hD hS => kk hc hf H1 locs1 sl hP hD hS hv)
end JMore

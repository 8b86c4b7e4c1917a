/-- the fuel of every loop -/
def jFU : Nat := 1000000
def jmax (x y : Int32) : Int32 := if x < y then y else x
def jmin (x y : Int32) : Int32 := if y < x then y else x
def jabs (x : Int32) : Int32 := if 0 ≤ x then x else 0 - x
theorem jz_n {v : Int32} (h : v = 0 ∨ v = 1) : narrow .boolean (.int v) = .int v := by
  rcases h with rfl | rfl <;> rfl
theorem jz_f {v : Int32} (h : v = 0 ∨ v = 1) : fits .boolean (.int v) = true := by
  rcases h with rfl | rfl <;> rfl
theorem jFr_r (post : va_W) : jFr (fun w => w ++ post) := ⟨[], post, fun _ => rfl⟩
/-- a switch's cases: key and place -/
def jtabck (pc : Nat) (dflt lo hi : Int) (offs : Array Int) (df : Nat) (cs : List (Int32 × Nat)) : Bool :=
  decide ((pc : Int) + dflt = (df : Int)) && cs.all (fun q => decide (lo ≤ q.1.toInt) && decide (q.1.toInt ≤ hi) && (match offs[(q.1.toInt - lo).toNat]? with | some off => decide ((pc : Int) + off = (q.2 : Int)) | none => false)) && (List.range (hi - lo + 1).toNat).all (fun i => cs.any (fun q => decide (q.1.toInt = lo + (i : Int))))
def jnone (x : Int32) : List (Int32 × Nat) → Prop
  | [] => True
  | q :: r => ¬ x = q.1 ∧ jnone x r
theorem jnone_mem {x : Int32} : ∀ {cs : List (Int32 × Nat)}, jnone x cs → ∀ q ∈ cs, ¬ x = q.1
  | [], _, q, hq => absurd hq List.not_mem_nil
  | c :: r, h, q, hq => by
    rcases List.mem_cons.mp hq with rfl | hq
    · exact h.1
    · exact jnone_mem h.2 q hq
def jlookck (pc : Nat) (dflt : Int) (ps : Array (Int × Int)) (df : Nat) (cs : List (Int32 × Nat)) : Bool :=
  decide ((pc : Int) + dflt = (df : Int)) && (ps.toList.zip (ps.toList.drop 1)).all (fun q => decide (q.1.1 < q.2.1)) && decide (ps.toList = cs.map (fun q => (q.1.toInt, (q.2 : Int) - (pc : Int))))
def jcp (sp dp n : Int32) (n0 n1 : Nat) : Bool := decide (¬ sp < 0) && decide (¬ dp < 0) && decide (¬ n < 0) && decide (sp.toNatClampNeg + n.toNatClampNeg ≤ n0) && decide (dp.toNatClampNeg + n.toNatClampNeg ≤ n1)
def jOv (X : jX) (z : Nat) : Prop :=
  match X with
  | (p, l, e, R, s, m, args, below, meth, c, D, T, A, nL, Q) => va_T .int z 4 (fun k => .int (jOverI k)) A s s.heap
theorem jc_n {v : Int32} (h : vp_nar .char v = v) : narrow .char (.int v) = .int v := by
  have e : narrow .char (.int v) = .int (vp_nar .char v) := rfl
  rw [e, h]
theorem jsum_r {α β γ : Type} {f : α → γ} {g : β → γ} {b : β} {o : γ} (h : Sum.elim f g (.inr b) = o) : g b = o := h
section JMore
variable {X : jX} {l0 : Launch} {D0 : va_G} {T0 : List (ClassId × FieldType)} {cc : ByteArray} {own : String} {rt : Option FieldType} {rm : Room} {nL : Nat} {a b : Nat} {ws : va_W} {pc : Nat} {ls : List (Nat × Value)} {st : List Value}
theorem j_tab_c (h : jOK X l0 D0 T0 cc own rt rm nL) {dflt lo hi : Int} {offs : Array Int} {len : Nat} {x : Int32} (df : Nat) (d : decode cc pc = .ok (.tableswitch dflt lo hi offs, len)) (cs : List (Int32 × Nat)) (hck : jtabck pc dflt lo hi offs df cs = true) (i : Nat) {k : Int32} {tg : Nat} (hx1 : x = k) (hi1 : cs[i]? = some (k, tg))
    (kk : J X a b ws tg ls st) : J X a b ws pc ls (.int x :: st) := by
  obtain ⟨p, l, e, R, s, m, args, below, meth, c, D, T, A, nL1, Q⟩ := X
  obtain ⟨hx, hb, ⟨rfl, rfl, rfl, rfl, rfl⟩, hr, hown, hts, hnw, hK, hA, hml, hlocks, hZ⟩ := h
  subst hx1
  simp only [jtabck, Bool.and_eq_true] at hck
  have h1 := List.all_eq_true.mp hck.1.2 _ (List.mem_of_getElem? hi1)
  simp only [Bool.and_eq_true, decide_eq_true_eq] at h1
  obtain ⟨⟨h2, h3⟩, h4⟩ := h1
  cases ho : offs[(x.toInt - lo).toNat]? with
  | none => rw [ho] at h4; cases h4
  | some off =>
    rw [ho] at h4
    exact fun H locs sl hP hD hS hv => lv_tableIn hx hb d (by omega) (by omega) ho (of_decide_eq_true h4) (kk H locs sl hP hD hS hv)
theorem j_tab_d (h : jOK X l0 D0 T0 cc own rt rm nL) {dflt lo hi : Int} {offs : Array Int} {len : Nat} {x : Int32} (df : Nat) (d : decode cc pc = .ok (.tableswitch dflt lo hi offs, len)) (cs : List (Int32 × Nat)) (hck : jtabck pc dflt lo hi offs df cs = true) (hn : jnone x cs)
    (kk : J X a b ws df ls st) : J X a b ws pc ls (.int x :: st) := by
  obtain ⟨p, l, e, R, s, m, args, below, meth, c, D, T, A, nL1, Q⟩ := X
  obtain ⟨hx, hb, ⟨rfl, rfl, rfl, rfl, rfl⟩, hr, hown, hts, hnw, hK, hA, hml, hlocks, hZ⟩ := h
  simp only [jtabck, Bool.and_eq_true, decide_eq_true_eq] at hck
  have hout : x.toInt < lo ∨ hi < x.toInt := by
    by_cases q : x.toInt < lo
    · exact Or.inl q
    · by_cases q2 : hi < x.toInt
      · exact Or.inr q2
      · have h1 := List.all_eq_true.mp hck.2 (x.toInt - lo).toNat (List.mem_range.mpr (by omega))
        obtain ⟨z, hz, he⟩ := List.any_eq_true.mp h1
        simp only [decide_eq_true_eq] at he
        exact absurd (Int32.toInt_inj.mp (by omega : x.toInt = z.1.toInt)) (jnone_mem hn z hz)
  exact fun H locs sl hP hD hS hv => lv_tableOut hx hb d hout hck.1.1 (kk H locs sl hP hD hS hv)
theorem jlook_none {x : Int32} {dflt : Int} {pc : Nat} : ∀ {cs : List (Int32 × Nat)}, jnone x cs → Op.lookupswitch.offset (cs.map (fun q => (q.1.toInt, (q.2 : Int) - (pc : Int)))) dflt x.toInt = dflt
  | [], _ => rfl
  | c :: r, h => by
    show (if c.1.toInt = x.toInt then _ else _) = _
    rw [if_neg (fun z => h.1 (Int32.toInt_inj.mp z.symm))]
    exact jlook_none h.2
theorem j_look_c (h : jOK X l0 D0 T0 cc own rt rm nL) {dflt : Int} {ps : Array (Int × Int)} {len : Nat} {x : Int32} (df : Nat) (d : decode cc pc = .ok (.lookupswitch dflt ps, len)) (cs : List (Int32 × Nat)) (hck : jlookck pc dflt ps df cs = true) (k : Int32) (tg : Nat) (hx1 : x = k) (ho : Op.lookupswitch.offset ps.toList dflt k.toInt = (tg : Int) - (pc : Int))
    (kk : J X a b ws tg ls st) : J X a b ws pc ls (.int x :: st) := by
  obtain ⟨p, l, e, R, s, m, args, below, meth, c, D, T, A, nL1, Q⟩ := X
  obtain ⟨hx, hb, ⟨rfl, rfl, rfl, rfl, rfl⟩, hr, hown, hts, hnw, hK, hA, hml, hlocks, hZ⟩ := h
  subst hx1
  simp only [jlookck, Bool.and_eq_true, decide_eq_true_eq] at hck
  refine fun H locs sl hP hD hS hv => lv_lookup hx hb d ?_ ho (by omega) (kk H locs sl hP hD hS hv)
  rw [← hck.1.2]
theorem j_look_d (h : jOK X l0 D0 T0 cc own rt rm nL) {dflt : Int} {ps : Array (Int × Int)} {len : Nat} {x : Int32} (df : Nat) (d : decode cc pc = .ok (.lookupswitch dflt ps, len)) (cs : List (Int32 × Nat)) (hck : jlookck pc dflt ps df cs = true) (hn : jnone x cs)
    (kk : J X a b ws df ls st) : J X a b ws pc ls (.int x :: st) := by
  obtain ⟨p, l, e, R, s, m, args, below, meth, c, D, T, A, nL1, Q⟩ := X
  obtain ⟨hx, hb, ⟨rfl, rfl, rfl, rfl, rfl⟩, hr, hown, hts, hnw, hK, hA, hml, hlocks, hZ⟩ := h
  simp only [jlookck, Bool.and_eq_true, decide_eq_true_eq] at hck
  refine fun H locs sl hP hD hS hv => lv_lookup hx hb d ?_ (off := dflt) (by rw [hck.2]; exact jlook_none hn) hck.1.1 (kk H locs sl hP hD hS hv)
  rw [← hck.1.2]
theorem j_mmax {index : Nat} (h : jOK X l0 D0 T0 cc own rt rm nL) (m1 : Cond.methodLink own index Lib.Math.max.name ∈ GW) {x y : Int32} (d : decode cc pc = .ok (.invokestatic index, 3)) (hst : (st.map fun v => v.category).sum ≤ 8) (hrm : 1 ≤ rm.frames ∧ 21 ≤ rm.locals) (hcs : a ≤ rm.cells ∧ b ≤ rm.slots)
    (kk : J X a b ws (pc + 3) ls (.int (jmax x y) :: st)) : J X a b ws pc ls (.int y :: .int x :: st) := by
  obtain ⟨p, l, e, R, s, m, args, below, meth, c, D, T, A, nL1, Q⟩ := X
  obtain ⟨hx, hb, ⟨rfl, rfl, rfl, rfl, rfl⟩, hr, hown, hts, hnw, hK, hA, hml, hlocks, hZ⟩ := h
  exact fun H locs sl hP hD hS hv => va_mmax hx hb (by rw [hml]; exact hv.1.symm) hown (hts _ m1) (hts _ q515) (hts _ q22) (hts _ q516) hrm.1 (by omega) hcs.1 hcs.2 d (kk H locs sl hP hD hS hv)
theorem j_mmin {index : Nat} (h : jOK X l0 D0 T0 cc own rt rm nL) (m1 : Cond.methodLink own index Lib.Math.min.name ∈ GW) {x y : Int32} (d : decode cc pc = .ok (.invokestatic index, 3)) (hst : (st.map fun v => v.category).sum ≤ 8) (hrm : 1 ≤ rm.frames ∧ 21 ≤ rm.locals) (hcs : a ≤ rm.cells ∧ b ≤ rm.slots)
    (kk : J X a b ws (pc + 3) ls (.int (jmin x y) :: st)) : J X a b ws pc ls (.int y :: .int x :: st) := by
  obtain ⟨p, l, e, R, s, m, args, below, meth, c, D, T, A, nL1, Q⟩ := X
  obtain ⟨hx, hb, ⟨rfl, rfl, rfl, rfl, rfl⟩, hr, hown, hts, hnw, hK, hA, hml, hlocks, hZ⟩ := h
  exact fun H locs sl hP hD hS hv => va_mmin hx hb (by rw [hml]; exact hv.1.symm) hown (hts _ m1) (hts _ q221) (hts _ q22) (hts _ q222) hrm.1 (by omega) hcs.1 hcs.2 d (kk H locs sl hP hD hS hv)
theorem j_mabs {index : Nat} (h : jOK X l0 D0 T0 cc own rt rm nL) (m1 : Cond.methodLink own index Lib.Math.abs.name ∈ GW) {x : Int32} (d : decode cc pc = .ok (.invokestatic index, 3)) (hst : (st.map fun v => v.category).sum ≤ 8) (hrm : 1 ≤ rm.frames ∧ 21 ≤ rm.locals) (hcs : a ≤ rm.cells ∧ b ≤ rm.slots)
    (kk : J X a b ws (pc + 3) ls (.int (jabs x) :: st)) : J X a b ws pc ls (.int x :: st) := by
  obtain ⟨p, l, e, R, s, m, args, below, meth, c, D, T, A, nL1, Q⟩ := X
  obtain ⟨hx, hb, ⟨rfl, rfl, rfl, rfl, rfl⟩, hr, hown, hts, hnw, hK, hA, hml, hlocks, hZ⟩ := h
  exact fun H locs sl hP hD hS hv => va_mabs hx hb (by rw [hml]; exact hv.1.symm) hown (hts _ m1) (hts _ q276) (hts _ q22) (hts _ q277) hrm.1 (by omega) hcs.1 hcs.2 d (kk H locs sl hP hD hS hv)
/-- a copy stays in its rows -/
theorem j_copyi {α : Type} {G : Option α} {o9 : α} {index : Nat} (h : jOK X l0 D0 T0 cc own rt rm nL) (ws' : va_W) (m1 : Cond.methodLink own index arraycopyName ∈ GW) {sp dp n : Int32} {a0 a1 n0 n1 : Nat} {c0 c1 : ClassId} {f g : Nat → Int32} (d : decode cc pc = .ok (.invokestatic index, 3)) (q0 q1 t0 : Nat) (ha0 : ws[q0]? = some (a0, .inl (c0, n0, .inl f))) (ha1 : ws[q1]? = some (a1, .inl (c1, n1, .inl g))) (ht0 : T0[t0]? = some (c0, .int)) (ht1 : T0[t0]? = some (c1, .int))
    (hw : ws.set q1 (a1, .inl (c1, n1, .inl (va_cpy f g sp.toNatClampNeg dp.toNatClampNeg n.toNatClampNeg))) = ws') (hf : (if jcp sp dp n n0 n1 = true then G else none) = some o9) (hst : (st.map fun v => v.category).sum ≤ 8) (hrm : 1 ≤ rm.frames ∧ 8 + (nativeFrameWords "java/lang/System" "arraycopy" 5 + 11) ≤ rm.locals)
    (kk : jcp sp dp n n0 n1 = true → G = some o9 → J X a b ws' (pc + 3) ls st) : J X a b ws pc ls (.int n :: .int dp :: .ref a1 :: .int sp :: .ref a0 :: st) := by
  obtain ⟨p, l, e, R, s, m, args, below, meth, c, D, T, A, nL1, Q⟩ := X
  obtain ⟨hx, hb, ⟨rfl, rfl, rfl, rfl, rfl⟩, hr, hown, hts, hnw, hK, hA, hml, hlocks, hZ⟩ := h
  subst hw
  obtain ⟨hc, hf⟩ := jif hf
  have hc' := hc
  simp only [jcp, Bool.and_eq_true, decide_eq_true_eq] at hc'
  obtain ⟨⟨⟨⟨h1, h2⟩, h3⟩, h4⟩, h5⟩ := hc'
  exact fun H locs sl hP hD hS hv => va_copyi hx hb (by rw [hml]; exact hv.1.symm) hown (hts _ m1) (hts _ q210) (hts _ q209) (hts _ q21) hK hP hD hS q0 q1 t0 t0 ha0 ha1 ht0 ht1 rfl h1 h2 h3 h4 h5 (fun _ _ => rfl) hrm.1 (by omega) d (fun H1 locs1 hP hD hS => kk hc hf H1 locs1 sl hP hD hS hv)
end JMore
/-- two holes -/
def jFr2 (fr : va_W → va_W → va_W) : Prop := ∃ rest : va_W, ∀ x y, (fr x y).Perm ((x ++ y) ++ rest)
theorem jFr2_sw : jFr2 (fun x y => y ++ x) := ⟨[], fun x y => by rw [List.append_nil]; exact List.perm_append_comm⟩
theorem jFr2_id : jFr2 (fun x y => x ++ y) := ⟨[], fun x y => by rw [List.append_nil]⟩
theorem jPull (p x q : va_W) : (p ++ (x ++ q)).Perm (x ++ (p ++ q)) := by
  have h := (List.perm_append_comm (l₁ := p) (l₂ := x)).append_right q
  rw [List.append_assoc, List.append_assoc] at h
  exact h
theorem jFr2_of {f g : va_W → va_W} (hf : jFr f) (hg : jFr g) : jFr2 (fun x y => f x ++ g y) := by
  obtain ⟨p1, q1, h1⟩ := hf
  obtain ⟨p2, q2, h2⟩ := hg
  refine ⟨(p1 ++ q1) ++ (p2 ++ q2), fun x y => ?_⟩
  show (f x ++ g y).Perm _
  rw [h1, h2]
  have a1 := (jPull p1 x q1).append (jPull p2 y q2)
  have a2 : ((x ++ (p1 ++ q1)) ++ (y ++ (p2 ++ q2))).Perm ((x ++ y) ++ ((p1 ++ q1) ++ (p2 ++ q2))) := by
    have b1 := (jPull (p1 ++ q1) y (p2 ++ q2)).append_left x
    simp only [List.append_assoc] at b1 ⊢
    exact b1
  exact a1.trans a2
theorem jD_perm {A : Nat → Prop} {ws ws' : va_W} (hp : ws'.Perm ws) (h : va_D A ws) : va_D A ws' := by
  obtain ⟨h1, h2⟩ := jD_iff.mp h
  exact jD_iff.mpr ⟨(hp.map Prod.fst).symm.nodup h1, fun q hq => h2 q (hp.subset hq)⟩
theorem j_two {X : jX} {l0 : Launch} {D0 : va_G} {T0 : List (ClassId × FieldType)} {cc : ByteArray} {own : String} {rt : Option FieldType} {rm : Room} {nL : Nat} {a b : Nat} {ws : va_W} {pc : Nat} {ls : List (Nat × Value)} {st : List Value} (h : jOK X l0 D0 T0 cc own rt rm nL) (fr : va_W → va_W → va_W) (hfr : jFr2 fr) (x y : va_W) (hw : ws = fr x y)
    (kk : ∀ rest : va_W, (∀ (x' y' : va_W) (a b pc : Nat) (ls : List (Nat × Value)) (st : List Value), J X a b (fr x' y') pc ls st → J X a b ((x' ++ y') ++ rest) pc ls st) → J X a b ((x ++ y) ++ rest) pc ls st) : J X a b ws pc ls st := by
  obtain ⟨rest, hp⟩ := hfr
  subst hw
  have k := kk rest (fun x' y' a b pc ls st q => by
    obtain ⟨p, l, e, R, s, m, args, below, meth, c, D, T, A, nL1, Q⟩ := X
    exact fun H locs sl hP hD hS hv => q H locs sl (jP_perm (fun z hz => (hp x' y').subset hz) hP) (jD_perm (hp x' y') hD) hS hv)
  obtain ⟨p, l, e, R, s, m, args, below, meth, c, D, T, A, nL1, Q⟩ := X
  exact fun H locs sl hP hD hS hv => k H locs sl (jP_perm (fun z hz => (hp x y).symm.subset hz) hP) (jD_perm (hp x y).symm hD) hS hv
theorem jFr_l (pre : va_W) : jFr (fun w => pre ++ w) := ⟨pre, [], fun w => by rw [List.append_nil]⟩
/-- the table of overtones -/
theorem j_over {X : jX} {l0 : Launch} {D0 : va_G} {T0 : List (ClassId × FieldType)} {cc : ByteArray} {rt : Option FieldType} {rm : Room} {nL : Nat} {a b : Nat} {ws : va_W} {pc : Nat} {ls : List (Nat × Value)} {st : List Value} {index : Nat} (h : jOK X l0 D0 T0 cc RX1 rt rm nL) (m1 : Cond.fieldLink RX1 index RX1 "OVERTONES" "[I" ∈ GW) (d : decode cc pc = .ok (.getstatic index, 3))
    (kk : ∀ z : Nat, jOv X z → J X a b ws (pc + 3) ls (.ref z :: st)) : J X a b ws pc ls st := by
  obtain ⟨p, l, e, R, s, m, args, below, meth, c, D, T, A, nL1, Q⟩ := X
  obtain ⟨hx, hb, ⟨rfl, rfl, rfl, rfl, rfl⟩, hr, hown, hts, hnw, hK, hA, hml, hlocks, hZ⟩ := h
  obtain ⟨z, hz1, hz2⟩ := hZ.1
  exact fun H locs sl hP hD hS hv => va_gets hx hb hz1 hS hown (hts _ m1) (fun _ h9 => h9) d (kk z hz2 H locs sl hP hD hS hv)
theorem j_overld {X : jX} {l0 : Launch} {D0 : va_G} {T0 : List (ClassId × FieldType)} {cc : ByteArray} {own : String} {rt : Option FieldType} {rm : Room} {nL : Nat} {a b : Nat} {ws : va_W} {pc : Nat} {ls : List (Nat × Value)} {st : List Value} (h : jOK X l0 D0 T0 cc own rt rm nL) {α : Type} {G : Option α} {o : α} {z : Nat} (hz : jOv X z) {i : Int32} (d : decode cc pc = .ok (.iaload, 1)) (hf : (if jin i 4 = true then G else none) = some o)
    (kk : jin i 4 = true → G = some o → J X a b ws (pc + 1) ls (.int (jOverI i.toNatClampNeg) :: st)) : J X a b ws pc ls (.int i :: .ref z :: st) := by
  obtain ⟨p, l, e, R, s, m, args, below, meth, c, D, T, A, nL1, Q⟩ := X
  obtain ⟨hx, hb, ⟨rfl, rfl, rfl, rfl, rfl⟩, hr, hown, hts, hnw, hK, hA, hml, hlocks, hZ⟩ := h
  exact fun H locs sl hP hD hS hv => va_ti hx hb hz hS (jin_in (jif hf).1) rfl d (kk (jif hf).1 (jif hf).2 H locs sl hP hD hS hv)
theorem j_overlen {X : jX} {l0 : Launch} {D0 : va_G} {T0 : List (ClassId × FieldType)} {cc : ByteArray} {own : String} {rt : Option FieldType} {rm : Room} {nL : Nat} {a b : Nat} {ws : va_W} {pc : Nat} {ls : List (Nat × Value)} {st : List Value} (h : jOK X l0 D0 T0 cc own rt rm nL) {z : Nat} (hz : jOv X z) (d : decode cc pc = .ok (.arraylength, 1))
    (kk : J X a b ws (pc + 1) ls (.int 4 :: st)) : J X a b ws pc ls (.ref z :: st) := by
  obtain ⟨p, l, e, R, s, m, args, below, meth, c, D, T, A, nL1, Q⟩ := X
  obtain ⟨hx, hb, ⟨rfl, rfl, rfl, rfl, rfl⟩, hr, hown, hts, hnw, hK, hA, hml, hlocks, hZ⟩ := h
  exact fun H locs sl hP hD hS hv => va_tlen hx hb hz hS (by decide) d (kk H locs sl hP hD hS hv)

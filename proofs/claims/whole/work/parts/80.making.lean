theorem qAint : Cond.arrayClass FieldType.int ∈ GW := gw1 (List.mem_of_getElem? (i := 80) (by decide +kernel)) rfl
theorem qAchar : Cond.arrayClass FieldType.char ∈ GW := gw2 (List.mem_of_getElem? (i := 25) (by decide +kernel)) rfl
theorem qAbyte : Cond.arrayClass FieldType.byte ∈ GW := gw2 (List.mem_of_getElem? (i := 58) (by decide +kernel)) rfl
theorem qAlong : Cond.arrayClass FieldType.long ∈ GW := gw10 (List.mem_of_getElem? (i := 149) (by decide +kernel)) rfl
theorem qAdouble : Cond.arrayClass FieldType.double ∈ GW := gw10 (List.mem_of_getElem? (i := 150) (by decide +kernel)) rfl
/-! THINGS MADE -/
def jXn (X : jX) : Prop :=
  match X with
  | (p, l, e, R, s, m, args, below, meth, c, D, T, A, nL, Q) => meth.name = "<init>"
theorem cmI_of {l : Launch} {D : va_G} {T : List (ClassId × FieldType)} {y : MethodName} {cc : ByteArray} {maxL : Nat} {ret : Option FieldType} {rm : Room} {av : List Value} {w0 : va_W} {P : Option Value → va_W → Prop} (own : String) (hown0 : y.cls = own) (hyi : y.name = "<init>") (hy : plainName y.cls = true) (hav : (lg_sl av).length ≤ maxL)
    (body : ∀ X : jX, jOK X l D T cc own ret rm maxL → jEnd X P rm.cells rm.slots → jXn X → J X 0 0 w0 0 (lv_args 0 av) []) : cm l D T y cc maxL ret rm av w0 P := by
  intro sz
  refine Met.ofW (cc := cc) (maxL := maxL) (ret := ret) hy rfl ?_
  intro p e s m args below meth c s₁ B hml hv
  obtain ⟨rfl, hsz, hP, hK, hD0, hN, hZ⟩ := hv
  have hts := atoms_spec (ws := Cond.code y cc maxL ret :: GW) B.pre
  have hin : meth.name = "<init>" := by rw [← hyi]; exact (name_of_methodNamed B.named B.method).1
  subst hsz
  have hD := hD0.self (sz := s.heap.size)
  rw [lg_entry_eq]
  exact body (p, l, e, rm, s, m, av.toArray, below, meth, c, D, T, va_A w0 s.heap.size, maxL, MQ below (jQc D T P (va_A w0 s.heap.size)) av.toArray s rm.cells rm.slots (va_A w0 s.heap.size))
    ⟨B.exec, B.bytes, ⟨rfl, rfl, rfl, rfl, rfl⟩, B.returns, by rw [← hown0]; exact findClass_of_methodNamed B.named, fun w hw => hts w (List.mem_cons_of_mem _ hw), fun w hw => va_Nw.use (nw_onTables w hw) (hN w hw), hK, fun q h => Or.inr h, hml, B.notSynchronized, hZ⟩ rfl hin
    s.heap [] _ hP hD va_S.rf (lv_entry av hav)
theorem cmzI_of {Z : jFz} {l : Launch} {D : va_G} {T : List (ClassId × FieldType)} {y : MethodName} {cc : ByteArray} {maxL : Nat} {ret : Option FieldType} {rm : Room} {av : List Value} {w0 : va_W} {P : Option Value → va_W → Prop} (own : String) (hown0 : y.cls = own) (hyi : y.name = "<init>") (hy : plainName y.cls = true) (hav : (lg_sl av).length ≤ maxL)
    (body : ∀ X : jX, jOK X l D T cc own ret rm maxL → jEnd X P rm.cells rm.slots → jXn X → jXz X Z → J X 0 0 w0 0 (lv_args 0 av) []) : cmz Z l D T y cc maxL ret rm av w0 P := by
  intro sz
  refine Met.ofW (cc := cc) (maxL := maxL) (ret := ret) hy rfl ?_
  intro p e s m args below meth c s₁ B hml hv
  obtain ⟨rfl, hsz, hP, hK, hD0, hN, hZ, hz⟩ := hv
  have hts := atoms_spec (ws := Cond.code y cc maxL ret :: GW) B.pre
  have hin : meth.name = "<init>" := by rw [← hyi]; exact (name_of_methodNamed B.named B.method).1
  subst hsz
  have hD := hD0.self (sz := s.heap.size)
  rw [lg_entry_eq]
  exact body (p, l, e, rm, s, m, av.toArray, below, meth, c, D, T, va_A w0 s.heap.size, maxL, MQ below (jQc D T P (va_A w0 s.heap.size)) av.toArray s rm.cells rm.slots (va_A w0 s.heap.size))
    ⟨B.exec, B.bytes, ⟨rfl, rfl, rfl, rfl, rfl⟩, B.returns, by rw [← hown0]; exact findClass_of_methodNamed B.named, fun w hw => hts w (List.mem_cons_of_mem _ hw), fun w hw => va_Nw.use (nw_onTables w hw) (hN w hw), hK, fun q h => Or.inr h, hml, B.notSynchronized, hZ⟩ rfl hin hz
    s.heap [] _ hP hD va_S.rf (lv_entry av hav)
/-- an array class has one number -/
theorem va_RA_inj {U : State} {c1 c2 : ClassId} {ty : FieldType} (h1 : va_RA U c1 ty) (h2 : va_RA U c2 ty) : c1 = c2 := by
  cases ty with
  | object C =>
    obtain ⟨k1, m1, -, -, -, e1⟩ := h1
    obtain ⟨k2, m2, -, -, -, e2⟩ := h2
    exact Option.some.inj (e1.symm.trans e2)
  | _ => exact Option.some.inj ((show U.vm.findClass _ = some c1 from h1).symm.trans (show U.vm.findClass _ = some c2 from h2))
section JMake
variable {X : jX} {l0 : Launch} {D0 : va_G} {T0 : List (ClassId × FieldType)} {cc : ByteArray} {own : String} {rt : Option FieldType} {rm : Room} {nL : Nat} {a b : Nat} {ws : va_W} {pc : Nat} {ls : List (Nat × Value)} {st : List Value} {index : Nat}
theorem j_objInit (h : jOK X l0 D0 T0 cc own rt rm nL) {o : Nat} (m1 : Cond.methodLink own index Lib.objectInit ∈ GW) (d : decode cc pc = .ok (.invokespecial index, 3)) (hst : (st.map fun v => v.category).sum ≤ 8) (hrm : 1 ≤ rm.frames ∧ 20 ≤ rm.locals)
    (kk : J X a b ws (pc + 3) ls st) : J X a b ws pc ls (.ref o :: st) := by
  obtain ⟨p, l, e, R, s, m, args, below, meth, c, D, T, A, nL1, Q⟩ := X
  obtain ⟨hx, hb, ⟨rfl, rfl, rfl, rfl, rfl⟩, hr, hown, hts, hnw, hK, hA, hml, hlocks, hZ⟩ := h
  exact fun H locs sl hP hD hS hv => W.objInit hx hb hown (hts _ m1) (hts _ q41) (hts _ q42) rfl (by rw [hml]; exact hv.1) rfl d hrm.1 (by show 2 * 0 + _ + 12 ≤ _; omega) (kk H locs sl hP hD hS hv)
theorem j_newa (h : jOK X l0 D0 T0 cc own rt rm nL) {atype : ArrayType} {ty : FieldType} (t0 : Nat) {cT : ClassId} (ht : T0[t0]? = some (cT, ty)) (harr : Cond.arrayClass (newarray.typeOf atype) ∈ GW) (hty : newarray.typeOf atype = ty) {n : Int32} {N' : Nat} (a0 : vp_A) (ha : ∀ cA : ClassId, vp_cell cA a0 = arrV cA N' (fun _ => defaultValue ty)) (hn : ¬ n < 0) (hN : n.toNatClampNeg = N') (hbytes : N' * componentBytes ty ≤ 536870912) (hc : a + 1 ≤ rm.cells ∧ b + N' ≤ rm.slots) (d : decode cc pc = .ok (.newarray atype, 2))
    (kk : ∀ q : Nat, J X (a + 1) (b + N') (ws ++ [(q, .inl (cT, a0))]) (pc + 2) ls (.ref q :: st)) : J X a b ws pc ls (.int n :: st) := by
  obtain ⟨p, l, e, R, s, m, args, below, meth, c, D, T, A, nL1, Q⟩ := X
  obtain ⟨hx, hb, ⟨rfl, rfl, rfl, rfl, rfl⟩, hr, hown, hts, hnw, hK, hA, hml, hlocks, hZ⟩ := h
  exact fun H locs sl hP hD hS hv => va_newa (atype := atype) hx hb (hts _ harr) hty hK hP hD hS hA ha hn hN hbytes hc.1 hc.2 d (fun q cA H1 hK1 hP1 hD1 hS1 => by
    have e1 := (hK1.2 T.length (cA, ty) (by rw [List.getElem?_append_right (Nat.le_refl _), Nat.sub_self]; rfl)).2
    have e2 := (hK.2 t0 _ ht).2
    obtain rfl := va_RA_inj e1 e2
    exact kk q H1 locs sl hP1 hD1 hS1 hv)
theorem j_new (h : jOK X l0 D0 T0 cc own rt rm nL) {C : String} {TT : u_T} {N ci : Nat} (hin : ∀ w ∈ u_ws C TT N, w ∈ GW) (ty0 : Nat → FieldType) (hty : ∀ k, k < N → parseFieldDescriptor (TT k).2.2.1 = some (ty0 k)) (m1 : Cond.classLink own index C ∈ GW) (m2 : Cond.instantiable C N ∈ GW) (m3 : Cond.initialized C ∈ GW) (hc : vwCl[ci]? = some (C, TT, N)) (fs : List Value) (hfs : ∀ j, j < N → defaultValue (ty0 j) = vp_V fs j) (hr : a + 1 ≤ rm.cells ∧ b + N ≤ rm.slots) (d : decode cc pc = .ok (.new index, 3))
    (kk : ∀ q : Nat, J X (a + 1) (b + N) (ws ++ [(q, .inr (ci, fs))]) (pc + 3) ls (.ref q :: st)) : J X a b ws pc ls st := by
  obtain ⟨p, l, e, R, s, m, args, below, meth, c, D, T, A, nL1, Q⟩ := X
  obtain ⟨hx, hb, ⟨rfl, rfl, rfl, rfl, rfl⟩, hr0, hown, hts, hnw, hK, hA, hml, hlocks, hZ⟩ := h
  exact fun H locs sl hP hD hS hv => va_new hx hb hts hin ty0 hty hown (hts _ m1) (hts _ m2) (hts _ m3) hK hP hD hS hA hc hfs hr.1 hr.2 d (fun q H1 hP1 hD1 hS1 => kk q H1 locs sl hP1 hD1 hS1 hv)
theorem j_newq (h : jOK X l0 D0 T0 cc own rt rm nL) {C : String} (t0 : Nat) {cT : ClassId} (ht : T0[t0]? = some (cT, .object C)) (hz : jXz X (fun U _ _ => va_AO C U)) (m1 : Cond.classLink own index C ∈ GW) {n : Int32} {N' : Nat} (hn : ¬ n < 0) (hN : n.toNatClampNeg = N') (hbytes : N' * 4 ≤ 536870912) (hr : a + 1 ≤ rm.cells ∧ b + N' ≤ rm.slots) (d : decode cc pc = .ok (.anewarray index, 3))
    (kk : ∀ q : Nat, J X (a + 1) (b + N') (ws ++ [(q, .inl (cT, N', .inr (.inr (.inr (.inr (fun _ => none))))))]) (pc + 3) ls (.ref q :: st)) : J X a b ws pc ls (.int n :: st) := by
  obtain ⟨p, l, e, R, s, m, args, below, meth, c, D, T, A, nL1, Q⟩ := X
  obtain ⟨hx, hb, ⟨rfl, rfl, rfl, rfl, rfl⟩, hr0, hown, hts, hnw, hK, hA, hml, hlocks, hZ⟩ := h
  exact fun H locs sl hP hD hS hv => va_newq hx hb hown (hts _ m1) (show va_AO C s from hz) hK hP hD hS hA hn hN hbytes hr.1 hr.2 d (fun q cA H1 hK1 hP1 hD1 hS1 => by
    have e1 := (hK1.2 T.length (cA, .object C) (by rw [List.getElem?_append_right (Nat.le_refl _), Nat.sub_self]; rfl)).2
    have e2 := (hK.2 t0 _ ht).2
    obtain rfl := va_RA_inj e1 e2
    exact kk q H1 locs sl hP1 hD1 hS1 hv)
theorem j_putF (h : jOK X l0 D0 T0 cc own rt rm nL) (hi : jXn X) {ad ci N : Nat} {ref C : String} {TT : u_T} {fs : List Value} {v : Value} {ty : FieldType} (ws' : va_W) (ty0 : Nat → FieldType) (d : decode cc pc = .ok (.putfield index, 3)) (hin : ∀ w ∈ u_ws C TT N, w ∈ GW) (hty : ∀ k, k < N → parseFieldDescriptor (TT k).2.2.1 = some (ty0 k)) (hnm : ∀ a, a < N → ∀ b, b < N → a ≠ b → (TT a).2.1 ≠ (TT b).2.1) (k : Nat) (hlink : Cond.fieldLink own index ref (TT k).2.1 (TT k).2.2.1 ∈ GW) (q0 : Nat) (he : ws[q0]? = some (ad, .inr (ci, fs))) (hc : vwCl[ci]? = some (C, TT, N)) (hk : k < N) (hr0 : (TT k).1 = ref) (hfin : (TT k).2.2.2 = true) (hdecl : (TT k).1 = own) (hd : ty0 k = ty) (hn : narrow ty v = v) (hfit : fits ty v = true) (hl : k < fs.length) (hw : ws.set q0 (ad, .inr (ci, fs.set k v)) = ws')
    (kk : J X a b ws' (pc + 3) ls st) : J X a b ws pc ls (v :: .ref ad :: st) := by
  obtain ⟨p, l, e, R, s, m, args, below, meth, c, D, T, A, nL1, Q⟩ := X
  obtain ⟨hx, hb, ⟨rfl, rfl, rfl, rfl, rfl⟩, hr, hown, hts, hnw, hK, hA, hml, hlocks, hZ⟩ := h
  subst hw
  exact fun H locs sl hP hD hS hv => va_putF hx hb hts hin ty0 hty hnm hown hK hP hD hS q0 he hc k hk (hts _ hlink) (fun _ h9 => by rw [← hr0]; exact h9) hfin hi hdecl (by rw [hty k hk, hd]) hn hfit hl d (fun H1 locs1 hP hD hS => kk H1 locs1 sl hP hD hS hv)
theorem j_astq (h : jOK X l0 D0 T0 cc own rt rm nL) {ad n v ci : Nat} {vs : List Value} {r : vw_C} {cA : ClassId} {f : Nat → Option Nat} {i : Int32} (ws' : va_W) (d : decode cc pc = .ok (.aastore, 1)) (q0 t0 qk : Nat) (ha : ws[q0]? = some (ad, .inl (cA, n, .inr (.inr (.inr (.inr f)))))) (hc : vwCl[ci]? = some r) (ht : T0[t0]? = some (cA, .object r.1)) (hv0 : ws[qk]? = some (v, .inr (ci, vs))) (hin : jin i n = true) (hw : ws.set q0 (ad, .inl (cA, n, .inr (.inr (.inr (.inr (va_up f i.toNatClampNeg (some v))))))) = ws')
    (kk : J X a b ws' (pc + 1) ls st) : J X a b ws pc ls (.ref v :: .int i :: .ref ad :: st) := by
  obtain ⟨p, l, e, R, s, m, args, below, meth, c, D, T, A, nL1, Q⟩ := X
  obtain ⟨hx, hb, ⟨rfl, rfl, rfl, rfl, rfl⟩, hr, hown, hts, hnw, hK, hA, hml, hlocks, hZ⟩ := h
  subst hw
  exact fun H locs sl hP hD hS hv => va_astq hx hb hK hP hD hS q0 t0 qk ci ha ht hv0 hc (jin_in hin) d (fun H1 locs1 hP hD hS => kk H1 locs1 sl hP hD hS hv)
theorem j_wsEq (ws' : va_W) (hw : ws = ws') (kk : J X a b ws' pc ls st) : J X a b ws pc ls st := by rw [hw]; exact kk
end JMake

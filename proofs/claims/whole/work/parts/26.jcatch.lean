/-! METHODS WITH HANDLERS: the law's helpers -/
def jTB (X : jX) (hh : List (Nat × Nat × Nat × Nat)) : Prop :=
  match X with
  | (p, l, e, R, s, m, args, below, meth, c, D, T, A, nL, Q) => c.exceptionTable.toList = tableOf hh
def cmh (l : Launch) (D : va_G) (T : List (ClassId × FieldType)) (y : MethodName) (cc : ByteArray) (maxL : Nat) (ret : Option FieldType) (hh : List (Nat × Nat × Nat × Nat)) (rm : Room) (av : List Value) (w0 : va_W) (P : Option Value → va_W → Prop) : Prop :=
  ∀ sz : Nat, Met l y (Cond.codeWith y cc maxL ret hh :: GW) rm (va_Pc av (fun U => U.heap.size = sz ∧ va_P D vwCl w0 U.heap ∧ va_K D vwCl T U ∧ va_D (fun _ => True) w0 ∧ (∀ w ∈ NW, va_Nw w U) ∧ jZ U U.heap (va_A w0 sz))) (jQc D T P (va_A w0 sz)) rm.cells rm.slots (va_A w0 sz)
theorem cmh_of {l : Launch} {D : va_G} {T : List (ClassId × FieldType)} {y : MethodName} {cc : ByteArray} {maxL : Nat} {ret : Option FieldType} {hh : List (Nat × Nat × Nat × Nat)} {rm : Room} {av : List Value} {w0 : va_W} {P : Option Value → va_W → Prop} (own : String) (hown0 : y.cls = own) (hy : plainName y.cls = true) (hav : (lg_sl av).length ≤ maxL)
    (body : ∀ X : jX, jOK X l D T cc own ret rm maxL → jEnd X P rm.cells rm.slots → jTB X hh → J X 0 0 w0 0 (lv_args 0 av) []) : cmh l D T y cc maxL ret hh rm av w0 P := by
  intro sz
  refine va_MetW (cc := cc) (maxL := maxL) (ret := ret) (hh := hh) hy rfl ?_
  intro p e s m args below meth c s₁ B hml hv
  obtain ⟨rfl, hsz, hP, hK, hD0, hN, hZ⟩ := hv
  have hts := atoms_spec (ws := Cond.codeWith y cc maxL ret hh :: GW) B.pre
  have htb := vx_table (x := y) B (hts _ List.mem_cons_self)
  subst hsz
  have hD := hD0.self (sz := s.heap.size)
  rw [lg_entry_eq]
  exact body (p, l, e, rm, s, m, av.toArray, below, meth, c, D, T, va_A w0 s.heap.size, maxL, MQ below (jQc D T P (va_A w0 s.heap.size)) av.toArray s rm.cells rm.slots (va_A w0 s.heap.size))
    ⟨B.exec, B.bytes, ⟨rfl, rfl, rfl, rfl, rfl⟩, B.returns, by rw [← hown0]; exact findClass_of_methodNamed B.named, fun w hw => hts w (List.mem_cons_of_mem _ hw), fun w hw => va_Nw.use (nw_onTables w hw) (hN w hw), hK, fun q h => Or.inr h, hml, B.notSynchronized, hZ⟩ rfl htb
    s.heap [] _ hP hD va_S.rf (lv_entry av hav)
/-- the handler of an exception of class E that comes at pc: the first row of the table that takes it -/
def jH (own : String) (hh : List (Nat × Nat × Nat × Nat)) (pc : Nat) (E : String) (hpc : Nat) : Prop :=
  ∃ (pre : List ExceptionTableEntry) (x : ExceptionTableEntry) (suf : List ExceptionTableEntry) (name : String), tableOf hh = pre ++ x :: suf ∧ (∀ z ∈ pre, z.catchType ≠ 0 ∧ ∃ nm : String, Cond.classLink own z.catchType nm ∈ GW ∧ (E, nm) ∈ jNcs) ∧ covers x pc = true ∧ x.catchType ≠ 0 ∧ Cond.classLink own x.catchType name ∈ GW ∧ Cond.castable E name ∈ NW ∧ x.handlerPc = hpc
theorem jifp {α : Type} {c : Prop} {i : Decidable c} {F G : Option α} {o : Option α} (h : (@ite (Option α) c i F G) = o) (hc : c) : F = o := by rw [if_pos hc] at h; exact h
theorem jifn {α : Type} {c : Prop} {i : Decidable c} {F G : Option α} {o : Option α} (h : (@ite (Option α) c i F G) = o) (hc : ¬ c) : G = o := by rw [if_neg hc] at h; exact h
section JCatch
variable {X : jX} {l0 : Launch} {D0 : va_G} {T0 : List (ClassId × FieldType)} {cc : ByteArray} {own : String} {rt : Option FieldType} {rm : Room} {nL : Nat} {a b : Nat} {ws : va_W} {pc : Nat} {ls : List (Nat × Value)} {st : List Value}
variable {y : MethodName} {bytes : ByteArray} {maxL : Nat} {ret : Option FieldType} {rc : Room} {As : List Value} {wc : va_W} {P : Option Value → va_W → Prop} {PX : String → va_W → Prop} {index n9 mc ms : Nat} {hh : List (Nat × Nat × Nat × Nat)}
theorem j_callVXC {o : Nat} {C : String} (h : jOK X l0 D0 T0 cc own rt rm nL) (htb : jTB X hh) (hc : cx l0 D0 T0 y bytes maxL ret rc (.ref o :: As) wc P PX) (m1 : Cond.methodLink own index y ∈ GW) (m2 : Cond.instanceMethod y ∈ GW) (m3 : Cond.selects C y y ∈ GW) (m4 : Cond.initialized y.cls ∈ GW) (m5 : Cond.code y bytes maxL ret ∈ GW) (hn : As.length = n9) (hg : jGo y n9 maxL rc rm)
    (q0 : Nat) {ci : Nat} {fs : List Value} {qc : vw_C} (he : wc[q0]? = some (o, .inr (ci, fs))) (hq : vwCl[ci]? = some qc) (hqc : qc.1 = C) (d : decode cc pc = .ok (.invokevirtual index, 3)) (hst : (st.map fun v => v.category).sum ≤ 8) (hf : a + rc.cells ≤ rm.cells ∧ b + rc.slots ≤ rm.slots)
    (fr : va_W → va_W) (hfr : jFr fr) (hw : ws = fr wc) {st0 : List Value} (hs0 : st0 = As.reverse ++ .ref o :: st)
    (kx : ∀ E w, PX E w → ∃ (w2 : va_W) (hpc : Nat), w2.Perm (fr w) ∧ jH own hh pc E hpc ∧ ∀ q : Nat, J X (a + rc.cells) (b + rc.slots) w2 hpc ls [.ref q])
    (kk : ∀ v w, P v w → J X (a + rc.cells) (b + rc.slots) (fr w) (pc + 3) ls (v.toList ++ st)) : J X a b ws pc ls st0 := by
  obtain ⟨p, l, e, R, s, m, args, below, meth, c, D, T, A, nL1, Q⟩ := X
  obtain ⟨hx, hb, ⟨rfl, rfl, rfl, rfl, rfl⟩, hr, hown, hts, hnw, hK, hA, hml, hlocks, hZ⟩ := h
  obtain ⟨pre, post, hpp⟩ := hfr
  subst hw hs0 hn
  intro H locs sl hP hD hS hv
  rw [hpp] at hP hD
  refine jcallx_core (vx_runV (As := As) (rest := st) (n := As.length) ⟨hx, hb, hml, hown, hts⟩ (hc H.size) (⟨callB_of As.length hts (gw_sub (w1 := Cond.code y bytes maxL ret) m5) rfl rfl rfl (hts _ m4) (hts _ m1) hg.1 hg.2, hts _ m2, hts _ m3⟩) ⟨cx_blind, by
    have := va_recv (q := qc) hK (jP_mid hP) hq he
    rw [hqc] at this
    exact this, fun U hU hW => ⟨rfl, by rw [hU], by rw [hU]; exact jP_mid hP, va_K.moved hW.alike hK, (jD_mid hD).weaken (fun _ _ _ _ => trivial), fun w hw => nw_warm w hw hW (va_Nw.of (nw_onTables w hw) (hnw w hw)), by rw [hU]; exact ((hZ.kept hS.2.1).narrow (jA_mid hD hS hA)).warm hW⟩⟩ rfl rfl hv.1 rfl (lv_room hst) d hf) hP hD hS hA
    (fun E w H1 locs1 ce q9 hp h1 h2 h3 hce hcv hcl => by
      obtain ⟨w2, hpc, k1, ⟨pre2, x, suf, name, t1, t2, t3, t4, t5, t6, t7⟩, kj⟩ := kx E w hp
      rw [hpp] at k1
      subst t7
      exact vx_catch hown pre2 x suf (by rw [← t1]; exact htb) (fun z hz => Or.inr (by
        obtain ⟨z1, nm, z2, z3⟩ := t2 z hz
        exact ⟨z1, nm, hts _ z2, hZ.2.2.2.2.2.2.2.2 _ z3⟩)) t3 t4 (hts _ t5) (hnw _ t6) hce hcv hcl (kj q9 H1 locs1 sl (jP_perm (fun z hz => k1.subset hz) h1) (jD_perm k1 h2) h3 hv))
    (fun v w H1 locs1 hp h1 h2 h3 => kk v w hp H1 locs1 sl (by rw [hpp]; exact h1) (by rw [hpp]; exact h2) h3 hv)
theorem j_callSW (h : jOK X l0 D0 T0 cc own rt rm nL) (hc : cmh l0 D0 T0 y bytes maxL ret hh rc As wc P) (m1 : Cond.methodLink own index y ∈ GW) (m2 : Cond.static y ∈ GW) (m4 : Cond.initialized y.cls ∈ GW) (m5 : Cond.codeWith y bytes maxL ret hh ∈ GW) (hn : As.length = n9) (hg : jGo y n9 maxL rc rm)
    (d : decode cc pc = .ok (.invokestatic index, 3)) (hst : (st.map fun v => v.category).sum ≤ 8) (hf : a + rc.cells ≤ rm.cells ∧ b + rc.slots ≤ rm.slots)
    (fr : va_W → va_W) (hfr : jFr fr) (hw : ws = fr wc) {st0 : List Value} (hs0 : st0 = As.reverse ++ st)
    (kk : ∀ v w, P v w → J X (a + rc.cells) (b + rc.slots) (fr w) (pc + 3) ls (v.toList ++ st)) : J X a b ws pc ls st0 := by
  obtain ⟨p, l, e, R, s, m, args, below, meth, c, D, T, A, nL1, Q⟩ := X
  obtain ⟨hx, hb, ⟨rfl, rfl, rfl, rfl, rfl⟩, hr, hown, hts, hnw, hK, hA, hml, hlocks, hZ⟩ := h
  obtain ⟨pre, post, hpp⟩ := hfr
  subst hw hs0 hn
  intro H locs sl hP hD hS hv
  rw [hpp] at hP hD
  have hG : GoodIn GW (Cond.codeWith y bytes maxL ret hh :: GW) := by
    intro w hw
    rcases List.mem_cons.mp hw with rfl | hw
    · exact ⟨m5, good_of_word (gw_good _ m5)⟩
    · exact ⟨hw, good_of_word (gw_good _ hw)⟩
  refine jcall_core (vx_runSW (hh := hh) (As := As) (rest := st) (n := As.length) ⟨hx, hb, hml, hown, hts⟩ (hc H.size) ⟨⟨rfl, rfl, hg.2.1, hg.2.2, pay_in hts hG, List.mem_cons_self⟩, hts _ m5, hts _ m4, ⟨hg.1.1, hg.1.2.1⟩, fun sig hs => by
    have h2 := hg.1.2.2
    rw [hs] at h2
    exact (Option.some.inj h2).symm, hts _ m1, hts _ m2⟩ ⟨cm_blind, fun U hU hW => ⟨rfl, by rw [hU], by rw [hU]; exact jP_mid hP, va_K.moved hW.alike hK, (jD_mid hD).weaken (fun _ _ _ _ => trivial), fun w hw => nw_warm w hw hW (va_Nw.of (nw_onTables w hw) (hnw w hw)), by rw [hU]; exact ((hZ.kept hS.2.1).narrow (jA_mid hD hS hA)).warm hW⟩⟩ rfl rfl hv.1 rfl (lv_room hst) d hf) hP hD hS hA (fun v w H1 locs1 hp h1 h2 h3 => kk v w hp H1 locs1 sl (by rw [hpp]; exact h1) (by rw [hpp]; exact h2) h3 hv)
theorem j_last {α : Type} {G : Option α} {o9 : α} (h : jOK X l0 D0 T0 cc own rt rm nL) {ad n : Nat} {cA : ClassId} {f : Nat → Int64} {i : Int32} {x : Int64} (ws' : va_W) (d : decode cc pc = .ok (.lastore, 1)) (q0 t0 : Nat) (ha : ws[q0]? = some (ad, .inl (cA, n, .inr (.inl f)))) (ht : T0[t0]? = some (cA, .long)) (hw : ws.set q0 (ad, .inl (cA, n, .inr (.inl (vp_updL f i.toNatClampNeg x)))) = ws') (hf : (if jin i n = true then G else none) = some o9)
    (kk : jin i n = true → G = some o9 → J X a b ws' (pc + 1) ls st) : J X a b ws pc ls (.long x :: .int i :: .ref ad :: st) := by
  obtain ⟨p, l, e, R, s, m, args, below, meth, c, D, T, A, nL1, Q⟩ := X
  obtain ⟨hx, hb, ⟨rfl, rfl, rfl, rfl, rfl⟩, hr, hown, hts, hnw, hK, hA, hml, hlocks, hZ⟩ := h
  subst hw
  exact fun H locs sl hP hD hS hv => va_last hx hb hK hP hD hS q0 t0 ha ht (jin_in (jif hf).1) d (fun H1 locs1 hP hD hS => kk (jif hf).1 (jif hf).2 H1 locs1 sl hP hD hS hv)
theorem j_lald {α : Type} {G : Option α} {o9 : α} (h : jOK X l0 D0 T0 cc own rt rm nL) {ad n : Nat} {cA : ClassId} {f : Nat → Int64} {i : Int32} (d : decode cc pc = .ok (.laload, 1)) (q0 t0 : Nat) (ha : ws[q0]? = some (ad, .inl (cA, n, .inr (.inl f)))) (ht : T0[t0]? = some (cA, .long)) (hf : (if jin i n = true then G else none) = some o9)
    (kk : jin i n = true → G = some o9 → J X a b ws (pc + 1) ls (.long (f i.toNatClampNeg) :: st)) : J X a b ws pc ls (.int i :: .ref ad :: st) := by
  obtain ⟨p, l, e, R, s, m, args, below, meth, c, D, T, A, nL1, Q⟩ := X
  obtain ⟨hx, hb, ⟨rfl, rfl, rfl, rfl, rfl⟩, hr, hown, hts, hnw, hK, hA, hml, hlocks, hZ⟩ := h
  exact fun H locs sl hP hD hS hv => va_lald hx hb hK hP q0 t0 ha ht (jin_in (jif hf).1) d (kk (jif hf).1 (jif hf).2 H locs sl hP hD hS hv)
end JCatch

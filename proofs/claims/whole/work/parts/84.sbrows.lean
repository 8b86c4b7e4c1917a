theorem qSup : Cond.superclass RJ4 "java/lang/AbstractStringBuilder" ∈ GW := gw2 (List.mem_of_getElem? (i := 57) (by decide +kernel)) rfl
theorem qSm_J5_isLatin1_aae02 : Cond.sameMethod yJ5_isLatin1_aae02.cls yJ5_isLatin1_aae02.cls yJ5_isLatin1_aae02.name yJ5_isLatin1_aae02.desc ∈ GW := gw6 (List.mem_of_getElem? (i := 162) (by decide +kernel)) rfl
theorem qSm_J5_length_8abf5 : Cond.sameMethod yJ5_length_8abf5.cls yJ5_length_8abf5.cls yJ5_length_8abf5.name yJ5_length_8abf5.desc ∈ GW := gw7 (List.mem_of_getElem? (i := 38) (by decide +kernel)) rfl
theorem qSm_J5_setLength_d00df : Cond.sameMethod yJ5_setLength_d00df.cls yJ5_setLength_d00df.cls yJ5_setLength_d00df.name yJ5_setLength_d00df.desc ∈ GW := gw10 (List.mem_of_getElem? (i := 152) (by decide +kernel)) rfl
theorem qSm_J5_ensureCapacityInternal_d00df : Cond.sameMethod yJ5_ensureCapacityInternal_d00df.cls yJ5_ensureCapacityInternal_d00df.cls yJ5_ensureCapacityInternal_d00df.name yJ5_ensureCapacityInternal_d00df.desc ∈ GW := gw10 (List.mem_of_getElem? (i := 155) (by decide +kernel)) rfl
theorem qSm_J5_newCapacity_0f7a4 : Cond.sameMethod yJ5_newCapacity_0f7a4.cls yJ5_newCapacity_0f7a4.cls yJ5_newCapacity_0f7a4.name yJ5_newCapacity_0f7a4.desc ∈ GW := gw10 (List.mem_of_getElem? (i := 156) (by decide +kernel)) rfl
theorem qSm_J5_append_c97b9 : Cond.sameMethod yJ5_append_c97b9.cls yJ5_append_c97b9.cls yJ5_append_c97b9.name yJ5_append_c97b9.desc ∈ GW := gw10 (List.mem_of_getElem? (i := 160) (by decide +kernel)) rfl
theorem qSm_J5_append_3fe6f : Cond.sameMethod yJ5_append_3fe6f.cls yJ5_append_3fe6f.cls yJ5_append_3fe6f.name yJ5_append_3fe6f.desc ∈ GW := gw10 (List.mem_of_getElem? (i := 161) (by decide +kernel)) rfl
theorem qSm_J5_charAt_5068e : Cond.sameMethod yJ5_charAt_5068e.cls yJ5_charAt_5068e.cls yJ5_charAt_5068e.name yJ5_charAt_5068e.desc ∈ GW := gw10 (List.mem_of_getElem? (i := 163) (by decide +kernel)) rfl
section JSb
variable {X : jX} {l0 : Launch} {D0 : va_G} {T0 : List (ClassId × FieldType)} {cc : ByteArray} {own : String} {rt : Option FieldType} {rm : Room} {nL : Nat} {a b : Nat} {ws : va_W} {pc : Nat} {ls : List (Nat × Value)} {st : List Value}
variable {y : MethodName} {bytes : ByteArray} {maxL : Nat} {ret : Option FieldType} {rc : Room} {As : List Value} {wc : va_W} {P : Option Value → va_W → Prop} {index n9 : Nat}
/-- a method of a superclass, named by that class -/
theorem j_callU {o : Nat} {C : String} (h : jOK X l0 D0 T0 cc own rt rm nL) (hc : cm l0 D0 T0 y bytes maxL ret rc (.ref o :: As) wc P) (m1 : Cond.methodLink own index y ∈ GW) (m2 : Cond.instanceMethod y ∈ GW) (m3 : Cond.selects C y y ∈ GW ∨ ∀ U H A, jZ U H A → va_Nw (Cond.selects C y y) U) (m4 : Cond.initialized y.cls ∈ GW) (m5 : Cond.code y bytes maxL ret ∈ GW) (m6 : Cond.sameMethod y.cls y.cls y.name y.desc ∈ GW) (hn : As.length = n9) (hg : jGo y n9 maxL rc rm)
    (q0 : Nat) {ci : Nat} {fs : List Value} {qc : vw_C} (he : wc[q0]? = some (o, .inr (ci, fs))) (hq : vwCl[ci]? = some qc) (hqc : qc.1 = C) (d : decode cc pc = .ok (.invokevirtual index, 3)) (hst : (st.map fun v => v.category).sum ≤ 8) (hf : a + rc.cells ≤ rm.cells ∧ b + rc.slots ≤ rm.slots)
    (fr : va_W → va_W) (hfr : jFr fr) (hw : ws = fr wc) {st0 : List Value} (hs0 : st0 = As.reverse ++ .ref o :: st)
    (kk : ∀ v w, P v w → J X (a + rc.cells) (b + rc.slots) (fr w) (pc + 3) ls (v.toList ++ st)) : J X a b ws pc ls st0 := by
  obtain ⟨p, l, e, R, s, m, args, below, meth, c, D, T, A, nL1, Q⟩ := X
  obtain ⟨hx, hb, ⟨rfl, rfl, rfl, rfl, rfl⟩, hr, hown, hts, hnw, hK, hA, hml, hlocks, hZ⟩ := h
  obtain ⟨pre, post, hpp⟩ := hfr
  subst hw hs0 hn
  intro H locs sl hP hD hS hv
  rw [hpp] at hP hD
  have hsel : (Cond.selects C y y).before args s = true := by
    rcases m3 with m3 | m3
    · exact hts _ m3
    · exact va_Nw.use jsel_on (m3 _ _ _ hZ)
  have hlen : ∀ sig, parseMethodDescriptor y.desc = some sig → As.length = sig.parameters.length := fun sig h9 => by
    have h2 := hg.1.2.2
    rw [h9] at h2
    exact (Option.some.inj h2).symm
  refine jcall_core (va_runU (x := y) (owner := y.cls) (As := As) (rest := st) (n := As.length) ⟨hx, hb, hml, hown, hts⟩ (hc H.size) ⟨⟨rfl, rfl, hg.2.1, hg.2.2, pay_in hts (gw_sub (w1 := Cond.code y bytes maxL ret) m5), List.mem_cons_self⟩, hts _ m5, hts _ m4, ⟨hg.1.1, hg.1.2.1⟩, hlen, hts _ m1, hts _ m6, va_Decl.of (hts _ m2) (hts _ m5), hsel, hts _ m2⟩ ⟨cm_blind, by
    have := va_recv (q := qc) hK (jP_mid hP) hq he
    rw [hqc] at this
    exact this, fun U hU hW => ⟨rfl, by rw [hU], by rw [hU]; exact jP_mid hP, va_K.moved hW.alike hK, (jD_mid hD).weaken (fun _ _ _ _ => trivial), fun w hw => nw_warm w hw hW (va_Nw.of (nw_onTables w hw) (hnw w hw)), by rw [hU]; exact ((hZ.kept hS.2.1).narrow (jA_mid hD hS hA)).warm hW⟩⟩ rfl rfl hv.1 rfl (lv_room hst) d hf) hP hD hS hA (fun v w H1 locs1 hp h1 h2 h3 => kk v w hp H1 locs1 sl (by rw [hpp]; exact h1) (by rw [hpp]; exact h2) h3 hv)
/-- super.m(..) -/
theorem j_callSU {o : Nat} {C : String} (h : jOK X l0 D0 T0 cc own rt rm nL) (hc : cm l0 D0 T0 y bytes maxL ret rc (.ref o :: As) wc P) (m1 : Cond.methodLink own index y ∈ GW) (m2 : Cond.instanceMethod y ∈ GW) (m3 : Cond.superclass own y.cls ∈ GW) (m4 : Cond.initialized y.cls ∈ GW) (m5 : Cond.code y bytes maxL ret ∈ GW) (m6 : Cond.sameMethod y.cls y.cls y.name y.desc ∈ GW) (hno : y.name ≠ "<init>") (hn : As.length = n9) (hg : jGo y n9 maxL rc rm)
    (q0 : Nat) {ci : Nat} {fs : List Value} {qc : vw_C} (he : wc[q0]? = some (o, .inr (ci, fs))) (hq : vwCl[ci]? = some qc) (hqc : qc.1 = C) (d : decode cc pc = .ok (.invokespecial index, 3)) (hst : (st.map fun v => v.category).sum ≤ 8) (hf : a + rc.cells ≤ rm.cells ∧ b + rc.slots ≤ rm.slots)
    (fr : va_W → va_W) (hfr : jFr fr) (hw : ws = fr wc) {st0 : List Value} (hs0 : st0 = As.reverse ++ .ref o :: st)
    (kk : ∀ v w, P v w → J X (a + rc.cells) (b + rc.slots) (fr w) (pc + 3) ls (v.toList ++ st)) : J X a b ws pc ls st0 := by
  obtain ⟨p, l, e, R, s, m, args, below, meth, c, D, T, A, nL1, Q⟩ := X
  obtain ⟨hx, hb, ⟨rfl, rfl, rfl, rfl, rfl⟩, hr, hown, hts, hnw, hK, hA, hml, hlocks, hZ⟩ := h
  obtain ⟨pre, post, hpp⟩ := hfr
  subst hw hs0 hn
  intro H locs sl hP hD hS hv
  rw [hpp] at hP hD
  have hlen : ∀ sig, parseMethodDescriptor y.desc = some sig → As.length = sig.parameters.length := fun sig h9 => by
    have h2 := hg.1.2.2
    rw [h9] at h2
    exact (Option.some.inj h2).symm
  have hat := (hK.1 ci qc hq).2
  rw [hqc] at hat
  refine jcall_core (va_runSU (As := As) (rest := st) (n := As.length) hat ⟨hx, hb, hml, hown, hts⟩ (hc H.size) ⟨⟨rfl, rfl, hg.2.1, hg.2.2, pay_in hts (gw_sub (w1 := Cond.code y bytes maxL ret) m5), List.mem_cons_self⟩, hts _ m1, hts _ m6, hts _ m3, hts _ m2, hts _ m4, hts _ m5, hno, hlen⟩ ⟨cm_blind, by
    have := va_recv (q := qc) hK (jP_mid hP) hq he
    rw [hqc] at this
    exact this, fun U hU hW => ⟨rfl, by rw [hU], by rw [hU]; exact jP_mid hP, va_K.moved hW.alike hK, (jD_mid hD).weaken (fun _ _ _ _ => trivial), fun w hw => nw_warm w hw hW (va_Nw.of (nw_onTables w hw) (hnw w hw)), by rw [hU]; exact ((hZ.kept hS.2.1).narrow (jA_mid hD hS hA)).warm hW⟩⟩ rfl rfl hv.1 rfl (lv_room hst) d hf) hP hD hS hA (fun v w H1 locs1 hp h1 h2 h3 => kk v w hp H1 locs1 sl (by rw [hpp]; exact h1) (by rw [hpp]; exact h2) h3 hv)
theorem j_bast {α : Type} {G : Option α} {o9 : α} (h : jOK X l0 D0 T0 cc own rt rm nL) {ad n : Nat} {cA : ClassId} {f : Nat → Int32} {i x : Int32} (ws' : va_W) (d : decode cc pc = .ok (.bastore, 1)) (q0 t0 : Nat) (ha : ws[q0]? = some (ad, .inl (cA, n, .inl f))) (ht : T0[t0]? = some (cA, .byte)) (hw : ws.set q0 (ad, .inl (cA, n, .inl (upd f i.toNatClampNeg (vp_nar .byte x)))) = ws') (hf : (if jin i n = true then G else none) = some o9)
    (kk : jin i n = true → G = some o9 → J X a b ws' (pc + 1) ls st) : J X a b ws pc ls (.int x :: .int i :: .ref ad :: st) := by
  obtain ⟨p, l, e, R, s, m, args, below, meth, c, D, T, A, nL1, Q⟩ := X
  obtain ⟨hx, hb, ⟨rfl, rfl, rfl, rfl, rfl⟩, hr, hown, hts, hnw, hK, hA, hml, hlocks, hZ⟩ := h
  subst hw
  exact fun H locs sl hP hD hS hv => va_bast hx hb hK hP hD hS q0 t0 ha ht (jin_in (jif hf).1) d (fun H1 locs1 hP hD hS => kk (jif hf).1 (jif hf).2 H1 locs1 sl hP hD hS hv)
theorem j_i2b (h : jOK X l0 D0 T0 cc own rt rm nL) {x : Int32} (d : decode cc pc = .ok (.i2b, 1))
    (kk : J X a b ws (pc + 1) ls (.int x.toInt8.toInt32 :: st)) : J X a b ws pc ls (.int x :: st) := by
  obtain ⟨p, l, e, R, s, m, args, below, meth, c, D, T, A, nL1, Q⟩ := X
  obtain ⟨hx, hb, ⟨rfl, rfl, rfl, rfl, rfl⟩, hr, hown, hts, hnw, hK, hA, hml, hlocks, hZ⟩ := h
  exact fun H locs sl hP hD hS hv => lv_i2b hx hb d rfl (kk H locs sl hP hD hS hv)
theorem j_copyb (h : jOK X l0 D0 T0 cc own rt rm nL) (ws' : va_W) (m1 : Cond.methodLink own index arraycopyName ∈ GW) {sp dp n : Int32} {a0 a1 n0 n1 : Nat} {c0 c1 : ClassId} {f g : Nat → Int32} (d : decode cc pc = .ok (.invokestatic index, 3)) (q0 q1 t0 : Nat) (ha0 : ws[q0]? = some (a0, .inl (c0, n0, .inl f))) (ha1 : ws[q1]? = some (a1, .inl (c1, n1, .inl g))) (ht0 : T0[t0]? = some (c0, .byte)) (ht1 : T0[t0]? = some (c1, .byte))
    (hw : ws.set q1 (a1, .inl (c1, n1, .inl (va_cpy f g sp.toNatClampNeg dp.toNatClampNeg n.toNatClampNeg))) = ws') (hc : jcp sp dp n n0 n1 = true) (hfit : ∀ i, i < n.toNatClampNeg → fits .byte (.int (f (sp.toNatClampNeg + i))) = true) (hst : (st.map fun v => v.category).sum ≤ 8) (hrm : 1 ≤ rm.frames ∧ 8 + (nativeFrameWords "java/lang/System" "arraycopy" 5 + 11) ≤ rm.locals)
    (kk : J X a b ws' (pc + 3) ls st) : J X a b ws pc ls (.int n :: .int dp :: .ref a1 :: .int sp :: .ref a0 :: st) := by
  obtain ⟨p, l, e, R, s, m, args, below, meth, c, D, T, A, nL1, Q⟩ := X
  obtain ⟨hx, hb, ⟨rfl, rfl, rfl, rfl, rfl⟩, hr, hown, hts, hnw, hK, hA, hml, hlocks, hZ⟩ := h
  subst hw
  simp only [jcp, Bool.and_eq_true, decide_eq_true_eq] at hc
  obtain ⟨⟨⟨⟨h1, h2⟩, h3⟩, h4⟩, h5⟩ := hc
  exact fun H locs sl hP hD hS hv => va_copyi hx hb (by rw [hml]; exact hv.1.symm) hown (hts _ m1) (hts _ q210) (hts _ q209) (hts _ q21) hK hP hD hS q0 q1 t0 t0 ha0 ha1 ht0 ht1 rfl h1 h2 h3 h4 h5 hfit hrm.1 (by omega) d (fun H1 locs1 hP hD hS => kk H1 locs1 sl hP hD hS hv)
/-- a static table of bytes -/
theorem j_tab (h : jOK X l0 D0 T0 cc own rt rm nL) {C n0 d0 : String} {N : Nat} {f : Nat → Value} (hZ0 : ∀ U H A, jZ U H A → ∃ z : Nat, va_Z C n0 d0 (.ref z) A U H ∧ va_T .byte z N f A U H) (m1 : Cond.fieldLink own index C n0 d0 ∈ GW) (d : decode cc pc = .ok (.getstatic index, 3))
    (kk : ∀ z : Nat, jXz X (jTab z N f) → J X a b ws (pc + 3) ls (.ref z :: st)) : J X a b ws pc ls st := by
  obtain ⟨p, l, e, R, s, m, args, below, meth, c, D, T, A, nL1, Q⟩ := X
  obtain ⟨hx, hb, ⟨rfl, rfl, rfl, rfl, rfl⟩, hr, hown, hts, hnw, hK, hA, hml, hlocks, hZ⟩ := h
  obtain ⟨z, hz1, hz2⟩ := hZ0 _ _ _ hZ
  exact fun H locs sl hP hD hS hv => va_gets hx hb hz1 hS hown (hts _ m1) (fun _ h9 => h9) d (kk z hz2 H locs sl hP hD hS hv)
theorem j_tabld (h : jOK X l0 D0 T0 cc own rt rm nL) {α : Type} {G : Option α} {o : α} {z N : Nat} {f : Nat → Int32} (hz : jXz X (jTab z N (fun k => .int (f k)))) {i : Int32} (d : decode cc pc = .ok (.baload, 1)) (hf : (if jin i N = true then G else none) = some o)
    (kk : jin i N = true → G = some o → J X a b ws (pc + 1) ls (.int (f i.toNatClampNeg) :: st)) : J X a b ws pc ls (.int i :: .ref z :: st) :=
  j_zbald h hz (jin_in (jif hf).1) rfl d (kk (jif hf).1 (jif hf).2)
end JSb
theorem j_selE : ∀ U H A, jZ U H A → va_Nw (Cond.selects RJ4 yJ5_ensureCapacityInternal_d00df yJ5_ensureCapacityInternal_d00df) U := fun _ _ _ h => h.2.2.2.2.2.1.2.2.1
theorem j_selC : ∀ U H A, jZ U H A → va_Nw (Cond.selects RJ4 yJ5_newCapacity_0f7a4 yJ5_newCapacity_0f7a4) U := fun _ _ _ h => h.2.2.2.2.2.1.2.2.2
def jOnesI (k : Nat) : Int32 := Int32.ofNat (48 + k % 10)
def jTensI (k : Nat) : Int32 := Int32.ofNat (48 + k / 10)
theorem j_ones : ∀ U H A, jZ U H A → ∃ z : Nat, va_Z "java/lang/Integer" "DigitOnes" "[B" (.ref z) A U H ∧ va_T .byte z 100 (fun k => .int (jOnesI k)) A U H := fun _ _ _ h => h.2.1
theorem j_tens : ∀ U H A, jZ U H A → ∃ z : Nat, va_Z "java/lang/Integer" "DigitTens" "[B" (.ref z) A U H ∧ va_T .byte z 100 (fun k => .int (jTensI k)) A U H := fun _ _ _ h => h.2.2.1

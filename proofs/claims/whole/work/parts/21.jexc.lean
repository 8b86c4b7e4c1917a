/-! METHODS THAT MAY THROW. cx: the method returns as P says, or throws as PX says (the class by its name, the world behind it) -/
def jXC (D : va_G) (T : List (ClassId × FieldType)) (PX : String → va_W → Prop) (A : Nat → Prop) : String → State → State → Prop := fun E st t => (∃ w : va_W, PX E w ∧ va_P D vwCl w t.heap ∧ va_K D vwCl T t ∧ va_D A w) ∧ va_F A st t
def jEndX (X : jX) (P : Option Value → va_W → Prop) (PX : String → va_W → Prop) (mc ms : Nat) : Prop :=
  match X with
  | (p, l, e, R, s, m, args, below, meth, c, D, T, A, nL, Q) => Q = vx_MQ below (jQc D T P A) (jXC D T PX A) args s mc ms A
/-- no handlers -/
def jNT (X : jX) : Prop :=
  match X with
  | (p, l, e, R, s, m, args, below, meth, c, D, T, A, nL, Q) => ∀ x ∈ c.exceptionTable.toList, False
def cx (l : Launch) (D : va_G) (T : List (ClassId × FieldType)) (y : MethodName) (cc : ByteArray) (maxL : Nat) (ret : Option FieldType) (rm : Room) (av : List Value) (w0 : va_W) (P : Option Value → va_W → Prop) (PX : String → va_W → Prop) : Prop :=
  ∀ sz : Nat, vx_Met l y (Cond.code y cc maxL ret :: GW) rm (va_Pc av (fun U => U.heap.size = sz ∧ va_P D vwCl w0 U.heap ∧ va_K D vwCl T U ∧ va_D (fun _ => True) w0 ∧ (∀ w ∈ NW, va_Nw w U) ∧ jZ U U.heap (va_A w0 sz))) (jQc D T P (va_A w0 sz)) (jXC D T PX (va_A w0 sz)) rm.cells rm.slots (va_A w0 sz)
theorem cx_of {l : Launch} {D : va_G} {T : List (ClassId × FieldType)} {y : MethodName} {cc : ByteArray} {maxL : Nat} {ret : Option FieldType} {rm : Room} {av : List Value} {w0 : va_W} {P : Option Value → va_W → Prop} {PX : String → va_W → Prop} (own : String) (hown0 : y.cls = own) (hy : plainName y.cls = true) (hav : (lg_sl av).length ≤ maxL)
    (body : ∀ X : jX, jOK X l D T cc own ret rm maxL → jEndX X P PX rm.cells rm.slots → jNT X → J X 0 0 w0 0 (lv_args 0 av) []) : cx l D T y cc maxL ret rm av w0 P PX := by
  intro sz
  refine vx_ofW (cc := cc) (maxL := maxL) (ret := ret) hy rfl ?_
  intro p e s m args below meth c s₁ B hml hnt hv
  obtain ⟨rfl, hsz, hP, hK, hD0, hN, hZ⟩ := hv
  have hts := atoms_spec (ws := Cond.code y cc maxL ret :: GW) B.pre
  subst hsz
  have hD := hD0.self (sz := s.heap.size)
  rw [lg_entry_eq]
  exact body (p, l, e, rm, s, m, av.toArray, below, meth, c, D, T, va_A w0 s.heap.size, maxL, vx_MQ below (jQc D T P (va_A w0 s.heap.size)) (jXC D T PX (va_A w0 s.heap.size)) av.toArray s rm.cells rm.slots (va_A w0 s.heap.size))
    ⟨B.exec, B.bytes, ⟨rfl, rfl, rfl, rfl, rfl⟩, B.returns, by rw [← hown0]; exact findClass_of_methodNamed B.named, fun w hw => hts w (List.mem_cons_of_mem _ hw), fun w hw => va_Nw.use (nw_onTables w hw) (hN w hw), hK, fun q h => Or.inr h, hml, B.notSynchronized, hZ⟩ rfl hnt
    s.heap [] _ hP hD va_S.rf (lv_entry av hav)
/-- the words of a throw: the good ones stand in GW, the others in NW -/
def jTh (own : String) (ic : Nat) (cls : String) (names : List String) : Prop := (∀ w ∈ (vx_atS own ic cls names).filter goodWord, w ∈ GW) ∧ (∀ w ∈ (vx_atS own ic cls names).filter (fun w => !goodWord w), w ∈ NW) ∧ Bundle.fit cls = true ∧ ∀ n ∈ names, Bundle.fit n = true
section JXRows
variable {X : jX} {l0 : Launch} {D0 : va_G} {T0 : List (ClassId × FieldType)} {cc : ByteArray} {own : String} {rt : Option FieldType} {rm : Room} {nL : Nat} {a b : Nat} {ws : va_W} {pc : Nat} {ls : List (Nat × Value)} {st : List Value}
variable {P : Option Value → va_W → Prop} {PX : String → va_W → Prop} {mc ms : Nat} {ty : FieldType}
theorem jx_iret (h : jOK X l0 D0 T0 cc own (some .int) rm nL) (hE : jEndX X P PX mc ms) {v : Int32} (d : decode cc pc = .ok (.ireturn, 1)) (hk : a ≤ mc) (hn : b ≤ ms) (hp : P (some (.int v)) ws) : J X a b ws pc ls [.int v] := by
  obtain ⟨p, l, e, R, s, m, args, below, meth, c, D, T, A, nL1, Q⟩ := X
  obtain ⟨hx, hb, ⟨rfl, rfl, rfl, rfl, rfl⟩, hr, hown, hts, hnw, hK, hA, hml, hlocks, hZ⟩ := h
  subst hE
  exact fun H locs sl hP hD hS hv => vx_ret (W.widen hk hn (W.iret hx hb hr (fun t ht hW => ⟨⟨_, ws, rfl, hp, by rw [ht]; exact hP, va_K.moved hW.alike hK, hD⟩, hS.F ht⟩) hS.2.2 d hlocks))
theorem jx_zret (h : jOK X l0 D0 T0 cc own (some ty) rm nL) (hE : jEndX X P PX mc ms) {v : Int32} (hn0 : narrow ty (.int v) = .int v) (d : decode cc pc = .ok (.ireturn, 1)) (hk : a ≤ mc) (hn : b ≤ ms) (hp : P (some (.int v)) ws) : J X a b ws pc ls [.int v] := by
  obtain ⟨p, l, e, R, s, m, args, below, meth, c, D, T, A, nL1, Q⟩ := X
  obtain ⟨hx, hb, ⟨rfl, rfl, rfl, rfl, rfl⟩, hr, hown, hts, hnw, hK, hA, hml, hlocks, hZ⟩ := h
  subst hE
  exact fun H locs sl hP hD hS hv => vx_ret (W.widen hk hn (W.zret hx hb hr hn0 (fun t ht hW => ⟨⟨_, ws, rfl, hp, by rw [ht]; exact hP, va_K.moved hW.alike hK, hD⟩, hS.F ht⟩) hS.2.2 d hlocks))
theorem jx_vret (h : jOK X l0 D0 T0 cc own none rm nL) (hE : jEndX X P PX mc ms) (d : decode cc pc = .ok (.return_, 1)) (hk : a ≤ mc) (hn : b ≤ ms) (hp : P none ws) : J X a b ws pc ls [] := by
  obtain ⟨p, l, e, R, s, m, args, below, meth, c, D, T, A, nL1, Q⟩ := X
  obtain ⟨hx, hb, ⟨rfl, rfl, rfl, rfl, rfl⟩, hr, hown, hts, hnw, hK, hA, hml, hlocks, hZ⟩ := h
  subst hE
  exact fun H locs sl hP hD hS hv => vx_ret (W.widen hk hn (W.vret hx hb hr (fun t ht hW => ⟨⟨_, ws, rfl, hp, by rw [ht]; exact hP, va_K.moved hW.alike hK, hD⟩, hS.F ht⟩) hS.2.2 d hlocks))
/-- throw new cls("text") -/
theorem j_throwS {cls text : String} {names : List String} {ik is ic : Nat} (h : jOK X l0 D0 T0 cc own rt rm nL) (hE : jEndX X P PX mc ms) (hT : jNT X) (hl : l0.stackTraces = false) (hk0 : Cond.classLink own ik cls ∈ GW) (hini : Cond.initialized cls ∈ GW) (htx : (own, is, text) ∈ jTexts) (hat : jTh own ic cls names)
    (d0 : decode cc pc = .ok (.new ik, 3)) (d3 : decode cc (pc + 3) = .ok (.dup, 1)) (d4 : decode cc (pc + 4) = .ok (.ldc is, 2)) (d6 : decode cc (pc + 6) = .ok (.invokespecial ic, 3)) (d9 : decode cc (pc + 9) = .ok (.athrow, 1))
    (hst : (st.map fun v => v.category).sum ≤ 8) (hrm : names.length + 3 < rm.frames ∧ 8 + (13 * (names.length + 1) + 43) ≤ rm.locals) (hc : a + 1 ≤ rm.cells ∧ b + 6 ≤ rm.slots) (hm : a + 1 ≤ mc ∧ b + 6 ≤ ms) (hp : PX cls ws) : J X a b ws pc ls st := by
  obtain ⟨p, l, e, R, s, m, args, below, meth, c, D, T, A, nL1, Q⟩ := X
  obtain ⟨hx, hb, ⟨rfl, rfl, rfl, rfl, rfl⟩, hr, hown, hts, hnw, hK, hA, hml, hlocks, hZ⟩ := h
  subst hE
  obtain ⟨sa, hsa⟩ := hZ.2.2.2.2.2.2.1 _ htx
  have hB : ∀ w ∈ (vx_atS own ic cls names), w.before args s = true := vx_hat (fun w hw => hts w (hat.1 w hw)) (B := NW) hat.2.1 hnw
  have hgd : ∀ w ∈ vx_atS own ic cls names, vx_ot w = true := by
    intro w hw
    simp only [vx_ot, Bool.or_eq_true]
    by_cases g : goodWord w = true
    · exact Or.inr g
    · refine Or.inl (nw_onTables w (hat.2.1 w (List.mem_filter.mpr ⟨hw, ?_⟩)))
      cases hgw : goodWord w
      · rfl
      · exact absurd hgw g
  intro H locs sl hP hD hS hv
  refine vx_throwS hx hb hl hown hat.2.2.1 hat.2.2.2 (hts _ hk0) (hts _ hini) hsa hB ?_ hZ.2.2.2.1 hZ.2.2.2.2.1 hS (hv.1.trans hml.symm) d0 d3 d4 d6 d9 (fun x hx => (hT x hx).elim) hrm.1 (by omega) hc.1 hc.2 hlocks ?_ hS.2.2 hm.1 hm.2
  · intro w hw
    rcases List.mem_cons.mp hw with rfl | hw
    · simp only [vx_ot, Bool.or_eq_true]; exact Or.inr (gw_good _ hk0)
    · rcases List.mem_cons.mp hw with rfl | hw
      · simp only [vx_ot, Bool.or_eq_true]; exact Or.inr (gw_good _ hini)
      · exact hgd w hw
  · intro t hvm hz hk
    refine ⟨⟨ws, hp, ?_, va_K.moved hvm hK, hD⟩, Nat.le_trans hS.1 hz, fun q h1 h2 => ?_⟩
    · exact va_P.kept hP fun k q hq => hk q.1 (hP k q hq).lt
    · rw [hk q (Nat.lt_of_lt_of_le h1 hS.1)]
      exact hS.2.1 q h1 h2
end JXRows
section JXCall
variable {p : Program} {l : Launch} {e : Env} {R : Room} {s : State} {m : MethodId} {args : Array Value} {below : List Frame} {meth : Method} {c : Code} {H : Heap} {locs : List Loc} {k n : Nat} {Q : State → Prop}
variable {A : Nat → Prop} {D : va_G} {T : List (ClassId × FieldType)} {P : Option Value → va_W → Prop} {PX : String → va_W → Prop} {pre wc post : va_W} {mc ms pc : Nat} {sl : Array Slot} {st0 st : List Value} {aa : Array Value}
theorem jcallx_core (hr : vx_Run p l e R s m args below meth c H locs k n mc ms (F0 m pc sl st0) st (jQc D T P (va_A wc H.size) aa) (jXC D T PX (va_A wc H.size)) (va_A wc H.size)) (hP : va_P D vwCl (pre ++ (wc ++ post)) H) (hD : va_D A (pre ++ (wc ++ post))) (hS : va_S A s.heap H locs) (hA : ∀ q, s.heap.size ≤ q → A q)
    (kx : ∀ (E : String) (w : va_W) (H1 : Heap) (locs1 : List Loc) (ce : Cell) (q9 : Addr), PX E w → va_P D vwCl (pre ++ (w ++ post)) H1 → va_D A (pre ++ (w ++ post)) → va_S A s.heap H1 locs1 → H1[q9]? = some ce → ce.vm = .none → s.vm.findClass E = some ce.cls → vx_W p l e R s m args below meth c H1 locs1 (k + mc) (n + ms) Q (F0 m pc sl st) q9)
    (kk : ∀ (v : Option Value) (w : va_W) (H1 : Heap) (locs1 : List Loc), P v w → va_P D vwCl (pre ++ (w ++ post)) H1 → va_D A (pre ++ (w ++ post)) → va_S A s.heap H1 locs1 → W p l e R s m args below meth c H1 locs1 (k + mc) (n + ms) Q (F0 m (pc + 3) sl (v.toList ++ st))) : W p l e R s m args below meth c H locs k n Q (F0 m pc sl st0) := by
  intro U hU X
  have hF := jA_mid hD hS hA
  rcases hr U hU X with ⟨v, st₀, t, T', L, h0, X', hL, e1, e2, ⟨⟨v2, w, hv, hp, hPw, hKw, hDw⟩, hz, hk⟩, hst⟩ | ⟨q, st₀, t, T', L, E, ce, h0, X', hL, e1, e2, ⟨⟨w, hp, hPw, hKw, hDw⟩, hz, hk⟩, hce, hcv, hcl, hst⟩
  · cases hv
    rw [h0] at hz hk
    rw [← e1] at hPw hk hz
    obtain ⟨hP1, hD1⟩ := jJoin hP hD hk hF hPw hDw
    obtain ⟨t2, a1, b1⟩ := kk v w T'.heap (locs ++ L) hp hP1 hD1
      ⟨Nat.le_trans hS.1 hz, fun q h1 h2 => by
        rw [hk q (Nat.lt_of_lt_of_le h1 hS.1) (fun z => h2 (hF q z))]; exact hS.2.1 q h1 h2, fun q hq => by
        rcases List.mem_append.mp hq with h | h
        · exact hS.2.2 q h
        · exact hF _ (hL q h)⟩ T' rfl X'
    exact ⟨t2, hst t2 a1, b1⟩
  · rw [h0] at hz hk
    rw [← e1] at hPw hk hz hce
    obtain ⟨hP1, hD1⟩ := jJoin hP hD hk hF hPw hDw
    obtain ⟨t2, a1, b1⟩ := kx E w T'.heap (locs ++ L) ce q hp hP1 hD1
      ⟨Nat.le_trans hS.1 hz, fun q h1 h2 => by
        rw [hk q (Nat.lt_of_lt_of_le h1 hS.1) (fun z => h2 (hF q z))]; exact hS.2.1 q h1 h2, fun q hq => by
        rcases List.mem_append.mp hq with h | h
        · exact hS.2.2 q h
        · exact hF _ (hL q h)⟩ hce hcv hcl T' rfl X'
    exact ⟨t2, hst.trans a1, b1⟩
end JXCall
theorem cx_blind {D : va_G} {T : List (ClassId × FieldType)} {av : List Value} {w0 : va_W} {sz : Nat} : FrameBlind (va_Pc av (fun U => U.heap.size = sz ∧ va_P D vwCl w0 U.heap ∧ va_K D vwCl T U ∧ va_D (fun _ => True) w0 ∧ (∀ w ∈ NW, va_Nw w U) ∧ jZ U U.heap (va_A w0 sz))) := cm_blind
section JXCalls
variable {X : jX} {l0 : Launch} {D0 : va_G} {T0 : List (ClassId × FieldType)} {cc : ByteArray} {own : String} {rt : Option FieldType} {rm : Room} {nL : Nat} {a b : Nat} {ws : va_W} {pc : Nat} {ls : List (Nat × Value)} {st : List Value}
variable {y : MethodName} {bytes : ByteArray} {maxL : Nat} {ret : Option FieldType} {rc : Room} {As : List Value} {wc : va_W} {P Pm : Option Value → va_W → Prop} {PX PXm : String → va_W → Prop} {index n9 mc ms : Nat}
/-- a callee that may throw, called where nothing is caught -/
theorem j_callVX {o : Nat} {C : String} (h : jOK X l0 D0 T0 cc own rt rm nL) (hE : jEndX X Pm PXm mc ms) (hT : jNT X) (hc : cx l0 D0 T0 y bytes maxL ret rc (.ref o :: As) wc P PX) (m1 : Cond.methodLink own index y ∈ GW) (m2 : Cond.instanceMethod y ∈ GW) (m3 : Cond.selects C y y ∈ GW) (m4 : Cond.initialized y.cls ∈ GW) (m5 : Cond.code y bytes maxL ret ∈ GW) (hn : As.length = n9) (hg : jGo y n9 maxL rc rm)
    (q0 : Nat) {ci : Nat} {fs : List Value} {qc : vw_C} (he : wc[q0]? = some (o, .inr (ci, fs))) (hq : vwCl[ci]? = some qc) (hqc : qc.1 = C) (d : decode cc pc = .ok (.invokevirtual index, 3)) (hst : (st.map fun v => v.category).sum ≤ 8) (hf : a + rc.cells ≤ rm.cells ∧ b + rc.slots ≤ rm.slots) (hm : a + rc.cells ≤ mc ∧ b + rc.slots ≤ ms)
    (fr : va_W → va_W) (hfr : jFr fr) (hw : ws = fr wc) {st0 : List Value} (hs0 : st0 = As.reverse ++ .ref o :: st)
    (kx : ∀ E w, PX E w → ∃ w2, PXm E w2 ∧ w2.Perm (fr w))
    (kk : ∀ v w, P v w → J X (a + rc.cells) (b + rc.slots) (fr w) (pc + 3) ls (v.toList ++ st)) : J X a b ws pc ls st0 := by
  obtain ⟨p, l, e, R, s, m, args, below, meth, c, D, T, A, nL1, Q⟩ := X
  obtain ⟨hx, hb, ⟨rfl, rfl, rfl, rfl, rfl⟩, hr, hown, hts, hnw, hK, hA, hml, hlocks, hZ⟩ := h
  obtain ⟨pre, post, hpp⟩ := hfr
  subst hw hs0 hn hE
  intro H locs sl hP hD hS hv
  rw [hpp] at hP hD
  refine jcallx_core (vx_runV (As := As) (rest := st) (n := As.length) ⟨hx, hb, hml, hown, hts⟩ (hc H.size) (⟨callB_of As.length hts (gw_sub (w1 := Cond.code y bytes maxL ret) m5) rfl rfl rfl (hts _ m4) (hts _ m1) hg.1 hg.2, hts _ m2, hts _ m3⟩) ⟨cx_blind, by
    have := va_recv (q := qc) hK (jP_mid hP) hq he
    rw [hqc] at this
    exact this, fun U hU hW => ⟨rfl, by rw [hU], by rw [hU]; exact jP_mid hP, va_K.moved hW.alike hK, (jD_mid hD).weaken (fun _ _ _ _ => trivial), fun w hw => nw_warm w hw hW (va_Nw.of (nw_onTables w hw) (hnw w hw)), by rw [hU]; exact ((hZ.kept hS.2.1).narrow (jA_mid hD hS hA)).warm hW⟩⟩ rfl rfl hv.1 rfl (lv_room hst) d hf) hP hD hS hA
    (fun E w H1 locs1 ce q9 hp h1 h2 h3 hce hcv hcl => by
      obtain ⟨w2, k1, k2⟩ := kx E w hp
      rw [hpp] at k2
      exact vx_out (fun x hx => (hT x hx).elim) hlocks hce hcv hcl (fun t ht hvm => ⟨⟨w2, k1, by rw [ht]; exact jP_perm (fun z hz => k2.subset hz) h1, va_K.moved hvm hK, jD_perm k2 h2⟩, h3.F ht⟩) h3.2.2 hm.1 hm.2)
    (fun v w H1 locs1 hp h1 h2 h3 => kk v w hp H1 locs1 sl (by rw [hpp]; exact h1) (by rw [hpp]; exact h2) h3 hv)
end JXCalls

/-! the same two throws, the text by a wide index -/
section VGTW
variable {p : Program} {l : Launch} {e : Env} {R : Room} {s : State} {m : MethodId} {args : Array Value} {below : List Frame} {meth : Method} {c : Code} {H : Heap} {locs : List Loc} {cells slots : Nat}
variable {ls : Array Slot} {rest : List Value} {free : Addr → Prop} {Qc : Array Value → State → Outcome → State → Prop} {XC : String → State → State → Prop}
theorem vg_throwSW {cc : ByteArray} {pc : Nat} (hexec : p.tables.exec = Jvm.exec) (hb : c.code = cc) (hl : l.stackTraces = false) {own cls text : String} {Y1 : String} {names : List String} {b1 : ByteArray} {i1 ik is ic mc ms sa : Nat} {A : Nat → Prop}
    (hown : s.vm.findClass own = some m.cls) (hcls : Bundle.fit cls = true) (hY1 : Bundle.fit Y1 = true) (e0 : decode b1 0 = .ok (.aload_n 0, 1)) (e1 : decode b1 1 = .ok (.aload_n 1, 1)) (e2 : decode b1 2 = .ok (.invokespecial i1, 3)) (e5 : decode b1 5 = .ok (.return_, 1)) (hnames : ∀ n ∈ names, Bundle.fit n = true)
    (hk : (Cond.classLink own ik cls).before args s = true) (hini : (Cond.initialized cls).before args s = true) (hstr : vk_R own is text sa s) (hat : ∀ w ∈ jAtF own ic cls i1 b1 Y1 names, w.before args s = true)
    (hgood : ∀ w ∈ Cond.classLink own ik cls :: Cond.initialized cls :: jAtF own ic cls i1 b1 Y1 names, vx_ot w = true)
    (hU : vx_Zq Bundle.tN "UNASSIGNED_STACK" Bundle.steD A s s.heap) (hN : vx_Zq Bundle.tN "SUPPRESSED_SENTINEL" Bundle.listD A s s.heap) (hS : va_S A s.heap H locs) (hsize : ls.size = c.maxLocals)
    (d0 : decode cc pc = .ok (.new ik, 3)) (d3 : decode cc (pc + 3) = .ok (.dup, 1)) (d4 : decode cc (pc + 4) = .ok (.ldc_w is, 3)) (d7 : decode cc (pc + 7) = .ok (.invokespecial ic, 3)) (d10 : decode cc (pc + 10) = .ok (.athrow, 1))
    (hout : ∀ x ∈ c.exceptionTable.toList, covers x (pc + 10) = false)
    (hRframes : names.length + 4 < R.frames) (hRlocals : (rest.map fun v => v.category).sum + (13 * (names.length + 2) + 43) ≤ R.locals) (hRcells : cells + 1 ≤ R.cells) (hRslots : slots + 6 ≤ R.slots) (hlocks : meth.locks = false)
    (hx : ∀ t : State, s.vm.Alike t.vm → H.size ≤ t.heap.size → (∀ q : Nat, q < H.size → t.heap[q]? = H[q]?) → XC cls s t)
    (hf : ∀ z ∈ locs, free z.base) (hc : cells + 1 ≤ mc) (hs : slots + 6 ≤ ms) :
    W p l e R s m args below meth c H locs cells slots (vx_MQ below Qc XC args s mc ms free) (F0 m pc ls rest) := by
  intro T hT X
  have htr : e.platform.stackTraces = false := (show e.platform.stackTraces = l.stackTraces by rw [X.admits.platform]).trans hl
  have Y := vx_rebase X (R' := { frames := R.frames, locals := R.locals, cells := 1, slots := 6 }) (Nat.le_refl _) (Nat.le_refl _) hRcells hRslots
  obtain ⟨s', hA⟩ : ∃ z, z = (T.setVm s.vm).setFrames (.invoking m args :: below) := ⟨_, rfl⟩
  rw [← hA] at Y
  have hvm : s'.vm = s.vm := by rw [hA]; rfl
  have hhp : s'.heap = H := by rw [hA]; exact hT
  have hW0 : s.WarmedH s'.vm := by rw [hvm]; exact State.WarmedH.refl s
  have hat' : ∀ w ∈ jAtF own ic cls i1 b1 Y1 names, w.before args s' = true := fun w hw => vx_ot_at hW0 hvm.symm (hgood w (List.mem_cons_of_mem _ (List.mem_cons_of_mem _ hw))) (hat w hw)
  have hk' : (Cond.classLink own ik cls).before args s' = true := vx_ot_at hW0 hvm.symm (hgood _ List.mem_cons_self) hk
  have hini' : (Cond.initialized cls).before args s' = true := vx_ot_at hW0 hvm.symm (hgood _ (List.mem_cons_of_mem _ List.mem_cons_self)) hini
  have hU' : vx_Zq Bundle.tN "UNASSIGNED_STACK" Bundle.steD A s' s'.heap := by rw [hhp]; exact vx_Zq.moved hW0.alike (hU.kept hS.2.1)
  have hN' : vx_Zq Bundle.tN "SUPPRESSED_SENTINEL" Bundle.listD A s' s'.heap := by rw [hhp]; exact vx_Zq.moved hW0.alike (hN.kept hS.2.1)
  have h : ∀ w ∈ jAtG own ic cls i1 b1 Y1 names, w.before args s' = true := vx_own hat' (vx_isRefq hU'.1) (vx_isRefq hN'.1) hU'.2.word hN'.2.word
  have hown' : s'.vm.findClass own = some m.cls := by rw [hvm]; exact hown
  have hins : (Cond.instantiable cls 6).before args s' = true := h _ (by simp [jAtG])
  obtain ⟨vm₁, cX, kX, hfX, hkX, -, -, X₁, st1⟩ := Y.newCold hexec (own := own) (C := cls) (index := ik) (n := 6) hown' hk' hins hini'
    (g := F0 m pc ls rest) rfl (by rw [hb]; exact d0) (Nat.le_refl _) (Nat.le_refl _)
  generalize hT1 : (T.setVm vm₁).pushCell { cls := cX, slots := kX.instanceTypes.map defaultValue, vm := .none } = T1 at X₁ st1
  have hcat : (Value.ref T.heap.size).category = 1 := rfl
  have hcellA : T1.heap[T.heap.size]? = some (freshCell cX kX) := by rw [← hT1]; exact State.heap_pushCell_size _ _
  have d3' : decode c.code (pc + 3) = .ok (.dup, 1) := by rw [hb]; exact d3
  have d4' : decode c.code (pc + 4) = .ok (.ldc_w is, 3) := by rw [hb]; exact d4
  have hstr' : vk_R own is text sa s' := vk_R.warm hW0 hstr
  obtain ⟨U, hsteps, hrun, hend, hW, hsame, ce, hce, hOc, hOv⟩ := jg_ctorThrow X₁ hexec htr (own := own) (cls := cls) (names := names) (ic := ic) hown' hcls hY1 hnames e0 e1 e2 e5 h (fun x hx => nomatch hx) hfX hkX hcellA (by rw [hhp, hT]; exact Nat.le_refl _) (msg := .ref sa) rfl
    (g := { method := m, pc := pc + 7, locals := ls, stack := .ref sa :: .ref T.heap.size :: .ref T.heap.size :: rest, locked := none }) rfl hsize rfl rfl (rest := rest) rfl
    (by rw [hb]; exact d7) (by rw [hb]; exact d10) hout hRframes (by simp only [List.map_cons, List.sum_cons, hcat]; omega) hlocks
  obtain ⟨f1, f2⟩ := vx_frame hsame
  rw [hhp] at f1 f2
  have hWs : s.WarmedH U.vm := State.WarmedH.trans hW0 hW
  have hcl : s.vm.findClass cls = some ce.cls := by
    have h9 := hOc
    rw [hvm] at h9
    exact h9
  have hall : s.sameButNew ({ U with vm := s.vm } : State) locs mc ms := by
    subst hA
    obtain ⟨e1, e2⟩ := hsame
    rw [State.setFrames_setFrames] at e1
    have h2 : (T.setVm s.vm).sameButNew ({ U with vm := s.vm } : State) [] (0 + 1) (0 + 6) := ⟨e1, e2⟩
    have h3 := X.same.trans h2
    rw [List.append_nil] at h3
    exact h3.mono hc hs
  refine ⟨U, ?_, .threw T.heap.size, hrun, hend, Or.inr ⟨T.heap.size, rfl, cls, ce, locs, hx U hWs.alike f1 (fun q hq => f2 q hq (fun z hz => nomatch hz)), hce, hOv, hcl, hWs, hall, hf⟩⟩
  refine st1 _ ?_
  show Steps p.tables e below (T1.setTop { method := m, pc := pc + 3, locals := ls, stack := .ref T.heap.size :: rest, locked := none }) _
  jvm_step X₁.here [X₁.here.top, hexec, d3', Value.category]
  exact X₁.ldcStringW hexec (own := own) (text := text) (index := is) (a := sa) hown' hstr'.1 hstr'.2
    (g := { method := m, pc := pc + 4, locals := ls, stack := .ref T.heap.size :: .ref T.heap.size :: rest, locked := none }) rfl d4' _ hsteps
end VGTW
section JXRowsW
variable {X : jX} {l0 : Launch} {D0 : va_G} {T0 : List (ClassId × FieldType)} {cc : ByteArray} {own : String} {rt : Option FieldType} {rm : Room} {nL : Nat} {a b : Nat} {ws : va_W} {pc : Nat} {ls : List (Nat × Value)} {st : List Value}
variable {P : Option Value → va_W → Prop} {PX : String → va_W → Prop} {mc ms : Nat}
/-- throw new cls("text") -/
theorem j_throwSW {cls text : String} {names : List String} {ik is ic : Nat} (h : jOK X l0 D0 T0 cc own rt rm nL) (hE : jEndX X P PX mc ms) (hT : jNT X) (hl : l0.stackTraces = false) (hk0 : Cond.classLink own ik cls ∈ GW) (hini : Cond.initialized cls ∈ GW) (htx : (own, is, text) ∈ jTexts) (hat : jTh own ic cls names)
    (d0 : decode cc pc = .ok (.new ik, 3)) (d3 : decode cc (pc + 3) = .ok (.dup, 1)) (d4 : decode cc (pc + 4) = .ok (.ldc_w is, 3)) (d6 : decode cc (pc + 7) = .ok (.invokespecial ic, 3)) (d9 : decode cc (pc + 10) = .ok (.athrow, 1))
    (hst : (st.map fun v => v.category).sum ≤ 8) (hrm : names.length + 3 < rm.frames ∧ 8 + (13 * (names.length + 1) + 43) ≤ rm.locals) (hc : a + 1 ≤ rm.cells ∧ b + 6 ≤ rm.slots) (hm : a + 1 ≤ mc ∧ b + 6 ≤ ms) (hp : PX cls ws) : J X a b ws pc ls st := by
  obtain ⟨p, l, e, R, s, m, args, below, meth, c, D, T, A, nL1, Q⟩ := X
  obtain ⟨hx, hb, ⟨rfl, rfl, rfl, rfl, rfl⟩, hr, hown, hts, hnw, hK, hA, hml, hlocks, hZ⟩ := h
  subst hE
  obtain ⟨sa, hsa⟩ := hZ.2.2.2.2.2.2.1 _ htx
  have hB : ∀ w ∈ (vx_atS own ic cls names), w.before args s = true := vx_hat (fun w hw => hts w (hat.1 w hw)) (B := NW) hat.2.1 hnw
  have hgd : ∀ w ∈ vx_atS own ic cls names, vx_ot w = true := by
    intro w hw
    simp only [vx_ot, Bool.or_eq_true]
    by_cases g : goodWord w = true
    · exact Or.inr g
    · refine Or.inl (nw_onTables w (hat.2.1 w (List.mem_filter.mpr ⟨hw, ?_⟩)))
      cases hgw : goodWord w
      · rfl
      · exact absurd hgw g
  intro H locs sl hP hD hS hv
  refine vx_throwSW hx hb hl hown hat.2.2.1 hat.2.2.2 (hts _ hk0) (hts _ hini) hsa hB ?_ hZ.2.2.2.1 hZ.2.2.2.2.1 hS (hv.1.trans hml.symm) d0 d3 d4 d6 d9 (fun x hx => (hT x hx).elim) hrm.1 (by omega) hc.1 hc.2 hlocks ?_ hS.2.2 hm.1 hm.2
  · intro w hw
    rcases List.mem_cons.mp hw with rfl | hw
    · simp only [vx_ot, Bool.or_eq_true]; exact Or.inr (gw_good _ hk0)
    · rcases List.mem_cons.mp hw with rfl | hw
      · simp only [vx_ot, Bool.or_eq_true]; exact Or.inr (gw_good _ hini)
      · exact hgd w hw
  · intro t hvm hz hk
    refine ⟨⟨ws, hp, ?_, va_K.moved hvm hK, hD⟩, Nat.le_trans hS.1 hz, fun q h1 h2 => ?_⟩
    · exact va_P.kept hP fun k q hq => hk q.1 (hP k q hq).lt
    · rw [hk q (Nat.lt_of_lt_of_le h1 hS.1)]
      exact hS.2.1 q h1 h2
/-- throw new cls("text") -/
theorem j_throwGW {cls text Y1 : String} {names : List String} {b1 : ByteArray} {i1 ik is ic : Nat} (h : jOK X l0 D0 T0 cc own rt rm nL) (hE : jEndX X P PX mc ms) (hT : jNT X) (hl : l0.stackTraces = false) (hk0 : Cond.classLink own ik cls ∈ GW) (hini : Cond.initialized cls ∈ GW) (htx : (own, is, text) ∈ jTexts) (hat : jThG own ic cls i1 b1 Y1 names)
    (d0 : decode cc pc = .ok (.new ik, 3)) (d3 : decode cc (pc + 3) = .ok (.dup, 1)) (d4 : decode cc (pc + 4) = .ok (.ldc_w is, 3)) (d6 : decode cc (pc + 7) = .ok (.invokespecial ic, 3)) (d9 : decode cc (pc + 10) = .ok (.athrow, 1))
    (hst : (st.map fun v => v.category).sum ≤ 8) (hrm : names.length + 4 < rm.frames ∧ 8 + (13 * (names.length + 2) + 43) ≤ rm.locals) (hc : a + 1 ≤ rm.cells ∧ b + 6 ≤ rm.slots) (hm : a + 1 ≤ mc ∧ b + 6 ≤ ms) (hp : PX cls ws) : J X a b ws pc ls st := by
  obtain ⟨p, l, e, R, s, m, args, below, meth, c, D, T, A, nL1, Q⟩ := X
  obtain ⟨hx, hb, ⟨rfl, rfl, rfl, rfl, rfl⟩, hr, hown, hts, hnw, hK, hA, hml, hlocks, hZ⟩ := h
  subst hE
  obtain ⟨sa, hsa⟩ := hZ.2.2.2.2.2.2.1 _ htx
  have hB : ∀ w ∈ (jAtF own ic cls i1 b1 Y1 names), w.before args s = true := vx_hat (fun w hw => hts w (hat.1 w hw)) (B := NW) hat.2.1 hnw
  have hgd : ∀ w ∈ jAtF own ic cls i1 b1 Y1 names, vx_ot w = true := by
    intro w hw
    simp only [vx_ot, Bool.or_eq_true]
    by_cases g : goodWord w = true
    · exact Or.inr g
    · refine Or.inl (nw_onTables w (hat.2.1 w (List.mem_filter.mpr ⟨hw, ?_⟩)))
      cases hgw : goodWord w
      · rfl
      · exact absurd hgw g
  intro H locs sl hP hD hS hv
  refine vg_throwSW hx hb hl hown hat.2.2.1 hat.2.2.2.1 hat.2.2.2.2.2.1 hat.2.2.2.2.2.2.1 hat.2.2.2.2.2.2.2.1 hat.2.2.2.2.2.2.2.2 hat.2.2.2.2.1 (hts _ hk0) (hts _ hini) hsa hB ?_ hZ.2.2.2.1 hZ.2.2.2.2.1 hS (hv.1.trans hml.symm) d0 d3 d4 d6 d9 (fun x hx => (hT x hx).elim) hrm.1 (by omega) hc.1 hc.2 hlocks ?_ hS.2.2 hm.1 hm.2
  · intro w hw
    rcases List.mem_cons.mp hw with rfl | hw
    · simp only [vx_ot, Bool.or_eq_true]; exact Or.inr (gw_good _ hk0)
    · rcases List.mem_cons.mp hw with rfl | hw
      · simp only [vx_ot, Bool.or_eq_true]; exact Or.inr (gw_good _ hini)
      · exact hgd w hw
  · intro t hvm hz hk
    refine ⟨⟨ws, hp, ?_, va_K.moved hvm hK, hD⟩, Nat.le_trans hS.1 hz, fun q h1 h2 => ?_⟩
    · exact va_P.kept hP fun k q hq => hk q.1 (hP k q hq).lt
    · rw [hk q (Nat.lt_of_lt_of_le h1 hS.1)]
      exact hS.2.1 q h1 h2
end JXRowsW

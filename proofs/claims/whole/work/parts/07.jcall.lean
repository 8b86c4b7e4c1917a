/-- a world with a hole -/
def jFr (fr : va_W → va_W) : Prop := ∃ pre post : va_W, ∀ w, fr w = pre ++ (w ++ post)
theorem jFr_id : jFr (fun w => w) := ⟨[], [], fun w => (List.append_nil w).symm⟩
theorem jFr_comp {f g : va_W → va_W} (hf : jFr f) (hg : jFr g) : jFr (fun w => f (g w)) := by
  obtain ⟨p, q, h⟩ := hf
  obtain ⟨p2, q2, h2⟩ := hg
  exact ⟨p ++ p2, q2 ++ q, fun w => by show f (g w) = _; rw [h, h2]; simp [List.append_assoc]⟩
/-! CALLS. A world is cut into what stands ahead, the callee's cells, and what stands behind. -/
theorem jP_mem {D : va_G} {cl : List vw_C} {ws : va_W} {H : Heap} : va_P D cl ws H ↔ ∀ q ∈ ws, va_at D cl q H := by
  constructor
  · intro h q hq
    obtain ⟨i, hi⟩ := List.getElem?_of_mem hq
    exact h i q hi
  · intro h k q hk
    exact h q (List.mem_of_getElem? hk)
theorem jD_iff {A : Nat → Prop} {ws : va_W} : va_D A ws ↔ (ws.map Prod.fst).Nodup ∧ ∀ q ∈ ws, A q.1 := by
  constructor
  · rintro ⟨h1, h2⟩
    refine ⟨?_, fun q hq => ?_⟩
    · rw [List.Nodup, List.pairwise_iff_getElem]
      intro i j hi hj hij he
      rw [List.length_map] at hi hj
      rw [List.getElem_map, List.getElem_map] at he
      have := h1 i j _ _ (List.getElem?_eq_getElem hi) (List.getElem?_eq_getElem hj) he
      omega
    · obtain ⟨i, hi⟩ := List.getElem?_of_mem hq
      exact h2 i q hi
  · rintro ⟨h1, h2⟩
    refine ⟨fun i j p q hi hj he => ?_, fun k q hk => h2 q (List.mem_of_getElem? hk)⟩
    obtain ⟨hi', rfl⟩ := List.getElem?_eq_some_iff.mp hi
    obtain ⟨hj', rfl⟩ := List.getElem?_eq_some_iff.mp hj
    rw [List.Nodup, List.pairwise_iff_getElem] at h1
    rcases Nat.lt_trichotomy i j with h | h | h
    · exact absurd (by rw [List.getElem_map, List.getElem_map]; exact he) (h1 i j (by rw [List.length_map]; exact hi') (by rw [List.length_map]; exact hj') h)
    · exact h
    · exact absurd (by rw [List.getElem_map, List.getElem_map]; exact he.symm) (h1 j i (by rw [List.length_map]; exact hj') (by rw [List.length_map]; exact hi') h)
theorem jA_mem {ws : va_W} {sz q : Nat} : va_A ws sz q ↔ q ∈ ws.map Prod.fst ∨ sz ≤ q := by
  constructor
  · rintro (⟨k, e, h⟩ | h)
    · exact Or.inl (List.mem_map.mpr ⟨(q, e), List.mem_of_getElem? h, rfl⟩)
    · exact Or.inr h
  · rintro (h | h)
    · obtain ⟨⟨z, e⟩, h1, rfl⟩ := List.mem_map.mp h
      obtain ⟨k, hk⟩ := List.getElem?_of_mem h1
      exact Or.inl ⟨k, e, hk⟩
    · exact Or.inr h
/-- the callee's cells out of the middle -/
theorem jP_mid {D : va_G} {cl : List vw_C} {pre wc post : va_W} {H : Heap} (h : va_P D cl (pre ++ (wc ++ post)) H) : va_P D cl wc H :=
  jP_mem.mpr fun q hq => jP_mem.mp h q (List.mem_append_right _ (List.mem_append_left _ hq))
theorem jD_mid {A : Nat → Prop} {pre wc post : va_W} (h : va_D A (pre ++ (wc ++ post))) : va_D A wc := by
  obtain ⟨h1, h2⟩ := jD_iff.mp h
  rw [List.map_append, List.map_append, List.nodup_append] at h1
  exact jD_iff.mpr ⟨(List.nodup_append.mp h1.2.1).1, fun q hq => h2 q (List.mem_append_right _ (List.mem_append_left _ hq))⟩
theorem jA_mid {A : Nat → Prop} {pre wc post : va_W} {H0 H : Heap} {locs : List Loc} (hD : va_D A (pre ++ (wc ++ post))) (hS : va_S A H0 H locs) (hA : ∀ q, H0.size ≤ q → A q) : ∀ q, va_A wc H.size q → A q := by
  intro q hq
  rcases jA_mem.mp hq with h | h
  · obtain ⟨z, hz, rfl⟩ := List.mem_map.mp h
    exact (jD_iff.mp (jD_mid hD)).2 z hz
  · exact hA q (Nat.le_trans hS.1 h)
theorem jJoin {A : Nat → Prop} {D : va_G} {cl : List vw_C} {pre wc post w1 : va_W} {H H1 : Heap} (hP : va_P D cl (pre ++ (wc ++ post)) H) (hD : va_D A (pre ++ (wc ++ post)))
    (hk : ∀ q : Nat, q < H.size → ¬ va_A wc H.size q → H1[q]? = H[q]?) (hF : ∀ q, va_A wc H.size q → A q) (hP1 : va_P D cl w1 H1) (hD1 : va_D (va_A wc H.size) w1) : va_P D cl (pre ++ (w1 ++ post)) H1 ∧ va_D A (pre ++ (w1 ++ post)) := by
  obtain ⟨n1, a1⟩ := jD_iff.mp hD
  obtain ⟨n2, a2⟩ := jD_iff.mp hD1
  rw [List.map_append, List.map_append, List.nodup_append] at n1
  obtain ⟨np, ncp, xp⟩ := n1
  obtain ⟨nc, nq, xc⟩ := List.nodup_append.mp ncp
  have hpre : ∀ q ∈ pre, va_at D cl q H := fun q hq => jP_mem.mp hP q (List.mem_append_left _ hq)
  have hpost : ∀ q ∈ post, va_at D cl q H := fun q hq => jP_mem.mp hP q (List.mem_append_right _ (List.mem_append_right _ hq))
  have fp : ∀ q ∈ pre, ¬ va_A wc H.size q.1 := by
    intro q hq hz
    rcases jA_mem.mp hz with h | h
    · exact xp q.1 (List.mem_map.mpr ⟨q, hq, rfl⟩) q.1 (List.mem_append_left _ h) rfl
    · exact absurd (hpre q hq).lt (Nat.not_lt.mpr h)
  have fq : ∀ q ∈ post, ¬ va_A wc H.size q.1 := by
    intro q hq hz
    rcases jA_mem.mp hz with h | h
    · exact xc q.1 h q.1 (List.mem_map.mpr ⟨q, hq, rfl⟩) rfl
    · exact absurd (hpost q hq).lt (Nat.not_lt.mpr h)
  constructor
  · refine jP_mem.mpr fun q hq => ?_
    rcases List.mem_append.mp hq with h | h
    · exact (hpre q h).kept (hk q.1 (hpre q h).lt (fp q h))
    · rcases List.mem_append.mp h with h | h
      · exact jP_mem.mp hP1 q h
      · exact (hpost q h).kept (hk q.1 (hpost q h).lt (fq q h))
  · refine jD_iff.mpr ⟨?_, fun q hq => ?_⟩
    · rw [List.map_append, List.map_append, List.nodup_append, List.nodup_append]
      refine ⟨np, ⟨n2, nq, ?_⟩, ?_⟩
      · intro x hx y hy e
        obtain ⟨z, hz, rfl⟩ := List.mem_map.mp hx
        obtain ⟨z2, hz2, rfl⟩ := List.mem_map.mp hy
        exact fq z2 hz2 (e ▸ a2 z hz)
      · intro x hx y hy e
        obtain ⟨z, hz, rfl⟩ := List.mem_map.mp hx
        rcases List.mem_append.mp hy with h | h
        · obtain ⟨z2, hz2, rfl⟩ := List.mem_map.mp h
          exact fp z hz (e ▸ a2 z2 hz2)
        · exact xp _ (List.mem_map.mpr ⟨z, hz, rfl⟩) y (List.mem_append_right _ h) e
    · rcases List.mem_append.mp hq with h | h
      · exact a1 q (List.mem_append_left _ h)
      · rcases List.mem_append.mp h with h | h
        · exact hF _ (a2 q h)
        · exact a1 q (List.mem_append_right _ (List.mem_append_right _ h))
/-- the order of a world's cells is no matter -/
theorem jP_perm {D : va_G} {cl : List vw_C} {ws ws' : va_W} {H : Heap} (hp : ∀ q ∈ ws', q ∈ ws) (h : va_P D cl ws H) : va_P D cl ws' H := jP_mem.mpr fun q hq => jP_mem.mp h q (hp q hq)
theorem gw_sub {w1 : Cond} {y : MethodName} {bytes : ByteArray} {n : Nat} {r : Option FieldType} (h : Cond.code y bytes n r ∈ GW) : GoodIn GW (Cond.code y bytes n r :: GW) := by
  intro w hw
  rcases List.mem_cons.mp hw with rfl | hw
  · exact ⟨h, good_of_word (gw_good _ h)⟩
  · exact ⟨hw, good_of_word (gw_good _ hw)⟩
theorem gw_V {own C : String} {idx : Nat} {y : MethodName} {ws : List Cond} (h1 : Cond.methodLink own idx y ∈ GW) (h2 : Cond.instanceMethod y ∈ GW) (h3 : Cond.selects C y y ∈ GW) (h4 : Cond.initialized C ∈ GW) (h : GoodIn GW ws) : GoodIn GW (wsV own idx C y ws) := by
  intro w hw
  rcases List.mem_append.mp hw with hw | hw
  · have hm : w ∈ GW := by
      rcases List.mem_cons.mp hw with rfl | hw
      · exact h1
      · rcases List.mem_cons.mp hw with rfl | hw
        · exact h2
        · rcases List.mem_cons.mp hw with rfl | hw
          · exact h3
          · rcases List.mem_cons.mp hw with rfl | hw
            · exact h4
            · cases hw
    exact ⟨hm, good_of_word (gw_good _ hm)⟩
  · exact h w hw
theorem gw_S {own : String} {idx : Nat} {y : MethodName} {ws : List Cond} (h1 : Cond.methodLink own idx y ∈ GW) (h2 : Cond.static y ∈ GW) (h4 : Cond.initialized own ∈ GW) (h : GoodIn GW ws) : GoodIn GW (wsS own idx y ws) := by
  intro w hw
  rcases List.mem_append.mp hw with hw | hw
  · have hm : w ∈ GW := by
      rcases List.mem_cons.mp hw with rfl | hw
      · exact h1
      · rcases List.mem_cons.mp hw with rfl | hw
        · exact h2
        · rcases List.mem_cons.mp hw with rfl | hw
          · exact h4
          · cases hw
    exact ⟨hm, good_of_word (gw_good _ hm)⟩
  · exact h w hw
/-- a contract's start doesn't see the caller's frame -/
theorem cm_blind {D : va_G} {T : List (ClassId × FieldType)} {av : List Value} {w0 : va_W} {sz : Nat} : FrameBlind (va_Pc av (fun U => U.heap.size = sz ∧ va_P D vwCl w0 U.heap ∧ va_K D vwCl T U ∧ va_D (fun _ => True) w0 ∧ (∀ w ∈ NW, va_Nw w U) ∧ jZ U U.heap (va_A w0 sz))) := by
  intro a U g mk q
  obtain ⟨q0, q1, qP, qK, qD, qN, qZ⟩ := q
  exact ⟨q0, q1, qP, va_K.moved (u := U) (U := U.calling g mk a) (Vm.Alike.refl U.vm) qK, qD, fun w hw => va_Nw.same (u := U) (U := U.calling g mk a) (nw_onTables w hw) rfl (qN w hw), jZ.same (s := U) (U := U.calling g mk a) rfl qZ⟩
section JCall
variable {p : Program} {l : Launch} {e : Env} {R : Room} {s : State} {m : MethodId} {args : Array Value} {below : List Frame} {meth : Method} {c : Code} {H : Heap} {locs : List Loc} {k n : Nat} {Q : State → Prop}
variable {A : Nat → Prop} {D : va_G} {T : List (ClassId × FieldType)} {P : Option Value → va_W → Prop} {pre wc post : va_W} {mc ms pc : Nat} {sl : Array Slot} {st0 st : List Value} {aa : Array Value}
theorem jcall_core (hr : va_Run p l e R s m args below meth c H locs k n mc ms (F0 m pc sl st0) st (jQc D T P (va_A wc H.size) aa) (va_A wc H.size)) (hP : va_P D vwCl (pre ++ (wc ++ post)) H) (hD : va_D A (pre ++ (wc ++ post))) (hS : va_S A s.heap H locs) (hA : ∀ q, s.heap.size ≤ q → A q)
    (kk : ∀ (v : Option Value) (w : va_W) (H1 : Heap) (locs1 : List Loc), P v w → va_P D vwCl (pre ++ (w ++ post)) H1 → va_D A (pre ++ (w ++ post)) → va_S A s.heap H1 locs1 → W p l e R s m args below meth c H1 locs1 (k + mc) (n + ms) Q (F0 m (pc + 3) sl (v.toList ++ st))) : W p l e R s m args below meth c H locs k n Q (F0 m pc sl st0) := by
  intro U hU X
  obtain ⟨v, st₀, t, T', L, h0, X', hL, e1, e2, ⟨⟨v2, w, hv, hp, hPw, hKw, hDw⟩, hz, hk⟩, hst⟩ := hr U hU X
  cases hv
  rw [h0] at hz hk
  have hF := jA_mid hD hS hA
  rw [← e1] at hPw hk hz
  obtain ⟨hP1, hD1⟩ := jJoin hP hD hk hF hPw hDw
  obtain ⟨t2, a1, b1⟩ := kk v w T'.heap (locs ++ L) hp hP1 hD1
    ⟨Nat.le_trans hS.1 hz, fun q h1 h2 => by
      rw [hk q (Nat.lt_of_lt_of_le h1 hS.1) (fun z => h2 (hF q z))]; exact hS.2.1 q h1 h2, fun q hq => by
      rcases List.mem_append.mp hq with h | h
      · exact hS.2.2 q h
      · exact hF _ (hL q h)⟩ T' rfl X'
  exact ⟨t2, hst t2 a1, b1⟩
end JCall
section JCalls
variable {X : jX} {l0 : Launch} {D0 : va_G} {T0 : List (ClassId × FieldType)} {cc : ByteArray} {own : String} {rt : Option FieldType} {rm : Room} {nL : Nat} {a b : Nat} {ws : va_W} {pc : Nat} {ls : List (Nat × Value)} {st : List Value}
variable {y : MethodName} {bytes : ByteArray} {maxL : Nat} {ret : Option FieldType} {rc : Room} {As : List Value} {wc : va_W} {P : Option Value → va_W → Prop} {index n9 : Nat}
/-- what a call asks of the callee's name and of the rooms -/
def jGo (y : MethodName) (n : Nat) (maxL : Nat) (rc rm : Room) : Prop := (y.cls ≠ "java/lang/invoke/MethodHandle" ∧ y.cls ≠ "java/lang/invoke/VarHandle" ∧ (parseMethodDescriptor y.desc).map (fun d => d.parameters.length) = some n) ∧ (rc.frames + 1 ≤ rm.frames ∧ 8 + (maxL + 11) + rc.locals ≤ rm.locals)
theorem j_callV {o : Nat} {C : String} (h : jOK X l0 D0 T0 cc own rt rm nL) (hc : cm l0 D0 T0 y bytes maxL ret rc (.ref o :: As) wc P) (m1 : Cond.methodLink own index y ∈ GW) (m2 : Cond.instanceMethod y ∈ GW) (m3 : Cond.selects C y y ∈ GW) (m4 : Cond.initialized y.cls ∈ GW) (m5 : Cond.code y bytes maxL ret ∈ GW) (hn : As.length = n9) (hg : jGo y n9 maxL rc rm)
    (q0 : Nat) {ci : Nat} {fs : List Value} {qc : vw_C} (he : wc[q0]? = some (o, .inr (ci, fs))) (hq : vwCl[ci]? = some qc) (hqc : qc.1 = C) (d : decode cc pc = .ok (.invokevirtual index, 3)) (hst : (st.map fun v => v.category).sum ≤ 8) (hf : a + rc.cells ≤ rm.cells ∧ b + rc.slots ≤ rm.slots)
    (fr : va_W → va_W) (hfr : jFr fr) (hw : ws = fr wc) {st0 : List Value} (hs0 : st0 = As.reverse ++ .ref o :: st)
    (kk : ∀ v w, P v w → J X (a + rc.cells) (b + rc.slots) (fr w) (pc + 3) ls (v.toList ++ st)) : J X a b ws pc ls st0 := by
  obtain ⟨p, l, e, R, s, m, args, below, meth, c, D, T, A, nL1, Q⟩ := X
  obtain ⟨hx, hb, ⟨rfl, rfl, rfl, rfl, rfl⟩, hr, hown, hts, hnw, hK, hA, hml, hlocks, hZ⟩ := h
  obtain ⟨pre, post, hpp⟩ := hfr
  subst hw hs0 hn
  intro H locs sl hP hD hS hv
  rw [hpp] at hP hD
  refine jcall_core (va_runV (As := As) (rest := st) (n := As.length) ⟨hx, hb, hml, hown, hts⟩ (hc H.size) (⟨callB_of As.length hts (gw_sub (w1 := Cond.code y bytes maxL ret) m5) rfl rfl rfl (hts _ m4) (hts _ m1) hg.1 hg.2, hts _ m2, hts _ m3⟩) ⟨cm_blind, by
    have := va_recv (q := qc) hK (jP_mid hP) hq he
    rw [hqc] at this
    exact this, fun U hU hW => ⟨rfl, by rw [hU], by rw [hU]; exact jP_mid hP, va_K.moved hW.alike hK, (jD_mid hD).weaken (fun _ _ _ _ => trivial), fun w hw => nw_warm w hw hW (va_Nw.of (nw_onTables w hw) (hnw w hw)), by rw [hU]; exact ((hZ.kept hS.2.1).narrow (jA_mid hD hS hA)).warm hW⟩⟩ rfl rfl hv.1 rfl (lv_room hst) d hf) hP hD hS hA (fun v w H1 locs1 hp h1 h2 h3 => kk v w hp H1 locs1 sl (by rw [hpp]; exact h1) (by rw [hpp]; exact h2) h3 hv)
theorem j_callS (h : jOK X l0 D0 T0 cc own rt rm nL) (hc : cm l0 D0 T0 y bytes maxL ret rc As wc P) (m1 : Cond.methodLink own index y ∈ GW) (m2 : Cond.static y ∈ GW) (m4 : Cond.initialized y.cls ∈ GW) (m5 : Cond.code y bytes maxL ret ∈ GW) (hn : As.length = n9) (hg : jGo y n9 maxL rc rm)
    (d : decode cc pc = .ok (.invokestatic index, 3)) (hst : (st.map fun v => v.category).sum ≤ 8) (hf : a + rc.cells ≤ rm.cells ∧ b + rc.slots ≤ rm.slots)
    (fr : va_W → va_W) (hfr : jFr fr) (hw : ws = fr wc) {st0 : List Value} (hs0 : st0 = As.reverse ++ st)
    (kk : ∀ v w, P v w → J X (a + rc.cells) (b + rc.slots) (fr w) (pc + 3) ls (v.toList ++ st)) : J X a b ws pc ls st0 := by
  obtain ⟨p, l, e, R, s, m, args, below, meth, c, D, T, A, nL1, Q⟩ := X
  obtain ⟨hx, hb, ⟨rfl, rfl, rfl, rfl, rfl⟩, hr, hown, hts, hnw, hK, hA, hml, hlocks, hZ⟩ := h
  obtain ⟨pre, post, hpp⟩ := hfr
  subst hw hs0 hn
  intro H locs sl hP hD hS hv
  rw [hpp] at hP hD
  refine jcall_core (va_runS (As := As) (rest := st) (n := As.length) ⟨hx, hb, hml, hown, hts⟩ (hc H.size) (⟨callB_of As.length hts (gw_sub (w1 := Cond.code y bytes maxL ret) m5) rfl rfl rfl (hts _ m4) (hts _ m1) hg.1 hg.2, hts _ m2⟩) ⟨cm_blind, fun U hU hW => ⟨rfl, by rw [hU], by rw [hU]; exact jP_mid hP, va_K.moved hW.alike hK, (jD_mid hD).weaken (fun _ _ _ _ => trivial), fun w hw => nw_warm w hw hW (va_Nw.of (nw_onTables w hw) (hnw w hw)), by rw [hU]; exact ((hZ.kept hS.2.1).narrow (jA_mid hD hS hA)).warm hW⟩⟩ rfl rfl hv.1 rfl (lv_room hst) d hf) hP hD hS hA (fun v w H1 locs1 hp h1 h2 h3 => kk v w hp H1 locs1 sl (by rw [hpp]; exact h1) (by rw [hpp]; exact h2) h3 hv)
theorem j_callSN {host : String} (h : jOK X l0 D0 T0 cc own rt rm nL) (hc : cm l0 D0 T0 y bytes maxL ret rc As wc P) (m1 : Cond.methodLinkNest own index y host ∈ NW) (m2 : Cond.static y ∈ GW) (m4 : Cond.initialized y.cls ∈ GW) (m5 : Cond.code y bytes maxL ret ∈ GW) (hn : As.length = n9) (hg : jGo y n9 maxL rc rm)
    (d : decode cc pc = .ok (.invokestatic index, 3)) (hst : (st.map fun v => v.category).sum ≤ 8) (hf : a + rc.cells ≤ rm.cells ∧ b + rc.slots ≤ rm.slots)
    (fr : va_W → va_W) (hfr : jFr fr) (hw : ws = fr wc) {st0 : List Value} (hs0 : st0 = As.reverse ++ st)
    (kk : ∀ v w, P v w → J X (a + rc.cells) (b + rc.slots) (fr w) (pc + 3) ls (v.toList ++ st)) : J X a b ws pc ls st0 := by
  obtain ⟨p, l, e, R, s, m, args, below, meth, c, D, T, A, nL1, Q⟩ := X
  obtain ⟨hx, hb, ⟨rfl, rfl, rfl, rfl, rfl⟩, hr, hown, hts, hnw, hK, hA, hml, hlocks, hZ⟩ := h
  obtain ⟨pre, post, hpp⟩ := hfr
  subst hw hs0 hn
  intro H locs sl hP hD hS hv
  rw [hpp] at hP hD
  refine jcall_core (va_runSN (As := As) (rest := st) (n := As.length) ⟨hx, hb, hml, hown, hts⟩ (hc H.size) (⟨va_cnB As.length hts (gw_sub (w1 := Cond.code y bytes maxL ret) m5) rfl rfl rfl (va_Nw.of rfl (hnw _ m1)) (hts _ m4) hg.1 hg.2, hts _ m2, trivial⟩) ⟨cm_blind, fun U hU hW => ⟨rfl, by rw [hU], by rw [hU]; exact jP_mid hP, va_K.moved hW.alike hK, (jD_mid hD).weaken (fun _ _ _ _ => trivial), fun w hw => nw_warm w hw hW (va_Nw.of (nw_onTables w hw) (hnw w hw)), by rw [hU]; exact ((hZ.kept hS.2.1).narrow (jA_mid hD hS hA)).warm hW⟩⟩ rfl rfl hv.1 rfl (lv_room hst) d hf) hP hD hS hA (fun v w H1 locs1 hp h1 h2 h3 => kk v w hp H1 locs1 sl (by rw [hpp]; exact h1) (by rw [hpp]; exact h2) h3 hv)
theorem j_callVN {o : Nat} {host : String} {C : String} (h : jOK X l0 D0 T0 cc own rt rm nL) (hc : cm l0 D0 T0 y bytes maxL ret rc (.ref o :: As) wc P) (m1 : Cond.methodLinkNest own index y host ∈ NW) (m2 : Cond.instanceMethod y ∈ GW) (m3 : Cond.selects C y y ∈ GW) (m4 : Cond.initialized y.cls ∈ GW) (m5 : Cond.code y bytes maxL ret ∈ GW) (hn : As.length = n9) (hg : jGo y n9 maxL rc rm)
    (q0 : Nat) {ci : Nat} {fs : List Value} {qc : vw_C} (he : wc[q0]? = some (o, .inr (ci, fs))) (hq : vwCl[ci]? = some qc) (hqc : qc.1 = C) (d : decode cc pc = .ok (.invokevirtual index, 3)) (hst : (st.map fun v => v.category).sum ≤ 8) (hf : a + rc.cells ≤ rm.cells ∧ b + rc.slots ≤ rm.slots)
    (fr : va_W → va_W) (hfr : jFr fr) (hw : ws = fr wc) {st0 : List Value} (hs0 : st0 = As.reverse ++ .ref o :: st)
    (kk : ∀ v w, P v w → J X (a + rc.cells) (b + rc.slots) (fr w) (pc + 3) ls (v.toList ++ st)) : J X a b ws pc ls st0 := by
  obtain ⟨p, l, e, R, s, m, args, below, meth, c, D, T, A, nL1, Q⟩ := X
  obtain ⟨hx, hb, ⟨rfl, rfl, rfl, rfl, rfl⟩, hr, hown, hts, hnw, hK, hA, hml, hlocks, hZ⟩ := h
  obtain ⟨pre, post, hpp⟩ := hfr
  subst hw hs0 hn
  intro H locs sl hP hD hS hv
  rw [hpp] at hP hD
  refine jcall_core (va_runVN (As := As) (rest := st) (n := As.length) ⟨hx, hb, hml, hown, hts⟩ (hc H.size) (⟨va_cnB As.length hts (gw_sub (w1 := Cond.code y bytes maxL ret) m5) rfl rfl rfl (va_Nw.of rfl (hnw _ m1)) (hts _ m4) hg.1 hg.2, hts _ m2, hts _ m3⟩) ⟨cm_blind, by
    have := va_recv (q := qc) hK (jP_mid hP) hq he
    rw [hqc] at this
    exact this, fun U hU hW => ⟨rfl, by rw [hU], by rw [hU]; exact jP_mid hP, va_K.moved hW.alike hK, (jD_mid hD).weaken (fun _ _ _ _ => trivial), fun w hw => nw_warm w hw hW (va_Nw.of (nw_onTables w hw) (hnw w hw)), by rw [hU]; exact ((hZ.kept hS.2.1).narrow (jA_mid hD hS hA)).warm hW⟩⟩ rfl rfl hv.1 rfl (lv_room hst) d hf) hP hD hS hA (fun v w H1 locs1 hp h1 h2 h3 => kk v w hp H1 locs1 sl (by rw [hpp]; exact h1) (by rw [hpp]; exact h2) h3 hv)
theorem j_callI {o : Nat} (h : jOK X l0 D0 T0 cc own rt rm nL) (hc : cm l0 D0 T0 y bytes maxL none rc (.ref o :: As) wc P) (m1 : Cond.methodLink own index y ∈ GW) (m2 : Cond.instanceMethod y ∈ GW) (m4 : Cond.initialized y.cls ∈ GW) (m5 : Cond.code y bytes maxL none ∈ GW) (hn : As.length = n9) (hg : jGo y n9 maxL rc rm)
    (hin : y.name = "<init>") (d : decode cc pc = .ok (.invokespecial index, 3)) (hst : (st.map fun v => v.category).sum ≤ 8) (hf : a + rc.cells ≤ rm.cells ∧ b + rc.slots ≤ rm.slots)
    (fr : va_W → va_W) (hfr : jFr fr) (hw : ws = fr wc) {st0 : List Value} (hs0 : st0 = As.reverse ++ .ref o :: st)
    (kk : ∀ v w, P v w → J X (a + rc.cells) (b + rc.slots) (fr w) (pc + 3) ls (v.toList ++ st)) : J X a b ws pc ls st0 := by
  obtain ⟨p, l, e, R, s, m, args, below, meth, c, D, T, A, nL1, Q⟩ := X
  obtain ⟨hx, hb, ⟨rfl, rfl, rfl, rfl, rfl⟩, hr, hown, hts, hnw, hK, hA, hml, hlocks, hZ⟩ := h
  obtain ⟨pre, post, hpp⟩ := hfr
  subst hw hs0 hn
  intro H locs sl hP hD hS hv
  rw [hpp] at hP hD
  refine jcall_core (va_runI (As := As) (rest := st) (n := As.length) ⟨hx, hb, hml, hown, hts⟩ (hc H.size) (⟨callB_of As.length hts (gw_sub (w1 := Cond.code y bytes maxL none) m5) rfl rfl rfl (hts _ m4) (hts _ m1) hg.1 hg.2, hin, hts _ m2⟩) ⟨cm_blind, fun U hU hW => ⟨rfl, by rw [hU], by rw [hU]; exact jP_mid hP, va_K.moved hW.alike hK, (jD_mid hD).weaken (fun _ _ _ _ => trivial), fun w hw => nw_warm w hw hW (va_Nw.of (nw_onTables w hw) (hnw w hw)), by rw [hU]; exact ((hZ.kept hS.2.1).narrow (jA_mid hD hS hA)).warm hW⟩⟩ rfl rfl hv.1 rfl (lv_room hst) d hf) hP hD hS hA (fun v w H1 locs1 hp h1 h2 h3 => kk v w hp H1 locs1 sl (by rw [hpp]; exact h1) (by rw [hpp]; exact h2) h3 hv)
theorem j_callIN {o : Nat} {host : String} (h : jOK X l0 D0 T0 cc own rt rm nL) (hc : cm l0 D0 T0 y bytes maxL none rc (.ref o :: As) wc P) (m1 : Cond.methodLinkNest own index y host ∈ NW) (m2 : Cond.instanceMethod y ∈ GW) (m4 : Cond.initialized y.cls ∈ GW) (m5 : Cond.code y bytes maxL none ∈ GW) (hn : As.length = n9) (hg : jGo y n9 maxL rc rm)
    (hin : y.name = "<init>") (d : decode cc pc = .ok (.invokespecial index, 3)) (hst : (st.map fun v => v.category).sum ≤ 8) (hf : a + rc.cells ≤ rm.cells ∧ b + rc.slots ≤ rm.slots)
    (fr : va_W → va_W) (hfr : jFr fr) (hw : ws = fr wc) {st0 : List Value} (hs0 : st0 = As.reverse ++ .ref o :: st)
    (kk : ∀ v w, P v w → J X (a + rc.cells) (b + rc.slots) (fr w) (pc + 3) ls (v.toList ++ st)) : J X a b ws pc ls st0 := by
  obtain ⟨p, l, e, R, s, m, args, below, meth, c, D, T, A, nL1, Q⟩ := X
  obtain ⟨hx, hb, ⟨rfl, rfl, rfl, rfl, rfl⟩, hr, hown, hts, hnw, hK, hA, hml, hlocks, hZ⟩ := h
  obtain ⟨pre, post, hpp⟩ := hfr
  subst hw hs0 hn
  intro H locs sl hP hD hS hv
  rw [hpp] at hP hD
  refine jcall_core (va_runIN (As := As) (rest := st) (n := As.length) ⟨hx, hb, hml, hown, hts⟩ (hc H.size) (⟨va_cnB As.length hts (gw_sub (w1 := Cond.code y bytes maxL none) m5) rfl rfl rfl (va_Nw.of rfl (hnw _ m1)) (hts _ m4) hg.1 hg.2, hin, hts _ m2⟩) ⟨cm_blind, fun U hU hW => ⟨rfl, by rw [hU], by rw [hU]; exact jP_mid hP, va_K.moved hW.alike hK, (jD_mid hD).weaken (fun _ _ _ _ => trivial), fun w hw => nw_warm w hw hW (va_Nw.of (nw_onTables w hw) (hnw w hw)), by rw [hU]; exact ((hZ.kept hS.2.1).narrow (jA_mid hD hS hA)).warm hW⟩⟩ rfl rfl hv.1 rfl (lv_room hst) d hf) hP hD hS hA (fun v w H1 locs1 hp h1 h2 h3 => kk v w hp H1 locs1 sl (by rw [hpp]; exact h1) (by rw [hpp]; exact h2) h3 hv)
end JCalls

/-! CONTRACTS OVER FACTS OF THE OLD HEAP (Z), beside jZ -/
abbrev jFz : Type := State → Heap → (Nat → Prop) → Prop
def jzok (Z : jFz) : Prop := (∀ (s U : State) (H : Heap) (A : Nat → Prop), s.WarmedH U.vm → Z s H A → Z U H A) ∧ (∀ (s U : State) (H : Heap) (A : Nat → Prop), U.vm = s.vm → Z s H A → Z U H A) ∧ (∀ (U : State) (H H1 : Heap) (A : Nat → Prop), Z U H A → (∀ a : Nat, a < H.size → ¬ A a → H1[a]? = H[a]?) → Z U H1 A) ∧ (∀ (U : State) (H : Heap) (A B : Nat → Prop), Z U H A → (∀ q, B q → A q) → Z U H B)
def jXz (X : jX) (Z : jFz) : Prop :=
  match X with
  | (p, l, e, R, s, m, args, below, meth, c, D, T, A, nL, Q) => Z s s.heap A
theorem jXz_mono {X : jX} {Z Z2 : jFz} (h : jXz X Z) (k : ∀ U H A, Z U H A → Z2 U H A) : jXz X Z2 := by
  obtain ⟨p, l, e, R, s, m, args, below, meth, c, D, T, A, nL1, Q⟩ := X
  exact k _ _ _ h
def cmz (Z : jFz) (l : Launch) (D : va_G) (T : List (ClassId × FieldType)) (y : MethodName) (cc : ByteArray) (maxL : Nat) (ret : Option FieldType) (rm : Room) (av : List Value) (w0 : va_W) (P : Option Value → va_W → Prop) : Prop :=
  ∀ sz : Nat, Met l y (Cond.code y cc maxL ret :: GW) rm (va_Pc av (fun U => U.heap.size = sz ∧ va_P D vwCl w0 U.heap ∧ va_K D vwCl T U ∧ va_D (fun _ => True) w0 ∧ (∀ w ∈ NW, va_Nw w U) ∧ jZ U U.heap (va_A w0 sz) ∧ Z U U.heap (va_A w0 sz))) (jQc D T P (va_A w0 sz)) rm.cells rm.slots (va_A w0 sz)
theorem cmz_of {Z : jFz} {l : Launch} {D : va_G} {T : List (ClassId × FieldType)} {y : MethodName} {cc : ByteArray} {maxL : Nat} {ret : Option FieldType} {rm : Room} {av : List Value} {w0 : va_W} {P : Option Value → va_W → Prop} (own : String) (hown0 : y.cls = own) (hy : plainName y.cls = true) (hav : (lg_sl av).length ≤ maxL)
    (body : ∀ X : jX, jOK X l D T cc own ret rm maxL → jEnd X P rm.cells rm.slots → jXz X Z → J X 0 0 w0 0 (lv_args 0 av) []) : cmz Z l D T y cc maxL ret rm av w0 P := by
  intro sz
  refine Met.ofW (cc := cc) (maxL := maxL) (ret := ret) hy rfl ?_
  intro p e s m args below meth c s₁ B hml hv
  obtain ⟨rfl, hsz, hP, hK, hD0, hN, hZ, hZ2⟩ := hv
  have hts := atoms_spec (ws := Cond.code y cc maxL ret :: GW) B.pre
  subst hsz
  have hD := hD0.self (sz := s.heap.size)
  rw [lg_entry_eq]
  exact body (p, l, e, rm, s, m, av.toArray, below, meth, c, D, T, va_A w0 s.heap.size, maxL, MQ below (jQc D T P (va_A w0 s.heap.size)) av.toArray s rm.cells rm.slots (va_A w0 s.heap.size))
    ⟨B.exec, B.bytes, ⟨rfl, rfl, rfl, rfl, rfl⟩, B.returns, by rw [← hown0]; exact findClass_of_methodNamed B.named, fun w hw => hts w (List.mem_cons_of_mem _ hw), fun w hw => va_Nw.use (nw_onTables w hw) (hN w hw), hK, fun q h => Or.inr h, hml, B.notSynchronized, hZ⟩ rfl hZ2
    s.heap [] _ hP hD va_S.rf (lv_entry av hav)
theorem cmz_blind {Z : jFz} (hzk : jzok Z) {D : va_G} {T : List (ClassId × FieldType)} {av : List Value} {w0 : va_W} {sz : Nat} : FrameBlind (va_Pc av (fun U => U.heap.size = sz ∧ va_P D vwCl w0 U.heap ∧ va_K D vwCl T U ∧ va_D (fun _ => True) w0 ∧ (∀ w ∈ NW, va_Nw w U) ∧ jZ U U.heap (va_A w0 sz) ∧ Z U U.heap (va_A w0 sz))) := by
  intro a U g mk q
  obtain ⟨q0, q1, qP, qK, qD, qN, qZ, qz⟩ := q
  exact ⟨q0, q1, qP, va_K.moved (u := U) (U := U.calling g mk a) (Vm.Alike.refl U.vm) qK, qD, fun w hw => va_Nw.same (u := U) (U := U.calling g mk a) (nw_onTables w hw) rfl (qN w hw), jZ.same (s := U) (U := U.calling g mk a) rfl qZ, hzk.2.1 U (U.calling g mk a) _ _ rfl qz⟩
section JZCalls
variable {X : jX} {l0 : Launch} {D0 : va_G} {T0 : List (ClassId × FieldType)} {cc : ByteArray} {own : String} {rt : Option FieldType} {rm : Room} {nL : Nat} {a b : Nat} {ws : va_W} {pc : Nat} {ls : List (Nat × Value)} {st : List Value}
variable {y : MethodName} {bytes : ByteArray} {maxL : Nat} {ret : Option FieldType} {rc : Room} {As : List Value} {wc : va_W} {P : Option Value → va_W → Prop} {index n9 : Nat} {Z : jFz}
theorem jz_callS (h : jOK X l0 D0 T0 cc own rt rm nL) (hc : cmz Z l0 D0 T0 y bytes maxL ret rc As wc P) (hz : jXz X Z) (hzk : jzok Z) (m1 : Cond.methodLink own index y ∈ GW) (m2 : Cond.static y ∈ GW) (m4 : Cond.initialized y.cls ∈ GW) (m5 : Cond.code y bytes maxL ret ∈ GW) (hn : As.length = n9) (hg : jGo y n9 maxL rc rm)
    (d : decode cc pc = .ok (.invokestatic index, 3)) (hst : (st.map fun v => v.category).sum ≤ 8) (hf : a + rc.cells ≤ rm.cells ∧ b + rc.slots ≤ rm.slots)
    (fr : va_W → va_W) (hfr : jFr fr) (hw : ws = fr wc) {st0 : List Value} (hs0 : st0 = As.reverse ++ st)
    (kk : ∀ v w, P v w → J X (a + rc.cells) (b + rc.slots) (fr w) (pc + 3) ls (v.toList ++ st)) : J X a b ws pc ls st0 := by
  obtain ⟨p, l, e, R, s, m, args, below, meth, c, D, T, A, nL1, Q⟩ := X
  obtain ⟨hx, hb, ⟨rfl, rfl, rfl, rfl, rfl⟩, hr, hown, hts, hnw, hK, hA, hml, hlocks, hZ⟩ := h
  obtain ⟨pre, post, hpp⟩ := hfr
  subst hw hs0 hn
  intro H locs sl hP hD hS hv
  rw [hpp] at hP hD
  refine jcall_core (va_runS (As := As) (rest := st) (n := As.length) ⟨hx, hb, hml, hown, hts⟩ (hc H.size) (⟨callB_of As.length hts (gw_sub (w1 := Cond.code y bytes maxL ret) m5) rfl rfl rfl (hts _ m4) (hts _ m1) hg.1 hg.2, hts _ m2⟩) ⟨cmz_blind hzk, fun U hU hW => ⟨rfl, by rw [hU], by rw [hU]; exact jP_mid hP, va_K.moved hW.alike hK, (jD_mid hD).weaken (fun _ _ _ _ => trivial), fun w hw => nw_warm w hw hW (va_Nw.of (nw_onTables w hw) (hnw w hw)), by rw [hU]; exact ((hZ.kept hS.2.1).narrow (jA_mid hD hS hA)).warm hW, by rw [hU]; exact hzk.1 _ _ _ _ hW (hzk.2.2.2 _ _ _ _ (hzk.2.2.1 _ _ _ _ hz hS.2.1) (jA_mid hD hS hA))⟩⟩ rfl rfl hv.1 rfl (lv_room hst) d hf) hP hD hS hA (fun v w H1 locs1 hp h1 h2 h3 => kk v w hp H1 locs1 sl (by rw [hpp]; exact h1) (by rw [hpp]; exact h2) h3 hv)
/-- the receiver is an object of the old heap -/
theorem jz_callVr {o : Nat} {C : String} (h : jOK X l0 D0 T0 cc own rt rm nL) (hc : cmz Z l0 D0 T0 y bytes maxL ret rc (.ref o :: As) wc P) (hz : jXz X Z) (hzk : jzok Z) (hrc : jXz X (fun U H A => va_O C o A U H)) (m1 : Cond.methodLink own index y ∈ GW) (m2 : Cond.instanceMethod y ∈ GW) (m3 : Cond.selects C y y ∈ GW) (m4 : Cond.initialized y.cls ∈ GW) (m5 : Cond.code y bytes maxL ret ∈ GW) (hn : As.length = n9) (hg : jGo y n9 maxL rc rm)
    (d : decode cc pc = .ok (.invokevirtual index, 3)) (hst : (st.map fun v => v.category).sum ≤ 8) (hf : a + rc.cells ≤ rm.cells ∧ b + rc.slots ≤ rm.slots)
    (fr : va_W → va_W) (hfr : jFr fr) (hw : ws = fr wc) {st0 : List Value} (hs0 : st0 = As.reverse ++ .ref o :: st)
    (kk : ∀ v w, P v w → J X (a + rc.cells) (b + rc.slots) (fr w) (pc + 3) ls (v.toList ++ st)) : J X a b ws pc ls st0 := by
  obtain ⟨p, l, e, R, s, m, args, below, meth, c, D, T, A, nL1, Q⟩ := X
  obtain ⟨hx, hb, ⟨rfl, rfl, rfl, rfl, rfl⟩, hr, hown, hts, hnw, hK, hA, hml, hlocks, hZ⟩ := h
  obtain ⟨pre, post, hpp⟩ := hfr
  subst hw hs0 hn
  intro H locs sl hP hD hS hv
  rw [hpp] at hP hD
  refine jcall_core (va_runV (As := As) (rest := st) (n := As.length) ⟨hx, hb, hml, hown, hts⟩ (hc H.size) (⟨callB_of As.length hts (gw_sub (w1 := Cond.code y bytes maxL ret) m5) rfl rfl rfl (hts _ m4) (hts _ m1) hg.1 hg.2, hts _ m2, hts _ m3⟩) ⟨cmz_blind hzk, by
    obtain ⟨cell, r1, r2, r3, -⟩ := va_O.kept (show va_O C o A s s.heap from hrc) hS.2.1
    exact ⟨cell, r1, r2, r3⟩, fun U hU hW => ⟨rfl, by rw [hU], by rw [hU]; exact jP_mid hP, va_K.moved hW.alike hK, (jD_mid hD).weaken (fun _ _ _ _ => trivial), fun w hw => nw_warm w hw hW (va_Nw.of (nw_onTables w hw) (hnw w hw)), by rw [hU]; exact ((hZ.kept hS.2.1).narrow (jA_mid hD hS hA)).warm hW, by rw [hU]; exact hzk.1 _ _ _ _ hW (hzk.2.2.2 _ _ _ _ (hzk.2.2.1 _ _ _ _ hz hS.2.1) (jA_mid hD hS hA))⟩⟩ rfl rfl hv.1 rfl (lv_room hst) d hf) hP hD hS hA (fun v w H1 locs1 hp h1 h2 h3 => kk v w hp H1 locs1 sl (by rw [hpp]; exact h1) (by rw [hpp]; exact h2) h3 hv)
theorem j_zgetf (h : jOK X l0 D0 T0 cc own rt rm nL) {n d ref : String} {q : Nat} {v : Value} (hz : jXz X (fun U H A => va_OF ref n d v q A U H)) (m1 : Cond.fieldLink own index ref n d ∈ GW) (dd : decode cc pc = .ok (.getfield index, 3))
    (kk : J X a b ws (pc + 3) ls (v :: st)) : J X a b ws pc ls (.ref q :: st) := by
  obtain ⟨p, l, e, R, s, m, args, below, meth, c, D, T, A, nL1, Q⟩ := X
  obtain ⟨hx, hb, ⟨rfl, rfl, rfl, rfl, rfl⟩, hr, hown, hts, hnw, hK, hA, hml, hlocks, hZ⟩ := h
  exact fun H locs sl hP hD hS hv => vk_getf hx hb (show va_OF ref n d v q A s s.heap from hz) hS hown (hts _ m1) (fun _ h9 => h9) dd (kk H locs sl hP hD hS hv)
theorem j_zlen (h : jOK X l0 D0 T0 cc own rt rm nL) {ty : FieldType} {q N : Nat} {f : Nat → Value} (hz : jXz X (fun U H A => va_T ty q N f A U H)) (dd : decode cc pc = .ok (.arraylength, 1))
    (kk : J X a b ws (pc + 1) ls (.int (Int32.ofNat N) :: st)) : J X a b ws pc ls (.ref q :: st) := by
  obtain ⟨p, l, e, R, s, m, args, below, meth, c, D, T, A, nL1, Q⟩ := X
  obtain ⟨hx, hb, ⟨rfl, rfl, rfl, rfl, rfl⟩, hr, hown, hts, hnw, hK, hA, hml, hlocks, hZ⟩ := h
  exact fun H locs sl hP hD hS hv => va_tlen hx hb (show va_T ty q N f A s s.heap from hz) hS rfl dd (kk H locs sl hP hD hS hv)
theorem j_zbald (h : jOK X l0 D0 T0 cc own rt rm nL) {q N : Nat} {f : Nat → Value} {i : Int32} (hz : jXz X (fun U H A => va_T .byte q N f A U H)) (hin : vp_in i N) {v : Value} (hv0 : f i.toNatClampNeg = v) (dd : decode cc pc = .ok (.baload, 1))
    (kk : J X a b ws (pc + 1) ls (v :: st)) : J X a b ws pc ls (.int i :: .ref q :: st) := by
  obtain ⟨p, l, e, R, s, m, args, below, meth, c, D, T, A, nL1, Q⟩ := X
  obtain ⟨hx, hb, ⟨rfl, rfl, rfl, rfl, rfl⟩, hr, hown, hts, hnw, hK, hA, hml, hlocks, hZ⟩ := h
  exact fun H locs sl hP hD hS hv => va_tb hx hb (show va_T .byte q N f A s s.heap from hz) hS hin hv0 dd (kk H locs sl hP hD hS hv)
theorem j_zldc (h : jOK X l0 D0 T0 cc own rt rm nL) {tx : String} {q : Nat} (hz : jXz X (fun U _ _ => vk_R own index tx q U)) (dd : decode cc pc = .ok (.ldc index, 2))
    (kk : J X a b ws (pc + 2) ls (.ref q :: st)) : J X a b ws pc ls st := by
  obtain ⟨p, l, e, R, s, m, args, below, meth, c, D, T, A, nL1, Q⟩ := X
  obtain ⟨hx, hb, ⟨rfl, rfl, rfl, rfl, rfl⟩, hr, hown, hts, hnw, hK, hA, hml, hlocks, hZ⟩ := h
  exact fun H locs sl hP hD hS hv => va_ldcS hx hb hown (show vk_R own index tx q s from hz) dd (kk H locs sl hP hD hS hv)
/-- a static that holds a reference or null -/
theorem j_getsq (h : jOK X l0 D0 T0 cc own rt rm nL) {C n0 d0 : String} (hZ0 : ∀ U H A, jZ U H A → va_Zq C n0 d0 A U H) (m1 : Cond.fieldLink own index C n0 d0 ∈ GW) (dd : decode cc pc = .ok (.getstatic index, 3))
    (kk : ∀ v : Value, (v = .null ∨ ∃ t9 : Nat, v = .ref t9) → J X a b ws (pc + 3) ls (v :: st)) : J X a b ws pc ls st := by
  obtain ⟨p, l, e, R, s, m, args, below, meth, c, D, T, A, nL1, Q⟩ := X
  obtain ⟨hx, hb, ⟨rfl, rfl, rfl, rfl, rfl⟩, hr, hown, hts, hnw, hK, hA, hml, hlocks, hZ⟩ := h
  intro H locs sl hP hD hS hv
  rcases hZ0 _ _ _ hZ with hq | ⟨t9, hq⟩
  · exact va_gets hx hb hq hS hown (hts _ m1) (fun _ h9 => h9) dd (kk _ (Or.inl rfl) H locs sl hP hD hS hv)
  · exact va_gets hx hb hq hS hown (hts _ m1) (fun _ h9 => h9) dd (kk _ (Or.inr ⟨_, rfl⟩) H locs sl hP hD hS hv)
end JZCalls
/-- a String of the old heap, of n letters f -/
def jStr (sa b n : Nat) (f : Nat → Value) : jFz := fun U H A => va_O "java/lang/String" sa A U H ∧ va_OF "java/lang/String" "value" "[B" (.ref b) sa A U H ∧ va_OF "java/lang/String" "coder" "B" (.int 0) sa A U H ∧ va_T .byte b n f A U H
theorem jStr_ok (sa b n : Nat) (f : Nat → Value) : jzok (jStr sa b n f) :=
  ⟨fun _ _ _ _ hW h => ⟨va_O.moved hW.alike h.1, va_OF.moved hW.alike h.2.1, va_OF.moved hW.alike h.2.2.1, va_T.moved hW.alike h.2.2.2⟩,
   fun _ _ _ _ hv h => ⟨va_O.moved (by rw [hv]; exact Vm.Alike.refl _) h.1, va_OF.moved (by rw [hv]; exact Vm.Alike.refl _) h.2.1, va_OF.moved (by rw [hv]; exact Vm.Alike.refl _) h.2.2.1, va_T.moved (by rw [hv]; exact Vm.Alike.refl _) h.2.2.2⟩,
   fun _ _ _ _ h hq => ⟨h.1.kept hq, h.2.1.kept hq, h.2.2.1.kept hq, h.2.2.2.kept hq⟩,
   fun _ _ _ _ h hq => ⟨h.1.narrow hq, h.2.1.narrow hq, h.2.2.1.narrow hq, h.2.2.2.narrow hq⟩⟩
def jTab (b n : Nat) (f : Nat → Value) : jFz := fun U H A => va_T .byte b n f A U H
theorem jTab_ok (b n : Nat) (f : Nat → Value) : jzok (jTab b n f) :=
  ⟨fun _ _ _ _ hW h => va_T.moved hW.alike h, fun _ _ _ _ hv h => va_T.moved (by rw [hv]; exact Vm.Alike.refl _) h, fun _ _ _ _ h hq => va_T.kept h hq, fun _ _ _ _ h hq => va_T.narrow h hq⟩
theorem j_comp : ∀ U H A, jZ U H A → va_Z "java/lang/String" "COMPACT_STRINGS" "Z" (.int 1) A U H := fun _ _ _ h => h.2.2.2.2.2.1.1
theorem j_siob : ∀ U H A, jZ U H A → va_Zq "jdk/internal/util/Preconditions" "SIOOBE_FORMATTER" "Ljava/util/function/BiFunction;" A U H := fun _ _ _ h => h.2.2.2.2.2.1.2.1
set_option maxHeartbeats 4000000 in
set_option maxRecDepth 100000 in
theorem k_J0_coder_7d493 {l : Launch} {D : va_G} {t : Nat → ClassId} {sa b n : Nat} {f : Nat → Value}  : cmz (jStr sa b n f) l D (jT t) yJ0_coder_7d493 cJ0_coder_7d493 1 (some FieldType.byte) { frames := 0, cells := 0, slots := 0, locals := 0 } [.ref sa] [] (fun v w => v = some (.int 0) ∧ w = []) := by
  refine cmz_of RJ0 rfl (by decide +kernel) (Nat.le_of_ble_eq_true rfl) (fun X hX hE hz => ?_)
  change J X 0 0 [] 0 [(0, .ref sa)] []
  refine j_gets hX j_comp q1133 dJ0_coder_7d493_0 ?_
  refine j_if_eq (α := Unit) (F := none) (G := none) (o := none) hX 13 dJ0_coder_7d493_3 (by decide) (ite_self none) (fun hq9 _ => absurd hq9 (by decide)) (fun _ _ => ?_)
  refine j_aload_n hX dJ0_coder_7d493_6 rfl 0 rfl ?_
  refine j_zgetf hX (jXz_mono hz (fun _ _ _ h => h.2.2.1)) q1242 dJ0_coder_7d493_7 ?_
  refine j_goto hX 14 dJ0_coder_7d493_10 (by decide) ?_
  exact j_zret hX hE rfl dJ0_coder_7d493_14 (Nat.le_refl _) (Nat.le_refl _) ⟨rfl, rfl⟩
set_option maxHeartbeats 4000000 in
set_option maxRecDepth 100000 in
theorem k_J0_isLatin1_aae02 {l : Launch} {D : va_G} {t : Nat → ClassId} {sa b n : Nat} {f : Nat → Value}  : cmz (jStr sa b n f) l D (jT t) yJ0_isLatin1_aae02 cJ0_isLatin1_aae02 1 (some FieldType.boolean) { frames := 0, cells := 0, slots := 0, locals := 0 } [.ref sa] [] (fun v w => v = some (.int 1) ∧ w = []) := by
  refine cmz_of RJ0 rfl (by decide +kernel) (Nat.le_of_ble_eq_true rfl) (fun X hX hE hz => ?_)
  change J X 0 0 [] 0 [(0, .ref sa)] []
  refine j_gets hX j_comp q1133 dJ0_isLatin1_aae02_0 ?_
  refine j_if_eq (α := Unit) (F := none) (G := none) (o := none) hX 17 dJ0_isLatin1_aae02_3 (by decide) (ite_self none) (fun hq9 _ => absurd hq9 (by decide)) (fun _ _ => ?_)
  refine j_aload_n hX dJ0_isLatin1_aae02_6 rfl 0 rfl ?_
  refine j_zgetf hX (jXz_mono hz (fun _ _ _ h => h.2.2.1)) q1242 dJ0_isLatin1_aae02_7 ?_
  refine j_if_ne (α := Unit) (F := none) (G := none) (o := none) hX 17 dJ0_isLatin1_aae02_10 (by decide) (ite_self none) (fun hq9 _ => absurd hq9 (by decide)) (fun _ _ => ?_)
  refine j_iconst hX 1 dJ0_isLatin1_aae02_13 (by decide) ?_
  refine j_goto hX 18 dJ0_isLatin1_aae02_14 (by decide) ?_
  exact j_zret hX hE rfl dJ0_isLatin1_aae02_18 (Nat.le_refl _) (Nat.le_refl _) ⟨rfl, rfl⟩
set_option maxHeartbeats 4000000 in
set_option maxRecDepth 100000 in
theorem k_J0_length_8abf5 {l : Launch} {D : va_G} {t : Nat → ClassId} {sa b n : Nat} {f : Nat → Value}  : cmz (jStr sa b n f) l D (jT t) yJ0_length_8abf5 cJ0_length_8abf5 1 (some FieldType.int) { frames := 1, cells := 0, slots := 0, locals := 20 } [.ref sa] [] (fun v w => v = some (.int (Int32.ofNat n)) ∧ w = []) := by
  refine cmz_of RJ0 rfl (by decide +kernel) (Nat.le_of_ble_eq_true rfl) (fun X hX hE hz => ?_)
  change J X 0 0 [] 0 [(0, .ref sa)] []
  refine j_aload_n hX dJ0_length_8abf5_0 rfl 0 rfl ?_
  refine j_zgetf hX (jXz_mono hz (fun _ _ _ h => h.2.1)) q1241 dJ0_length_8abf5_1 ?_
  refine j_zlen hX (jXz_mono hz (fun _ _ _ h => h.2.2.2)) dJ0_length_8abf5_4 ?_
  refine j_aload_n hX dJ0_length_8abf5_5 rfl 0 rfl ?_
  refine jz_callVr (st := [.int (Int32.ofNat n)]) hX (k_J0_coder_7d493 (sa := sa) (b := b) (n := n) (f := f)) hz (jStr_ok _ _ _ _) (jXz_mono hz (fun _ _ _ h => h.1)) q1129 q1130 q1131 q13 q1132 (n9 := 0) rfl ⟨by decide +kernel, by decide +kernel⟩ dJ0_length_8abf5_6 (Nat.le_of_ble_eq_true rfl) ⟨by decide, by decide⟩ (fun w : va_W => w) jFr_id rfl rfl (fun v w hvw => ?_)
  obtain ⟨rfl, rfl⟩ := hvw
  change J X 0 0 [] 9 [(0, .ref sa)] [.int 0, .int (Int32.ofNat n)]
  refine j_ishr hX dJ0_length_8abf5_9 ?_
  rw [sb_shr0]
  exact j_iret hX hE dJ0_length_8abf5_10 (Nat.le_refl _) (Nat.le_refl _) ⟨rfl, rfl⟩
set_option maxHeartbeats 4000000 in
set_option maxRecDepth 100000 in
theorem k_J3_checkIndex_8e157n {l : Launch} {D : va_G} {t : Nat → ClassId} {i n : Int32} (h1 : ¬ i < 0) (h2 : i < n)  : cm l D (jT t) yJ3_checkIndex_8e157 cJ3_checkIndex_8e157 3 (some FieldType.int) { frames := 0, cells := 0, slots := 0, locals := 0 } [.int i, .int n, .null] [] (fun v w => v = some (.int i) ∧ w = []) := by
  refine cm_of RJ3 rfl (by decide +kernel) (Nat.le_of_ble_eq_true rfl) (fun X hX hE => ?_)
  change J X 0 0 [] 0 [(0, .int i), (1, .int n), (2, .null)] []
  refine j_iload_n hX dJ3_checkIndex_8e157_0 rfl 0 rfl ?_
  refine j_if_lt (α := Unit) (F := none) (G := none) (o := none) hX 9 dJ3_checkIndex_8e157_1 (by decide) (ite_self none) (fun hq9 _ => absurd hq9 h1) (fun _ _ => ?_)
  refine j_iload_n hX dJ3_checkIndex_8e157_4 rfl 0 rfl ?_
  refine j_iload_n hX dJ3_checkIndex_8e157_5 rfl 1 rfl ?_
  refine j_icmp_lt (α := Unit) (F := none) (G := none) (o := none) hX 16 dJ3_checkIndex_8e157_6 (by decide) (ite_self none) (fun _ _ => ?_) (fun hq9 _ => absurd h2 hq9)
  refine j_iload_n hX dJ3_checkIndex_8e157_16 rfl 0 rfl ?_
  exact j_iret hX hE dJ3_checkIndex_8e157_17 (Nat.le_refl _) (Nat.le_refl _) ⟨rfl, rfl⟩
set_option maxHeartbeats 4000000 in
set_option maxRecDepth 100000 in
theorem k_J3_checkIndex_8e157r {l : Launch} {D : va_G} {t : Nat → ClassId} {i n : Int32} {t9 : Nat} (h1 : ¬ i < 0) (h2 : i < n)  : cm l D (jT t) yJ3_checkIndex_8e157 cJ3_checkIndex_8e157 3 (some FieldType.int) { frames := 0, cells := 0, slots := 0, locals := 0 } [.int i, .int n, .ref t9] [] (fun v w => v = some (.int i) ∧ w = []) := by
  refine cm_of RJ3 rfl (by decide +kernel) (Nat.le_of_ble_eq_true rfl) (fun X hX hE => ?_)
  change J X 0 0 [] 0 [(0, .int i), (1, .int n), (2, .ref t9)] []
  refine j_iload_n hX dJ3_checkIndex_8e157_0 rfl 0 rfl ?_
  refine j_if_lt (α := Unit) (F := none) (G := none) (o := none) hX 9 dJ3_checkIndex_8e157_1 (by decide) (ite_self none) (fun hq9 _ => absurd hq9 h1) (fun _ _ => ?_)
  refine j_iload_n hX dJ3_checkIndex_8e157_4 rfl 0 rfl ?_
  refine j_iload_n hX dJ3_checkIndex_8e157_5 rfl 1 rfl ?_
  refine j_icmp_lt (α := Unit) (F := none) (G := none) (o := none) hX 16 dJ3_checkIndex_8e157_6 (by decide) (ite_self none) (fun _ _ => ?_) (fun hq9 _ => absurd h2 hq9)
  refine j_iload_n hX dJ3_checkIndex_8e157_16 rfl 0 rfl ?_
  exact j_iret hX hE dJ3_checkIndex_8e157_17 (Nat.le_refl _) (Nat.le_refl _) ⟨rfl, rfl⟩
theorem k_J3_checkIndex_8e157 {l : Launch} {D : va_G} {t : Nat → ClassId} {i n : Int32} {x9 : Value} (hx9 : x9 = .null ∨ ∃ t9 : Nat, x9 = .ref t9) (h1 : ¬ i < 0) (h2 : i < n) : cm l D (jT t) yJ3_checkIndex_8e157 cJ3_checkIndex_8e157 3 (some FieldType.int) { frames := 0, cells := 0, slots := 0, locals := 0 } [.int i, .int n, x9] [] (fun v w => v = some (.int i) ∧ w = []) := by
  rcases hx9 with rfl | ⟨t9, rfl⟩
  · exact k_J3_checkIndex_8e157n h1 h2
  · exact k_J3_checkIndex_8e157r h1 h2
set_option maxHeartbeats 4000000 in
set_option maxRecDepth 100000 in
theorem k_J0_checkIndex_df160 {l : Launch} {D : va_G} {t : Nat → ClassId} {i n : Int32} (h1 : ¬ i < 0) (h2 : i < n)  : cm l D (jT t) yJ0_checkIndex_df160 cJ0_checkIndex_df160 2 none { frames := 1, cells := 0, slots := 0, locals := 22 } [.int i, .int n] [] (fun v w => v = none ∧ w = []) := by
  refine cm_of RJ0 rfl (by decide +kernel) (Nat.le_of_ble_eq_true rfl) (fun X hX hE => ?_)
  change J X 0 0 [] 0 [(0, .int i), (1, .int n)] []
  refine j_iload_n hX dJ0_checkIndex_df160_0 rfl 0 rfl ?_
  refine j_iload_n hX dJ0_checkIndex_df160_1 rfl 1 rfl ?_
  refine j_getsq hX j_siob q1115 dJ0_checkIndex_df160_2 (fun x9 hx9 => ?_)
  refine j_callS (st := []) hX (k_J3_checkIndex_8e157 (i := i) (n := n) hx9 h1 h2)  q1285 q1286 q33 q1287 (n9 := 3) rfl ⟨by decide +kernel, by decide +kernel⟩ dJ0_checkIndex_df160_5 (Nat.le_of_ble_eq_true rfl) ⟨by decide, by decide⟩ (fun w : va_W => w) jFr_id rfl rfl (fun v w hvw => ?_)
  obtain ⟨rfl, rfl⟩ := hvw
  change J X 0 0 [] 8 [(0, .int i), (1, .int n)] [.int i]
  refine j_pop hX dJ0_checkIndex_df160_8 rfl ?_
  exact j_vret hX hE dJ0_checkIndex_df160_9 (Nat.le_refl _) (Nat.le_refl _) ⟨rfl, rfl⟩
/-- a byte below 128, read as a letter -/
theorem jAsc : ∀ c : Nat, c < 128 → (((Int32.ofNat c) &&& 255).toUInt32 % 65536).toInt32 = Int32.ofNat c := by decide +kernel
set_option maxHeartbeats 4000000 in
set_option maxRecDepth 100000 in
theorem k_J1_charAt_3b067 {l : Launch} {D : va_G} {t : Nat → ClassId} {b n k c : Nat} {f : Nat → Value} (hn : n < 2 ^ 31) (hk : k < n) (hfk : f k = .int (Int32.ofNat c)) (hc : c < 128)  : cmz (jTab b n f) l D (jT t) yJ1_charAt_3b067 cJ1_charAt_3b067 2 (some FieldType.char) { frames := 2, cells := 0, slots := 0, locals := 43 } [.ref b, .int (nI k)] [] (fun v w => v = some (.int (Int32.ofNat c)) ∧ w = []) := by
  refine cmz_of RJ1 rfl (by decide +kernel) (Nat.le_of_ble_eq_true rfl) (fun X hX hE hz => ?_)
  change J X 0 0 [] 0 [(0, .ref b), (1, .int (nI k))] []
  refine j_iload_n hX dJ1_charAt_3b067_0 rfl 1 rfl ?_
  refine j_aload_n hX dJ1_charAt_3b067_1 rfl 0 rfl ?_
  refine j_zlen hX hz dJ1_charAt_3b067_2 ?_
  refine j_callS (st := []) hX (k_J0_checkIndex_df160 (i := nI k) (n := Int32.ofNat n) (nI_pos (by omega)) (nI_lt hk hn))  q1362 q1283 q13 q1284 (n9 := 2) rfl ⟨by decide +kernel, by decide +kernel⟩ dJ1_charAt_3b067_3 (Nat.le_of_ble_eq_true rfl) ⟨by decide, by decide⟩ (fun w : va_W => w) jFr_id rfl rfl (fun v w hvw => ?_)
  obtain ⟨rfl, rfl⟩ := hvw
  change J X 0 0 [] 6 [(0, .ref b), (1, .int (nI k))] []
  refine j_aload_n hX dJ1_charAt_3b067_6 rfl 0 rfl ?_
  refine j_iload_n hX dJ1_charAt_3b067_7 rfl 1 rfl ?_
  refine j_zbald (v := .int (Int32.ofNat c)) hX hz (vp_in_nI hk hn) (by rw [nI_clamp (by omega)]; exact hfk) dJ1_charAt_3b067_8 ?_
  refine j_sipush hX 255 dJ1_charAt_3b067_9 (by decide) ?_
  refine j_iand hX dJ1_charAt_3b067_12 ?_
  refine j_i2c hX dJ1_charAt_3b067_13 ?_
  rw [jAsc c hc]
  exact j_zret hX hE (pk_charN (by omega)).1 dJ1_charAt_3b067_14 (Nat.le_refl _) (Nat.le_refl _) ⟨rfl, rfl⟩
set_option maxHeartbeats 4000000 in
set_option maxRecDepth 100000 in
theorem k_J0_charAt_5068e {l : Launch} {D : va_G} {t : Nat → ClassId} {sa b n k c : Nat} {f : Nat → Value} (hn : n < 2 ^ 31) (hk : k < n) (hfk : f k = .int (Int32.ofNat c)) (hc : c < 128)  : cmz (jStr sa b n f) l D (jT t) yJ0_charAt_5068e cJ0_charAt_5068e 2 (some FieldType.char) { frames := 3, cells := 0, slots := 0, locals := 64 } [.ref sa, .int (nI k)] [] (fun v w => v = some (.int (Int32.ofNat c)) ∧ w = []) := by
  refine cmz_of RJ0 rfl (by decide +kernel) (Nat.le_of_ble_eq_true rfl) (fun X hX hE hz => ?_)
  change J X 0 0 [] 0 [(0, .ref sa), (1, .int (nI k))] []
  refine j_aload_n hX dJ0_charAt_5068e_0 rfl 0 rfl ?_
  refine jz_callVr (st := []) hX (k_J0_isLatin1_aae02 (sa := sa) (b := b) (n := n) (f := f)) hz (jStr_ok _ _ _ _) (jXz_mono hz (fun _ _ _ h => h.1)) q1355 q1356 q1357 q13 q1358 (n9 := 0) rfl ⟨by decide +kernel, by decide +kernel⟩ dJ0_charAt_5068e_1 (Nat.le_of_ble_eq_true rfl) ⟨by decide, by decide⟩ (fun w : va_W => w) jFr_id rfl rfl (fun v w hvw => ?_)
  obtain ⟨rfl, rfl⟩ := hvw
  change J X 0 0 [] 4 [(0, .ref sa), (1, .int (nI k))] [.int 1]
  refine j_if_eq (α := Unit) (F := none) (G := none) (o := none) hX 16 dJ0_charAt_5068e_4 (by decide) (ite_self none) (fun hq9 _ => absurd hq9 (by decide)) (fun _ _ => ?_)
  refine j_aload_n hX dJ0_charAt_5068e_7 rfl 0 rfl ?_
  refine j_zgetf hX (jXz_mono hz (fun _ _ _ h => h.2.1)) q1241 dJ0_charAt_5068e_8 ?_
  refine j_iload_n hX dJ0_charAt_5068e_11 rfl 1 rfl ?_
  refine jz_callS (st := []) hX (k_J1_charAt_3b067 (b := b) (n := n) (k := k) (f := f) hn hk hfk hc) (jXz_mono hz (fun _ _ _ h => h.2.2.2)) (jTab_ok _ _ _) q1359 q1360 q34 q1361 (n9 := 2) rfl ⟨by decide +kernel, by decide +kernel⟩ dJ0_charAt_5068e_12 (Nat.le_of_ble_eq_true rfl) ⟨by decide, by decide⟩ (fun w : va_W => w) jFr_id rfl rfl (fun v w hvw => ?_)
  obtain ⟨rfl, rfl⟩ := hvw
  change J X 0 0 [] 15 [(0, .ref sa), (1, .int (nI k))] [.int (Int32.ofNat c)]
  exact j_zret hX hE (pk_charN (by omega)).1 dJ0_charAt_5068e_15 (Nat.le_refl _) (Nat.le_refl _) ⟨rfl, rfl⟩
def jFi : Nat → Nat := fun k => match k with | 0 => 39 | 1 => 41 | 2 => 43 | 3 => 45 | 4 => 47 | 5 => 49 | 6 => 51 | 7 => 53 | 8 => 55 | _ => 57
def jFt : Nat → String := fun k => match k with | 0 => "hammer N D" | 1 => "move N D" | 2 => "swap DDD" | 3 => "ask D N~N N-N" | 4 => "drop N" | 5 => "grant N" | 6 => "most" | 7 => "back N N D" | 8 => "face N" | _ => "day"
def jFl (k : Nat) : Nat := (jFt k).toList.length
def jFo (k j : Nat) : Nat := ((jFt k).toList.getD j (Char.ofNat 0)).toNat
def jFc (k j : Nat) : Int32 := Int32.ofNat (jFo k j)
theorem jF_ten {P : Nat → Prop} (h : ∀ k, k < 10 → P k) (hd : ∀ k, 10 ≤ k → (P 9 → P k)) (k : Nat) : P k := by
  by_cases hk : k < 10
  · exact h k hk
  · exact hd k (by omega) (h 9 (by omega))
theorem jFt_9 (k : Nat) (h : 10 ≤ k) : jFt k = jFt 9 ∧ jFi k = jFi 9 := by
  match k, h with
  | k + 10, _ => exact ⟨rfl, rfl⟩
theorem jFl_9 (k : Nat) (h : 10 ≤ k) : jFl k = jFl 9 ∧ ∀ j, jFo k j = jFo 9 j := by
  unfold jFl jFo
  rw [(jFt_9 k h).1]
  exact ⟨rfl, fun _ => rfl⟩
theorem jFl_lt (k : Nat) : jFl k < 16 := jF_ten (P := fun k => jFl k < 16) (by decide +kernel) (fun k h q => by rw [(jFl_9 k h).1]; exact q) k
theorem jFo_lt0 : ∀ k, k < 10 → ∀ j, j < 16 → jFo k j < 128 := by decide +kernel
theorem jFo_lt (k j : Nat) : jFo k j < 128 := by
  by_cases hj : j < 16
  · exact jF_ten (P := fun k => jFo k j < 128) (fun k hk => jFo_lt0 k hk j hj) (fun k h q => by rw [(jFl_9 k h).2]; exact q) k
  · have : jFo k j = 0 := by
      unfold jFo
      rw [List.getD_eq_getElem?_getD, List.getElem?_eq_none (by have := jFl_lt k; unfold jFl at this; omega)]
      rfl
    omega
theorem jFm_in (k : Nat) : (RX6, jFi k, jFt k) ∈ jForms := by
  have h : ∀ k, k < 10 → jForms[k]? = some (RX6, jFi k, jFt k) := by decide +kernel
  exact jF_ten (P := fun k => (RX6, jFi k, jFt k) ∈ jForms) (fun k hk => List.mem_of_getElem? (h k hk)) (fun k h q => by rw [(jFt_9 k h).1, (jFt_9 k h).2]; exact q) k
/-- the forms' Strings lie at fa -/
def jFm (fa : Nat → Nat) : jFz := fun U H A => ∀ k : Nat, vk_R RX6 (jFi k) (jFt k) (fa k) U ∧ ∃ b : Nat, jStr (fa k) b (jFl k) (jBytes (jFt k)) U H A
theorem jFm_ok (fa : Nat → Nat) : jzok (jFm fa) :=
  ⟨fun _ _ _ _ hW h k => ⟨vk_R.warm hW (h k).1, by obtain ⟨b, q⟩ := (h k).2; exact ⟨b, (jStr_ok _ _ _ _).1 _ _ _ _ hW q⟩⟩,
   fun _ _ _ _ hv h k => ⟨vk_R.same hv (h k).1, by obtain ⟨b, q⟩ := (h k).2; exact ⟨b, (jStr_ok _ _ _ _).2.1 _ _ _ _ hv q⟩⟩,
   fun _ _ _ _ h hq k => ⟨(h k).1, by obtain ⟨b, q⟩ := (h k).2; exact ⟨b, (jStr_ok _ _ _ _).2.2.1 _ _ _ _ q hq⟩⟩,
   fun _ _ _ _ h hq k => ⟨(h k).1, by obtain ⟨b, q⟩ := (h k).2; exact ⟨b, (jStr_ok _ _ _ _).2.2.2 _ _ _ _ q hq⟩⟩⟩
theorem j_forms {X : jX} {l0 : Launch} {D0 : va_G} {T0 : List (ClassId × FieldType)} {cc : ByteArray} {own : String} {rt : Option FieldType} {rm : Room} {nL : Nat} (h : jOK X l0 D0 T0 cc own rt rm nL) : ∃ fa : Nat → Nat, jXz X (jFm fa) := by
  obtain ⟨p, l, e, R, s, m, args, below, meth, c, D, T, A, nL1, Q⟩ := X
  obtain ⟨hx, hb, ⟨rfl, rfl, rfl, rfl, rfl⟩, hr, hown, hts, hnw, hK, hA, hml, hlocks, hZ⟩ := h
  have h0 : ∀ k : Nat, ∃ sa : Nat, vk_R RX6 (jFi k) (jFt k) sa s ∧ ∃ b : Nat, jStr sa b (jFl k) (jBytes (jFt k)) s s.heap A := by
    intro k
    obtain ⟨sa, b, z1, z2, z3, z4, z5⟩ := hZ.2.2.2.2.2.2.2.1 _ (jFm_in k)
    exact ⟨sa, z1, b, z2, z3, z4, z5⟩
  obtain ⟨fa, hfa⟩ := Classical.axiomOfChoice h0
  exact ⟨fa, hfa⟩
def jKd (x : Int32) : Nat := if x = 0 then 0 else
  if x = 1 then 1 else
  if x = 2 then 2 else
  if x = 3 then 3 else
  if x = 4 then 4 else
  if x = 5 then 5 else
  if x = 6 then 6 else
  if x = 7 then 7 else
  if x = 8 then 8 else 9
set_option maxHeartbeats 4000000 in
set_option maxRecDepth 100000 in
theorem k_X6_formOf {l : Launch} {D : va_G} {t : Nat → ClassId} {fa : Nat → Nat} {a0 : Int32}  : cmz (jFm fa) l D (jT t) yX6_formOf cX6_formOf 1 (some (FieldType.object "java/lang/String")) { frames := 0, cells := 0, slots := 0, locals := 0 } [.int a0] [] (fun v w => v = some (.ref (fa (jKd a0))) ∧ w = []) := by
  refine cmz_of RX6 rfl (by decide +kernel) (Nat.le_of_ble_eq_true rfl) (fun X hX hE hz => ?_)
  change J X 0 0 [] 0 [(0, .int a0)] []
  refine j_iload_n hX dX6_formOf_0 rfl 0 rfl ?_
  by_cases n0 : a0 = 0
  · refine j_tab_c hX 79 dX6_formOf_1 [(0, 52), (1, 55), (2, 58), (3, 61), (4, 64), (5, 67), (6, 70), (7, 73), (8, 76)] (by decide) 0 n0 rfl ?_
    refine j_zldc hX (jXz_mono hz (fun _ _ _ h => (h 0).1)) dX6_formOf_52 ?_
    exact j_aret hX hE (Or.inl ⟨_, rfl⟩) dX6_formOf_54 (Nat.le_refl _) (Nat.le_refl _) ⟨by rw [n0]; rfl, rfl⟩
  by_cases n1 : a0 = 1
  · refine j_tab_c hX 79 dX6_formOf_1 [(0, 52), (1, 55), (2, 58), (3, 61), (4, 64), (5, 67), (6, 70), (7, 73), (8, 76)] (by decide) 1 n1 rfl ?_
    refine j_zldc hX (jXz_mono hz (fun _ _ _ h => (h 1).1)) dX6_formOf_55 ?_
    exact j_aret hX hE (Or.inl ⟨_, rfl⟩) dX6_formOf_57 (Nat.le_refl _) (Nat.le_refl _) ⟨by rw [n1]; rfl, rfl⟩
  by_cases n2 : a0 = 2
  · refine j_tab_c hX 79 dX6_formOf_1 [(0, 52), (1, 55), (2, 58), (3, 61), (4, 64), (5, 67), (6, 70), (7, 73), (8, 76)] (by decide) 2 n2 rfl ?_
    refine j_zldc hX (jXz_mono hz (fun _ _ _ h => (h 2).1)) dX6_formOf_58 ?_
    exact j_aret hX hE (Or.inl ⟨_, rfl⟩) dX6_formOf_60 (Nat.le_refl _) (Nat.le_refl _) ⟨by rw [n2]; rfl, rfl⟩
  by_cases n3 : a0 = 3
  · refine j_tab_c hX 79 dX6_formOf_1 [(0, 52), (1, 55), (2, 58), (3, 61), (4, 64), (5, 67), (6, 70), (7, 73), (8, 76)] (by decide) 3 n3 rfl ?_
    refine j_zldc hX (jXz_mono hz (fun _ _ _ h => (h 3).1)) dX6_formOf_61 ?_
    exact j_aret hX hE (Or.inl ⟨_, rfl⟩) dX6_formOf_63 (Nat.le_refl _) (Nat.le_refl _) ⟨by rw [n3]; rfl, rfl⟩
  by_cases n4 : a0 = 4
  · refine j_tab_c hX 79 dX6_formOf_1 [(0, 52), (1, 55), (2, 58), (3, 61), (4, 64), (5, 67), (6, 70), (7, 73), (8, 76)] (by decide) 4 n4 rfl ?_
    refine j_zldc hX (jXz_mono hz (fun _ _ _ h => (h 4).1)) dX6_formOf_64 ?_
    exact j_aret hX hE (Or.inl ⟨_, rfl⟩) dX6_formOf_66 (Nat.le_refl _) (Nat.le_refl _) ⟨by rw [n4]; rfl, rfl⟩
  by_cases n5 : a0 = 5
  · refine j_tab_c hX 79 dX6_formOf_1 [(0, 52), (1, 55), (2, 58), (3, 61), (4, 64), (5, 67), (6, 70), (7, 73), (8, 76)] (by decide) 5 n5 rfl ?_
    refine j_zldc hX (jXz_mono hz (fun _ _ _ h => (h 5).1)) dX6_formOf_67 ?_
    exact j_aret hX hE (Or.inl ⟨_, rfl⟩) dX6_formOf_69 (Nat.le_refl _) (Nat.le_refl _) ⟨by rw [n5]; rfl, rfl⟩
  by_cases n6 : a0 = 6
  · refine j_tab_c hX 79 dX6_formOf_1 [(0, 52), (1, 55), (2, 58), (3, 61), (4, 64), (5, 67), (6, 70), (7, 73), (8, 76)] (by decide) 6 n6 rfl ?_
    refine j_zldc hX (jXz_mono hz (fun _ _ _ h => (h 6).1)) dX6_formOf_70 ?_
    exact j_aret hX hE (Or.inl ⟨_, rfl⟩) dX6_formOf_72 (Nat.le_refl _) (Nat.le_refl _) ⟨by rw [n6]; rfl, rfl⟩
  by_cases n7 : a0 = 7
  · refine j_tab_c hX 79 dX6_formOf_1 [(0, 52), (1, 55), (2, 58), (3, 61), (4, 64), (5, 67), (6, 70), (7, 73), (8, 76)] (by decide) 7 n7 rfl ?_
    refine j_zldc hX (jXz_mono hz (fun _ _ _ h => (h 7).1)) dX6_formOf_73 ?_
    exact j_aret hX hE (Or.inl ⟨_, rfl⟩) dX6_formOf_75 (Nat.le_refl _) (Nat.le_refl _) ⟨by rw [n7]; rfl, rfl⟩
  by_cases n8 : a0 = 8
  · refine j_tab_c hX 79 dX6_formOf_1 [(0, 52), (1, 55), (2, 58), (3, 61), (4, 64), (5, 67), (6, 70), (7, 73), (8, 76)] (by decide) 8 n8 rfl ?_
    refine j_zldc hX (jXz_mono hz (fun _ _ _ h => (h 8).1)) dX6_formOf_76 ?_
    exact j_aret hX hE (Or.inl ⟨_, rfl⟩) dX6_formOf_78 (Nat.le_refl _) (Nat.le_refl _) ⟨by rw [n8]; rfl, rfl⟩
  refine j_tab_d hX 79 dX6_formOf_1 [(0, 52), (1, 55), (2, 58), (3, 61), (4, 64), (5, 67), (6, 70), (7, 73), (8, 76)] (by decide) ⟨n0, n1, n2, n3, n4, n5, n6, n7, n8, trivial⟩ ?_
  refine j_zldc hX (jXz_mono hz (fun _ _ _ h => (h 9).1)) dX6_formOf_79 ?_
  exact j_aret hX hE (Or.inl ⟨_, rfl⟩) dX6_formOf_81 (Nat.le_refl _) (Nat.le_refl _) ⟨by unfold jKd; rw [if_neg n0, if_neg n1, if_neg n2, if_neg n3, if_neg n4, if_neg n5, if_neg n6, if_neg n7, if_neg n8], rfl⟩
section JForms
variable {X : jX} {l0 : Launch} {D0 : va_G} {t : Nat → ClassId} {cc : ByteArray} {own : String} {rt : Option FieldType} {rm : Room} {nL : Nat} {a b : Nat} {ws : va_W} {pc index : Nat} {ls : List (Nat × Value)} {st : List Value}
theorem j_flen (h : jOK X l0 D0 (jT t) cc own rt rm nL) {fa : Nat → Nat} (hz : jXz X (jFm fa)) {k : Nat} (m1 : Cond.methodLink own index yJ0_length_8abf5 ∈ GW) (dd : decode cc pc = .ok (.invokevirtual index, 3)) (hst : (st.map fun v => v.category).sum ≤ 8) (hrm : 2 ≤ rm.frames ∧ 40 ≤ rm.locals) (hcs : a ≤ rm.cells ∧ b ≤ rm.slots)
    (kk : J X a b ws (pc + 3) ls (.int (nI (jFl k)) :: st)) : J X a b ws pc ls (.ref (fa k) :: st) := by
  obtain ⟨b9, h9⟩ : ∃ b9, jXz X (jStr (fa k) b9 (jFl k) (jBytes (jFt k))) := by
    obtain ⟨p, l, e, R, s, m, args, below, meth, c, D, T, A, nL1, Q⟩ := X
    exact (hz k).2
  refine jz_callVr (st := st) h (k_J0_length_8abf5 (sa := fa k) (b := b9) (n := jFl k) (f := jBytes (jFt k))) h9 (jStr_ok _ _ _ _) (jXz_mono h9 (fun _ _ _ h => h.1)) m1 q1126 q1127 q13 q1128 (n9 := 0) rfl ⟨by decide +kernel, ⟨by show 1 + 1 ≤ _; omega, by show 8 + (1 + 11) + 20 ≤ _; omega⟩⟩ dd hst ⟨hcs.1, hcs.2⟩ (fun w : va_W => w ++ ws) (jFr_r _) rfl rfl (fun v w hvw => ?_)
  obtain ⟨rfl, rfl⟩ := hvw
  exact kk
theorem j_fch (h : jOK X l0 D0 (jT t) cc own rt rm nL) {α : Type} {G : Option α} {o : α} {fa : Nat → Nat} (hz : jXz X (jFm fa)) {k : Nat} {i : Int32} (m1 : Cond.methodLink own index yJ0_charAt_5068e ∈ GW) (dd : decode cc pc = .ok (.invokevirtual index, 3)) (hst : (st.map fun v => v.category).sum ≤ 8) (hrm : 4 ≤ rm.frames ∧ 85 ≤ rm.locals) (hcs : a ≤ rm.cells ∧ b ≤ rm.slots) (hf : (if jin i (jFl k) = true then G else none) = some o)
    (kk : jin i (jFl k) = true → G = some o → J X a b ws (pc + 3) ls (.int (jFc k i.toNatClampNeg) :: st)) : J X a b ws pc ls (.int i :: .ref (fa k) :: st) := by
  obtain ⟨hi, hG⟩ := jif hf
  obtain ⟨b9, h9⟩ : ∃ b9, jXz X (jStr (fa k) b9 (jFl k) (jBytes (jFt k))) := by
    obtain ⟨p, l, e, R, s, m, args, below, meth, c, D, T, A, nL1, Q⟩ := X
    exact (hz k).2
  have hi2 := hi
  simp only [jin, Bool.and_eq_true, decide_eq_true_eq] at hi2
  have e1 : nI i.toNatClampNeg = i := by
    have q1 : (0 : Int) ≤ i.toInt := by have := Int32.not_lt.mp hi2.1; simpa using Int32.le_iff_toInt_le.mp this
    apply Int32.toInt_inj.mp
    rw [nI_toInt (by have := jFl_lt k; omega)]
    show ((i.toInt.toNat : Nat) : Int) = _
    omega
  have e2 : (.int i : Value) :: .ref (fa k) :: st = [Value.int (nI i.toNatClampNeg)].reverse ++ .ref (fa k) :: st := by rw [e1]; rfl
  refine jz_callVr (st := st) h (k_J0_charAt_5068e (sa := fa k) (b := b9) (n := jFl k) (k := i.toNatClampNeg) (c := jFo k i.toNatClampNeg) (f := jBytes (jFt k)) (by have := jFl_lt k; omega) hi2.2 rfl (jFo_lt _ _)) h9 (jStr_ok _ _ _ _) (jXz_mono h9 (fun _ _ _ h => h.1)) m1 q1352 q1353 q13 q1354 (n9 := 1) rfl ⟨by decide +kernel, ⟨by show 3 + 1 ≤ _; omega, by show 8 + (2 + 11) + 64 ≤ _; omega⟩⟩ dd hst ⟨hcs.1, hcs.2⟩ (fun w : va_W => w ++ ws) (jFr_r _) rfl e2 (fun v w hvw => ?_)
  obtain ⟨rfl, rfl⟩ := hvw
  exact kk hi hG
theorem j_fof (h : jOK X l0 D0 (jT t) cc RX6 rt rm nL) {fa : Nat → Nat} (hz : jXz X (jFm fa)) {a0 : Int32} (m1 : Cond.methodLink RX6 index yX6_formOf ∈ GW) (dd : decode cc pc = .ok (.invokestatic index, 3)) (hst : (st.map fun v => v.category).sum ≤ 8) (hrm : 1 ≤ rm.frames ∧ 20 ≤ rm.locals) (hcs : a ≤ rm.cells ∧ b ≤ rm.slots)
    (kk : J X a b ws (pc + 3) ls (.ref (fa (jKd a0)) :: st)) : J X a b ws pc ls (.int a0 :: st) := by
  refine jz_callS (st := st) h (k_X6_formOf (fa := fa) (a0 := a0)) hz (jFm_ok _) m1 q1348 q10 q1349 (n9 := 1) rfl ⟨by decide +kernel, ⟨by show 0 + 1 ≤ _; omega, by show 8 + (1 + 11) + 0 ≤ _; omega⟩⟩ dd hst ⟨hcs.1, hcs.2⟩ (fun w : va_W => w ++ ws) (jFr_r _) rfl rfl (fun v w hvw => ?_)
  obtain ⟨rfl, rfl⟩ := hvw
  exact kk
end JForms

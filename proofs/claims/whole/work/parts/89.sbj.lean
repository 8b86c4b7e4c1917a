/-! TEXTS: lists of items, the latest first: (0, c) a letter, (1, x) a number -/
abbrev ztIt : Type := Int32 × Int32
def ztW (it : ztIt) : Nat := if it.1 = 0 then 1 else sb_dg it.2.toNatClampNeg
def ztWs : List ztIt → Nat
  | [] => 0
  | it :: l => ztWs l + ztW it
def ztAt : List ztIt → Nat → Int32
  | [], _ => 0
  | it :: l, i => if i < ztWs l then ztAt l i else if it.1 = 0 then it.2 else nI (48 + it.2.toNatClampNeg / 10 ^ (sb_dg it.2.toNatClampNeg - 1 - (i - ztWs l)) % 10)
def ztOk : List ztIt → Bool
  | [] => true
  | it :: l => decide (¬ it.2 < 0) && decide (it.2.toNatClampNeg < if it.1 = 0 then 128 else 1000000) && decide (ztWs (it :: l) ≤ 20) && ztOk l
/-- the StringBuilder's bytes f, of room m, hold the text l -/
def ztSb (l : List ztIt) (m : Nat) (f : Nat → Int32) : Prop := ztWs l ≤ 20 ∧ ztWs l ≤ m ∧ m ≤ 42 ∧ zA f ∧ ∀ i, i < ztWs l → f i = ztAt l i
theorem z_self {x : Int32} (h : ¬ x < 0) : nI x.toNatClampNeg = x := by
  have q1 : (0 : Int) ≤ x.toInt := by have := Int32.not_lt.mp h; simpa using Int32.le_iff_toInt_le.mp this
  have q2 := Int32.toInt_lt x
  apply Int32.toInt_inj.mp
  rw [nI_toInt (by show x.toInt.toNat < _; omega)]
  show ((x.toInt.toNat : Nat) : Int) = _
  omega
theorem ztWs_c (c : Int32) (l : List ztIt) : ztWs ((0, c) :: l) = ztWs l + 1 := by
  show ztWs l + ztW (0, c) = _
  unfold ztW
  rw [if_pos rfl]
theorem ztWs_n (x : Int32) (l : List ztIt) : ztWs ((1, x) :: l) = ztWs l + sb_dg x.toNatClampNeg := by
  show ztWs l + ztW (1, x) = _
  unfold ztW
  exact congrArg (ztWs l + ·) (if_neg (show ¬ (1 : Int32) = 0 by decide))
theorem sb_dg_e {x e : Nat} (hx : x < 1000000) (h : zDl x e) : sb_dg x = e + 1 := by
  have l := zDl_lt h
  have he := h.1
  have g : ∀ i, i < e → 10 ^ (i + 1) ≤ x := fun i hi => zDl_ge h hi
  unfold sb_dg
  rcases (show e = 0 ∨ e = 1 ∨ e = 2 ∨ e = 3 ∨ e = 4 ∨ e = 5 by omega) with rfl | rfl | rfl | rfl | rfl | rfl
  · have l : x < 10 := l
    rw [if_pos l]
  · have l : x < 100 := l
    have g0 : 10 ≤ x := g 0 (by omega)
    rw [if_neg (by omega), if_pos l]
  · have l : x < 1000 := l
    have g0 : 100 ≤ x := g 1 (by omega)
    rw [if_neg (by omega), if_neg (by omega), if_pos l]
  · have l : x < 10000 := l
    have g0 : 1000 ≤ x := g 2 (by omega)
    rw [if_neg (by omega), if_neg (by omega), if_neg (by omega), if_pos l]
  · have l : x < 100000 := l
    have g0 : 10000 ≤ x := g 3 (by omega)
    rw [if_neg (by omega), if_neg (by omega), if_neg (by omega), if_neg (by omega), if_pos l]
  · have g0 : 100000 ≤ x := g 4 (by omega)
    rw [if_neg (by omega), if_neg (by omega), if_neg (by omega), if_neg (by omega), if_neg (by omega), if_pos hx]
theorem sb_dg_ex {x : Nat} (hx : x < 1000000) : ∃ e, zDl x e ∧ sb_dg x = e + 1 := by
  obtain ⟨e, e5, e9, el, -⟩ := x10_power hx
  exact ⟨e, ⟨e5, e9, el⟩, sb_dg_e hx ⟨e5, e9, el⟩⟩
theorem ztOk_c {c : Int32} {l : List ztIt} (h : ztOk ((0, c) :: l) = true) : ∃ k, k < 128 ∧ c = nI k ∧ ztWs l + 1 ≤ 20 ∧ ztOk l = true := by
  simp only [ztOk, Bool.and_eq_true, decide_eq_true_eq] at h
  obtain ⟨⟨⟨h1, h2⟩, h3⟩, h4⟩ := h
  rw [if_pos trivial] at h2
  rw [ztWs_c] at h3
  exact ⟨_, h2, (z_self h1).symm, h3, h4⟩
theorem ztOk_n {x : Int32} {l : List ztIt} (h : ztOk ((1, x) :: l) = true) : ∃ k e, k < 1000000 ∧ x = nI k ∧ zDl k e ∧ sb_dg k = e + 1 ∧ ztWs ((1, x) :: l) = ztWs l + e + 1 ∧ ztWs l + e + 1 ≤ 20 ∧ ztOk l = true := by
  simp only [ztOk, Bool.and_eq_true, decide_eq_true_eq] at h
  obtain ⟨⟨⟨h1, h2⟩, h3⟩, h4⟩ := h
  rw [if_neg (by decide)] at h2
  obtain ⟨e, he, hs⟩ := sb_dg_ex h2
  rw [ztWs_n, hs] at h3
  exact ⟨_, e, h2, (z_self h1).symm, he, hs, by rw [ztWs_n, hs]; rfl, h3, h4⟩
section JSbRows
variable {X : jX} {l0 : Launch} {D0 : va_G} {t : Nat → ClassId} {cc : ByteArray} {rt : Option FieldType} {rm : Room} {nL : Nat} {a b : Nat} {ws : va_W} {pc index : Nat} {ls : List (Nat × Value)} {st : List Value} {o z m : Nat} {f : Nat → Int32} {ml : Int32} {l : List ztIt}
theorem j_sbC {α : Type} {G : Option α} {o9 : α} (h : jOK X l0 D0 (jT t) cc RX9 rt rm nL) {c : Int32} (hs : ztSb l m f) (m1 : Cond.methodLink RX9 index yJ4_append_cf468 ∈ GW) (d : decode cc pc = .ok (.invokevirtual index, 3)) (hf : (if ztOk ((0, c) :: l) = true then G else none) = some o9) (hst : (st.map fun v => v.category).sum ≤ 8) (hrm : 6 ≤ rm.frames ∧ 170 ≤ rm.locals) (hr : a + 1 ≤ rm.cells ∧ b + 100 ≤ rm.slots) (fr : va_W → va_W) (hfr : jFr fr) (hw : ws = fr (wQ t o z m f ml (nI (ztWs l))))
    (kk : ∀ (z' m' : Nat) (f' : Nat → Int32), ztSb ((0, c) :: l) m' f' → G = some o9 → J X (a + 1) (b + 100) (fr (wQ t o z' m' f' ml (nI (ztWs ((0, c) :: l))))) (pc + 3) ls (.ref o :: st)) : J X a b ws pc ls (.int c :: .ref o :: st) := by
  obtain ⟨hok, hG⟩ := jif hf
  obtain ⟨k, hk, rfl, hk2, -⟩ := ztOk_c hok
  obtain ⟨s1, s2, s3, s4, s5⟩ := hs
  refine j_callV (st := st) h (k_J4_append_cf468 (t := t) (o := o) (z := z) (m := m) (k := ztWs l) (c := k) (f := f) (ml := ml) hk2 s2 s3 s4 hk) m1 q1267 q1268 q12 q1269 (n9 := 1) rfl ⟨by decide +kernel, ⟨hrm.1, by show 8 + (2 + 11) + 145 ≤ _; omega⟩⟩ 0 (ci := 1) rfl rfl rfl d hst hr fr hfr hw rfl (fun v w hvw => ?_)
  obtain ⟨rfl, z', m', f', rfl, g1, g2, g3, g4, g5⟩ := hvw
  have k9 := kk z' m' f' ⟨by rw [ztWs_c]; exact hk2, by rw [ztWs_c]; exact g1, g2, g3, fun i hi => by
    rw [ztWs_c] at hi
    show f' i = if i < ztWs l then ztAt l i else if (0 : Int32) = 0 then nI k else _
    by_cases q : i < ztWs l
    · rw [if_pos q, g4 i q, s5 i q]
    · rw [if_neg q, if_pos rfl, show i = ztWs l by omega, g5]⟩ hG
  rw [ztWs_c] at k9
  exact k9
theorem j_sbI {α : Type} {G : Option α} {o9 : α} (h : jOK X l0 D0 (jT t) cc RX9 rt rm nL) {x : Int32} (hs : ztSb l m f) (m1 : Cond.methodLink RX9 index yJ4_append_bf812 ∈ GW) (d : decode cc pc = .ok (.invokevirtual index, 3)) (hf : (if ztOk ((1, x) :: l) = true then G else none) = some o9) (hst : (st.map fun v => v.category).sum ≤ 8) (hrm : 6 ≤ rm.frames ∧ 170 ≤ rm.locals) (hr : a + 1 ≤ rm.cells ∧ b + 100 ≤ rm.slots) (fr : va_W → va_W) (hfr : jFr fr) (hw : ws = fr (wQ t o z m f ml (nI (ztWs l))))
    (kk : ∀ (z' m' : Nat) (f' : Nat → Int32), ztSb ((1, x) :: l) m' f' → G = some o9 → J X (a + 1) (b + 100) (fr (wQ t o z' m' f' ml (nI (ztWs ((1, x) :: l))))) (pc + 3) ls (.ref o :: st)) : J X a b ws pc ls (.int x :: .ref o :: st) := by
  obtain ⟨hok, hG⟩ := jif hf
  obtain ⟨k, e, hk, rfl, hd, hs1, hw1, hk2, -⟩ := ztOk_n hok
  obtain ⟨s1, s2, s3, s4, s5⟩ := hs
  refine j_callV (st := st) h (k_J4_append_bf812 (t := t) (o := o) (z := z) (m := m) (k := ztWs l) (x := k) (e := e) (f := f) (ml := ml) hk2 s2 s3 s4 hk hd) m1 q1166 q1167 q12 q1168 (n9 := 1) rfl ⟨by decide +kernel, ⟨hrm.1, by show 8 + (2 + 11) + 147 ≤ _; omega⟩⟩ 0 (ci := 1) rfl rfl rfl d hst hr fr hfr hw rfl (fun v w hvw => ?_)
  obtain ⟨rfl, z', m', f', rfl, g1, g2, g3, g4, g5⟩ := hvw
  have k9 := kk z' m' f' ⟨by rw [hw1]; exact hk2, by rw [hw1]; exact g1, g2, g3, fun i hi => by
    rw [hw1] at hi
    show f' i = if i < ztWs l then ztAt l i else if (1 : Int32) = 0 then nI k else nI (48 + (nI k).toNatClampNeg / 10 ^ (sb_dg (nI k).toNatClampNeg - 1 - (i - ztWs l)) % 10)
    by_cases q : i < ztWs l
    · rw [if_pos q, g4 i q, s5 i q]
    · rw [if_neg q, if_neg (by decide), z_cl (by omega), hs1, show e + 1 - 1 - (i - ztWs l) = e - (i - ztWs l) by omega, ← g5 (i - ztWs l) (by omega), show ztWs l + (i - ztWs l) = i by omega]⟩ hG
  rw [hw1] at k9
  exact k9
theorem j_sb0 (h : jOK X l0 D0 (jT t) cc RX9 rt rm nL) (hs : ztSb l m f) (m1 : Cond.methodLink RX9 index yJ4_setLength_d00df ∈ GW) (d : decode cc pc = .ok (.invokevirtual index, 3)) (hst : (st.map fun v => v.category).sum ≤ 8) (hrm : 6 ≤ rm.frames ∧ 170 ≤ rm.locals) (hr : a + 1 ≤ rm.cells ∧ b + 100 ≤ rm.slots) (fr : va_W → va_W) (hfr : jFr fr) (hw : ws = fr (wQ t o z m f ml (nI (ztWs l))))
    (kk : ∀ (z' m' : Nat) (f' : Nat → Int32) (ml' : Int32), ztSb [] m' f' → J X (a + 1) (b + 100) (fr (wQ t o z' m' f' ml' (nI (ztWs [])))) (pc + 3) ls st) : J X a b ws pc ls (.int 0 :: .ref o :: st) := by
  obtain ⟨s1, s2, s3, s4, s5⟩ := hs
  refine j_callV (st := st) h (k_J4_setLength_d00df (t := t) (o := o) (z := z) (m := m) (k := ztWs l) (f := f) (ml := ml) s1 s3 s4) m1 q1050 q1051 q12 q1052 (n9 := 1) rfl ⟨by decide +kernel, ⟨hrm.1, by show 8 + (2 + 11) + 145 ≤ _; omega⟩⟩ 0 (ci := 1) rfl rfl rfl d hst hr fr hfr hw rfl (fun v w hvw => ?_)
  obtain ⟨rfl, z', m', f', ml', rfl, g2, g3⟩ := hvw
  exact kk z' m' f' ml' ⟨Nat.zero_le _, Nat.zero_le _, g2, g3, fun i hi => absurd hi (Nat.not_lt_zero _)⟩
theorem j_sbL (h : jOK X l0 D0 (jT t) cc RX9 rt rm nL) (m1 : Cond.methodLink RX9 index yJ4_length_8abf5 ∈ GW) (d : decode cc pc = .ok (.invokevirtual index, 3)) (hst : (st.map fun v => v.category).sum ≤ 8) (hrm : 6 ≤ rm.frames ∧ 170 ≤ rm.locals) (hr : a ≤ rm.cells ∧ b ≤ rm.slots) (fr : va_W → va_W) (hfr : jFr fr) (hw : ws = fr (wQ t o z m f ml (nI (ztWs l))))
    (kk : J X a b ws (pc + 3) ls (.int (nI (ztWs l)) :: st)) : J X a b ws pc ls (.ref o :: st) := by
  refine j_callV (st := st) h (k_J4_length_8abf5 (t := t) (o := o) (z := z) (m := m) (f := f) (ml := ml) (n := nI (ztWs l))) m1 q1207 q1892 q12 q1208 (n9 := 0) rfl ⟨by decide +kernel, ⟨by show 1 + 1 ≤ _; omega, by show 8 + (1 + 11) + 20 ≤ _; omega⟩⟩ 0 (ci := 1) rfl rfl rfl d hst ⟨hr.1, hr.2⟩ fr hfr hw rfl (fun v w hvw => ?_)
  obtain ⟨rfl, rfl⟩ := hvw
  rw [← hw]
  exact kk
theorem j_sbAt {α : Type} {G : Option α} {o9 : α} (h : jOK X l0 D0 (jT t) cc RX9 rt rm nL) {i : Int32} (hs : ztSb l m f) (m1 : Cond.methodLink RX9 index yJ4_charAt_5068e ∈ GW) (d : decode cc pc = .ok (.invokevirtual index, 3)) (hf : (if jin i (ztWs l) = true then G else none) = some o9) (hst : (st.map fun v => v.category).sum ≤ 8) (hrm : 6 ≤ rm.frames ∧ 170 ≤ rm.locals) (hr : a ≤ rm.cells ∧ b ≤ rm.slots) (fr : va_W → va_W) (hfr : jFr fr) (hw : ws = fr (wQ t o z m f ml (nI (ztWs l))))
    (kk : G = some o9 → J X a b ws (pc + 3) ls (.int (ztAt l i.toNatClampNeg) :: st)) : J X a b ws pc ls (.int i :: .ref o :: st) := by
  obtain ⟨hi, hG⟩ := jif hf
  have hi2 := hi
  simp only [jin, Bool.and_eq_true, decide_eq_true_eq] at hi2
  have e1 := z_self hi2.1
  obtain ⟨s1, s2, s3, s4, s5⟩ := hs
  have e2 : (.int i : Value) :: .ref o :: st = [Value.int (nI i.toNatClampNeg)].reverse ++ .ref o :: st := by rw [e1]; rfl
  refine j_callV (st := st) h (k_J4_charAt_5068e (t := t) (o := o) (z := z) (m := m) (k := ztWs l) (i := i.toNatClampNeg) (f := f) (ml := ml) hi2.2 s2 s3 s4) m1 q1305 q1306 q12 q1307 (n9 := 1) rfl ⟨by decide +kernel, ⟨by show 3 + 1 ≤ _; omega, by show 8 + (2 + 11) + 67 ≤ _; omega⟩⟩ 0 (ci := 1) rfl rfl rfl d hst ⟨hr.1, hr.2⟩ fr hfr hw e2 (fun v w hvw => ?_)
  obtain ⟨rfl, rfl⟩ := hvw
  rw [← hw, s5 _ hi2.2]
  exact kk hG
end JSbRows

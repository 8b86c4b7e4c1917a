-- HammerDepotModel thrown ()I
def f_X10_thrown (m_thrown : Int32) : Option (Int32) :=
  some m_thrown
set_option maxHeartbeats 4000000 in
set_option maxRecDepth 100000 in
theorem k_X10_thrown {l : Launch} {D : va_G} {t : Nat → ClassId} {ad : Nat → Nat} {o : Nat} (m_m : Nat → Int32) (m_aside : Nat → Int32) (m_saved : Nat → Int32) (m_isSaved : Int32) (m_past : Nat → Int32) (m_changes : Int32) (m_errorAt : Int32) (m_failed : Int32) (m_thrown : Int32) (m_input : Nat → Int32) (m_inputMany : Int32) (m_fitting : Nat → Int32) (m_given : Nat → Int32) (m_pairs : Nat → Int32) (m_line : Nat → Int32) (m_lineMany : Int32) (m_letters : Nat → Int32) (m_begins0 : Nat → Int32) (m_commands : Nat → Int32) (m_commandMany : Int32) (m_place0 : Int32) (m_size0 : Int32) (m_isWrong : Int32)  (u : Int32) (hf : f_X10_thrown m_thrown = some u) : cm l D (jT t) yX10_thrown cX10_thrown 1 (some FieldType.int) { frames := 0, cells := 0, slots := 0, locals := 0 } [.ref (ad o)] (wM t ad o m_m m_aside m_saved m_isSaved m_past m_changes m_errorAt m_failed m_thrown m_input m_inputMany m_fitting m_given m_pairs m_line m_lineMany m_letters m_begins0 m_commands m_commandMany m_place0 m_size0 m_isWrong) (fun v w => v = (some (.int u)) ∧ w = wM t ad o m_m m_aside m_saved m_isSaved m_past m_changes m_errorAt m_failed m_thrown m_input m_inputMany m_fitting m_given m_pairs m_line m_lineMany m_letters m_begins0 m_commands m_commandMany m_place0 m_size0 m_isWrong) := by
  refine cm_of RX10 rfl (by decide +kernel) (Nat.le_of_ble_eq_true rfl) (fun X hX hE => ?_)
  change J X 0 0 (wM t ad o m_m m_aside m_saved m_isSaved m_past m_changes m_errorAt m_failed m_thrown m_input m_inputMany m_fitting m_given m_pairs m_line m_lineMany m_letters m_begins0 m_commands m_commandMany m_place0 m_size0 m_isWrong) 0 [(0, .ref (ad o))] []
  unfold f_X10_thrown at hf
  refine j_aload_n hX dX10_thrown_0 rfl 0 rfl ?_
  refine j_get hX dX10_thrown_1 inX10 8 q1463 0 rfl rfl (by decide) rfl rfl ?_
  cases hf
  exact j_iret hX hE dX10_thrown_4 (Nat.le_refl _) (Nat.le_refl _) ⟨rfl, rfl⟩
-- HammerDepotModel throwing (I)I
def f_X10_throwing (m_thrown : Int32) (a0 : Int32) : Option (Int32 × Int32) :=
  some ((-1), a0)
set_option maxHeartbeats 4000000 in
set_option maxRecDepth 100000 in
theorem k_X10_throwing {l : Launch} {D : va_G} {t : Nat → ClassId} {ad : Nat → Nat} {o : Nat} (m_m : Nat → Int32) (m_aside : Nat → Int32) (m_saved : Nat → Int32) (m_isSaved : Int32) (m_past : Nat → Int32) (m_changes : Int32) (m_errorAt : Int32) (m_failed : Int32) (m_thrown : Int32) (m_input : Nat → Int32) (m_inputMany : Int32) (m_fitting : Nat → Int32) (m_given : Nat → Int32) (m_pairs : Nat → Int32) (m_line : Nat → Int32) (m_lineMany : Int32) (m_letters : Nat → Int32) (m_begins0 : Nat → Int32) (m_commands : Nat → Int32) (m_commandMany : Int32) (m_place0 : Int32) (m_size0 : Int32) (m_isWrong : Int32) (a0 : Int32) (u : Int32 × Int32) (hf : f_X10_throwing m_thrown a0 = some u) : cm l D (jT t) yX10_throwing cX10_throwing 2 (some FieldType.int) { frames := 0, cells := 0, slots := 0, locals := 0 } [.ref (ad o), .int a0] (wM t ad o m_m m_aside m_saved m_isSaved m_past m_changes m_errorAt m_failed m_thrown m_input m_inputMany m_fitting m_given m_pairs m_line m_lineMany m_letters m_begins0 m_commands m_commandMany m_place0 m_size0 m_isWrong) (fun v w => v = (some (.int u.1)) ∧ w = wM t ad o m_m m_aside m_saved m_isSaved m_past m_changes m_errorAt m_failed u.2 m_input m_inputMany m_fitting m_given m_pairs m_line m_lineMany m_letters m_begins0 m_commands m_commandMany m_place0 m_size0 m_isWrong) := by
  refine cm_of RX10 rfl (by decide +kernel) (Nat.le_of_ble_eq_true rfl) (fun X hX hE => ?_)
  change J X 0 0 (wM t ad o m_m m_aside m_saved m_isSaved m_past m_changes m_errorAt m_failed m_thrown m_input m_inputMany m_fitting m_given m_pairs m_line m_lineMany m_letters m_begins0 m_commands m_commandMany m_place0 m_size0 m_isWrong) 0 [(0, .ref (ad o)), (1, .int a0)] []
  unfold f_X10_throwing at hf
  refine j_aload_n hX dX10_throwing_0 rfl 0 rfl ?_
  refine j_iload_n hX dX10_throwing_1 rfl 1 rfl ?_
  refine j_put hX (wM t ad o m_m m_aside m_saved m_isSaved m_past m_changes m_errorAt m_failed a0 m_input m_inputMany m_fitting m_given m_pairs m_line m_lineMany m_letters m_begins0 m_commands m_commandMany m_place0 m_size0 m_isWrong) tyX10 dX10_throwing_2 inX10 tyX10_ok nmX10 8 q1463 0 rfl rfl (by decide) rfl rfl rfl rfl rfl (Nat.le_of_ble_eq_true rfl) rfl ?_
  refine j_iconst hX (-1) dX10_throwing_5 (by decide) ?_
  cases hf
  exact j_iret hX hE dX10_throwing_6 (Nat.le_refl _) (Nat.le_refl _) ⟨rfl, rfl⟩
-- HammerDepotModel in (JJJ)Z
def f_X10_in (a0 : Int64) (a1 : Int64) (a2 : Int64) : Option (Int32) :=
  if (lg_cmp a0 a1) < 0 then
    some 0
  else
    if 0 < (lg_cmp a0 a2) then
      some 0
    else
      some 1
set_option maxHeartbeats 4000000 in
set_option maxRecDepth 100000 in
theorem k_X10_in {l : Launch} {D : va_G} {t : Nat → ClassId} {ad : Nat → Nat}  (a0 : Int64) (a1 : Int64) (a2 : Int64) (u : Int32) (hf : f_X10_in a0 a1 a2 = some u) : cm l D (jT t) yX10_in cX10_in 6 (some FieldType.boolean) { frames := 0, cells := 0, slots := 0, locals := 0 } [.long a0, .long a1, .long a2] ([]) (fun v w => v = (some (.int u)) ∧ w = []) := by
  refine cm_of RX10 rfl (by decide +kernel) (Nat.le_of_ble_eq_true rfl) (fun X hX hE => ?_)
  change J X 0 0 ([]) 0 [(0, .long a0), (2, .long a1), (4, .long a2)] []
  unfold f_X10_in at hf
  refine j_lload_n hX dX10_in_0 rfl 0 rfl ?_
  refine j_lload_n hX dX10_in_1 rfl 1 rfl ?_
  refine j_lcmp hX dX10_in_2 ?_
  refine j_if_lt hX 17 dX10_in_3 (by decide) hf (fun c3 hf => ?_) (fun c3 hf => ?_)
  · refine j_iconst hX 0 dX10_in_17 (by decide) ?_
    cases hf
    exact j_zret hX hE rfl dX10_in_18 (Nat.le_refl _) (Nat.le_refl _) ⟨rfl, rfl⟩
  · refine j_lload_n hX dX10_in_6 rfl 0 rfl ?_
    refine j_lload hX dX10_in_7 2 rfl ?_
    refine j_lcmp hX dX10_in_9 ?_
    refine j_if_gt hX 17 dX10_in_10 (by decide) hf (fun c10 hf => ?_) (fun c10 hf => ?_)
    · refine j_iconst hX 0 dX10_in_17 (by decide) ?_
      cases hf
      exact j_zret hX hE rfl dX10_in_18 (Nat.le_refl _) (Nat.le_refl _) ⟨rfl, rfl⟩
    · refine j_iconst hX 1 dX10_in_13 (by decide) ?_
      refine j_goto hX 18 dX10_in_14 (by decide) ?_
      cases hf
      exact j_zret hX hE rfl dX10_in_18 (Nat.le_refl _) (Nat.le_refl _) ⟨rfl, rfl⟩
-- HammerDepotModel starts ()V
def f_X10_starts_L7 (m_m : Nat → Int32) : Nat → Int32 → (Nat → Int32) → Option (Int32 × (Nat → Int32))
  | 0, _, _ => none
  | jn + 1, x1, m_aside =>
    if 2048 ≤ x1 then
      some (x1, m_aside)
    else
      if jin x1 2048 = true then
        if jin x1 2048 = true then
          f_X10_starts_L7 m_m jn (x1 + 1) (upd m_aside (x1).toNatClampNeg (m_m (x1).toNatClampNeg))
        else none
      else none
def f_X10_starts (m_m : Nat → Int32) (m_aside : Nat → Int32) (m_thrown : Int32) : Option ((Nat → Int32) × Int32) :=
  Option.bind (f_X10_starts_L7 m_m jFU 0 m_aside) (fun s2 =>
    some (s2.2, 0))
set_option maxHeartbeats 4000000 in
set_option maxRecDepth 100000 in
theorem k_X10_starts_L7 {l : Launch} {D : va_G} {t : Nat → ClassId} {ad : Nat → Nat} {o : Nat} (m_m : Nat → Int32) (m_saved : Nat → Int32) (m_isSaved : Int32) (m_past : Nat → Int32) (m_changes : Int32) (m_errorAt : Int32) (m_failed : Int32) (m_thrown : Int32) (m_input : Nat → Int32) (m_inputMany : Int32) (m_fitting : Nat → Int32) (m_given : Nat → Int32) (m_pairs : Nat → Int32) (m_line : Nat → Int32) (m_lineMany : Int32) (m_letters : Nat → Int32) (m_begins0 : Nat → Int32) (m_commands : Nat → Int32) (m_commandMany : Int32) (m_place0 : Int32) (m_size0 : Int32) (m_isWrong : Int32) {X : jX} (hX : jOK X l D (jT t) cX10_starts RX10 none { frames := 0, cells := 0, slots := 0, locals := 0 } 2) :
    ∀ (jn : Nat) (x1 : Int32) (m_aside : Nat → Int32) (u : Int32 × (Nat → Int32)) (hf : f_X10_starts_L7 m_m jn x1 m_aside = some u) (kx : ∀ s : Int32 × (Nat → Int32), u = s → J X 0 0 (wM t ad o m_m s.2 m_saved m_isSaved m_past m_changes m_errorAt m_failed m_thrown m_input m_inputMany m_fitting m_given m_pairs m_line m_lineMany m_letters m_begins0 m_commands m_commandMany m_place0 m_size0 m_isWrong) 32 [(1, .int s.1), (0, .ref (ad o))] []), J X 0 0 (wM t ad o m_m m_aside m_saved m_isSaved m_past m_changes m_errorAt m_failed m_thrown m_input m_inputMany m_fitting m_given m_pairs m_line m_lineMany m_letters m_begins0 m_commands m_commandMany m_place0 m_size0 m_isWrong) 7 [(1, .int x1), (0, .ref (ad o))] [] := by
  intro jn
  induction jn with
  | zero => intro x1 m_aside u hf; cases (show (none : Option (Int32 × (Nat → Int32))) = some u from hf)
  | succ jn ih =>
    intro x1 m_aside u hf kx
    unfold f_X10_starts_L7 at hf
    refine j_iload_n hX dX10_starts_7 rfl 0 rfl ?_
    refine j_sipush hX 2048 dX10_starts_8 (by decide) ?_
    refine j_icmp_ge hX 32 dX10_starts_11 (by decide) hf (fun c11 hf => ?_) (fun c11 hf => ?_)
    · cases hf
      exact kx _ rfl
    · refine j_aload_n hX dX10_starts_14 rfl 1 rfl ?_
      refine j_get hX dX10_starts_15 inX10 1 q1456 0 rfl rfl (by decide) rfl rfl ?_
      refine j_iload_n hX dX10_starts_18 rfl 0 rfl ?_
      refine j_aload_n hX dX10_starts_19 rfl 1 rfl ?_
      refine j_get hX dX10_starts_20 inX10 0 q1455 0 rfl rfl (by decide) rfl rfl ?_
      refine j_iload_n hX dX10_starts_23 rfl 0 rfl ?_
      refine j_iald hX dX10_starts_24 1 0 rfl rfl hf (fun c24 hf => ?_)
      refine j_iast hX (wM t ad o m_m (upd m_aside (x1).toNatClampNeg (m_m (x1).toNatClampNeg)) m_saved m_isSaved m_past m_changes m_errorAt m_failed m_thrown m_input m_inputMany m_fitting m_given m_pairs m_line m_lineMany m_letters m_begins0 m_commands m_commandMany m_place0 m_size0 m_isWrong) dX10_starts_25 2 0 rfl rfl rfl hf (fun c25 hf => ?_)
      refine j_iinc hX (x1 + 1) [(1, .int (x1 + 1)), (0, .ref (ad o))] dX10_starts_26 0 rfl rfl (by decide) rfl ?_
      refine j_goto hX 7 dX10_starts_29 (by decide) ?_
      exact ih (x1 + 1) (upd m_aside (x1).toNatClampNeg (m_m (x1).toNatClampNeg)) u hf kx
set_option maxHeartbeats 4000000 in
set_option maxRecDepth 100000 in
theorem k_X10_starts {l : Launch} {D : va_G} {t : Nat → ClassId} {ad : Nat → Nat} {o : Nat} (m_m : Nat → Int32) (m_aside : Nat → Int32) (m_saved : Nat → Int32) (m_isSaved : Int32) (m_past : Nat → Int32) (m_changes : Int32) (m_errorAt : Int32) (m_failed : Int32) (m_thrown : Int32) (m_input : Nat → Int32) (m_inputMany : Int32) (m_fitting : Nat → Int32) (m_given : Nat → Int32) (m_pairs : Nat → Int32) (m_line : Nat → Int32) (m_lineMany : Int32) (m_letters : Nat → Int32) (m_begins0 : Nat → Int32) (m_commands : Nat → Int32) (m_commandMany : Int32) (m_place0 : Int32) (m_size0 : Int32) (m_isWrong : Int32)  (u : (Nat → Int32) × Int32) (hf : f_X10_starts m_m m_aside m_thrown = some u) : cm l D (jT t) yX10_starts cX10_starts 2 none { frames := 0, cells := 0, slots := 0, locals := 0 } [.ref (ad o)] (wM t ad o m_m m_aside m_saved m_isSaved m_past m_changes m_errorAt m_failed m_thrown m_input m_inputMany m_fitting m_given m_pairs m_line m_lineMany m_letters m_begins0 m_commands m_commandMany m_place0 m_size0 m_isWrong) (fun v w => v = none ∧ w = wM t ad o m_m u.1 m_saved m_isSaved m_past m_changes m_errorAt m_failed u.2 m_input m_inputMany m_fitting m_given m_pairs m_line m_lineMany m_letters m_begins0 m_commands m_commandMany m_place0 m_size0 m_isWrong) := by
  refine cm_of RX10 rfl (by decide +kernel) (Nat.le_of_ble_eq_true rfl) (fun X hX hE => ?_)
  change J X 0 0 (wM t ad o m_m m_aside m_saved m_isSaved m_past m_changes m_errorAt m_failed m_thrown m_input m_inputMany m_fitting m_given m_pairs m_line m_lineMany m_letters m_begins0 m_commands m_commandMany m_place0 m_size0 m_isWrong) 0 [(0, .ref (ad o))] []
  unfold f_X10_starts at hf
  refine j_aload_n hX dX10_starts_0 rfl 0 rfl ?_
  refine j_iconst hX 0 dX10_starts_1 (by decide) ?_
  refine j_put hX (wM t ad o m_m m_aside m_saved m_isSaved m_past m_changes m_errorAt m_failed 0 m_input m_inputMany m_fitting m_given m_pairs m_line m_lineMany m_letters m_begins0 m_commands m_commandMany m_place0 m_size0 m_isWrong) tyX10 dX10_starts_2 inX10 tyX10_ok nmX10 8 q1463 0 rfl rfl (by decide) rfl rfl rfl rfl rfl (Nat.le_of_ble_eq_true rfl) rfl ?_
  refine j_iconst hX 0 dX10_starts_5 (by decide) ?_
  refine j_istore_n hX [(1, .int 0), (0, .ref (ad o))] dX10_starts_6 rfl (by decide) rfl ?_
  obtain ⟨s2, h3, hf⟩ := jbind hf
  refine k_X10_starts_L7 (ad := ad) m_m m_saved m_isSaved m_past m_changes m_errorAt m_failed 0 m_input m_inputMany m_fitting m_given m_pairs m_line m_lineMany m_letters m_begins0 m_commands m_commandMany m_place0 m_size0 m_isWrong hX jFU 0 m_aside s2 h3 (fun s20 es2 => ?_)
  subst es2
  cases hf
  exact j_vret hX hE dX10_starts_32 (Nat.le_refl _) (Nat.le_refl _) ⟨rfl, rfl⟩
-- HammerDepotModel changed (I)I
def f_X10_changed_L61 (m_aside : Nat → Int32) (m_changes : Int32) : Nat → Int32 → (Nat → Int32) → Option (Int32 × (Nat → Int32))
  | 0, _, _ => none
  | jn + 1, x2, m_past =>
    if 2048 ≤ x2 then
      some (x2, m_past)
    else
      if jin x2 2048 = true then
        if jin (((2048 : Int32) * m_changes) + x2) 16384 = true then
          f_X10_changed_L61 m_aside m_changes jn (x2 + 1) (upd m_past (((2048 : Int32) * m_changes) + x2).toNatClampNeg (m_aside (x2).toNatClampNeg))
        else none
      else none
def f_X10_changed_L20  : Nat → Int32 → (Nat → Int32) → Option (Int32 × (Nat → Int32))
  | 0, _, _ => none
  | jn + 1, x2, m_past =>
    if 14336 ≤ x2 then
      some (x2, m_past)
    else
      if jin (x2 + 2048) 16384 = true then
        if jin x2 16384 = true then
          f_X10_changed_L20  jn (x2 + 1) (upd m_past (x2).toNatClampNeg (m_past (x2 + 2048).toNatClampNeg))
        else none
      else none
def f_X10_changed (m_aside : Nat → Int32) (m_past : Nat → Int32) (m_changes : Int32) (m_thrown : Int32) (a0 : Int32) : Option (Int32 × (Nat → Int32) × Int32) :=
  if m_thrown ≤ 0 then
    if m_changes = 8 then
      Option.bind (f_X10_changed_L20  jFU 0 m_past) (fun s5 =>
        Option.bind (f_X10_changed_L61 m_aside (m_changes - 1) jFU 0 s5.2) (fun s8 =>
          some (a0, s8.2, (m_changes - 1) + 1)))
    else
      Option.bind (f_X10_changed_L61 m_aside m_changes jFU 0 m_past) (fun s2 =>
        some (a0, s2.2, m_changes + 1))
  else
    some (a0, m_past, m_changes)
set_option maxHeartbeats 4000000 in
set_option maxRecDepth 100000 in
theorem k_X10_changed_L61 {l : Launch} {D : va_G} {t : Nat → ClassId} {ad : Nat → Nat} {o : Nat} (m_aside : Nat → Int32) (m_changes : Int32) (m_m : Nat → Int32) (m_saved : Nat → Int32) (m_isSaved : Int32) (m_errorAt : Int32) (m_failed : Int32) (m_thrown : Int32) (m_input : Nat → Int32) (m_inputMany : Int32) (m_fitting : Nat → Int32) (m_given : Nat → Int32) (m_pairs : Nat → Int32) (m_line : Nat → Int32) (m_lineMany : Int32) (m_letters : Nat → Int32) (m_begins0 : Nat → Int32) (m_commands : Nat → Int32) (m_commandMany : Int32) (m_place0 : Int32) (m_size0 : Int32) (m_isWrong : Int32) (x1 : Int32) {X : jX} (hX : jOK X l D (jT t) cX10_changed RX10 (some FieldType.int) { frames := 0, cells := 0, slots := 0, locals := 0 } 3) :
    ∀ (jn : Nat) (x2 : Int32) (m_past : Nat → Int32) (u : Int32 × (Nat → Int32)) (hf : f_X10_changed_L61 m_aside m_changes jn x2 m_past = some u) (kx : ∀ s : Int32 × (Nat → Int32), u = s → J X 0 0 (wM t ad o m_m m_aside m_saved m_isSaved s.2 m_changes m_errorAt m_failed m_thrown m_input m_inputMany m_fitting m_given m_pairs m_line m_lineMany m_letters m_begins0 m_commands m_commandMany m_place0 m_size0 m_isWrong) 95 [(2, .int s.1), (0, .ref (ad o)), (1, .int x1)] []), J X 0 0 (wM t ad o m_m m_aside m_saved m_isSaved m_past m_changes m_errorAt m_failed m_thrown m_input m_inputMany m_fitting m_given m_pairs m_line m_lineMany m_letters m_begins0 m_commands m_commandMany m_place0 m_size0 m_isWrong) 61 [(2, .int x2), (0, .ref (ad o)), (1, .int x1)] [] := by
  intro jn
  induction jn with
  | zero => intro x2 m_past u hf; cases (show (none : Option (Int32 × (Nat → Int32))) = some u from hf)
  | succ jn ih =>
    intro x2 m_past u hf kx
    unfold f_X10_changed_L61 at hf
    refine j_iload_n hX dX10_changed_61 rfl 0 rfl ?_
    refine j_sipush hX 2048 dX10_changed_62 (by decide) ?_
    refine j_icmp_ge hX 95 dX10_changed_65 (by decide) hf (fun c65 hf => ?_) (fun c65 hf => ?_)
    · cases hf
      exact kx _ rfl
    · refine j_aload_n hX dX10_changed_68 rfl 1 rfl ?_
      refine j_get hX dX10_changed_69 inX10 4 q1459 0 rfl rfl (by decide) rfl rfl ?_
      refine j_sipush hX 2048 dX10_changed_72 (by decide) ?_
      refine j_aload_n hX dX10_changed_75 rfl 1 rfl ?_
      refine j_get hX dX10_changed_76 inX10 5 q1460 0 rfl rfl (by decide) rfl rfl ?_
      refine j_imul hX dX10_changed_79 ?_
      refine j_iload_n hX dX10_changed_80 rfl 0 rfl ?_
      refine j_iadd hX dX10_changed_81 ?_
      refine j_aload_n hX dX10_changed_82 rfl 1 rfl ?_
      refine j_get hX dX10_changed_83 inX10 1 q1456 0 rfl rfl (by decide) rfl rfl ?_
      refine j_iload_n hX dX10_changed_86 rfl 0 rfl ?_
      refine j_iald hX dX10_changed_87 2 0 rfl rfl hf (fun c87 hf => ?_)
      refine j_iast hX (wM t ad o m_m m_aside m_saved m_isSaved (upd m_past (((2048 : Int32) * m_changes) + x2).toNatClampNeg (m_aside (x2).toNatClampNeg)) m_changes m_errorAt m_failed m_thrown m_input m_inputMany m_fitting m_given m_pairs m_line m_lineMany m_letters m_begins0 m_commands m_commandMany m_place0 m_size0 m_isWrong) dX10_changed_88 4 0 rfl rfl rfl hf (fun c88 hf => ?_)
      refine j_iinc hX (x2 + 1) [(2, .int (x2 + 1)), (0, .ref (ad o)), (1, .int x1)] dX10_changed_89 0 rfl rfl (by decide) rfl ?_
      refine j_goto hX 61 dX10_changed_92 (by decide) ?_
      exact ih (x2 + 1) (upd m_past (((2048 : Int32) * m_changes) + x2).toNatClampNeg (m_aside (x2).toNatClampNeg)) u hf kx
set_option maxHeartbeats 4000000 in
set_option maxRecDepth 100000 in
theorem k_X10_changed_L20 {l : Launch} {D : va_G} {t : Nat → ClassId} {ad : Nat → Nat} {o : Nat}  (m_m : Nat → Int32) (m_aside : Nat → Int32) (m_saved : Nat → Int32) (m_isSaved : Int32) (m_changes : Int32) (m_errorAt : Int32) (m_failed : Int32) (m_thrown : Int32) (m_input : Nat → Int32) (m_inputMany : Int32) (m_fitting : Nat → Int32) (m_given : Nat → Int32) (m_pairs : Nat → Int32) (m_line : Nat → Int32) (m_lineMany : Int32) (m_letters : Nat → Int32) (m_begins0 : Nat → Int32) (m_commands : Nat → Int32) (m_commandMany : Int32) (m_place0 : Int32) (m_size0 : Int32) (m_isWrong : Int32) (x1 : Int32) {X : jX} (hX : jOK X l D (jT t) cX10_changed RX10 (some FieldType.int) { frames := 0, cells := 0, slots := 0, locals := 0 } 3) :
    ∀ (jn : Nat) (x2 : Int32) (m_past : Nat → Int32) (u : Int32 × (Nat → Int32)) (hf : f_X10_changed_L20  jn x2 m_past = some u) (kx : ∀ s : Int32 × (Nat → Int32), u = s → J X 0 0 (wM t ad o m_m m_aside m_saved m_isSaved s.2 m_changes m_errorAt m_failed m_thrown m_input m_inputMany m_fitting m_given m_pairs m_line m_lineMany m_letters m_begins0 m_commands m_commandMany m_place0 m_size0 m_isWrong) 49 [(2, .int s.1), (0, .ref (ad o)), (1, .int x1)] []), J X 0 0 (wM t ad o m_m m_aside m_saved m_isSaved m_past m_changes m_errorAt m_failed m_thrown m_input m_inputMany m_fitting m_given m_pairs m_line m_lineMany m_letters m_begins0 m_commands m_commandMany m_place0 m_size0 m_isWrong) 20 [(2, .int x2), (0, .ref (ad o)), (1, .int x1)] [] := by
  intro jn
  induction jn with
  | zero => intro x2 m_past u hf; cases (show (none : Option (Int32 × (Nat → Int32))) = some u from hf)
  | succ jn ih =>
    intro x2 m_past u hf kx
    unfold f_X10_changed_L20 at hf
    refine j_iload_n hX dX10_changed_20 rfl 0 rfl ?_
    refine j_sipush hX 14336 dX10_changed_21 (by decide) ?_
    refine j_icmp_ge hX 49 dX10_changed_24 (by decide) hf (fun c24 hf => ?_) (fun c24 hf => ?_)
    · cases hf
      exact kx _ rfl
    · refine j_aload_n hX dX10_changed_27 rfl 1 rfl ?_
      refine j_get hX dX10_changed_28 inX10 4 q1459 0 rfl rfl (by decide) rfl rfl ?_
      refine j_iload_n hX dX10_changed_31 rfl 0 rfl ?_
      refine j_aload_n hX dX10_changed_32 rfl 1 rfl ?_
      refine j_get hX dX10_changed_33 inX10 4 q1459 0 rfl rfl (by decide) rfl rfl ?_
      refine j_iload_n hX dX10_changed_36 rfl 0 rfl ?_
      refine j_sipush hX 2048 dX10_changed_37 (by decide) ?_
      refine j_iadd hX dX10_changed_40 ?_
      refine j_iald hX dX10_changed_41 4 0 rfl rfl hf (fun c41 hf => ?_)
      refine j_iast hX (wM t ad o m_m m_aside m_saved m_isSaved (upd m_past (x2).toNatClampNeg (m_past (x2 + 2048).toNatClampNeg)) m_changes m_errorAt m_failed m_thrown m_input m_inputMany m_fitting m_given m_pairs m_line m_lineMany m_letters m_begins0 m_commands m_commandMany m_place0 m_size0 m_isWrong) dX10_changed_42 4 0 rfl rfl rfl hf (fun c42 hf => ?_)
      refine j_iinc hX (x2 + 1) [(2, .int (x2 + 1)), (0, .ref (ad o)), (1, .int x1)] dX10_changed_43 0 rfl rfl (by decide) rfl ?_
      refine j_goto hX 20 dX10_changed_46 (by decide) ?_
      exact ih (x2 + 1) (upd m_past (x2).toNatClampNeg (m_past (x2 + 2048).toNatClampNeg)) u hf kx
set_option maxHeartbeats 4000000 in
set_option maxRecDepth 100000 in
theorem k_X10_changed {l : Launch} {D : va_G} {t : Nat → ClassId} {ad : Nat → Nat} {o : Nat} (m_m : Nat → Int32) (m_aside : Nat → Int32) (m_saved : Nat → Int32) (m_isSaved : Int32) (m_past : Nat → Int32) (m_changes : Int32) (m_errorAt : Int32) (m_failed : Int32) (m_thrown : Int32) (m_input : Nat → Int32) (m_inputMany : Int32) (m_fitting : Nat → Int32) (m_given : Nat → Int32) (m_pairs : Nat → Int32) (m_line : Nat → Int32) (m_lineMany : Int32) (m_letters : Nat → Int32) (m_begins0 : Nat → Int32) (m_commands : Nat → Int32) (m_commandMany : Int32) (m_place0 : Int32) (m_size0 : Int32) (m_isWrong : Int32) (a0 : Int32) (u : Int32 × (Nat → Int32) × Int32) (hf : f_X10_changed m_aside m_past m_changes m_thrown a0 = some u) : cm l D (jT t) yX10_changed cX10_changed 3 (some FieldType.int) { frames := 0, cells := 0, slots := 0, locals := 0 } [.ref (ad o), .int a0] (wM t ad o m_m m_aside m_saved m_isSaved m_past m_changes m_errorAt m_failed m_thrown m_input m_inputMany m_fitting m_given m_pairs m_line m_lineMany m_letters m_begins0 m_commands m_commandMany m_place0 m_size0 m_isWrong) (fun v w => v = (some (.int u.1)) ∧ w = wM t ad o m_m m_aside m_saved m_isSaved u.2.1 u.2.2 m_errorAt m_failed m_thrown m_input m_inputMany m_fitting m_given m_pairs m_line m_lineMany m_letters m_begins0 m_commands m_commandMany m_place0 m_size0 m_isWrong) := by
  refine cm_of RX10 rfl (by decide +kernel) (Nat.le_of_ble_eq_true rfl) (fun X hX hE => ?_)
  change J X 0 0 (wM t ad o m_m m_aside m_saved m_isSaved m_past m_changes m_errorAt m_failed m_thrown m_input m_inputMany m_fitting m_given m_pairs m_line m_lineMany m_letters m_begins0 m_commands m_commandMany m_place0 m_size0 m_isWrong) 0 [(0, .ref (ad o)), (1, .int a0)] []
  unfold f_X10_changed at hf
  refine j_aload_n hX dX10_changed_0 rfl 0 rfl ?_
  refine j_get hX dX10_changed_1 inX10 8 q1463 0 rfl rfl (by decide) rfl rfl ?_
  refine j_if_le hX 9 dX10_changed_4 (by decide) hf (fun c4 hf => ?_) (fun c4 hf => ?_)
  · refine j_aload_n hX dX10_changed_9 rfl 0 rfl ?_
    refine j_get hX dX10_changed_10 inX10 5 q1460 0 rfl rfl (by decide) rfl rfl ?_
    refine j_bipush hX 8 dX10_changed_13 (by decide) ?_
    refine j_icmp_ne hX 59 dX10_changed_15 (by decide) hf (fun c15 hf => ?_) (fun c15 hf => ?_)
    · refine j_iconst hX 0 dX10_changed_59 (by decide) ?_
      refine j_istore_n hX [(2, .int 0), (0, .ref (ad o)), (1, .int a0)] dX10_changed_60 rfl (by decide) rfl ?_
      obtain ⟨s2, h3, hf⟩ := jbind hf
      refine k_X10_changed_L61 (ad := ad) m_aside m_changes m_m m_saved m_isSaved m_errorAt m_failed m_thrown m_input m_inputMany m_fitting m_given m_pairs m_line m_lineMany m_letters m_begins0 m_commands m_commandMany m_place0 m_size0 m_isWrong a0 hX jFU 0 m_past s2 h3 (fun s20 es2 => ?_)
      subst es2
      refine j_aload_n hX dX10_changed_95 rfl 1 rfl ?_
      refine j_dup hX dX10_changed_96 rfl ?_
      refine j_get hX dX10_changed_97 inX10 5 q1460 0 rfl rfl (by decide) rfl rfl ?_
      refine j_iconst hX 1 dX10_changed_100 (by decide) ?_
      refine j_iadd hX dX10_changed_101 ?_
      refine j_put hX (wM t ad o m_m m_aside m_saved m_isSaved s2.2 (m_changes + 1) m_errorAt m_failed m_thrown m_input m_inputMany m_fitting m_given m_pairs m_line m_lineMany m_letters m_begins0 m_commands m_commandMany m_place0 m_size0 m_isWrong) tyX10 dX10_changed_102 inX10 tyX10_ok nmX10 5 q1460 0 rfl rfl (by decide) rfl rfl rfl rfl rfl (Nat.le_of_ble_eq_true rfl) rfl ?_
      refine j_iload_n hX dX10_changed_105 rfl 2 rfl ?_
      cases hf
      exact j_iret hX hE dX10_changed_106 (Nat.le_refl _) (Nat.le_refl _) ⟨rfl, rfl⟩
    · refine j_iconst hX 0 dX10_changed_18 (by decide) ?_
      refine j_istore_n hX [(2, .int 0), (0, .ref (ad o)), (1, .int a0)] dX10_changed_19 rfl (by decide) rfl ?_
      obtain ⟨s5, h6, hf⟩ := jbind hf
      refine k_X10_changed_L20 (ad := ad)  m_m m_aside m_saved m_isSaved m_changes m_errorAt m_failed m_thrown m_input m_inputMany m_fitting m_given m_pairs m_line m_lineMany m_letters m_begins0 m_commands m_commandMany m_place0 m_size0 m_isWrong a0 hX jFU 0 m_past s5 h6 (fun s50 es5 => ?_)
      subst es5
      refine j_aload_n hX dX10_changed_49 rfl 1 rfl ?_
      refine j_dup hX dX10_changed_50 rfl ?_
      refine j_get hX dX10_changed_51 inX10 5 q1460 0 rfl rfl (by decide) rfl rfl ?_
      refine j_iconst hX 1 dX10_changed_54 (by decide) ?_
      refine j_isub hX dX10_changed_55 ?_
      refine j_put hX (wM t ad o m_m m_aside m_saved m_isSaved s5.2 (m_changes - 1) m_errorAt m_failed m_thrown m_input m_inputMany m_fitting m_given m_pairs m_line m_lineMany m_letters m_begins0 m_commands m_commandMany m_place0 m_size0 m_isWrong) tyX10 dX10_changed_56 inX10 tyX10_ok nmX10 5 q1460 0 rfl rfl (by decide) rfl rfl rfl rfl rfl (Nat.le_of_ble_eq_true rfl) rfl ?_
      refine j_iconst hX 0 dX10_changed_59 (by decide) ?_
      refine j_istore_n hX [(2, .int 0), (0, .ref (ad o)), (1, .int a0)] dX10_changed_60 rfl (by decide) rfl ?_
      obtain ⟨s8, h9, hf⟩ := jbind hf
      refine k_X10_changed_L61 (ad := ad) m_aside (m_changes - 1) m_m m_saved m_isSaved m_errorAt m_failed m_thrown m_input m_inputMany m_fitting m_given m_pairs m_line m_lineMany m_letters m_begins0 m_commands m_commandMany m_place0 m_size0 m_isWrong a0 hX jFU 0 s5.2 s8 h9 (fun s80 es8 => ?_)
      subst es8
      refine j_aload_n hX dX10_changed_95 rfl 1 rfl ?_
      refine j_dup hX dX10_changed_96 rfl ?_
      refine j_get hX dX10_changed_97 inX10 5 q1460 0 rfl rfl (by decide) rfl rfl ?_
      refine j_iconst hX 1 dX10_changed_100 (by decide) ?_
      refine j_iadd hX dX10_changed_101 ?_
      refine j_put hX (wM t ad o m_m m_aside m_saved m_isSaved s8.2 ((m_changes - 1) + 1) m_errorAt m_failed m_thrown m_input m_inputMany m_fitting m_given m_pairs m_line m_lineMany m_letters m_begins0 m_commands m_commandMany m_place0 m_size0 m_isWrong) tyX10 dX10_changed_102 inX10 tyX10_ok nmX10 5 q1460 0 rfl rfl (by decide) rfl rfl rfl rfl rfl (Nat.le_of_ble_eq_true rfl) rfl ?_
      refine j_iload_n hX dX10_changed_105 rfl 2 rfl ?_
      cases hf
      exact j_iret hX hE dX10_changed_106 (Nat.le_refl _) (Nat.le_refl _) ⟨rfl, rfl⟩
  · refine j_iload_n hX dX10_changed_7 rfl 1 rfl ?_
    cases hf
    exact j_iret hX hE dX10_changed_8 (Nat.le_refl _) (Nat.le_refl _) ⟨rfl, rfl⟩
-- HammerDepotModel hammerOf (I)I
def f_X10_hammerOf (a0 : Int32) : Option (Int32) :=
  some ((8 : Int32) + ((6 : Int32) * a0))
set_option maxHeartbeats 4000000 in
set_option maxRecDepth 100000 in
theorem k_X10_hammerOf {l : Launch} {D : va_G} {t : Nat → ClassId} {ad : Nat → Nat}  (a0 : Int32) (u : Int32) (hf : f_X10_hammerOf a0 = some u) : cm l D (jT t) yX10_hammerOf cX10_hammerOf 1 (some FieldType.int) { frames := 0, cells := 0, slots := 0, locals := 0 } [.int a0] ([]) (fun v w => v = (some (.int u)) ∧ w = []) := by
  refine cm_of RX10 rfl (by decide +kernel) (Nat.le_of_ble_eq_true rfl) (fun X hX hE => ?_)
  change J X 0 0 ([]) 0 [(0, .int a0)] []
  unfold f_X10_hammerOf at hf
  refine j_bipush hX 8 dX10_hammerOf_0 (by decide) ?_
  refine j_bipush hX 6 dX10_hammerOf_2 (by decide) ?_
  refine j_iload_n hX dX10_hammerOf_4 rfl 0 rfl ?_
  refine j_imul hX dX10_hammerOf_5 ?_
  refine j_iadd hX dX10_hammerOf_6 ?_
  cases hf
  exact j_iret hX hE dX10_hammerOf_7 (Nat.le_refl _) (Nat.le_refl _) ⟨rfl, rfl⟩
-- HammerDepotModel requestOf (I)I
def f_X10_requestOf (a0 : Int32) : Option (Int32) :=
  some ((80 : Int32) + ((6 : Int32) * a0))
set_option maxHeartbeats 4000000 in
set_option maxRecDepth 100000 in
theorem k_X10_requestOf {l : Launch} {D : va_G} {t : Nat → ClassId} {ad : Nat → Nat}  (a0 : Int32) (u : Int32) (hf : f_X10_requestOf a0 = some u) : cm l D (jT t) yX10_requestOf cX10_requestOf 1 (some FieldType.int) { frames := 0, cells := 0, slots := 0, locals := 0 } [.int a0] ([]) (fun v w => v = (some (.int u)) ∧ w = []) := by
  refine cm_of RX10 rfl (by decide +kernel) (Nat.le_of_ble_eq_true rfl) (fun X hX hE => ?_)
  change J X 0 0 ([]) 0 [(0, .int a0)] []
  unfold f_X10_requestOf at hf
  refine j_bipush hX 80 dX10_requestOf_0 (by decide) ?_
  refine j_bipush hX 6 dX10_requestOf_2 (by decide) ?_
  refine j_iload_n hX dX10_requestOf_4 rfl 0 rfl ?_
  refine j_imul hX dX10_requestOf_5 ?_
  refine j_iadd hX dX10_requestOf_6 ?_
  cases hf
  exact j_iret hX hE dX10_requestOf_7 (Nat.le_refl _) (Nat.le_refl _) ⟨rfl, rfl⟩
-- HammerDepotModel bookingOf (I)I
def f_X10_bookingOf (a0 : Int32) : Option (Int32) :=
  some ((128 : Int32) + ((4 : Int32) * a0))
set_option maxHeartbeats 4000000 in
set_option maxRecDepth 100000 in
theorem k_X10_bookingOf {l : Launch} {D : va_G} {t : Nat → ClassId} {ad : Nat → Nat}  (a0 : Int32) (u : Int32) (hf : f_X10_bookingOf a0 = some u) : cm l D (jT t) yX10_bookingOf cX10_bookingOf 1 (some FieldType.int) { frames := 0, cells := 0, slots := 0, locals := 0 } [.int a0] ([]) (fun v w => v = (some (.int u)) ∧ w = []) := by
  refine cm_of RX10 rfl (by decide +kernel) (Nat.le_of_ble_eq_true rfl) (fun X hX hE => ?_)
  change J X 0 0 ([]) 0 [(0, .int a0)] []
  unfold f_X10_bookingOf at hf
  refine j_sipush hX 128 dX10_bookingOf_0 (by decide) ?_
  refine j_iconst hX 4 dX10_bookingOf_3 (by decide) ?_
  refine j_iload_n hX dX10_bookingOf_4 rfl 0 rfl ?_
  refine j_imul hX dX10_bookingOf_5 ?_
  refine j_iadd hX dX10_bookingOf_6 ?_
  cases hf
  exact j_iret hX hE dX10_bookingOf_7 (Nat.le_refl _) (Nat.le_refl _) ⟨rfl, rfl⟩
-- HammerDepotModel isHammer (I)Z
def f_X10_isHammer (m_m : Nat → Int32) (a0 : Int32) : Option (Int32) :=
  if jin 0 2048 = true then
    Option.bind (f_X10_in ((a0).toInt64) (0 : Int64) (((m_m (0 : Int32).toNatClampNeg) - 1).toInt64)) (fun u1 =>
      if u1 = 0 ∨ u1 = 1 then some u1 else none)
  else none
set_option maxHeartbeats 4000000 in
set_option maxRecDepth 100000 in
theorem k_X10_isHammer {l : Launch} {D : va_G} {t : Nat → ClassId} {ad : Nat → Nat} {o : Nat} (m_m : Nat → Int32) (m_aside : Nat → Int32) (m_saved : Nat → Int32) (m_isSaved : Int32) (m_past : Nat → Int32) (m_changes : Int32) (m_errorAt : Int32) (m_failed : Int32) (m_thrown : Int32) (m_input : Nat → Int32) (m_inputMany : Int32) (m_fitting : Nat → Int32) (m_given : Nat → Int32) (m_pairs : Nat → Int32) (m_line : Nat → Int32) (m_lineMany : Int32) (m_letters : Nat → Int32) (m_begins0 : Nat → Int32) (m_commands : Nat → Int32) (m_commandMany : Int32) (m_place0 : Int32) (m_size0 : Int32) (m_isWrong : Int32) (a0 : Int32) (u : Int32) (hf : f_X10_isHammer m_m a0 = some u) : cm l D (jT t) yX10_isHammer cX10_isHammer 2 (some FieldType.boolean) { frames := 1, cells := 0, slots := 0, locals := 25 } [.ref (ad o), .int a0] (wM t ad o m_m m_aside m_saved m_isSaved m_past m_changes m_errorAt m_failed m_thrown m_input m_inputMany m_fitting m_given m_pairs m_line m_lineMany m_letters m_begins0 m_commands m_commandMany m_place0 m_size0 m_isWrong) (fun v w => v = (some (.int u)) ∧ w = wM t ad o m_m m_aside m_saved m_isSaved m_past m_changes m_errorAt m_failed m_thrown m_input m_inputMany m_fitting m_given m_pairs m_line m_lineMany m_letters m_begins0 m_commands m_commandMany m_place0 m_size0 m_isWrong) := by
  refine cm_of RX10 rfl (by decide +kernel) (Nat.le_of_ble_eq_true rfl) (fun X hX hE => ?_)
  change J X 0 0 (wM t ad o m_m m_aside m_saved m_isSaved m_past m_changes m_errorAt m_failed m_thrown m_input m_inputMany m_fitting m_given m_pairs m_line m_lineMany m_letters m_begins0 m_commands m_commandMany m_place0 m_size0 m_isWrong) 0 [(0, .ref (ad o)), (1, .int a0)] []
  unfold f_X10_isHammer at hf
  refine j_iload_n hX dX10_isHammer_0 rfl 1 rfl ?_
  refine j_i2l hX dX10_isHammer_1 ?_
  refine j_lconst hX 0 dX10_isHammer_2 (by decide) ?_
  refine j_aload_n hX dX10_isHammer_3 rfl 0 rfl ?_
  refine j_get hX dX10_isHammer_4 inX10 0 q1455 0 rfl rfl (by decide) rfl rfl ?_
  refine j_iconst hX 0 dX10_isHammer_7 (by decide) ?_
  refine j_iald hX dX10_isHammer_8 1 0 rfl rfl hf (fun c8 hf => ?_)
  refine j_iconst hX 1 dX10_isHammer_9 (by decide) ?_
  refine j_isub hX dX10_isHammer_10 ?_
  refine j_i2l hX dX10_isHammer_11 ?_
  obtain ⟨u1, h2, hf⟩ := jbind hf
  refine j_callS (st := []) hX (k_X10_in (l := l) (D := D) (t := t) (ad := ad)  ((a0).toInt64) (0 : Int64) (((m_m (0 : Int32).toNatClampNeg) - 1).toInt64) u1 h2) q1493 q1494 q15 q1495 (n9 := 3) rfl ⟨by decide +kernel, by decide +kernel⟩ dX10_isHammer_12 (Nat.le_of_ble_eq_true rfl) ⟨Nat.le_refl _, Nat.le_refl _⟩ (fun w : va_W => w ++ (wM t ad o m_m m_aside m_saved m_isSaved m_past m_changes m_errorAt m_failed m_thrown m_input m_inputMany m_fitting m_given m_pairs m_line m_lineMany m_letters m_begins0 m_commands m_commandMany m_place0 m_size0 m_isWrong)) (jFr_r (wM t ad o m_m m_aside m_saved m_isSaved m_past m_changes m_errorAt m_failed m_thrown m_input m_inputMany m_fitting m_given m_pairs m_line m_lineMany m_letters m_begins0 m_commands m_commandMany m_place0 m_size0 m_isWrong)) rfl rfl (fun v w hvw => ?_)
  obtain ⟨rfl, rfl⟩ := hvw
  change J X 0 0 (wM t ad o m_m m_aside m_saved m_isSaved m_past m_changes m_errorAt m_failed m_thrown m_input m_inputMany m_fitting m_given m_pairs m_line m_lineMany m_letters m_begins0 m_commands m_commandMany m_place0 m_size0 m_isWrong) 15 [(0, .ref (ad o)), (1, .int a0)] [.int u1]
  obtain ⟨c15, hf⟩ := jif hf
  cases hf
  exact j_zret hX hE (jz_n c15) dX10_isHammer_15 (Nat.le_refl _) (Nat.le_refl _) ⟨rfl, rfl⟩
-- HammerDepotModel isRack (I)Z
def f_X10_isRack (a0 : Int32) : Option (Int32) :=
  Option.bind (f_X10_in ((a0).toInt64) (0 : Int64) (2 : Int64)) (fun u1 =>
    if u1 = 0 ∨ u1 = 1 then some u1 else none)
set_option maxHeartbeats 4000000 in
set_option maxRecDepth 100000 in
theorem k_X10_isRack {l : Launch} {D : va_G} {t : Nat → ClassId} {ad : Nat → Nat}  (a0 : Int32) (u : Int32) (hf : f_X10_isRack a0 = some u) : cm l D (jT t) yX10_isRack cX10_isRack 1 (some FieldType.boolean) { frames := 1, cells := 0, slots := 0, locals := 25 } [.int a0] ([]) (fun v w => v = (some (.int u)) ∧ w = []) := by
  refine cm_of RX10 rfl (by decide +kernel) (Nat.le_of_ble_eq_true rfl) (fun X hX hE => ?_)
  change J X 0 0 ([]) 0 [(0, .int a0)] []
  unfold f_X10_isRack at hf
  refine j_iload_n hX dX10_isRack_0 rfl 0 rfl ?_
  refine j_i2l hX dX10_isRack_1 ?_
  refine j_lconst hX 0 dX10_isRack_2 (by decide) ?_
  refine j_ldc2 hX q1502 dX10_isRack_3 ?_
  obtain ⟨u1, h2, hf⟩ := jbind hf
  refine j_callS (st := []) hX (k_X10_in (l := l) (D := D) (t := t) (ad := ad)  ((a0).toInt64) (0 : Int64) (2 : Int64) u1 h2) q1493 q1494 q15 q1495 (n9 := 3) rfl ⟨by decide +kernel, by decide +kernel⟩ dX10_isRack_6 (Nat.le_of_ble_eq_true rfl) ⟨Nat.le_refl _, Nat.le_refl _⟩ (fun w : va_W => w ++ ([])) (jFr_r ([])) rfl rfl (fun v w hvw => ?_)
  obtain ⟨rfl, rfl⟩ := hvw
  change J X 0 0 ([]) 9 [(0, .int a0)] [.int u1]
  obtain ⟨c9, hf⟩ := jif hf
  cases hf
  exact j_zret hX hE (jz_n c9) dX10_isRack_9 (Nat.le_refl _) (Nat.le_refl _) ⟨rfl, rfl⟩
-- HammerDepotModel isPlace (I)Z
def f_X10_isPlace (a0 : Int32) : Option (Int32) :=
  Option.bind (f_X10_in ((a0).toInt64) (0 : Int64) (5 : Int64)) (fun u1 =>
    if u1 = 0 ∨ u1 = 1 then some u1 else none)
set_option maxHeartbeats 4000000 in
set_option maxRecDepth 100000 in
theorem k_X10_isPlace {l : Launch} {D : va_G} {t : Nat → ClassId} {ad : Nat → Nat}  (a0 : Int32) (u : Int32) (hf : f_X10_isPlace a0 = some u) : cm l D (jT t) yX10_isPlace cX10_isPlace 1 (some FieldType.boolean) { frames := 1, cells := 0, slots := 0, locals := 25 } [.int a0] ([]) (fun v w => v = (some (.int u)) ∧ w = []) := by
  refine cm_of RX10 rfl (by decide +kernel) (Nat.le_of_ble_eq_true rfl) (fun X hX hE => ?_)
  change J X 0 0 ([]) 0 [(0, .int a0)] []
  unfold f_X10_isPlace at hf
  refine j_iload_n hX dX10_isPlace_0 rfl 0 rfl ?_
  refine j_i2l hX dX10_isPlace_1 ?_
  refine j_lconst hX 0 dX10_isPlace_2 (by decide) ?_
  refine j_ldc2 hX q1535 dX10_isPlace_3 ?_
  obtain ⟨u1, h2, hf⟩ := jbind hf
  refine j_callS (st := []) hX (k_X10_in (l := l) (D := D) (t := t) (ad := ad)  ((a0).toInt64) (0 : Int64) (5 : Int64) u1 h2) q1493 q1494 q15 q1495 (n9 := 3) rfl ⟨by decide +kernel, by decide +kernel⟩ dX10_isPlace_6 (Nat.le_of_ble_eq_true rfl) ⟨Nat.le_refl _, Nat.le_refl _⟩ (fun w : va_W => w ++ ([])) (jFr_r ([])) rfl rfl (fun v w hvw => ?_)
  obtain ⟨rfl, rfl⟩ := hvw
  change J X 0 0 ([]) 9 [(0, .int a0)] [.int u1]
  obtain ⟨c9, hf⟩ := jif hf
  cases hf
  exact j_zret hX hE (jz_n c9) dX10_isPlace_9 (Nat.le_refl _) (Nat.le_refl _) ⟨rfl, rfl⟩
-- HammerDepotModel standing (II)I
def f_X10_standing_L2 (m_m : Nat → Int32) (x1 : Int32) (x2 : Int32) : Nat → Int32 → Option ((Int32) ⊕ (Int32))
  | 0, _ => none
  | jn + 1, x3 =>
    if jin 0 2048 = true then
      if (m_m (0 : Int32).toNatClampNeg) ≤ x3 then
        some (.inr x3)
      else
        Option.bind (f_X10_hammerOf x3) (fun u1 =>
          if jin (u1 + 2) 2048 = true then
            if (m_m (u1 + 2).toNatClampNeg) = x1 then
              Option.bind (f_X10_hammerOf x3) (fun u3 =>
                if jin (u3 + 3) 2048 = true then
                  if (m_m (u3 + 3).toNatClampNeg) = x2 then
                    some (.inl x3)
                  else
                    f_X10_standing_L2 m_m x1 x2 jn (x3 + 1)
                else none)
            else
              f_X10_standing_L2 m_m x1 x2 jn (x3 + 1)
          else none)
    else none
def f_X10_standing (m_m : Nat → Int32) (a0 : Int32) (a1 : Int32) : Option (Int32) :=
  Option.bind (f_X10_standing_L2 m_m a0 a1 jFU 0) (fun o5 => Sum.elim (fun r => some r) (fun s6 =>
    some (-1)) o5)
set_option maxHeartbeats 4000000 in
set_option maxRecDepth 100000 in
theorem k_X10_standing_L2 {l : Launch} {D : va_G} {t : Nat → ClassId} {ad : Nat → Nat} {o : Nat} (m_m : Nat → Int32) (x1 : Int32) (x2 : Int32) (m_aside : Nat → Int32) (m_saved : Nat → Int32) (m_isSaved : Int32) (m_past : Nat → Int32) (m_changes : Int32) (m_errorAt : Int32) (m_failed : Int32) (m_thrown : Int32) (m_input : Nat → Int32) (m_inputMany : Int32) (m_fitting : Nat → Int32) (m_given : Nat → Int32) (m_pairs : Nat → Int32) (m_line : Nat → Int32) (m_lineMany : Int32) (m_letters : Nat → Int32) (m_begins0 : Nat → Int32) (m_commands : Nat → Int32) (m_commandMany : Int32) (m_place0 : Int32) (m_size0 : Int32) (m_isWrong : Int32) {X : jX} (hX : jOK X l D (jT t) cX10_standing RX10 (some FieldType.int) { frames := 1, cells := 0, slots := 0, locals := 20 } 4) {PP : Option Value → va_W → Prop} (hE : jEnd X PP 0 0) :
    ∀ (jn : Nat) (x3 : Int32) (u : (Int32) ⊕ (Int32)) (hf : f_X10_standing_L2 m_m x1 x2 jn x3 = some u) (kx : ∀ s : Int32, u = .inr s → J X 0 0 (wM t ad o m_m m_aside m_saved m_isSaved m_past m_changes m_errorAt m_failed m_thrown m_input m_inputMany m_fitting m_given m_pairs m_line m_lineMany m_letters m_begins0 m_commands m_commandMany m_place0 m_size0 m_isWrong) 50 [(3, .int s), (0, .ref (ad o)), (1, .int x1), (2, .int x2)] []) (kr : ∀ r : Int32, u = .inl r → PP (some (.int r)) (wM t ad o m_m m_aside m_saved m_isSaved m_past m_changes m_errorAt m_failed m_thrown m_input m_inputMany m_fitting m_given m_pairs m_line m_lineMany m_letters m_begins0 m_commands m_commandMany m_place0 m_size0 m_isWrong)), J X 0 0 (wM t ad o m_m m_aside m_saved m_isSaved m_past m_changes m_errorAt m_failed m_thrown m_input m_inputMany m_fitting m_given m_pairs m_line m_lineMany m_letters m_begins0 m_commands m_commandMany m_place0 m_size0 m_isWrong) 2 [(3, .int x3), (0, .ref (ad o)), (1, .int x1), (2, .int x2)] [] := by
  intro jn
  induction jn with
  | zero => intro x3 u hf; cases (show (none : Option ((Int32) ⊕ (Int32))) = some u from hf)
  | succ jn ih =>
    intro x3 u hf kx kr
    unfold f_X10_standing_L2 at hf
    refine j_iload_n hX dX10_standing_2 rfl 0 rfl ?_
    refine j_aload_n hX dX10_standing_3 rfl 1 rfl ?_
    refine j_get hX dX10_standing_4 inX10 0 q1455 0 rfl rfl (by decide) rfl rfl ?_
    refine j_iconst hX 0 dX10_standing_7 (by decide) ?_
    refine j_iald hX dX10_standing_8 1 0 rfl rfl hf (fun c8 hf => ?_)
    refine j_icmp_ge hX 50 dX10_standing_9 (by decide) hf (fun c9 hf => ?_) (fun c9 hf => ?_)
    · cases hf
      exact kx _ rfl
    · refine j_aload_n hX dX10_standing_12 rfl 1 rfl ?_
      refine j_get hX dX10_standing_13 inX10 0 q1455 0 rfl rfl (by decide) rfl rfl ?_
      refine j_iload_n hX dX10_standing_16 rfl 0 rfl ?_
      obtain ⟨u1, h2, hf⟩ := jbind hf
      refine j_callS (st := [.ref (ad (o + 1))]) hX (k_X10_hammerOf (l := l) (D := D) (t := t) (ad := ad)  x3 u1 h2) q1509 q1510 q15 q1511 (n9 := 1) rfl ⟨by decide +kernel, by decide +kernel⟩ dX10_standing_17 (Nat.le_of_ble_eq_true rfl) ⟨Nat.le_refl _, Nat.le_refl _⟩ (fun w : va_W => w ++ (wM t ad o m_m m_aside m_saved m_isSaved m_past m_changes m_errorAt m_failed m_thrown m_input m_inputMany m_fitting m_given m_pairs m_line m_lineMany m_letters m_begins0 m_commands m_commandMany m_place0 m_size0 m_isWrong)) (jFr_r (wM t ad o m_m m_aside m_saved m_isSaved m_past m_changes m_errorAt m_failed m_thrown m_input m_inputMany m_fitting m_given m_pairs m_line m_lineMany m_letters m_begins0 m_commands m_commandMany m_place0 m_size0 m_isWrong)) rfl rfl (fun v w hvw => ?_)
      obtain ⟨rfl, rfl⟩ := hvw
      change J X 0 0 (wM t ad o m_m m_aside m_saved m_isSaved m_past m_changes m_errorAt m_failed m_thrown m_input m_inputMany m_fitting m_given m_pairs m_line m_lineMany m_letters m_begins0 m_commands m_commandMany m_place0 m_size0 m_isWrong) 20 [(3, .int x3), (0, .ref (ad o)), (1, .int x1), (2, .int x2)] [.int u1, .ref (ad (o + 1))]
      refine j_iconst hX 2 dX10_standing_20 (by decide) ?_
      refine j_iadd hX dX10_standing_21 ?_
      refine j_iald hX dX10_standing_22 1 0 rfl rfl hf (fun c22 hf => ?_)
      refine j_iload_n hX dX10_standing_23 rfl 2 rfl ?_
      refine j_icmp_ne hX 44 dX10_standing_24 (by decide) hf (fun c24 hf => ?_) (fun c24 hf => ?_)
      · refine j_iinc hX (x3 + 1) [(3, .int (x3 + 1)), (0, .ref (ad o)), (1, .int x1), (2, .int x2)] dX10_standing_44 0 rfl rfl (by decide) rfl ?_
        refine j_goto hX 2 dX10_standing_47 (by decide) ?_
        exact ih (x3 + 1) u hf kx kr
      · refine j_aload_n hX dX10_standing_27 rfl 1 rfl ?_
        refine j_get hX dX10_standing_28 inX10 0 q1455 0 rfl rfl (by decide) rfl rfl ?_
        refine j_iload_n hX dX10_standing_31 rfl 0 rfl ?_
        obtain ⟨u3, h4, hf⟩ := jbind hf
        refine j_callS (st := [.ref (ad (o + 1))]) hX (k_X10_hammerOf (l := l) (D := D) (t := t) (ad := ad)  x3 u3 h4) q1509 q1510 q15 q1511 (n9 := 1) rfl ⟨by decide +kernel, by decide +kernel⟩ dX10_standing_32 (Nat.le_of_ble_eq_true rfl) ⟨Nat.le_refl _, Nat.le_refl _⟩ (fun w : va_W => w ++ (wM t ad o m_m m_aside m_saved m_isSaved m_past m_changes m_errorAt m_failed m_thrown m_input m_inputMany m_fitting m_given m_pairs m_line m_lineMany m_letters m_begins0 m_commands m_commandMany m_place0 m_size0 m_isWrong)) (jFr_r (wM t ad o m_m m_aside m_saved m_isSaved m_past m_changes m_errorAt m_failed m_thrown m_input m_inputMany m_fitting m_given m_pairs m_line m_lineMany m_letters m_begins0 m_commands m_commandMany m_place0 m_size0 m_isWrong)) rfl rfl (fun v w hvw => ?_)
        obtain ⟨rfl, rfl⟩ := hvw
        change J X 0 0 (wM t ad o m_m m_aside m_saved m_isSaved m_past m_changes m_errorAt m_failed m_thrown m_input m_inputMany m_fitting m_given m_pairs m_line m_lineMany m_letters m_begins0 m_commands m_commandMany m_place0 m_size0 m_isWrong) 35 [(3, .int x3), (0, .ref (ad o)), (1, .int x1), (2, .int x2)] [.int u3, .ref (ad (o + 1))]
        refine j_iconst hX 3 dX10_standing_35 (by decide) ?_
        refine j_iadd hX dX10_standing_36 ?_
        refine j_iald hX dX10_standing_37 1 0 rfl rfl hf (fun c37 hf => ?_)
        refine j_iload_n hX dX10_standing_38 rfl 3 rfl ?_
        refine j_icmp_ne hX 44 dX10_standing_39 (by decide) hf (fun c39 hf => ?_) (fun c39 hf => ?_)
        · refine j_iinc hX (x3 + 1) [(3, .int (x3 + 1)), (0, .ref (ad o)), (1, .int x1), (2, .int x2)] dX10_standing_44 0 rfl rfl (by decide) rfl ?_
          refine j_goto hX 2 dX10_standing_47 (by decide) ?_
          exact ih (x3 + 1) u hf kx kr
        · refine j_iload_n hX dX10_standing_42 rfl 0 rfl ?_
          cases hf
          exact j_iret hX hE dX10_standing_43 (Nat.le_refl _) (Nat.le_refl _) (kr _ rfl)
set_option maxHeartbeats 4000000 in
set_option maxRecDepth 100000 in
theorem k_X10_standing {l : Launch} {D : va_G} {t : Nat → ClassId} {ad : Nat → Nat} {o : Nat} (m_m : Nat → Int32) (m_aside : Nat → Int32) (m_saved : Nat → Int32) (m_isSaved : Int32) (m_past : Nat → Int32) (m_changes : Int32) (m_errorAt : Int32) (m_failed : Int32) (m_thrown : Int32) (m_input : Nat → Int32) (m_inputMany : Int32) (m_fitting : Nat → Int32) (m_given : Nat → Int32) (m_pairs : Nat → Int32) (m_line : Nat → Int32) (m_lineMany : Int32) (m_letters : Nat → Int32) (m_begins0 : Nat → Int32) (m_commands : Nat → Int32) (m_commandMany : Int32) (m_place0 : Int32) (m_size0 : Int32) (m_isWrong : Int32) (a0 : Int32) (a1 : Int32) (u : Int32) (hf : f_X10_standing m_m a0 a1 = some u) : cm l D (jT t) yX10_standing cX10_standing 4 (some FieldType.int) { frames := 1, cells := 0, slots := 0, locals := 20 } [.ref (ad o), .int a0, .int a1] (wM t ad o m_m m_aside m_saved m_isSaved m_past m_changes m_errorAt m_failed m_thrown m_input m_inputMany m_fitting m_given m_pairs m_line m_lineMany m_letters m_begins0 m_commands m_commandMany m_place0 m_size0 m_isWrong) (fun v w => v = (some (.int u)) ∧ w = wM t ad o m_m m_aside m_saved m_isSaved m_past m_changes m_errorAt m_failed m_thrown m_input m_inputMany m_fitting m_given m_pairs m_line m_lineMany m_letters m_begins0 m_commands m_commandMany m_place0 m_size0 m_isWrong) := by
  refine cm_of RX10 rfl (by decide +kernel) (Nat.le_of_ble_eq_true rfl) (fun X hX hE => ?_)
  change J X 0 0 (wM t ad o m_m m_aside m_saved m_isSaved m_past m_changes m_errorAt m_failed m_thrown m_input m_inputMany m_fitting m_given m_pairs m_line m_lineMany m_letters m_begins0 m_commands m_commandMany m_place0 m_size0 m_isWrong) 0 [(0, .ref (ad o)), (1, .int a0), (2, .int a1)] []
  unfold f_X10_standing at hf
  refine j_iconst hX 0 dX10_standing_0 (by decide) ?_
  refine j_istore_n hX [(3, .int 0), (0, .ref (ad o)), (1, .int a0), (2, .int a1)] dX10_standing_1 rfl (by decide) rfl ?_
  obtain ⟨o5, h7, hf⟩ := jbind hf
  refine k_X10_standing_L2 (ad := ad) m_m a0 a1 m_aside m_saved m_isSaved m_past m_changes m_errorAt m_failed m_thrown m_input m_inputMany m_fitting m_given m_pairs m_line m_lineMany m_letters m_begins0 m_commands m_commandMany m_place0 m_size0 m_isWrong hX hE jFU 0 o5 h7 (fun s6 es6 => ?_) (fun r er => ?_)
  · subst es6
    have hf := jsum_r hf
    refine j_iconst hX (-1) dX10_standing_50 (by decide) ?_
    cases hf
    exact j_iret hX hE dX10_standing_51 (Nat.le_refl _) (Nat.le_refl _) ⟨rfl, rfl⟩
  · subst er
    cases hf
    exact ⟨rfl, rfl⟩
-- HammerDepotModel freePlace (I)I
def f_X10_freePlace_L2 (m_m : Nat → Int32) (x1 : Int32) : Nat → Int32 → Option ((Int32) ⊕ (Int32))
  | 0, _ => none
  | jn + 1, x2 =>
    if 6 ≤ x2 then
      some (.inr x2)
    else
      Option.bind (f_X10_standing m_m x1 x2) (fun u1 =>
        if u1 = (-1) then
          some (.inl x2)
        else
          f_X10_freePlace_L2 m_m x1 jn (x2 + 1))
def f_X10_freePlace (m_m : Nat → Int32) (a0 : Int32) : Option (Int32) :=
  Option.bind (f_X10_freePlace_L2 m_m a0 jFU 0) (fun o3 => Sum.elim (fun r => some r) (fun s4 =>
    some (-1)) o3)
set_option maxHeartbeats 4000000 in
set_option maxRecDepth 100000 in
theorem k_X10_freePlace_L2 {l : Launch} {D : va_G} {t : Nat → ClassId} {ad : Nat → Nat} {o : Nat} (m_m : Nat → Int32) (x1 : Int32) (m_aside : Nat → Int32) (m_saved : Nat → Int32) (m_isSaved : Int32) (m_past : Nat → Int32) (m_changes : Int32) (m_errorAt : Int32) (m_failed : Int32) (m_thrown : Int32) (m_input : Nat → Int32) (m_inputMany : Int32) (m_fitting : Nat → Int32) (m_given : Nat → Int32) (m_pairs : Nat → Int32) (m_line : Nat → Int32) (m_lineMany : Int32) (m_letters : Nat → Int32) (m_begins0 : Nat → Int32) (m_commands : Nat → Int32) (m_commandMany : Int32) (m_place0 : Int32) (m_size0 : Int32) (m_isWrong : Int32) {X : jX} (hX : jOK X l D (jT t) cX10_freePlace RX10 (some FieldType.int) { frames := 2, cells := 0, slots := 0, locals := 43 } 3) {PP : Option Value → va_W → Prop} (hE : jEnd X PP 0 0) :
    ∀ (jn : Nat) (x2 : Int32) (u : (Int32) ⊕ (Int32)) (hf : f_X10_freePlace_L2 m_m x1 jn x2 = some u) (kx : ∀ s : Int32, u = .inr s → J X 0 0 (wM t ad o m_m m_aside m_saved m_isSaved m_past m_changes m_errorAt m_failed m_thrown m_input m_inputMany m_fitting m_given m_pairs m_line m_lineMany m_letters m_begins0 m_commands m_commandMany m_place0 m_size0 m_isWrong) 26 [(2, .int s), (0, .ref (ad o)), (1, .int x1)] []) (kr : ∀ r : Int32, u = .inl r → PP (some (.int r)) (wM t ad o m_m m_aside m_saved m_isSaved m_past m_changes m_errorAt m_failed m_thrown m_input m_inputMany m_fitting m_given m_pairs m_line m_lineMany m_letters m_begins0 m_commands m_commandMany m_place0 m_size0 m_isWrong)), J X 0 0 (wM t ad o m_m m_aside m_saved m_isSaved m_past m_changes m_errorAt m_failed m_thrown m_input m_inputMany m_fitting m_given m_pairs m_line m_lineMany m_letters m_begins0 m_commands m_commandMany m_place0 m_size0 m_isWrong) 2 [(2, .int x2), (0, .ref (ad o)), (1, .int x1)] [] := by
  intro jn
  induction jn with
  | zero => intro x2 u hf; cases (show (none : Option ((Int32) ⊕ (Int32))) = some u from hf)
  | succ jn ih =>
    intro x2 u hf kx kr
    unfold f_X10_freePlace_L2 at hf
    refine j_iload_n hX dX10_freePlace_2 rfl 0 rfl ?_
    refine j_bipush hX 6 dX10_freePlace_3 (by decide) ?_
    refine j_icmp_ge hX 26 dX10_freePlace_5 (by decide) hf (fun c5 hf => ?_) (fun c5 hf => ?_)
    · cases hf
      exact kx _ rfl
    · refine j_aload_n hX dX10_freePlace_8 rfl 1 rfl ?_
      refine j_iload_n hX dX10_freePlace_9 rfl 2 rfl ?_
      refine j_iload_n hX dX10_freePlace_10 rfl 0 rfl ?_
      obtain ⟨u1, h2, hf⟩ := jbind hf
      refine j_callV (st := []) hX (k_X10_standing (l := l) (D := D) (t := t) (ad := ad) (o := o) m_m m_aside m_saved m_isSaved m_past m_changes m_errorAt m_failed m_thrown m_input m_inputMany m_fitting m_given m_pairs m_line m_lineMany m_letters m_begins0 m_commands m_commandMany m_place0 m_size0 m_isWrong x1 x2 u1 h2) q1506 q1507 q1953 q15 q1508 (n9 := 2) rfl ⟨by decide +kernel, by decide +kernel⟩ 0 rfl rfl rfl dX10_freePlace_11 (Nat.le_of_ble_eq_true rfl) ⟨Nat.le_refl _, Nat.le_refl _⟩ (fun w : va_W => w) jFr_id rfl rfl (fun v w hvw => ?_)
      obtain ⟨rfl, rfl⟩ := hvw
      change J X 0 0 (wM t ad o m_m m_aside m_saved m_isSaved m_past m_changes m_errorAt m_failed m_thrown m_input m_inputMany m_fitting m_given m_pairs m_line m_lineMany m_letters m_begins0 m_commands m_commandMany m_place0 m_size0 m_isWrong) 14 [(2, .int x2), (0, .ref (ad o)), (1, .int x1)] [.int u1]
      refine j_iconst hX (-1) dX10_freePlace_14 (by decide) ?_
      refine j_icmp_ne hX 20 dX10_freePlace_15 (by decide) hf (fun c15 hf => ?_) (fun c15 hf => ?_)
      · refine j_iinc hX (x2 + 1) [(2, .int (x2 + 1)), (0, .ref (ad o)), (1, .int x1)] dX10_freePlace_20 0 rfl rfl (by decide) rfl ?_
        refine j_goto hX 2 dX10_freePlace_23 (by decide) ?_
        exact ih (x2 + 1) u hf kx kr
      · refine j_iload_n hX dX10_freePlace_18 rfl 0 rfl ?_
        cases hf
        exact j_iret hX hE dX10_freePlace_19 (Nat.le_refl _) (Nat.le_refl _) (kr _ rfl)
set_option maxHeartbeats 4000000 in
set_option maxRecDepth 100000 in
theorem k_X10_freePlace {l : Launch} {D : va_G} {t : Nat → ClassId} {ad : Nat → Nat} {o : Nat} (m_m : Nat → Int32) (m_aside : Nat → Int32) (m_saved : Nat → Int32) (m_isSaved : Int32) (m_past : Nat → Int32) (m_changes : Int32) (m_errorAt : Int32) (m_failed : Int32) (m_thrown : Int32) (m_input : Nat → Int32) (m_inputMany : Int32) (m_fitting : Nat → Int32) (m_given : Nat → Int32) (m_pairs : Nat → Int32) (m_line : Nat → Int32) (m_lineMany : Int32) (m_letters : Nat → Int32) (m_begins0 : Nat → Int32) (m_commands : Nat → Int32) (m_commandMany : Int32) (m_place0 : Int32) (m_size0 : Int32) (m_isWrong : Int32) (a0 : Int32) (u : Int32) (hf : f_X10_freePlace m_m a0 = some u) : cm l D (jT t) yX10_freePlace cX10_freePlace 3 (some FieldType.int) { frames := 2, cells := 0, slots := 0, locals := 43 } [.ref (ad o), .int a0] (wM t ad o m_m m_aside m_saved m_isSaved m_past m_changes m_errorAt m_failed m_thrown m_input m_inputMany m_fitting m_given m_pairs m_line m_lineMany m_letters m_begins0 m_commands m_commandMany m_place0 m_size0 m_isWrong) (fun v w => v = (some (.int u)) ∧ w = wM t ad o m_m m_aside m_saved m_isSaved m_past m_changes m_errorAt m_failed m_thrown m_input m_inputMany m_fitting m_given m_pairs m_line m_lineMany m_letters m_begins0 m_commands m_commandMany m_place0 m_size0 m_isWrong) := by
  refine cm_of RX10 rfl (by decide +kernel) (Nat.le_of_ble_eq_true rfl) (fun X hX hE => ?_)
  change J X 0 0 (wM t ad o m_m m_aside m_saved m_isSaved m_past m_changes m_errorAt m_failed m_thrown m_input m_inputMany m_fitting m_given m_pairs m_line m_lineMany m_letters m_begins0 m_commands m_commandMany m_place0 m_size0 m_isWrong) 0 [(0, .ref (ad o)), (1, .int a0)] []
  unfold f_X10_freePlace at hf
  refine j_iconst hX 0 dX10_freePlace_0 (by decide) ?_
  refine j_istore_n hX [(2, .int 0), (0, .ref (ad o)), (1, .int a0)] dX10_freePlace_1 rfl (by decide) rfl ?_
  obtain ⟨o3, h5, hf⟩ := jbind hf
  refine k_X10_freePlace_L2 (ad := ad) m_m a0 m_aside m_saved m_isSaved m_past m_changes m_errorAt m_failed m_thrown m_input m_inputMany m_fitting m_given m_pairs m_line m_lineMany m_letters m_begins0 m_commands m_commandMany m_place0 m_size0 m_isWrong hX hE jFU 0 o3 h5 (fun s4 es4 => ?_) (fun r er => ?_)
  · subst es4
    have hf := jsum_r hf
    refine j_iconst hX (-1) dX10_freePlace_26 (by decide) ?_
    cases hf
    exact j_iret hX hE dX10_freePlace_27 (Nat.le_refl _) (Nat.le_refl _) ⟨rfl, rfl⟩
  · subst er
    cases hf
    exact ⟨rfl, rfl⟩
-- HammerDepotModel many (I)I
def f_X10_many_L4 (m_m : Nat → Int32) (x1 : Int32) : Nat → Int32 → Int32 → Option (Int32 × Int32)
  | 0, _, _ => none
  | jn + 1, x3, x2 =>
    if jin 0 2048 = true then
      if (m_m (0 : Int32).toNatClampNeg) ≤ x3 then
        some (x3, x2)
      else
        Option.bind (f_X10_hammerOf x3) (fun u1 =>
          if jin (u1 + 2) 2048 = true then
            if (m_m (u1 + 2).toNatClampNeg) = x1 then
              f_X10_many_L4 m_m x1 jn (x3 + 1) (x2 + 1)
            else
              f_X10_many_L4 m_m x1 jn (x3 + 1) (x2 + 0)
          else none)
    else none
def f_X10_many (m_m : Nat → Int32) (a0 : Int32) : Option (Int32) :=
  Option.bind (f_X10_many_L4 m_m a0 jFU 0 0) (fun s4 =>
    some s4.2)
set_option maxHeartbeats 4000000 in
set_option maxRecDepth 100000 in
theorem k_X10_many_L4 {l : Launch} {D : va_G} {t : Nat → ClassId} {ad : Nat → Nat} {o : Nat} (m_m : Nat → Int32) (x1 : Int32) (m_aside : Nat → Int32) (m_saved : Nat → Int32) (m_isSaved : Int32) (m_past : Nat → Int32) (m_changes : Int32) (m_errorAt : Int32) (m_failed : Int32) (m_thrown : Int32) (m_input : Nat → Int32) (m_inputMany : Int32) (m_fitting : Nat → Int32) (m_given : Nat → Int32) (m_pairs : Nat → Int32) (m_line : Nat → Int32) (m_lineMany : Int32) (m_letters : Nat → Int32) (m_begins0 : Nat → Int32) (m_commands : Nat → Int32) (m_commandMany : Int32) (m_place0 : Int32) (m_size0 : Int32) (m_isWrong : Int32) {X : jX} (hX : jOK X l D (jT t) cX10_many RX10 (some FieldType.int) { frames := 1, cells := 0, slots := 0, locals := 20 } 4) :
    ∀ (jn : Nat) (x3 : Int32) (x2 : Int32) (u : Int32 × Int32) (hf : f_X10_many_L4 m_m x1 jn x3 x2 = some u) (kx : ∀ s : Int32 × Int32, u = s → J X 0 0 (wM t ad o m_m m_aside m_saved m_isSaved m_past m_changes m_errorAt m_failed m_thrown m_input m_inputMany m_fitting m_given m_pairs m_line m_lineMany m_letters m_begins0 m_commands m_commandMany m_place0 m_size0 m_isWrong) 43 [(3, .int s.1), (2, .int s.2), (0, .ref (ad o)), (1, .int x1)] []), J X 0 0 (wM t ad o m_m m_aside m_saved m_isSaved m_past m_changes m_errorAt m_failed m_thrown m_input m_inputMany m_fitting m_given m_pairs m_line m_lineMany m_letters m_begins0 m_commands m_commandMany m_place0 m_size0 m_isWrong) 4 [(3, .int x3), (2, .int x2), (0, .ref (ad o)), (1, .int x1)] [] := by
  intro jn
  induction jn with
  | zero => intro x3 x2 u hf; cases (show (none : Option (Int32 × Int32)) = some u from hf)
  | succ jn ih =>
    intro x3 x2 u hf kx
    unfold f_X10_many_L4 at hf
    refine j_iload_n hX dX10_many_4 rfl 0 rfl ?_
    refine j_aload_n hX dX10_many_5 rfl 2 rfl ?_
    refine j_get hX dX10_many_6 inX10 0 q1455 0 rfl rfl (by decide) rfl rfl ?_
    refine j_iconst hX 0 dX10_many_9 (by decide) ?_
    refine j_iald hX dX10_many_10 1 0 rfl rfl hf (fun c10 hf => ?_)
    refine j_icmp_ge hX 43 dX10_many_11 (by decide) hf (fun c11 hf => ?_) (fun c11 hf => ?_)
    · cases hf
      exact kx _ rfl
    · refine j_iload_n hX dX10_many_14 rfl 1 rfl ?_
      refine j_aload_n hX dX10_many_15 rfl 2 rfl ?_
      refine j_get hX dX10_many_16 inX10 0 q1455 0 rfl rfl (by decide) rfl rfl ?_
      refine j_iload_n hX dX10_many_19 rfl 0 rfl ?_
      obtain ⟨u1, h2, hf⟩ := jbind hf
      refine j_callS (st := [.ref (ad (o + 1)), .int x2]) hX (k_X10_hammerOf (l := l) (D := D) (t := t) (ad := ad)  x3 u1 h2) q1509 q1510 q15 q1511 (n9 := 1) rfl ⟨by decide +kernel, by decide +kernel⟩ dX10_many_20 (Nat.le_of_ble_eq_true rfl) ⟨Nat.le_refl _, Nat.le_refl _⟩ (fun w : va_W => w ++ (wM t ad o m_m m_aside m_saved m_isSaved m_past m_changes m_errorAt m_failed m_thrown m_input m_inputMany m_fitting m_given m_pairs m_line m_lineMany m_letters m_begins0 m_commands m_commandMany m_place0 m_size0 m_isWrong)) (jFr_r (wM t ad o m_m m_aside m_saved m_isSaved m_past m_changes m_errorAt m_failed m_thrown m_input m_inputMany m_fitting m_given m_pairs m_line m_lineMany m_letters m_begins0 m_commands m_commandMany m_place0 m_size0 m_isWrong)) rfl rfl (fun v w hvw => ?_)
      obtain ⟨rfl, rfl⟩ := hvw
      change J X 0 0 (wM t ad o m_m m_aside m_saved m_isSaved m_past m_changes m_errorAt m_failed m_thrown m_input m_inputMany m_fitting m_given m_pairs m_line m_lineMany m_letters m_begins0 m_commands m_commandMany m_place0 m_size0 m_isWrong) 23 [(3, .int x3), (2, .int x2), (0, .ref (ad o)), (1, .int x1)] [.int u1, .ref (ad (o + 1)), .int x2]
      refine j_iconst hX 2 dX10_many_23 (by decide) ?_
      refine j_iadd hX dX10_many_24 ?_
      refine j_iald hX dX10_many_25 1 0 rfl rfl hf (fun c25 hf => ?_)
      refine j_iload_n hX dX10_many_26 rfl 3 rfl ?_
      refine j_icmp_ne hX 34 dX10_many_27 (by decide) hf (fun c27 hf => ?_) (fun c27 hf => ?_)
      · refine j_iconst hX 0 dX10_many_34 (by decide) ?_
        refine j_iadd hX dX10_many_35 ?_
        refine j_istore_n hX [(2, .int (x2 + 0)), (3, .int x3), (0, .ref (ad o)), (1, .int x1)] dX10_many_36 rfl (by decide) rfl ?_
        refine j_iinc hX (x3 + 1) [(3, .int (x3 + 1)), (2, .int (x2 + 0)), (0, .ref (ad o)), (1, .int x1)] dX10_many_37 1 rfl rfl (by decide) rfl ?_
        refine j_goto hX 4 dX10_many_40 (by decide) ?_
        exact ih (x3 + 1) (x2 + 0) u hf kx
      · refine j_iconst hX 1 dX10_many_30 (by decide) ?_
        refine j_goto hX 35 dX10_many_31 (by decide) ?_
        refine j_iadd hX dX10_many_35 ?_
        refine j_istore_n hX [(2, .int (x2 + 1)), (3, .int x3), (0, .ref (ad o)), (1, .int x1)] dX10_many_36 rfl (by decide) rfl ?_
        refine j_iinc hX (x3 + 1) [(3, .int (x3 + 1)), (2, .int (x2 + 1)), (0, .ref (ad o)), (1, .int x1)] dX10_many_37 1 rfl rfl (by decide) rfl ?_
        refine j_goto hX 4 dX10_many_40 (by decide) ?_
        exact ih (x3 + 1) (x2 + 1) u hf kx
set_option maxHeartbeats 4000000 in
set_option maxRecDepth 100000 in
theorem k_X10_many {l : Launch} {D : va_G} {t : Nat → ClassId} {ad : Nat → Nat} {o : Nat} (m_m : Nat → Int32) (m_aside : Nat → Int32) (m_saved : Nat → Int32) (m_isSaved : Int32) (m_past : Nat → Int32) (m_changes : Int32) (m_errorAt : Int32) (m_failed : Int32) (m_thrown : Int32) (m_input : Nat → Int32) (m_inputMany : Int32) (m_fitting : Nat → Int32) (m_given : Nat → Int32) (m_pairs : Nat → Int32) (m_line : Nat → Int32) (m_lineMany : Int32) (m_letters : Nat → Int32) (m_begins0 : Nat → Int32) (m_commands : Nat → Int32) (m_commandMany : Int32) (m_place0 : Int32) (m_size0 : Int32) (m_isWrong : Int32) (a0 : Int32) (u : Int32) (hf : f_X10_many m_m a0 = some u) : cm l D (jT t) yX10_many cX10_many 4 (some FieldType.int) { frames := 1, cells := 0, slots := 0, locals := 20 } [.ref (ad o), .int a0] (wM t ad o m_m m_aside m_saved m_isSaved m_past m_changes m_errorAt m_failed m_thrown m_input m_inputMany m_fitting m_given m_pairs m_line m_lineMany m_letters m_begins0 m_commands m_commandMany m_place0 m_size0 m_isWrong) (fun v w => v = (some (.int u)) ∧ w = wM t ad o m_m m_aside m_saved m_isSaved m_past m_changes m_errorAt m_failed m_thrown m_input m_inputMany m_fitting m_given m_pairs m_line m_lineMany m_letters m_begins0 m_commands m_commandMany m_place0 m_size0 m_isWrong) := by
  refine cm_of RX10 rfl (by decide +kernel) (Nat.le_of_ble_eq_true rfl) (fun X hX hE => ?_)
  change J X 0 0 (wM t ad o m_m m_aside m_saved m_isSaved m_past m_changes m_errorAt m_failed m_thrown m_input m_inputMany m_fitting m_given m_pairs m_line m_lineMany m_letters m_begins0 m_commands m_commandMany m_place0 m_size0 m_isWrong) 0 [(0, .ref (ad o)), (1, .int a0)] []
  unfold f_X10_many at hf
  refine j_iconst hX 0 dX10_many_0 (by decide) ?_
  refine j_istore_n hX [(2, .int 0), (0, .ref (ad o)), (1, .int a0)] dX10_many_1 rfl (by decide) rfl ?_
  refine j_iconst hX 0 dX10_many_2 (by decide) ?_
  refine j_istore_n hX [(3, .int 0), (2, .int 0), (0, .ref (ad o)), (1, .int a0)] dX10_many_3 rfl (by decide) rfl ?_
  obtain ⟨s4, h5, hf⟩ := jbind hf
  refine k_X10_many_L4 (ad := ad) m_m a0 m_aside m_saved m_isSaved m_past m_changes m_errorAt m_failed m_thrown m_input m_inputMany m_fitting m_given m_pairs m_line m_lineMany m_letters m_begins0 m_commands m_commandMany m_place0 m_size0 m_isWrong hX jFU 0 0 s4 h5 (fun s40 es4 => ?_)
  subst es4
  refine j_iload_n hX dX10_many_43 rfl 1 rfl ?_
  cases hf
  exact j_iret hX hE dX10_many_44 (Nat.le_refl _) (Nat.le_refl _) ⟨rfl, rfl⟩
-- HammerDepotModel due (I)I
def f_X10_due_L10 (m_m : Nat → Int32) (x2 : Int32) (x1 : Int32) : Nat → Int32 → Int32 → Option (Int32 × Int32)
  | 0, _, _ => none
  | jn + 1, x4, x3 =>
    if jin 0 2048 = true then
      if (m_m (0 : Int32).toNatClampNeg) ≤ x4 then
        some (x4, x3)
      else
        Option.bind (f_X10_hammerOf x4) (fun u3 =>
          if jin u3 2048 = true then
            if jin x2 2048 = true then
              Option.bind (f_X10_hammerOf x4) (fun u5 =>
                if jin (u5 + 2) 2048 = true then
                  if jin (x2 + 2) 2048 = true then
                    if (m_m (u5 + 2).toNatClampNeg) = (m_m (x2 + 2).toNatClampNeg) then
                      if ((m_m (u3).toNatClampNeg) - (m_m (x2).toNatClampNeg)) < 0 then
                        f_X10_due_L10 m_m x2 x1 jn (x4 + 1) (x3 + 1)
                      else
                        if ((m_m (u3).toNatClampNeg) - (m_m (x2).toNatClampNeg)) = 0 then
                          if x1 ≤ x4 then
                            f_X10_due_L10 m_m x2 x1 jn (x4 + 1) (x3 + 0)
                          else
                            f_X10_due_L10 m_m x2 x1 jn (x4 + 1) (x3 + 1)
                        else
                          f_X10_due_L10 m_m x2 x1 jn (x4 + 1) (x3 + 0)
                    else
                      f_X10_due_L10 m_m x2 x1 jn (x4 + 1) (x3 + 0)
                  else none
                else none)
            else none
          else none)
    else none
def f_X10_due (m_m : Nat → Int32) (a0 : Int32) : Option (Int32) :=
  Option.bind (f_X10_hammerOf a0) (fun u1 =>
    Option.bind (f_X10_due_L10 m_m u1 a0 jFU 0 0) (fun s8 =>
      some s8.2))
set_option maxHeartbeats 4000000 in
set_option maxRecDepth 100000 in
theorem k_X10_due_L10 {l : Launch} {D : va_G} {t : Nat → ClassId} {ad : Nat → Nat} {o : Nat} (m_m : Nat → Int32) (x2 : Int32) (x1 : Int32) (m_aside : Nat → Int32) (m_saved : Nat → Int32) (m_isSaved : Int32) (m_past : Nat → Int32) (m_changes : Int32) (m_errorAt : Int32) (m_failed : Int32) (m_thrown : Int32) (m_input : Nat → Int32) (m_inputMany : Int32) (m_fitting : Nat → Int32) (m_given : Nat → Int32) (m_pairs : Nat → Int32) (m_line : Nat → Int32) (m_lineMany : Int32) (m_letters : Nat → Int32) (m_begins0 : Nat → Int32) (m_commands : Nat → Int32) (m_commandMany : Int32) (m_place0 : Int32) (m_size0 : Int32) (m_isWrong : Int32) {X : jX} (hX : jOK X l D (jT t) cX10_due RX10 (some FieldType.int) { frames := 1, cells := 0, slots := 0, locals := 20 } 6) :
    ∀ (jn : Nat) (x4 : Int32) (x3 : Int32) (u : Int32 × Int32) (hf : f_X10_due_L10 m_m x2 x1 jn x4 x3 = some u) (kx : ∀ s : Int32 × Int32, u = s → J X 0 0 (wM t ad o m_m m_aside m_saved m_isSaved m_past m_changes m_errorAt m_failed m_thrown m_input m_inputMany m_fitting m_given m_pairs m_line m_lineMany m_letters m_begins0 m_commands m_commandMany m_place0 m_size0 m_isWrong) 93 [(4, .int s.1), (3, .int s.2), (2, .int x2), (0, .ref (ad o)), (1, .int x1)] []), J X 0 0 (wM t ad o m_m m_aside m_saved m_isSaved m_past m_changes m_errorAt m_failed m_thrown m_input m_inputMany m_fitting m_given m_pairs m_line m_lineMany m_letters m_begins0 m_commands m_commandMany m_place0 m_size0 m_isWrong) 10 [(4, .int x4), (3, .int x3), (2, .int x2), (0, .ref (ad o)), (1, .int x1)] [] := by
  intro jn
  induction jn with
  | zero => intro x4 x3 u hf; cases (show (none : Option (Int32 × Int32)) = some u from hf)
  | succ jn ih =>
    intro x4 x3 u hf kx
    unfold f_X10_due_L10 at hf
    refine j_iload hX dX10_due_10 0 rfl ?_
    refine j_aload_n hX dX10_due_12 rfl 3 rfl ?_
    refine j_get hX dX10_due_13 inX10 0 q1455 0 rfl rfl (by decide) rfl rfl ?_
    refine j_iconst hX 0 dX10_due_16 (by decide) ?_
    refine j_iald hX dX10_due_17 1 0 rfl rfl hf (fun c17 hf => ?_)
    refine j_icmp_ge hX 93 dX10_due_18 (by decide) hf (fun c18 hf => ?_) (fun c18 hf => ?_)
    · cases hf
      exact kx _ rfl
    · refine j_aload_n hX dX10_due_21 rfl 3 rfl ?_
      refine j_get hX dX10_due_22 inX10 0 q1455 0 rfl rfl (by decide) rfl rfl ?_
      refine j_iload hX dX10_due_25 0 rfl ?_
      obtain ⟨u3, h4, hf⟩ := jbind hf
      refine j_callS (st := [.ref (ad (o + 1))]) hX (k_X10_hammerOf (l := l) (D := D) (t := t) (ad := ad)  x4 u3 h4) q1509 q1510 q15 q1511 (n9 := 1) rfl ⟨by decide +kernel, by decide +kernel⟩ dX10_due_27 (Nat.le_of_ble_eq_true rfl) ⟨Nat.le_refl _, Nat.le_refl _⟩ (fun w : va_W => w ++ (wM t ad o m_m m_aside m_saved m_isSaved m_past m_changes m_errorAt m_failed m_thrown m_input m_inputMany m_fitting m_given m_pairs m_line m_lineMany m_letters m_begins0 m_commands m_commandMany m_place0 m_size0 m_isWrong)) (jFr_r (wM t ad o m_m m_aside m_saved m_isSaved m_past m_changes m_errorAt m_failed m_thrown m_input m_inputMany m_fitting m_given m_pairs m_line m_lineMany m_letters m_begins0 m_commands m_commandMany m_place0 m_size0 m_isWrong)) rfl rfl (fun v w hvw => ?_)
      obtain ⟨rfl, rfl⟩ := hvw
      change J X 0 0 (wM t ad o m_m m_aside m_saved m_isSaved m_past m_changes m_errorAt m_failed m_thrown m_input m_inputMany m_fitting m_given m_pairs m_line m_lineMany m_letters m_begins0 m_commands m_commandMany m_place0 m_size0 m_isWrong) 30 [(4, .int x4), (3, .int x3), (2, .int x2), (0, .ref (ad o)), (1, .int x1)] [.int u3, .ref (ad (o + 1))]
      refine j_iald hX dX10_due_30 1 0 rfl rfl hf (fun c30 hf => ?_)
      refine j_aload_n hX dX10_due_31 rfl 3 rfl ?_
      refine j_get hX dX10_due_32 inX10 0 q1455 0 rfl rfl (by decide) rfl rfl ?_
      refine j_iload_n hX dX10_due_35 rfl 2 rfl ?_
      refine j_iald hX dX10_due_36 1 0 rfl rfl hf (fun c36 hf => ?_)
      refine j_isub hX dX10_due_37 ?_
      refine j_istore hX [(5, .int ((m_m (u3).toNatClampNeg) - (m_m (x2).toNatClampNeg))), (4, .int x4), (3, .int x3), (2, .int x2), (0, .ref (ad o)), (1, .int x1)] dX10_due_38 (by decide) rfl ?_
      refine j_iload_n hX dX10_due_40 rfl 2 rfl ?_
      refine j_aload_n hX dX10_due_41 rfl 4 rfl ?_
      refine j_get hX dX10_due_42 inX10 0 q1455 0 rfl rfl (by decide) rfl rfl ?_
      refine j_iload hX dX10_due_45 1 rfl ?_
      obtain ⟨u5, h6, hf⟩ := jbind hf
      refine j_callS (st := [.ref (ad (o + 1)), .int x3]) hX (k_X10_hammerOf (l := l) (D := D) (t := t) (ad := ad)  x4 u5 h6) q1509 q1510 q15 q1511 (n9 := 1) rfl ⟨by decide +kernel, by decide +kernel⟩ dX10_due_47 (Nat.le_of_ble_eq_true rfl) ⟨Nat.le_refl _, Nat.le_refl _⟩ (fun w : va_W => w ++ (wM t ad o m_m m_aside m_saved m_isSaved m_past m_changes m_errorAt m_failed m_thrown m_input m_inputMany m_fitting m_given m_pairs m_line m_lineMany m_letters m_begins0 m_commands m_commandMany m_place0 m_size0 m_isWrong)) (jFr_r (wM t ad o m_m m_aside m_saved m_isSaved m_past m_changes m_errorAt m_failed m_thrown m_input m_inputMany m_fitting m_given m_pairs m_line m_lineMany m_letters m_begins0 m_commands m_commandMany m_place0 m_size0 m_isWrong)) rfl rfl (fun v w hvw => ?_)
      obtain ⟨rfl, rfl⟩ := hvw
      change J X 0 0 (wM t ad o m_m m_aside m_saved m_isSaved m_past m_changes m_errorAt m_failed m_thrown m_input m_inputMany m_fitting m_given m_pairs m_line m_lineMany m_letters m_begins0 m_commands m_commandMany m_place0 m_size0 m_isWrong) 50 [(5, .int ((m_m (u3).toNatClampNeg) - (m_m (x2).toNatClampNeg))), (4, .int x4), (3, .int x3), (2, .int x2), (0, .ref (ad o)), (1, .int x1)] [.int u5, .ref (ad (o + 1)), .int x3]
      refine j_iconst hX 2 dX10_due_50 (by decide) ?_
      refine j_iadd hX dX10_due_51 ?_
      refine j_iald hX dX10_due_52 1 0 rfl rfl hf (fun c52 hf => ?_)
      refine j_aload_n hX dX10_due_53 rfl 4 rfl ?_
      refine j_get hX dX10_due_54 inX10 0 q1455 0 rfl rfl (by decide) rfl rfl ?_
      refine j_iload_n hX dX10_due_57 rfl 3 rfl ?_
      refine j_iconst hX 2 dX10_due_58 (by decide) ?_
      refine j_iadd hX dX10_due_59 ?_
      refine j_iald hX dX10_due_60 1 0 rfl rfl hf (fun c60 hf => ?_)
      refine j_icmp_ne hX 84 dX10_due_61 (by decide) hf (fun c61 hf => ?_) (fun c61 hf => ?_)
      · refine j_iconst hX 0 dX10_due_84 (by decide) ?_
        refine j_iadd hX dX10_due_85 ?_
        refine j_istore_n hX [(3, .int (x3 + 0)), (5, .int ((m_m (u3).toNatClampNeg) - (m_m (x2).toNatClampNeg))), (4, .int x4), (2, .int x2), (0, .ref (ad o)), (1, .int x1)] dX10_due_86 rfl (by decide) rfl ?_
        refine j_iinc hX (x4 + 1) [(4, .int (x4 + 1)), (3, .int (x3 + 0)), (5, .int ((m_m (u3).toNatClampNeg) - (m_m (x2).toNatClampNeg))), (2, .int x2), (0, .ref (ad o)), (1, .int x1)] dX10_due_87 2 rfl rfl (by decide) rfl ?_
        refine j_goto hX 10 dX10_due_90 (by decide) ?_
        refine j_sub hX [(4, .int (x4 + 1)), (3, .int (x3 + 0)), (2, .int x2), (0, .ref (ad o)), (1, .int x1)] [0, 1, 3, 4, 5] rfl ?_
        exact ih (x4 + 1) (x3 + 0) u hf kx
      · refine j_iload hX dX10_due_64 0 rfl ?_
        refine j_if_lt hX 80 dX10_due_66 (by decide) hf (fun c66 hf => ?_) (fun c66 hf => ?_)
        · refine j_iconst hX 1 dX10_due_80 (by decide) ?_
          refine j_goto hX 85 dX10_due_81 (by decide) ?_
          refine j_iadd hX dX10_due_85 ?_
          refine j_istore_n hX [(3, .int (x3 + 1)), (5, .int ((m_m (u3).toNatClampNeg) - (m_m (x2).toNatClampNeg))), (4, .int x4), (2, .int x2), (0, .ref (ad o)), (1, .int x1)] dX10_due_86 rfl (by decide) rfl ?_
          refine j_iinc hX (x4 + 1) [(4, .int (x4 + 1)), (3, .int (x3 + 1)), (5, .int ((m_m (u3).toNatClampNeg) - (m_m (x2).toNatClampNeg))), (2, .int x2), (0, .ref (ad o)), (1, .int x1)] dX10_due_87 2 rfl rfl (by decide) rfl ?_
          refine j_goto hX 10 dX10_due_90 (by decide) ?_
          refine j_sub hX [(4, .int (x4 + 1)), (3, .int (x3 + 1)), (2, .int x2), (0, .ref (ad o)), (1, .int x1)] [0, 1, 3, 4, 5] rfl ?_
          exact ih (x4 + 1) (x3 + 1) u hf kx
        · refine j_iload hX dX10_due_69 0 rfl ?_
          refine j_if_ne hX 84 dX10_due_71 (by decide) hf (fun c71 hf => ?_) (fun c71 hf => ?_)
          · refine j_iconst hX 0 dX10_due_84 (by decide) ?_
            refine j_iadd hX dX10_due_85 ?_
            refine j_istore_n hX [(3, .int (x3 + 0)), (5, .int ((m_m (u3).toNatClampNeg) - (m_m (x2).toNatClampNeg))), (4, .int x4), (2, .int x2), (0, .ref (ad o)), (1, .int x1)] dX10_due_86 rfl (by decide) rfl ?_
            refine j_iinc hX (x4 + 1) [(4, .int (x4 + 1)), (3, .int (x3 + 0)), (5, .int ((m_m (u3).toNatClampNeg) - (m_m (x2).toNatClampNeg))), (2, .int x2), (0, .ref (ad o)), (1, .int x1)] dX10_due_87 2 rfl rfl (by decide) rfl ?_
            refine j_goto hX 10 dX10_due_90 (by decide) ?_
            refine j_sub hX [(4, .int (x4 + 1)), (3, .int (x3 + 0)), (2, .int x2), (0, .ref (ad o)), (1, .int x1)] [0, 1, 3, 4, 5] rfl ?_
            exact ih (x4 + 1) (x3 + 0) u hf kx
          · refine j_iload hX dX10_due_74 1 rfl ?_
            refine j_iload_n hX dX10_due_76 rfl 5 rfl ?_
            refine j_icmp_ge hX 84 dX10_due_77 (by decide) hf (fun c77 hf => ?_) (fun c77 hf => ?_)
            · refine j_iconst hX 0 dX10_due_84 (by decide) ?_
              refine j_iadd hX dX10_due_85 ?_
              refine j_istore_n hX [(3, .int (x3 + 0)), (5, .int ((m_m (u3).toNatClampNeg) - (m_m (x2).toNatClampNeg))), (4, .int x4), (2, .int x2), (0, .ref (ad o)), (1, .int x1)] dX10_due_86 rfl (by decide) rfl ?_
              refine j_iinc hX (x4 + 1) [(4, .int (x4 + 1)), (3, .int (x3 + 0)), (5, .int ((m_m (u3).toNatClampNeg) - (m_m (x2).toNatClampNeg))), (2, .int x2), (0, .ref (ad o)), (1, .int x1)] dX10_due_87 2 rfl rfl (by decide) rfl ?_
              refine j_goto hX 10 dX10_due_90 (by decide) ?_
              refine j_sub hX [(4, .int (x4 + 1)), (3, .int (x3 + 0)), (2, .int x2), (0, .ref (ad o)), (1, .int x1)] [0, 1, 3, 4, 5] rfl ?_
              exact ih (x4 + 1) (x3 + 0) u hf kx
            · refine j_iconst hX 1 dX10_due_80 (by decide) ?_
              refine j_goto hX 85 dX10_due_81 (by decide) ?_
              refine j_iadd hX dX10_due_85 ?_
              refine j_istore_n hX [(3, .int (x3 + 1)), (5, .int ((m_m (u3).toNatClampNeg) - (m_m (x2).toNatClampNeg))), (4, .int x4), (2, .int x2), (0, .ref (ad o)), (1, .int x1)] dX10_due_86 rfl (by decide) rfl ?_
              refine j_iinc hX (x4 + 1) [(4, .int (x4 + 1)), (3, .int (x3 + 1)), (5, .int ((m_m (u3).toNatClampNeg) - (m_m (x2).toNatClampNeg))), (2, .int x2), (0, .ref (ad o)), (1, .int x1)] dX10_due_87 2 rfl rfl (by decide) rfl ?_
              refine j_goto hX 10 dX10_due_90 (by decide) ?_
              refine j_sub hX [(4, .int (x4 + 1)), (3, .int (x3 + 1)), (2, .int x2), (0, .ref (ad o)), (1, .int x1)] [0, 1, 3, 4, 5] rfl ?_
              exact ih (x4 + 1) (x3 + 1) u hf kx
set_option maxHeartbeats 4000000 in
set_option maxRecDepth 100000 in
theorem k_X10_due {l : Launch} {D : va_G} {t : Nat → ClassId} {ad : Nat → Nat} {o : Nat} (m_m : Nat → Int32) (m_aside : Nat → Int32) (m_saved : Nat → Int32) (m_isSaved : Int32) (m_past : Nat → Int32) (m_changes : Int32) (m_errorAt : Int32) (m_failed : Int32) (m_thrown : Int32) (m_input : Nat → Int32) (m_inputMany : Int32) (m_fitting : Nat → Int32) (m_given : Nat → Int32) (m_pairs : Nat → Int32) (m_line : Nat → Int32) (m_lineMany : Int32) (m_letters : Nat → Int32) (m_begins0 : Nat → Int32) (m_commands : Nat → Int32) (m_commandMany : Int32) (m_place0 : Int32) (m_size0 : Int32) (m_isWrong : Int32) (a0 : Int32) (u : Int32) (hf : f_X10_due m_m a0 = some u) : cm l D (jT t) yX10_due cX10_due 6 (some FieldType.int) { frames := 1, cells := 0, slots := 0, locals := 20 } [.ref (ad o), .int a0] (wM t ad o m_m m_aside m_saved m_isSaved m_past m_changes m_errorAt m_failed m_thrown m_input m_inputMany m_fitting m_given m_pairs m_line m_lineMany m_letters m_begins0 m_commands m_commandMany m_place0 m_size0 m_isWrong) (fun v w => v = (some (.int u)) ∧ w = wM t ad o m_m m_aside m_saved m_isSaved m_past m_changes m_errorAt m_failed m_thrown m_input m_inputMany m_fitting m_given m_pairs m_line m_lineMany m_letters m_begins0 m_commands m_commandMany m_place0 m_size0 m_isWrong) := by
  refine cm_of RX10 rfl (by decide +kernel) (Nat.le_of_ble_eq_true rfl) (fun X hX hE => ?_)
  change J X 0 0 (wM t ad o m_m m_aside m_saved m_isSaved m_past m_changes m_errorAt m_failed m_thrown m_input m_inputMany m_fitting m_given m_pairs m_line m_lineMany m_letters m_begins0 m_commands m_commandMany m_place0 m_size0 m_isWrong) 0 [(0, .ref (ad o)), (1, .int a0)] []
  unfold f_X10_due at hf
  refine j_iload_n hX dX10_due_0 rfl 1 rfl ?_
  obtain ⟨u1, h2, hf⟩ := jbind hf
  refine j_callS (st := []) hX (k_X10_hammerOf (l := l) (D := D) (t := t) (ad := ad)  a0 u1 h2) q1509 q1510 q15 q1511 (n9 := 1) rfl ⟨by decide +kernel, by decide +kernel⟩ dX10_due_1 (Nat.le_of_ble_eq_true rfl) ⟨Nat.le_refl _, Nat.le_refl _⟩ (fun w : va_W => w ++ (wM t ad o m_m m_aside m_saved m_isSaved m_past m_changes m_errorAt m_failed m_thrown m_input m_inputMany m_fitting m_given m_pairs m_line m_lineMany m_letters m_begins0 m_commands m_commandMany m_place0 m_size0 m_isWrong)) (jFr_r (wM t ad o m_m m_aside m_saved m_isSaved m_past m_changes m_errorAt m_failed m_thrown m_input m_inputMany m_fitting m_given m_pairs m_line m_lineMany m_letters m_begins0 m_commands m_commandMany m_place0 m_size0 m_isWrong)) rfl rfl (fun v w hvw => ?_)
  obtain ⟨rfl, rfl⟩ := hvw
  change J X 0 0 (wM t ad o m_m m_aside m_saved m_isSaved m_past m_changes m_errorAt m_failed m_thrown m_input m_inputMany m_fitting m_given m_pairs m_line m_lineMany m_letters m_begins0 m_commands m_commandMany m_place0 m_size0 m_isWrong) 4 [(0, .ref (ad o)), (1, .int a0)] [.int u1]
  refine j_istore_n hX [(2, .int u1), (0, .ref (ad o)), (1, .int a0)] dX10_due_4 rfl (by decide) rfl ?_
  refine j_iconst hX 0 dX10_due_5 (by decide) ?_
  refine j_istore_n hX [(3, .int 0), (2, .int u1), (0, .ref (ad o)), (1, .int a0)] dX10_due_6 rfl (by decide) rfl ?_
  refine j_iconst hX 0 dX10_due_7 (by decide) ?_
  refine j_istore hX [(4, .int 0), (3, .int 0), (2, .int u1), (0, .ref (ad o)), (1, .int a0)] dX10_due_8 (by decide) rfl ?_
  obtain ⟨s8, h9, hf⟩ := jbind hf
  refine k_X10_due_L10 (ad := ad) m_m u1 a0 m_aside m_saved m_isSaved m_past m_changes m_errorAt m_failed m_thrown m_input m_inputMany m_fitting m_given m_pairs m_line m_lineMany m_letters m_begins0 m_commands m_commandMany m_place0 m_size0 m_isWrong hX jFU 0 0 s8 h9 (fun s80 es8 => ?_)
  subst es8
  refine j_iload_n hX dX10_due_93 rfl 1 rfl ?_
  cases hf
  exact j_iret hX hE dX10_due_94 (Nat.le_refl _) (Nat.le_refl _) ⟨rfl, rfl⟩
-- HammerDepotModel beginsCycle (I)Z
def f_X10_beginsCycle_L26 (m_m : Nat → Int32) (x2 : Int32) (x1 : Int32) : Nat → Int32 → Int32 → Option (Int32 × Int32)
  | 0, _, _ => none
  | jn + 1, x4, x3 =>
    if x3 = (-1) then
      some (x4, x3)
    else
      if x3 = x1 then
        some (x4, x3)
      else
        if x3 ≤ x1 then
          some (x4, x3)
        else
          if 6 ≤ x4 then
            some (x4, x3)
          else
            Option.bind (f_X10_due m_m x3) (fun u7 =>
              Option.bind (f_X10_standing m_m x2 u7) (fun u9 =>
                f_X10_beginsCycle_L26 m_m x2 x1 jn (x4 + 1) u9))
def f_X10_beginsCycle (m_m : Nat → Int32) (a0 : Int32) : Option (Int32) :=
  Option.bind (f_X10_hammerOf a0) (fun u1 =>
    if jin (u1 + 2) 2048 = true then
      Option.bind (f_X10_due m_m a0) (fun u3 =>
        Option.bind (f_X10_standing m_m (m_m (u1 + 2).toNatClampNeg) u3) (fun u5 =>
          Option.bind (f_X10_beginsCycle_L26 m_m (m_m (u1 + 2).toNatClampNeg) a0 jFU 1 u5) (fun s12 =>
            if s12.2 = a0 then
              if s12.1 ≤ 1 then
                some 0
              else
                some 1
            else
              some 0)))
    else none)
set_option maxHeartbeats 4000000 in
set_option maxRecDepth 100000 in
theorem k_X10_beginsCycle_L26 {l : Launch} {D : va_G} {t : Nat → ClassId} {ad : Nat → Nat} {o : Nat} (m_m : Nat → Int32) (x2 : Int32) (x1 : Int32) (m_aside : Nat → Int32) (m_saved : Nat → Int32) (m_isSaved : Int32) (m_past : Nat → Int32) (m_changes : Int32) (m_errorAt : Int32) (m_failed : Int32) (m_thrown : Int32) (m_input : Nat → Int32) (m_inputMany : Int32) (m_fitting : Nat → Int32) (m_given : Nat → Int32) (m_pairs : Nat → Int32) (m_line : Nat → Int32) (m_lineMany : Int32) (m_letters : Nat → Int32) (m_begins0 : Nat → Int32) (m_commands : Nat → Int32) (m_commandMany : Int32) (m_place0 : Int32) (m_size0 : Int32) (m_isWrong : Int32) {X : jX} (hX : jOK X l D (jT t) cX10_beginsCycle RX10 (some FieldType.boolean) { frames := 2, cells := 0, slots := 0, locals := 45 } 5) :
    ∀ (jn : Nat) (x4 : Int32) (x3 : Int32) (u : Int32 × Int32) (hf : f_X10_beginsCycle_L26 m_m x2 x1 jn x4 x3 = some u) (kx : ∀ s : Int32 × Int32, u = s → J X 0 0 (wM t ad o m_m m_aside m_saved m_isSaved m_past m_changes m_errorAt m_failed m_thrown m_input m_inputMany m_fitting m_given m_pairs m_line m_lineMany m_letters m_begins0 m_commands m_commandMany m_place0 m_size0 m_isWrong) 65 [(4, .int s.1), (3, .int s.2), (2, .int x2), (0, .ref (ad o)), (1, .int x1)] []), J X 0 0 (wM t ad o m_m m_aside m_saved m_isSaved m_past m_changes m_errorAt m_failed m_thrown m_input m_inputMany m_fitting m_given m_pairs m_line m_lineMany m_letters m_begins0 m_commands m_commandMany m_place0 m_size0 m_isWrong) 26 [(4, .int x4), (3, .int x3), (2, .int x2), (0, .ref (ad o)), (1, .int x1)] [] := by
  intro jn
  induction jn with
  | zero => intro x4 x3 u hf; cases (show (none : Option (Int32 × Int32)) = some u from hf)
  | succ jn ih =>
    intro x4 x3 u hf kx
    unfold f_X10_beginsCycle_L26 at hf
    refine j_iload_n hX dX10_beginsCycle_26 rfl 1 rfl ?_
    refine j_iconst hX (-1) dX10_beginsCycle_27 (by decide) ?_
    refine j_icmp_eq hX 65 dX10_beginsCycle_28 (by decide) hf (fun c28 hf => ?_) (fun c28 hf => ?_)
    · cases hf
      exact kx _ rfl
    · refine j_iload_n hX dX10_beginsCycle_31 rfl 1 rfl ?_
      refine j_iload_n hX dX10_beginsCycle_32 rfl 4 rfl ?_
      refine j_icmp_eq hX 65 dX10_beginsCycle_33 (by decide) hf (fun c33 hf => ?_) (fun c33 hf => ?_)
      · cases hf
        exact kx _ rfl
      · refine j_iload_n hX dX10_beginsCycle_36 rfl 1 rfl ?_
        refine j_iload_n hX dX10_beginsCycle_37 rfl 4 rfl ?_
        refine j_icmp_le hX 65 dX10_beginsCycle_38 (by decide) hf (fun c38 hf => ?_) (fun c38 hf => ?_)
        · cases hf
          exact kx _ rfl
        · refine j_iload hX dX10_beginsCycle_41 0 rfl ?_
          refine j_bipush hX 6 dX10_beginsCycle_43 (by decide) ?_
          refine j_icmp_ge hX 65 dX10_beginsCycle_45 (by decide) hf (fun c45 hf => ?_) (fun c45 hf => ?_)
          · cases hf
            exact kx _ rfl
          · refine j_aload_n hX dX10_beginsCycle_48 rfl 3 rfl ?_
            refine j_iload_n hX dX10_beginsCycle_49 rfl 2 rfl ?_
            refine j_aload_n hX dX10_beginsCycle_50 rfl 3 rfl ?_
            refine j_iload_n hX dX10_beginsCycle_51 rfl 1 rfl ?_
            obtain ⟨u7, h8, hf⟩ := jbind hf
            refine j_callV (st := [.int x2, .ref (ad o)]) hX (k_X10_due (l := l) (D := D) (t := t) (ad := ad) (o := o) m_m m_aside m_saved m_isSaved m_past m_changes m_errorAt m_failed m_thrown m_input m_inputMany m_fitting m_given m_pairs m_line m_lineMany m_letters m_begins0 m_commands m_commandMany m_place0 m_size0 m_isWrong x3 u7 h8) q1539 q1540 q1959 q15 q1541 (n9 := 1) rfl ⟨by decide +kernel, by decide +kernel⟩ 0 rfl rfl rfl dX10_beginsCycle_52 (Nat.le_of_ble_eq_true rfl) ⟨Nat.le_refl _, Nat.le_refl _⟩ (fun w : va_W => w) jFr_id rfl rfl (fun v w hvw => ?_)
            obtain ⟨rfl, rfl⟩ := hvw
            change J X 0 0 (wM t ad o m_m m_aside m_saved m_isSaved m_past m_changes m_errorAt m_failed m_thrown m_input m_inputMany m_fitting m_given m_pairs m_line m_lineMany m_letters m_begins0 m_commands m_commandMany m_place0 m_size0 m_isWrong) 55 [(4, .int x4), (3, .int x3), (2, .int x2), (0, .ref (ad o)), (1, .int x1)] [.int u7, .int x2, .ref (ad o)]
            obtain ⟨u9, h10, hf⟩ := jbind hf
            refine j_callV (st := []) hX (k_X10_standing (l := l) (D := D) (t := t) (ad := ad) (o := o) m_m m_aside m_saved m_isSaved m_past m_changes m_errorAt m_failed m_thrown m_input m_inputMany m_fitting m_given m_pairs m_line m_lineMany m_letters m_begins0 m_commands m_commandMany m_place0 m_size0 m_isWrong x2 u7 u9 h10) q1506 q1507 q1953 q15 q1508 (n9 := 2) rfl ⟨by decide +kernel, by decide +kernel⟩ 0 rfl rfl rfl dX10_beginsCycle_55 (Nat.le_of_ble_eq_true rfl) ⟨Nat.le_refl _, Nat.le_refl _⟩ (fun w : va_W => w) jFr_id rfl rfl (fun v w hvw => ?_)
            obtain ⟨rfl, rfl⟩ := hvw
            change J X 0 0 (wM t ad o m_m m_aside m_saved m_isSaved m_past m_changes m_errorAt m_failed m_thrown m_input m_inputMany m_fitting m_given m_pairs m_line m_lineMany m_letters m_begins0 m_commands m_commandMany m_place0 m_size0 m_isWrong) 58 [(4, .int x4), (3, .int x3), (2, .int x2), (0, .ref (ad o)), (1, .int x1)] [.int u9]
            refine j_istore_n hX [(3, .int u9), (4, .int x4), (2, .int x2), (0, .ref (ad o)), (1, .int x1)] dX10_beginsCycle_58 rfl (by decide) rfl ?_
            refine j_iinc hX (x4 + 1) [(4, .int (x4 + 1)), (3, .int u9), (2, .int x2), (0, .ref (ad o)), (1, .int x1)] dX10_beginsCycle_59 1 rfl rfl (by decide) rfl ?_
            refine j_goto hX 26 dX10_beginsCycle_62 (by decide) ?_
            exact ih (x4 + 1) u9 u hf kx
set_option maxHeartbeats 4000000 in
set_option maxRecDepth 100000 in
theorem k_X10_beginsCycle {l : Launch} {D : va_G} {t : Nat → ClassId} {ad : Nat → Nat} {o : Nat} (m_m : Nat → Int32) (m_aside : Nat → Int32) (m_saved : Nat → Int32) (m_isSaved : Int32) (m_past : Nat → Int32) (m_changes : Int32) (m_errorAt : Int32) (m_failed : Int32) (m_thrown : Int32) (m_input : Nat → Int32) (m_inputMany : Int32) (m_fitting : Nat → Int32) (m_given : Nat → Int32) (m_pairs : Nat → Int32) (m_line : Nat → Int32) (m_lineMany : Int32) (m_letters : Nat → Int32) (m_begins0 : Nat → Int32) (m_commands : Nat → Int32) (m_commandMany : Int32) (m_place0 : Int32) (m_size0 : Int32) (m_isWrong : Int32) (a0 : Int32) (u : Int32) (hf : f_X10_beginsCycle m_m a0 = some u) : cm l D (jT t) yX10_beginsCycle cX10_beginsCycle 5 (some FieldType.boolean) { frames := 2, cells := 0, slots := 0, locals := 45 } [.ref (ad o), .int a0] (wM t ad o m_m m_aside m_saved m_isSaved m_past m_changes m_errorAt m_failed m_thrown m_input m_inputMany m_fitting m_given m_pairs m_line m_lineMany m_letters m_begins0 m_commands m_commandMany m_place0 m_size0 m_isWrong) (fun v w => v = (some (.int u)) ∧ w = wM t ad o m_m m_aside m_saved m_isSaved m_past m_changes m_errorAt m_failed m_thrown m_input m_inputMany m_fitting m_given m_pairs m_line m_lineMany m_letters m_begins0 m_commands m_commandMany m_place0 m_size0 m_isWrong) := by
  refine cm_of RX10 rfl (by decide +kernel) (Nat.le_of_ble_eq_true rfl) (fun X hX hE => ?_)
  change J X 0 0 (wM t ad o m_m m_aside m_saved m_isSaved m_past m_changes m_errorAt m_failed m_thrown m_input m_inputMany m_fitting m_given m_pairs m_line m_lineMany m_letters m_begins0 m_commands m_commandMany m_place0 m_size0 m_isWrong) 0 [(0, .ref (ad o)), (1, .int a0)] []
  unfold f_X10_beginsCycle at hf
  refine j_aload_n hX dX10_beginsCycle_0 rfl 0 rfl ?_
  refine j_get hX dX10_beginsCycle_1 inX10 0 q1455 0 rfl rfl (by decide) rfl rfl ?_
  refine j_iload_n hX dX10_beginsCycle_4 rfl 1 rfl ?_
  obtain ⟨u1, h2, hf⟩ := jbind hf
  refine j_callS (st := [.ref (ad (o + 1))]) hX (k_X10_hammerOf (l := l) (D := D) (t := t) (ad := ad)  a0 u1 h2) q1509 q1510 q15 q1511 (n9 := 1) rfl ⟨by decide +kernel, by decide +kernel⟩ dX10_beginsCycle_5 (Nat.le_of_ble_eq_true rfl) ⟨Nat.le_refl _, Nat.le_refl _⟩ (fun w : va_W => w ++ (wM t ad o m_m m_aside m_saved m_isSaved m_past m_changes m_errorAt m_failed m_thrown m_input m_inputMany m_fitting m_given m_pairs m_line m_lineMany m_letters m_begins0 m_commands m_commandMany m_place0 m_size0 m_isWrong)) (jFr_r (wM t ad o m_m m_aside m_saved m_isSaved m_past m_changes m_errorAt m_failed m_thrown m_input m_inputMany m_fitting m_given m_pairs m_line m_lineMany m_letters m_begins0 m_commands m_commandMany m_place0 m_size0 m_isWrong)) rfl rfl (fun v w hvw => ?_)
  obtain ⟨rfl, rfl⟩ := hvw
  change J X 0 0 (wM t ad o m_m m_aside m_saved m_isSaved m_past m_changes m_errorAt m_failed m_thrown m_input m_inputMany m_fitting m_given m_pairs m_line m_lineMany m_letters m_begins0 m_commands m_commandMany m_place0 m_size0 m_isWrong) 8 [(0, .ref (ad o)), (1, .int a0)] [.int u1, .ref (ad (o + 1))]
  refine j_iconst hX 2 dX10_beginsCycle_8 (by decide) ?_
  refine j_iadd hX dX10_beginsCycle_9 ?_
  refine j_iald hX dX10_beginsCycle_10 1 0 rfl rfl hf (fun c10 hf => ?_)
  refine j_istore_n hX [(2, .int (m_m (u1 + 2).toNatClampNeg)), (0, .ref (ad o)), (1, .int a0)] dX10_beginsCycle_11 rfl (by decide) rfl ?_
  refine j_aload_n hX dX10_beginsCycle_12 rfl 1 rfl ?_
  refine j_iload_n hX dX10_beginsCycle_13 rfl 0 rfl ?_
  refine j_aload_n hX dX10_beginsCycle_14 rfl 1 rfl ?_
  refine j_iload_n hX dX10_beginsCycle_15 rfl 2 rfl ?_
  obtain ⟨u3, h4, hf⟩ := jbind hf
  refine j_callV (st := [.int (m_m (u1 + 2).toNatClampNeg), .ref (ad o)]) hX (k_X10_due (l := l) (D := D) (t := t) (ad := ad) (o := o) m_m m_aside m_saved m_isSaved m_past m_changes m_errorAt m_failed m_thrown m_input m_inputMany m_fitting m_given m_pairs m_line m_lineMany m_letters m_begins0 m_commands m_commandMany m_place0 m_size0 m_isWrong a0 u3 h4) q1539 q1540 q1959 q15 q1541 (n9 := 1) rfl ⟨by decide +kernel, by decide +kernel⟩ 0 rfl rfl rfl dX10_beginsCycle_16 (Nat.le_of_ble_eq_true rfl) ⟨Nat.le_refl _, Nat.le_refl _⟩ (fun w : va_W => w) jFr_id rfl rfl (fun v w hvw => ?_)
  obtain ⟨rfl, rfl⟩ := hvw
  change J X 0 0 (wM t ad o m_m m_aside m_saved m_isSaved m_past m_changes m_errorAt m_failed m_thrown m_input m_inputMany m_fitting m_given m_pairs m_line m_lineMany m_letters m_begins0 m_commands m_commandMany m_place0 m_size0 m_isWrong) 19 [(2, .int (m_m (u1 + 2).toNatClampNeg)), (0, .ref (ad o)), (1, .int a0)] [.int u3, .int (m_m (u1 + 2).toNatClampNeg), .ref (ad o)]
  obtain ⟨u5, h6, hf⟩ := jbind hf
  refine j_callV (st := []) hX (k_X10_standing (l := l) (D := D) (t := t) (ad := ad) (o := o) m_m m_aside m_saved m_isSaved m_past m_changes m_errorAt m_failed m_thrown m_input m_inputMany m_fitting m_given m_pairs m_line m_lineMany m_letters m_begins0 m_commands m_commandMany m_place0 m_size0 m_isWrong (m_m (u1 + 2).toNatClampNeg) u3 u5 h6) q1506 q1507 q1953 q15 q1508 (n9 := 2) rfl ⟨by decide +kernel, by decide +kernel⟩ 0 rfl rfl rfl dX10_beginsCycle_19 (Nat.le_of_ble_eq_true rfl) ⟨Nat.le_refl _, Nat.le_refl _⟩ (fun w : va_W => w) jFr_id rfl rfl (fun v w hvw => ?_)
  obtain ⟨rfl, rfl⟩ := hvw
  change J X 0 0 (wM t ad o m_m m_aside m_saved m_isSaved m_past m_changes m_errorAt m_failed m_thrown m_input m_inputMany m_fitting m_given m_pairs m_line m_lineMany m_letters m_begins0 m_commands m_commandMany m_place0 m_size0 m_isWrong) 22 [(2, .int (m_m (u1 + 2).toNatClampNeg)), (0, .ref (ad o)), (1, .int a0)] [.int u5]
  refine j_istore_n hX [(3, .int u5), (2, .int (m_m (u1 + 2).toNatClampNeg)), (0, .ref (ad o)), (1, .int a0)] dX10_beginsCycle_22 rfl (by decide) rfl ?_
  refine j_iconst hX 1 dX10_beginsCycle_23 (by decide) ?_
  refine j_istore hX [(4, .int 1), (3, .int u5), (2, .int (m_m (u1 + 2).toNatClampNeg)), (0, .ref (ad o)), (1, .int a0)] dX10_beginsCycle_24 (by decide) rfl ?_
  obtain ⟨s12, h13, hf⟩ := jbind hf
  refine k_X10_beginsCycle_L26 (ad := ad) m_m (m_m (u1 + 2).toNatClampNeg) a0 m_aside m_saved m_isSaved m_past m_changes m_errorAt m_failed m_thrown m_input m_inputMany m_fitting m_given m_pairs m_line m_lineMany m_letters m_begins0 m_commands m_commandMany m_place0 m_size0 m_isWrong hX jFU 1 u5 s12 h13 (fun s120 es12 => ?_)
  subst es12
  refine j_iload_n hX dX10_beginsCycle_65 rfl 1 rfl ?_
  refine j_iload_n hX dX10_beginsCycle_66 rfl 4 rfl ?_
  refine j_icmp_ne hX 80 dX10_beginsCycle_67 (by decide) hf (fun c67 hf => ?_) (fun c67 hf => ?_)
  · refine j_iconst hX 0 dX10_beginsCycle_80 (by decide) ?_
    cases hf
    exact j_zret hX hE rfl dX10_beginsCycle_81 (Nat.le_refl _) (Nat.le_refl _) ⟨rfl, rfl⟩
  · refine j_iload hX dX10_beginsCycle_70 0 rfl ?_
    refine j_iconst hX 1 dX10_beginsCycle_72 (by decide) ?_
    refine j_icmp_le hX 80 dX10_beginsCycle_73 (by decide) hf (fun c73 hf => ?_) (fun c73 hf => ?_)
    · refine j_iconst hX 0 dX10_beginsCycle_80 (by decide) ?_
      cases hf
      exact j_zret hX hE rfl dX10_beginsCycle_81 (Nat.le_refl _) (Nat.le_refl _) ⟨rfl, rfl⟩
    · refine j_iconst hX 1 dX10_beginsCycle_76 (by decide) ?_
      refine j_goto hX 81 dX10_beginsCycle_77 (by decide) ?_
      cases hf
      exact j_zret hX hE rfl dX10_beginsCycle_81 (Nat.le_refl _) (Nat.le_refl _) ⟨rfl, rfl⟩
-- HammerDepotModel swaps (I)I
def f_X10_swaps_L4 (m_m : Nat → Int32) (x1 : Int32) : Nat → Int32 → Int32 → Option (Int32 × Int32)
  | 0, _, _ => none
  | jn + 1, x3, x2 =>
    if jin 0 2048 = true then
      if (m_m (0 : Int32).toNatClampNeg) ≤ x3 then
        some (x3, x2)
      else
        Option.bind (f_X10_hammerOf x3) (fun u1 =>
          if jin (u1 + 2) 2048 = true then
            if (m_m (u1 + 2).toNatClampNeg) = x1 then
              Option.bind (f_X10_hammerOf x3) (fun u3 =>
                if jin (u3 + 3) 2048 = true then
                  Option.bind (f_X10_due m_m x3) (fun u5 =>
                    if (m_m (u3 + 3).toNatClampNeg) = u5 then
                      f_X10_swaps_L4 m_m x1 jn (x3 + 1) (x2 + 0)
                    else
                      Option.bind (f_X10_beginsCycle m_m x3) (fun u7 =>
                        if u7 = 0 then
                          f_X10_swaps_L4 m_m x1 jn (x3 + 1) (x2 + 1)
                        else
                          f_X10_swaps_L4 m_m x1 jn (x3 + 1) (x2 + 0)))
                else none)
            else
              f_X10_swaps_L4 m_m x1 jn (x3 + 1) (x2 + 0)
          else none)
    else none
def f_X10_swaps (m_m : Nat → Int32) (a0 : Int32) : Option (Int32) :=
  Option.bind (f_X10_swaps_L4 m_m a0 jFU 0 0) (fun s10 =>
    some s10.2)
set_option maxHeartbeats 4000000 in
set_option maxRecDepth 100000 in
theorem k_X10_swaps_L4 {l : Launch} {D : va_G} {t : Nat → ClassId} {ad : Nat → Nat} {o : Nat} (m_m : Nat → Int32) (x1 : Int32) (m_aside : Nat → Int32) (m_saved : Nat → Int32) (m_isSaved : Int32) (m_past : Nat → Int32) (m_changes : Int32) (m_errorAt : Int32) (m_failed : Int32) (m_thrown : Int32) (m_input : Nat → Int32) (m_inputMany : Int32) (m_fitting : Nat → Int32) (m_given : Nat → Int32) (m_pairs : Nat → Int32) (m_line : Nat → Int32) (m_lineMany : Int32) (m_letters : Nat → Int32) (m_begins0 : Nat → Int32) (m_commands : Nat → Int32) (m_commandMany : Int32) (m_place0 : Int32) (m_size0 : Int32) (m_isWrong : Int32) {X : jX} (hX : jOK X l D (jT t) cX10_swaps RX10 (some FieldType.int) { frames := 3, cells := 0, slots := 0, locals := 69 } 5) :
    ∀ (jn : Nat) (x3 : Int32) (x2 : Int32) (u : Int32 × Int32) (hf : f_X10_swaps_L4 m_m x1 jn x3 x2 = some u) (kx : ∀ s : Int32 × Int32, u = s → J X 0 0 (wM t ad o m_m m_aside m_saved m_isSaved m_past m_changes m_errorAt m_failed m_thrown m_input m_inputMany m_fitting m_given m_pairs m_line m_lineMany m_letters m_begins0 m_commands m_commandMany m_place0 m_size0 m_isWrong) 86 [(3, .int s.1), (2, .int s.2), (0, .ref (ad o)), (1, .int x1)] []), J X 0 0 (wM t ad o m_m m_aside m_saved m_isSaved m_past m_changes m_errorAt m_failed m_thrown m_input m_inputMany m_fitting m_given m_pairs m_line m_lineMany m_letters m_begins0 m_commands m_commandMany m_place0 m_size0 m_isWrong) 4 [(3, .int x3), (2, .int x2), (0, .ref (ad o)), (1, .int x1)] [] := by
  intro jn
  induction jn with
  | zero => intro x3 x2 u hf; cases (show (none : Option (Int32 × Int32)) = some u from hf)
  | succ jn ih =>
    intro x3 x2 u hf kx
    unfold f_X10_swaps_L4 at hf
    refine j_iload_n hX dX10_swaps_4 rfl 0 rfl ?_
    refine j_aload_n hX dX10_swaps_5 rfl 2 rfl ?_
    refine j_get hX dX10_swaps_6 inX10 0 q1455 0 rfl rfl (by decide) rfl rfl ?_
    refine j_iconst hX 0 dX10_swaps_9 (by decide) ?_
    refine j_iald hX dX10_swaps_10 1 0 rfl rfl hf (fun c10 hf => ?_)
    refine j_icmp_ge hX 86 dX10_swaps_11 (by decide) hf (fun c11 hf => ?_) (fun c11 hf => ?_)
    · cases hf
      exact kx _ rfl
    · refine j_aload_n hX dX10_swaps_14 rfl 2 rfl ?_
      refine j_get hX dX10_swaps_15 inX10 0 q1455 0 rfl rfl (by decide) rfl rfl ?_
      refine j_iload_n hX dX10_swaps_18 rfl 0 rfl ?_
      obtain ⟨u1, h2, hf⟩ := jbind hf
      refine j_callS (st := [.ref (ad (o + 1))]) hX (k_X10_hammerOf (l := l) (D := D) (t := t) (ad := ad)  x3 u1 h2) q1509 q1510 q15 q1511 (n9 := 1) rfl ⟨by decide +kernel, by decide +kernel⟩ dX10_swaps_19 (Nat.le_of_ble_eq_true rfl) ⟨Nat.le_refl _, Nat.le_refl _⟩ (fun w : va_W => w ++ (wM t ad o m_m m_aside m_saved m_isSaved m_past m_changes m_errorAt m_failed m_thrown m_input m_inputMany m_fitting m_given m_pairs m_line m_lineMany m_letters m_begins0 m_commands m_commandMany m_place0 m_size0 m_isWrong)) (jFr_r (wM t ad o m_m m_aside m_saved m_isSaved m_past m_changes m_errorAt m_failed m_thrown m_input m_inputMany m_fitting m_given m_pairs m_line m_lineMany m_letters m_begins0 m_commands m_commandMany m_place0 m_size0 m_isWrong)) rfl rfl (fun v w hvw => ?_)
      obtain ⟨rfl, rfl⟩ := hvw
      change J X 0 0 (wM t ad o m_m m_aside m_saved m_isSaved m_past m_changes m_errorAt m_failed m_thrown m_input m_inputMany m_fitting m_given m_pairs m_line m_lineMany m_letters m_begins0 m_commands m_commandMany m_place0 m_size0 m_isWrong) 22 [(3, .int x3), (2, .int x2), (0, .ref (ad o)), (1, .int x1)] [.int u1, .ref (ad (o + 1))]
      refine j_iconst hX 2 dX10_swaps_22 (by decide) ?_
      refine j_iadd hX dX10_swaps_23 ?_
      refine j_iald hX dX10_swaps_24 1 0 rfl rfl hf (fun c24 hf => ?_)
      refine j_iload_n hX dX10_swaps_25 rfl 3 rfl ?_
      refine j_icmp_ne hX 52 dX10_swaps_26 (by decide) hf (fun c26 hf => ?_) (fun c26 hf => ?_)
      · refine j_iconst hX 0 dX10_swaps_52 (by decide) ?_
        refine j_istore hX [(4, .int 0), (3, .int x3), (2, .int x2), (0, .ref (ad o)), (1, .int x1)] dX10_swaps_53 (by decide) rfl ?_
        refine j_iload_n hX dX10_swaps_55 rfl 2 rfl ?_
        refine j_iload hX dX10_swaps_56 0 rfl ?_
        refine j_if_eq (α := Unit) (F := none) (G := none) (o := none) hX 77 dX10_swaps_58 (by decide) (ite_self none) (fun c58 _ => ?_) (fun c58 _ => absurd c58 (by decide))
        refine j_iconst hX 0 dX10_swaps_77 (by decide) ?_
        refine j_iadd hX dX10_swaps_78 ?_
        refine j_istore_n hX [(2, .int (x2 + 0)), (4, .int 0), (3, .int x3), (0, .ref (ad o)), (1, .int x1)] dX10_swaps_79 rfl (by decide) rfl ?_
        refine j_iinc hX (x3 + 1) [(3, .int (x3 + 1)), (2, .int (x2 + 0)), (4, .int 0), (0, .ref (ad o)), (1, .int x1)] dX10_swaps_80 2 rfl rfl (by decide) rfl ?_
        refine j_goto hX 4 dX10_swaps_83 (by decide) ?_
        refine j_sub hX [(3, .int (x3 + 1)), (2, .int (x2 + 0)), (0, .ref (ad o)), (1, .int x1)] [0, 1, 3, 4] rfl ?_
        exact ih (x3 + 1) (x2 + 0) u hf kx
      · refine j_aload_n hX dX10_swaps_29 rfl 2 rfl ?_
        refine j_get hX dX10_swaps_30 inX10 0 q1455 0 rfl rfl (by decide) rfl rfl ?_
        refine j_iload_n hX dX10_swaps_33 rfl 0 rfl ?_
        obtain ⟨u3, h4, hf⟩ := jbind hf
        refine j_callS (st := [.ref (ad (o + 1))]) hX (k_X10_hammerOf (l := l) (D := D) (t := t) (ad := ad)  x3 u3 h4) q1509 q1510 q15 q1511 (n9 := 1) rfl ⟨by decide +kernel, by decide +kernel⟩ dX10_swaps_34 (Nat.le_of_ble_eq_true rfl) ⟨Nat.le_refl _, Nat.le_refl _⟩ (fun w : va_W => w ++ (wM t ad o m_m m_aside m_saved m_isSaved m_past m_changes m_errorAt m_failed m_thrown m_input m_inputMany m_fitting m_given m_pairs m_line m_lineMany m_letters m_begins0 m_commands m_commandMany m_place0 m_size0 m_isWrong)) (jFr_r (wM t ad o m_m m_aside m_saved m_isSaved m_past m_changes m_errorAt m_failed m_thrown m_input m_inputMany m_fitting m_given m_pairs m_line m_lineMany m_letters m_begins0 m_commands m_commandMany m_place0 m_size0 m_isWrong)) rfl rfl (fun v w hvw => ?_)
        obtain ⟨rfl, rfl⟩ := hvw
        change J X 0 0 (wM t ad o m_m m_aside m_saved m_isSaved m_past m_changes m_errorAt m_failed m_thrown m_input m_inputMany m_fitting m_given m_pairs m_line m_lineMany m_letters m_begins0 m_commands m_commandMany m_place0 m_size0 m_isWrong) 37 [(3, .int x3), (2, .int x2), (0, .ref (ad o)), (1, .int x1)] [.int u3, .ref (ad (o + 1))]
        refine j_iconst hX 3 dX10_swaps_37 (by decide) ?_
        refine j_iadd hX dX10_swaps_38 ?_
        refine j_iald hX dX10_swaps_39 1 0 rfl rfl hf (fun c39 hf => ?_)
        refine j_aload_n hX dX10_swaps_40 rfl 2 rfl ?_
        refine j_iload_n hX dX10_swaps_41 rfl 0 rfl ?_
        obtain ⟨u5, h6, hf⟩ := jbind hf
        refine j_callV (st := [.int (m_m (u3 + 3).toNatClampNeg)]) hX (k_X10_due (l := l) (D := D) (t := t) (ad := ad) (o := o) m_m m_aside m_saved m_isSaved m_past m_changes m_errorAt m_failed m_thrown m_input m_inputMany m_fitting m_given m_pairs m_line m_lineMany m_letters m_begins0 m_commands m_commandMany m_place0 m_size0 m_isWrong x3 u5 h6) q1539 q1540 q1959 q15 q1541 (n9 := 1) rfl ⟨by decide +kernel, by decide +kernel⟩ 0 rfl rfl rfl dX10_swaps_42 (Nat.le_of_ble_eq_true rfl) ⟨Nat.le_refl _, Nat.le_refl _⟩ (fun w : va_W => w) jFr_id rfl rfl (fun v w hvw => ?_)
        obtain ⟨rfl, rfl⟩ := hvw
        change J X 0 0 (wM t ad o m_m m_aside m_saved m_isSaved m_past m_changes m_errorAt m_failed m_thrown m_input m_inputMany m_fitting m_given m_pairs m_line m_lineMany m_letters m_begins0 m_commands m_commandMany m_place0 m_size0 m_isWrong) 45 [(3, .int x3), (2, .int x2), (0, .ref (ad o)), (1, .int x1)] [.int u5, .int (m_m (u3 + 3).toNatClampNeg)]
        refine j_icmp_eq hX 52 dX10_swaps_45 (by decide) hf (fun c45 hf => ?_) (fun c45 hf => ?_)
        · refine j_iconst hX 0 dX10_swaps_52 (by decide) ?_
          refine j_istore hX [(4, .int 0), (3, .int x3), (2, .int x2), (0, .ref (ad o)), (1, .int x1)] dX10_swaps_53 (by decide) rfl ?_
          refine j_iload_n hX dX10_swaps_55 rfl 2 rfl ?_
          refine j_iload hX dX10_swaps_56 0 rfl ?_
          refine j_if_eq (α := Unit) (F := none) (G := none) (o := none) hX 77 dX10_swaps_58 (by decide) (ite_self none) (fun c58 _ => ?_) (fun c58 _ => absurd c58 (by decide))
          refine j_iconst hX 0 dX10_swaps_77 (by decide) ?_
          refine j_iadd hX dX10_swaps_78 ?_
          refine j_istore_n hX [(2, .int (x2 + 0)), (4, .int 0), (3, .int x3), (0, .ref (ad o)), (1, .int x1)] dX10_swaps_79 rfl (by decide) rfl ?_
          refine j_iinc hX (x3 + 1) [(3, .int (x3 + 1)), (2, .int (x2 + 0)), (4, .int 0), (0, .ref (ad o)), (1, .int x1)] dX10_swaps_80 2 rfl rfl (by decide) rfl ?_
          refine j_goto hX 4 dX10_swaps_83 (by decide) ?_
          refine j_sub hX [(3, .int (x3 + 1)), (2, .int (x2 + 0)), (0, .ref (ad o)), (1, .int x1)] [0, 1, 3, 4] rfl ?_
          exact ih (x3 + 1) (x2 + 0) u hf kx
        · refine j_iconst hX 1 dX10_swaps_48 (by decide) ?_
          refine j_goto hX 53 dX10_swaps_49 (by decide) ?_
          refine j_istore hX [(4, .int 1), (3, .int x3), (2, .int x2), (0, .ref (ad o)), (1, .int x1)] dX10_swaps_53 (by decide) rfl ?_
          refine j_iload_n hX dX10_swaps_55 rfl 2 rfl ?_
          refine j_iload hX dX10_swaps_56 0 rfl ?_
          refine j_if_eq (α := Unit) (F := none) (G := none) (o := none) hX 77 dX10_swaps_58 (by decide) (ite_self none) (fun c58 _ => absurd c58 (by decide)) (fun c58 _ => ?_)
          refine j_aload_n hX dX10_swaps_61 rfl 3 rfl ?_
          refine j_iload_n hX dX10_swaps_62 rfl 1 rfl ?_
          obtain ⟨u7, h8, hf⟩ := jbind hf
          refine j_callV (st := [.int x2]) hX (k_X10_beginsCycle (l := l) (D := D) (t := t) (ad := ad) (o := o) m_m m_aside m_saved m_isSaved m_past m_changes m_errorAt m_failed m_thrown m_input m_inputMany m_fitting m_given m_pairs m_line m_lineMany m_letters m_begins0 m_commands m_commandMany m_place0 m_size0 m_isWrong x3 u7 h8) q1542 q1543 q1960 q15 q1544 (n9 := 1) rfl ⟨by decide +kernel, by decide +kernel⟩ 0 rfl rfl rfl dX10_swaps_63 (Nat.le_of_ble_eq_true rfl) ⟨Nat.le_refl _, Nat.le_refl _⟩ (fun w : va_W => w) jFr_id rfl rfl (fun v w hvw => ?_)
          obtain ⟨rfl, rfl⟩ := hvw
          change J X 0 0 (wM t ad o m_m m_aside m_saved m_isSaved m_past m_changes m_errorAt m_failed m_thrown m_input m_inputMany m_fitting m_given m_pairs m_line m_lineMany m_letters m_begins0 m_commands m_commandMany m_place0 m_size0 m_isWrong) 66 [(4, .int 1), (3, .int x3), (2, .int x2), (0, .ref (ad o)), (1, .int x1)] [.int u7, .int x2]
          refine j_if_eq hX 73 dX10_swaps_66 (by decide) hf (fun c66 hf => ?_) (fun c66 hf => ?_)
          · refine j_iconst hX 1 dX10_swaps_73 (by decide) ?_
            refine j_goto hX 78 dX10_swaps_74 (by decide) ?_
            refine j_iadd hX dX10_swaps_78 ?_
            refine j_istore_n hX [(2, .int (x2 + 1)), (4, .int 1), (3, .int x3), (0, .ref (ad o)), (1, .int x1)] dX10_swaps_79 rfl (by decide) rfl ?_
            refine j_iinc hX (x3 + 1) [(3, .int (x3 + 1)), (2, .int (x2 + 1)), (4, .int 1), (0, .ref (ad o)), (1, .int x1)] dX10_swaps_80 2 rfl rfl (by decide) rfl ?_
            refine j_goto hX 4 dX10_swaps_83 (by decide) ?_
            refine j_sub hX [(3, .int (x3 + 1)), (2, .int (x2 + 1)), (0, .ref (ad o)), (1, .int x1)] [0, 1, 3, 4] rfl ?_
            exact ih (x3 + 1) (x2 + 1) u hf kx
          · refine j_iconst hX 0 dX10_swaps_69 (by decide) ?_
            refine j_goto hX 78 dX10_swaps_70 (by decide) ?_
            refine j_iadd hX dX10_swaps_78 ?_
            refine j_istore_n hX [(2, .int (x2 + 0)), (4, .int 1), (3, .int x3), (0, .ref (ad o)), (1, .int x1)] dX10_swaps_79 rfl (by decide) rfl ?_
            refine j_iinc hX (x3 + 1) [(3, .int (x3 + 1)), (2, .int (x2 + 0)), (4, .int 1), (0, .ref (ad o)), (1, .int x1)] dX10_swaps_80 2 rfl rfl (by decide) rfl ?_
            refine j_goto hX 4 dX10_swaps_83 (by decide) ?_
            refine j_sub hX [(3, .int (x3 + 1)), (2, .int (x2 + 0)), (0, .ref (ad o)), (1, .int x1)] [0, 1, 3, 4] rfl ?_
            exact ih (x3 + 1) (x2 + 0) u hf kx
set_option maxHeartbeats 4000000 in
set_option maxRecDepth 100000 in
theorem k_X10_swaps {l : Launch} {D : va_G} {t : Nat → ClassId} {ad : Nat → Nat} {o : Nat} (m_m : Nat → Int32) (m_aside : Nat → Int32) (m_saved : Nat → Int32) (m_isSaved : Int32) (m_past : Nat → Int32) (m_changes : Int32) (m_errorAt : Int32) (m_failed : Int32) (m_thrown : Int32) (m_input : Nat → Int32) (m_inputMany : Int32) (m_fitting : Nat → Int32) (m_given : Nat → Int32) (m_pairs : Nat → Int32) (m_line : Nat → Int32) (m_lineMany : Int32) (m_letters : Nat → Int32) (m_begins0 : Nat → Int32) (m_commands : Nat → Int32) (m_commandMany : Int32) (m_place0 : Int32) (m_size0 : Int32) (m_isWrong : Int32) (a0 : Int32) (u : Int32) (hf : f_X10_swaps m_m a0 = some u) : cm l D (jT t) yX10_swaps cX10_swaps 5 (some FieldType.int) { frames := 3, cells := 0, slots := 0, locals := 69 } [.ref (ad o), .int a0] (wM t ad o m_m m_aside m_saved m_isSaved m_past m_changes m_errorAt m_failed m_thrown m_input m_inputMany m_fitting m_given m_pairs m_line m_lineMany m_letters m_begins0 m_commands m_commandMany m_place0 m_size0 m_isWrong) (fun v w => v = (some (.int u)) ∧ w = wM t ad o m_m m_aside m_saved m_isSaved m_past m_changes m_errorAt m_failed m_thrown m_input m_inputMany m_fitting m_given m_pairs m_line m_lineMany m_letters m_begins0 m_commands m_commandMany m_place0 m_size0 m_isWrong) := by
  refine cm_of RX10 rfl (by decide +kernel) (Nat.le_of_ble_eq_true rfl) (fun X hX hE => ?_)
  change J X 0 0 (wM t ad o m_m m_aside m_saved m_isSaved m_past m_changes m_errorAt m_failed m_thrown m_input m_inputMany m_fitting m_given m_pairs m_line m_lineMany m_letters m_begins0 m_commands m_commandMany m_place0 m_size0 m_isWrong) 0 [(0, .ref (ad o)), (1, .int a0)] []
  unfold f_X10_swaps at hf
  refine j_iconst hX 0 dX10_swaps_0 (by decide) ?_
  refine j_istore_n hX [(2, .int 0), (0, .ref (ad o)), (1, .int a0)] dX10_swaps_1 rfl (by decide) rfl ?_
  refine j_iconst hX 0 dX10_swaps_2 (by decide) ?_
  refine j_istore_n hX [(3, .int 0), (2, .int 0), (0, .ref (ad o)), (1, .int a0)] dX10_swaps_3 rfl (by decide) rfl ?_
  obtain ⟨s10, h11, hf⟩ := jbind hf
  refine k_X10_swaps_L4 (ad := ad) m_m a0 m_aside m_saved m_isSaved m_past m_changes m_errorAt m_failed m_thrown m_input m_inputMany m_fitting m_given m_pairs m_line m_lineMany m_letters m_begins0 m_commands m_commandMany m_place0 m_size0 m_isWrong hX jFU 0 0 s10 h11 (fun s100 es10 => ?_)
  subst es10
  refine j_iload_n hX dX10_swaps_86 rfl 1 rfl ?_
  cases hf
  exact j_iret hX hE dX10_swaps_87 (Nat.le_refl _) (Nat.le_refl _) ⟨rfl, rfl⟩
-- HammerDepotModel find (I)I
def f_X10_find_L2 (m_m : Nat → Int32) (x1 : Int32) : Nat → Int32 → Option ((Int32) ⊕ (Int32))
  | 0, _ => none
  | jn + 1, x2 =>
    if jin 4 2048 = true then
      if (m_m (4 : Int32).toNatClampNeg) ≤ x2 then
        some (.inr x2)
      else
        Option.bind (f_X10_requestOf x2) (fun u1 =>
          if jin u1 2048 = true then
            if (m_m (u1).toNatClampNeg) = x1 then
              some (.inl x2)
            else
              f_X10_find_L2 m_m x1 jn (x2 + 1)
          else none)
    else none
def f_X10_find (m_m : Nat → Int32) (a0 : Int32) : Option (Int32) :=
  Option.bind (f_X10_find_L2 m_m a0 jFU 0) (fun o3 => Sum.elim (fun r => some r) (fun s4 =>
    some (-1)) o3)
set_option maxHeartbeats 4000000 in
set_option maxRecDepth 100000 in
theorem k_X10_find_L2 {l : Launch} {D : va_G} {t : Nat → ClassId} {ad : Nat → Nat} {o : Nat} (m_m : Nat → Int32) (x1 : Int32) (m_aside : Nat → Int32) (m_saved : Nat → Int32) (m_isSaved : Int32) (m_past : Nat → Int32) (m_changes : Int32) (m_errorAt : Int32) (m_failed : Int32) (m_thrown : Int32) (m_input : Nat → Int32) (m_inputMany : Int32) (m_fitting : Nat → Int32) (m_given : Nat → Int32) (m_pairs : Nat → Int32) (m_line : Nat → Int32) (m_lineMany : Int32) (m_letters : Nat → Int32) (m_begins0 : Nat → Int32) (m_commands : Nat → Int32) (m_commandMany : Int32) (m_place0 : Int32) (m_size0 : Int32) (m_isWrong : Int32) {X : jX} (hX : jOK X l D (jT t) cX10_find RX10 (some FieldType.int) { frames := 1, cells := 0, slots := 0, locals := 20 } 3) {PP : Option Value → va_W → Prop} (hE : jEnd X PP 0 0) :
    ∀ (jn : Nat) (x2 : Int32) (u : (Int32) ⊕ (Int32)) (hf : f_X10_find_L2 m_m x1 jn x2 = some u) (kx : ∀ s : Int32, u = .inr s → J X 0 0 (wM t ad o m_m m_aside m_saved m_isSaved m_past m_changes m_errorAt m_failed m_thrown m_input m_inputMany m_fitting m_given m_pairs m_line m_lineMany m_letters m_begins0 m_commands m_commandMany m_place0 m_size0 m_isWrong) 33 [(2, .int s), (0, .ref (ad o)), (1, .int x1)] []) (kr : ∀ r : Int32, u = .inl r → PP (some (.int r)) (wM t ad o m_m m_aside m_saved m_isSaved m_past m_changes m_errorAt m_failed m_thrown m_input m_inputMany m_fitting m_given m_pairs m_line m_lineMany m_letters m_begins0 m_commands m_commandMany m_place0 m_size0 m_isWrong)), J X 0 0 (wM t ad o m_m m_aside m_saved m_isSaved m_past m_changes m_errorAt m_failed m_thrown m_input m_inputMany m_fitting m_given m_pairs m_line m_lineMany m_letters m_begins0 m_commands m_commandMany m_place0 m_size0 m_isWrong) 2 [(2, .int x2), (0, .ref (ad o)), (1, .int x1)] [] := by
  intro jn
  induction jn with
  | zero => intro x2 u hf; cases (show (none : Option ((Int32) ⊕ (Int32))) = some u from hf)
  | succ jn ih =>
    intro x2 u hf kx kr
    unfold f_X10_find_L2 at hf
    refine j_iload_n hX dX10_find_2 rfl 0 rfl ?_
    refine j_aload_n hX dX10_find_3 rfl 1 rfl ?_
    refine j_get hX dX10_find_4 inX10 0 q1455 0 rfl rfl (by decide) rfl rfl ?_
    refine j_iconst hX 4 dX10_find_7 (by decide) ?_
    refine j_iald hX dX10_find_8 1 0 rfl rfl hf (fun c8 hf => ?_)
    refine j_icmp_ge hX 33 dX10_find_9 (by decide) hf (fun c9 hf => ?_) (fun c9 hf => ?_)
    · cases hf
      exact kx _ rfl
    · refine j_aload_n hX dX10_find_12 rfl 1 rfl ?_
      refine j_get hX dX10_find_13 inX10 0 q1455 0 rfl rfl (by decide) rfl rfl ?_
      refine j_iload_n hX dX10_find_16 rfl 0 rfl ?_
      obtain ⟨u1, h2, hf⟩ := jbind hf
      refine j_callS (st := [.ref (ad (o + 1))]) hX (k_X10_requestOf (l := l) (D := D) (t := t) (ad := ad)  x2 u1 h2) q1554 q1555 q15 q1556 (n9 := 1) rfl ⟨by decide +kernel, by decide +kernel⟩ dX10_find_17 (Nat.le_of_ble_eq_true rfl) ⟨Nat.le_refl _, Nat.le_refl _⟩ (fun w : va_W => w ++ (wM t ad o m_m m_aside m_saved m_isSaved m_past m_changes m_errorAt m_failed m_thrown m_input m_inputMany m_fitting m_given m_pairs m_line m_lineMany m_letters m_begins0 m_commands m_commandMany m_place0 m_size0 m_isWrong)) (jFr_r (wM t ad o m_m m_aside m_saved m_isSaved m_past m_changes m_errorAt m_failed m_thrown m_input m_inputMany m_fitting m_given m_pairs m_line m_lineMany m_letters m_begins0 m_commands m_commandMany m_place0 m_size0 m_isWrong)) rfl rfl (fun v w hvw => ?_)
      obtain ⟨rfl, rfl⟩ := hvw
      change J X 0 0 (wM t ad o m_m m_aside m_saved m_isSaved m_past m_changes m_errorAt m_failed m_thrown m_input m_inputMany m_fitting m_given m_pairs m_line m_lineMany m_letters m_begins0 m_commands m_commandMany m_place0 m_size0 m_isWrong) 20 [(2, .int x2), (0, .ref (ad o)), (1, .int x1)] [.int u1, .ref (ad (o + 1))]
      refine j_iald hX dX10_find_20 1 0 rfl rfl hf (fun c20 hf => ?_)
      refine j_iload_n hX dX10_find_21 rfl 2 rfl ?_
      refine j_icmp_ne hX 27 dX10_find_22 (by decide) hf (fun c22 hf => ?_) (fun c22 hf => ?_)
      · refine j_iinc hX (x2 + 1) [(2, .int (x2 + 1)), (0, .ref (ad o)), (1, .int x1)] dX10_find_27 0 rfl rfl (by decide) rfl ?_
        refine j_goto hX 2 dX10_find_30 (by decide) ?_
        exact ih (x2 + 1) u hf kx kr
      · refine j_iload_n hX dX10_find_25 rfl 0 rfl ?_
        cases hf
        exact j_iret hX hE dX10_find_26 (Nat.le_refl _) (Nat.le_refl _) (kr _ rfl)
set_option maxHeartbeats 4000000 in
set_option maxRecDepth 100000 in
theorem k_X10_find {l : Launch} {D : va_G} {t : Nat → ClassId} {ad : Nat → Nat} {o : Nat} (m_m : Nat → Int32) (m_aside : Nat → Int32) (m_saved : Nat → Int32) (m_isSaved : Int32) (m_past : Nat → Int32) (m_changes : Int32) (m_errorAt : Int32) (m_failed : Int32) (m_thrown : Int32) (m_input : Nat → Int32) (m_inputMany : Int32) (m_fitting : Nat → Int32) (m_given : Nat → Int32) (m_pairs : Nat → Int32) (m_line : Nat → Int32) (m_lineMany : Int32) (m_letters : Nat → Int32) (m_begins0 : Nat → Int32) (m_commands : Nat → Int32) (m_commandMany : Int32) (m_place0 : Int32) (m_size0 : Int32) (m_isWrong : Int32) (a0 : Int32) (u : Int32) (hf : f_X10_find m_m a0 = some u) : cm l D (jT t) yX10_find cX10_find 3 (some FieldType.int) { frames := 1, cells := 0, slots := 0, locals := 20 } [.ref (ad o), .int a0] (wM t ad o m_m m_aside m_saved m_isSaved m_past m_changes m_errorAt m_failed m_thrown m_input m_inputMany m_fitting m_given m_pairs m_line m_lineMany m_letters m_begins0 m_commands m_commandMany m_place0 m_size0 m_isWrong) (fun v w => v = (some (.int u)) ∧ w = wM t ad o m_m m_aside m_saved m_isSaved m_past m_changes m_errorAt m_failed m_thrown m_input m_inputMany m_fitting m_given m_pairs m_line m_lineMany m_letters m_begins0 m_commands m_commandMany m_place0 m_size0 m_isWrong) := by
  refine cm_of RX10 rfl (by decide +kernel) (Nat.le_of_ble_eq_true rfl) (fun X hX hE => ?_)
  change J X 0 0 (wM t ad o m_m m_aside m_saved m_isSaved m_past m_changes m_errorAt m_failed m_thrown m_input m_inputMany m_fitting m_given m_pairs m_line m_lineMany m_letters m_begins0 m_commands m_commandMany m_place0 m_size0 m_isWrong) 0 [(0, .ref (ad o)), (1, .int a0)] []
  unfold f_X10_find at hf
  refine j_iconst hX 0 dX10_find_0 (by decide) ?_
  refine j_istore_n hX [(2, .int 0), (0, .ref (ad o)), (1, .int a0)] dX10_find_1 rfl (by decide) rfl ?_
  obtain ⟨o3, h5, hf⟩ := jbind hf
  refine k_X10_find_L2 (ad := ad) m_m a0 m_aside m_saved m_isSaved m_past m_changes m_errorAt m_failed m_thrown m_input m_inputMany m_fitting m_given m_pairs m_line m_lineMany m_letters m_begins0 m_commands m_commandMany m_place0 m_size0 m_isWrong hX hE jFU 0 o3 h5 (fun s4 es4 => ?_) (fun r er => ?_)
  · subst es4
    have hf := jsum_r hf
    refine j_iconst hX (-1) dX10_find_33 (by decide) ?_
    cases hf
    exact j_iret hX hE dX10_find_34 (Nat.le_refl _) (Nat.le_refl _) ⟨rfl, rfl⟩
  · subst er
    cases hf
    exact ⟨rfl, rfl⟩
-- HammerDepotModel isFree (III)Z
def f_X10_isFree_L6 (m_m : Nat → Int32) (x1 : Int32) (x2 : Int32) (x3 : Int32) : Nat → Int32 → Int32 → Option (Int32 × Int32)
  | 0, _, _ => none
  | jn + 1, x5, x4 =>
    if jin 5 2048 = true then
      if (m_m (5 : Int32).toNatClampNeg) ≤ x5 then
        some (x5, x4)
      else
        Option.bind (f_X10_bookingOf x5) (fun u1 =>
          if x4 = 0 then
            f_X10_isFree_L6 m_m x1 x2 x3 jn (x5 + 1) 0
          else
            if jin u1 2048 = true then
              if (m_m (u1).toNatClampNeg) = x1 then
                if jin (u1 + 2) 2048 = true then
                  if x3 < (m_m (u1 + 2).toNatClampNeg) then
                    f_X10_isFree_L6 m_m x1 x2 x3 jn (x5 + 1) 1
                  else
                    if jin (u1 + 3) 2048 = true then
                      if x2 ≤ (m_m (u1 + 3).toNatClampNeg) then
                        f_X10_isFree_L6 m_m x1 x2 x3 jn (x5 + 1) 0
                      else
                        f_X10_isFree_L6 m_m x1 x2 x3 jn (x5 + 1) 1
                    else none
                else none
              else
                f_X10_isFree_L6 m_m x1 x2 x3 jn (x5 + 1) 1
            else none)
    else none
def f_X10_isFree (m_m : Nat → Int32) (a0 : Int32) (a1 : Int32) (a2 : Int32) : Option (Int32) :=
  Option.bind (f_X10_isFree_L6 m_m a0 a1 a2 jFU 0 1) (fun s4 =>
    if s4.2 = 0 ∨ s4.2 = 1 then some s4.2 else none)
set_option maxHeartbeats 4000000 in
set_option maxRecDepth 100000 in
theorem k_X10_isFree_L6 {l : Launch} {D : va_G} {t : Nat → ClassId} {ad : Nat → Nat} {o : Nat} (m_m : Nat → Int32) (x1 : Int32) (x2 : Int32) (x3 : Int32) (m_aside : Nat → Int32) (m_saved : Nat → Int32) (m_isSaved : Int32) (m_past : Nat → Int32) (m_changes : Int32) (m_errorAt : Int32) (m_failed : Int32) (m_thrown : Int32) (m_input : Nat → Int32) (m_inputMany : Int32) (m_fitting : Nat → Int32) (m_given : Nat → Int32) (m_pairs : Nat → Int32) (m_line : Nat → Int32) (m_lineMany : Int32) (m_letters : Nat → Int32) (m_begins0 : Nat → Int32) (m_commands : Nat → Int32) (m_commandMany : Int32) (m_place0 : Int32) (m_size0 : Int32) (m_isWrong : Int32) {X : jX} (hX : jOK X l D (jT t) cX10_isFree RX10 (some FieldType.boolean) { frames := 1, cells := 0, slots := 0, locals := 20 } 7) :
    ∀ (jn : Nat) (x5 : Int32) (x4 : Int32) (u : Int32 × Int32) (hf : f_X10_isFree_L6 m_m x1 x2 x3 jn x5 x4 = some u) (kx : ∀ s : Int32 × Int32, u = s → J X 0 0 (wM t ad o m_m m_aside m_saved m_isSaved m_past m_changes m_errorAt m_failed m_thrown m_input m_inputMany m_fitting m_given m_pairs m_line m_lineMany m_letters m_begins0 m_commands m_commandMany m_place0 m_size0 m_isWrong) 79 [(5, .int s.1), (4, .int s.2), (0, .ref (ad o)), (1, .int x1), (2, .int x2), (3, .int x3)] []), J X 0 0 (wM t ad o m_m m_aside m_saved m_isSaved m_past m_changes m_errorAt m_failed m_thrown m_input m_inputMany m_fitting m_given m_pairs m_line m_lineMany m_letters m_begins0 m_commands m_commandMany m_place0 m_size0 m_isWrong) 6 [(5, .int x5), (4, .int x4), (0, .ref (ad o)), (1, .int x1), (2, .int x2), (3, .int x3)] [] := by
  intro jn
  induction jn with
  | zero => intro x5 x4 u hf; cases (show (none : Option (Int32 × Int32)) = some u from hf)
  | succ jn ih =>
    intro x5 x4 u hf kx
    unfold f_X10_isFree_L6 at hf
    refine j_iload hX dX10_isFree_6 0 rfl ?_
    refine j_aload_n hX dX10_isFree_8 rfl 2 rfl ?_
    refine j_get hX dX10_isFree_9 inX10 0 q1455 0 rfl rfl (by decide) rfl rfl ?_
    refine j_iconst hX 5 dX10_isFree_12 (by decide) ?_
    refine j_iald hX dX10_isFree_13 1 0 rfl rfl hf (fun c13 hf => ?_)
    refine j_icmp_ge hX 79 dX10_isFree_14 (by decide) hf (fun c14 hf => ?_) (fun c14 hf => ?_)
    · cases hf
      exact kx _ rfl
    · refine j_iload hX dX10_isFree_17 0 rfl ?_
      obtain ⟨u1, h2, hf⟩ := jbind hf
      refine j_callS (st := []) hX (k_X10_bookingOf (l := l) (D := D) (t := t) (ad := ad)  x5 u1 h2) q1587 q1588 q15 q1589 (n9 := 1) rfl ⟨by decide +kernel, by decide +kernel⟩ dX10_isFree_19 (Nat.le_of_ble_eq_true rfl) ⟨Nat.le_refl _, Nat.le_refl _⟩ (fun w : va_W => w ++ (wM t ad o m_m m_aside m_saved m_isSaved m_past m_changes m_errorAt m_failed m_thrown m_input m_inputMany m_fitting m_given m_pairs m_line m_lineMany m_letters m_begins0 m_commands m_commandMany m_place0 m_size0 m_isWrong)) (jFr_r (wM t ad o m_m m_aside m_saved m_isSaved m_past m_changes m_errorAt m_failed m_thrown m_input m_inputMany m_fitting m_given m_pairs m_line m_lineMany m_letters m_begins0 m_commands m_commandMany m_place0 m_size0 m_isWrong)) rfl rfl (fun v w hvw => ?_)
      obtain ⟨rfl, rfl⟩ := hvw
      change J X 0 0 (wM t ad o m_m m_aside m_saved m_isSaved m_past m_changes m_errorAt m_failed m_thrown m_input m_inputMany m_fitting m_given m_pairs m_line m_lineMany m_letters m_begins0 m_commands m_commandMany m_place0 m_size0 m_isWrong) 22 [(5, .int x5), (4, .int x4), (0, .ref (ad o)), (1, .int x1), (2, .int x2), (3, .int x3)] [.int u1]
      refine j_istore hX [(6, .int u1), (5, .int x5), (4, .int x4), (0, .ref (ad o)), (1, .int x1), (2, .int x2), (3, .int x3)] dX10_isFree_22 (by decide) rfl ?_
      refine j_iload hX dX10_isFree_24 2 rfl ?_
      refine j_if_eq hX 70 dX10_isFree_26 (by decide) hf (fun c26 hf => ?_) (fun c26 hf => ?_)
      · refine j_iconst hX 0 dX10_isFree_70 (by decide) ?_
        refine j_istore hX [(4, .int 0), (6, .int u1), (5, .int x5), (0, .ref (ad o)), (1, .int x1), (2, .int x2), (3, .int x3)] dX10_isFree_71 (by decide) rfl ?_
        refine j_iinc hX (x5 + 1) [(5, .int (x5 + 1)), (4, .int 0), (6, .int u1), (0, .ref (ad o)), (1, .int x1), (2, .int x2), (3, .int x3)] dX10_isFree_73 2 rfl rfl (by decide) rfl ?_
        refine j_goto hX 6 dX10_isFree_76 (by decide) ?_
        refine j_sub hX [(5, .int (x5 + 1)), (4, .int 0), (0, .ref (ad o)), (1, .int x1), (2, .int x2), (3, .int x3)] [0, 1, 3, 4, 5, 6] rfl ?_
        exact ih (x5 + 1) 0 u hf kx
      · refine j_aload_n hX dX10_isFree_29 rfl 3 rfl ?_
        refine j_get hX dX10_isFree_30 inX10 0 q1455 0 rfl rfl (by decide) rfl rfl ?_
        refine j_iload hX dX10_isFree_33 0 rfl ?_
        refine j_iald hX dX10_isFree_35 1 0 rfl rfl hf (fun c35 hf => ?_)
        refine j_iload_n hX dX10_isFree_36 rfl 4 rfl ?_
        refine j_icmp_ne hX 66 dX10_isFree_37 (by decide) hf (fun c37 hf => ?_) (fun c37 hf => ?_)
        · refine j_iconst hX 1 dX10_isFree_66 (by decide) ?_
          refine j_goto hX 71 dX10_isFree_67 (by decide) ?_
          refine j_istore hX [(4, .int 1), (6, .int u1), (5, .int x5), (0, .ref (ad o)), (1, .int x1), (2, .int x2), (3, .int x3)] dX10_isFree_71 (by decide) rfl ?_
          refine j_iinc hX (x5 + 1) [(5, .int (x5 + 1)), (4, .int 1), (6, .int u1), (0, .ref (ad o)), (1, .int x1), (2, .int x2), (3, .int x3)] dX10_isFree_73 2 rfl rfl (by decide) rfl ?_
          refine j_goto hX 6 dX10_isFree_76 (by decide) ?_
          refine j_sub hX [(5, .int (x5 + 1)), (4, .int 1), (0, .ref (ad o)), (1, .int x1), (2, .int x2), (3, .int x3)] [0, 1, 3, 4, 5, 6] rfl ?_
          exact ih (x5 + 1) 1 u hf kx
        · refine j_aload_n hX dX10_isFree_40 rfl 3 rfl ?_
          refine j_get hX dX10_isFree_41 inX10 0 q1455 0 rfl rfl (by decide) rfl rfl ?_
          refine j_iload hX dX10_isFree_44 0 rfl ?_
          refine j_iconst hX 2 dX10_isFree_46 (by decide) ?_
          refine j_iadd hX dX10_isFree_47 ?_
          refine j_iald hX dX10_isFree_48 1 0 rfl rfl hf (fun c48 hf => ?_)
          refine j_iload_n hX dX10_isFree_49 rfl 6 rfl ?_
          refine j_icmp_gt hX 66 dX10_isFree_50 (by decide) hf (fun c50 hf => ?_) (fun c50 hf => ?_)
          · refine j_iconst hX 1 dX10_isFree_66 (by decide) ?_
            refine j_goto hX 71 dX10_isFree_67 (by decide) ?_
            refine j_istore hX [(4, .int 1), (6, .int u1), (5, .int x5), (0, .ref (ad o)), (1, .int x1), (2, .int x2), (3, .int x3)] dX10_isFree_71 (by decide) rfl ?_
            refine j_iinc hX (x5 + 1) [(5, .int (x5 + 1)), (4, .int 1), (6, .int u1), (0, .ref (ad o)), (1, .int x1), (2, .int x2), (3, .int x3)] dX10_isFree_73 2 rfl rfl (by decide) rfl ?_
            refine j_goto hX 6 dX10_isFree_76 (by decide) ?_
            refine j_sub hX [(5, .int (x5 + 1)), (4, .int 1), (0, .ref (ad o)), (1, .int x1), (2, .int x2), (3, .int x3)] [0, 1, 3, 4, 5, 6] rfl ?_
            exact ih (x5 + 1) 1 u hf kx
          · refine j_aload_n hX dX10_isFree_53 rfl 3 rfl ?_
            refine j_get hX dX10_isFree_54 inX10 0 q1455 0 rfl rfl (by decide) rfl rfl ?_
            refine j_iload hX dX10_isFree_57 0 rfl ?_
            refine j_iconst hX 3 dX10_isFree_59 (by decide) ?_
            refine j_iadd hX dX10_isFree_60 ?_
            refine j_iald hX dX10_isFree_61 1 0 rfl rfl hf (fun c61 hf => ?_)
            refine j_iload_n hX dX10_isFree_62 rfl 5 rfl ?_
            refine j_icmp_ge hX 70 dX10_isFree_63 (by decide) hf (fun c63 hf => ?_) (fun c63 hf => ?_)
            · refine j_iconst hX 0 dX10_isFree_70 (by decide) ?_
              refine j_istore hX [(4, .int 0), (6, .int u1), (5, .int x5), (0, .ref (ad o)), (1, .int x1), (2, .int x2), (3, .int x3)] dX10_isFree_71 (by decide) rfl ?_
              refine j_iinc hX (x5 + 1) [(5, .int (x5 + 1)), (4, .int 0), (6, .int u1), (0, .ref (ad o)), (1, .int x1), (2, .int x2), (3, .int x3)] dX10_isFree_73 2 rfl rfl (by decide) rfl ?_
              refine j_goto hX 6 dX10_isFree_76 (by decide) ?_
              refine j_sub hX [(5, .int (x5 + 1)), (4, .int 0), (0, .ref (ad o)), (1, .int x1), (2, .int x2), (3, .int x3)] [0, 1, 3, 4, 5, 6] rfl ?_
              exact ih (x5 + 1) 0 u hf kx
            · refine j_iconst hX 1 dX10_isFree_66 (by decide) ?_
              refine j_goto hX 71 dX10_isFree_67 (by decide) ?_
              refine j_istore hX [(4, .int 1), (6, .int u1), (5, .int x5), (0, .ref (ad o)), (1, .int x1), (2, .int x2), (3, .int x3)] dX10_isFree_71 (by decide) rfl ?_
              refine j_iinc hX (x5 + 1) [(5, .int (x5 + 1)), (4, .int 1), (6, .int u1), (0, .ref (ad o)), (1, .int x1), (2, .int x2), (3, .int x3)] dX10_isFree_73 2 rfl rfl (by decide) rfl ?_
              refine j_goto hX 6 dX10_isFree_76 (by decide) ?_
              refine j_sub hX [(5, .int (x5 + 1)), (4, .int 1), (0, .ref (ad o)), (1, .int x1), (2, .int x2), (3, .int x3)] [0, 1, 3, 4, 5, 6] rfl ?_
              exact ih (x5 + 1) 1 u hf kx
set_option maxHeartbeats 4000000 in
set_option maxRecDepth 100000 in
theorem k_X10_isFree {l : Launch} {D : va_G} {t : Nat → ClassId} {ad : Nat → Nat} {o : Nat} (m_m : Nat → Int32) (m_aside : Nat → Int32) (m_saved : Nat → Int32) (m_isSaved : Int32) (m_past : Nat → Int32) (m_changes : Int32) (m_errorAt : Int32) (m_failed : Int32) (m_thrown : Int32) (m_input : Nat → Int32) (m_inputMany : Int32) (m_fitting : Nat → Int32) (m_given : Nat → Int32) (m_pairs : Nat → Int32) (m_line : Nat → Int32) (m_lineMany : Int32) (m_letters : Nat → Int32) (m_begins0 : Nat → Int32) (m_commands : Nat → Int32) (m_commandMany : Int32) (m_place0 : Int32) (m_size0 : Int32) (m_isWrong : Int32) (a0 : Int32) (a1 : Int32) (a2 : Int32) (u : Int32) (hf : f_X10_isFree m_m a0 a1 a2 = some u) : cm l D (jT t) yX10_isFree cX10_isFree 7 (some FieldType.boolean) { frames := 1, cells := 0, slots := 0, locals := 20 } [.ref (ad o), .int a0, .int a1, .int a2] (wM t ad o m_m m_aside m_saved m_isSaved m_past m_changes m_errorAt m_failed m_thrown m_input m_inputMany m_fitting m_given m_pairs m_line m_lineMany m_letters m_begins0 m_commands m_commandMany m_place0 m_size0 m_isWrong) (fun v w => v = (some (.int u)) ∧ w = wM t ad o m_m m_aside m_saved m_isSaved m_past m_changes m_errorAt m_failed m_thrown m_input m_inputMany m_fitting m_given m_pairs m_line m_lineMany m_letters m_begins0 m_commands m_commandMany m_place0 m_size0 m_isWrong) := by
  refine cm_of RX10 rfl (by decide +kernel) (Nat.le_of_ble_eq_true rfl) (fun X hX hE => ?_)
  change J X 0 0 (wM t ad o m_m m_aside m_saved m_isSaved m_past m_changes m_errorAt m_failed m_thrown m_input m_inputMany m_fitting m_given m_pairs m_line m_lineMany m_letters m_begins0 m_commands m_commandMany m_place0 m_size0 m_isWrong) 0 [(0, .ref (ad o)), (1, .int a0), (2, .int a1), (3, .int a2)] []
  unfold f_X10_isFree at hf
  refine j_iconst hX 1 dX10_isFree_0 (by decide) ?_
  refine j_istore hX [(4, .int 1), (0, .ref (ad o)), (1, .int a0), (2, .int a1), (3, .int a2)] dX10_isFree_1 (by decide) rfl ?_
  refine j_iconst hX 0 dX10_isFree_3 (by decide) ?_
  refine j_istore hX [(5, .int 0), (4, .int 1), (0, .ref (ad o)), (1, .int a0), (2, .int a1), (3, .int a2)] dX10_isFree_4 (by decide) rfl ?_
  obtain ⟨s4, h5, hf⟩ := jbind hf
  refine k_X10_isFree_L6 (ad := ad) m_m a0 a1 a2 m_aside m_saved m_isSaved m_past m_changes m_errorAt m_failed m_thrown m_input m_inputMany m_fitting m_given m_pairs m_line m_lineMany m_letters m_begins0 m_commands m_commandMany m_place0 m_size0 m_isWrong hX jFU 0 1 s4 h5 (fun s40 es4 => ?_)
  subst es4
  refine j_iload hX dX10_isFree_79 1 rfl ?_
  obtain ⟨c81, hf⟩ := jif hf
  cases hf
  exact j_zret hX hE (jz_n c81) dX10_isFree_81 (Nat.le_refl _) (Nat.le_refl _) ⟨rfl, rfl⟩

-- HammerDepotModel grant (I)I
def f_X10_grant (m_m : Nat → Int32) (m_aside : Nat → Int32) (m_past : Nat → Int32) (m_changes : Int32) (m_thrown : Int32) (a0 : Int32) : Option (Int32 × (Nat → Int32) × (Nat → Int32) × (Nat → Int32) × Int32 × Int32) :=
  Option.bind (f_X10_starts m_m m_aside m_thrown) (fun u1 =>
    Option.bind (f_X10_grantIt m_m u1.2 a0) (fun u3 =>
      Option.bind (f_X10_changed u1.1 m_past m_changes u3.2.2 u3.1) (fun u5 =>
        some (u5.1, u3.2.1, u1.1, u5.2.1, u5.2.2, u3.2.2))))
set_option maxHeartbeats 4000000 in
set_option maxRecDepth 100000 in
theorem k_X10_grant {l : Launch} {D : va_G} {t : Nat → ClassId} {ad : Nat → Nat} {o : Nat} (m_m : Nat → Int32) (m_aside : Nat → Int32) (m_saved : Nat → Int32) (m_isSaved : Int32) (m_past : Nat → Int32) (m_changes : Int32) (m_errorAt : Int32) (m_failed : Int32) (m_thrown : Int32) (m_input : Nat → Int32) (m_inputMany : Int32) (m_fitting : Nat → Int32) (m_given : Nat → Int32) (m_pairs : Nat → Int32) (m_line : Nat → Int32) (m_lineMany : Int32) (m_letters : Nat → Int32) (m_begins0 : Nat → Int32) (m_commands : Nat → Int32) (m_commandMany : Int32) (m_place0 : Int32) (m_size0 : Int32) (m_isWrong : Int32) (a0 : Int32) (u : Int32 × (Nat → Int32) × (Nat → Int32) × (Nat → Int32) × Int32 × Int32) (hf : f_X10_grant m_m m_aside m_past m_changes m_thrown a0 = some u) : cm l D (jT t) yX10_grant cX10_grant 2 (some FieldType.int) { frames := 5, cells := 0, slots := 0, locals := 120 } [.ref (ad o), .int a0] (wM t ad o m_m m_aside m_saved m_isSaved m_past m_changes m_errorAt m_failed m_thrown m_input m_inputMany m_fitting m_given m_pairs m_line m_lineMany m_letters m_begins0 m_commands m_commandMany m_place0 m_size0 m_isWrong) (fun v w => v = (some (.int u.1)) ∧ w = wM t ad o u.2.1 u.2.2.1 m_saved m_isSaved u.2.2.2.1 u.2.2.2.2.1 m_errorAt m_failed u.2.2.2.2.2 m_input m_inputMany m_fitting m_given m_pairs m_line m_lineMany m_letters m_begins0 m_commands m_commandMany m_place0 m_size0 m_isWrong) := by
  refine cm_of RX10 rfl (by decide +kernel) (Nat.le_of_ble_eq_true rfl) (fun X hX hE => ?_)
  change J X 0 0 (wM t ad o m_m m_aside m_saved m_isSaved m_past m_changes m_errorAt m_failed m_thrown m_input m_inputMany m_fitting m_given m_pairs m_line m_lineMany m_letters m_begins0 m_commands m_commandMany m_place0 m_size0 m_isWrong) 0 [(0, .ref (ad o)), (1, .int a0)] []
  unfold f_X10_grant at hf
  refine j_aload_n hX dX10_grant_0 rfl 0 rfl ?_
  obtain ⟨u1, h2, hf⟩ := jbind hf
  refine j_callV (st := []) hX (k_X10_starts (l := l) (D := D) (t := t) (ad := ad) (o := o) m_m m_aside m_saved m_isSaved m_past m_changes m_errorAt m_failed m_thrown m_input m_inputMany m_fitting m_given m_pairs m_line m_lineMany m_letters m_begins0 m_commands m_commandMany m_place0 m_size0 m_isWrong  u1 h2) q1486 q1487 q1949 q15 q1488 (n9 := 0) rfl ⟨by decide +kernel, by decide +kernel⟩ 0 rfl rfl rfl dX10_grant_1 (Nat.le_of_ble_eq_true rfl) ⟨Nat.le_refl _, Nat.le_refl _⟩ (fun w : va_W => w) jFr_id rfl rfl (fun v w hvw => ?_)
  obtain ⟨rfl, rfl⟩ := hvw
  change J X 0 0 (wM t ad o m_m u1.1 m_saved m_isSaved m_past m_changes m_errorAt m_failed u1.2 m_input m_inputMany m_fitting m_given m_pairs m_line m_lineMany m_letters m_begins0 m_commands m_commandMany m_place0 m_size0 m_isWrong) 4 [(0, .ref (ad o)), (1, .int a0)] []
  refine j_aload_n hX dX10_grant_4 rfl 0 rfl ?_
  refine j_aload_n hX dX10_grant_5 rfl 0 rfl ?_
  refine j_iload_n hX dX10_grant_6 rfl 1 rfl ?_
  obtain ⟨u3, h4, hf⟩ := jbind hf
  refine j_callV (st := [.ref (ad o)]) hX (k_X10_grantIt (l := l) (D := D) (t := t) (ad := ad) (o := o) m_m u1.1 m_saved m_isSaved m_past m_changes m_errorAt m_failed u1.2 m_input m_inputMany m_fitting m_given m_pairs m_line m_lineMany m_letters m_begins0 m_commands m_commandMany m_place0 m_size0 m_isWrong a0 u3 h4) q1574 q1575 q1965 q15 q1576 (n9 := 1) rfl ⟨by decide +kernel, by decide +kernel⟩ 0 rfl rfl rfl dX10_grant_7 (Nat.le_of_ble_eq_true rfl) ⟨Nat.le_refl _, Nat.le_refl _⟩ (fun w : va_W => w) jFr_id rfl rfl (fun v w hvw => ?_)
  obtain ⟨rfl, rfl⟩ := hvw
  change J X 0 0 (wM t ad o u3.2.1 u1.1 m_saved m_isSaved m_past m_changes m_errorAt m_failed u3.2.2 m_input m_inputMany m_fitting m_given m_pairs m_line m_lineMany m_letters m_begins0 m_commands m_commandMany m_place0 m_size0 m_isWrong) 10 [(0, .ref (ad o)), (1, .int a0)] [.int u3.1, .ref (ad o)]
  obtain ⟨u5, h6, hf⟩ := jbind hf
  refine j_callV (st := []) hX (k_X10_changed (l := l) (D := D) (t := t) (ad := ad) (o := o) u3.2.1 u1.1 m_saved m_isSaved m_past m_changes m_errorAt m_failed u3.2.2 m_input m_inputMany m_fitting m_given m_pairs m_line m_lineMany m_letters m_begins0 m_commands m_commandMany m_place0 m_size0 m_isWrong u3.1 u5 h6) q1512 q1513 q1954 q15 q1514 (n9 := 1) rfl ⟨by decide +kernel, by decide +kernel⟩ 0 rfl rfl rfl dX10_grant_10 (Nat.le_of_ble_eq_true rfl) ⟨Nat.le_refl _, Nat.le_refl _⟩ (fun w : va_W => w) jFr_id rfl rfl (fun v w hvw => ?_)
  obtain ⟨rfl, rfl⟩ := hvw
  change J X 0 0 (wM t ad o u3.2.1 u1.1 m_saved m_isSaved u5.2.1 u5.2.2 m_errorAt m_failed u3.2.2 m_input m_inputMany m_fitting m_given m_pairs m_line m_lineMany m_letters m_begins0 m_commands m_commandMany m_place0 m_size0 m_isWrong) 13 [(0, .ref (ad o)), (1, .int a0)] [.int u5.1]
  cases hf
  exact j_iret hX hE dX10_grant_13 (Nat.le_refl _) (Nat.le_refl _) ⟨rfl, rfl⟩
-- HammerDepotModel grantsGiven ()V
def f_X10_grantsGiven_L11 (m_given : Nat → Int32) (x2 : Int32) : Nat → Int32 → Int32 → (Nat → Int32) → Option (Int32 × Int32 × (Nat → Int32))
  | 0, _, _, _ => none
  | jn + 1, x3, x1, m_m =>
    if x2 ≤ x3 then
      some (x3, x1, m_m)
    else
      if jin x3 8 = true then
        if (m_given (x3).toNatClampNeg) = (-1) then
          f_X10_grantsGiven_L11 m_given x2 jn (x3 + 1) x1 m_m
        else
          if jin x3 8 = true then
            Option.bind (f_X10_books m_m (x3 - x1) (m_given (x3).toNatClampNeg)) (fun u1 =>
              f_X10_grantsGiven_L11 m_given x2 jn (x3 + 1) (x1 + 1) u1)
          else none
      else none
def f_X10_grantsGiven (m_m : Nat → Int32) (m_given : Nat → Int32) : Option ((Nat → Int32)) :=
  if jin 4 2048 = true then
    Option.bind (f_X10_grantsGiven_L11 m_given (m_m (4 : Int32).toNatClampNeg) jFU 0 0 m_m) (fun s4 =>
      some s4.2.2)
  else none
set_option maxHeartbeats 4000000 in
set_option maxRecDepth 100000 in
theorem k_X10_grantsGiven_L11 {l : Launch} {D : va_G} {t : Nat → ClassId} {ad : Nat → Nat} {o : Nat} (m_given : Nat → Int32) (x2 : Int32) (m_aside : Nat → Int32) (m_saved : Nat → Int32) (m_isSaved : Int32) (m_past : Nat → Int32) (m_changes : Int32) (m_errorAt : Int32) (m_failed : Int32) (m_thrown : Int32) (m_input : Nat → Int32) (m_inputMany : Int32) (m_fitting : Nat → Int32) (m_pairs : Nat → Int32) (m_line : Nat → Int32) (m_lineMany : Int32) (m_letters : Nat → Int32) (m_begins0 : Nat → Int32) (m_commands : Nat → Int32) (m_commandMany : Int32) (m_place0 : Int32) (m_size0 : Int32) (m_isWrong : Int32) {X : jX} (hX : jOK X l D (jT t) cX10_grantsGiven RX10 none { frames := 3, cells := 0, slots := 0, locals := 66 } 4) :
    ∀ (jn : Nat) (x3 : Int32) (x1 : Int32) (m_m : Nat → Int32) (u : Int32 × Int32 × (Nat → Int32)) (hf : f_X10_grantsGiven_L11 m_given x2 jn x3 x1 m_m = some u) (kx : ∀ s : Int32 × Int32 × (Nat → Int32), u = s → J X 0 0 (wM t ad o s.2.2 m_aside m_saved m_isSaved m_past m_changes m_errorAt m_failed m_thrown m_input m_inputMany m_fitting m_given m_pairs m_line m_lineMany m_letters m_begins0 m_commands m_commandMany m_place0 m_size0 m_isWrong) 48 [(3, .int s.1), (2, .int x2), (1, .int s.2.1), (0, .ref (ad o))] []), J X 0 0 (wM t ad o m_m m_aside m_saved m_isSaved m_past m_changes m_errorAt m_failed m_thrown m_input m_inputMany m_fitting m_given m_pairs m_line m_lineMany m_letters m_begins0 m_commands m_commandMany m_place0 m_size0 m_isWrong) 11 [(3, .int x3), (2, .int x2), (1, .int x1), (0, .ref (ad o))] [] := by
  intro jn
  induction jn with
  | zero => intro x3 x1 m_m u hf; cases (show (none : Option (Int32 × Int32 × (Nat → Int32))) = some u from hf)
  | succ jn ih =>
    intro x3 x1 m_m u hf kx
    unfold f_X10_grantsGiven_L11 at hf
    refine j_iload_n hX dX10_grantsGiven_11 rfl 0 rfl ?_
    refine j_iload_n hX dX10_grantsGiven_12 rfl 1 rfl ?_
    refine j_icmp_ge hX 48 dX10_grantsGiven_13 (by decide) hf (fun c13 hf => ?_) (fun c13 hf => ?_)
    · cases hf
      exact kx _ rfl
    · refine j_aload_n hX dX10_grantsGiven_16 rfl 3 rfl ?_
      refine j_get hX dX10_grantsGiven_17 inX10 12 q1467 0 rfl rfl (by decide) rfl rfl ?_
      refine j_iload_n hX dX10_grantsGiven_20 rfl 0 rfl ?_
      refine j_iald hX dX10_grantsGiven_21 7 0 rfl rfl hf (fun c21 hf => ?_)
      refine j_iconst hX (-1) dX10_grantsGiven_22 (by decide) ?_
      refine j_icmp_eq hX 42 dX10_grantsGiven_23 (by decide) hf (fun c23 hf => ?_) (fun c23 hf => ?_)
      · refine j_iinc hX (x3 + 1) [(3, .int (x3 + 1)), (2, .int x2), (1, .int x1), (0, .ref (ad o))] dX10_grantsGiven_42 0 rfl rfl (by decide) rfl ?_
        refine j_goto hX 11 dX10_grantsGiven_45 (by decide) ?_
        exact ih (x3 + 1) x1 m_m u hf kx
      · refine j_aload_n hX dX10_grantsGiven_26 rfl 3 rfl ?_
        refine j_iload_n hX dX10_grantsGiven_27 rfl 0 rfl ?_
        refine j_iload_n hX dX10_grantsGiven_28 rfl 2 rfl ?_
        refine j_isub hX dX10_grantsGiven_29 ?_
        refine j_aload_n hX dX10_grantsGiven_30 rfl 3 rfl ?_
        refine j_get hX dX10_grantsGiven_31 inX10 12 q1467 0 rfl rfl (by decide) rfl rfl ?_
        refine j_iload_n hX dX10_grantsGiven_34 rfl 0 rfl ?_
        refine j_iald hX dX10_grantsGiven_35 7 0 rfl rfl hf (fun c35 hf => ?_)
        obtain ⟨u1, h2, hf⟩ := jbind hf
        refine j_callV (st := []) hX (k_X10_books (l := l) (D := D) (t := t) (ad := ad) (o := o) m_m m_aside m_saved m_isSaved m_past m_changes m_errorAt m_failed m_thrown m_input m_inputMany m_fitting m_given m_pairs m_line m_lineMany m_letters m_begins0 m_commands m_commandMany m_place0 m_size0 m_isWrong (x3 - x1) (m_given (x3).toNatClampNeg) u1 h2) q1590 q1591 q1969 q15 q1592 (n9 := 2) rfl ⟨by decide +kernel, by decide +kernel⟩ 0 rfl rfl rfl dX10_grantsGiven_36 (Nat.le_of_ble_eq_true rfl) ⟨Nat.le_refl _, Nat.le_refl _⟩ (fun w : va_W => w) jFr_id rfl rfl (fun v w hvw => ?_)
        obtain ⟨rfl, rfl⟩ := hvw
        change J X 0 0 (wM t ad o u1 m_aside m_saved m_isSaved m_past m_changes m_errorAt m_failed m_thrown m_input m_inputMany m_fitting m_given m_pairs m_line m_lineMany m_letters m_begins0 m_commands m_commandMany m_place0 m_size0 m_isWrong) 39 [(3, .int x3), (2, .int x2), (1, .int x1), (0, .ref (ad o))] []
        refine j_iinc hX (x1 + 1) [(1, .int (x1 + 1)), (3, .int x3), (2, .int x2), (0, .ref (ad o))] dX10_grantsGiven_39 2 rfl rfl (by decide) rfl ?_
        refine j_iinc hX (x3 + 1) [(3, .int (x3 + 1)), (1, .int (x1 + 1)), (2, .int x2), (0, .ref (ad o))] dX10_grantsGiven_42 1 rfl rfl (by decide) rfl ?_
        refine j_goto hX 11 dX10_grantsGiven_45 (by decide) ?_
        refine j_sub hX [(3, .int (x3 + 1)), (2, .int x2), (1, .int (x1 + 1)), (0, .ref (ad o))] [0, 2, 1, 3] rfl ?_
        exact ih (x3 + 1) (x1 + 1) u1 u hf kx
set_option maxHeartbeats 4000000 in
set_option maxRecDepth 100000 in
theorem k_X10_grantsGiven {l : Launch} {D : va_G} {t : Nat → ClassId} {ad : Nat → Nat} {o : Nat} (m_m : Nat → Int32) (m_aside : Nat → Int32) (m_saved : Nat → Int32) (m_isSaved : Int32) (m_past : Nat → Int32) (m_changes : Int32) (m_errorAt : Int32) (m_failed : Int32) (m_thrown : Int32) (m_input : Nat → Int32) (m_inputMany : Int32) (m_fitting : Nat → Int32) (m_given : Nat → Int32) (m_pairs : Nat → Int32) (m_line : Nat → Int32) (m_lineMany : Int32) (m_letters : Nat → Int32) (m_begins0 : Nat → Int32) (m_commands : Nat → Int32) (m_commandMany : Int32) (m_place0 : Int32) (m_size0 : Int32) (m_isWrong : Int32)  (u : (Nat → Int32)) (hf : f_X10_grantsGiven m_m m_given = some u) : cm l D (jT t) yX10_grantsGiven cX10_grantsGiven 4 none { frames := 3, cells := 0, slots := 0, locals := 66 } [.ref (ad o)] (wM t ad o m_m m_aside m_saved m_isSaved m_past m_changes m_errorAt m_failed m_thrown m_input m_inputMany m_fitting m_given m_pairs m_line m_lineMany m_letters m_begins0 m_commands m_commandMany m_place0 m_size0 m_isWrong) (fun v w => v = none ∧ w = wM t ad o u m_aside m_saved m_isSaved m_past m_changes m_errorAt m_failed m_thrown m_input m_inputMany m_fitting m_given m_pairs m_line m_lineMany m_letters m_begins0 m_commands m_commandMany m_place0 m_size0 m_isWrong) := by
  refine cm_of RX10 rfl (by decide +kernel) (Nat.le_of_ble_eq_true rfl) (fun X hX hE => ?_)
  change J X 0 0 (wM t ad o m_m m_aside m_saved m_isSaved m_past m_changes m_errorAt m_failed m_thrown m_input m_inputMany m_fitting m_given m_pairs m_line m_lineMany m_letters m_begins0 m_commands m_commandMany m_place0 m_size0 m_isWrong) 0 [(0, .ref (ad o))] []
  unfold f_X10_grantsGiven at hf
  refine j_iconst hX 0 dX10_grantsGiven_0 (by decide) ?_
  refine j_istore_n hX [(1, .int 0), (0, .ref (ad o))] dX10_grantsGiven_1 rfl (by decide) rfl ?_
  refine j_aload_n hX dX10_grantsGiven_2 rfl 1 rfl ?_
  refine j_get hX dX10_grantsGiven_3 inX10 0 q1455 0 rfl rfl (by decide) rfl rfl ?_
  refine j_iconst hX 4 dX10_grantsGiven_6 (by decide) ?_
  refine j_iald hX dX10_grantsGiven_7 1 0 rfl rfl hf (fun c7 hf => ?_)
  refine j_istore_n hX [(2, .int (m_m (4 : Int32).toNatClampNeg)), (1, .int 0), (0, .ref (ad o))] dX10_grantsGiven_8 rfl (by decide) rfl ?_
  refine j_iconst hX 0 dX10_grantsGiven_9 (by decide) ?_
  refine j_istore_n hX [(3, .int 0), (2, .int (m_m (4 : Int32).toNatClampNeg)), (1, .int 0), (0, .ref (ad o))] dX10_grantsGiven_10 rfl (by decide) rfl ?_
  obtain ⟨s4, h5, hf⟩ := jbind hf
  refine k_X10_grantsGiven_L11 (ad := ad) m_given (m_m (4 : Int32).toNatClampNeg) m_aside m_saved m_isSaved m_past m_changes m_errorAt m_failed m_thrown m_input m_inputMany m_fitting m_pairs m_line m_lineMany m_letters m_begins0 m_commands m_commandMany m_place0 m_size0 m_isWrong hX jFU 0 0 m_m s4 h5 (fun s40 es4 => ?_)
  subst es4
  cases hf
  exact j_vret hX hE dX10_grantsGiven_48 (Nat.le_refl _) (Nat.le_refl _) ⟨rfl, rfl⟩
-- HammerDepotModel mostIt ()I
def f_X10_mostIt_L2  : Nat → Int32 → (Nat → Int32) → Option (Int32 × (Nat → Int32))
  | 0, _, _ => none
  | jn + 1, x1, m_m =>
    if jin 4 2048 = true then
      if (m_m (4 : Int32).toNatClampNeg) ≤ x1 then
        some (x1, m_m)
      else
        Option.bind (f_X10_requestOf x1) (fun u1 =>
          if jin (u1 + 4) 2048 = true then
            if jin 1 2048 = true then
              if (m_m (1 : Int32).toNatClampNeg) < (m_m (u1 + 4).toNatClampNeg) then
                f_X10_mostIt_L2  jn (x1 + 1) m_m
              else
                Option.bind (f_X10_dropsRequest m_m x1) (fun u3 =>
                  f_X10_mostIt_L2  jn x1 u3)
            else none
          else none)
    else none
def f_X10_mostIt_L113 (m_m : Nat → Int32) (m_fitting : Nat → Int32) (x4 : Int32) (x6 : Int32) (x5 : Int32) (x3 : Int32) (x2 : Int32) : Nat → Int32 → (Nat → Int32) → Option (Int32 × (Nat → Int32))
  | 0, _, _ => none
  | jn + 1, x7, m_given =>
    if jin 0 2048 = true then
      if (m_m (0 : Int32).toNatClampNeg) ≤ x7 then
        some (x7, m_given)
      else
        if jin x6 8 = true then
          if (m_given (x6).toNatClampNeg) = (-1) then
            if jin x6 8 = true then
              if ((((m_fitting (x6).toNatClampNeg) &&& x3) >>> (x7 &&& 31)) &&& 1) = 1 then
                Option.bind (f_X10_most m_m m_fitting x4 (x3 &&& (((1 : Int32) <<< (x7 &&& 31)) ^^^ (-1)))) (fun u10 =>
                  if ((x5 + 1) + u10) = x2 then
                    if jin x6 8 = true then
                      f_X10_mostIt_L113 m_m m_fitting x4 x6 x5 x3 x2 jn (x7 + 1) (upd m_given (x6).toNatClampNeg x7)
                    else none
                  else
                    f_X10_mostIt_L113 m_m m_fitting x4 x6 x5 x3 x2 jn (x7 + 1) m_given)
              else
                f_X10_mostIt_L113 m_m m_fitting x4 x6 x5 x3 x2 jn (x7 + 1) m_given
            else none
          else
            some (x7, m_given)
        else none
    else none
def f_X10_mostIt_L80 (m_m : Nat → Int32) (m_fitting : Nat → Int32) (x2 : Int32) : Nat → Int32 → Int32 → Int32 → Int32 → (Nat → Int32) → Option (Int32 × Int32 × Int32 × Int32 × (Nat → Int32))
  | 0, _, _, _, _, _ => none
  | jn + 1, x6, x5, x4, x3, m_given =>
    if jin 4 2048 = true then
      if (m_m (4 : Int32).toNatClampNeg) ≤ x6 then
        some (x6, x5, x4, x3, m_given)
      else
        if jin x6 8 = true then
          Option.bind (f_X10_mostIt_L113 m_m m_fitting (x4 &&& (((1 : Int32) <<< (x6 &&& 31)) ^^^ (-1))) x6 x5 x3 x2 jFU 0 (upd m_given (x6).toNatClampNeg (-1))) (fun s13 =>
            if jin x6 8 = true then
              if (s13.2 (x6).toNatClampNeg) = (-1) then
                f_X10_mostIt_L80 m_m m_fitting x2 jn (x6 + 1) x5 (x4 &&& (((1 : Int32) <<< (x6 &&& 31)) ^^^ (-1))) x3 s13.2
              else
                if jin x6 8 = true then
                  jlet (x3 &&& (((1 : Int32) <<< ((s13.2 (x6).toNatClampNeg) &&& 31)) ^^^ (-1))) (fun y227_14 =>
                    f_X10_mostIt_L80 m_m m_fitting x2 jn (x6 + 1) (x5 + 1) (x4 &&& (((1 : Int32) <<< (x6 &&& 31)) ^^^ (-1))) y227_14 s13.2)
                else none
            else none)
        else none
    else none
def f_X10_mostIt (m_m : Nat → Int32) (m_fitting : Nat → Int32) (m_given : Nat → Int32) : Option (Int32 × (Nat → Int32) × (Nat → Int32) × (Nat → Int32)) :=
  Option.bind (f_X10_mostIt_L2  jFU 0 m_m) (fun s6 =>
    Option.bind (f_X10_mostNow s6.2 m_fitting) (fun u8 =>
      if jin 0 2048 = true then
        if jin 4 2048 = true then
          Option.bind (f_X10_mostIt_L80 s6.2 u8.2 u8.1 jFU 0 0 (((1 : Int32) <<< ((s6.2 (4 : Int32).toNatClampNeg) &&& 31)) - 1) (((1 : Int32) <<< ((s6.2 (0 : Int32).toNatClampNeg) &&& 31)) - 1) m_given) (fun s17 =>
            Option.bind (f_X10_grantsGiven s6.2 s17.2.2.2.2) (fun u19 =>
              some (s17.2.1, u19, u8.2, s17.2.2.2.2)))
        else none
      else none))
set_option maxHeartbeats 4000000 in
set_option maxRecDepth 100000 in
theorem k_X10_mostIt_L2 {l : Launch} {D : va_G} {t : Nat → ClassId} {ad : Nat → Nat} {o : Nat}  (m_aside : Nat → Int32) (m_saved : Nat → Int32) (m_isSaved : Int32) (m_past : Nat → Int32) (m_changes : Int32) (m_errorAt : Int32) (m_failed : Int32) (m_thrown : Int32) (m_input : Nat → Int32) (m_inputMany : Int32) (m_fitting : Nat → Int32) (m_given : Nat → Int32) (m_pairs : Nat → Int32) (m_line : Nat → Int32) (m_lineMany : Int32) (m_letters : Nat → Int32) (m_begins0 : Nat → Int32) (m_commands : Nat → Int32) (m_commandMany : Int32) (m_place0 : Int32) (m_size0 : Int32) (m_isWrong : Int32) {X : jX} (hX : jOK X l D (jT t) cX10_mostIt RX10 (some FieldType.int) { frames := 5, cells := 0, slots := 0, locals := 114 } 9) :
    ∀ (jn : Nat) (x1 : Int32) (m_m : Nat → Int32) (u : Int32 × (Nat → Int32)) (hf : f_X10_mostIt_L2  jn x1 m_m = some u) (kx : ∀ s : Int32 × (Nat → Int32), u = s → J X 0 0 (wM t ad o s.2 m_aside m_saved m_isSaved m_past m_changes m_errorAt m_failed m_thrown m_input m_inputMany m_fitting m_given m_pairs m_line m_lineMany m_letters m_begins0 m_commands m_commandMany m_place0 m_size0 m_isWrong) 46 [(1, .int s.1), (0, .ref (ad o))] []), J X 0 0 (wM t ad o m_m m_aside m_saved m_isSaved m_past m_changes m_errorAt m_failed m_thrown m_input m_inputMany m_fitting m_given m_pairs m_line m_lineMany m_letters m_begins0 m_commands m_commandMany m_place0 m_size0 m_isWrong) 2 [(1, .int x1), (0, .ref (ad o))] [] := by
  intro jn
  induction jn with
  | zero => intro x1 m_m u hf; cases (show (none : Option (Int32 × (Nat → Int32))) = some u from hf)
  | succ jn ih =>
    intro x1 m_m u hf kx
    unfold f_X10_mostIt_L2 at hf
    refine j_iload_n hX dX10_mostIt_2 rfl 0 rfl ?_
    refine j_aload_n hX dX10_mostIt_3 rfl 1 rfl ?_
    refine j_get hX dX10_mostIt_4 inX10 0 q1455 0 rfl rfl (by decide) rfl rfl ?_
    refine j_iconst hX 4 dX10_mostIt_7 (by decide) ?_
    refine j_iald hX dX10_mostIt_8 1 0 rfl rfl hf (fun c8 hf => ?_)
    refine j_icmp_ge hX 46 dX10_mostIt_9 (by decide) hf (fun c9 hf => ?_) (fun c9 hf => ?_)
    · cases hf
      exact kx _ rfl
    · refine j_aload_n hX dX10_mostIt_12 rfl 1 rfl ?_
      refine j_get hX dX10_mostIt_13 inX10 0 q1455 0 rfl rfl (by decide) rfl rfl ?_
      refine j_iload_n hX dX10_mostIt_16 rfl 0 rfl ?_
      obtain ⟨u1, h2, hf⟩ := jbind hf
      refine j_callS (st := [.ref (ad (o + 1))]) hX (k_X10_requestOf (l := l) (D := D) (t := t) (ad := ad)  x1 u1 h2) q1554 q1555 q15 q1556 (n9 := 1) rfl ⟨by decide +kernel, by decide +kernel⟩ dX10_mostIt_17 (Nat.le_of_ble_eq_true rfl) ⟨Nat.le_refl _, Nat.le_refl _⟩ (fun w : va_W => w ++ (wM t ad o m_m m_aside m_saved m_isSaved m_past m_changes m_errorAt m_failed m_thrown m_input m_inputMany m_fitting m_given m_pairs m_line m_lineMany m_letters m_begins0 m_commands m_commandMany m_place0 m_size0 m_isWrong)) (jFr_r (wM t ad o m_m m_aside m_saved m_isSaved m_past m_changes m_errorAt m_failed m_thrown m_input m_inputMany m_fitting m_given m_pairs m_line m_lineMany m_letters m_begins0 m_commands m_commandMany m_place0 m_size0 m_isWrong)) rfl rfl (fun v w hvw => ?_)
      obtain ⟨rfl, rfl⟩ := hvw
      change J X 0 0 (wM t ad o m_m m_aside m_saved m_isSaved m_past m_changes m_errorAt m_failed m_thrown m_input m_inputMany m_fitting m_given m_pairs m_line m_lineMany m_letters m_begins0 m_commands m_commandMany m_place0 m_size0 m_isWrong) 20 [(1, .int x1), (0, .ref (ad o))] [.int u1, .ref (ad (o + 1))]
      refine j_iconst hX 4 dX10_mostIt_20 (by decide) ?_
      refine j_iadd hX dX10_mostIt_21 ?_
      refine j_iald hX dX10_mostIt_22 1 0 rfl rfl hf (fun c22 hf => ?_)
      refine j_aload_n hX dX10_mostIt_23 rfl 1 rfl ?_
      refine j_get hX dX10_mostIt_24 inX10 0 q1455 0 rfl rfl (by decide) rfl rfl ?_
      refine j_iconst hX 1 dX10_mostIt_27 (by decide) ?_
      refine j_iald hX dX10_mostIt_28 1 0 rfl rfl hf (fun c28 hf => ?_)
      refine j_icmp_gt hX 40 dX10_mostIt_29 (by decide) hf (fun c29 hf => ?_) (fun c29 hf => ?_)
      · refine j_iinc hX (x1 + 1) [(1, .int (x1 + 1)), (0, .ref (ad o))] dX10_mostIt_40 0 rfl rfl (by decide) rfl ?_
        refine j_goto hX 2 dX10_mostIt_43 (by decide) ?_
        exact ih (x1 + 1) m_m u hf kx
      · refine j_aload_n hX dX10_mostIt_32 rfl 1 rfl ?_
        refine j_iload_n hX dX10_mostIt_33 rfl 0 rfl ?_
        obtain ⟨u3, h4, hf⟩ := jbind hf
        refine j_callV (st := []) hX (k_X10_dropsRequest (l := l) (D := D) (t := t) (ad := ad) (o := o) m_m m_aside m_saved m_isSaved m_past m_changes m_errorAt m_failed m_thrown m_input m_inputMany m_fitting m_given m_pairs m_line m_lineMany m_letters m_begins0 m_commands m_commandMany m_place0 m_size0 m_isWrong x1 u3 h4) q1567 q1568 q1964 q15 q1569 (n9 := 1) rfl ⟨by decide +kernel, by decide +kernel⟩ 0 rfl rfl rfl dX10_mostIt_34 (Nat.le_of_ble_eq_true rfl) ⟨Nat.le_refl _, Nat.le_refl _⟩ (fun w : va_W => w) jFr_id rfl rfl (fun v w hvw => ?_)
        obtain ⟨rfl, rfl⟩ := hvw
        change J X 0 0 (wM t ad o u3 m_aside m_saved m_isSaved m_past m_changes m_errorAt m_failed m_thrown m_input m_inputMany m_fitting m_given m_pairs m_line m_lineMany m_letters m_begins0 m_commands m_commandMany m_place0 m_size0 m_isWrong) 37 [(1, .int x1), (0, .ref (ad o))] []
        refine j_goto hX 2 dX10_mostIt_37 (by decide) ?_
        exact ih x1 u3 u hf kx
set_option maxHeartbeats 4000000 in
set_option maxRecDepth 100000 in
theorem k_X10_mostIt_L113 {l : Launch} {D : va_G} {t : Nat → ClassId} {ad : Nat → Nat} {o : Nat} (m_m : Nat → Int32) (m_fitting : Nat → Int32) (x4 : Int32) (x6 : Int32) (x5 : Int32) (x3 : Int32) (x2 : Int32) (m_aside : Nat → Int32) (m_saved : Nat → Int32) (m_isSaved : Int32) (m_past : Nat → Int32) (m_changes : Int32) (m_errorAt : Int32) (m_failed : Int32) (m_thrown : Int32) (m_input : Nat → Int32) (m_inputMany : Int32) (m_pairs : Nat → Int32) (m_line : Nat → Int32) (m_lineMany : Int32) (m_letters : Nat → Int32) (m_begins0 : Nat → Int32) (m_commands : Nat → Int32) (m_commandMany : Int32) (m_place0 : Int32) (m_size0 : Int32) (m_isWrong : Int32) (x1 : Int32) {X : jX} (hX : jOK X l D (jT t) cX10_mostIt RX10 (some FieldType.int) { frames := 5, cells := 0, slots := 0, locals := 114 } 9) :
    ∀ (jn : Nat) (x7 : Int32) (m_given : Nat → Int32) (u : Int32 × (Nat → Int32)) (hf : f_X10_mostIt_L113 m_m m_fitting x4 x6 x5 x3 x2 jn x7 m_given = some u) (kx : ∀ s : Int32 × (Nat → Int32), u = s → J X 0 0 (wM t ad o m_m m_aside m_saved m_isSaved m_past m_changes m_errorAt m_failed m_thrown m_input m_inputMany m_fitting s.2 m_pairs m_line m_lineMany m_letters m_begins0 m_commands m_commandMany m_place0 m_size0 m_isWrong) 203 [(7, .int s.1), (4, .int x4), (6, .int x6), (5, .int x5), (3, .int x3), (2, .int x2), (1, .int x1), (0, .ref (ad o))] []), J X 0 0 (wM t ad o m_m m_aside m_saved m_isSaved m_past m_changes m_errorAt m_failed m_thrown m_input m_inputMany m_fitting m_given m_pairs m_line m_lineMany m_letters m_begins0 m_commands m_commandMany m_place0 m_size0 m_isWrong) 113 [(7, .int x7), (4, .int x4), (6, .int x6), (5, .int x5), (3, .int x3), (2, .int x2), (1, .int x1), (0, .ref (ad o))] [] := by
  intro jn
  induction jn with
  | zero => intro x7 m_given u hf; cases (show (none : Option (Int32 × (Nat → Int32))) = some u from hf)
  | succ jn ih =>
    intro x7 m_given u hf kx
    unfold f_X10_mostIt_L113 at hf
    refine j_iload hX dX10_mostIt_113 0 rfl ?_
    refine j_aload_n hX dX10_mostIt_115 rfl 7 rfl ?_
    refine j_get hX dX10_mostIt_116 inX10 0 q1455 0 rfl rfl (by decide) rfl rfl ?_
    refine j_iconst hX 0 dX10_mostIt_119 (by decide) ?_
    refine j_iald hX dX10_mostIt_120 1 0 rfl rfl hf (fun c120 hf => ?_)
    refine j_icmp_ge hX 203 dX10_mostIt_121 (by decide) hf (fun c121 hf => ?_) (fun c121 hf => ?_)
    · cases hf
      exact kx _ rfl
    · refine j_aload_n hX dX10_mostIt_124 rfl 7 rfl ?_
      refine j_get hX dX10_mostIt_125 inX10 12 q1467 0 rfl rfl (by decide) rfl rfl ?_
      refine j_iload hX dX10_mostIt_128 2 rfl ?_
      refine j_iald hX dX10_mostIt_130 7 0 rfl rfl hf (fun c130 hf => ?_)
      refine j_iconst hX (-1) dX10_mostIt_131 (by decide) ?_
      refine j_icmp_ne hX 203 dX10_mostIt_132 (by decide) hf (fun c132 hf => ?_) (fun c132 hf => ?_)
      · cases hf
        exact kx _ rfl
      · refine j_aload_n hX dX10_mostIt_135 rfl 7 rfl ?_
        refine j_get hX dX10_mostIt_136 inX10 11 q1466 0 rfl rfl (by decide) rfl rfl ?_
        refine j_iload hX dX10_mostIt_139 2 rfl ?_
        refine j_iald hX dX10_mostIt_141 6 0 rfl rfl hf (fun c141 hf => ?_)
        refine j_iload_n hX dX10_mostIt_142 rfl 4 rfl ?_
        refine j_iand hX dX10_mostIt_143 ?_
        refine j_iload hX dX10_mostIt_144 0 rfl ?_
        refine j_ishr hX dX10_mostIt_146 ?_
        refine j_iconst hX 1 dX10_mostIt_147 (by decide) ?_
        refine j_iand hX dX10_mostIt_148 ?_
        refine j_iconst hX 1 dX10_mostIt_149 (by decide) ?_
        refine j_icmp_ne hX 157 dX10_mostIt_150 (by decide) hf (fun c150 hf => ?_) (fun c150 hf => ?_)
        · refine j_iconst hX 0 dX10_mostIt_157 (by decide) ?_
          refine j_istore hX [(8, .int 0), (7, .int x7), (4, .int x4), (6, .int x6), (5, .int x5), (3, .int x3), (2, .int x2), (1, .int x1), (0, .ref (ad o))] dX10_mostIt_158 (by decide) rfl ?_
          refine j_iload hX dX10_mostIt_160 0 rfl ?_
          refine j_if_eq (α := Unit) (F := none) (G := none) (o := none) hX 197 dX10_mostIt_162 (by decide) (ite_self none) (fun c162 _ => ?_) (fun c162 _ => absurd c162 (by decide))
          refine j_iinc hX (x7 + 1) [(7, .int (x7 + 1)), (8, .int 0), (4, .int x4), (6, .int x6), (5, .int x5), (3, .int x3), (2, .int x2), (1, .int x1), (0, .ref (ad o))] dX10_mostIt_197 1 rfl rfl (by decide) rfl ?_
          refine j_goto hX 113 dX10_mostIt_200 (by decide) ?_
          refine j_sub hX [(7, .int (x7 + 1)), (4, .int x4), (6, .int x6), (5, .int x5), (3, .int x3), (2, .int x2), (1, .int x1), (0, .ref (ad o))] [0, 2, 3, 4, 5, 6, 7, 8] rfl ?_
          exact ih (x7 + 1) m_given u hf kx
        · refine j_iconst hX 1 dX10_mostIt_153 (by decide) ?_
          refine j_goto hX 158 dX10_mostIt_154 (by decide) ?_
          refine j_istore hX [(8, .int 1), (7, .int x7), (4, .int x4), (6, .int x6), (5, .int x5), (3, .int x3), (2, .int x2), (1, .int x1), (0, .ref (ad o))] dX10_mostIt_158 (by decide) rfl ?_
          refine j_iload hX dX10_mostIt_160 0 rfl ?_
          refine j_if_eq (α := Unit) (F := none) (G := none) (o := none) hX 197 dX10_mostIt_162 (by decide) (ite_self none) (fun c162 _ => absurd c162 (by decide)) (fun c162 _ => ?_)
          refine j_iload hX dX10_mostIt_165 4 rfl ?_
          refine j_iconst hX 1 dX10_mostIt_167 (by decide) ?_
          refine j_iadd hX dX10_mostIt_168 ?_
          refine j_aload_n hX dX10_mostIt_169 rfl 8 rfl ?_
          refine j_iload hX dX10_mostIt_170 2 rfl ?_
          refine j_iload_n hX dX10_mostIt_172 rfl 5 rfl ?_
          refine j_iconst hX 1 dX10_mostIt_173 (by decide) ?_
          refine j_iload hX dX10_mostIt_174 1 rfl ?_
          refine j_ishl hX dX10_mostIt_176 ?_
          refine j_iconst hX (-1) dX10_mostIt_177 (by decide) ?_
          refine j_ixor hX dX10_mostIt_178 ?_
          refine j_iand hX dX10_mostIt_179 ?_
          obtain ⟨u10, h11, hf⟩ := jbind hf
          refine j_callV (st := [.int (x5 + 1)]) hX (k_X10_most (l := l) (D := D) (t := t) (ad := ad) (o := o) m_m m_aside m_saved m_isSaved m_past m_changes m_errorAt m_failed m_thrown m_input m_inputMany m_fitting m_given m_pairs m_line m_lineMany m_letters m_begins0 m_commands m_commandMany m_place0 m_size0 m_isWrong x4 (x3 &&& (((1 : Int32) <<< (x7 &&& 31)) ^^^ (-1))) u10 h11) q1606 q1607 q1973 q15 q1608 (n9 := 2) rfl ⟨by decide +kernel, by decide +kernel⟩ 0 rfl rfl rfl dX10_mostIt_180 (Nat.le_of_ble_eq_true rfl) ⟨Nat.le_refl _, Nat.le_refl _⟩ (fun w : va_W => w) jFr_id rfl rfl (fun v w hvw => ?_)
          obtain ⟨rfl, rfl⟩ := hvw
          change J X 0 0 (wM t ad o m_m m_aside m_saved m_isSaved m_past m_changes m_errorAt m_failed m_thrown m_input m_inputMany m_fitting m_given m_pairs m_line m_lineMany m_letters m_begins0 m_commands m_commandMany m_place0 m_size0 m_isWrong) 183 [(8, .int 1), (7, .int x7), (4, .int x4), (6, .int x6), (5, .int x5), (3, .int x3), (2, .int x2), (1, .int x1), (0, .ref (ad o))] [.int u10, .int (x5 + 1)]
          refine j_iadd hX dX10_mostIt_183 ?_
          refine j_iload_n hX dX10_mostIt_184 rfl 6 rfl ?_
          refine j_icmp_ne hX 197 dX10_mostIt_185 (by decide) hf (fun c185 hf => ?_) (fun c185 hf => ?_)
          · refine j_iinc hX (x7 + 1) [(7, .int (x7 + 1)), (8, .int 1), (4, .int x4), (6, .int x6), (5, .int x5), (3, .int x3), (2, .int x2), (1, .int x1), (0, .ref (ad o))] dX10_mostIt_197 1 rfl rfl (by decide) rfl ?_
            refine j_goto hX 113 dX10_mostIt_200 (by decide) ?_
            refine j_sub hX [(7, .int (x7 + 1)), (4, .int x4), (6, .int x6), (5, .int x5), (3, .int x3), (2, .int x2), (1, .int x1), (0, .ref (ad o))] [0, 2, 3, 4, 5, 6, 7, 8] rfl ?_
            exact ih (x7 + 1) m_given u hf kx
          · refine j_aload_n hX dX10_mostIt_188 rfl 8 rfl ?_
            refine j_get hX dX10_mostIt_189 inX10 12 q1467 0 rfl rfl (by decide) rfl rfl ?_
            refine j_iload hX dX10_mostIt_192 3 rfl ?_
            refine j_iload hX dX10_mostIt_194 1 rfl ?_
            refine j_iast hX (wM t ad o m_m m_aside m_saved m_isSaved m_past m_changes m_errorAt m_failed m_thrown m_input m_inputMany m_fitting (upd m_given (x6).toNatClampNeg x7) m_pairs m_line m_lineMany m_letters m_begins0 m_commands m_commandMany m_place0 m_size0 m_isWrong) dX10_mostIt_196 7 0 rfl rfl rfl hf (fun c196 hf => ?_)
            refine j_iinc hX (x7 + 1) [(7, .int (x7 + 1)), (8, .int 1), (4, .int x4), (6, .int x6), (5, .int x5), (3, .int x3), (2, .int x2), (1, .int x1), (0, .ref (ad o))] dX10_mostIt_197 1 rfl rfl (by decide) rfl ?_
            refine j_goto hX 113 dX10_mostIt_200 (by decide) ?_
            refine j_sub hX [(7, .int (x7 + 1)), (4, .int x4), (6, .int x6), (5, .int x5), (3, .int x3), (2, .int x2), (1, .int x1), (0, .ref (ad o))] [0, 2, 3, 4, 5, 6, 7, 8] rfl ?_
            exact ih (x7 + 1) (upd m_given (x6).toNatClampNeg x7) u hf kx
set_option maxHeartbeats 4000000 in
set_option maxRecDepth 100000 in
theorem k_X10_mostIt_L80 {l : Launch} {D : va_G} {t : Nat → ClassId} {ad : Nat → Nat} {o : Nat} (m_m : Nat → Int32) (m_fitting : Nat → Int32) (x2 : Int32) (m_aside : Nat → Int32) (m_saved : Nat → Int32) (m_isSaved : Int32) (m_past : Nat → Int32) (m_changes : Int32) (m_errorAt : Int32) (m_failed : Int32) (m_thrown : Int32) (m_input : Nat → Int32) (m_inputMany : Int32) (m_pairs : Nat → Int32) (m_line : Nat → Int32) (m_lineMany : Int32) (m_letters : Nat → Int32) (m_begins0 : Nat → Int32) (m_commands : Nat → Int32) (m_commandMany : Int32) (m_place0 : Int32) (m_size0 : Int32) (m_isWrong : Int32) (x1 : Int32) {X : jX} (hX : jOK X l D (jT t) cX10_mostIt RX10 (some FieldType.int) { frames := 5, cells := 0, slots := 0, locals := 114 } 9) :
    ∀ (jn : Nat) (x6 : Int32) (x5 : Int32) (x4 : Int32) (x3 : Int32) (m_given : Nat → Int32) (u : Int32 × Int32 × Int32 × Int32 × (Nat → Int32)) (hf : f_X10_mostIt_L80 m_m m_fitting x2 jn x6 x5 x4 x3 m_given = some u) (kx : ∀ s : Int32 × Int32 × Int32 × Int32 × (Nat → Int32), u = s → J X 0 0 (wM t ad o m_m m_aside m_saved m_isSaved m_past m_changes m_errorAt m_failed m_thrown m_input m_inputMany m_fitting s.2.2.2.2 m_pairs m_line m_lineMany m_letters m_begins0 m_commands m_commandMany m_place0 m_size0 m_isWrong) 237 [(6, .int s.1), (5, .int s.2.1), (4, .int s.2.2.1), (3, .int s.2.2.2.1), (2, .int x2), (1, .int x1), (0, .ref (ad o))] []), J X 0 0 (wM t ad o m_m m_aside m_saved m_isSaved m_past m_changes m_errorAt m_failed m_thrown m_input m_inputMany m_fitting m_given m_pairs m_line m_lineMany m_letters m_begins0 m_commands m_commandMany m_place0 m_size0 m_isWrong) 80 [(6, .int x6), (5, .int x5), (4, .int x4), (3, .int x3), (2, .int x2), (1, .int x1), (0, .ref (ad o))] [] := by
  intro jn
  induction jn with
  | zero => intro x6 x5 x4 x3 m_given u hf; cases (show (none : Option (Int32 × Int32 × Int32 × Int32 × (Nat → Int32))) = some u from hf)
  | succ jn ih =>
    intro x6 x5 x4 x3 m_given u hf kx
    unfold f_X10_mostIt_L80 at hf
    refine j_iload hX dX10_mostIt_80 0 rfl ?_
    refine j_aload_n hX dX10_mostIt_82 rfl 6 rfl ?_
    refine j_get hX dX10_mostIt_83 inX10 0 q1455 0 rfl rfl (by decide) rfl rfl ?_
    refine j_iconst hX 4 dX10_mostIt_86 (by decide) ?_
    refine j_iald hX dX10_mostIt_87 1 0 rfl rfl hf (fun c87 hf => ?_)
    refine j_icmp_ge hX 237 dX10_mostIt_88 (by decide) hf (fun c88 hf => ?_) (fun c88 hf => ?_)
    · cases hf
      exact kx _ rfl
    · refine j_iload hX dX10_mostIt_91 2 rfl ?_
      refine j_iconst hX 1 dX10_mostIt_93 (by decide) ?_
      refine j_iload hX dX10_mostIt_94 0 rfl ?_
      refine j_ishl hX dX10_mostIt_96 ?_
      refine j_iconst hX (-1) dX10_mostIt_97 (by decide) ?_
      refine j_ixor hX dX10_mostIt_98 ?_
      refine j_iand hX dX10_mostIt_99 ?_
      refine j_istore hX [(4, .int (x4 &&& (((1 : Int32) <<< (x6 &&& 31)) ^^^ (-1)))), (6, .int x6), (5, .int x5), (3, .int x3), (2, .int x2), (1, .int x1), (0, .ref (ad o))] dX10_mostIt_100 (by decide) rfl ?_
      refine j_aload_n hX dX10_mostIt_102 rfl 6 rfl ?_
      refine j_get hX dX10_mostIt_103 inX10 12 q1467 0 rfl rfl (by decide) rfl rfl ?_
      refine j_iload hX dX10_mostIt_106 1 rfl ?_
      refine j_iconst hX (-1) dX10_mostIt_108 (by decide) ?_
      refine j_iast hX (wM t ad o m_m m_aside m_saved m_isSaved m_past m_changes m_errorAt m_failed m_thrown m_input m_inputMany m_fitting (upd m_given (x6).toNatClampNeg (-1)) m_pairs m_line m_lineMany m_letters m_begins0 m_commands m_commandMany m_place0 m_size0 m_isWrong) dX10_mostIt_109 7 0 rfl rfl rfl hf (fun c109 hf => ?_)
      refine j_iconst hX 0 dX10_mostIt_110 (by decide) ?_
      refine j_istore hX [(7, .int 0), (4, .int (x4 &&& (((1 : Int32) <<< (x6 &&& 31)) ^^^ (-1)))), (6, .int x6), (5, .int x5), (3, .int x3), (2, .int x2), (1, .int x1), (0, .ref (ad o))] dX10_mostIt_111 (by decide) rfl ?_
      obtain ⟨s13, h14, hf⟩ := jbind hf
      refine k_X10_mostIt_L113 (ad := ad) m_m m_fitting (x4 &&& (((1 : Int32) <<< (x6 &&& 31)) ^^^ (-1))) x6 x5 x3 x2 m_aside m_saved m_isSaved m_past m_changes m_errorAt m_failed m_thrown m_input m_inputMany m_pairs m_line m_lineMany m_letters m_begins0 m_commands m_commandMany m_place0 m_size0 m_isWrong x1 hX jFU 0 (upd m_given (x6).toNatClampNeg (-1)) s13 h14 (fun s130 es13 => ?_)
      subst es13
      refine j_aload_n hX dX10_mostIt_203 rfl 7 rfl ?_
      refine j_get hX dX10_mostIt_204 inX10 12 q1467 0 rfl rfl (by decide) rfl rfl ?_
      refine j_iload hX dX10_mostIt_207 2 rfl ?_
      refine j_iald hX dX10_mostIt_209 7 0 rfl rfl hf (fun c209 hf => ?_)
      refine j_iconst hX (-1) dX10_mostIt_210 (by decide) ?_
      refine j_icmp_eq hX 231 dX10_mostIt_211 (by decide) hf (fun c211 hf => ?_) (fun c211 hf => ?_)
      · refine j_iinc hX (x6 + 1) [(6, .int (x6 + 1)), (7, .int s13.1), (4, .int (x4 &&& (((1 : Int32) <<< (x6 &&& 31)) ^^^ (-1)))), (5, .int x5), (3, .int x3), (2, .int x2), (1, .int x1), (0, .ref (ad o))] dX10_mostIt_231 2 rfl rfl (by decide) rfl ?_
        refine j_goto hX 80 dX10_mostIt_234 (by decide) ?_
        refine j_sub hX [(6, .int (x6 + 1)), (5, .int x5), (4, .int (x4 &&& (((1 : Int32) <<< (x6 &&& 31)) ^^^ (-1)))), (3, .int x3), (2, .int x2), (1, .int x1), (0, .ref (ad o))] [0, 3, 2, 4, 5, 6, 7] rfl ?_
        exact ih (x6 + 1) x5 (x4 &&& (((1 : Int32) <<< (x6 &&& 31)) ^^^ (-1))) x3 s13.2 u hf kx
      · refine j_iload_n hX dX10_mostIt_214 rfl 4 rfl ?_
        refine j_iconst hX 1 dX10_mostIt_215 (by decide) ?_
        refine j_aload_n hX dX10_mostIt_216 rfl 7 rfl ?_
        refine j_get hX dX10_mostIt_217 inX10 12 q1467 0 rfl rfl (by decide) rfl rfl ?_
        refine j_iload hX dX10_mostIt_220 2 rfl ?_
        refine j_iald hX dX10_mostIt_222 7 0 rfl rfl hf (fun c222 hf => ?_)
        refine j_ishl hX dX10_mostIt_223 ?_
        refine j_iconst hX (-1) dX10_mostIt_224 (by decide) ?_
        refine j_ixor hX dX10_mostIt_225 ?_
        refine j_iand hX dX10_mostIt_226 ?_
        refine j_let hX hf (fun y227_14 ey227_14 hf => ?_)
        refine j_istore_n hX [(3, .int y227_14), (7, .int s13.1), (4, .int (x4 &&& (((1 : Int32) <<< (x6 &&& 31)) ^^^ (-1)))), (6, .int x6), (5, .int x5), (2, .int x2), (1, .int x1), (0, .ref (ad o))] dX10_mostIt_227 rfl (by decide) rfl ?_
        refine j_iinc hX (x5 + 1) [(5, .int (x5 + 1)), (3, .int y227_14), (7, .int s13.1), (4, .int (x4 &&& (((1 : Int32) <<< (x6 &&& 31)) ^^^ (-1)))), (6, .int x6), (2, .int x2), (1, .int x1), (0, .ref (ad o))] dX10_mostIt_228 4 rfl rfl (by decide) rfl ?_
        refine j_iinc hX (x6 + 1) [(6, .int (x6 + 1)), (5, .int (x5 + 1)), (3, .int y227_14), (7, .int s13.1), (4, .int (x4 &&& (((1 : Int32) <<< (x6 &&& 31)) ^^^ (-1)))), (2, .int x2), (1, .int x1), (0, .ref (ad o))] dX10_mostIt_231 4 rfl rfl (by decide) rfl ?_
        refine j_goto hX 80 dX10_mostIt_234 (by decide) ?_
        refine j_sub hX [(6, .int (x6 + 1)), (5, .int (x5 + 1)), (4, .int (x4 &&& (((1 : Int32) <<< (x6 &&& 31)) ^^^ (-1)))), (3, .int y227_14), (2, .int x2), (1, .int x1), (0, .ref (ad o))] [0, 1, 4, 2, 5, 6, 7] rfl ?_
        exact ih (x6 + 1) (x5 + 1) (x4 &&& (((1 : Int32) <<< (x6 &&& 31)) ^^^ (-1))) y227_14 s13.2 u hf kx
set_option maxHeartbeats 4000000 in
set_option maxRecDepth 100000 in
theorem k_X10_mostIt {l : Launch} {D : va_G} {t : Nat → ClassId} {ad : Nat → Nat} {o : Nat} (m_m : Nat → Int32) (m_aside : Nat → Int32) (m_saved : Nat → Int32) (m_isSaved : Int32) (m_past : Nat → Int32) (m_changes : Int32) (m_errorAt : Int32) (m_failed : Int32) (m_thrown : Int32) (m_input : Nat → Int32) (m_inputMany : Int32) (m_fitting : Nat → Int32) (m_given : Nat → Int32) (m_pairs : Nat → Int32) (m_line : Nat → Int32) (m_lineMany : Int32) (m_letters : Nat → Int32) (m_begins0 : Nat → Int32) (m_commands : Nat → Int32) (m_commandMany : Int32) (m_place0 : Int32) (m_size0 : Int32) (m_isWrong : Int32)  (u : Int32 × (Nat → Int32) × (Nat → Int32) × (Nat → Int32)) (hf : f_X10_mostIt m_m m_fitting m_given = some u) : cm l D (jT t) yX10_mostIt cX10_mostIt 9 (some FieldType.int) { frames := 5, cells := 0, slots := 0, locals := 114 } [.ref (ad o)] (wM t ad o m_m m_aside m_saved m_isSaved m_past m_changes m_errorAt m_failed m_thrown m_input m_inputMany m_fitting m_given m_pairs m_line m_lineMany m_letters m_begins0 m_commands m_commandMany m_place0 m_size0 m_isWrong) (fun v w => v = (some (.int u.1)) ∧ w = wM t ad o u.2.1 m_aside m_saved m_isSaved m_past m_changes m_errorAt m_failed m_thrown m_input m_inputMany u.2.2.1 u.2.2.2 m_pairs m_line m_lineMany m_letters m_begins0 m_commands m_commandMany m_place0 m_size0 m_isWrong) := by
  refine cm_of RX10 rfl (by decide +kernel) (Nat.le_of_ble_eq_true rfl) (fun X hX hE => ?_)
  change J X 0 0 (wM t ad o m_m m_aside m_saved m_isSaved m_past m_changes m_errorAt m_failed m_thrown m_input m_inputMany m_fitting m_given m_pairs m_line m_lineMany m_letters m_begins0 m_commands m_commandMany m_place0 m_size0 m_isWrong) 0 [(0, .ref (ad o))] []
  unfold f_X10_mostIt at hf
  refine j_iconst hX 0 dX10_mostIt_0 (by decide) ?_
  refine j_istore_n hX [(1, .int 0), (0, .ref (ad o))] dX10_mostIt_1 rfl (by decide) rfl ?_
  obtain ⟨s6, h7, hf⟩ := jbind hf
  refine k_X10_mostIt_L2 (ad := ad)  m_aside m_saved m_isSaved m_past m_changes m_errorAt m_failed m_thrown m_input m_inputMany m_fitting m_given m_pairs m_line m_lineMany m_letters m_begins0 m_commands m_commandMany m_place0 m_size0 m_isWrong hX jFU 0 m_m s6 h7 (fun s60 es6 => ?_)
  subst es6
  refine j_aload_n hX dX10_mostIt_46 rfl 1 rfl ?_
  obtain ⟨u8, h9, hf⟩ := jbind hf
  refine j_callV (st := []) hX (k_X10_mostNow (l := l) (D := D) (t := t) (ad := ad) (o := o) s6.2 m_aside m_saved m_isSaved m_past m_changes m_errorAt m_failed m_thrown m_input m_inputMany m_fitting m_given m_pairs m_line m_lineMany m_letters m_begins0 m_commands m_commandMany m_place0 m_size0 m_isWrong  u8 h9) q1600 q1601 q1971 q15 q1602 (n9 := 0) rfl ⟨by decide +kernel, by decide +kernel⟩ 0 rfl rfl rfl dX10_mostIt_47 (Nat.le_of_ble_eq_true rfl) ⟨Nat.le_refl _, Nat.le_refl _⟩ (fun w : va_W => w) jFr_id rfl rfl (fun v w hvw => ?_)
  obtain ⟨rfl, rfl⟩ := hvw
  change J X 0 0 (wM t ad o s6.2 m_aside m_saved m_isSaved m_past m_changes m_errorAt m_failed m_thrown m_input m_inputMany u8.2 m_given m_pairs m_line m_lineMany m_letters m_begins0 m_commands m_commandMany m_place0 m_size0 m_isWrong) 50 [(1, .int s6.1), (0, .ref (ad o))] [.int u8.1]
  refine j_istore_n hX [(2, .int u8.1), (1, .int s6.1), (0, .ref (ad o))] dX10_mostIt_50 rfl (by decide) rfl ?_
  refine j_iconst hX 1 dX10_mostIt_51 (by decide) ?_
  refine j_aload_n hX dX10_mostIt_52 rfl 2 rfl ?_
  refine j_get hX dX10_mostIt_53 inX10 0 q1455 0 rfl rfl (by decide) rfl rfl ?_
  refine j_iconst hX 0 dX10_mostIt_56 (by decide) ?_
  refine j_iald hX dX10_mostIt_57 1 0 rfl rfl hf (fun c57 hf => ?_)
  refine j_ishl hX dX10_mostIt_58 ?_
  refine j_iconst hX 1 dX10_mostIt_59 (by decide) ?_
  refine j_isub hX dX10_mostIt_60 ?_
  refine j_istore_n hX [(3, .int (((1 : Int32) <<< ((s6.2 (0 : Int32).toNatClampNeg) &&& 31)) - 1)), (2, .int u8.1), (1, .int s6.1), (0, .ref (ad o))] dX10_mostIt_61 rfl (by decide) rfl ?_
  refine j_iconst hX 1 dX10_mostIt_62 (by decide) ?_
  refine j_aload_n hX dX10_mostIt_63 rfl 3 rfl ?_
  refine j_get hX dX10_mostIt_64 inX10 0 q1455 0 rfl rfl (by decide) rfl rfl ?_
  refine j_iconst hX 4 dX10_mostIt_67 (by decide) ?_
  refine j_iald hX dX10_mostIt_68 1 0 rfl rfl hf (fun c68 hf => ?_)
  refine j_ishl hX dX10_mostIt_69 ?_
  refine j_iconst hX 1 dX10_mostIt_70 (by decide) ?_
  refine j_isub hX dX10_mostIt_71 ?_
  refine j_istore hX [(4, .int (((1 : Int32) <<< ((s6.2 (4 : Int32).toNatClampNeg) &&& 31)) - 1)), (3, .int (((1 : Int32) <<< ((s6.2 (0 : Int32).toNatClampNeg) &&& 31)) - 1)), (2, .int u8.1), (1, .int s6.1), (0, .ref (ad o))] dX10_mostIt_72 (by decide) rfl ?_
  refine j_iconst hX 0 dX10_mostIt_74 (by decide) ?_
  refine j_istore hX [(5, .int 0), (4, .int (((1 : Int32) <<< ((s6.2 (4 : Int32).toNatClampNeg) &&& 31)) - 1)), (3, .int (((1 : Int32) <<< ((s6.2 (0 : Int32).toNatClampNeg) &&& 31)) - 1)), (2, .int u8.1), (1, .int s6.1), (0, .ref (ad o))] dX10_mostIt_75 (by decide) rfl ?_
  refine j_iconst hX 0 dX10_mostIt_77 (by decide) ?_
  refine j_istore hX [(6, .int 0), (5, .int 0), (4, .int (((1 : Int32) <<< ((s6.2 (4 : Int32).toNatClampNeg) &&& 31)) - 1)), (3, .int (((1 : Int32) <<< ((s6.2 (0 : Int32).toNatClampNeg) &&& 31)) - 1)), (2, .int u8.1), (1, .int s6.1), (0, .ref (ad o))] dX10_mostIt_78 (by decide) rfl ?_
  obtain ⟨s17, h18, hf⟩ := jbind hf
  refine k_X10_mostIt_L80 (ad := ad) s6.2 u8.2 u8.1 m_aside m_saved m_isSaved m_past m_changes m_errorAt m_failed m_thrown m_input m_inputMany m_pairs m_line m_lineMany m_letters m_begins0 m_commands m_commandMany m_place0 m_size0 m_isWrong s6.1 hX jFU 0 0 (((1 : Int32) <<< ((s6.2 (4 : Int32).toNatClampNeg) &&& 31)) - 1) (((1 : Int32) <<< ((s6.2 (0 : Int32).toNatClampNeg) &&& 31)) - 1) m_given s17 h18 (fun s170 es17 => ?_)
  subst es17
  refine j_aload_n hX dX10_mostIt_237 rfl 6 rfl ?_
  obtain ⟨u19, h20, hf⟩ := jbind hf
  refine j_callV (st := []) hX (k_X10_grantsGiven (l := l) (D := D) (t := t) (ad := ad) (o := o) s6.2 m_aside m_saved m_isSaved m_past m_changes m_errorAt m_failed m_thrown m_input m_inputMany u8.2 s17.2.2.2.2 m_pairs m_line m_lineMany m_letters m_begins0 m_commands m_commandMany m_place0 m_size0 m_isWrong  u19 h20) q1613 q1614 q1974 q15 q1615 (n9 := 0) rfl ⟨by decide +kernel, by decide +kernel⟩ 0 rfl rfl rfl dX10_mostIt_238 (Nat.le_of_ble_eq_true rfl) ⟨Nat.le_refl _, Nat.le_refl _⟩ (fun w : va_W => w) jFr_id rfl rfl (fun v w hvw => ?_)
  obtain ⟨rfl, rfl⟩ := hvw
  change J X 0 0 (wM t ad o u19 m_aside m_saved m_isSaved m_past m_changes m_errorAt m_failed m_thrown m_input m_inputMany u8.2 s17.2.2.2.2 m_pairs m_line m_lineMany m_letters m_begins0 m_commands m_commandMany m_place0 m_size0 m_isWrong) 241 [(6, .int s17.1), (5, .int s17.2.1), (4, .int s17.2.2.1), (3, .int s17.2.2.2.1), (2, .int u8.1), (1, .int s6.1), (0, .ref (ad o))] []
  refine j_iload hX dX10_mostIt_241 1 rfl ?_
  cases hf
  exact j_iret hX hE dX10_mostIt_243 (Nat.le_refl _) (Nat.le_refl _) ⟨rfl, rfl⟩
-- HammerDepotModel grantMost ()I
def f_X10_grantMost (m_m : Nat → Int32) (m_aside : Nat → Int32) (m_past : Nat → Int32) (m_changes : Int32) (m_thrown : Int32) (m_fitting : Nat → Int32) (m_given : Nat → Int32) : Option (Int32 × (Nat → Int32) × (Nat → Int32) × (Nat → Int32) × Int32 × Int32 × (Nat → Int32) × (Nat → Int32)) :=
  Option.bind (f_X10_starts m_m m_aside m_thrown) (fun u1 =>
    Option.bind (f_X10_mostIt m_m m_fitting m_given) (fun u3 =>
      Option.bind (f_X10_changed u1.1 m_past m_changes u1.2 u3.1) (fun u5 =>
        some (u5.1, u3.2.1, u1.1, u5.2.1, u5.2.2, u1.2, u3.2.2.1, u3.2.2.2))))
set_option maxHeartbeats 4000000 in
set_option maxRecDepth 100000 in
theorem k_X10_grantMost {l : Launch} {D : va_G} {t : Nat → ClassId} {ad : Nat → Nat} {o : Nat} (m_m : Nat → Int32) (m_aside : Nat → Int32) (m_saved : Nat → Int32) (m_isSaved : Int32) (m_past : Nat → Int32) (m_changes : Int32) (m_errorAt : Int32) (m_failed : Int32) (m_thrown : Int32) (m_input : Nat → Int32) (m_inputMany : Int32) (m_fitting : Nat → Int32) (m_given : Nat → Int32) (m_pairs : Nat → Int32) (m_line : Nat → Int32) (m_lineMany : Int32) (m_letters : Nat → Int32) (m_begins0 : Nat → Int32) (m_commands : Nat → Int32) (m_commandMany : Int32) (m_place0 : Int32) (m_size0 : Int32) (m_isWrong : Int32)  (u : Int32 × (Nat → Int32) × (Nat → Int32) × (Nat → Int32) × Int32 × Int32 × (Nat → Int32) × (Nat → Int32)) (hf : f_X10_grantMost m_m m_aside m_past m_changes m_thrown m_fitting m_given = some u) : cm l D (jT t) yX10_grantMost cX10_grantMost 1 (some FieldType.int) { frames := 6, cells := 0, slots := 0, locals := 142 } [.ref (ad o)] (wM t ad o m_m m_aside m_saved m_isSaved m_past m_changes m_errorAt m_failed m_thrown m_input m_inputMany m_fitting m_given m_pairs m_line m_lineMany m_letters m_begins0 m_commands m_commandMany m_place0 m_size0 m_isWrong) (fun v w => v = (some (.int u.1)) ∧ w = wM t ad o u.2.1 u.2.2.1 m_saved m_isSaved u.2.2.2.1 u.2.2.2.2.1 m_errorAt m_failed u.2.2.2.2.2.1 m_input m_inputMany u.2.2.2.2.2.2.1 u.2.2.2.2.2.2.2 m_pairs m_line m_lineMany m_letters m_begins0 m_commands m_commandMany m_place0 m_size0 m_isWrong) := by
  refine cm_of RX10 rfl (by decide +kernel) (Nat.le_of_ble_eq_true rfl) (fun X hX hE => ?_)
  change J X 0 0 (wM t ad o m_m m_aside m_saved m_isSaved m_past m_changes m_errorAt m_failed m_thrown m_input m_inputMany m_fitting m_given m_pairs m_line m_lineMany m_letters m_begins0 m_commands m_commandMany m_place0 m_size0 m_isWrong) 0 [(0, .ref (ad o))] []
  unfold f_X10_grantMost at hf
  refine j_aload_n hX dX10_grantMost_0 rfl 0 rfl ?_
  obtain ⟨u1, h2, hf⟩ := jbind hf
  refine j_callV (st := []) hX (k_X10_starts (l := l) (D := D) (t := t) (ad := ad) (o := o) m_m m_aside m_saved m_isSaved m_past m_changes m_errorAt m_failed m_thrown m_input m_inputMany m_fitting m_given m_pairs m_line m_lineMany m_letters m_begins0 m_commands m_commandMany m_place0 m_size0 m_isWrong  u1 h2) q1486 q1487 q1949 q15 q1488 (n9 := 0) rfl ⟨by decide +kernel, by decide +kernel⟩ 0 rfl rfl rfl dX10_grantMost_1 (Nat.le_of_ble_eq_true rfl) ⟨Nat.le_refl _, Nat.le_refl _⟩ (fun w : va_W => w) jFr_id rfl rfl (fun v w hvw => ?_)
  obtain ⟨rfl, rfl⟩ := hvw
  change J X 0 0 (wM t ad o m_m u1.1 m_saved m_isSaved m_past m_changes m_errorAt m_failed u1.2 m_input m_inputMany m_fitting m_given m_pairs m_line m_lineMany m_letters m_begins0 m_commands m_commandMany m_place0 m_size0 m_isWrong) 4 [(0, .ref (ad o))] []
  refine j_aload_n hX dX10_grantMost_4 rfl 0 rfl ?_
  refine j_aload_n hX dX10_grantMost_5 rfl 0 rfl ?_
  obtain ⟨u3, h4, hf⟩ := jbind hf
  refine j_callV (st := [.ref (ad o)]) hX (k_X10_mostIt (l := l) (D := D) (t := t) (ad := ad) (o := o) m_m u1.1 m_saved m_isSaved m_past m_changes m_errorAt m_failed u1.2 m_input m_inputMany m_fitting m_given m_pairs m_line m_lineMany m_letters m_begins0 m_commands m_commandMany m_place0 m_size0 m_isWrong  u3 h4) q1597 q1598 q1970 q15 q1599 (n9 := 0) rfl ⟨by decide +kernel, by decide +kernel⟩ 0 rfl rfl rfl dX10_grantMost_6 (Nat.le_of_ble_eq_true rfl) ⟨Nat.le_refl _, Nat.le_refl _⟩ (fun w : va_W => w) jFr_id rfl rfl (fun v w hvw => ?_)
  obtain ⟨rfl, rfl⟩ := hvw
  change J X 0 0 (wM t ad o u3.2.1 u1.1 m_saved m_isSaved m_past m_changes m_errorAt m_failed u1.2 m_input m_inputMany u3.2.2.1 u3.2.2.2 m_pairs m_line m_lineMany m_letters m_begins0 m_commands m_commandMany m_place0 m_size0 m_isWrong) 9 [(0, .ref (ad o))] [.int u3.1, .ref (ad o)]
  obtain ⟨u5, h6, hf⟩ := jbind hf
  refine j_callV (st := []) hX (k_X10_changed (l := l) (D := D) (t := t) (ad := ad) (o := o) u3.2.1 u1.1 m_saved m_isSaved m_past m_changes m_errorAt m_failed u1.2 m_input m_inputMany u3.2.2.1 u3.2.2.2 m_pairs m_line m_lineMany m_letters m_begins0 m_commands m_commandMany m_place0 m_size0 m_isWrong u3.1 u5 h6) q1512 q1513 q1954 q15 q1514 (n9 := 1) rfl ⟨by decide +kernel, by decide +kernel⟩ 0 rfl rfl rfl dX10_grantMost_9 (Nat.le_of_ble_eq_true rfl) ⟨Nat.le_refl _, Nat.le_refl _⟩ (fun w : va_W => w) jFr_id rfl rfl (fun v w hvw => ?_)
  obtain ⟨rfl, rfl⟩ := hvw
  change J X 0 0 (wM t ad o u3.2.1 u1.1 m_saved m_isSaved u5.2.1 u5.2.2 m_errorAt m_failed u1.2 m_input m_inputMany u3.2.2.1 u3.2.2.2 m_pairs m_line m_lineMany m_letters m_begins0 m_commands m_commandMany m_place0 m_size0 m_isWrong) 12 [(0, .ref (ad o))] [.int u5.1]
  cases hf
  exact j_iret hX hE dX10_grantMost_12 (Nat.le_refl _) (Nat.le_refl _) ⟨rfl, rfl⟩
-- HammerDepotModel backIt (III)I
def f_X10_backIt (m_m : Nat → Int32) (m_thrown : Int32) (a0 : Int32) (a1 : Int32) (a2 : Int32) : Option (Int32 × (Nat → Int32) × Int32) :=
  Option.bind (f_X10_isHammer m_m a0) (fun u1 =>
    if u1 = 0 then
      Option.bind (f_X10_throwing m_thrown 1) (fun u3 =>
        some (u3.1, m_m, u3.2))
    else
      Option.bind (f_X10_isRack a2) (fun u5 =>
        if u5 = 0 then
          Option.bind (f_X10_throwing m_thrown 1) (fun u21 =>
            some (u21.1, m_m, u21.2))
        else
          Option.bind (f_X10_in ((a1).toInt64) (0 : Int64) (999 : Int64)) (fun u7 =>
            if u7 = 0 then
              Option.bind (f_X10_throwing m_thrown 2) (fun u19 =>
                some (u19.1, m_m, u19.2))
            else
              Option.bind (f_X10_hammerOf a0) (fun u9 =>
                if jin (u9 + 2) 2048 = true then
                  if (m_m (u9 + 2).toNatClampNeg) = (-1) then
                    Option.bind (f_X10_freePlace m_m a2) (fun u13 =>
                      if u13 = (-1) then
                        Option.bind (f_X10_throwing m_thrown 3) (fun u17 =>
                          some (u17.1, m_m, u17.2))
                      else
                        Option.bind (f_X10_freePlace m_m a2) (fun u15 =>
                          if jin 2 2048 = true then
                            if jin 1 2048 = true then
                              if jin (u9 + 5) 2048 = true then
                                if jin 2 2048 = true then
                                  if jin (u9 + 1) 2048 = true then
                                    if jin (u9 + 1) 2048 = true then
                                      if jin (u9 + 2) 2048 = true then
                                        if jin (u9 + 3) 2048 = true then
                                          if jin (u9 + 4) 2048 = true then
                                            if jin (u9 + 5) 2048 = true then
                                              if jin (u9 + 1) 2048 = true then
                                                some ((upd (upd (upd (upd (upd (upd m_m (2 : Int32).toNatClampNeg ((m_m (2 : Int32).toNatClampNeg) + ((2 : Int32) * (jmax (0 : Int32) ((m_m (1 : Int32).toNatClampNeg) - (m_m (u9 + 5).toNatClampNeg)))))) (u9 + 1).toNatClampNeg (jmin (100 : Int32) (((upd m_m (2 : Int32).toNatClampNeg ((m_m (2 : Int32).toNatClampNeg) + ((2 : Int32) * (jmax (0 : Int32) ((m_m (1 : Int32).toNatClampNeg) - (m_m (u9 + 5).toNatClampNeg)))))) (u9 + 1).toNatClampNeg) + (a1 / 10)))) (u9 + 2).toNatClampNeg a2) (u9 + 3).toNatClampNeg u15) (u9 + 4).toNatClampNeg 0) (u9 + 5).toNatClampNeg 0) (u9 + 1).toNatClampNeg, upd (upd (upd (upd (upd (upd m_m (2 : Int32).toNatClampNeg ((m_m (2 : Int32).toNatClampNeg) + ((2 : Int32) * (jmax (0 : Int32) ((m_m (1 : Int32).toNatClampNeg) - (m_m (u9 + 5).toNatClampNeg)))))) (u9 + 1).toNatClampNeg (jmin (100 : Int32) (((upd m_m (2 : Int32).toNatClampNeg ((m_m (2 : Int32).toNatClampNeg) + ((2 : Int32) * (jmax (0 : Int32) ((m_m (1 : Int32).toNatClampNeg) - (m_m (u9 + 5).toNatClampNeg)))))) (u9 + 1).toNatClampNeg) + (a1 / 10)))) (u9 + 2).toNatClampNeg a2) (u9 + 3).toNatClampNeg u15) (u9 + 4).toNatClampNeg 0) (u9 + 5).toNatClampNeg 0, m_thrown)
                                              else none
                                            else none
                                          else none
                                        else none
                                      else none
                                    else none
                                  else none
                                else none
                              else none
                            else none
                          else none))
                  else
                    Option.bind (f_X10_throwing m_thrown 3) (fun u11 =>
                      some (u11.1, m_m, u11.2))
                else none))))
set_option maxHeartbeats 4000000 in
set_option maxRecDepth 100000 in
theorem k_X10_backIt {l : Launch} {D : va_G} {t : Nat → ClassId} {ad : Nat → Nat} {o : Nat} (m_m : Nat → Int32) (m_aside : Nat → Int32) (m_saved : Nat → Int32) (m_isSaved : Int32) (m_past : Nat → Int32) (m_changes : Int32) (m_errorAt : Int32) (m_failed : Int32) (m_thrown : Int32) (m_input : Nat → Int32) (m_inputMany : Int32) (m_fitting : Nat → Int32) (m_given : Nat → Int32) (m_pairs : Nat → Int32) (m_line : Nat → Int32) (m_lineMany : Int32) (m_letters : Nat → Int32) (m_begins0 : Nat → Int32) (m_commands : Nat → Int32) (m_commandMany : Int32) (m_place0 : Int32) (m_size0 : Int32) (m_isWrong : Int32) (a0 : Int32) (a1 : Int32) (a2 : Int32) (u : Int32 × (Nat → Int32) × Int32) (hf : f_X10_backIt m_m m_thrown a0 a1 a2 = some u) : cm l D (jT t) yX10_backIt cX10_backIt 6 (some FieldType.int) { frames := 3, cells := 0, slots := 0, locals := 65 } [.ref (ad o), .int a0, .int a1, .int a2] (wM t ad o m_m m_aside m_saved m_isSaved m_past m_changes m_errorAt m_failed m_thrown m_input m_inputMany m_fitting m_given m_pairs m_line m_lineMany m_letters m_begins0 m_commands m_commandMany m_place0 m_size0 m_isWrong) (fun v w => v = (some (.int u.1)) ∧ w = wM t ad o u.2.1 m_aside m_saved m_isSaved m_past m_changes m_errorAt m_failed u.2.2 m_input m_inputMany m_fitting m_given m_pairs m_line m_lineMany m_letters m_begins0 m_commands m_commandMany m_place0 m_size0 m_isWrong) := by
  refine cm_of RX10 rfl (by decide +kernel) (Nat.le_of_ble_eq_true rfl) (fun X hX hE => ?_)
  change J X 0 0 (wM t ad o m_m m_aside m_saved m_isSaved m_past m_changes m_errorAt m_failed m_thrown m_input m_inputMany m_fitting m_given m_pairs m_line m_lineMany m_letters m_begins0 m_commands m_commandMany m_place0 m_size0 m_isWrong) 0 [(0, .ref (ad o)), (1, .int a0), (2, .int a1), (3, .int a2)] []
  unfold f_X10_backIt at hf
  refine j_aload_n hX dX10_backIt_0 rfl 0 rfl ?_
  refine j_iload_n hX dX10_backIt_1 rfl 1 rfl ?_
  obtain ⟨u1, h2, hf⟩ := jbind hf
  refine j_callV (st := []) hX (k_X10_isHammer (l := l) (D := D) (t := t) (ad := ad) (o := o) m_m m_aside m_saved m_isSaved m_past m_changes m_errorAt m_failed m_thrown m_input m_inputMany m_fitting m_given m_pairs m_line m_lineMany m_letters m_begins0 m_commands m_commandMany m_place0 m_size0 m_isWrong a0 u1 h2) q1522 q1523 q1956 q15 q1524 (n9 := 1) rfl ⟨by decide +kernel, by decide +kernel⟩ 0 rfl rfl rfl dX10_backIt_2 (Nat.le_of_ble_eq_true rfl) ⟨Nat.le_refl _, Nat.le_refl _⟩ (fun w : va_W => w) jFr_id rfl rfl (fun v w hvw => ?_)
  obtain ⟨rfl, rfl⟩ := hvw
  change J X 0 0 (wM t ad o m_m m_aside m_saved m_isSaved m_past m_changes m_errorAt m_failed m_thrown m_input m_inputMany m_fitting m_given m_pairs m_line m_lineMany m_letters m_begins0 m_commands m_commandMany m_place0 m_size0 m_isWrong) 5 [(0, .ref (ad o)), (1, .int a0), (2, .int a1), (3, .int a2)] [.int u1]
  refine j_if_eq hX 15 dX10_backIt_5 (by decide) hf (fun c5 hf => ?_) (fun c5 hf => ?_)
  · refine j_aload_n hX dX10_backIt_15 rfl 0 rfl ?_
    refine j_iconst hX 1 dX10_backIt_16 (by decide) ?_
    obtain ⟨u3, h4, hf⟩ := jbind hf
    refine j_callV (st := []) hX (k_X10_throwing (l := l) (D := D) (t := t) (ad := ad) (o := o) m_m m_aside m_saved m_isSaved m_past m_changes m_errorAt m_failed m_thrown m_input m_inputMany m_fitting m_given m_pairs m_line m_lineMany m_letters m_begins0 m_commands m_commandMany m_place0 m_size0 m_isWrong 1 u3 h4) q1496 q1497 q1951 q15 q1498 (n9 := 1) rfl ⟨by decide +kernel, by decide +kernel⟩ 0 rfl rfl rfl dX10_backIt_17 (Nat.le_of_ble_eq_true rfl) ⟨Nat.le_refl _, Nat.le_refl _⟩ (fun w : va_W => w) jFr_id rfl rfl (fun v w hvw => ?_)
    obtain ⟨rfl, rfl⟩ := hvw
    change J X 0 0 (wM t ad o m_m m_aside m_saved m_isSaved m_past m_changes m_errorAt m_failed u3.2 m_input m_inputMany m_fitting m_given m_pairs m_line m_lineMany m_letters m_begins0 m_commands m_commandMany m_place0 m_size0 m_isWrong) 20 [(0, .ref (ad o)), (1, .int a0), (2, .int a1), (3, .int a2)] [.int u3.1]
    cases hf
    exact j_iret hX hE dX10_backIt_20 (Nat.le_refl _) (Nat.le_refl _) ⟨rfl, rfl⟩
  · refine j_iload_n hX dX10_backIt_8 rfl 3 rfl ?_
    obtain ⟨u5, h6, hf⟩ := jbind hf
    refine j_callS (st := []) hX (k_X10_isRack (l := l) (D := D) (t := t) (ad := ad)  a2 u5 h6) q1499 q1500 q15 q1501 (n9 := 1) rfl ⟨by decide +kernel, by decide +kernel⟩ dX10_backIt_9 (Nat.le_of_ble_eq_true rfl) ⟨Nat.le_refl _, Nat.le_refl _⟩ (fun w : va_W => w ++ (wM t ad o m_m m_aside m_saved m_isSaved m_past m_changes m_errorAt m_failed m_thrown m_input m_inputMany m_fitting m_given m_pairs m_line m_lineMany m_letters m_begins0 m_commands m_commandMany m_place0 m_size0 m_isWrong)) (jFr_r (wM t ad o m_m m_aside m_saved m_isSaved m_past m_changes m_errorAt m_failed m_thrown m_input m_inputMany m_fitting m_given m_pairs m_line m_lineMany m_letters m_begins0 m_commands m_commandMany m_place0 m_size0 m_isWrong)) rfl rfl (fun v w hvw => ?_)
    obtain ⟨rfl, rfl⟩ := hvw
    change J X 0 0 (wM t ad o m_m m_aside m_saved m_isSaved m_past m_changes m_errorAt m_failed m_thrown m_input m_inputMany m_fitting m_given m_pairs m_line m_lineMany m_letters m_begins0 m_commands m_commandMany m_place0 m_size0 m_isWrong) 12 [(0, .ref (ad o)), (1, .int a0), (2, .int a1), (3, .int a2)] [.int u5]
    refine j_if_ne hX 21 dX10_backIt_12 (by decide) hf (fun c12 hf => ?_) (fun c12 hf => ?_)
    · refine j_iload_n hX dX10_backIt_21 rfl 2 rfl ?_
      refine j_i2l hX dX10_backIt_22 ?_
      refine j_lconst hX 0 dX10_backIt_23 (by decide) ?_
      refine j_ldc2 hX q1623 dX10_backIt_24 ?_
      obtain ⟨u7, h8, hf⟩ := jbind hf
      refine j_callS (st := []) hX (k_X10_in (l := l) (D := D) (t := t) (ad := ad)  ((a1).toInt64) (0 : Int64) (999 : Int64) u7 h8) q1493 q1494 q15 q1495 (n9 := 3) rfl ⟨by decide +kernel, by decide +kernel⟩ dX10_backIt_27 (Nat.le_of_ble_eq_true rfl) ⟨Nat.le_refl _, Nat.le_refl _⟩ (fun w : va_W => w ++ (wM t ad o m_m m_aside m_saved m_isSaved m_past m_changes m_errorAt m_failed m_thrown m_input m_inputMany m_fitting m_given m_pairs m_line m_lineMany m_letters m_begins0 m_commands m_commandMany m_place0 m_size0 m_isWrong)) (jFr_r (wM t ad o m_m m_aside m_saved m_isSaved m_past m_changes m_errorAt m_failed m_thrown m_input m_inputMany m_fitting m_given m_pairs m_line m_lineMany m_letters m_begins0 m_commands m_commandMany m_place0 m_size0 m_isWrong)) rfl rfl (fun v w hvw => ?_)
      obtain ⟨rfl, rfl⟩ := hvw
      change J X 0 0 (wM t ad o m_m m_aside m_saved m_isSaved m_past m_changes m_errorAt m_failed m_thrown m_input m_inputMany m_fitting m_given m_pairs m_line m_lineMany m_letters m_begins0 m_commands m_commandMany m_place0 m_size0 m_isWrong) 30 [(0, .ref (ad o)), (1, .int a0), (2, .int a1), (3, .int a2)] [.int u7]
      refine j_if_ne hX 39 dX10_backIt_30 (by decide) hf (fun c30 hf => ?_) (fun c30 hf => ?_)
      · refine j_iload_n hX dX10_backIt_39 rfl 1 rfl ?_
        obtain ⟨u9, h10, hf⟩ := jbind hf
        refine j_callS (st := []) hX (k_X10_hammerOf (l := l) (D := D) (t := t) (ad := ad)  a0 u9 h10) q1509 q1510 q15 q1511 (n9 := 1) rfl ⟨by decide +kernel, by decide +kernel⟩ dX10_backIt_40 (Nat.le_of_ble_eq_true rfl) ⟨Nat.le_refl _, Nat.le_refl _⟩ (fun w : va_W => w ++ (wM t ad o m_m m_aside m_saved m_isSaved m_past m_changes m_errorAt m_failed m_thrown m_input m_inputMany m_fitting m_given m_pairs m_line m_lineMany m_letters m_begins0 m_commands m_commandMany m_place0 m_size0 m_isWrong)) (jFr_r (wM t ad o m_m m_aside m_saved m_isSaved m_past m_changes m_errorAt m_failed m_thrown m_input m_inputMany m_fitting m_given m_pairs m_line m_lineMany m_letters m_begins0 m_commands m_commandMany m_place0 m_size0 m_isWrong)) rfl rfl (fun v w hvw => ?_)
        obtain ⟨rfl, rfl⟩ := hvw
        change J X 0 0 (wM t ad o m_m m_aside m_saved m_isSaved m_past m_changes m_errorAt m_failed m_thrown m_input m_inputMany m_fitting m_given m_pairs m_line m_lineMany m_letters m_begins0 m_commands m_commandMany m_place0 m_size0 m_isWrong) 43 [(0, .ref (ad o)), (1, .int a0), (2, .int a1), (3, .int a2)] [.int u9]
        refine j_istore hX [(4, .int u9), (0, .ref (ad o)), (1, .int a0), (2, .int a1), (3, .int a2)] dX10_backIt_43 (by decide) rfl ?_
        refine j_aload_n hX dX10_backIt_45 rfl 1 rfl ?_
        refine j_get hX dX10_backIt_46 inX10 0 q1455 0 rfl rfl (by decide) rfl rfl ?_
        refine j_iload hX dX10_backIt_49 0 rfl ?_
        refine j_iconst hX 2 dX10_backIt_51 (by decide) ?_
        refine j_iadd hX dX10_backIt_52 ?_
        refine j_iald hX dX10_backIt_53 1 0 rfl rfl hf (fun c53 hf => ?_)
        refine j_iconst hX (-1) dX10_backIt_54 (by decide) ?_
        refine j_icmp_ne hX 67 dX10_backIt_55 (by decide) hf (fun c55 hf => ?_) (fun c55 hf => ?_)
        · refine j_aload_n hX dX10_backIt_67 rfl 1 rfl ?_
          refine j_iconst hX 3 dX10_backIt_68 (by decide) ?_
          obtain ⟨u11, h12, hf⟩ := jbind hf
          refine j_callV (st := []) hX (k_X10_throwing (l := l) (D := D) (t := t) (ad := ad) (o := o) m_m m_aside m_saved m_isSaved m_past m_changes m_errorAt m_failed m_thrown m_input m_inputMany m_fitting m_given m_pairs m_line m_lineMany m_letters m_begins0 m_commands m_commandMany m_place0 m_size0 m_isWrong 3 u11 h12) q1496 q1497 q1951 q15 q1498 (n9 := 1) rfl ⟨by decide +kernel, by decide +kernel⟩ 0 rfl rfl rfl dX10_backIt_69 (Nat.le_of_ble_eq_true rfl) ⟨Nat.le_refl _, Nat.le_refl _⟩ (fun w : va_W => w) jFr_id rfl rfl (fun v w hvw => ?_)
          obtain ⟨rfl, rfl⟩ := hvw
          change J X 0 0 (wM t ad o m_m m_aside m_saved m_isSaved m_past m_changes m_errorAt m_failed u11.2 m_input m_inputMany m_fitting m_given m_pairs m_line m_lineMany m_letters m_begins0 m_commands m_commandMany m_place0 m_size0 m_isWrong) 72 [(4, .int u9), (0, .ref (ad o)), (1, .int a0), (2, .int a1), (3, .int a2)] [.int u11.1]
          cases hf
          exact j_iret hX hE dX10_backIt_72 (Nat.le_refl _) (Nat.le_refl _) ⟨rfl, rfl⟩
        · refine j_aload_n hX dX10_backIt_58 rfl 1 rfl ?_
          refine j_iload_n hX dX10_backIt_59 rfl 4 rfl ?_
          obtain ⟨u13, h14, hf⟩ := jbind hf
          refine j_callV (st := []) hX (k_X10_freePlace (l := l) (D := D) (t := t) (ad := ad) (o := o) m_m m_aside m_saved m_isSaved m_past m_changes m_errorAt m_failed m_thrown m_input m_inputMany m_fitting m_given m_pairs m_line m_lineMany m_letters m_begins0 m_commands m_commandMany m_place0 m_size0 m_isWrong a2 u13 h14) q1503 q1504 q1952 q15 q1505 (n9 := 1) rfl ⟨by decide +kernel, by decide +kernel⟩ 0 rfl rfl rfl dX10_backIt_60 (Nat.le_of_ble_eq_true rfl) ⟨Nat.le_refl _, Nat.le_refl _⟩ (fun w : va_W => w) jFr_id rfl rfl (fun v w hvw => ?_)
          obtain ⟨rfl, rfl⟩ := hvw
          change J X 0 0 (wM t ad o m_m m_aside m_saved m_isSaved m_past m_changes m_errorAt m_failed m_thrown m_input m_inputMany m_fitting m_given m_pairs m_line m_lineMany m_letters m_begins0 m_commands m_commandMany m_place0 m_size0 m_isWrong) 63 [(4, .int u9), (0, .ref (ad o)), (1, .int a0), (2, .int a1), (3, .int a2)] [.int u13]
          refine j_iconst hX (-1) dX10_backIt_63 (by decide) ?_
          refine j_icmp_ne hX 73 dX10_backIt_64 (by decide) hf (fun c64 hf => ?_) (fun c64 hf => ?_)
          · refine j_aload_n hX dX10_backIt_73 rfl 1 rfl ?_
            refine j_iload_n hX dX10_backIt_74 rfl 4 rfl ?_
            obtain ⟨u15, h16, hf⟩ := jbind hf
            refine j_callV (st := []) hX (k_X10_freePlace (l := l) (D := D) (t := t) (ad := ad) (o := o) m_m m_aside m_saved m_isSaved m_past m_changes m_errorAt m_failed m_thrown m_input m_inputMany m_fitting m_given m_pairs m_line m_lineMany m_letters m_begins0 m_commands m_commandMany m_place0 m_size0 m_isWrong a2 u15 h16) q1503 q1504 q1952 q15 q1505 (n9 := 1) rfl ⟨by decide +kernel, by decide +kernel⟩ 0 rfl rfl rfl dX10_backIt_75 (Nat.le_of_ble_eq_true rfl) ⟨Nat.le_refl _, Nat.le_refl _⟩ (fun w : va_W => w) jFr_id rfl rfl (fun v w hvw => ?_)
            obtain ⟨rfl, rfl⟩ := hvw
            change J X 0 0 (wM t ad o m_m m_aside m_saved m_isSaved m_past m_changes m_errorAt m_failed m_thrown m_input m_inputMany m_fitting m_given m_pairs m_line m_lineMany m_letters m_begins0 m_commands m_commandMany m_place0 m_size0 m_isWrong) 78 [(4, .int u9), (0, .ref (ad o)), (1, .int a0), (2, .int a1), (3, .int a2)] [.int u15]
            refine j_istore hX [(5, .int u15), (4, .int u9), (0, .ref (ad o)), (1, .int a0), (2, .int a1), (3, .int a2)] dX10_backIt_78 (by decide) rfl ?_
            refine j_aload_n hX dX10_backIt_80 rfl 2 rfl ?_
            refine j_get hX dX10_backIt_81 inX10 0 q1455 0 rfl rfl (by decide) rfl rfl ?_
            refine j_iconst hX 2 dX10_backIt_84 (by decide) ?_
            refine j_dup2 hX dX10_backIt_85 rfl rfl ?_
            refine j_iald hX dX10_backIt_86 1 0 rfl rfl hf (fun c86 hf => ?_)
            refine j_iconst hX 2 dX10_backIt_87 (by decide) ?_
            refine j_iconst hX 0 dX10_backIt_88 (by decide) ?_
            refine j_aload_n hX dX10_backIt_89 rfl 2 rfl ?_
            refine j_get hX dX10_backIt_90 inX10 0 q1455 0 rfl rfl (by decide) rfl rfl ?_
            refine j_iconst hX 1 dX10_backIt_93 (by decide) ?_
            refine j_iald hX dX10_backIt_94 1 0 rfl rfl hf (fun c94 hf => ?_)
            refine j_aload_n hX dX10_backIt_95 rfl 2 rfl ?_
            refine j_get hX dX10_backIt_96 inX10 0 q1455 0 rfl rfl (by decide) rfl rfl ?_
            refine j_iload hX dX10_backIt_99 1 rfl ?_
            refine j_iconst hX 5 dX10_backIt_101 (by decide) ?_
            refine j_iadd hX dX10_backIt_102 ?_
            refine j_iald hX dX10_backIt_103 1 0 rfl rfl hf (fun c103 hf => ?_)
            refine j_isub hX dX10_backIt_104 ?_
            refine j_mmax hX q1624 dX10_backIt_105 (Nat.le_of_ble_eq_true rfl) (by decide) ⟨Nat.le_refl _, Nat.le_refl _⟩ ?_
            refine j_imul hX dX10_backIt_108 ?_
            refine j_iadd hX dX10_backIt_109 ?_
            refine j_iast hX (wM t ad o (upd m_m (2 : Int32).toNatClampNeg ((m_m (2 : Int32).toNatClampNeg) + ((2 : Int32) * (jmax (0 : Int32) ((m_m (1 : Int32).toNatClampNeg) - (m_m (u9 + 5).toNatClampNeg)))))) m_aside m_saved m_isSaved m_past m_changes m_errorAt m_failed m_thrown m_input m_inputMany m_fitting m_given m_pairs m_line m_lineMany m_letters m_begins0 m_commands m_commandMany m_place0 m_size0 m_isWrong) dX10_backIt_110 1 0 rfl rfl rfl hf (fun c110 hf => ?_)
            refine j_aload_n hX dX10_backIt_111 rfl 2 rfl ?_
            refine j_get hX dX10_backIt_112 inX10 0 q1455 0 rfl rfl (by decide) rfl rfl ?_
            refine j_iload hX dX10_backIt_115 1 rfl ?_
            refine j_iconst hX 1 dX10_backIt_117 (by decide) ?_
            refine j_iadd hX dX10_backIt_118 ?_
            refine j_bipush hX 100 dX10_backIt_119 (by decide) ?_
            refine j_aload_n hX dX10_backIt_121 rfl 2 rfl ?_
            refine j_get hX dX10_backIt_122 inX10 0 q1455 0 rfl rfl (by decide) rfl rfl ?_
            refine j_iload hX dX10_backIt_125 1 rfl ?_
            refine j_iconst hX 1 dX10_backIt_127 (by decide) ?_
            refine j_iadd hX dX10_backIt_128 ?_
            refine j_iald hX dX10_backIt_129 1 0 rfl rfl hf (fun c129 hf => ?_)
            refine j_iload_n hX dX10_backIt_130 rfl 4 rfl ?_
            refine j_bipush hX 10 dX10_backIt_131 (by decide) ?_
            refine j_idiv hX dX10_backIt_133 (by decide) ?_
            refine j_iadd hX dX10_backIt_134 ?_
            refine j_mmin hX q1612 dX10_backIt_135 (Nat.le_of_ble_eq_true rfl) (by decide) ⟨Nat.le_refl _, Nat.le_refl _⟩ ?_
            refine j_iast hX (wM t ad o (upd (upd m_m (2 : Int32).toNatClampNeg ((m_m (2 : Int32).toNatClampNeg) + ((2 : Int32) * (jmax (0 : Int32) ((m_m (1 : Int32).toNatClampNeg) - (m_m (u9 + 5).toNatClampNeg)))))) (u9 + 1).toNatClampNeg (jmin (100 : Int32) (((upd m_m (2 : Int32).toNatClampNeg ((m_m (2 : Int32).toNatClampNeg) + ((2 : Int32) * (jmax (0 : Int32) ((m_m (1 : Int32).toNatClampNeg) - (m_m (u9 + 5).toNatClampNeg)))))) (u9 + 1).toNatClampNeg) + (a1 / 10)))) m_aside m_saved m_isSaved m_past m_changes m_errorAt m_failed m_thrown m_input m_inputMany m_fitting m_given m_pairs m_line m_lineMany m_letters m_begins0 m_commands m_commandMany m_place0 m_size0 m_isWrong) dX10_backIt_138 1 0 rfl rfl rfl hf (fun c138 hf => ?_)
            refine j_aload_n hX dX10_backIt_139 rfl 2 rfl ?_
            refine j_get hX dX10_backIt_140 inX10 0 q1455 0 rfl rfl (by decide) rfl rfl ?_
            refine j_iload hX dX10_backIt_143 1 rfl ?_
            refine j_iconst hX 2 dX10_backIt_145 (by decide) ?_
            refine j_iadd hX dX10_backIt_146 ?_
            refine j_iload_n hX dX10_backIt_147 rfl 5 rfl ?_
            refine j_iast hX (wM t ad o (upd (upd (upd m_m (2 : Int32).toNatClampNeg ((m_m (2 : Int32).toNatClampNeg) + ((2 : Int32) * (jmax (0 : Int32) ((m_m (1 : Int32).toNatClampNeg) - (m_m (u9 + 5).toNatClampNeg)))))) (u9 + 1).toNatClampNeg (jmin (100 : Int32) (((upd m_m (2 : Int32).toNatClampNeg ((m_m (2 : Int32).toNatClampNeg) + ((2 : Int32) * (jmax (0 : Int32) ((m_m (1 : Int32).toNatClampNeg) - (m_m (u9 + 5).toNatClampNeg)))))) (u9 + 1).toNatClampNeg) + (a1 / 10)))) (u9 + 2).toNatClampNeg a2) m_aside m_saved m_isSaved m_past m_changes m_errorAt m_failed m_thrown m_input m_inputMany m_fitting m_given m_pairs m_line m_lineMany m_letters m_begins0 m_commands m_commandMany m_place0 m_size0 m_isWrong) dX10_backIt_148 1 0 rfl rfl rfl hf (fun c148 hf => ?_)
            refine j_aload_n hX dX10_backIt_149 rfl 2 rfl ?_
            refine j_get hX dX10_backIt_150 inX10 0 q1455 0 rfl rfl (by decide) rfl rfl ?_
            refine j_iload hX dX10_backIt_153 1 rfl ?_
            refine j_iconst hX 3 dX10_backIt_155 (by decide) ?_
            refine j_iadd hX dX10_backIt_156 ?_
            refine j_iload hX dX10_backIt_157 0 rfl ?_
            refine j_iast hX (wM t ad o (upd (upd (upd (upd m_m (2 : Int32).toNatClampNeg ((m_m (2 : Int32).toNatClampNeg) + ((2 : Int32) * (jmax (0 : Int32) ((m_m (1 : Int32).toNatClampNeg) - (m_m (u9 + 5).toNatClampNeg)))))) (u9 + 1).toNatClampNeg (jmin (100 : Int32) (((upd m_m (2 : Int32).toNatClampNeg ((m_m (2 : Int32).toNatClampNeg) + ((2 : Int32) * (jmax (0 : Int32) ((m_m (1 : Int32).toNatClampNeg) - (m_m (u9 + 5).toNatClampNeg)))))) (u9 + 1).toNatClampNeg) + (a1 / 10)))) (u9 + 2).toNatClampNeg a2) (u9 + 3).toNatClampNeg u15) m_aside m_saved m_isSaved m_past m_changes m_errorAt m_failed m_thrown m_input m_inputMany m_fitting m_given m_pairs m_line m_lineMany m_letters m_begins0 m_commands m_commandMany m_place0 m_size0 m_isWrong) dX10_backIt_159 1 0 rfl rfl rfl hf (fun c159 hf => ?_)
            refine j_aload_n hX dX10_backIt_160 rfl 2 rfl ?_
            refine j_get hX dX10_backIt_161 inX10 0 q1455 0 rfl rfl (by decide) rfl rfl ?_
            refine j_iload hX dX10_backIt_164 1 rfl ?_
            refine j_iconst hX 4 dX10_backIt_166 (by decide) ?_
            refine j_iadd hX dX10_backIt_167 ?_
            refine j_iconst hX 0 dX10_backIt_168 (by decide) ?_
            refine j_iast hX (wM t ad o (upd (upd (upd (upd (upd m_m (2 : Int32).toNatClampNeg ((m_m (2 : Int32).toNatClampNeg) + ((2 : Int32) * (jmax (0 : Int32) ((m_m (1 : Int32).toNatClampNeg) - (m_m (u9 + 5).toNatClampNeg)))))) (u9 + 1).toNatClampNeg (jmin (100 : Int32) (((upd m_m (2 : Int32).toNatClampNeg ((m_m (2 : Int32).toNatClampNeg) + ((2 : Int32) * (jmax (0 : Int32) ((m_m (1 : Int32).toNatClampNeg) - (m_m (u9 + 5).toNatClampNeg)))))) (u9 + 1).toNatClampNeg) + (a1 / 10)))) (u9 + 2).toNatClampNeg a2) (u9 + 3).toNatClampNeg u15) (u9 + 4).toNatClampNeg 0) m_aside m_saved m_isSaved m_past m_changes m_errorAt m_failed m_thrown m_input m_inputMany m_fitting m_given m_pairs m_line m_lineMany m_letters m_begins0 m_commands m_commandMany m_place0 m_size0 m_isWrong) dX10_backIt_169 1 0 rfl rfl rfl hf (fun c169 hf => ?_)
            refine j_aload_n hX dX10_backIt_170 rfl 2 rfl ?_
            refine j_get hX dX10_backIt_171 inX10 0 q1455 0 rfl rfl (by decide) rfl rfl ?_
            refine j_iload hX dX10_backIt_174 1 rfl ?_
            refine j_iconst hX 5 dX10_backIt_176 (by decide) ?_
            refine j_iadd hX dX10_backIt_177 ?_
            refine j_iconst hX 0 dX10_backIt_178 (by decide) ?_
            refine j_iast hX (wM t ad o (upd (upd (upd (upd (upd (upd m_m (2 : Int32).toNatClampNeg ((m_m (2 : Int32).toNatClampNeg) + ((2 : Int32) * (jmax (0 : Int32) ((m_m (1 : Int32).toNatClampNeg) - (m_m (u9 + 5).toNatClampNeg)))))) (u9 + 1).toNatClampNeg (jmin (100 : Int32) (((upd m_m (2 : Int32).toNatClampNeg ((m_m (2 : Int32).toNatClampNeg) + ((2 : Int32) * (jmax (0 : Int32) ((m_m (1 : Int32).toNatClampNeg) - (m_m (u9 + 5).toNatClampNeg)))))) (u9 + 1).toNatClampNeg) + (a1 / 10)))) (u9 + 2).toNatClampNeg a2) (u9 + 3).toNatClampNeg u15) (u9 + 4).toNatClampNeg 0) (u9 + 5).toNatClampNeg 0) m_aside m_saved m_isSaved m_past m_changes m_errorAt m_failed m_thrown m_input m_inputMany m_fitting m_given m_pairs m_line m_lineMany m_letters m_begins0 m_commands m_commandMany m_place0 m_size0 m_isWrong) dX10_backIt_179 1 0 rfl rfl rfl hf (fun c179 hf => ?_)
            refine j_aload_n hX dX10_backIt_180 rfl 2 rfl ?_
            refine j_get hX dX10_backIt_181 inX10 0 q1455 0 rfl rfl (by decide) rfl rfl ?_
            refine j_iload hX dX10_backIt_184 1 rfl ?_
            refine j_iconst hX 1 dX10_backIt_186 (by decide) ?_
            refine j_iadd hX dX10_backIt_187 ?_
            refine j_iald hX dX10_backIt_188 1 0 rfl rfl hf (fun c188 hf => ?_)
            cases hf
            exact j_iret hX hE dX10_backIt_189 (Nat.le_refl _) (Nat.le_refl _) ⟨rfl, rfl⟩
          · refine j_aload_n hX dX10_backIt_67 rfl 1 rfl ?_
            refine j_iconst hX 3 dX10_backIt_68 (by decide) ?_
            obtain ⟨u17, h18, hf⟩ := jbind hf
            refine j_callV (st := []) hX (k_X10_throwing (l := l) (D := D) (t := t) (ad := ad) (o := o) m_m m_aside m_saved m_isSaved m_past m_changes m_errorAt m_failed m_thrown m_input m_inputMany m_fitting m_given m_pairs m_line m_lineMany m_letters m_begins0 m_commands m_commandMany m_place0 m_size0 m_isWrong 3 u17 h18) q1496 q1497 q1951 q15 q1498 (n9 := 1) rfl ⟨by decide +kernel, by decide +kernel⟩ 0 rfl rfl rfl dX10_backIt_69 (Nat.le_of_ble_eq_true rfl) ⟨Nat.le_refl _, Nat.le_refl _⟩ (fun w : va_W => w) jFr_id rfl rfl (fun v w hvw => ?_)
            obtain ⟨rfl, rfl⟩ := hvw
            change J X 0 0 (wM t ad o m_m m_aside m_saved m_isSaved m_past m_changes m_errorAt m_failed u17.2 m_input m_inputMany m_fitting m_given m_pairs m_line m_lineMany m_letters m_begins0 m_commands m_commandMany m_place0 m_size0 m_isWrong) 72 [(4, .int u9), (0, .ref (ad o)), (1, .int a0), (2, .int a1), (3, .int a2)] [.int u17.1]
            cases hf
            exact j_iret hX hE dX10_backIt_72 (Nat.le_refl _) (Nat.le_refl _) ⟨rfl, rfl⟩
      · refine j_aload_n hX dX10_backIt_33 rfl 0 rfl ?_
        refine j_iconst hX 2 dX10_backIt_34 (by decide) ?_
        obtain ⟨u19, h20, hf⟩ := jbind hf
        refine j_callV (st := []) hX (k_X10_throwing (l := l) (D := D) (t := t) (ad := ad) (o := o) m_m m_aside m_saved m_isSaved m_past m_changes m_errorAt m_failed m_thrown m_input m_inputMany m_fitting m_given m_pairs m_line m_lineMany m_letters m_begins0 m_commands m_commandMany m_place0 m_size0 m_isWrong 2 u19 h20) q1496 q1497 q1951 q15 q1498 (n9 := 1) rfl ⟨by decide +kernel, by decide +kernel⟩ 0 rfl rfl rfl dX10_backIt_35 (Nat.le_of_ble_eq_true rfl) ⟨Nat.le_refl _, Nat.le_refl _⟩ (fun w : va_W => w) jFr_id rfl rfl (fun v w hvw => ?_)
        obtain ⟨rfl, rfl⟩ := hvw
        change J X 0 0 (wM t ad o m_m m_aside m_saved m_isSaved m_past m_changes m_errorAt m_failed u19.2 m_input m_inputMany m_fitting m_given m_pairs m_line m_lineMany m_letters m_begins0 m_commands m_commandMany m_place0 m_size0 m_isWrong) 38 [(0, .ref (ad o)), (1, .int a0), (2, .int a1), (3, .int a2)] [.int u19.1]
        cases hf
        exact j_iret hX hE dX10_backIt_38 (Nat.le_refl _) (Nat.le_refl _) ⟨rfl, rfl⟩
    · refine j_aload_n hX dX10_backIt_15 rfl 0 rfl ?_
      refine j_iconst hX 1 dX10_backIt_16 (by decide) ?_
      obtain ⟨u21, h22, hf⟩ := jbind hf
      refine j_callV (st := []) hX (k_X10_throwing (l := l) (D := D) (t := t) (ad := ad) (o := o) m_m m_aside m_saved m_isSaved m_past m_changes m_errorAt m_failed m_thrown m_input m_inputMany m_fitting m_given m_pairs m_line m_lineMany m_letters m_begins0 m_commands m_commandMany m_place0 m_size0 m_isWrong 1 u21 h22) q1496 q1497 q1951 q15 q1498 (n9 := 1) rfl ⟨by decide +kernel, by decide +kernel⟩ 0 rfl rfl rfl dX10_backIt_17 (Nat.le_of_ble_eq_true rfl) ⟨Nat.le_refl _, Nat.le_refl _⟩ (fun w : va_W => w) jFr_id rfl rfl (fun v w hvw => ?_)
      obtain ⟨rfl, rfl⟩ := hvw
      change J X 0 0 (wM t ad o m_m m_aside m_saved m_isSaved m_past m_changes m_errorAt m_failed u21.2 m_input m_inputMany m_fitting m_given m_pairs m_line m_lineMany m_letters m_begins0 m_commands m_commandMany m_place0 m_size0 m_isWrong) 20 [(0, .ref (ad o)), (1, .int a0), (2, .int a1), (3, .int a2)] [.int u21.1]
      cases hf
      exact j_iret hX hE dX10_backIt_20 (Nat.le_refl _) (Nat.le_refl _) ⟨rfl, rfl⟩
-- HammerDepotModel giveBack (III)I
def f_X10_giveBack (m_m : Nat → Int32) (m_aside : Nat → Int32) (m_past : Nat → Int32) (m_changes : Int32) (m_thrown : Int32) (a0 : Int32) (a1 : Int32) (a2 : Int32) : Option (Int32 × (Nat → Int32) × (Nat → Int32) × (Nat → Int32) × Int32 × Int32) :=
  Option.bind (f_X10_starts m_m m_aside m_thrown) (fun u1 =>
    Option.bind (f_X10_backIt m_m u1.2 a0 a1 a2) (fun u3 =>
      Option.bind (f_X10_changed u1.1 m_past m_changes u3.2.2 u3.1) (fun u5 =>
        some (u5.1, u3.2.1, u1.1, u5.2.1, u5.2.2, u3.2.2))))
set_option maxHeartbeats 4000000 in
set_option maxRecDepth 100000 in
theorem k_X10_giveBack {l : Launch} {D : va_G} {t : Nat → ClassId} {ad : Nat → Nat} {o : Nat} (m_m : Nat → Int32) (m_aside : Nat → Int32) (m_saved : Nat → Int32) (m_isSaved : Int32) (m_past : Nat → Int32) (m_changes : Int32) (m_errorAt : Int32) (m_failed : Int32) (m_thrown : Int32) (m_input : Nat → Int32) (m_inputMany : Int32) (m_fitting : Nat → Int32) (m_given : Nat → Int32) (m_pairs : Nat → Int32) (m_line : Nat → Int32) (m_lineMany : Int32) (m_letters : Nat → Int32) (m_begins0 : Nat → Int32) (m_commands : Nat → Int32) (m_commandMany : Int32) (m_place0 : Int32) (m_size0 : Int32) (m_isWrong : Int32) (a0 : Int32) (a1 : Int32) (a2 : Int32) (u : Int32 × (Nat → Int32) × (Nat → Int32) × (Nat → Int32) × Int32 × Int32) (hf : f_X10_giveBack m_m m_aside m_past m_changes m_thrown a0 a1 a2 = some u) : cm l D (jT t) yX10_giveBack cX10_giveBack 4 (some FieldType.int) { frames := 4, cells := 0, slots := 0, locals := 90 } [.ref (ad o), .int a0, .int a1, .int a2] (wM t ad o m_m m_aside m_saved m_isSaved m_past m_changes m_errorAt m_failed m_thrown m_input m_inputMany m_fitting m_given m_pairs m_line m_lineMany m_letters m_begins0 m_commands m_commandMany m_place0 m_size0 m_isWrong) (fun v w => v = (some (.int u.1)) ∧ w = wM t ad o u.2.1 u.2.2.1 m_saved m_isSaved u.2.2.2.1 u.2.2.2.2.1 m_errorAt m_failed u.2.2.2.2.2 m_input m_inputMany m_fitting m_given m_pairs m_line m_lineMany m_letters m_begins0 m_commands m_commandMany m_place0 m_size0 m_isWrong) := by
  refine cm_of RX10 rfl (by decide +kernel) (Nat.le_of_ble_eq_true rfl) (fun X hX hE => ?_)
  change J X 0 0 (wM t ad o m_m m_aside m_saved m_isSaved m_past m_changes m_errorAt m_failed m_thrown m_input m_inputMany m_fitting m_given m_pairs m_line m_lineMany m_letters m_begins0 m_commands m_commandMany m_place0 m_size0 m_isWrong) 0 [(0, .ref (ad o)), (1, .int a0), (2, .int a1), (3, .int a2)] []
  unfold f_X10_giveBack at hf
  refine j_aload_n hX dX10_giveBack_0 rfl 0 rfl ?_
  obtain ⟨u1, h2, hf⟩ := jbind hf
  refine j_callV (st := []) hX (k_X10_starts (l := l) (D := D) (t := t) (ad := ad) (o := o) m_m m_aside m_saved m_isSaved m_past m_changes m_errorAt m_failed m_thrown m_input m_inputMany m_fitting m_given m_pairs m_line m_lineMany m_letters m_begins0 m_commands m_commandMany m_place0 m_size0 m_isWrong  u1 h2) q1486 q1487 q1949 q15 q1488 (n9 := 0) rfl ⟨by decide +kernel, by decide +kernel⟩ 0 rfl rfl rfl dX10_giveBack_1 (Nat.le_of_ble_eq_true rfl) ⟨Nat.le_refl _, Nat.le_refl _⟩ (fun w : va_W => w) jFr_id rfl rfl (fun v w hvw => ?_)
  obtain ⟨rfl, rfl⟩ := hvw
  change J X 0 0 (wM t ad o m_m u1.1 m_saved m_isSaved m_past m_changes m_errorAt m_failed u1.2 m_input m_inputMany m_fitting m_given m_pairs m_line m_lineMany m_letters m_begins0 m_commands m_commandMany m_place0 m_size0 m_isWrong) 4 [(0, .ref (ad o)), (1, .int a0), (2, .int a1), (3, .int a2)] []
  refine j_aload_n hX dX10_giveBack_4 rfl 0 rfl ?_
  refine j_aload_n hX dX10_giveBack_5 rfl 0 rfl ?_
  refine j_iload_n hX dX10_giveBack_6 rfl 1 rfl ?_
  refine j_iload_n hX dX10_giveBack_7 rfl 2 rfl ?_
  refine j_iload_n hX dX10_giveBack_8 rfl 3 rfl ?_
  obtain ⟨u3, h4, hf⟩ := jbind hf
  refine j_callV (st := [.ref (ad o)]) hX (k_X10_backIt (l := l) (D := D) (t := t) (ad := ad) (o := o) m_m u1.1 m_saved m_isSaved m_past m_changes m_errorAt m_failed u1.2 m_input m_inputMany m_fitting m_given m_pairs m_line m_lineMany m_letters m_begins0 m_commands m_commandMany m_place0 m_size0 m_isWrong a0 a1 a2 u3 h4) q1620 q1621 q1975 q15 q1622 (n9 := 3) rfl ⟨by decide +kernel, by decide +kernel⟩ 0 rfl rfl rfl dX10_giveBack_9 (Nat.le_of_ble_eq_true rfl) ⟨Nat.le_refl _, Nat.le_refl _⟩ (fun w : va_W => w) jFr_id rfl rfl (fun v w hvw => ?_)
  obtain ⟨rfl, rfl⟩ := hvw
  change J X 0 0 (wM t ad o u3.2.1 u1.1 m_saved m_isSaved m_past m_changes m_errorAt m_failed u3.2.2 m_input m_inputMany m_fitting m_given m_pairs m_line m_lineMany m_letters m_begins0 m_commands m_commandMany m_place0 m_size0 m_isWrong) 12 [(0, .ref (ad o)), (1, .int a0), (2, .int a1), (3, .int a2)] [.int u3.1, .ref (ad o)]
  obtain ⟨u5, h6, hf⟩ := jbind hf
  refine j_callV (st := []) hX (k_X10_changed (l := l) (D := D) (t := t) (ad := ad) (o := o) u3.2.1 u1.1 m_saved m_isSaved m_past m_changes m_errorAt m_failed u3.2.2 m_input m_inputMany m_fitting m_given m_pairs m_line m_lineMany m_letters m_begins0 m_commands m_commandMany m_place0 m_size0 m_isWrong u3.1 u5 h6) q1512 q1513 q1954 q15 q1514 (n9 := 1) rfl ⟨by decide +kernel, by decide +kernel⟩ 0 rfl rfl rfl dX10_giveBack_12 (Nat.le_of_ble_eq_true rfl) ⟨Nat.le_refl _, Nat.le_refl _⟩ (fun w : va_W => w) jFr_id rfl rfl (fun v w hvw => ?_)
  obtain ⟨rfl, rfl⟩ := hvw
  change J X 0 0 (wM t ad o u3.2.1 u1.1 m_saved m_isSaved u5.2.1 u5.2.2 m_errorAt m_failed u3.2.2 m_input m_inputMany m_fitting m_given m_pairs m_line m_lineMany m_letters m_begins0 m_commands m_commandMany m_place0 m_size0 m_isWrong) 15 [(0, .ref (ad o)), (1, .int a0), (2, .int a1), (3, .int a2)] [.int u5.1]
  cases hf
  exact j_iret hX hE dX10_giveBack_15 (Nat.le_refl _) (Nat.le_refl _) ⟨rfl, rfl⟩
-- HammerDepotModel faceIt (I)I
def f_X10_faceIt (m_m : Nat → Int32) (m_thrown : Int32) (a0 : Int32) : Option (Int32 × (Nat → Int32) × Int32) :=
  Option.bind (f_X10_isHammer m_m a0) (fun u1 =>
    if u1 = 0 then
      Option.bind (f_X10_throwing m_thrown 1) (fun u9 =>
        some (u9.1, m_m, u9.2))
    else
      Option.bind (f_X10_hammerOf a0) (fun u3 =>
        if jin (u3 + 2) 2048 = true then
          if (m_m (u3 + 2).toNatClampNeg) = (-1) then
            Option.bind (f_X10_throwing m_thrown 2) (fun u7 =>
              some (u7.1, m_m, u7.2))
          else
            if jin (u3 + 1) 2048 = true then
              if jin 2 2048 = true then
                if (((m_m (u3 + 1).toNatClampNeg) + 4) / 5) ≤ (m_m (2 : Int32).toNatClampNeg) then
                  if jin 2 2048 = true then
                    if jin 2 2048 = true then
                      if jin (u3 + 1) 2048 = true then
                        some (((m_m (u3 + 1).toNatClampNeg) + 4) / 5, upd (upd m_m (2 : Int32).toNatClampNeg ((m_m (2 : Int32).toNatClampNeg) - (((m_m (u3 + 1).toNatClampNeg) + 4) / 5))) (u3 + 1).toNatClampNeg 0, m_thrown)
                      else none
                    else none
                  else none
                else
                  Option.bind (f_X10_throwing m_thrown 3) (fun u5 =>
                    some (u5.1, m_m, u5.2))
              else none
            else none
        else none))
set_option maxHeartbeats 4000000 in
set_option maxRecDepth 100000 in
theorem k_X10_faceIt {l : Launch} {D : va_G} {t : Nat → ClassId} {ad : Nat → Nat} {o : Nat} (m_m : Nat → Int32) (m_aside : Nat → Int32) (m_saved : Nat → Int32) (m_isSaved : Int32) (m_past : Nat → Int32) (m_changes : Int32) (m_errorAt : Int32) (m_failed : Int32) (m_thrown : Int32) (m_input : Nat → Int32) (m_inputMany : Int32) (m_fitting : Nat → Int32) (m_given : Nat → Int32) (m_pairs : Nat → Int32) (m_line : Nat → Int32) (m_lineMany : Int32) (m_letters : Nat → Int32) (m_begins0 : Nat → Int32) (m_commands : Nat → Int32) (m_commandMany : Int32) (m_place0 : Int32) (m_size0 : Int32) (m_isWrong : Int32) (a0 : Int32) (u : Int32 × (Nat → Int32) × Int32) (hf : f_X10_faceIt m_m m_thrown a0 = some u) : cm l D (jT t) yX10_faceIt cX10_faceIt 4 (some FieldType.int) { frames := 2, cells := 0, slots := 0, locals := 46 } [.ref (ad o), .int a0] (wM t ad o m_m m_aside m_saved m_isSaved m_past m_changes m_errorAt m_failed m_thrown m_input m_inputMany m_fitting m_given m_pairs m_line m_lineMany m_letters m_begins0 m_commands m_commandMany m_place0 m_size0 m_isWrong) (fun v w => v = (some (.int u.1)) ∧ w = wM t ad o u.2.1 m_aside m_saved m_isSaved m_past m_changes m_errorAt m_failed u.2.2 m_input m_inputMany m_fitting m_given m_pairs m_line m_lineMany m_letters m_begins0 m_commands m_commandMany m_place0 m_size0 m_isWrong) := by
  refine cm_of RX10 rfl (by decide +kernel) (Nat.le_of_ble_eq_true rfl) (fun X hX hE => ?_)
  change J X 0 0 (wM t ad o m_m m_aside m_saved m_isSaved m_past m_changes m_errorAt m_failed m_thrown m_input m_inputMany m_fitting m_given m_pairs m_line m_lineMany m_letters m_begins0 m_commands m_commandMany m_place0 m_size0 m_isWrong) 0 [(0, .ref (ad o)), (1, .int a0)] []
  unfold f_X10_faceIt at hf
  refine j_aload_n hX dX10_faceIt_0 rfl 0 rfl ?_
  refine j_iload_n hX dX10_faceIt_1 rfl 1 rfl ?_
  obtain ⟨u1, h2, hf⟩ := jbind hf
  refine j_callV (st := []) hX (k_X10_isHammer (l := l) (D := D) (t := t) (ad := ad) (o := o) m_m m_aside m_saved m_isSaved m_past m_changes m_errorAt m_failed m_thrown m_input m_inputMany m_fitting m_given m_pairs m_line m_lineMany m_letters m_begins0 m_commands m_commandMany m_place0 m_size0 m_isWrong a0 u1 h2) q1522 q1523 q1956 q15 q1524 (n9 := 1) rfl ⟨by decide +kernel, by decide +kernel⟩ 0 rfl rfl rfl dX10_faceIt_2 (Nat.le_of_ble_eq_true rfl) ⟨Nat.le_refl _, Nat.le_refl _⟩ (fun w : va_W => w) jFr_id rfl rfl (fun v w hvw => ?_)
  obtain ⟨rfl, rfl⟩ := hvw
  change J X 0 0 (wM t ad o m_m m_aside m_saved m_isSaved m_past m_changes m_errorAt m_failed m_thrown m_input m_inputMany m_fitting m_given m_pairs m_line m_lineMany m_letters m_begins0 m_commands m_commandMany m_place0 m_size0 m_isWrong) 5 [(0, .ref (ad o)), (1, .int a0)] [.int u1]
  refine j_if_ne hX 14 dX10_faceIt_5 (by decide) hf (fun c5 hf => ?_) (fun c5 hf => ?_)
  · refine j_iload_n hX dX10_faceIt_14 rfl 1 rfl ?_
    obtain ⟨u3, h4, hf⟩ := jbind hf
    refine j_callS (st := []) hX (k_X10_hammerOf (l := l) (D := D) (t := t) (ad := ad)  a0 u3 h4) q1509 q1510 q15 q1511 (n9 := 1) rfl ⟨by decide +kernel, by decide +kernel⟩ dX10_faceIt_15 (Nat.le_of_ble_eq_true rfl) ⟨Nat.le_refl _, Nat.le_refl _⟩ (fun w : va_W => w ++ (wM t ad o m_m m_aside m_saved m_isSaved m_past m_changes m_errorAt m_failed m_thrown m_input m_inputMany m_fitting m_given m_pairs m_line m_lineMany m_letters m_begins0 m_commands m_commandMany m_place0 m_size0 m_isWrong)) (jFr_r (wM t ad o m_m m_aside m_saved m_isSaved m_past m_changes m_errorAt m_failed m_thrown m_input m_inputMany m_fitting m_given m_pairs m_line m_lineMany m_letters m_begins0 m_commands m_commandMany m_place0 m_size0 m_isWrong)) rfl rfl (fun v w hvw => ?_)
    obtain ⟨rfl, rfl⟩ := hvw
    change J X 0 0 (wM t ad o m_m m_aside m_saved m_isSaved m_past m_changes m_errorAt m_failed m_thrown m_input m_inputMany m_fitting m_given m_pairs m_line m_lineMany m_letters m_begins0 m_commands m_commandMany m_place0 m_size0 m_isWrong) 18 [(0, .ref (ad o)), (1, .int a0)] [.int u3]
    refine j_istore_n hX [(2, .int u3), (0, .ref (ad o)), (1, .int a0)] dX10_faceIt_18 rfl (by decide) rfl ?_
    refine j_aload_n hX dX10_faceIt_19 rfl 1 rfl ?_
    refine j_get hX dX10_faceIt_20 inX10 0 q1455 0 rfl rfl (by decide) rfl rfl ?_
    refine j_iload_n hX dX10_faceIt_23 rfl 0 rfl ?_
    refine j_iconst hX 2 dX10_faceIt_24 (by decide) ?_
    refine j_iadd hX dX10_faceIt_25 ?_
    refine j_iald hX dX10_faceIt_26 1 0 rfl rfl hf (fun c26 hf => ?_)
    refine j_iconst hX (-1) dX10_faceIt_27 (by decide) ?_
    refine j_icmp_ne hX 37 dX10_faceIt_28 (by decide) hf (fun c28 hf => ?_) (fun c28 hf => ?_)
    · refine j_aload_n hX dX10_faceIt_37 rfl 1 rfl ?_
      refine j_get hX dX10_faceIt_38 inX10 0 q1455 0 rfl rfl (by decide) rfl rfl ?_
      refine j_iload_n hX dX10_faceIt_41 rfl 0 rfl ?_
      refine j_iconst hX 1 dX10_faceIt_42 (by decide) ?_
      refine j_iadd hX dX10_faceIt_43 ?_
      refine j_iald hX dX10_faceIt_44 1 0 rfl rfl hf (fun c44 hf => ?_)
      refine j_iconst hX 4 dX10_faceIt_45 (by decide) ?_
      refine j_iadd hX dX10_faceIt_46 ?_
      refine j_iconst hX 5 dX10_faceIt_47 (by decide) ?_
      refine j_idiv hX dX10_faceIt_48 (by decide) ?_
      refine j_istore_n hX [(3, .int (((m_m (u3 + 1).toNatClampNeg) + 4) / 5)), (2, .int u3), (0, .ref (ad o)), (1, .int a0)] dX10_faceIt_49 rfl (by decide) rfl ?_
      refine j_iload_n hX dX10_faceIt_50 rfl 0 rfl ?_
      refine j_aload_n hX dX10_faceIt_51 rfl 2 rfl ?_
      refine j_get hX dX10_faceIt_52 inX10 0 q1455 0 rfl rfl (by decide) rfl rfl ?_
      refine j_iconst hX 2 dX10_faceIt_55 (by decide) ?_
      refine j_iald hX dX10_faceIt_56 1 0 rfl rfl hf (fun c56 hf => ?_)
      refine j_icmp_le hX 66 dX10_faceIt_57 (by decide) hf (fun c57 hf => ?_) (fun c57 hf => ?_)
      · refine j_aload_n hX dX10_faceIt_66 rfl 2 rfl ?_
        refine j_get hX dX10_faceIt_67 inX10 0 q1455 0 rfl rfl (by decide) rfl rfl ?_
        refine j_iconst hX 2 dX10_faceIt_70 (by decide) ?_
        refine j_dup2 hX dX10_faceIt_71 rfl rfl ?_
        refine j_iald hX dX10_faceIt_72 1 0 rfl rfl hf (fun c72 hf => ?_)
        refine j_iload_n hX dX10_faceIt_73 rfl 0 rfl ?_
        refine j_isub hX dX10_faceIt_74 ?_
        refine j_iast hX (wM t ad o (upd m_m (2 : Int32).toNatClampNeg ((m_m (2 : Int32).toNatClampNeg) - (((m_m (u3 + 1).toNatClampNeg) + 4) / 5))) m_aside m_saved m_isSaved m_past m_changes m_errorAt m_failed m_thrown m_input m_inputMany m_fitting m_given m_pairs m_line m_lineMany m_letters m_begins0 m_commands m_commandMany m_place0 m_size0 m_isWrong) dX10_faceIt_75 1 0 rfl rfl rfl hf (fun c75 hf => ?_)
        refine j_aload_n hX dX10_faceIt_76 rfl 2 rfl ?_
        refine j_get hX dX10_faceIt_77 inX10 0 q1455 0 rfl rfl (by decide) rfl rfl ?_
        refine j_iload_n hX dX10_faceIt_80 rfl 1 rfl ?_
        refine j_iconst hX 1 dX10_faceIt_81 (by decide) ?_
        refine j_iadd hX dX10_faceIt_82 ?_
        refine j_iconst hX 0 dX10_faceIt_83 (by decide) ?_
        refine j_iast hX (wM t ad o (upd (upd m_m (2 : Int32).toNatClampNeg ((m_m (2 : Int32).toNatClampNeg) - (((m_m (u3 + 1).toNatClampNeg) + 4) / 5))) (u3 + 1).toNatClampNeg 0) m_aside m_saved m_isSaved m_past m_changes m_errorAt m_failed m_thrown m_input m_inputMany m_fitting m_given m_pairs m_line m_lineMany m_letters m_begins0 m_commands m_commandMany m_place0 m_size0 m_isWrong) dX10_faceIt_84 1 0 rfl rfl rfl hf (fun c84 hf => ?_)
        refine j_iload_n hX dX10_faceIt_85 rfl 0 rfl ?_
        cases hf
        exact j_iret hX hE dX10_faceIt_86 (Nat.le_refl _) (Nat.le_refl _) ⟨rfl, rfl⟩
      · refine j_aload_n hX dX10_faceIt_60 rfl 2 rfl ?_
        refine j_iconst hX 3 dX10_faceIt_61 (by decide) ?_
        obtain ⟨u5, h6, hf⟩ := jbind hf
        refine j_callV (st := []) hX (k_X10_throwing (l := l) (D := D) (t := t) (ad := ad) (o := o) m_m m_aside m_saved m_isSaved m_past m_changes m_errorAt m_failed m_thrown m_input m_inputMany m_fitting m_given m_pairs m_line m_lineMany m_letters m_begins0 m_commands m_commandMany m_place0 m_size0 m_isWrong 3 u5 h6) q1496 q1497 q1951 q15 q1498 (n9 := 1) rfl ⟨by decide +kernel, by decide +kernel⟩ 0 rfl rfl rfl dX10_faceIt_62 (Nat.le_of_ble_eq_true rfl) ⟨Nat.le_refl _, Nat.le_refl _⟩ (fun w : va_W => w) jFr_id rfl rfl (fun v w hvw => ?_)
        obtain ⟨rfl, rfl⟩ := hvw
        change J X 0 0 (wM t ad o m_m m_aside m_saved m_isSaved m_past m_changes m_errorAt m_failed u5.2 m_input m_inputMany m_fitting m_given m_pairs m_line m_lineMany m_letters m_begins0 m_commands m_commandMany m_place0 m_size0 m_isWrong) 65 [(3, .int (((m_m (u3 + 1).toNatClampNeg) + 4) / 5)), (2, .int u3), (0, .ref (ad o)), (1, .int a0)] [.int u5.1]
        cases hf
        exact j_iret hX hE dX10_faceIt_65 (Nat.le_refl _) (Nat.le_refl _) ⟨rfl, rfl⟩
    · refine j_aload_n hX dX10_faceIt_31 rfl 1 rfl ?_
      refine j_iconst hX 2 dX10_faceIt_32 (by decide) ?_
      obtain ⟨u7, h8, hf⟩ := jbind hf
      refine j_callV (st := []) hX (k_X10_throwing (l := l) (D := D) (t := t) (ad := ad) (o := o) m_m m_aside m_saved m_isSaved m_past m_changes m_errorAt m_failed m_thrown m_input m_inputMany m_fitting m_given m_pairs m_line m_lineMany m_letters m_begins0 m_commands m_commandMany m_place0 m_size0 m_isWrong 2 u7 h8) q1496 q1497 q1951 q15 q1498 (n9 := 1) rfl ⟨by decide +kernel, by decide +kernel⟩ 0 rfl rfl rfl dX10_faceIt_33 (Nat.le_of_ble_eq_true rfl) ⟨Nat.le_refl _, Nat.le_refl _⟩ (fun w : va_W => w) jFr_id rfl rfl (fun v w hvw => ?_)
      obtain ⟨rfl, rfl⟩ := hvw
      change J X 0 0 (wM t ad o m_m m_aside m_saved m_isSaved m_past m_changes m_errorAt m_failed u7.2 m_input m_inputMany m_fitting m_given m_pairs m_line m_lineMany m_letters m_begins0 m_commands m_commandMany m_place0 m_size0 m_isWrong) 36 [(2, .int u3), (0, .ref (ad o)), (1, .int a0)] [.int u7.1]
      cases hf
      exact j_iret hX hE dX10_faceIt_36 (Nat.le_refl _) (Nat.le_refl _) ⟨rfl, rfl⟩
  · refine j_aload_n hX dX10_faceIt_8 rfl 0 rfl ?_
    refine j_iconst hX 1 dX10_faceIt_9 (by decide) ?_
    obtain ⟨u9, h10, hf⟩ := jbind hf
    refine j_callV (st := []) hX (k_X10_throwing (l := l) (D := D) (t := t) (ad := ad) (o := o) m_m m_aside m_saved m_isSaved m_past m_changes m_errorAt m_failed m_thrown m_input m_inputMany m_fitting m_given m_pairs m_line m_lineMany m_letters m_begins0 m_commands m_commandMany m_place0 m_size0 m_isWrong 1 u9 h10) q1496 q1497 q1951 q15 q1498 (n9 := 1) rfl ⟨by decide +kernel, by decide +kernel⟩ 0 rfl rfl rfl dX10_faceIt_10 (Nat.le_of_ble_eq_true rfl) ⟨Nat.le_refl _, Nat.le_refl _⟩ (fun w : va_W => w) jFr_id rfl rfl (fun v w hvw => ?_)
    obtain ⟨rfl, rfl⟩ := hvw
    change J X 0 0 (wM t ad o m_m m_aside m_saved m_isSaved m_past m_changes m_errorAt m_failed u9.2 m_input m_inputMany m_fitting m_given m_pairs m_line m_lineMany m_letters m_begins0 m_commands m_commandMany m_place0 m_size0 m_isWrong) 13 [(0, .ref (ad o)), (1, .int a0)] [.int u9.1]
    cases hf
    exact j_iret hX hE dX10_faceIt_13 (Nat.le_refl _) (Nat.le_refl _) ⟨rfl, rfl⟩
-- HammerDepotModel renewFace (I)I
def f_X10_renewFace (m_m : Nat → Int32) (m_aside : Nat → Int32) (m_past : Nat → Int32) (m_changes : Int32) (m_thrown : Int32) (a0 : Int32) : Option (Int32 × (Nat → Int32) × (Nat → Int32) × (Nat → Int32) × Int32 × Int32) :=
  Option.bind (f_X10_starts m_m m_aside m_thrown) (fun u1 =>
    Option.bind (f_X10_faceIt m_m u1.2 a0) (fun u3 =>
      Option.bind (f_X10_changed u1.1 m_past m_changes u3.2.2 u3.1) (fun u5 =>
        some (u5.1, u3.2.1, u1.1, u5.2.1, u5.2.2, u3.2.2))))
set_option maxHeartbeats 4000000 in
set_option maxRecDepth 100000 in
theorem k_X10_renewFace {l : Launch} {D : va_G} {t : Nat → ClassId} {ad : Nat → Nat} {o : Nat} (m_m : Nat → Int32) (m_aside : Nat → Int32) (m_saved : Nat → Int32) (m_isSaved : Int32) (m_past : Nat → Int32) (m_changes : Int32) (m_errorAt : Int32) (m_failed : Int32) (m_thrown : Int32) (m_input : Nat → Int32) (m_inputMany : Int32) (m_fitting : Nat → Int32) (m_given : Nat → Int32) (m_pairs : Nat → Int32) (m_line : Nat → Int32) (m_lineMany : Int32) (m_letters : Nat → Int32) (m_begins0 : Nat → Int32) (m_commands : Nat → Int32) (m_commandMany : Int32) (m_place0 : Int32) (m_size0 : Int32) (m_isWrong : Int32) (a0 : Int32) (u : Int32 × (Nat → Int32) × (Nat → Int32) × (Nat → Int32) × Int32 × Int32) (hf : f_X10_renewFace m_m m_aside m_past m_changes m_thrown a0 = some u) : cm l D (jT t) yX10_renewFace cX10_renewFace 2 (some FieldType.int) { frames := 3, cells := 0, slots := 0, locals := 69 } [.ref (ad o), .int a0] (wM t ad o m_m m_aside m_saved m_isSaved m_past m_changes m_errorAt m_failed m_thrown m_input m_inputMany m_fitting m_given m_pairs m_line m_lineMany m_letters m_begins0 m_commands m_commandMany m_place0 m_size0 m_isWrong) (fun v w => v = (some (.int u.1)) ∧ w = wM t ad o u.2.1 u.2.2.1 m_saved m_isSaved u.2.2.2.1 u.2.2.2.2.1 m_errorAt m_failed u.2.2.2.2.2 m_input m_inputMany m_fitting m_given m_pairs m_line m_lineMany m_letters m_begins0 m_commands m_commandMany m_place0 m_size0 m_isWrong) := by
  refine cm_of RX10 rfl (by decide +kernel) (Nat.le_of_ble_eq_true rfl) (fun X hX hE => ?_)
  change J X 0 0 (wM t ad o m_m m_aside m_saved m_isSaved m_past m_changes m_errorAt m_failed m_thrown m_input m_inputMany m_fitting m_given m_pairs m_line m_lineMany m_letters m_begins0 m_commands m_commandMany m_place0 m_size0 m_isWrong) 0 [(0, .ref (ad o)), (1, .int a0)] []
  unfold f_X10_renewFace at hf
  refine j_aload_n hX dX10_renewFace_0 rfl 0 rfl ?_
  obtain ⟨u1, h2, hf⟩ := jbind hf
  refine j_callV (st := []) hX (k_X10_starts (l := l) (D := D) (t := t) (ad := ad) (o := o) m_m m_aside m_saved m_isSaved m_past m_changes m_errorAt m_failed m_thrown m_input m_inputMany m_fitting m_given m_pairs m_line m_lineMany m_letters m_begins0 m_commands m_commandMany m_place0 m_size0 m_isWrong  u1 h2) q1486 q1487 q1949 q15 q1488 (n9 := 0) rfl ⟨by decide +kernel, by decide +kernel⟩ 0 rfl rfl rfl dX10_renewFace_1 (Nat.le_of_ble_eq_true rfl) ⟨Nat.le_refl _, Nat.le_refl _⟩ (fun w : va_W => w) jFr_id rfl rfl (fun v w hvw => ?_)
  obtain ⟨rfl, rfl⟩ := hvw
  change J X 0 0 (wM t ad o m_m u1.1 m_saved m_isSaved m_past m_changes m_errorAt m_failed u1.2 m_input m_inputMany m_fitting m_given m_pairs m_line m_lineMany m_letters m_begins0 m_commands m_commandMany m_place0 m_size0 m_isWrong) 4 [(0, .ref (ad o)), (1, .int a0)] []
  refine j_aload_n hX dX10_renewFace_4 rfl 0 rfl ?_
  refine j_aload_n hX dX10_renewFace_5 rfl 0 rfl ?_
  refine j_iload_n hX dX10_renewFace_6 rfl 1 rfl ?_
  obtain ⟨u3, h4, hf⟩ := jbind hf
  refine j_callV (st := [.ref (ad o)]) hX (k_X10_faceIt (l := l) (D := D) (t := t) (ad := ad) (o := o) m_m u1.1 m_saved m_isSaved m_past m_changes m_errorAt m_failed u1.2 m_input m_inputMany m_fitting m_given m_pairs m_line m_lineMany m_letters m_begins0 m_commands m_commandMany m_place0 m_size0 m_isWrong a0 u3 h4) q1629 q1630 q1976 q15 q1631 (n9 := 1) rfl ⟨by decide +kernel, by decide +kernel⟩ 0 rfl rfl rfl dX10_renewFace_7 (Nat.le_of_ble_eq_true rfl) ⟨Nat.le_refl _, Nat.le_refl _⟩ (fun w : va_W => w) jFr_id rfl rfl (fun v w hvw => ?_)
  obtain ⟨rfl, rfl⟩ := hvw
  change J X 0 0 (wM t ad o u3.2.1 u1.1 m_saved m_isSaved m_past m_changes m_errorAt m_failed u3.2.2 m_input m_inputMany m_fitting m_given m_pairs m_line m_lineMany m_letters m_begins0 m_commands m_commandMany m_place0 m_size0 m_isWrong) 10 [(0, .ref (ad o)), (1, .int a0)] [.int u3.1, .ref (ad o)]
  obtain ⟨u5, h6, hf⟩ := jbind hf
  refine j_callV (st := []) hX (k_X10_changed (l := l) (D := D) (t := t) (ad := ad) (o := o) u3.2.1 u1.1 m_saved m_isSaved m_past m_changes m_errorAt m_failed u3.2.2 m_input m_inputMany m_fitting m_given m_pairs m_line m_lineMany m_letters m_begins0 m_commands m_commandMany m_place0 m_size0 m_isWrong u3.1 u5 h6) q1512 q1513 q1954 q15 q1514 (n9 := 1) rfl ⟨by decide +kernel, by decide +kernel⟩ 0 rfl rfl rfl dX10_renewFace_10 (Nat.le_of_ble_eq_true rfl) ⟨Nat.le_refl _, Nat.le_refl _⟩ (fun w : va_W => w) jFr_id rfl rfl (fun v w hvw => ?_)
  obtain ⟨rfl, rfl⟩ := hvw
  change J X 0 0 (wM t ad o u3.2.1 u1.1 m_saved m_isSaved u5.2.1 u5.2.2 m_errorAt m_failed u3.2.2 m_input m_inputMany m_fitting m_given m_pairs m_line m_lineMany m_letters m_begins0 m_commands m_commandMany m_place0 m_size0 m_isWrong) 13 [(0, .ref (ad o)), (1, .int a0)] [.int u5.1]
  cases hf
  exact j_iret hX hE dX10_renewFace_13 (Nat.le_refl _) (Nat.le_refl _) ⟨rfl, rfl⟩
-- HammerDepotModel passesDay ()I
def f_X10_passesDay_L14  : Nat → Int32 → Int32 → (Nat → Int32) → Option (Int32 × Int32 × (Nat → Int32))
  | 0, _, _, _ => none
  | jn + 1, x2, x1, m_m =>
    if jin 5 2048 = true then
      if (m_m (5 : Int32).toNatClampNeg) ≤ x2 then
        some (x2, x1, m_m)
      else
        Option.bind (f_X10_bookingOf x2) (fun u1 =>
          if jin (u1 + 2) 2048 = true then
            if jin 1 2048 = true then
              if (m_m (u1 + 2).toNatClampNeg) = (m_m (1 : Int32).toNatClampNeg) then
                if jin u1 2048 = true then
                  Option.bind (f_X10_hammerOf (m_m (u1).toNatClampNeg)) (fun u3 =>
                    if jin (u3 + 2) 2048 = true then
                      if (m_m (u3 + 2).toNatClampNeg) = (-1) then
                        if jin 6 2048 = true then
                          if jin 6 2048 = true then
                            Option.bind (f_X10_dropsBooking (upd m_m (6 : Int32).toNatClampNeg ((m_m (6 : Int32).toNatClampNeg) + 1)) x2) (fun u7 =>
                              f_X10_passesDay_L14  jn x2 x1 u7)
                          else none
                        else none
                      else
                        if jin (u3 + 2) 2048 = true then
                          if jin (u3 + 3) 2048 = true then
                            if jin (u1 + 1) 2048 = true then
                              if jin (u3 + 4) 2048 = true then
                                if jin (u1 + 3) 2048 = true then
                                  if jin (u3 + 5) 2048 = true then
                                    if jin 7 2048 = true then
                                      if jin 7 2048 = true then
                                        Option.bind (f_X10_dropsBooking (upd (upd (upd (upd (upd m_m (u3 + 2).toNatClampNeg (-1)) (u3 + 3).toNatClampNeg (-1)) (u3 + 4).toNatClampNeg ((upd (upd m_m (u3 + 2).toNatClampNeg (-1)) (u3 + 3).toNatClampNeg (-1)) (u1 + 1).toNatClampNeg)) (u3 + 5).toNatClampNeg ((upd (upd (upd m_m (u3 + 2).toNatClampNeg (-1)) (u3 + 3).toNatClampNeg (-1)) (u3 + 4).toNatClampNeg ((upd (upd m_m (u3 + 2).toNatClampNeg (-1)) (u3 + 3).toNatClampNeg (-1)) (u1 + 1).toNatClampNeg)) (u1 + 3).toNatClampNeg)) (7 : Int32).toNatClampNeg (((upd (upd (upd (upd m_m (u3 + 2).toNatClampNeg (-1)) (u3 + 3).toNatClampNeg (-1)) (u3 + 4).toNatClampNeg ((upd (upd m_m (u3 + 2).toNatClampNeg (-1)) (u3 + 3).toNatClampNeg (-1)) (u1 + 1).toNatClampNeg)) (u3 + 5).toNatClampNeg ((upd (upd (upd m_m (u3 + 2).toNatClampNeg (-1)) (u3 + 3).toNatClampNeg (-1)) (u3 + 4).toNatClampNeg ((upd (upd m_m (u3 + 2).toNatClampNeg (-1)) (u3 + 3).toNatClampNeg (-1)) (u1 + 1).toNatClampNeg)) (u1 + 3).toNatClampNeg)) (7 : Int32).toNatClampNeg) + 1)) x2) (fun u5 =>
                                          f_X10_passesDay_L14  jn x2 (x1 + 1) u5)
                                      else none
                                    else none
                                  else none
                                else none
                              else none
                            else none
                          else none
                        else none
                    else none)
                else none
              else
                f_X10_passesDay_L14  jn (x2 + 1) x1 m_m
            else none
          else none)
    else none
def f_X10_passesDay (m_m : Nat → Int32) : Option (Int32 × (Nat → Int32)) :=
  if jin 1 2048 = true then
    if jin 1 2048 = true then
      Option.bind (f_X10_passesDay_L14  jFU 0 0 (upd m_m (1 : Int32).toNatClampNeg ((m_m (1 : Int32).toNatClampNeg) + 1))) (fun s10 =>
        some (s10.2.1, s10.2.2))
    else none
  else none
set_option maxHeartbeats 4000000 in
set_option maxRecDepth 100000 in
theorem k_X10_passesDay_L14 {l : Launch} {D : va_G} {t : Nat → ClassId} {ad : Nat → Nat} {o : Nat}  (m_aside : Nat → Int32) (m_saved : Nat → Int32) (m_isSaved : Int32) (m_past : Nat → Int32) (m_changes : Int32) (m_errorAt : Int32) (m_failed : Int32) (m_thrown : Int32) (m_input : Nat → Int32) (m_inputMany : Int32) (m_fitting : Nat → Int32) (m_given : Nat → Int32) (m_pairs : Nat → Int32) (m_line : Nat → Int32) (m_lineMany : Int32) (m_letters : Nat → Int32) (m_begins0 : Nat → Int32) (m_commands : Nat → Int32) (m_commandMany : Int32) (m_place0 : Int32) (m_size0 : Int32) (m_isWrong : Int32) {X : jX} (hX : jOK X l D (jT t) cX10_passesDay RX10 (some FieldType.int) { frames := 2, cells := 0, slots := 0, locals := 42 } 5) :
    ∀ (jn : Nat) (x2 : Int32) (x1 : Int32) (m_m : Nat → Int32) (u : Int32 × Int32 × (Nat → Int32)) (hf : f_X10_passesDay_L14  jn x2 x1 m_m = some u) (kx : ∀ s : Int32 × Int32 × (Nat → Int32), u = s → J X 0 0 (wM t ad o s.2.2 m_aside m_saved m_isSaved m_past m_changes m_errorAt m_failed m_thrown m_input m_inputMany m_fitting m_given m_pairs m_line m_lineMany m_letters m_begins0 m_commands m_commandMany m_place0 m_size0 m_isWrong) 166 [(2, .int s.1), (1, .int s.2.1), (0, .ref (ad o))] []), J X 0 0 (wM t ad o m_m m_aside m_saved m_isSaved m_past m_changes m_errorAt m_failed m_thrown m_input m_inputMany m_fitting m_given m_pairs m_line m_lineMany m_letters m_begins0 m_commands m_commandMany m_place0 m_size0 m_isWrong) 14 [(2, .int x2), (1, .int x1), (0, .ref (ad o))] [] := by
  intro jn
  induction jn with
  | zero => intro x2 x1 m_m u hf; cases (show (none : Option (Int32 × Int32 × (Nat → Int32))) = some u from hf)
  | succ jn ih =>
    intro x2 x1 m_m u hf kx
    unfold f_X10_passesDay_L14 at hf
    refine j_iload_n hX dX10_passesDay_14 rfl 0 rfl ?_
    refine j_aload_n hX dX10_passesDay_15 rfl 2 rfl ?_
    refine j_get hX dX10_passesDay_16 inX10 0 q1455 0 rfl rfl (by decide) rfl rfl ?_
    refine j_iconst hX 5 dX10_passesDay_19 (by decide) ?_
    refine j_iald hX dX10_passesDay_20 1 0 rfl rfl hf (fun c20 hf => ?_)
    refine j_icmp_ge hX 166 dX10_passesDay_21 (by decide) hf (fun c21 hf => ?_) (fun c21 hf => ?_)
    · cases hf
      exact kx _ rfl
    · refine j_iload_n hX dX10_passesDay_24 rfl 0 rfl ?_
      obtain ⟨u1, h2, hf⟩ := jbind hf
      refine j_callS (st := []) hX (k_X10_bookingOf (l := l) (D := D) (t := t) (ad := ad)  x2 u1 h2) q1587 q1588 q15 q1589 (n9 := 1) rfl ⟨by decide +kernel, by decide +kernel⟩ dX10_passesDay_25 (Nat.le_of_ble_eq_true rfl) ⟨Nat.le_refl _, Nat.le_refl _⟩ (fun w : va_W => w ++ (wM t ad o m_m m_aside m_saved m_isSaved m_past m_changes m_errorAt m_failed m_thrown m_input m_inputMany m_fitting m_given m_pairs m_line m_lineMany m_letters m_begins0 m_commands m_commandMany m_place0 m_size0 m_isWrong)) (jFr_r (wM t ad o m_m m_aside m_saved m_isSaved m_past m_changes m_errorAt m_failed m_thrown m_input m_inputMany m_fitting m_given m_pairs m_line m_lineMany m_letters m_begins0 m_commands m_commandMany m_place0 m_size0 m_isWrong)) rfl rfl (fun v w hvw => ?_)
      obtain ⟨rfl, rfl⟩ := hvw
      change J X 0 0 (wM t ad o m_m m_aside m_saved m_isSaved m_past m_changes m_errorAt m_failed m_thrown m_input m_inputMany m_fitting m_given m_pairs m_line m_lineMany m_letters m_begins0 m_commands m_commandMany m_place0 m_size0 m_isWrong) 28 [(2, .int x2), (1, .int x1), (0, .ref (ad o))] [.int u1]
      refine j_istore_n hX [(3, .int u1), (2, .int x2), (1, .int x1), (0, .ref (ad o))] dX10_passesDay_28 rfl (by decide) rfl ?_
      refine j_aload_n hX dX10_passesDay_29 rfl 3 rfl ?_
      refine j_get hX dX10_passesDay_30 inX10 0 q1455 0 rfl rfl (by decide) rfl rfl ?_
      refine j_iload_n hX dX10_passesDay_33 rfl 0 rfl ?_
      refine j_iconst hX 2 dX10_passesDay_34 (by decide) ?_
      refine j_iadd hX dX10_passesDay_35 ?_
      refine j_iald hX dX10_passesDay_36 1 0 rfl rfl hf (fun c36 hf => ?_)
      refine j_aload_n hX dX10_passesDay_37 rfl 3 rfl ?_
      refine j_get hX dX10_passesDay_38 inX10 0 q1455 0 rfl rfl (by decide) rfl rfl ?_
      refine j_iconst hX 1 dX10_passesDay_41 (by decide) ?_
      refine j_iald hX dX10_passesDay_42 1 0 rfl rfl hf (fun c42 hf => ?_)
      refine j_icmp_ne hX 160 dX10_passesDay_43 (by decide) hf (fun c43 hf => ?_) (fun c43 hf => ?_)
      · refine j_iinc hX (x2 + 1) [(2, .int (x2 + 1)), (3, .int u1), (1, .int x1), (0, .ref (ad o))] dX10_passesDay_160 1 rfl rfl (by decide) rfl ?_
        refine j_goto hX 14 dX10_passesDay_163 (by decide) ?_
        refine j_sub hX [(2, .int (x2 + 1)), (1, .int x1), (0, .ref (ad o))] [0, 2, 3] rfl ?_
        exact ih (x2 + 1) x1 m_m u hf kx
      · refine j_aload_n hX dX10_passesDay_46 rfl 3 rfl ?_
        refine j_get hX dX10_passesDay_47 inX10 0 q1455 0 rfl rfl (by decide) rfl rfl ?_
        refine j_iload_n hX dX10_passesDay_50 rfl 0 rfl ?_
        refine j_iald hX dX10_passesDay_51 1 0 rfl rfl hf (fun c51 hf => ?_)
        obtain ⟨u3, h4, hf⟩ := jbind hf
        refine j_callS (st := []) hX (k_X10_hammerOf (l := l) (D := D) (t := t) (ad := ad)  (m_m (u1).toNatClampNeg) u3 h4) q1509 q1510 q15 q1511 (n9 := 1) rfl ⟨by decide +kernel, by decide +kernel⟩ dX10_passesDay_52 (Nat.le_of_ble_eq_true rfl) ⟨Nat.le_refl _, Nat.le_refl _⟩ (fun w : va_W => w ++ (wM t ad o m_m m_aside m_saved m_isSaved m_past m_changes m_errorAt m_failed m_thrown m_input m_inputMany m_fitting m_given m_pairs m_line m_lineMany m_letters m_begins0 m_commands m_commandMany m_place0 m_size0 m_isWrong)) (jFr_r (wM t ad o m_m m_aside m_saved m_isSaved m_past m_changes m_errorAt m_failed m_thrown m_input m_inputMany m_fitting m_given m_pairs m_line m_lineMany m_letters m_begins0 m_commands m_commandMany m_place0 m_size0 m_isWrong)) rfl rfl (fun v w hvw => ?_)
        obtain ⟨rfl, rfl⟩ := hvw
        change J X 0 0 (wM t ad o m_m m_aside m_saved m_isSaved m_past m_changes m_errorAt m_failed m_thrown m_input m_inputMany m_fitting m_given m_pairs m_line m_lineMany m_letters m_begins0 m_commands m_commandMany m_place0 m_size0 m_isWrong) 55 [(3, .int u1), (2, .int x2), (1, .int x1), (0, .ref (ad o))] [.int u3]
        refine j_istore hX [(4, .int u3), (3, .int u1), (2, .int x2), (1, .int x1), (0, .ref (ad o))] dX10_passesDay_55 (by decide) rfl ?_
        refine j_aload_n hX dX10_passesDay_57 rfl 4 rfl ?_
        refine j_get hX dX10_passesDay_58 inX10 0 q1455 0 rfl rfl (by decide) rfl rfl ?_
        refine j_iload hX dX10_passesDay_61 0 rfl ?_
        refine j_iconst hX 2 dX10_passesDay_63 (by decide) ?_
        refine j_iadd hX dX10_passesDay_64 ?_
        refine j_iald hX dX10_passesDay_65 1 0 rfl rfl hf (fun c65 hf => ?_)
        refine j_iconst hX (-1) dX10_passesDay_66 (by decide) ?_
        refine j_icmp_ne hX 84 dX10_passesDay_67 (by decide) hf (fun c67 hf => ?_) (fun c67 hf => ?_)
        · refine j_aload_n hX dX10_passesDay_84 rfl 4 rfl ?_
          refine j_get hX dX10_passesDay_85 inX10 0 q1455 0 rfl rfl (by decide) rfl rfl ?_
          refine j_iload hX dX10_passesDay_88 0 rfl ?_
          refine j_iconst hX 2 dX10_passesDay_90 (by decide) ?_
          refine j_iadd hX dX10_passesDay_91 ?_
          refine j_iconst hX (-1) dX10_passesDay_92 (by decide) ?_
          refine j_iast hX (wM t ad o (upd m_m (u3 + 2).toNatClampNeg (-1)) m_aside m_saved m_isSaved m_past m_changes m_errorAt m_failed m_thrown m_input m_inputMany m_fitting m_given m_pairs m_line m_lineMany m_letters m_begins0 m_commands m_commandMany m_place0 m_size0 m_isWrong) dX10_passesDay_93 1 0 rfl rfl rfl hf (fun c93 hf => ?_)
          refine j_aload_n hX dX10_passesDay_94 rfl 4 rfl ?_
          refine j_get hX dX10_passesDay_95 inX10 0 q1455 0 rfl rfl (by decide) rfl rfl ?_
          refine j_iload hX dX10_passesDay_98 0 rfl ?_
          refine j_iconst hX 3 dX10_passesDay_100 (by decide) ?_
          refine j_iadd hX dX10_passesDay_101 ?_
          refine j_iconst hX (-1) dX10_passesDay_102 (by decide) ?_
          refine j_iast hX (wM t ad o (upd (upd m_m (u3 + 2).toNatClampNeg (-1)) (u3 + 3).toNatClampNeg (-1)) m_aside m_saved m_isSaved m_past m_changes m_errorAt m_failed m_thrown m_input m_inputMany m_fitting m_given m_pairs m_line m_lineMany m_letters m_begins0 m_commands m_commandMany m_place0 m_size0 m_isWrong) dX10_passesDay_103 1 0 rfl rfl rfl hf (fun c103 hf => ?_)
          refine j_aload_n hX dX10_passesDay_104 rfl 4 rfl ?_
          refine j_get hX dX10_passesDay_105 inX10 0 q1455 0 rfl rfl (by decide) rfl rfl ?_
          refine j_iload hX dX10_passesDay_108 0 rfl ?_
          refine j_iconst hX 4 dX10_passesDay_110 (by decide) ?_
          refine j_iadd hX dX10_passesDay_111 ?_
          refine j_aload_n hX dX10_passesDay_112 rfl 4 rfl ?_
          refine j_get hX dX10_passesDay_113 inX10 0 q1455 0 rfl rfl (by decide) rfl rfl ?_
          refine j_iload_n hX dX10_passesDay_116 rfl 1 rfl ?_
          refine j_iconst hX 1 dX10_passesDay_117 (by decide) ?_
          refine j_iadd hX dX10_passesDay_118 ?_
          refine j_iald hX dX10_passesDay_119 1 0 rfl rfl hf (fun c119 hf => ?_)
          refine j_iast hX (wM t ad o (upd (upd (upd m_m (u3 + 2).toNatClampNeg (-1)) (u3 + 3).toNatClampNeg (-1)) (u3 + 4).toNatClampNeg ((upd (upd m_m (u3 + 2).toNatClampNeg (-1)) (u3 + 3).toNatClampNeg (-1)) (u1 + 1).toNatClampNeg)) m_aside m_saved m_isSaved m_past m_changes m_errorAt m_failed m_thrown m_input m_inputMany m_fitting m_given m_pairs m_line m_lineMany m_letters m_begins0 m_commands m_commandMany m_place0 m_size0 m_isWrong) dX10_passesDay_120 1 0 rfl rfl rfl hf (fun c120 hf => ?_)
          refine j_aload_n hX dX10_passesDay_121 rfl 4 rfl ?_
          refine j_get hX dX10_passesDay_122 inX10 0 q1455 0 rfl rfl (by decide) rfl rfl ?_
          refine j_iload hX dX10_passesDay_125 0 rfl ?_
          refine j_iconst hX 5 dX10_passesDay_127 (by decide) ?_
          refine j_iadd hX dX10_passesDay_128 ?_
          refine j_aload_n hX dX10_passesDay_129 rfl 4 rfl ?_
          refine j_get hX dX10_passesDay_130 inX10 0 q1455 0 rfl rfl (by decide) rfl rfl ?_
          refine j_iload_n hX dX10_passesDay_133 rfl 1 rfl ?_
          refine j_iconst hX 3 dX10_passesDay_134 (by decide) ?_
          refine j_iadd hX dX10_passesDay_135 ?_
          refine j_iald hX dX10_passesDay_136 1 0 rfl rfl hf (fun c136 hf => ?_)
          refine j_iast hX (wM t ad o (upd (upd (upd (upd m_m (u3 + 2).toNatClampNeg (-1)) (u3 + 3).toNatClampNeg (-1)) (u3 + 4).toNatClampNeg ((upd (upd m_m (u3 + 2).toNatClampNeg (-1)) (u3 + 3).toNatClampNeg (-1)) (u1 + 1).toNatClampNeg)) (u3 + 5).toNatClampNeg ((upd (upd (upd m_m (u3 + 2).toNatClampNeg (-1)) (u3 + 3).toNatClampNeg (-1)) (u3 + 4).toNatClampNeg ((upd (upd m_m (u3 + 2).toNatClampNeg (-1)) (u3 + 3).toNatClampNeg (-1)) (u1 + 1).toNatClampNeg)) (u1 + 3).toNatClampNeg)) m_aside m_saved m_isSaved m_past m_changes m_errorAt m_failed m_thrown m_input m_inputMany m_fitting m_given m_pairs m_line m_lineMany m_letters m_begins0 m_commands m_commandMany m_place0 m_size0 m_isWrong) dX10_passesDay_137 1 0 rfl rfl rfl hf (fun c137 hf => ?_)
          refine j_aload_n hX dX10_passesDay_138 rfl 4 rfl ?_
          refine j_get hX dX10_passesDay_139 inX10 0 q1455 0 rfl rfl (by decide) rfl rfl ?_
          refine j_bipush hX 7 dX10_passesDay_142 (by decide) ?_
          refine j_dup2 hX dX10_passesDay_144 rfl rfl ?_
          refine j_iald hX dX10_passesDay_145 1 0 rfl rfl hf (fun c145 hf => ?_)
          refine j_iconst hX 1 dX10_passesDay_146 (by decide) ?_
          refine j_iadd hX dX10_passesDay_147 ?_
          refine j_iast hX (wM t ad o (upd (upd (upd (upd (upd m_m (u3 + 2).toNatClampNeg (-1)) (u3 + 3).toNatClampNeg (-1)) (u3 + 4).toNatClampNeg ((upd (upd m_m (u3 + 2).toNatClampNeg (-1)) (u3 + 3).toNatClampNeg (-1)) (u1 + 1).toNatClampNeg)) (u3 + 5).toNatClampNeg ((upd (upd (upd m_m (u3 + 2).toNatClampNeg (-1)) (u3 + 3).toNatClampNeg (-1)) (u3 + 4).toNatClampNeg ((upd (upd m_m (u3 + 2).toNatClampNeg (-1)) (u3 + 3).toNatClampNeg (-1)) (u1 + 1).toNatClampNeg)) (u1 + 3).toNatClampNeg)) (7 : Int32).toNatClampNeg (((upd (upd (upd (upd m_m (u3 + 2).toNatClampNeg (-1)) (u3 + 3).toNatClampNeg (-1)) (u3 + 4).toNatClampNeg ((upd (upd m_m (u3 + 2).toNatClampNeg (-1)) (u3 + 3).toNatClampNeg (-1)) (u1 + 1).toNatClampNeg)) (u3 + 5).toNatClampNeg ((upd (upd (upd m_m (u3 + 2).toNatClampNeg (-1)) (u3 + 3).toNatClampNeg (-1)) (u3 + 4).toNatClampNeg ((upd (upd m_m (u3 + 2).toNatClampNeg (-1)) (u3 + 3).toNatClampNeg (-1)) (u1 + 1).toNatClampNeg)) (u1 + 3).toNatClampNeg)) (7 : Int32).toNatClampNeg) + 1)) m_aside m_saved m_isSaved m_past m_changes m_errorAt m_failed m_thrown m_input m_inputMany m_fitting m_given m_pairs m_line m_lineMany m_letters m_begins0 m_commands m_commandMany m_place0 m_size0 m_isWrong) dX10_passesDay_148 1 0 rfl rfl rfl hf (fun c148 hf => ?_)
          refine j_iinc hX (x1 + 1) [(1, .int (x1 + 1)), (4, .int u3), (3, .int u1), (2, .int x2), (0, .ref (ad o))] dX10_passesDay_149 3 rfl rfl (by decide) rfl ?_
          refine j_aload_n hX dX10_passesDay_152 rfl 4 rfl ?_
          refine j_iload_n hX dX10_passesDay_153 rfl 3 rfl ?_
          obtain ⟨u5, h6, hf⟩ := jbind hf
          refine j_callV (st := []) hX (k_X10_dropsBooking (l := l) (D := D) (t := t) (ad := ad) (o := o) (upd (upd (upd (upd (upd m_m (u3 + 2).toNatClampNeg (-1)) (u3 + 3).toNatClampNeg (-1)) (u3 + 4).toNatClampNeg ((upd (upd m_m (u3 + 2).toNatClampNeg (-1)) (u3 + 3).toNatClampNeg (-1)) (u1 + 1).toNatClampNeg)) (u3 + 5).toNatClampNeg ((upd (upd (upd m_m (u3 + 2).toNatClampNeg (-1)) (u3 + 3).toNatClampNeg (-1)) (u3 + 4).toNatClampNeg ((upd (upd m_m (u3 + 2).toNatClampNeg (-1)) (u3 + 3).toNatClampNeg (-1)) (u1 + 1).toNatClampNeg)) (u1 + 3).toNatClampNeg)) (7 : Int32).toNatClampNeg (((upd (upd (upd (upd m_m (u3 + 2).toNatClampNeg (-1)) (u3 + 3).toNatClampNeg (-1)) (u3 + 4).toNatClampNeg ((upd (upd m_m (u3 + 2).toNatClampNeg (-1)) (u3 + 3).toNatClampNeg (-1)) (u1 + 1).toNatClampNeg)) (u3 + 5).toNatClampNeg ((upd (upd (upd m_m (u3 + 2).toNatClampNeg (-1)) (u3 + 3).toNatClampNeg (-1)) (u3 + 4).toNatClampNeg ((upd (upd m_m (u3 + 2).toNatClampNeg (-1)) (u3 + 3).toNatClampNeg (-1)) (u1 + 1).toNatClampNeg)) (u1 + 3).toNatClampNeg)) (7 : Int32).toNatClampNeg) + 1)) m_aside m_saved m_isSaved m_past m_changes m_errorAt m_failed m_thrown m_input m_inputMany m_fitting m_given m_pairs m_line m_lineMany m_letters m_begins0 m_commands m_commandMany m_place0 m_size0 m_isWrong x2 u5 h6) q1643 q1644 q1979 q15 q1645 (n9 := 1) rfl ⟨by decide +kernel, by decide +kernel⟩ 0 rfl rfl rfl dX10_passesDay_154 (Nat.le_of_ble_eq_true rfl) ⟨Nat.le_refl _, Nat.le_refl _⟩ (fun w : va_W => w) jFr_id rfl rfl (fun v w hvw => ?_)
          obtain ⟨rfl, rfl⟩ := hvw
          change J X 0 0 (wM t ad o u5 m_aside m_saved m_isSaved m_past m_changes m_errorAt m_failed m_thrown m_input m_inputMany m_fitting m_given m_pairs m_line m_lineMany m_letters m_begins0 m_commands m_commandMany m_place0 m_size0 m_isWrong) 157 [(1, .int (x1 + 1)), (4, .int u3), (3, .int u1), (2, .int x2), (0, .ref (ad o))] []
          refine j_goto hX 163 dX10_passesDay_157 (by decide) ?_
          refine j_goto hX 14 dX10_passesDay_163 (by decide) ?_
          refine j_sub hX [(2, .int x2), (1, .int (x1 + 1)), (0, .ref (ad o))] [3, 0, 4] rfl ?_
          exact ih x2 (x1 + 1) u5 u hf kx
        · refine j_aload_n hX dX10_passesDay_70 rfl 4 rfl ?_
          refine j_get hX dX10_passesDay_71 inX10 0 q1455 0 rfl rfl (by decide) rfl rfl ?_
          refine j_bipush hX 6 dX10_passesDay_74 (by decide) ?_
          refine j_dup2 hX dX10_passesDay_76 rfl rfl ?_
          refine j_iald hX dX10_passesDay_77 1 0 rfl rfl hf (fun c77 hf => ?_)
          refine j_iconst hX 1 dX10_passesDay_78 (by decide) ?_
          refine j_iadd hX dX10_passesDay_79 ?_
          refine j_iast hX (wM t ad o (upd m_m (6 : Int32).toNatClampNeg ((m_m (6 : Int32).toNatClampNeg) + 1)) m_aside m_saved m_isSaved m_past m_changes m_errorAt m_failed m_thrown m_input m_inputMany m_fitting m_given m_pairs m_line m_lineMany m_letters m_begins0 m_commands m_commandMany m_place0 m_size0 m_isWrong) dX10_passesDay_80 1 0 rfl rfl rfl hf (fun c80 hf => ?_)
          refine j_goto hX 152 dX10_passesDay_81 (by decide) ?_
          refine j_aload_n hX dX10_passesDay_152 rfl 4 rfl ?_
          refine j_iload_n hX dX10_passesDay_153 rfl 2 rfl ?_
          obtain ⟨u7, h8, hf⟩ := jbind hf
          refine j_callV (st := []) hX (k_X10_dropsBooking (l := l) (D := D) (t := t) (ad := ad) (o := o) (upd m_m (6 : Int32).toNatClampNeg ((m_m (6 : Int32).toNatClampNeg) + 1)) m_aside m_saved m_isSaved m_past m_changes m_errorAt m_failed m_thrown m_input m_inputMany m_fitting m_given m_pairs m_line m_lineMany m_letters m_begins0 m_commands m_commandMany m_place0 m_size0 m_isWrong x2 u7 h8) q1643 q1644 q1979 q15 q1645 (n9 := 1) rfl ⟨by decide +kernel, by decide +kernel⟩ 0 rfl rfl rfl dX10_passesDay_154 (Nat.le_of_ble_eq_true rfl) ⟨Nat.le_refl _, Nat.le_refl _⟩ (fun w : va_W => w) jFr_id rfl rfl (fun v w hvw => ?_)
          obtain ⟨rfl, rfl⟩ := hvw
          change J X 0 0 (wM t ad o u7 m_aside m_saved m_isSaved m_past m_changes m_errorAt m_failed m_thrown m_input m_inputMany m_fitting m_given m_pairs m_line m_lineMany m_letters m_begins0 m_commands m_commandMany m_place0 m_size0 m_isWrong) 157 [(4, .int u3), (3, .int u1), (2, .int x2), (1, .int x1), (0, .ref (ad o))] []
          refine j_goto hX 163 dX10_passesDay_157 (by decide) ?_
          refine j_goto hX 14 dX10_passesDay_163 (by decide) ?_
          refine j_sub hX [(2, .int x2), (1, .int x1), (0, .ref (ad o))] [2, 3, 4] rfl ?_
          exact ih x2 x1 u7 u hf kx
set_option maxHeartbeats 4000000 in
set_option maxRecDepth 100000 in
theorem k_X10_passesDay {l : Launch} {D : va_G} {t : Nat → ClassId} {ad : Nat → Nat} {o : Nat} (m_m : Nat → Int32) (m_aside : Nat → Int32) (m_saved : Nat → Int32) (m_isSaved : Int32) (m_past : Nat → Int32) (m_changes : Int32) (m_errorAt : Int32) (m_failed : Int32) (m_thrown : Int32) (m_input : Nat → Int32) (m_inputMany : Int32) (m_fitting : Nat → Int32) (m_given : Nat → Int32) (m_pairs : Nat → Int32) (m_line : Nat → Int32) (m_lineMany : Int32) (m_letters : Nat → Int32) (m_begins0 : Nat → Int32) (m_commands : Nat → Int32) (m_commandMany : Int32) (m_place0 : Int32) (m_size0 : Int32) (m_isWrong : Int32)  (u : Int32 × (Nat → Int32)) (hf : f_X10_passesDay m_m = some u) : cm l D (jT t) yX10_passesDay cX10_passesDay 5 (some FieldType.int) { frames := 2, cells := 0, slots := 0, locals := 42 } [.ref (ad o)] (wM t ad o m_m m_aside m_saved m_isSaved m_past m_changes m_errorAt m_failed m_thrown m_input m_inputMany m_fitting m_given m_pairs m_line m_lineMany m_letters m_begins0 m_commands m_commandMany m_place0 m_size0 m_isWrong) (fun v w => v = (some (.int u.1)) ∧ w = wM t ad o u.2 m_aside m_saved m_isSaved m_past m_changes m_errorAt m_failed m_thrown m_input m_inputMany m_fitting m_given m_pairs m_line m_lineMany m_letters m_begins0 m_commands m_commandMany m_place0 m_size0 m_isWrong) := by
  refine cm_of RX10 rfl (by decide +kernel) (Nat.le_of_ble_eq_true rfl) (fun X hX hE => ?_)
  change J X 0 0 (wM t ad o m_m m_aside m_saved m_isSaved m_past m_changes m_errorAt m_failed m_thrown m_input m_inputMany m_fitting m_given m_pairs m_line m_lineMany m_letters m_begins0 m_commands m_commandMany m_place0 m_size0 m_isWrong) 0 [(0, .ref (ad o))] []
  unfold f_X10_passesDay at hf
  refine j_aload_n hX dX10_passesDay_0 rfl 0 rfl ?_
  refine j_get hX dX10_passesDay_1 inX10 0 q1455 0 rfl rfl (by decide) rfl rfl ?_
  refine j_iconst hX 1 dX10_passesDay_4 (by decide) ?_
  refine j_dup2 hX dX10_passesDay_5 rfl rfl ?_
  refine j_iald hX dX10_passesDay_6 1 0 rfl rfl hf (fun c6 hf => ?_)
  refine j_iconst hX 1 dX10_passesDay_7 (by decide) ?_
  refine j_iadd hX dX10_passesDay_8 ?_
  refine j_iast hX (wM t ad o (upd m_m (1 : Int32).toNatClampNeg ((m_m (1 : Int32).toNatClampNeg) + 1)) m_aside m_saved m_isSaved m_past m_changes m_errorAt m_failed m_thrown m_input m_inputMany m_fitting m_given m_pairs m_line m_lineMany m_letters m_begins0 m_commands m_commandMany m_place0 m_size0 m_isWrong) dX10_passesDay_9 1 0 rfl rfl rfl hf (fun c9 hf => ?_)
  refine j_iconst hX 0 dX10_passesDay_10 (by decide) ?_
  refine j_istore_n hX [(1, .int 0), (0, .ref (ad o))] dX10_passesDay_11 rfl (by decide) rfl ?_
  refine j_iconst hX 0 dX10_passesDay_12 (by decide) ?_
  refine j_istore_n hX [(2, .int 0), (1, .int 0), (0, .ref (ad o))] dX10_passesDay_13 rfl (by decide) rfl ?_
  obtain ⟨s10, h11, hf⟩ := jbind hf
  refine k_X10_passesDay_L14 (ad := ad)  m_aside m_saved m_isSaved m_past m_changes m_errorAt m_failed m_thrown m_input m_inputMany m_fitting m_given m_pairs m_line m_lineMany m_letters m_begins0 m_commands m_commandMany m_place0 m_size0 m_isWrong hX jFU 0 0 (upd m_m (1 : Int32).toNatClampNeg ((m_m (1 : Int32).toNatClampNeg) + 1)) s10 h11 (fun s100 es10 => ?_)
  subst es10
  refine j_iload_n hX dX10_passesDay_166 rfl 1 rfl ?_
  cases hf
  exact j_iret hX hE dX10_passesDay_167 (Nat.le_refl _) (Nat.le_refl _) ⟨rfl, rfl⟩
-- HammerDepotModel daysIt (I)I
def f_X10_daysIt_L22 (x1 : Int32) : Nat → Int32 → Int32 → (Nat → Int32) → Option (Int32 × Int32 × (Nat → Int32))
  | 0, _, _, _ => none
  | jn + 1, x3, x2, m_m =>
    if x1 ≤ x3 then
      some (x3, x2, m_m)
    else
      Option.bind (f_X10_passesDay m_m) (fun u3 =>
        f_X10_daysIt_L22 x1 jn (x3 + 1) (x2 + u3.1) u3.2)
def f_X10_daysIt (m_m : Nat → Int32) (m_thrown : Int32) (a0 : Int32) : Option (Int32 × (Nat → Int32) × Int32) :=
  Option.bind (f_X10_in ((a0).toInt64) (1 : Int64) (30 : Int64)) (fun u1 =>
    if u1 = 0 then
      Option.bind (f_X10_throwing m_thrown 1) (fun u8 =>
        some (u8.1, m_m, u8.2))
    else
      Option.bind (f_X10_daysIt_L22 a0 jFU 0 0 m_m) (fun s6 =>
        some (s6.2.1, s6.2.2, m_thrown)))
set_option maxHeartbeats 4000000 in
set_option maxRecDepth 100000 in
theorem k_X10_daysIt_L22 {l : Launch} {D : va_G} {t : Nat → ClassId} {ad : Nat → Nat} {o : Nat} (x1 : Int32) (m_aside : Nat → Int32) (m_saved : Nat → Int32) (m_isSaved : Int32) (m_past : Nat → Int32) (m_changes : Int32) (m_errorAt : Int32) (m_failed : Int32) (m_thrown : Int32) (m_input : Nat → Int32) (m_inputMany : Int32) (m_fitting : Nat → Int32) (m_given : Nat → Int32) (m_pairs : Nat → Int32) (m_line : Nat → Int32) (m_lineMany : Int32) (m_letters : Nat → Int32) (m_begins0 : Nat → Int32) (m_commands : Nat → Int32) (m_commandMany : Int32) (m_place0 : Int32) (m_size0 : Int32) (m_isWrong : Int32) {X : jX} (hX : jOK X l D (jT t) cX10_daysIt RX10 (some FieldType.int) { frames := 3, cells := 0, slots := 0, locals := 66 } 4) :
    ∀ (jn : Nat) (x3 : Int32) (x2 : Int32) (m_m : Nat → Int32) (u : Int32 × Int32 × (Nat → Int32)) (hf : f_X10_daysIt_L22 x1 jn x3 x2 m_m = some u) (kx : ∀ s : Int32 × Int32 × (Nat → Int32), u = s → J X 0 0 (wM t ad o s.2.2 m_aside m_saved m_isSaved m_past m_changes m_errorAt m_failed m_thrown m_input m_inputMany m_fitting m_given m_pairs m_line m_lineMany m_letters m_begins0 m_commands m_commandMany m_place0 m_size0 m_isWrong) 40 [(3, .int s.1), (2, .int s.2.1), (0, .ref (ad o)), (1, .int x1)] []), J X 0 0 (wM t ad o m_m m_aside m_saved m_isSaved m_past m_changes m_errorAt m_failed m_thrown m_input m_inputMany m_fitting m_given m_pairs m_line m_lineMany m_letters m_begins0 m_commands m_commandMany m_place0 m_size0 m_isWrong) 22 [(3, .int x3), (2, .int x2), (0, .ref (ad o)), (1, .int x1)] [] := by
  intro jn
  induction jn with
  | zero => intro x3 x2 m_m u hf; cases (show (none : Option (Int32 × Int32 × (Nat → Int32))) = some u from hf)
  | succ jn ih =>
    intro x3 x2 m_m u hf kx
    unfold f_X10_daysIt_L22 at hf
    refine j_iload_n hX dX10_daysIt_22 rfl 0 rfl ?_
    refine j_iload_n hX dX10_daysIt_23 rfl 3 rfl ?_
    refine j_icmp_ge hX 40 dX10_daysIt_24 (by decide) hf (fun c24 hf => ?_) (fun c24 hf => ?_)
    · cases hf
      exact kx _ rfl
    · refine j_iload_n hX dX10_daysIt_27 rfl 1 rfl ?_
      refine j_aload_n hX dX10_daysIt_28 rfl 2 rfl ?_
      obtain ⟨u3, h4, hf⟩ := jbind hf
      refine j_callV (st := [.int x2]) hX (k_X10_passesDay (l := l) (D := D) (t := t) (ad := ad) (o := o) m_m m_aside m_saved m_isSaved m_past m_changes m_errorAt m_failed m_thrown m_input m_inputMany m_fitting m_given m_pairs m_line m_lineMany m_letters m_begins0 m_commands m_commandMany m_place0 m_size0 m_isWrong  u3 h4) q1640 q1641 q1978 q15 q1642 (n9 := 0) rfl ⟨by decide +kernel, by decide +kernel⟩ 0 rfl rfl rfl dX10_daysIt_29 (Nat.le_of_ble_eq_true rfl) ⟨Nat.le_refl _, Nat.le_refl _⟩ (fun w : va_W => w) jFr_id rfl rfl (fun v w hvw => ?_)
      obtain ⟨rfl, rfl⟩ := hvw
      change J X 0 0 (wM t ad o u3.2 m_aside m_saved m_isSaved m_past m_changes m_errorAt m_failed m_thrown m_input m_inputMany m_fitting m_given m_pairs m_line m_lineMany m_letters m_begins0 m_commands m_commandMany m_place0 m_size0 m_isWrong) 32 [(3, .int x3), (2, .int x2), (0, .ref (ad o)), (1, .int x1)] [.int u3.1, .int x2]
      refine j_iadd hX dX10_daysIt_32 ?_
      refine j_istore_n hX [(2, .int (x2 + u3.1)), (3, .int x3), (0, .ref (ad o)), (1, .int x1)] dX10_daysIt_33 rfl (by decide) rfl ?_
      refine j_iinc hX (x3 + 1) [(3, .int (x3 + 1)), (2, .int (x2 + u3.1)), (0, .ref (ad o)), (1, .int x1)] dX10_daysIt_34 1 rfl rfl (by decide) rfl ?_
      refine j_goto hX 22 dX10_daysIt_37 (by decide) ?_
      exact ih (x3 + 1) (x2 + u3.1) u3.2 u hf kx
set_option maxHeartbeats 4000000 in
set_option maxRecDepth 100000 in
theorem k_X10_daysIt {l : Launch} {D : va_G} {t : Nat → ClassId} {ad : Nat → Nat} {o : Nat} (m_m : Nat → Int32) (m_aside : Nat → Int32) (m_saved : Nat → Int32) (m_isSaved : Int32) (m_past : Nat → Int32) (m_changes : Int32) (m_errorAt : Int32) (m_failed : Int32) (m_thrown : Int32) (m_input : Nat → Int32) (m_inputMany : Int32) (m_fitting : Nat → Int32) (m_given : Nat → Int32) (m_pairs : Nat → Int32) (m_line : Nat → Int32) (m_lineMany : Int32) (m_letters : Nat → Int32) (m_begins0 : Nat → Int32) (m_commands : Nat → Int32) (m_commandMany : Int32) (m_place0 : Int32) (m_size0 : Int32) (m_isWrong : Int32) (a0 : Int32) (u : Int32 × (Nat → Int32) × Int32) (hf : f_X10_daysIt m_m m_thrown a0 = some u) : cm l D (jT t) yX10_daysIt cX10_daysIt 4 (some FieldType.int) { frames := 3, cells := 0, slots := 0, locals := 66 } [.ref (ad o), .int a0] (wM t ad o m_m m_aside m_saved m_isSaved m_past m_changes m_errorAt m_failed m_thrown m_input m_inputMany m_fitting m_given m_pairs m_line m_lineMany m_letters m_begins0 m_commands m_commandMany m_place0 m_size0 m_isWrong) (fun v w => v = (some (.int u.1)) ∧ w = wM t ad o u.2.1 m_aside m_saved m_isSaved m_past m_changes m_errorAt m_failed u.2.2 m_input m_inputMany m_fitting m_given m_pairs m_line m_lineMany m_letters m_begins0 m_commands m_commandMany m_place0 m_size0 m_isWrong) := by
  refine cm_of RX10 rfl (by decide +kernel) (Nat.le_of_ble_eq_true rfl) (fun X hX hE => ?_)
  change J X 0 0 (wM t ad o m_m m_aside m_saved m_isSaved m_past m_changes m_errorAt m_failed m_thrown m_input m_inputMany m_fitting m_given m_pairs m_line m_lineMany m_letters m_begins0 m_commands m_commandMany m_place0 m_size0 m_isWrong) 0 [(0, .ref (ad o)), (1, .int a0)] []
  unfold f_X10_daysIt at hf
  refine j_iload_n hX dX10_daysIt_0 rfl 1 rfl ?_
  refine j_i2l hX dX10_daysIt_1 ?_
  refine j_lconst hX 1 dX10_daysIt_2 (by decide) ?_
  refine j_ldc2 hX q1639 dX10_daysIt_3 ?_
  obtain ⟨u1, h2, hf⟩ := jbind hf
  refine j_callS (st := []) hX (k_X10_in (l := l) (D := D) (t := t) (ad := ad)  ((a0).toInt64) (1 : Int64) (30 : Int64) u1 h2) q1493 q1494 q15 q1495 (n9 := 3) rfl ⟨by decide +kernel, by decide +kernel⟩ dX10_daysIt_6 (Nat.le_of_ble_eq_true rfl) ⟨Nat.le_refl _, Nat.le_refl _⟩ (fun w : va_W => w ++ (wM t ad o m_m m_aside m_saved m_isSaved m_past m_changes m_errorAt m_failed m_thrown m_input m_inputMany m_fitting m_given m_pairs m_line m_lineMany m_letters m_begins0 m_commands m_commandMany m_place0 m_size0 m_isWrong)) (jFr_r (wM t ad o m_m m_aside m_saved m_isSaved m_past m_changes m_errorAt m_failed m_thrown m_input m_inputMany m_fitting m_given m_pairs m_line m_lineMany m_letters m_begins0 m_commands m_commandMany m_place0 m_size0 m_isWrong)) rfl rfl (fun v w hvw => ?_)
  obtain ⟨rfl, rfl⟩ := hvw
  change J X 0 0 (wM t ad o m_m m_aside m_saved m_isSaved m_past m_changes m_errorAt m_failed m_thrown m_input m_inputMany m_fitting m_given m_pairs m_line m_lineMany m_letters m_begins0 m_commands m_commandMany m_place0 m_size0 m_isWrong) 9 [(0, .ref (ad o)), (1, .int a0)] [.int u1]
  refine j_if_ne hX 18 dX10_daysIt_9 (by decide) hf (fun c9 hf => ?_) (fun c9 hf => ?_)
  · refine j_iconst hX 0 dX10_daysIt_18 (by decide) ?_
    refine j_istore_n hX [(2, .int 0), (0, .ref (ad o)), (1, .int a0)] dX10_daysIt_19 rfl (by decide) rfl ?_
    refine j_iconst hX 0 dX10_daysIt_20 (by decide) ?_
    refine j_istore_n hX [(3, .int 0), (2, .int 0), (0, .ref (ad o)), (1, .int a0)] dX10_daysIt_21 rfl (by decide) rfl ?_
    obtain ⟨s6, h7, hf⟩ := jbind hf
    refine k_X10_daysIt_L22 (ad := ad) a0 m_aside m_saved m_isSaved m_past m_changes m_errorAt m_failed m_thrown m_input m_inputMany m_fitting m_given m_pairs m_line m_lineMany m_letters m_begins0 m_commands m_commandMany m_place0 m_size0 m_isWrong hX jFU 0 0 m_m s6 h7 (fun s60 es6 => ?_)
    subst es6
    refine j_iload_n hX dX10_daysIt_40 rfl 1 rfl ?_
    cases hf
    exact j_iret hX hE dX10_daysIt_41 (Nat.le_refl _) (Nat.le_refl _) ⟨rfl, rfl⟩
  · refine j_aload_n hX dX10_daysIt_12 rfl 0 rfl ?_
    refine j_iconst hX 1 dX10_daysIt_13 (by decide) ?_
    obtain ⟨u8, h9, hf⟩ := jbind hf
    refine j_callV (st := []) hX (k_X10_throwing (l := l) (D := D) (t := t) (ad := ad) (o := o) m_m m_aside m_saved m_isSaved m_past m_changes m_errorAt m_failed m_thrown m_input m_inputMany m_fitting m_given m_pairs m_line m_lineMany m_letters m_begins0 m_commands m_commandMany m_place0 m_size0 m_isWrong 1 u8 h9) q1496 q1497 q1951 q15 q1498 (n9 := 1) rfl ⟨by decide +kernel, by decide +kernel⟩ 0 rfl rfl rfl dX10_daysIt_14 (Nat.le_of_ble_eq_true rfl) ⟨Nat.le_refl _, Nat.le_refl _⟩ (fun w : va_W => w) jFr_id rfl rfl (fun v w hvw => ?_)
    obtain ⟨rfl, rfl⟩ := hvw
    change J X 0 0 (wM t ad o m_m m_aside m_saved m_isSaved m_past m_changes m_errorAt m_failed u8.2 m_input m_inputMany m_fitting m_given m_pairs m_line m_lineMany m_letters m_begins0 m_commands m_commandMany m_place0 m_size0 m_isWrong) 17 [(0, .ref (ad o)), (1, .int a0)] [.int u8.1]
    cases hf
    exact j_iret hX hE dX10_daysIt_17 (Nat.le_refl _) (Nat.le_refl _) ⟨rfl, rfl⟩
-- HammerDepotModel passDays (I)I
def f_X10_passDays (m_m : Nat → Int32) (m_aside : Nat → Int32) (m_past : Nat → Int32) (m_changes : Int32) (m_thrown : Int32) (a0 : Int32) : Option (Int32 × (Nat → Int32) × (Nat → Int32) × (Nat → Int32) × Int32 × Int32) :=
  Option.bind (f_X10_starts m_m m_aside m_thrown) (fun u1 =>
    Option.bind (f_X10_daysIt m_m u1.2 a0) (fun u3 =>
      Option.bind (f_X10_changed u1.1 m_past m_changes u3.2.2 u3.1) (fun u5 =>
        some (u5.1, u3.2.1, u1.1, u5.2.1, u5.2.2, u3.2.2))))
set_option maxHeartbeats 4000000 in
set_option maxRecDepth 100000 in
theorem k_X10_passDays {l : Launch} {D : va_G} {t : Nat → ClassId} {ad : Nat → Nat} {o : Nat} (m_m : Nat → Int32) (m_aside : Nat → Int32) (m_saved : Nat → Int32) (m_isSaved : Int32) (m_past : Nat → Int32) (m_changes : Int32) (m_errorAt : Int32) (m_failed : Int32) (m_thrown : Int32) (m_input : Nat → Int32) (m_inputMany : Int32) (m_fitting : Nat → Int32) (m_given : Nat → Int32) (m_pairs : Nat → Int32) (m_line : Nat → Int32) (m_lineMany : Int32) (m_letters : Nat → Int32) (m_begins0 : Nat → Int32) (m_commands : Nat → Int32) (m_commandMany : Int32) (m_place0 : Int32) (m_size0 : Int32) (m_isWrong : Int32) (a0 : Int32) (u : Int32 × (Nat → Int32) × (Nat → Int32) × (Nat → Int32) × Int32 × Int32) (hf : f_X10_passDays m_m m_aside m_past m_changes m_thrown a0 = some u) : cm l D (jT t) yX10_passDays cX10_passDays 2 (some FieldType.int) { frames := 4, cells := 0, slots := 0, locals := 89 } [.ref (ad o), .int a0] (wM t ad o m_m m_aside m_saved m_isSaved m_past m_changes m_errorAt m_failed m_thrown m_input m_inputMany m_fitting m_given m_pairs m_line m_lineMany m_letters m_begins0 m_commands m_commandMany m_place0 m_size0 m_isWrong) (fun v w => v = (some (.int u.1)) ∧ w = wM t ad o u.2.1 u.2.2.1 m_saved m_isSaved u.2.2.2.1 u.2.2.2.2.1 m_errorAt m_failed u.2.2.2.2.2 m_input m_inputMany m_fitting m_given m_pairs m_line m_lineMany m_letters m_begins0 m_commands m_commandMany m_place0 m_size0 m_isWrong) := by
  refine cm_of RX10 rfl (by decide +kernel) (Nat.le_of_ble_eq_true rfl) (fun X hX hE => ?_)
  change J X 0 0 (wM t ad o m_m m_aside m_saved m_isSaved m_past m_changes m_errorAt m_failed m_thrown m_input m_inputMany m_fitting m_given m_pairs m_line m_lineMany m_letters m_begins0 m_commands m_commandMany m_place0 m_size0 m_isWrong) 0 [(0, .ref (ad o)), (1, .int a0)] []
  unfold f_X10_passDays at hf
  refine j_aload_n hX dX10_passDays_0 rfl 0 rfl ?_
  obtain ⟨u1, h2, hf⟩ := jbind hf
  refine j_callV (st := []) hX (k_X10_starts (l := l) (D := D) (t := t) (ad := ad) (o := o) m_m m_aside m_saved m_isSaved m_past m_changes m_errorAt m_failed m_thrown m_input m_inputMany m_fitting m_given m_pairs m_line m_lineMany m_letters m_begins0 m_commands m_commandMany m_place0 m_size0 m_isWrong  u1 h2) q1486 q1487 q1949 q15 q1488 (n9 := 0) rfl ⟨by decide +kernel, by decide +kernel⟩ 0 rfl rfl rfl dX10_passDays_1 (Nat.le_of_ble_eq_true rfl) ⟨Nat.le_refl _, Nat.le_refl _⟩ (fun w : va_W => w) jFr_id rfl rfl (fun v w hvw => ?_)
  obtain ⟨rfl, rfl⟩ := hvw
  change J X 0 0 (wM t ad o m_m u1.1 m_saved m_isSaved m_past m_changes m_errorAt m_failed u1.2 m_input m_inputMany m_fitting m_given m_pairs m_line m_lineMany m_letters m_begins0 m_commands m_commandMany m_place0 m_size0 m_isWrong) 4 [(0, .ref (ad o)), (1, .int a0)] []
  refine j_aload_n hX dX10_passDays_4 rfl 0 rfl ?_
  refine j_aload_n hX dX10_passDays_5 rfl 0 rfl ?_
  refine j_iload_n hX dX10_passDays_6 rfl 1 rfl ?_
  obtain ⟨u3, h4, hf⟩ := jbind hf
  refine j_callV (st := [.ref (ad o)]) hX (k_X10_daysIt (l := l) (D := D) (t := t) (ad := ad) (o := o) m_m u1.1 m_saved m_isSaved m_past m_changes m_errorAt m_failed u1.2 m_input m_inputMany m_fitting m_given m_pairs m_line m_lineMany m_letters m_begins0 m_commands m_commandMany m_place0 m_size0 m_isWrong a0 u3 h4) q1636 q1637 q1977 q15 q1638 (n9 := 1) rfl ⟨by decide +kernel, by decide +kernel⟩ 0 rfl rfl rfl dX10_passDays_7 (Nat.le_of_ble_eq_true rfl) ⟨Nat.le_refl _, Nat.le_refl _⟩ (fun w : va_W => w) jFr_id rfl rfl (fun v w hvw => ?_)
  obtain ⟨rfl, rfl⟩ := hvw
  change J X 0 0 (wM t ad o u3.2.1 u1.1 m_saved m_isSaved m_past m_changes m_errorAt m_failed u3.2.2 m_input m_inputMany m_fitting m_given m_pairs m_line m_lineMany m_letters m_begins0 m_commands m_commandMany m_place0 m_size0 m_isWrong) 10 [(0, .ref (ad o)), (1, .int a0)] [.int u3.1, .ref (ad o)]
  obtain ⟨u5, h6, hf⟩ := jbind hf
  refine j_callV (st := []) hX (k_X10_changed (l := l) (D := D) (t := t) (ad := ad) (o := o) u3.2.1 u1.1 m_saved m_isSaved m_past m_changes m_errorAt m_failed u3.2.2 m_input m_inputMany m_fitting m_given m_pairs m_line m_lineMany m_letters m_begins0 m_commands m_commandMany m_place0 m_size0 m_isWrong u3.1 u5 h6) q1512 q1513 q1954 q15 q1514 (n9 := 1) rfl ⟨by decide +kernel, by decide +kernel⟩ 0 rfl rfl rfl dX10_passDays_10 (Nat.le_of_ble_eq_true rfl) ⟨Nat.le_refl _, Nat.le_refl _⟩ (fun w : va_W => w) jFr_id rfl rfl (fun v w hvw => ?_)
  obtain ⟨rfl, rfl⟩ := hvw
  change J X 0 0 (wM t ad o u3.2.1 u1.1 m_saved m_isSaved u5.2.1 u5.2.2 m_errorAt m_failed u3.2.2 m_input m_inputMany m_fitting m_given m_pairs m_line m_lineMany m_letters m_begins0 m_commands m_commandMany m_place0 m_size0 m_isWrong) 13 [(0, .ref (ad o)), (1, .int a0)] [.int u5.1]
  cases hf
  exact j_iret hX hE dX10_passDays_13 (Nat.le_refl _) (Nat.le_refl _) ⟨rfl, rfl⟩
-- HammerDepotModel total (I)I
def f_X10_total (m_m : Nat → Int32) (m_thrown : Int32) (a0 : Int32) : Option (Int32 × Int32) :=
  if jin a0 2048 = true then
    some (m_m (a0).toNatClampNeg, 0)
  else none
set_option maxHeartbeats 4000000 in
set_option maxRecDepth 100000 in
theorem k_X10_total {l : Launch} {D : va_G} {t : Nat → ClassId} {ad : Nat → Nat} {o : Nat} (m_m : Nat → Int32) (m_aside : Nat → Int32) (m_saved : Nat → Int32) (m_isSaved : Int32) (m_past : Nat → Int32) (m_changes : Int32) (m_errorAt : Int32) (m_failed : Int32) (m_thrown : Int32) (m_input : Nat → Int32) (m_inputMany : Int32) (m_fitting : Nat → Int32) (m_given : Nat → Int32) (m_pairs : Nat → Int32) (m_line : Nat → Int32) (m_lineMany : Int32) (m_letters : Nat → Int32) (m_begins0 : Nat → Int32) (m_commands : Nat → Int32) (m_commandMany : Int32) (m_place0 : Int32) (m_size0 : Int32) (m_isWrong : Int32) (a0 : Int32) (u : Int32 × Int32) (hf : f_X10_total m_m m_thrown a0 = some u) : cm l D (jT t) yX10_total cX10_total 2 (some FieldType.int) { frames := 0, cells := 0, slots := 0, locals := 0 } [.ref (ad o), .int a0] (wM t ad o m_m m_aside m_saved m_isSaved m_past m_changes m_errorAt m_failed m_thrown m_input m_inputMany m_fitting m_given m_pairs m_line m_lineMany m_letters m_begins0 m_commands m_commandMany m_place0 m_size0 m_isWrong) (fun v w => v = (some (.int u.1)) ∧ w = wM t ad o m_m m_aside m_saved m_isSaved m_past m_changes m_errorAt m_failed u.2 m_input m_inputMany m_fitting m_given m_pairs m_line m_lineMany m_letters m_begins0 m_commands m_commandMany m_place0 m_size0 m_isWrong) := by
  refine cm_of RX10 rfl (by decide +kernel) (Nat.le_of_ble_eq_true rfl) (fun X hX hE => ?_)
  change J X 0 0 (wM t ad o m_m m_aside m_saved m_isSaved m_past m_changes m_errorAt m_failed m_thrown m_input m_inputMany m_fitting m_given m_pairs m_line m_lineMany m_letters m_begins0 m_commands m_commandMany m_place0 m_size0 m_isWrong) 0 [(0, .ref (ad o)), (1, .int a0)] []
  unfold f_X10_total at hf
  refine j_aload_n hX dX10_total_0 rfl 0 rfl ?_
  refine j_iconst hX 0 dX10_total_1 (by decide) ?_
  refine j_put hX (wM t ad o m_m m_aside m_saved m_isSaved m_past m_changes m_errorAt m_failed 0 m_input m_inputMany m_fitting m_given m_pairs m_line m_lineMany m_letters m_begins0 m_commands m_commandMany m_place0 m_size0 m_isWrong) tyX10 dX10_total_2 inX10 tyX10_ok nmX10 8 q1463 0 rfl rfl (by decide) rfl rfl rfl rfl rfl (Nat.le_of_ble_eq_true rfl) rfl ?_
  refine j_aload_n hX dX10_total_5 rfl 0 rfl ?_
  refine j_get hX dX10_total_6 inX10 0 q1455 0 rfl rfl (by decide) rfl rfl ?_
  refine j_iload_n hX dX10_total_9 rfl 1 rfl ?_
  refine j_iald hX dX10_total_10 1 0 rfl rfl hf (fun c10 hf => ?_)
  cases hf
  exact j_iret hX hE dX10_total_11 (Nat.le_refl _) (Nat.le_refl _) ⟨rfl, rfl⟩
-- HammerDepotModel hammerCount ()I
def f_X10_hammerCount (m_m : Nat → Int32) (m_thrown : Int32) : Option (Int32 × Int32) :=
  Option.bind (f_X10_total m_m m_thrown 0) (fun u1 =>
    some (u1.1, u1.2))
set_option maxHeartbeats 4000000 in
set_option maxRecDepth 100000 in
theorem k_X10_hammerCount {l : Launch} {D : va_G} {t : Nat → ClassId} {ad : Nat → Nat} {o : Nat} (m_m : Nat → Int32) (m_aside : Nat → Int32) (m_saved : Nat → Int32) (m_isSaved : Int32) (m_past : Nat → Int32) (m_changes : Int32) (m_errorAt : Int32) (m_failed : Int32) (m_thrown : Int32) (m_input : Nat → Int32) (m_inputMany : Int32) (m_fitting : Nat → Int32) (m_given : Nat → Int32) (m_pairs : Nat → Int32) (m_line : Nat → Int32) (m_lineMany : Int32) (m_letters : Nat → Int32) (m_begins0 : Nat → Int32) (m_commands : Nat → Int32) (m_commandMany : Int32) (m_place0 : Int32) (m_size0 : Int32) (m_isWrong : Int32)  (u : Int32 × Int32) (hf : f_X10_hammerCount m_m m_thrown = some u) : cm l D (jT t) yX10_hammerCount cX10_hammerCount 1 (some FieldType.int) { frames := 1, cells := 0, slots := 0, locals := 21 } [.ref (ad o)] (wM t ad o m_m m_aside m_saved m_isSaved m_past m_changes m_errorAt m_failed m_thrown m_input m_inputMany m_fitting m_given m_pairs m_line m_lineMany m_letters m_begins0 m_commands m_commandMany m_place0 m_size0 m_isWrong) (fun v w => v = (some (.int u.1)) ∧ w = wM t ad o m_m m_aside m_saved m_isSaved m_past m_changes m_errorAt m_failed u.2 m_input m_inputMany m_fitting m_given m_pairs m_line m_lineMany m_letters m_begins0 m_commands m_commandMany m_place0 m_size0 m_isWrong) := by
  refine cm_of RX10 rfl (by decide +kernel) (Nat.le_of_ble_eq_true rfl) (fun X hX hE => ?_)
  change J X 0 0 (wM t ad o m_m m_aside m_saved m_isSaved m_past m_changes m_errorAt m_failed m_thrown m_input m_inputMany m_fitting m_given m_pairs m_line m_lineMany m_letters m_begins0 m_commands m_commandMany m_place0 m_size0 m_isWrong) 0 [(0, .ref (ad o))] []
  unfold f_X10_hammerCount at hf
  refine j_aload_n hX dX10_hammerCount_0 rfl 0 rfl ?_
  refine j_iconst hX 0 dX10_hammerCount_1 (by decide) ?_
  obtain ⟨u1, h2, hf⟩ := jbind hf
  refine j_callV (st := []) hX (k_X10_total (l := l) (D := D) (t := t) (ad := ad) (o := o) m_m m_aside m_saved m_isSaved m_past m_changes m_errorAt m_failed m_thrown m_input m_inputMany m_fitting m_given m_pairs m_line m_lineMany m_letters m_begins0 m_commands m_commandMany m_place0 m_size0 m_isWrong 0 u1 h2) q1650 q1651 q1980 q15 q1652 (n9 := 1) rfl ⟨by decide +kernel, by decide +kernel⟩ 0 rfl rfl rfl dX10_hammerCount_2 (Nat.le_of_ble_eq_true rfl) ⟨Nat.le_refl _, Nat.le_refl _⟩ (fun w : va_W => w) jFr_id rfl rfl (fun v w hvw => ?_)
  obtain ⟨rfl, rfl⟩ := hvw
  change J X 0 0 (wM t ad o m_m m_aside m_saved m_isSaved m_past m_changes m_errorAt m_failed u1.2 m_input m_inputMany m_fitting m_given m_pairs m_line m_lineMany m_letters m_begins0 m_commands m_commandMany m_place0 m_size0 m_isWrong) 5 [(0, .ref (ad o))] [.int u1.1]
  cases hf
  exact j_iret hX hE dX10_hammerCount_5 (Nat.le_refl _) (Nat.le_refl _) ⟨rfl, rfl⟩

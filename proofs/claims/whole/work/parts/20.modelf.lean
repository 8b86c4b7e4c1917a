-- HammerDepotModel sound (II)I
def f_X10_sound_L5 (m_m : Nat → Int32) (x1 : Int32) (x2 : Int32) : Nat → Int32 → Int32 → Option (Int32 × Int32)
  | 0, _, _ => none
  | jn + 1, x4, x3 =>
    if 84 < x4 then
      some (x4, x3)
    else
      Option.bind (f_X10_hammerOf x1) (fun u1 =>
        if jin u1 2048 = true then
          Option.bind (f_X10_loud (m_m (u1).toNatClampNeg) x4) (fun u3 =>
            Option.bind (f_X10_hammerOf x2) (fun u5 =>
              if jin u5 2048 = true then
                Option.bind (f_X10_loud (m_m (u5).toNatClampNeg) x4) (fun u7 =>
                  f_X10_sound_L5 m_m x1 x2 jn (x4 + 1) (x3 + (jmin u3 u7)))
              else none))
        else none)
def f_X10_sound (m_m : Nat → Int32) (a0 : Int32) (a1 : Int32) : Option (Int32) :=
  Option.bind (f_X10_sound_L5 m_m a0 a1 jFU 0 0) (fun s10 =>
    some s10.2)
set_option maxHeartbeats 4000000 in
set_option maxRecDepth 100000 in
theorem k_X10_sound_L5 {l : Launch} {D : va_G} {t : Nat → ClassId} {ad : Nat → Nat} {o : Nat} (m_m : Nat → Int32) (x1 : Int32) (x2 : Int32) (m_aside : Nat → Int32) (m_saved : Nat → Int32) (m_isSaved : Int32) (m_past : Nat → Int32) (m_changes : Int32) (m_errorAt : Int32) (m_failed : Int32) (m_thrown : Int32) (m_input : Nat → Int32) (m_inputMany : Int32) (m_fitting : Nat → Int32) (m_given : Nat → Int32) (m_pairs : Nat → Int32) (m_line : Nat → Int32) (m_lineMany : Int32) (m_letters : Nat → Int32) (m_begins0 : Nat → Int32) (m_commands : Nat → Int32) (m_commandMany : Int32) (m_place0 : Int32) (m_size0 : Int32) (m_isWrong : Int32) {X : jX} (hX : jOK X l D (jT t) cX10_sound RX10 (some FieldType.int) { frames := 1, cells := 0, slots := 0, locals := 29 } 5) :
    ∀ (jn : Nat) (x4 : Int32) (x3 : Int32) (u : Int32 × Int32) (hf : f_X10_sound_L5 m_m x1 x2 jn x4 x3 = some u) (kx : ∀ s : Int32 × Int32, u = s → J X 0 0 (wM t ad o m_m m_aside m_saved m_isSaved m_past m_changes m_errorAt m_failed m_thrown m_input m_inputMany m_fitting m_given m_pairs m_line m_lineMany m_letters m_begins0 m_commands m_commandMany m_place0 m_size0 m_isWrong) 52 [(4, .int s.1), (3, .int s.2), (0, .ref (ad o)), (1, .int x1), (2, .int x2)] []), J X 0 0 (wM t ad o m_m m_aside m_saved m_isSaved m_past m_changes m_errorAt m_failed m_thrown m_input m_inputMany m_fitting m_given m_pairs m_line m_lineMany m_letters m_begins0 m_commands m_commandMany m_place0 m_size0 m_isWrong) 5 [(4, .int x4), (3, .int x3), (0, .ref (ad o)), (1, .int x1), (2, .int x2)] [] := by
  intro jn
  induction jn with
  | zero => intro x4 x3 u hf; cases (show (none : Option (Int32 × Int32)) = some u from hf)
  | succ jn ih =>
    intro x4 x3 u hf kx
    unfold f_X10_sound_L5 at hf
    refine j_iload hX dX10_sound_5 0 rfl ?_
    refine j_bipush hX 84 dX10_sound_7 (by decide) ?_
    refine j_icmp_gt hX 52 dX10_sound_9 (by decide) hf (fun c9 hf => ?_) (fun c9 hf => ?_)
    · cases hf
      exact kx _ rfl
    · refine j_iload_n hX dX10_sound_12 rfl 1 rfl ?_
      refine j_aload_n hX dX10_sound_13 rfl 2 rfl ?_
      refine j_get hX dX10_sound_14 inX10 0 q1455 0 rfl rfl (by decide) rfl rfl ?_
      refine j_iload_n hX dX10_sound_17 rfl 3 rfl ?_
      obtain ⟨u1, h2, hf⟩ := jbind hf
      refine j_callS (st := [.ref (ad (o + 1)), .int x3]) hX (k_X10_hammerOf (l := l) (D := D) (t := t) (ad := ad)  x1 u1 h2) q1509 q1510 q15 q1511 (n9 := 1) rfl ⟨by decide +kernel, by decide +kernel⟩ dX10_sound_18 (Nat.le_of_ble_eq_true rfl) ⟨Nat.le_refl _, Nat.le_refl _⟩ (fun w : va_W => w ++ (wM t ad o m_m m_aside m_saved m_isSaved m_past m_changes m_errorAt m_failed m_thrown m_input m_inputMany m_fitting m_given m_pairs m_line m_lineMany m_letters m_begins0 m_commands m_commandMany m_place0 m_size0 m_isWrong)) (jFr_r (wM t ad o m_m m_aside m_saved m_isSaved m_past m_changes m_errorAt m_failed m_thrown m_input m_inputMany m_fitting m_given m_pairs m_line m_lineMany m_letters m_begins0 m_commands m_commandMany m_place0 m_size0 m_isWrong)) rfl rfl (fun v w hvw => ?_)
      obtain ⟨rfl, rfl⟩ := hvw
      change J X 0 0 (wM t ad o m_m m_aside m_saved m_isSaved m_past m_changes m_errorAt m_failed m_thrown m_input m_inputMany m_fitting m_given m_pairs m_line m_lineMany m_letters m_begins0 m_commands m_commandMany m_place0 m_size0 m_isWrong) 21 [(4, .int x4), (3, .int x3), (0, .ref (ad o)), (1, .int x1), (2, .int x2)] [.int u1, .ref (ad (o + 1)), .int x3]
      refine j_iald hX dX10_sound_21 1 0 rfl rfl hf (fun c21 hf => ?_)
      refine j_iload hX dX10_sound_22 0 rfl ?_
      obtain ⟨u3, h4, hf⟩ := jbind hf
      refine j_callS (st := [.int x3]) hX (k_X10_loud (l := l) (D := D) (t := t) (ad := ad)  (m_m (u1).toNatClampNeg) x4 u3 h4) q1732 q1733 q15 q1734 (n9 := 2) rfl ⟨by decide +kernel, by decide +kernel⟩ dX10_sound_24 (Nat.le_of_ble_eq_true rfl) ⟨Nat.le_refl _, Nat.le_refl _⟩ (fun w : va_W => w ++ (wM t ad o m_m m_aside m_saved m_isSaved m_past m_changes m_errorAt m_failed m_thrown m_input m_inputMany m_fitting m_given m_pairs m_line m_lineMany m_letters m_begins0 m_commands m_commandMany m_place0 m_size0 m_isWrong)) (jFr_r (wM t ad o m_m m_aside m_saved m_isSaved m_past m_changes m_errorAt m_failed m_thrown m_input m_inputMany m_fitting m_given m_pairs m_line m_lineMany m_letters m_begins0 m_commands m_commandMany m_place0 m_size0 m_isWrong)) rfl rfl (fun v w hvw => ?_)
      obtain ⟨rfl, rfl⟩ := hvw
      change J X 0 0 (wM t ad o m_m m_aside m_saved m_isSaved m_past m_changes m_errorAt m_failed m_thrown m_input m_inputMany m_fitting m_given m_pairs m_line m_lineMany m_letters m_begins0 m_commands m_commandMany m_place0 m_size0 m_isWrong) 27 [(4, .int x4), (3, .int x3), (0, .ref (ad o)), (1, .int x1), (2, .int x2)] [.int u3, .int x3]
      refine j_aload_n hX dX10_sound_27 rfl 2 rfl ?_
      refine j_get hX dX10_sound_28 inX10 0 q1455 0 rfl rfl (by decide) rfl rfl ?_
      refine j_iload_n hX dX10_sound_31 rfl 4 rfl ?_
      obtain ⟨u5, h6, hf⟩ := jbind hf
      refine j_callS (st := [.ref (ad (o + 1)), .int u3, .int x3]) hX (k_X10_hammerOf (l := l) (D := D) (t := t) (ad := ad)  x2 u5 h6) q1509 q1510 q15 q1511 (n9 := 1) rfl ⟨by decide +kernel, by decide +kernel⟩ dX10_sound_32 (Nat.le_of_ble_eq_true rfl) ⟨Nat.le_refl _, Nat.le_refl _⟩ (fun w : va_W => w ++ (wM t ad o m_m m_aside m_saved m_isSaved m_past m_changes m_errorAt m_failed m_thrown m_input m_inputMany m_fitting m_given m_pairs m_line m_lineMany m_letters m_begins0 m_commands m_commandMany m_place0 m_size0 m_isWrong)) (jFr_r (wM t ad o m_m m_aside m_saved m_isSaved m_past m_changes m_errorAt m_failed m_thrown m_input m_inputMany m_fitting m_given m_pairs m_line m_lineMany m_letters m_begins0 m_commands m_commandMany m_place0 m_size0 m_isWrong)) rfl rfl (fun v w hvw => ?_)
      obtain ⟨rfl, rfl⟩ := hvw
      change J X 0 0 (wM t ad o m_m m_aside m_saved m_isSaved m_past m_changes m_errorAt m_failed m_thrown m_input m_inputMany m_fitting m_given m_pairs m_line m_lineMany m_letters m_begins0 m_commands m_commandMany m_place0 m_size0 m_isWrong) 35 [(4, .int x4), (3, .int x3), (0, .ref (ad o)), (1, .int x1), (2, .int x2)] [.int u5, .ref (ad (o + 1)), .int u3, .int x3]
      refine j_iald hX dX10_sound_35 1 0 rfl rfl hf (fun c35 hf => ?_)
      refine j_iload hX dX10_sound_36 0 rfl ?_
      obtain ⟨u7, h8, hf⟩ := jbind hf
      refine j_callS (st := [.int u3, .int x3]) hX (k_X10_loud (l := l) (D := D) (t := t) (ad := ad)  (m_m (u5).toNatClampNeg) x4 u7 h8) q1732 q1733 q15 q1734 (n9 := 2) rfl ⟨by decide +kernel, by decide +kernel⟩ dX10_sound_38 (Nat.le_of_ble_eq_true rfl) ⟨Nat.le_refl _, Nat.le_refl _⟩ (fun w : va_W => w ++ (wM t ad o m_m m_aside m_saved m_isSaved m_past m_changes m_errorAt m_failed m_thrown m_input m_inputMany m_fitting m_given m_pairs m_line m_lineMany m_letters m_begins0 m_commands m_commandMany m_place0 m_size0 m_isWrong)) (jFr_r (wM t ad o m_m m_aside m_saved m_isSaved m_past m_changes m_errorAt m_failed m_thrown m_input m_inputMany m_fitting m_given m_pairs m_line m_lineMany m_letters m_begins0 m_commands m_commandMany m_place0 m_size0 m_isWrong)) rfl rfl (fun v w hvw => ?_)
      obtain ⟨rfl, rfl⟩ := hvw
      change J X 0 0 (wM t ad o m_m m_aside m_saved m_isSaved m_past m_changes m_errorAt m_failed m_thrown m_input m_inputMany m_fitting m_given m_pairs m_line m_lineMany m_letters m_begins0 m_commands m_commandMany m_place0 m_size0 m_isWrong) 41 [(4, .int x4), (3, .int x3), (0, .ref (ad o)), (1, .int x1), (2, .int x2)] [.int u7, .int u3, .int x3]
      refine j_mmin hX q1612 dX10_sound_41 (Nat.le_of_ble_eq_true rfl) (by decide) ⟨Nat.le_refl _, Nat.le_refl _⟩ ?_
      refine j_iadd hX dX10_sound_44 ?_
      refine j_istore_n hX [(3, .int (x3 + (jmin u3 u7))), (4, .int x4), (0, .ref (ad o)), (1, .int x1), (2, .int x2)] dX10_sound_45 rfl (by decide) rfl ?_
      refine j_iinc hX (x4 + 1) [(4, .int (x4 + 1)), (3, .int (x3 + (jmin u3 u7))), (0, .ref (ad o)), (1, .int x1), (2, .int x2)] dX10_sound_46 1 rfl rfl (by decide) rfl ?_
      refine j_goto hX 5 dX10_sound_49 (by decide) ?_
      exact ih (x4 + 1) (x3 + (jmin u3 u7)) u hf kx
set_option maxHeartbeats 4000000 in
set_option maxRecDepth 100000 in
theorem k_X10_sound {l : Launch} {D : va_G} {t : Nat → ClassId} {ad : Nat → Nat} {o : Nat} (m_m : Nat → Int32) (m_aside : Nat → Int32) (m_saved : Nat → Int32) (m_isSaved : Int32) (m_past : Nat → Int32) (m_changes : Int32) (m_errorAt : Int32) (m_failed : Int32) (m_thrown : Int32) (m_input : Nat → Int32) (m_inputMany : Int32) (m_fitting : Nat → Int32) (m_given : Nat → Int32) (m_pairs : Nat → Int32) (m_line : Nat → Int32) (m_lineMany : Int32) (m_letters : Nat → Int32) (m_begins0 : Nat → Int32) (m_commands : Nat → Int32) (m_commandMany : Int32) (m_place0 : Int32) (m_size0 : Int32) (m_isWrong : Int32) (a0 : Int32) (a1 : Int32) (u : Int32) (hf : f_X10_sound m_m a0 a1 = some u) : cm l D (jT t) yX10_sound cX10_sound 5 (some FieldType.int) { frames := 1, cells := 0, slots := 0, locals := 29 } [.ref (ad o), .int a0, .int a1] (wM t ad o m_m m_aside m_saved m_isSaved m_past m_changes m_errorAt m_failed m_thrown m_input m_inputMany m_fitting m_given m_pairs m_line m_lineMany m_letters m_begins0 m_commands m_commandMany m_place0 m_size0 m_isWrong) (fun v w => v = (some (.int u)) ∧ w = wM t ad o m_m m_aside m_saved m_isSaved m_past m_changes m_errorAt m_failed m_thrown m_input m_inputMany m_fitting m_given m_pairs m_line m_lineMany m_letters m_begins0 m_commands m_commandMany m_place0 m_size0 m_isWrong) := by
  refine cm_of RX10 rfl (by decide +kernel) (Nat.le_of_ble_eq_true rfl) (fun X hX hE => ?_)
  change J X 0 0 (wM t ad o m_m m_aside m_saved m_isSaved m_past m_changes m_errorAt m_failed m_thrown m_input m_inputMany m_fitting m_given m_pairs m_line m_lineMany m_letters m_begins0 m_commands m_commandMany m_place0 m_size0 m_isWrong) 0 [(0, .ref (ad o)), (1, .int a0), (2, .int a1)] []
  unfold f_X10_sound at hf
  refine j_iconst hX 0 dX10_sound_0 (by decide) ?_
  refine j_istore_n hX [(3, .int 0), (0, .ref (ad o)), (1, .int a0), (2, .int a1)] dX10_sound_1 rfl (by decide) rfl ?_
  refine j_iconst hX 0 dX10_sound_2 (by decide) ?_
  refine j_istore hX [(4, .int 0), (3, .int 0), (0, .ref (ad o)), (1, .int a0), (2, .int a1)] dX10_sound_3 (by decide) rfl ?_
  obtain ⟨s10, h11, hf⟩ := jbind hf
  refine k_X10_sound_L5 (ad := ad) m_m a0 a1 m_aside m_saved m_isSaved m_past m_changes m_errorAt m_failed m_thrown m_input m_inputMany m_fitting m_given m_pairs m_line m_lineMany m_letters m_begins0 m_commands m_commandMany m_place0 m_size0 m_isWrong hX jFU 0 0 s10 h11 (fun s100 es10 => ?_)
  subst es10
  refine j_iload_n hX dX10_sound_52 rfl 1 rfl ?_
  cases hf
  exact j_iret hX hE dX10_sound_53 (Nat.le_refl _) (Nat.le_refl _) ⟨rfl, rfl⟩
-- HammerDepotModel consonance (II)I
def f_X10_consonance (m_m : Nat → Int32) (m_thrown : Int32) (a0 : Int32) (a1 : Int32) : Option (Int32 × Int32) :=
  Option.bind (f_X10_isHammer m_m a0) (fun u1 =>
    if u1 = 0 then
      Option.bind (f_X10_throwing 0 1) (fun u3 =>
        some (u3.1, u3.2))
    else
      Option.bind (f_X10_isHammer m_m a1) (fun u5 =>
        if u5 = 0 then
          Option.bind (f_X10_throwing 0 1) (fun u7 =>
            some (u7.1, u7.2))
        else
          Option.bind (f_X10_sound m_m a0 a1) (fun u9 =>
            some (u9, 0))))
set_option maxHeartbeats 4000000 in
set_option maxRecDepth 100000 in
theorem k_X10_consonance {l : Launch} {D : va_G} {t : Nat → ClassId} {ad : Nat → Nat} {o : Nat} (m_m : Nat → Int32) (m_aside : Nat → Int32) (m_saved : Nat → Int32) (m_isSaved : Int32) (m_past : Nat → Int32) (m_changes : Int32) (m_errorAt : Int32) (m_failed : Int32) (m_thrown : Int32) (m_input : Nat → Int32) (m_inputMany : Int32) (m_fitting : Nat → Int32) (m_given : Nat → Int32) (m_pairs : Nat → Int32) (m_line : Nat → Int32) (m_lineMany : Int32) (m_letters : Nat → Int32) (m_begins0 : Nat → Int32) (m_commands : Nat → Int32) (m_commandMany : Int32) (m_place0 : Int32) (m_size0 : Int32) (m_isWrong : Int32) (a0 : Int32) (a1 : Int32) (u : Int32 × Int32) (hf : f_X10_consonance m_m m_thrown a0 a1 = some u) : cm l D (jT t) yX10_consonance cX10_consonance 3 (some FieldType.int) { frames := 2, cells := 0, slots := 0, locals := 53 } [.ref (ad o), .int a0, .int a1] (wM t ad o m_m m_aside m_saved m_isSaved m_past m_changes m_errorAt m_failed m_thrown m_input m_inputMany m_fitting m_given m_pairs m_line m_lineMany m_letters m_begins0 m_commands m_commandMany m_place0 m_size0 m_isWrong) (fun v w => v = (some (.int u.1)) ∧ w = wM t ad o m_m m_aside m_saved m_isSaved m_past m_changes m_errorAt m_failed u.2 m_input m_inputMany m_fitting m_given m_pairs m_line m_lineMany m_letters m_begins0 m_commands m_commandMany m_place0 m_size0 m_isWrong) := by
  refine cm_of RX10 rfl (by decide +kernel) (Nat.le_of_ble_eq_true rfl) (fun X hX hE => ?_)
  change J X 0 0 (wM t ad o m_m m_aside m_saved m_isSaved m_past m_changes m_errorAt m_failed m_thrown m_input m_inputMany m_fitting m_given m_pairs m_line m_lineMany m_letters m_begins0 m_commands m_commandMany m_place0 m_size0 m_isWrong) 0 [(0, .ref (ad o)), (1, .int a0), (2, .int a1)] []
  unfold f_X10_consonance at hf
  refine j_aload_n hX dX10_consonance_0 rfl 0 rfl ?_
  refine j_iconst hX 0 dX10_consonance_1 (by decide) ?_
  refine j_put hX (wM t ad o m_m m_aside m_saved m_isSaved m_past m_changes m_errorAt m_failed 0 m_input m_inputMany m_fitting m_given m_pairs m_line m_lineMany m_letters m_begins0 m_commands m_commandMany m_place0 m_size0 m_isWrong) tyX10 dX10_consonance_2 inX10 tyX10_ok nmX10 8 q1463 0 rfl rfl (by decide) rfl rfl rfl rfl rfl (Nat.le_of_ble_eq_true rfl) rfl ?_
  refine j_aload_n hX dX10_consonance_5 rfl 0 rfl ?_
  refine j_iload_n hX dX10_consonance_6 rfl 1 rfl ?_
  obtain ⟨u1, h2, hf⟩ := jbind hf
  refine j_callV (st := []) hX (k_X10_isHammer (l := l) (D := D) (t := t) (ad := ad) (o := o) m_m m_aside m_saved m_isSaved m_past m_changes m_errorAt m_failed 0 m_input m_inputMany m_fitting m_given m_pairs m_line m_lineMany m_letters m_begins0 m_commands m_commandMany m_place0 m_size0 m_isWrong a0 u1 h2) q1522 q1523 q1956 q15 q1524 (n9 := 1) rfl ⟨by decide +kernel, by decide +kernel⟩ 0 rfl rfl rfl dX10_consonance_7 (Nat.le_of_ble_eq_true rfl) ⟨Nat.le_refl _, Nat.le_refl _⟩ (fun w : va_W => w) jFr_id rfl rfl (fun v w hvw => ?_)
  obtain ⟨rfl, rfl⟩ := hvw
  change J X 0 0 (wM t ad o m_m m_aside m_saved m_isSaved m_past m_changes m_errorAt m_failed 0 m_input m_inputMany m_fitting m_given m_pairs m_line m_lineMany m_letters m_begins0 m_commands m_commandMany m_place0 m_size0 m_isWrong) 10 [(0, .ref (ad o)), (1, .int a0), (2, .int a1)] [.int u1]
  refine j_if_eq hX 30 dX10_consonance_10 (by decide) hf (fun c10 hf => ?_) (fun c10 hf => ?_)
  · refine j_aload_n hX dX10_consonance_30 rfl 0 rfl ?_
    refine j_iconst hX 1 dX10_consonance_31 (by decide) ?_
    obtain ⟨u3, h4, hf⟩ := jbind hf
    refine j_callV (st := []) hX (k_X10_throwing (l := l) (D := D) (t := t) (ad := ad) (o := o) m_m m_aside m_saved m_isSaved m_past m_changes m_errorAt m_failed 0 m_input m_inputMany m_fitting m_given m_pairs m_line m_lineMany m_letters m_begins0 m_commands m_commandMany m_place0 m_size0 m_isWrong 1 u3 h4) q1496 q1497 q1951 q15 q1498 (n9 := 1) rfl ⟨by decide +kernel, by decide +kernel⟩ 0 rfl rfl rfl dX10_consonance_32 (Nat.le_of_ble_eq_true rfl) ⟨Nat.le_refl _, Nat.le_refl _⟩ (fun w : va_W => w) jFr_id rfl rfl (fun v w hvw => ?_)
    obtain ⟨rfl, rfl⟩ := hvw
    change J X 0 0 (wM t ad o m_m m_aside m_saved m_isSaved m_past m_changes m_errorAt m_failed u3.2 m_input m_inputMany m_fitting m_given m_pairs m_line m_lineMany m_letters m_begins0 m_commands m_commandMany m_place0 m_size0 m_isWrong) 35 [(0, .ref (ad o)), (1, .int a0), (2, .int a1)] [.int u3.1]
    cases hf
    exact j_iret hX hE dX10_consonance_35 (Nat.le_refl _) (Nat.le_refl _) ⟨rfl, rfl⟩
  · refine j_aload_n hX dX10_consonance_13 rfl 0 rfl ?_
    refine j_iload_n hX dX10_consonance_14 rfl 2 rfl ?_
    obtain ⟨u5, h6, hf⟩ := jbind hf
    refine j_callV (st := []) hX (k_X10_isHammer (l := l) (D := D) (t := t) (ad := ad) (o := o) m_m m_aside m_saved m_isSaved m_past m_changes m_errorAt m_failed 0 m_input m_inputMany m_fitting m_given m_pairs m_line m_lineMany m_letters m_begins0 m_commands m_commandMany m_place0 m_size0 m_isWrong a1 u5 h6) q1522 q1523 q1956 q15 q1524 (n9 := 1) rfl ⟨by decide +kernel, by decide +kernel⟩ 0 rfl rfl rfl dX10_consonance_15 (Nat.le_of_ble_eq_true rfl) ⟨Nat.le_refl _, Nat.le_refl _⟩ (fun w : va_W => w) jFr_id rfl rfl (fun v w hvw => ?_)
    obtain ⟨rfl, rfl⟩ := hvw
    change J X 0 0 (wM t ad o m_m m_aside m_saved m_isSaved m_past m_changes m_errorAt m_failed 0 m_input m_inputMany m_fitting m_given m_pairs m_line m_lineMany m_letters m_begins0 m_commands m_commandMany m_place0 m_size0 m_isWrong) 18 [(0, .ref (ad o)), (1, .int a0), (2, .int a1)] [.int u5]
    refine j_if_eq hX 30 dX10_consonance_18 (by decide) hf (fun c18 hf => ?_) (fun c18 hf => ?_)
    · refine j_aload_n hX dX10_consonance_30 rfl 0 rfl ?_
      refine j_iconst hX 1 dX10_consonance_31 (by decide) ?_
      obtain ⟨u7, h8, hf⟩ := jbind hf
      refine j_callV (st := []) hX (k_X10_throwing (l := l) (D := D) (t := t) (ad := ad) (o := o) m_m m_aside m_saved m_isSaved m_past m_changes m_errorAt m_failed 0 m_input m_inputMany m_fitting m_given m_pairs m_line m_lineMany m_letters m_begins0 m_commands m_commandMany m_place0 m_size0 m_isWrong 1 u7 h8) q1496 q1497 q1951 q15 q1498 (n9 := 1) rfl ⟨by decide +kernel, by decide +kernel⟩ 0 rfl rfl rfl dX10_consonance_32 (Nat.le_of_ble_eq_true rfl) ⟨Nat.le_refl _, Nat.le_refl _⟩ (fun w : va_W => w) jFr_id rfl rfl (fun v w hvw => ?_)
      obtain ⟨rfl, rfl⟩ := hvw
      change J X 0 0 (wM t ad o m_m m_aside m_saved m_isSaved m_past m_changes m_errorAt m_failed u7.2 m_input m_inputMany m_fitting m_given m_pairs m_line m_lineMany m_letters m_begins0 m_commands m_commandMany m_place0 m_size0 m_isWrong) 35 [(0, .ref (ad o)), (1, .int a0), (2, .int a1)] [.int u7.1]
      cases hf
      exact j_iret hX hE dX10_consonance_35 (Nat.le_refl _) (Nat.le_refl _) ⟨rfl, rfl⟩
    · refine j_aload_n hX dX10_consonance_21 rfl 0 rfl ?_
      refine j_iload_n hX dX10_consonance_22 rfl 1 rfl ?_
      refine j_iload_n hX dX10_consonance_23 rfl 2 rfl ?_
      obtain ⟨u9, h10, hf⟩ := jbind hf
      refine j_callV (st := []) hX (k_X10_sound (l := l) (D := D) (t := t) (ad := ad) (o := o) m_m m_aside m_saved m_isSaved m_past m_changes m_errorAt m_failed 0 m_input m_inputMany m_fitting m_given m_pairs m_line m_lineMany m_letters m_begins0 m_commands m_commandMany m_place0 m_size0 m_isWrong a0 a1 u9 h10) q1746 q1747 q1985 q15 q1748 (n9 := 2) rfl ⟨by decide +kernel, by decide +kernel⟩ 0 rfl rfl rfl dX10_consonance_24 (Nat.le_of_ble_eq_true rfl) ⟨Nat.le_refl _, Nat.le_refl _⟩ (fun w : va_W => w) jFr_id rfl rfl (fun v w hvw => ?_)
      obtain ⟨rfl, rfl⟩ := hvw
      change J X 0 0 (wM t ad o m_m m_aside m_saved m_isSaved m_past m_changes m_errorAt m_failed 0 m_input m_inputMany m_fitting m_given m_pairs m_line m_lineMany m_letters m_begins0 m_commands m_commandMany m_place0 m_size0 m_isWrong) 27 [(0, .ref (ad o)), (1, .int a0), (2, .int a1)] [.int u9]
      refine j_goto hX 35 dX10_consonance_27 (by decide) ?_
      cases hf
      exact j_iret hX hE dX10_consonance_35 (Nat.le_refl _) (Nat.le_refl _) ⟨rfl, rfl⟩
-- HammerDepotModel chord (I)I
def f_X10_chord_L17 (m_pairs : Nat → Int32) (x3 : Int32) (x1 : Int32) : Nat → Int32 → Int32 → Option (Int32 × Int32)
  | 0, _, _ => none
  | jn + 1, x4, x2 =>
    if x3 ≤ x4 then
      some (x4, x2)
    else
      if ((x1 >>> (x3 &&& 31)) &&& 1) = 1 then
        if ((x1 >>> (x4 &&& 31)) &&& 1) = 1 then
          if jin (((12 : Int32) * x3) + x4) 144 = true then
            f_X10_chord_L17 m_pairs x3 x1 jn (x4 + 1) (x2 + (m_pairs (((12 : Int32) * x3) + x4).toNatClampNeg))
          else none
        else
          f_X10_chord_L17 m_pairs x3 x1 jn (x4 + 1) (x2 + 0)
      else
        f_X10_chord_L17 m_pairs x3 x1 jn (x4 + 1) (x2 + 0)
def f_X10_chord_L4 (m_m : Nat → Int32) (m_pairs : Nat → Int32) (x1 : Int32) : Nat → Int32 → Int32 → Option (Int32 × Int32)
  | 0, _, _ => none
  | jn + 1, x3, x2 =>
    if jin 0 2048 = true then
      if (m_m (0 : Int32).toNatClampNeg) ≤ x3 then
        some (x3, x2)
      else
        Option.bind (f_X10_chord_L17 m_pairs x3 x1 jFU 0 x2) (fun s2 =>
          f_X10_chord_L4 m_m m_pairs x1 jn (x3 + 1) s2.2)
    else none
def f_X10_chord (m_m : Nat → Int32) (m_pairs : Nat → Int32) (a0 : Int32) : Option (Int32) :=
  Option.bind (f_X10_chord_L4 m_m m_pairs a0 jFU 0 0) (fun s5 =>
    some s5.2)
set_option maxHeartbeats 4000000 in
set_option maxRecDepth 100000 in
theorem k_X10_chord_L17 {l : Launch} {D : va_G} {t : Nat → ClassId} {ad : Nat → Nat} {o : Nat} (m_pairs : Nat → Int32) (x3 : Int32) (x1 : Int32) (m_m : Nat → Int32) (m_aside : Nat → Int32) (m_saved : Nat → Int32) (m_isSaved : Int32) (m_past : Nat → Int32) (m_changes : Int32) (m_errorAt : Int32) (m_failed : Int32) (m_thrown : Int32) (m_input : Nat → Int32) (m_inputMany : Int32) (m_fitting : Nat → Int32) (m_given : Nat → Int32) (m_line : Nat → Int32) (m_lineMany : Int32) (m_letters : Nat → Int32) (m_begins0 : Nat → Int32) (m_commands : Nat → Int32) (m_commandMany : Int32) (m_place0 : Int32) (m_size0 : Int32) (m_isWrong : Int32) {X : jX} (hX : jOK X l D (jT t) cX10_chord RX10 (some FieldType.int) { frames := 0, cells := 0, slots := 0, locals := 0 } 5) :
    ∀ (jn : Nat) (x4 : Int32) (x2 : Int32) (u : Int32 × Int32) (hf : f_X10_chord_L17 m_pairs x3 x1 jn x4 x2 = some u) (kx : ∀ s : Int32 × Int32, u = s → J X 0 0 (wM t ad o m_m m_aside m_saved m_isSaved m_past m_changes m_errorAt m_failed m_thrown m_input m_inputMany m_fitting m_given m_pairs m_line m_lineMany m_letters m_begins0 m_commands m_commandMany m_place0 m_size0 m_isWrong) 67 [(4, .int s.1), (3, .int x3), (2, .int s.2), (0, .ref (ad o)), (1, .int x1)] []), J X 0 0 (wM t ad o m_m m_aside m_saved m_isSaved m_past m_changes m_errorAt m_failed m_thrown m_input m_inputMany m_fitting m_given m_pairs m_line m_lineMany m_letters m_begins0 m_commands m_commandMany m_place0 m_size0 m_isWrong) 17 [(4, .int x4), (3, .int x3), (2, .int x2), (0, .ref (ad o)), (1, .int x1)] [] := by
  intro jn
  induction jn with
  | zero => intro x4 x2 u hf; cases (show (none : Option (Int32 × Int32)) = some u from hf)
  | succ jn ih =>
    intro x4 x2 u hf kx
    unfold f_X10_chord_L17 at hf
    refine j_iload hX dX10_chord_17 0 rfl ?_
    refine j_iload_n hX dX10_chord_19 rfl 1 rfl ?_
    refine j_icmp_ge hX 67 dX10_chord_20 (by decide) hf (fun c20 hf => ?_) (fun c20 hf => ?_)
    · cases hf
      exact kx _ rfl
    · refine j_iload_n hX dX10_chord_23 rfl 2 rfl ?_
      refine j_iload_n hX dX10_chord_24 rfl 4 rfl ?_
      refine j_iload_n hX dX10_chord_25 rfl 1 rfl ?_
      refine j_ishr hX dX10_chord_26 ?_
      refine j_iconst hX 1 dX10_chord_27 (by decide) ?_
      refine j_iand hX dX10_chord_28 ?_
      refine j_iconst hX 1 dX10_chord_29 (by decide) ?_
      refine j_icmp_ne hX 58 dX10_chord_30 (by decide) hf (fun c30 hf => ?_) (fun c30 hf => ?_)
      · refine j_iconst hX 0 dX10_chord_58 (by decide) ?_
        refine j_iadd hX dX10_chord_59 ?_
        refine j_istore_n hX [(2, .int (x2 + 0)), (4, .int x4), (3, .int x3), (0, .ref (ad o)), (1, .int x1)] dX10_chord_60 rfl (by decide) rfl ?_
        refine j_iinc hX (x4 + 1) [(4, .int (x4 + 1)), (2, .int (x2 + 0)), (3, .int x3), (0, .ref (ad o)), (1, .int x1)] dX10_chord_61 1 rfl rfl (by decide) rfl ?_
        refine j_goto hX 17 dX10_chord_64 (by decide) ?_
        refine j_sub hX [(4, .int (x4 + 1)), (3, .int x3), (2, .int (x2 + 0)), (0, .ref (ad o)), (1, .int x1)] [0, 2, 1, 3, 4] rfl ?_
        exact ih (x4 + 1) (x2 + 0) u hf kx
      · refine j_iload_n hX dX10_chord_33 rfl 4 rfl ?_
        refine j_iload hX dX10_chord_34 0 rfl ?_
        refine j_ishr hX dX10_chord_36 ?_
        refine j_iconst hX 1 dX10_chord_37 (by decide) ?_
        refine j_iand hX dX10_chord_38 ?_
        refine j_iconst hX 1 dX10_chord_39 (by decide) ?_
        refine j_icmp_ne hX 58 dX10_chord_40 (by decide) hf (fun c40 hf => ?_) (fun c40 hf => ?_)
        · refine j_iconst hX 0 dX10_chord_58 (by decide) ?_
          refine j_iadd hX dX10_chord_59 ?_
          refine j_istore_n hX [(2, .int (x2 + 0)), (4, .int x4), (3, .int x3), (0, .ref (ad o)), (1, .int x1)] dX10_chord_60 rfl (by decide) rfl ?_
          refine j_iinc hX (x4 + 1) [(4, .int (x4 + 1)), (2, .int (x2 + 0)), (3, .int x3), (0, .ref (ad o)), (1, .int x1)] dX10_chord_61 1 rfl rfl (by decide) rfl ?_
          refine j_goto hX 17 dX10_chord_64 (by decide) ?_
          refine j_sub hX [(4, .int (x4 + 1)), (3, .int x3), (2, .int (x2 + 0)), (0, .ref (ad o)), (1, .int x1)] [0, 2, 1, 3, 4] rfl ?_
          exact ih (x4 + 1) (x2 + 0) u hf kx
        · refine j_aload_n hX dX10_chord_43 rfl 3 rfl ?_
          refine j_get hX dX10_chord_44 inX10 13 q1468 0 rfl rfl (by decide) rfl rfl ?_
          refine j_bipush hX 12 dX10_chord_47 (by decide) ?_
          refine j_iload_n hX dX10_chord_49 rfl 1 rfl ?_
          refine j_imul hX dX10_chord_50 ?_
          refine j_iload hX dX10_chord_51 0 rfl ?_
          refine j_iadd hX dX10_chord_53 ?_
          refine j_iald hX dX10_chord_54 8 0 rfl rfl hf (fun c54 hf => ?_)
          refine j_goto hX 59 dX10_chord_55 (by decide) ?_
          refine j_iadd hX dX10_chord_59 ?_
          refine j_istore_n hX [(2, .int (x2 + (m_pairs (((12 : Int32) * x3) + x4).toNatClampNeg))), (4, .int x4), (3, .int x3), (0, .ref (ad o)), (1, .int x1)] dX10_chord_60 rfl (by decide) rfl ?_
          refine j_iinc hX (x4 + 1) [(4, .int (x4 + 1)), (2, .int (x2 + (m_pairs (((12 : Int32) * x3) + x4).toNatClampNeg))), (3, .int x3), (0, .ref (ad o)), (1, .int x1)] dX10_chord_61 1 rfl rfl (by decide) rfl ?_
          refine j_goto hX 17 dX10_chord_64 (by decide) ?_
          refine j_sub hX [(4, .int (x4 + 1)), (3, .int x3), (2, .int (x2 + (m_pairs (((12 : Int32) * x3) + x4).toNatClampNeg))), (0, .ref (ad o)), (1, .int x1)] [0, 2, 1, 3, 4] rfl ?_
          exact ih (x4 + 1) (x2 + (m_pairs (((12 : Int32) * x3) + x4).toNatClampNeg)) u hf kx
set_option maxHeartbeats 4000000 in
set_option maxRecDepth 100000 in
theorem k_X10_chord_L4 {l : Launch} {D : va_G} {t : Nat → ClassId} {ad : Nat → Nat} {o : Nat} (m_m : Nat → Int32) (m_pairs : Nat → Int32) (x1 : Int32) (m_aside : Nat → Int32) (m_saved : Nat → Int32) (m_isSaved : Int32) (m_past : Nat → Int32) (m_changes : Int32) (m_errorAt : Int32) (m_failed : Int32) (m_thrown : Int32) (m_input : Nat → Int32) (m_inputMany : Int32) (m_fitting : Nat → Int32) (m_given : Nat → Int32) (m_line : Nat → Int32) (m_lineMany : Int32) (m_letters : Nat → Int32) (m_begins0 : Nat → Int32) (m_commands : Nat → Int32) (m_commandMany : Int32) (m_place0 : Int32) (m_size0 : Int32) (m_isWrong : Int32) {X : jX} (hX : jOK X l D (jT t) cX10_chord RX10 (some FieldType.int) { frames := 0, cells := 0, slots := 0, locals := 0 } 5) :
    ∀ (jn : Nat) (x3 : Int32) (x2 : Int32) (u : Int32 × Int32) (hf : f_X10_chord_L4 m_m m_pairs x1 jn x3 x2 = some u) (kx : ∀ s : Int32 × Int32, u = s → J X 0 0 (wM t ad o m_m m_aside m_saved m_isSaved m_past m_changes m_errorAt m_failed m_thrown m_input m_inputMany m_fitting m_given m_pairs m_line m_lineMany m_letters m_begins0 m_commands m_commandMany m_place0 m_size0 m_isWrong) 73 [(3, .int s.1), (2, .int s.2), (0, .ref (ad o)), (1, .int x1)] []), J X 0 0 (wM t ad o m_m m_aside m_saved m_isSaved m_past m_changes m_errorAt m_failed m_thrown m_input m_inputMany m_fitting m_given m_pairs m_line m_lineMany m_letters m_begins0 m_commands m_commandMany m_place0 m_size0 m_isWrong) 4 [(3, .int x3), (2, .int x2), (0, .ref (ad o)), (1, .int x1)] [] := by
  intro jn
  induction jn with
  | zero => intro x3 x2 u hf; cases (show (none : Option (Int32 × Int32)) = some u from hf)
  | succ jn ih =>
    intro x3 x2 u hf kx
    unfold f_X10_chord_L4 at hf
    refine j_iload_n hX dX10_chord_4 rfl 0 rfl ?_
    refine j_aload_n hX dX10_chord_5 rfl 2 rfl ?_
    refine j_get hX dX10_chord_6 inX10 0 q1455 0 rfl rfl (by decide) rfl rfl ?_
    refine j_iconst hX 0 dX10_chord_9 (by decide) ?_
    refine j_iald hX dX10_chord_10 1 0 rfl rfl hf (fun c10 hf => ?_)
    refine j_icmp_ge hX 73 dX10_chord_11 (by decide) hf (fun c11 hf => ?_) (fun c11 hf => ?_)
    · cases hf
      exact kx _ rfl
    · refine j_iconst hX 0 dX10_chord_14 (by decide) ?_
      refine j_istore hX [(4, .int 0), (3, .int x3), (2, .int x2), (0, .ref (ad o)), (1, .int x1)] dX10_chord_15 (by decide) rfl ?_
      obtain ⟨s2, h3, hf⟩ := jbind hf
      refine k_X10_chord_L17 (ad := ad) m_pairs x3 x1 m_m m_aside m_saved m_isSaved m_past m_changes m_errorAt m_failed m_thrown m_input m_inputMany m_fitting m_given m_line m_lineMany m_letters m_begins0 m_commands m_commandMany m_place0 m_size0 m_isWrong hX jFU 0 x2 s2 h3 (fun s20 es2 => ?_)
      subst es2
      refine j_iinc hX (x3 + 1) [(3, .int (x3 + 1)), (4, .int s2.1), (2, .int s2.2), (0, .ref (ad o)), (1, .int x1)] dX10_chord_67 1 rfl rfl (by decide) rfl ?_
      refine j_goto hX 4 dX10_chord_70 (by decide) ?_
      refine j_sub hX [(3, .int (x3 + 1)), (2, .int s2.2), (0, .ref (ad o)), (1, .int x1)] [0, 2, 3, 4] rfl ?_
      exact ih (x3 + 1) s2.2 u hf kx
set_option maxHeartbeats 4000000 in
set_option maxRecDepth 100000 in
theorem k_X10_chord {l : Launch} {D : va_G} {t : Nat → ClassId} {ad : Nat → Nat} {o : Nat} (m_m : Nat → Int32) (m_aside : Nat → Int32) (m_saved : Nat → Int32) (m_isSaved : Int32) (m_past : Nat → Int32) (m_changes : Int32) (m_errorAt : Int32) (m_failed : Int32) (m_thrown : Int32) (m_input : Nat → Int32) (m_inputMany : Int32) (m_fitting : Nat → Int32) (m_given : Nat → Int32) (m_pairs : Nat → Int32) (m_line : Nat → Int32) (m_lineMany : Int32) (m_letters : Nat → Int32) (m_begins0 : Nat → Int32) (m_commands : Nat → Int32) (m_commandMany : Int32) (m_place0 : Int32) (m_size0 : Int32) (m_isWrong : Int32) (a0 : Int32) (u : Int32) (hf : f_X10_chord m_m m_pairs a0 = some u) : cm l D (jT t) yX10_chord cX10_chord 5 (some FieldType.int) { frames := 0, cells := 0, slots := 0, locals := 0 } [.ref (ad o), .int a0] (wM t ad o m_m m_aside m_saved m_isSaved m_past m_changes m_errorAt m_failed m_thrown m_input m_inputMany m_fitting m_given m_pairs m_line m_lineMany m_letters m_begins0 m_commands m_commandMany m_place0 m_size0 m_isWrong) (fun v w => v = (some (.int u)) ∧ w = wM t ad o m_m m_aside m_saved m_isSaved m_past m_changes m_errorAt m_failed m_thrown m_input m_inputMany m_fitting m_given m_pairs m_line m_lineMany m_letters m_begins0 m_commands m_commandMany m_place0 m_size0 m_isWrong) := by
  refine cm_of RX10 rfl (by decide +kernel) (Nat.le_of_ble_eq_true rfl) (fun X hX hE => ?_)
  change J X 0 0 (wM t ad o m_m m_aside m_saved m_isSaved m_past m_changes m_errorAt m_failed m_thrown m_input m_inputMany m_fitting m_given m_pairs m_line m_lineMany m_letters m_begins0 m_commands m_commandMany m_place0 m_size0 m_isWrong) 0 [(0, .ref (ad o)), (1, .int a0)] []
  unfold f_X10_chord at hf
  refine j_iconst hX 0 dX10_chord_0 (by decide) ?_
  refine j_istore_n hX [(2, .int 0), (0, .ref (ad o)), (1, .int a0)] dX10_chord_1 rfl (by decide) rfl ?_
  refine j_iconst hX 0 dX10_chord_2 (by decide) ?_
  refine j_istore_n hX [(3, .int 0), (2, .int 0), (0, .ref (ad o)), (1, .int a0)] dX10_chord_3 rfl (by decide) rfl ?_
  obtain ⟨s5, h6, hf⟩ := jbind hf
  refine k_X10_chord_L4 (ad := ad) m_m m_pairs a0 m_aside m_saved m_isSaved m_past m_changes m_errorAt m_failed m_thrown m_input m_inputMany m_fitting m_given m_line m_lineMany m_letters m_begins0 m_commands m_commandMany m_place0 m_size0 m_isWrong hX jFU 0 0 s5 h6 (fun s50 es5 => ?_)
  subst es5
  refine j_iload_n hX dX10_chord_73 rfl 1 rfl ?_
  cases hf
  exact j_iret hX hE dX10_chord_74 (Nat.le_refl _) (Nat.le_refl _) ⟨rfl, rfl⟩
-- HammerDepotModel bestChord (I)I
def f_X10_bestChord_L65 (m_m : Nat → Int32) (x3 : Int32) : Nat → Int32 → (Nat → Int32) → Option (Int32 × (Nat → Int32))
  | 0, _, _ => none
  | jn + 1, x4, m_pairs =>
    if x3 ≤ x4 then
      some (x4, m_pairs)
    else
      Option.bind (f_X10_sound m_m x3 x4) (fun u5 =>
        if jin (((12 : Int32) * x3) + x4) 144 = true then
          f_X10_bestChord_L65 m_m x3 jn (x4 + 1) (upd m_pairs (((12 : Int32) * x3) + x4).toNatClampNeg u5)
        else none)
def f_X10_bestChord_L27 (m_m : Nat → Int32) : Nat → Int32 → Int32 → (Nat → Int32) → Option (Int32 × Int32 × (Nat → Int32))
  | 0, _, _, _ => none
  | jn + 1, x3, x2, m_pairs =>
    if jin 0 2048 = true then
      if (m_m (0 : Int32).toNatClampNeg) ≤ x3 then
        some (x3, x2, m_pairs)
      else
        Option.bind (f_X10_hammerOf x3) (fun u3 =>
          if jin (u3 + 2) 2048 = true then
            if (m_m (u3 + 2).toNatClampNeg) = (-1) then
              Option.bind (f_X10_bestChord_L65 m_m x3 jFU 0 m_pairs) (fun s11 =>
                f_X10_bestChord_L27 m_m jn (x3 + 1) (x2 ||| 0) s11.2)
            else
              Option.bind (f_X10_bestChord_L65 m_m x3 jFU 0 m_pairs) (fun s8 =>
                f_X10_bestChord_L27 m_m jn (x3 + 1) (x2 ||| ((1 : Int32) <<< (x3 &&& 31))) s8.2)
          else none)
    else none
def f_X10_bestChord_L121 (m_m : Nat → Int32) (m_pairs : Nat → Int32) (x2 : Int32) (x1 : Int32) : Nat → Int32 → Int32 → Option (Int32 × Int32)
  | 0, _, _ => none
  | jn + 1, x4, x3 =>
    if jin 0 2048 = true then
      if ((1 : Int32) <<< ((m_m (0 : Int32).toNatClampNeg) &&& 31)) ≤ x4 then
        some (x4, x3)
      else
        if (x4 &&& (x2 ^^^ (-1))) = 0 then
          Option.bind (f_X10_ones x4) (fun u18 =>
            if u18 = x1 then
              Option.bind (f_X10_chord m_m m_pairs x4) (fun u20 =>
                f_X10_bestChord_L121 m_m m_pairs x2 x1 jn (x4 + 1) (jmax x3 u20))
            else
              f_X10_bestChord_L121 m_m m_pairs x2 x1 jn (x4 + 1) x3)
        else
          f_X10_bestChord_L121 m_m m_pairs x2 x1 jn (x4 + 1) x3
    else none
def f_X10_bestChord (m_m : Nat → Int32) (m_thrown : Int32) (m_pairs : Nat → Int32) (a0 : Int32) : Option (Int32 × Int32 × (Nat → Int32)) :=
  Option.bind (f_X10_in ((a0).toInt64) (1 : Int64) (5 : Int64)) (fun u1 =>
    if u1 = 0 then
      Option.bind (f_X10_throwing 0 1) (fun u27 =>
        some (u27.1, u27.2, m_pairs))
    else
      Option.bind (f_X10_bestChord_L27 m_m jFU 0 0 m_pairs) (fun s14 =>
        Option.bind (f_X10_ones s14.2.1) (fun u16 =>
          if a0 ≤ u16 then
            Option.bind (f_X10_bestChord_L121 m_m s14.2.2 s14.2.1 a0 jFU 0 0) (fun s23 =>
              some (s23.2, 0, s14.2.2))
          else
            Option.bind (f_X10_throwing 0 2) (fun u25 =>
              some (u25.1, u25.2, s14.2.2)))))
set_option maxHeartbeats 4000000 in
set_option maxRecDepth 100000 in
theorem k_X10_bestChord_L65 {l : Launch} {D : va_G} {t : Nat → ClassId} {ad : Nat → Nat} {o : Nat} (m_m : Nat → Int32) (x3 : Int32) (m_aside : Nat → Int32) (m_saved : Nat → Int32) (m_isSaved : Int32) (m_past : Nat → Int32) (m_changes : Int32) (m_errorAt : Int32) (m_failed : Int32) (m_thrown : Int32) (m_input : Nat → Int32) (m_inputMany : Int32) (m_fitting : Nat → Int32) (m_given : Nat → Int32) (m_line : Nat → Int32) (m_lineMany : Int32) (m_letters : Nat → Int32) (m_begins0 : Nat → Int32) (m_commands : Nat → Int32) (m_commandMany : Int32) (m_place0 : Int32) (m_size0 : Int32) (m_isWrong : Int32) (x2 : Int32) (x1 : Int32) {X : jX} (hX : jOK X l D (jT t) cX10_bestChord RX10 (some FieldType.int) { frames := 2, cells := 0, slots := 0, locals := 53 } 5) :
    ∀ (jn : Nat) (x4 : Int32) (m_pairs : Nat → Int32) (u : Int32 × (Nat → Int32)) (hf : f_X10_bestChord_L65 m_m x3 jn x4 m_pairs = some u) (kx : ∀ s : Int32 × (Nat → Int32), u = s → J X 0 0 (wM t ad o m_m m_aside m_saved m_isSaved m_past m_changes m_errorAt m_failed m_thrown m_input m_inputMany m_fitting m_given s.2 m_line m_lineMany m_letters m_begins0 m_commands m_commandMany m_place0 m_size0 m_isWrong) 96 [(4, .int s.1), (2, .int x2), (3, .int x3), (0, .ref (ad o)), (1, .int x1)] []), J X 0 0 (wM t ad o m_m m_aside m_saved m_isSaved m_past m_changes m_errorAt m_failed m_thrown m_input m_inputMany m_fitting m_given m_pairs m_line m_lineMany m_letters m_begins0 m_commands m_commandMany m_place0 m_size0 m_isWrong) 65 [(4, .int x4), (2, .int x2), (3, .int x3), (0, .ref (ad o)), (1, .int x1)] [] := by
  intro jn
  induction jn with
  | zero => intro x4 m_pairs u hf; cases (show (none : Option (Int32 × (Nat → Int32))) = some u from hf)
  | succ jn ih =>
    intro x4 m_pairs u hf kx
    unfold f_X10_bestChord_L65 at hf
    refine j_iload hX dX10_bestChord_65 0 rfl ?_
    refine j_iload_n hX dX10_bestChord_67 rfl 2 rfl ?_
    refine j_icmp_ge hX 96 dX10_bestChord_68 (by decide) hf (fun c68 hf => ?_) (fun c68 hf => ?_)
    · cases hf
      exact kx _ rfl
    · refine j_aload_n hX dX10_bestChord_71 rfl 3 rfl ?_
      refine j_get hX dX10_bestChord_72 inX10 13 q1468 0 rfl rfl (by decide) rfl rfl ?_
      refine j_bipush hX 12 dX10_bestChord_75 (by decide) ?_
      refine j_iload_n hX dX10_bestChord_77 rfl 2 rfl ?_
      refine j_imul hX dX10_bestChord_78 ?_
      refine j_iload hX dX10_bestChord_79 0 rfl ?_
      refine j_iadd hX dX10_bestChord_81 ?_
      refine j_aload_n hX dX10_bestChord_82 rfl 3 rfl ?_
      refine j_iload_n hX dX10_bestChord_83 rfl 2 rfl ?_
      refine j_iload hX dX10_bestChord_84 0 rfl ?_
      obtain ⟨u5, h6, hf⟩ := jbind hf
      refine j_callV (st := [.int (((12 : Int32) * x3) + x4), .ref (ad (o + 8))]) hX (k_X10_sound (l := l) (D := D) (t := t) (ad := ad) (o := o) m_m m_aside m_saved m_isSaved m_past m_changes m_errorAt m_failed m_thrown m_input m_inputMany m_fitting m_given m_pairs m_line m_lineMany m_letters m_begins0 m_commands m_commandMany m_place0 m_size0 m_isWrong x3 x4 u5 h6) q1746 q1747 q1985 q15 q1748 (n9 := 2) rfl ⟨by decide +kernel, by decide +kernel⟩ 0 rfl rfl rfl dX10_bestChord_86 (Nat.le_of_ble_eq_true rfl) ⟨Nat.le_refl _, Nat.le_refl _⟩ (fun w : va_W => w) jFr_id rfl rfl (fun v w hvw => ?_)
      obtain ⟨rfl, rfl⟩ := hvw
      change J X 0 0 (wM t ad o m_m m_aside m_saved m_isSaved m_past m_changes m_errorAt m_failed m_thrown m_input m_inputMany m_fitting m_given m_pairs m_line m_lineMany m_letters m_begins0 m_commands m_commandMany m_place0 m_size0 m_isWrong) 89 [(4, .int x4), (2, .int x2), (3, .int x3), (0, .ref (ad o)), (1, .int x1)] [.int u5, .int (((12 : Int32) * x3) + x4), .ref (ad (o + 8))]
      refine j_iast hX (wM t ad o m_m m_aside m_saved m_isSaved m_past m_changes m_errorAt m_failed m_thrown m_input m_inputMany m_fitting m_given (upd m_pairs (((12 : Int32) * x3) + x4).toNatClampNeg u5) m_line m_lineMany m_letters m_begins0 m_commands m_commandMany m_place0 m_size0 m_isWrong) dX10_bestChord_89 8 0 rfl rfl rfl hf (fun c89 hf => ?_)
      refine j_iinc hX (x4 + 1) [(4, .int (x4 + 1)), (2, .int x2), (3, .int x3), (0, .ref (ad o)), (1, .int x1)] dX10_bestChord_90 0 rfl rfl (by decide) rfl ?_
      refine j_goto hX 65 dX10_bestChord_93 (by decide) ?_
      exact ih (x4 + 1) (upd m_pairs (((12 : Int32) * x3) + x4).toNatClampNeg u5) u hf kx
set_option maxHeartbeats 4000000 in
set_option maxRecDepth 100000 in
theorem k_X10_bestChord_L27 {l : Launch} {D : va_G} {t : Nat → ClassId} {ad : Nat → Nat} {o : Nat} (m_m : Nat → Int32) (m_aside : Nat → Int32) (m_saved : Nat → Int32) (m_isSaved : Int32) (m_past : Nat → Int32) (m_changes : Int32) (m_errorAt : Int32) (m_failed : Int32) (m_thrown : Int32) (m_input : Nat → Int32) (m_inputMany : Int32) (m_fitting : Nat → Int32) (m_given : Nat → Int32) (m_line : Nat → Int32) (m_lineMany : Int32) (m_letters : Nat → Int32) (m_begins0 : Nat → Int32) (m_commands : Nat → Int32) (m_commandMany : Int32) (m_place0 : Int32) (m_size0 : Int32) (m_isWrong : Int32) (x1 : Int32) {X : jX} (hX : jOK X l D (jT t) cX10_bestChord RX10 (some FieldType.int) { frames := 2, cells := 0, slots := 0, locals := 53 } 5) :
    ∀ (jn : Nat) (x3 : Int32) (x2 : Int32) (m_pairs : Nat → Int32) (u : Int32 × Int32 × (Nat → Int32)) (hf : f_X10_bestChord_L27 m_m jn x3 x2 m_pairs = some u) (kx : ∀ s : Int32 × Int32 × (Nat → Int32), u = s → J X 0 0 (wM t ad o m_m m_aside m_saved m_isSaved m_past m_changes m_errorAt m_failed m_thrown m_input m_inputMany m_fitting m_given s.2.2 m_line m_lineMany m_letters m_begins0 m_commands m_commandMany m_place0 m_size0 m_isWrong) 102 [(3, .int s.1), (2, .int s.2.1), (0, .ref (ad o)), (1, .int x1)] []), J X 0 0 (wM t ad o m_m m_aside m_saved m_isSaved m_past m_changes m_errorAt m_failed m_thrown m_input m_inputMany m_fitting m_given m_pairs m_line m_lineMany m_letters m_begins0 m_commands m_commandMany m_place0 m_size0 m_isWrong) 27 [(3, .int x3), (2, .int x2), (0, .ref (ad o)), (1, .int x1)] [] := by
  intro jn
  induction jn with
  | zero => intro x3 x2 m_pairs u hf; cases (show (none : Option (Int32 × Int32 × (Nat → Int32))) = some u from hf)
  | succ jn ih =>
    intro x3 x2 m_pairs u hf kx
    unfold f_X10_bestChord_L27 at hf
    refine j_iload_n hX dX10_bestChord_27 rfl 0 rfl ?_
    refine j_aload_n hX dX10_bestChord_28 rfl 2 rfl ?_
    refine j_get hX dX10_bestChord_29 inX10 0 q1455 0 rfl rfl (by decide) rfl rfl ?_
    refine j_iconst hX 0 dX10_bestChord_32 (by decide) ?_
    refine j_iald hX dX10_bestChord_33 1 0 rfl rfl hf (fun c33 hf => ?_)
    refine j_icmp_ge hX 102 dX10_bestChord_34 (by decide) hf (fun c34 hf => ?_) (fun c34 hf => ?_)
    · cases hf
      exact kx _ rfl
    · refine j_iload_n hX dX10_bestChord_37 rfl 1 rfl ?_
      refine j_aload_n hX dX10_bestChord_38 rfl 2 rfl ?_
      refine j_get hX dX10_bestChord_39 inX10 0 q1455 0 rfl rfl (by decide) rfl rfl ?_
      refine j_iload_n hX dX10_bestChord_42 rfl 0 rfl ?_
      obtain ⟨u3, h4, hf⟩ := jbind hf
      refine j_callS (st := [.ref (ad (o + 1)), .int x2]) hX (k_X10_hammerOf (l := l) (D := D) (t := t) (ad := ad)  x3 u3 h4) q1509 q1510 q15 q1511 (n9 := 1) rfl ⟨by decide +kernel, by decide +kernel⟩ dX10_bestChord_43 (Nat.le_of_ble_eq_true rfl) ⟨Nat.le_refl _, Nat.le_refl _⟩ (fun w : va_W => w ++ (wM t ad o m_m m_aside m_saved m_isSaved m_past m_changes m_errorAt m_failed m_thrown m_input m_inputMany m_fitting m_given m_pairs m_line m_lineMany m_letters m_begins0 m_commands m_commandMany m_place0 m_size0 m_isWrong)) (jFr_r (wM t ad o m_m m_aside m_saved m_isSaved m_past m_changes m_errorAt m_failed m_thrown m_input m_inputMany m_fitting m_given m_pairs m_line m_lineMany m_letters m_begins0 m_commands m_commandMany m_place0 m_size0 m_isWrong)) rfl rfl (fun v w hvw => ?_)
      obtain ⟨rfl, rfl⟩ := hvw
      change J X 0 0 (wM t ad o m_m m_aside m_saved m_isSaved m_past m_changes m_errorAt m_failed m_thrown m_input m_inputMany m_fitting m_given m_pairs m_line m_lineMany m_letters m_begins0 m_commands m_commandMany m_place0 m_size0 m_isWrong) 46 [(3, .int x3), (2, .int x2), (0, .ref (ad o)), (1, .int x1)] [.int u3, .ref (ad (o + 1)), .int x2]
      refine j_iconst hX 2 dX10_bestChord_46 (by decide) ?_
      refine j_iadd hX dX10_bestChord_47 ?_
      refine j_iald hX dX10_bestChord_48 1 0 rfl rfl hf (fun c48 hf => ?_)
      refine j_iconst hX (-1) dX10_bestChord_49 (by decide) ?_
      refine j_icmp_ne hX 57 dX10_bestChord_50 (by decide) hf (fun c50 hf => ?_) (fun c50 hf => ?_)
      · refine j_iconst hX 1 dX10_bestChord_57 (by decide) ?_
        refine j_iload_n hX dX10_bestChord_58 rfl 0 rfl ?_
        refine j_ishl hX dX10_bestChord_59 ?_
        refine j_ior hX dX10_bestChord_60 ?_
        refine j_istore_n hX [(2, .int (x2 ||| ((1 : Int32) <<< (x3 &&& 31)))), (3, .int x3), (0, .ref (ad o)), (1, .int x1)] dX10_bestChord_61 rfl (by decide) rfl ?_
        refine j_iconst hX 0 dX10_bestChord_62 (by decide) ?_
        refine j_istore hX [(4, .int 0), (2, .int (x2 ||| ((1 : Int32) <<< (x3 &&& 31)))), (3, .int x3), (0, .ref (ad o)), (1, .int x1)] dX10_bestChord_63 (by decide) rfl ?_
        obtain ⟨s8, h9, hf⟩ := jbind hf
        refine k_X10_bestChord_L65 (ad := ad) m_m x3 m_aside m_saved m_isSaved m_past m_changes m_errorAt m_failed m_thrown m_input m_inputMany m_fitting m_given m_line m_lineMany m_letters m_begins0 m_commands m_commandMany m_place0 m_size0 m_isWrong (x2 ||| ((1 : Int32) <<< (x3 &&& 31))) x1 hX jFU 0 m_pairs s8 h9 (fun s80 es8 => ?_)
        subst es8
        refine j_iinc hX (x3 + 1) [(3, .int (x3 + 1)), (4, .int s8.1), (2, .int (x2 ||| ((1 : Int32) <<< (x3 &&& 31)))), (0, .ref (ad o)), (1, .int x1)] dX10_bestChord_96 2 rfl rfl (by decide) rfl ?_
        refine j_goto hX 27 dX10_bestChord_99 (by decide) ?_
        refine j_sub hX [(3, .int (x3 + 1)), (2, .int (x2 ||| ((1 : Int32) <<< (x3 &&& 31)))), (0, .ref (ad o)), (1, .int x1)] [0, 2, 3, 4] rfl ?_
        exact ih (x3 + 1) (x2 ||| ((1 : Int32) <<< (x3 &&& 31))) s8.2 u hf kx
      · refine j_iconst hX 0 dX10_bestChord_53 (by decide) ?_
        refine j_goto hX 60 dX10_bestChord_54 (by decide) ?_
        refine j_ior hX dX10_bestChord_60 ?_
        refine j_istore_n hX [(2, .int (x2 ||| 0)), (3, .int x3), (0, .ref (ad o)), (1, .int x1)] dX10_bestChord_61 rfl (by decide) rfl ?_
        refine j_iconst hX 0 dX10_bestChord_62 (by decide) ?_
        refine j_istore hX [(4, .int 0), (2, .int (x2 ||| 0)), (3, .int x3), (0, .ref (ad o)), (1, .int x1)] dX10_bestChord_63 (by decide) rfl ?_
        obtain ⟨s11, h12, hf⟩ := jbind hf
        refine k_X10_bestChord_L65 (ad := ad) m_m x3 m_aside m_saved m_isSaved m_past m_changes m_errorAt m_failed m_thrown m_input m_inputMany m_fitting m_given m_line m_lineMany m_letters m_begins0 m_commands m_commandMany m_place0 m_size0 m_isWrong (x2 ||| 0) x1 hX jFU 0 m_pairs s11 h12 (fun s110 es11 => ?_)
        subst es11
        refine j_iinc hX (x3 + 1) [(3, .int (x3 + 1)), (4, .int s11.1), (2, .int (x2 ||| 0)), (0, .ref (ad o)), (1, .int x1)] dX10_bestChord_96 2 rfl rfl (by decide) rfl ?_
        refine j_goto hX 27 dX10_bestChord_99 (by decide) ?_
        refine j_sub hX [(3, .int (x3 + 1)), (2, .int (x2 ||| 0)), (0, .ref (ad o)), (1, .int x1)] [0, 2, 3, 4] rfl ?_
        exact ih (x3 + 1) (x2 ||| 0) s11.2 u hf kx
set_option maxHeartbeats 4000000 in
set_option maxRecDepth 100000 in
theorem k_X10_bestChord_L121 {l : Launch} {D : va_G} {t : Nat → ClassId} {ad : Nat → Nat} {o : Nat} (m_m : Nat → Int32) (m_pairs : Nat → Int32) (x2 : Int32) (x1 : Int32) (m_aside : Nat → Int32) (m_saved : Nat → Int32) (m_isSaved : Int32) (m_past : Nat → Int32) (m_changes : Int32) (m_errorAt : Int32) (m_failed : Int32) (m_thrown : Int32) (m_input : Nat → Int32) (m_inputMany : Int32) (m_fitting : Nat → Int32) (m_given : Nat → Int32) (m_line : Nat → Int32) (m_lineMany : Int32) (m_letters : Nat → Int32) (m_begins0 : Nat → Int32) (m_commands : Nat → Int32) (m_commandMany : Int32) (m_place0 : Int32) (m_size0 : Int32) (m_isWrong : Int32) {X : jX} (hX : jOK X l D (jT t) cX10_bestChord RX10 (some FieldType.int) { frames := 2, cells := 0, slots := 0, locals := 53 } 5) :
    ∀ (jn : Nat) (x4 : Int32) (x3 : Int32) (u : Int32 × Int32) (hf : f_X10_bestChord_L121 m_m m_pairs x2 x1 jn x4 x3 = some u) (kx : ∀ s : Int32 × Int32, u = s → J X 0 0 (wM t ad o m_m m_aside m_saved m_isSaved m_past m_changes m_errorAt m_failed m_thrown m_input m_inputMany m_fitting m_given m_pairs m_line m_lineMany m_letters m_begins0 m_commands m_commandMany m_place0 m_size0 m_isWrong) 169 [(4, .int s.1), (3, .int s.2), (2, .int x2), (0, .ref (ad o)), (1, .int x1)] []), J X 0 0 (wM t ad o m_m m_aside m_saved m_isSaved m_past m_changes m_errorAt m_failed m_thrown m_input m_inputMany m_fitting m_given m_pairs m_line m_lineMany m_letters m_begins0 m_commands m_commandMany m_place0 m_size0 m_isWrong) 121 [(4, .int x4), (3, .int x3), (2, .int x2), (0, .ref (ad o)), (1, .int x1)] [] := by
  intro jn
  induction jn with
  | zero => intro x4 x3 u hf; cases (show (none : Option (Int32 × Int32)) = some u from hf)
  | succ jn ih =>
    intro x4 x3 u hf kx
    unfold f_X10_bestChord_L121 at hf
    refine j_iload hX dX10_bestChord_121 0 rfl ?_
    refine j_iconst hX 1 dX10_bestChord_123 (by decide) ?_
    refine j_aload_n hX dX10_bestChord_124 rfl 3 rfl ?_
    refine j_get hX dX10_bestChord_125 inX10 0 q1455 0 rfl rfl (by decide) rfl rfl ?_
    refine j_iconst hX 0 dX10_bestChord_128 (by decide) ?_
    refine j_iald hX dX10_bestChord_129 1 0 rfl rfl hf (fun c129 hf => ?_)
    refine j_ishl hX dX10_bestChord_130 ?_
    refine j_icmp_ge hX 169 dX10_bestChord_131 (by decide) hf (fun c131 hf => ?_) (fun c131 hf => ?_)
    · cases hf
      exact kx _ rfl
    · refine j_iload hX dX10_bestChord_134 0 rfl ?_
      refine j_iload_n hX dX10_bestChord_136 rfl 2 rfl ?_
      refine j_iconst hX (-1) dX10_bestChord_137 (by decide) ?_
      refine j_ixor hX dX10_bestChord_138 ?_
      refine j_iand hX dX10_bestChord_139 ?_
      refine j_if_ne hX 163 dX10_bestChord_140 (by decide) hf (fun c140 hf => ?_) (fun c140 hf => ?_)
      · refine j_iinc hX (x4 + 1) [(4, .int (x4 + 1)), (3, .int x3), (2, .int x2), (0, .ref (ad o)), (1, .int x1)] dX10_bestChord_163 0 rfl rfl (by decide) rfl ?_
        refine j_goto hX 121 dX10_bestChord_166 (by decide) ?_
        exact ih (x4 + 1) x3 u hf kx
      · refine j_iload hX dX10_bestChord_143 0 rfl ?_
        obtain ⟨u18, h19, hf⟩ := jbind hf
        refine j_callS (st := []) hX (k_X10_ones (l := l) (D := D) (t := t) (ad := ad)  x4 u18 h19) q1609 q1610 q15 q1611 (n9 := 1) rfl ⟨by decide +kernel, by decide +kernel⟩ dX10_bestChord_145 (Nat.le_of_ble_eq_true rfl) ⟨Nat.le_refl _, Nat.le_refl _⟩ (fun w : va_W => w ++ (wM t ad o m_m m_aside m_saved m_isSaved m_past m_changes m_errorAt m_failed m_thrown m_input m_inputMany m_fitting m_given m_pairs m_line m_lineMany m_letters m_begins0 m_commands m_commandMany m_place0 m_size0 m_isWrong)) (jFr_r (wM t ad o m_m m_aside m_saved m_isSaved m_past m_changes m_errorAt m_failed m_thrown m_input m_inputMany m_fitting m_given m_pairs m_line m_lineMany m_letters m_begins0 m_commands m_commandMany m_place0 m_size0 m_isWrong)) rfl rfl (fun v w hvw => ?_)
        obtain ⟨rfl, rfl⟩ := hvw
        change J X 0 0 (wM t ad o m_m m_aside m_saved m_isSaved m_past m_changes m_errorAt m_failed m_thrown m_input m_inputMany m_fitting m_given m_pairs m_line m_lineMany m_letters m_begins0 m_commands m_commandMany m_place0 m_size0 m_isWrong) 148 [(4, .int x4), (3, .int x3), (2, .int x2), (0, .ref (ad o)), (1, .int x1)] [.int u18]
        refine j_iload_n hX dX10_bestChord_148 rfl 4 rfl ?_
        refine j_icmp_ne hX 163 dX10_bestChord_149 (by decide) hf (fun c149 hf => ?_) (fun c149 hf => ?_)
        · refine j_iinc hX (x4 + 1) [(4, .int (x4 + 1)), (3, .int x3), (2, .int x2), (0, .ref (ad o)), (1, .int x1)] dX10_bestChord_163 0 rfl rfl (by decide) rfl ?_
          refine j_goto hX 121 dX10_bestChord_166 (by decide) ?_
          exact ih (x4 + 1) x3 u hf kx
        · refine j_iload_n hX dX10_bestChord_152 rfl 1 rfl ?_
          refine j_aload_n hX dX10_bestChord_153 rfl 3 rfl ?_
          refine j_iload hX dX10_bestChord_154 0 rfl ?_
          obtain ⟨u20, h21, hf⟩ := jbind hf
          refine j_callV (st := [.int x3]) hX (k_X10_chord (l := l) (D := D) (t := t) (ad := ad) (o := o) m_m m_aside m_saved m_isSaved m_past m_changes m_errorAt m_failed m_thrown m_input m_inputMany m_fitting m_given m_pairs m_line m_lineMany m_letters m_begins0 m_commands m_commandMany m_place0 m_size0 m_isWrong x4 u20 h21) q1753 q1754 q1986 q15 q1755 (n9 := 1) rfl ⟨by decide +kernel, by decide +kernel⟩ 0 rfl rfl rfl dX10_bestChord_156 (Nat.le_of_ble_eq_true rfl) ⟨Nat.le_refl _, Nat.le_refl _⟩ (fun w : va_W => w) jFr_id rfl rfl (fun v w hvw => ?_)
          obtain ⟨rfl, rfl⟩ := hvw
          change J X 0 0 (wM t ad o m_m m_aside m_saved m_isSaved m_past m_changes m_errorAt m_failed m_thrown m_input m_inputMany m_fitting m_given m_pairs m_line m_lineMany m_letters m_begins0 m_commands m_commandMany m_place0 m_size0 m_isWrong) 159 [(4, .int x4), (3, .int x3), (2, .int x2), (0, .ref (ad o)), (1, .int x1)] [.int u20, .int x3]
          refine j_mmax hX q1624 dX10_bestChord_159 (Nat.le_of_ble_eq_true rfl) (by decide) ⟨Nat.le_refl _, Nat.le_refl _⟩ ?_
          refine j_istore_n hX [(3, .int (jmax x3 u20)), (4, .int x4), (2, .int x2), (0, .ref (ad o)), (1, .int x1)] dX10_bestChord_162 rfl (by decide) rfl ?_
          refine j_iinc hX (x4 + 1) [(4, .int (x4 + 1)), (3, .int (jmax x3 u20)), (2, .int x2), (0, .ref (ad o)), (1, .int x1)] dX10_bestChord_163 1 rfl rfl (by decide) rfl ?_
          refine j_goto hX 121 dX10_bestChord_166 (by decide) ?_
          exact ih (x4 + 1) (jmax x3 u20) u hf kx
set_option maxHeartbeats 4000000 in
set_option maxRecDepth 100000 in
theorem k_X10_bestChord {l : Launch} {D : va_G} {t : Nat → ClassId} {ad : Nat → Nat} {o : Nat} (m_m : Nat → Int32) (m_aside : Nat → Int32) (m_saved : Nat → Int32) (m_isSaved : Int32) (m_past : Nat → Int32) (m_changes : Int32) (m_errorAt : Int32) (m_failed : Int32) (m_thrown : Int32) (m_input : Nat → Int32) (m_inputMany : Int32) (m_fitting : Nat → Int32) (m_given : Nat → Int32) (m_pairs : Nat → Int32) (m_line : Nat → Int32) (m_lineMany : Int32) (m_letters : Nat → Int32) (m_begins0 : Nat → Int32) (m_commands : Nat → Int32) (m_commandMany : Int32) (m_place0 : Int32) (m_size0 : Int32) (m_isWrong : Int32) (a0 : Int32) (u : Int32 × Int32 × (Nat → Int32)) (hf : f_X10_bestChord m_m m_thrown m_pairs a0 = some u) : cm l D (jT t) yX10_bestChord cX10_bestChord 5 (some FieldType.int) { frames := 2, cells := 0, slots := 0, locals := 53 } [.ref (ad o), .int a0] (wM t ad o m_m m_aside m_saved m_isSaved m_past m_changes m_errorAt m_failed m_thrown m_input m_inputMany m_fitting m_given m_pairs m_line m_lineMany m_letters m_begins0 m_commands m_commandMany m_place0 m_size0 m_isWrong) (fun v w => v = (some (.int u.1)) ∧ w = wM t ad o m_m m_aside m_saved m_isSaved m_past m_changes m_errorAt m_failed u.2.1 m_input m_inputMany m_fitting m_given u.2.2 m_line m_lineMany m_letters m_begins0 m_commands m_commandMany m_place0 m_size0 m_isWrong) := by
  refine cm_of RX10 rfl (by decide +kernel) (Nat.le_of_ble_eq_true rfl) (fun X hX hE => ?_)
  change J X 0 0 (wM t ad o m_m m_aside m_saved m_isSaved m_past m_changes m_errorAt m_failed m_thrown m_input m_inputMany m_fitting m_given m_pairs m_line m_lineMany m_letters m_begins0 m_commands m_commandMany m_place0 m_size0 m_isWrong) 0 [(0, .ref (ad o)), (1, .int a0)] []
  unfold f_X10_bestChord at hf
  refine j_aload_n hX dX10_bestChord_0 rfl 0 rfl ?_
  refine j_iconst hX 0 dX10_bestChord_1 (by decide) ?_
  refine j_put hX (wM t ad o m_m m_aside m_saved m_isSaved m_past m_changes m_errorAt m_failed 0 m_input m_inputMany m_fitting m_given m_pairs m_line m_lineMany m_letters m_begins0 m_commands m_commandMany m_place0 m_size0 m_isWrong) tyX10 dX10_bestChord_2 inX10 tyX10_ok nmX10 8 q1463 0 rfl rfl (by decide) rfl rfl rfl rfl rfl (Nat.le_of_ble_eq_true rfl) rfl ?_
  refine j_iload_n hX dX10_bestChord_5 rfl 1 rfl ?_
  refine j_i2l hX dX10_bestChord_6 ?_
  refine j_lconst hX 1 dX10_bestChord_7 (by decide) ?_
  refine j_ldc2 hX q1535 dX10_bestChord_8 ?_
  obtain ⟨u1, h2, hf⟩ := jbind hf
  refine j_callS (st := []) hX (k_X10_in (l := l) (D := D) (t := t) (ad := ad)  ((a0).toInt64) (1 : Int64) (5 : Int64) u1 h2) q1493 q1494 q15 q1495 (n9 := 3) rfl ⟨by decide +kernel, by decide +kernel⟩ dX10_bestChord_11 (Nat.le_of_ble_eq_true rfl) ⟨Nat.le_refl _, Nat.le_refl _⟩ (fun w : va_W => w ++ (wM t ad o m_m m_aside m_saved m_isSaved m_past m_changes m_errorAt m_failed 0 m_input m_inputMany m_fitting m_given m_pairs m_line m_lineMany m_letters m_begins0 m_commands m_commandMany m_place0 m_size0 m_isWrong)) (jFr_r (wM t ad o m_m m_aside m_saved m_isSaved m_past m_changes m_errorAt m_failed 0 m_input m_inputMany m_fitting m_given m_pairs m_line m_lineMany m_letters m_begins0 m_commands m_commandMany m_place0 m_size0 m_isWrong)) rfl rfl (fun v w hvw => ?_)
  obtain ⟨rfl, rfl⟩ := hvw
  change J X 0 0 (wM t ad o m_m m_aside m_saved m_isSaved m_past m_changes m_errorAt m_failed 0 m_input m_inputMany m_fitting m_given m_pairs m_line m_lineMany m_letters m_begins0 m_commands m_commandMany m_place0 m_size0 m_isWrong) 14 [(0, .ref (ad o)), (1, .int a0)] [.int u1]
  refine j_if_ne hX 23 dX10_bestChord_14 (by decide) hf (fun c14 hf => ?_) (fun c14 hf => ?_)
  · refine j_iconst hX 0 dX10_bestChord_23 (by decide) ?_
    refine j_istore_n hX [(2, .int 0), (0, .ref (ad o)), (1, .int a0)] dX10_bestChord_24 rfl (by decide) rfl ?_
    refine j_iconst hX 0 dX10_bestChord_25 (by decide) ?_
    refine j_istore_n hX [(3, .int 0), (2, .int 0), (0, .ref (ad o)), (1, .int a0)] dX10_bestChord_26 rfl (by decide) rfl ?_
    obtain ⟨s14, h15, hf⟩ := jbind hf
    refine k_X10_bestChord_L27 (ad := ad) m_m m_aside m_saved m_isSaved m_past m_changes m_errorAt m_failed 0 m_input m_inputMany m_fitting m_given m_line m_lineMany m_letters m_begins0 m_commands m_commandMany m_place0 m_size0 m_isWrong a0 hX jFU 0 0 m_pairs s14 h15 (fun s140 es14 => ?_)
    subst es14
    refine j_iload_n hX dX10_bestChord_102 rfl 1 rfl ?_
    obtain ⟨u16, h17, hf⟩ := jbind hf
    refine j_callS (st := []) hX (k_X10_ones (l := l) (D := D) (t := t) (ad := ad)  s14.2.1 u16 h17) q1609 q1610 q15 q1611 (n9 := 1) rfl ⟨by decide +kernel, by decide +kernel⟩ dX10_bestChord_103 (Nat.le_of_ble_eq_true rfl) ⟨Nat.le_refl _, Nat.le_refl _⟩ (fun w : va_W => w ++ (wM t ad o m_m m_aside m_saved m_isSaved m_past m_changes m_errorAt m_failed 0 m_input m_inputMany m_fitting m_given s14.2.2 m_line m_lineMany m_letters m_begins0 m_commands m_commandMany m_place0 m_size0 m_isWrong)) (jFr_r (wM t ad o m_m m_aside m_saved m_isSaved m_past m_changes m_errorAt m_failed 0 m_input m_inputMany m_fitting m_given s14.2.2 m_line m_lineMany m_letters m_begins0 m_commands m_commandMany m_place0 m_size0 m_isWrong)) rfl rfl (fun v w hvw => ?_)
    obtain ⟨rfl, rfl⟩ := hvw
    change J X 0 0 (wM t ad o m_m m_aside m_saved m_isSaved m_past m_changes m_errorAt m_failed 0 m_input m_inputMany m_fitting m_given s14.2.2 m_line m_lineMany m_letters m_begins0 m_commands m_commandMany m_place0 m_size0 m_isWrong) 106 [(3, .int s14.1), (2, .int s14.2.1), (0, .ref (ad o)), (1, .int a0)] [.int u16]
    refine j_iload_n hX dX10_bestChord_106 rfl 3 rfl ?_
    refine j_icmp_ge hX 116 dX10_bestChord_107 (by decide) hf (fun c107 hf => ?_) (fun c107 hf => ?_)
    · refine j_iconst hX 0 dX10_bestChord_116 (by decide) ?_
      refine j_istore_n hX [(3, .int 0), (2, .int s14.2.1), (0, .ref (ad o)), (1, .int a0)] dX10_bestChord_117 rfl (by decide) rfl ?_
      refine j_iconst hX 0 dX10_bestChord_118 (by decide) ?_
      refine j_istore hX [(4, .int 0), (3, .int 0), (2, .int s14.2.1), (0, .ref (ad o)), (1, .int a0)] dX10_bestChord_119 (by decide) rfl ?_
      obtain ⟨s23, h24, hf⟩ := jbind hf
      refine k_X10_bestChord_L121 (ad := ad) m_m s14.2.2 s14.2.1 a0 m_aside m_saved m_isSaved m_past m_changes m_errorAt m_failed 0 m_input m_inputMany m_fitting m_given m_line m_lineMany m_letters m_begins0 m_commands m_commandMany m_place0 m_size0 m_isWrong hX jFU 0 0 s23 h24 (fun s230 es23 => ?_)
      subst es23
      refine j_iload_n hX dX10_bestChord_169 rfl 1 rfl ?_
      cases hf
      exact j_iret hX hE dX10_bestChord_170 (Nat.le_refl _) (Nat.le_refl _) ⟨rfl, rfl⟩
    · refine j_aload_n hX dX10_bestChord_110 rfl 2 rfl ?_
      refine j_iconst hX 2 dX10_bestChord_111 (by decide) ?_
      obtain ⟨u25, h26, hf⟩ := jbind hf
      refine j_callV (st := []) hX (k_X10_throwing (l := l) (D := D) (t := t) (ad := ad) (o := o) m_m m_aside m_saved m_isSaved m_past m_changes m_errorAt m_failed 0 m_input m_inputMany m_fitting m_given s14.2.2 m_line m_lineMany m_letters m_begins0 m_commands m_commandMany m_place0 m_size0 m_isWrong 2 u25 h26) q1496 q1497 q1951 q15 q1498 (n9 := 1) rfl ⟨by decide +kernel, by decide +kernel⟩ 0 rfl rfl rfl dX10_bestChord_112 (Nat.le_of_ble_eq_true rfl) ⟨Nat.le_refl _, Nat.le_refl _⟩ (fun w : va_W => w) jFr_id rfl rfl (fun v w hvw => ?_)
      obtain ⟨rfl, rfl⟩ := hvw
      change J X 0 0 (wM t ad o m_m m_aside m_saved m_isSaved m_past m_changes m_errorAt m_failed u25.2 m_input m_inputMany m_fitting m_given s14.2.2 m_line m_lineMany m_letters m_begins0 m_commands m_commandMany m_place0 m_size0 m_isWrong) 115 [(3, .int s14.1), (2, .int s14.2.1), (0, .ref (ad o)), (1, .int a0)] [.int u25.1]
      cases hf
      exact j_iret hX hE dX10_bestChord_115 (Nat.le_refl _) (Nat.le_refl _) ⟨rfl, rfl⟩
  · refine j_aload_n hX dX10_bestChord_17 rfl 0 rfl ?_
    refine j_iconst hX 1 dX10_bestChord_18 (by decide) ?_
    obtain ⟨u27, h28, hf⟩ := jbind hf
    refine j_callV (st := []) hX (k_X10_throwing (l := l) (D := D) (t := t) (ad := ad) (o := o) m_m m_aside m_saved m_isSaved m_past m_changes m_errorAt m_failed 0 m_input m_inputMany m_fitting m_given m_pairs m_line m_lineMany m_letters m_begins0 m_commands m_commandMany m_place0 m_size0 m_isWrong 1 u27 h28) q1496 q1497 q1951 q15 q1498 (n9 := 1) rfl ⟨by decide +kernel, by decide +kernel⟩ 0 rfl rfl rfl dX10_bestChord_19 (Nat.le_of_ble_eq_true rfl) ⟨Nat.le_refl _, Nat.le_refl _⟩ (fun w : va_W => w) jFr_id rfl rfl (fun v w hvw => ?_)
    obtain ⟨rfl, rfl⟩ := hvw
    change J X 0 0 (wM t ad o m_m m_aside m_saved m_isSaved m_past m_changes m_errorAt m_failed u27.2 m_input m_inputMany m_fitting m_given m_pairs m_line m_lineMany m_letters m_begins0 m_commands m_commandMany m_place0 m_size0 m_isWrong) 22 [(0, .ref (ad o)), (1, .int a0)] [.int u27.1]
    cases hf
    exact j_iret hX hE dX10_bestChord_22 (Nat.le_refl _) (Nat.le_refl _) ⟨rfl, rfl⟩
-- HammerDepotModel bestChordBySets (I)I
def f_X10_bestChordBySets (m_m : Nat → Int32) (m_thrown : Int32) (m_pairs : Nat → Int32) (a0 : Int32) : Option (Int32 × Int32 × (Nat → Int32)) :=
  Option.bind (f_X10_bestChord m_m m_thrown m_pairs a0) (fun u1 =>
    some (u1.1, u1.2.1, u1.2.2))
set_option maxHeartbeats 4000000 in
set_option maxRecDepth 100000 in
theorem k_X10_bestChordBySets {l : Launch} {D : va_G} {t : Nat → ClassId} {ad : Nat → Nat} {o : Nat} (m_m : Nat → Int32) (m_aside : Nat → Int32) (m_saved : Nat → Int32) (m_isSaved : Int32) (m_past : Nat → Int32) (m_changes : Int32) (m_errorAt : Int32) (m_failed : Int32) (m_thrown : Int32) (m_input : Nat → Int32) (m_inputMany : Int32) (m_fitting : Nat → Int32) (m_given : Nat → Int32) (m_pairs : Nat → Int32) (m_line : Nat → Int32) (m_lineMany : Int32) (m_letters : Nat → Int32) (m_begins0 : Nat → Int32) (m_commands : Nat → Int32) (m_commandMany : Int32) (m_place0 : Int32) (m_size0 : Int32) (m_isWrong : Int32) (a0 : Int32) (u : Int32 × Int32 × (Nat → Int32)) (hf : f_X10_bestChordBySets m_m m_thrown m_pairs a0 = some u) : cm l D (jT t) yX10_bestChordBySets cX10_bestChordBySets 2 (some FieldType.int) { frames := 3, cells := 0, slots := 0, locals := 77 } [.ref (ad o), .int a0] (wM t ad o m_m m_aside m_saved m_isSaved m_past m_changes m_errorAt m_failed m_thrown m_input m_inputMany m_fitting m_given m_pairs m_line m_lineMany m_letters m_begins0 m_commands m_commandMany m_place0 m_size0 m_isWrong) (fun v w => v = (some (.int u.1)) ∧ w = wM t ad o m_m m_aside m_saved m_isSaved m_past m_changes m_errorAt m_failed u.2.1 m_input m_inputMany m_fitting m_given u.2.2 m_line m_lineMany m_letters m_begins0 m_commands m_commandMany m_place0 m_size0 m_isWrong) := by
  refine cm_of RX10 rfl (by decide +kernel) (Nat.le_of_ble_eq_true rfl) (fun X hX hE => ?_)
  change J X 0 0 (wM t ad o m_m m_aside m_saved m_isSaved m_past m_changes m_errorAt m_failed m_thrown m_input m_inputMany m_fitting m_given m_pairs m_line m_lineMany m_letters m_begins0 m_commands m_commandMany m_place0 m_size0 m_isWrong) 0 [(0, .ref (ad o)), (1, .int a0)] []
  unfold f_X10_bestChordBySets at hf
  refine j_aload_n hX dX10_bestChordBySets_0 rfl 0 rfl ?_
  refine j_iload_n hX dX10_bestChordBySets_1 rfl 1 rfl ?_
  obtain ⟨u1, h2, hf⟩ := jbind hf
  refine j_callV (st := []) hX (k_X10_bestChord (l := l) (D := D) (t := t) (ad := ad) (o := o) m_m m_aside m_saved m_isSaved m_past m_changes m_errorAt m_failed m_thrown m_input m_inputMany m_fitting m_given m_pairs m_line m_lineMany m_letters m_begins0 m_commands m_commandMany m_place0 m_size0 m_isWrong a0 u1 h2) q1760 q1750 q1751 q15 q1752 (n9 := 1) rfl ⟨by decide +kernel, by decide +kernel⟩ 0 rfl rfl rfl dX10_bestChordBySets_2 (Nat.le_of_ble_eq_true rfl) ⟨Nat.le_refl _, Nat.le_refl _⟩ (fun w : va_W => w) jFr_id rfl rfl (fun v w hvw => ?_)
  obtain ⟨rfl, rfl⟩ := hvw
  change J X 0 0 (wM t ad o m_m m_aside m_saved m_isSaved m_past m_changes m_errorAt m_failed u1.2.1 m_input m_inputMany m_fitting m_given u1.2.2 m_line m_lineMany m_letters m_begins0 m_commands m_commandMany m_place0 m_size0 m_isWrong) 5 [(0, .ref (ad o)), (1, .int a0)] [.int u1.1]
  cases hf
  exact j_iret hX hE dX10_bestChordBySets_5 (Nat.le_refl _) (Nat.le_refl _) ⟨rfl, rfl⟩
-- HammerDepotModel swapsToSort (I)I
def f_X10_swapsToSort (m_m : Nat → Int32) (m_thrown : Int32) (a0 : Int32) : Option (Int32 × Int32) :=
  Option.bind (f_X10_isRack a0) (fun u1 =>
    if u1 = 0 then
      Option.bind (f_X10_throwing 0 1) (fun u3 =>
        some (u3.1, u3.2))
    else
      Option.bind (f_X10_swaps m_m a0) (fun u5 =>
        some (u5, 0)))
set_option maxHeartbeats 4000000 in
set_option maxRecDepth 100000 in
theorem k_X10_swapsToSort {l : Launch} {D : va_G} {t : Nat → ClassId} {ad : Nat → Nat} {o : Nat} (m_m : Nat → Int32) (m_aside : Nat → Int32) (m_saved : Nat → Int32) (m_isSaved : Int32) (m_past : Nat → Int32) (m_changes : Int32) (m_errorAt : Int32) (m_failed : Int32) (m_thrown : Int32) (m_input : Nat → Int32) (m_inputMany : Int32) (m_fitting : Nat → Int32) (m_given : Nat → Int32) (m_pairs : Nat → Int32) (m_line : Nat → Int32) (m_lineMany : Int32) (m_letters : Nat → Int32) (m_begins0 : Nat → Int32) (m_commands : Nat → Int32) (m_commandMany : Int32) (m_place0 : Int32) (m_size0 : Int32) (m_isWrong : Int32) (a0 : Int32) (u : Int32 × Int32) (hf : f_X10_swapsToSort m_m m_thrown a0 = some u) : cm l D (jT t) yX10_swapsToSort cX10_swapsToSort 2 (some FieldType.int) { frames := 4, cells := 0, slots := 0, locals := 93 } [.ref (ad o), .int a0] (wM t ad o m_m m_aside m_saved m_isSaved m_past m_changes m_errorAt m_failed m_thrown m_input m_inputMany m_fitting m_given m_pairs m_line m_lineMany m_letters m_begins0 m_commands m_commandMany m_place0 m_size0 m_isWrong) (fun v w => v = (some (.int u.1)) ∧ w = wM t ad o m_m m_aside m_saved m_isSaved m_past m_changes m_errorAt m_failed u.2 m_input m_inputMany m_fitting m_given m_pairs m_line m_lineMany m_letters m_begins0 m_commands m_commandMany m_place0 m_size0 m_isWrong) := by
  refine cm_of RX10 rfl (by decide +kernel) (Nat.le_of_ble_eq_true rfl) (fun X hX hE => ?_)
  change J X 0 0 (wM t ad o m_m m_aside m_saved m_isSaved m_past m_changes m_errorAt m_failed m_thrown m_input m_inputMany m_fitting m_given m_pairs m_line m_lineMany m_letters m_begins0 m_commands m_commandMany m_place0 m_size0 m_isWrong) 0 [(0, .ref (ad o)), (1, .int a0)] []
  unfold f_X10_swapsToSort at hf
  refine j_aload_n hX dX10_swapsToSort_0 rfl 0 rfl ?_
  refine j_iconst hX 0 dX10_swapsToSort_1 (by decide) ?_
  refine j_put hX (wM t ad o m_m m_aside m_saved m_isSaved m_past m_changes m_errorAt m_failed 0 m_input m_inputMany m_fitting m_given m_pairs m_line m_lineMany m_letters m_begins0 m_commands m_commandMany m_place0 m_size0 m_isWrong) tyX10 dX10_swapsToSort_2 inX10 tyX10_ok nmX10 8 q1463 0 rfl rfl (by decide) rfl rfl rfl rfl rfl (Nat.le_of_ble_eq_true rfl) rfl ?_
  refine j_iload_n hX dX10_swapsToSort_5 rfl 1 rfl ?_
  obtain ⟨u1, h2, hf⟩ := jbind hf
  refine j_callS (st := []) hX (k_X10_isRack (l := l) (D := D) (t := t) (ad := ad)  a0 u1 h2) q1499 q1500 q15 q1501 (n9 := 1) rfl ⟨by decide +kernel, by decide +kernel⟩ dX10_swapsToSort_6 (Nat.le_of_ble_eq_true rfl) ⟨Nat.le_refl _, Nat.le_refl _⟩ (fun w : va_W => w ++ (wM t ad o m_m m_aside m_saved m_isSaved m_past m_changes m_errorAt m_failed 0 m_input m_inputMany m_fitting m_given m_pairs m_line m_lineMany m_letters m_begins0 m_commands m_commandMany m_place0 m_size0 m_isWrong)) (jFr_r (wM t ad o m_m m_aside m_saved m_isSaved m_past m_changes m_errorAt m_failed 0 m_input m_inputMany m_fitting m_given m_pairs m_line m_lineMany m_letters m_begins0 m_commands m_commandMany m_place0 m_size0 m_isWrong)) rfl rfl (fun v w hvw => ?_)
  obtain ⟨rfl, rfl⟩ := hvw
  change J X 0 0 (wM t ad o m_m m_aside m_saved m_isSaved m_past m_changes m_errorAt m_failed 0 m_input m_inputMany m_fitting m_given m_pairs m_line m_lineMany m_letters m_begins0 m_commands m_commandMany m_place0 m_size0 m_isWrong) 9 [(0, .ref (ad o)), (1, .int a0)] [.int u1]
  refine j_if_eq hX 20 dX10_swapsToSort_9 (by decide) hf (fun c9 hf => ?_) (fun c9 hf => ?_)
  · refine j_aload_n hX dX10_swapsToSort_20 rfl 0 rfl ?_
    refine j_iconst hX 1 dX10_swapsToSort_21 (by decide) ?_
    obtain ⟨u3, h4, hf⟩ := jbind hf
    refine j_callV (st := []) hX (k_X10_throwing (l := l) (D := D) (t := t) (ad := ad) (o := o) m_m m_aside m_saved m_isSaved m_past m_changes m_errorAt m_failed 0 m_input m_inputMany m_fitting m_given m_pairs m_line m_lineMany m_letters m_begins0 m_commands m_commandMany m_place0 m_size0 m_isWrong 1 u3 h4) q1496 q1497 q1951 q15 q1498 (n9 := 1) rfl ⟨by decide +kernel, by decide +kernel⟩ 0 rfl rfl rfl dX10_swapsToSort_22 (Nat.le_of_ble_eq_true rfl) ⟨Nat.le_refl _, Nat.le_refl _⟩ (fun w : va_W => w) jFr_id rfl rfl (fun v w hvw => ?_)
    obtain ⟨rfl, rfl⟩ := hvw
    change J X 0 0 (wM t ad o m_m m_aside m_saved m_isSaved m_past m_changes m_errorAt m_failed u3.2 m_input m_inputMany m_fitting m_given m_pairs m_line m_lineMany m_letters m_begins0 m_commands m_commandMany m_place0 m_size0 m_isWrong) 25 [(0, .ref (ad o)), (1, .int a0)] [.int u3.1]
    cases hf
    exact j_iret hX hE dX10_swapsToSort_25 (Nat.le_refl _) (Nat.le_refl _) ⟨rfl, rfl⟩
  · refine j_aload_n hX dX10_swapsToSort_12 rfl 0 rfl ?_
    refine j_iload_n hX dX10_swapsToSort_13 rfl 1 rfl ?_
    obtain ⟨u5, h6, hf⟩ := jbind hf
    refine j_callV (st := []) hX (k_X10_swaps (l := l) (D := D) (t := t) (ad := ad) (o := o) m_m m_aside m_saved m_isSaved m_past m_changes m_errorAt m_failed 0 m_input m_inputMany m_fitting m_given m_pairs m_line m_lineMany m_letters m_begins0 m_commands m_commandMany m_place0 m_size0 m_isWrong a0 u5 h6) q1536 q1537 q1958 q15 q1538 (n9 := 1) rfl ⟨by decide +kernel, by decide +kernel⟩ 0 rfl rfl rfl dX10_swapsToSort_14 (Nat.le_of_ble_eq_true rfl) ⟨Nat.le_refl _, Nat.le_refl _⟩ (fun w : va_W => w) jFr_id rfl rfl (fun v w hvw => ?_)
    obtain ⟨rfl, rfl⟩ := hvw
    change J X 0 0 (wM t ad o m_m m_aside m_saved m_isSaved m_past m_changes m_errorAt m_failed 0 m_input m_inputMany m_fitting m_given m_pairs m_line m_lineMany m_letters m_begins0 m_commands m_commandMany m_place0 m_size0 m_isWrong) 17 [(0, .ref (ad o)), (1, .int a0)] [.int u5]
    refine j_goto hX 25 dX10_swapsToSort_17 (by decide) ?_
    cases hf
    exact j_iret hX hE dX10_swapsToSort_25 (Nat.le_refl _) (Nat.le_refl _) ⟨rfl, rfl⟩
-- HammerDepotModel swapsToSortByCycles (I)I
def f_X10_swapsToSortByCycles (m_m : Nat → Int32) (m_thrown : Int32) (a0 : Int32) : Option (Int32 × Int32) :=
  Option.bind (f_X10_swapsToSort m_m m_thrown a0) (fun u1 =>
    some (u1.1, u1.2))
set_option maxHeartbeats 4000000 in
set_option maxRecDepth 100000 in
theorem k_X10_swapsToSortByCycles {l : Launch} {D : va_G} {t : Nat → ClassId} {ad : Nat → Nat} {o : Nat} (m_m : Nat → Int32) (m_aside : Nat → Int32) (m_saved : Nat → Int32) (m_isSaved : Int32) (m_past : Nat → Int32) (m_changes : Int32) (m_errorAt : Int32) (m_failed : Int32) (m_thrown : Int32) (m_input : Nat → Int32) (m_inputMany : Int32) (m_fitting : Nat → Int32) (m_given : Nat → Int32) (m_pairs : Nat → Int32) (m_line : Nat → Int32) (m_lineMany : Int32) (m_letters : Nat → Int32) (m_begins0 : Nat → Int32) (m_commands : Nat → Int32) (m_commandMany : Int32) (m_place0 : Int32) (m_size0 : Int32) (m_isWrong : Int32) (a0 : Int32) (u : Int32 × Int32) (hf : f_X10_swapsToSortByCycles m_m m_thrown a0 = some u) : cm l D (jT t) yX10_swapsToSortByCycles cX10_swapsToSortByCycles 2 (some FieldType.int) { frames := 5, cells := 0, slots := 0, locals := 114 } [.ref (ad o), .int a0] (wM t ad o m_m m_aside m_saved m_isSaved m_past m_changes m_errorAt m_failed m_thrown m_input m_inputMany m_fitting m_given m_pairs m_line m_lineMany m_letters m_begins0 m_commands m_commandMany m_place0 m_size0 m_isWrong) (fun v w => v = (some (.int u.1)) ∧ w = wM t ad o m_m m_aside m_saved m_isSaved m_past m_changes m_errorAt m_failed u.2 m_input m_inputMany m_fitting m_given m_pairs m_line m_lineMany m_letters m_begins0 m_commands m_commandMany m_place0 m_size0 m_isWrong) := by
  refine cm_of RX10 rfl (by decide +kernel) (Nat.le_of_ble_eq_true rfl) (fun X hX hE => ?_)
  change J X 0 0 (wM t ad o m_m m_aside m_saved m_isSaved m_past m_changes m_errorAt m_failed m_thrown m_input m_inputMany m_fitting m_given m_pairs m_line m_lineMany m_letters m_begins0 m_commands m_commandMany m_place0 m_size0 m_isWrong) 0 [(0, .ref (ad o)), (1, .int a0)] []
  unfold f_X10_swapsToSortByCycles at hf
  refine j_aload_n hX dX10_swapsToSortByCycles_0 rfl 0 rfl ?_
  refine j_iload_n hX dX10_swapsToSortByCycles_1 rfl 1 rfl ?_
  obtain ⟨u1, h2, hf⟩ := jbind hf
  refine j_callV (st := []) hX (k_X10_swapsToSort (l := l) (D := D) (t := t) (ad := ad) (o := o) m_m m_aside m_saved m_isSaved m_past m_changes m_errorAt m_failed m_thrown m_input m_inputMany m_fitting m_given m_pairs m_line m_lineMany m_letters m_begins0 m_commands m_commandMany m_place0 m_size0 m_isWrong a0 u1 h2) q1769 q1762 q1763 q15 q1764 (n9 := 1) rfl ⟨by decide +kernel, by decide +kernel⟩ 0 rfl rfl rfl dX10_swapsToSortByCycles_2 (Nat.le_of_ble_eq_true rfl) ⟨Nat.le_refl _, Nat.le_refl _⟩ (fun w : va_W => w) jFr_id rfl rfl (fun v w hvw => ?_)
  obtain ⟨rfl, rfl⟩ := hvw
  change J X 0 0 (wM t ad o m_m m_aside m_saved m_isSaved m_past m_changes m_errorAt m_failed u1.2 m_input m_inputMany m_fitting m_given m_pairs m_line m_lineMany m_letters m_begins0 m_commands m_commandMany m_place0 m_size0 m_isWrong) 5 [(0, .ref (ad o)), (1, .int a0)] [.int u1.1]
  cases hf
  exact j_iret hX hE dX10_swapsToSortByCycles_5 (Nat.le_refl _) (Nat.le_refl _) ⟨rfl, rfl⟩
-- HammerDepotModel hammerByWear (I)I
def f_X10_hammerByWear_L22 (m_m : Nat → Int32) (x2 : Int32) : Nat → Int32 → Int32 → Option (Int32 × Int32)
  | 0, _, _ => none
  | jn + 1, x4, x3 =>
    if jin 0 2048 = true then
      if (m_m (0 : Int32).toNatClampNeg) ≤ x4 then
        some (x4, x3)
      else
        Option.bind (f_X10_hammerOf x4) (fun u1 =>
          if jin (u1 + 1) 2048 = true then
            Option.bind (f_X10_hammerOf x2) (fun u3 =>
              if jin (u3 + 1) 2048 = true then
                if ((m_m (u1 + 1).toNatClampNeg) - (m_m (u3 + 1).toNatClampNeg)) = 0 then
                  Option.bind (f_X10_hammerOf x2) (fun u5 =>
                    if jin u5 2048 = true then
                      Option.bind (f_X10_hammerOf x4) (fun u7 =>
                        if jin u7 2048 = true then
                          if 0 < ((m_m (u5).toNatClampNeg) - (m_m (u7).toNatClampNeg)) then
                            f_X10_hammerByWear_L22 m_m x2 jn (x4 + 1) (x3 + 1)
                          else
                            if ((m_m (u5).toNatClampNeg) - (m_m (u7).toNatClampNeg)) = 0 then
                              if x2 ≤ x4 then
                                f_X10_hammerByWear_L22 m_m x2 jn (x4 + 1) (x3 + 0)
                              else
                                f_X10_hammerByWear_L22 m_m x2 jn (x4 + 1) (x3 + 1)
                            else
                              f_X10_hammerByWear_L22 m_m x2 jn (x4 + 1) (x3 + 0)
                        else none)
                    else none)
                else
                  if 0 < ((m_m (u1 + 1).toNatClampNeg) - (m_m (u3 + 1).toNatClampNeg)) then
                    f_X10_hammerByWear_L22 m_m x2 jn (x4 + 1) (x3 + 1)
                  else
                    if ((m_m (u1 + 1).toNatClampNeg) - (m_m (u3 + 1).toNatClampNeg)) = 0 then
                      if x2 ≤ x4 then
                        f_X10_hammerByWear_L22 m_m x2 jn (x4 + 1) (x3 + 0)
                      else
                        f_X10_hammerByWear_L22 m_m x2 jn (x4 + 1) (x3 + 1)
                    else
                      f_X10_hammerByWear_L22 m_m x2 jn (x4 + 1) (x3 + 0)
              else none)
          else none)
    else none
def f_X10_hammerByWear_L7 (m_m : Nat → Int32) (m_thrown : Int32) (x1 : Int32) : Nat → Int32 → Option ((Int32 × Int32) ⊕ (Int32))
  | 0, _ => none
  | jn + 1, x2 =>
    if jin 0 2048 = true then
      if (m_m (0 : Int32).toNatClampNeg) ≤ x2 then
        some (.inr x2)
      else
        Option.bind (f_X10_hammerByWear_L22 m_m x2 jFU 0 0) (fun s10 =>
          if s10.2 = x1 then
            some (.inl (x2, m_thrown))
          else
            f_X10_hammerByWear_L7 m_m m_thrown x1 jn (x2 + 1))
    else none
def f_X10_hammerByWear (m_m : Nat → Int32) (m_thrown : Int32) (a0 : Int32) : Option (Int32 × Int32) :=
  Option.bind (f_X10_hammerByWear_L7 m_m 0 a0 jFU 0) (fun o12 => Sum.elim (fun r => some r) (fun s13 =>
    Option.bind (f_X10_throwing 0 1) (fun u15 =>
      some (u15.1, u15.2))) o12)
set_option maxHeartbeats 4000000 in
set_option maxRecDepth 100000 in
theorem k_X10_hammerByWear_L22 {l : Launch} {D : va_G} {t : Nat → ClassId} {ad : Nat → Nat} {o : Nat} (m_m : Nat → Int32) (x2 : Int32) (m_aside : Nat → Int32) (m_saved : Nat → Int32) (m_isSaved : Int32) (m_past : Nat → Int32) (m_changes : Int32) (m_errorAt : Int32) (m_failed : Int32) (m_thrown : Int32) (m_input : Nat → Int32) (m_inputMany : Int32) (m_fitting : Nat → Int32) (m_given : Nat → Int32) (m_pairs : Nat → Int32) (m_line : Nat → Int32) (m_lineMany : Int32) (m_letters : Nat → Int32) (m_begins0 : Nat → Int32) (m_commands : Nat → Int32) (m_commandMany : Int32) (m_place0 : Int32) (m_size0 : Int32) (m_isWrong : Int32) (x1 : Int32) {X : jX} (hX : jOK X l D (jT t) cX10_hammerByWear RX10 (some FieldType.int) { frames := 1, cells := 0, slots := 0, locals := 21 } 6) :
    ∀ (jn : Nat) (x4 : Int32) (x3 : Int32) (u : Int32 × Int32) (hf : f_X10_hammerByWear_L22 m_m x2 jn x4 x3 = some u) (kx : ∀ s : Int32 × Int32, u = s → J X 0 0 (wM t ad o m_m m_aside m_saved m_isSaved m_past m_changes m_errorAt m_failed m_thrown m_input m_inputMany m_fitting m_given m_pairs m_line m_lineMany m_letters m_begins0 m_commands m_commandMany m_place0 m_size0 m_isWrong) 121 [(4, .int s.1), (3, .int s.2), (2, .int x2), (0, .ref (ad o)), (1, .int x1)] []), J X 0 0 (wM t ad o m_m m_aside m_saved m_isSaved m_past m_changes m_errorAt m_failed m_thrown m_input m_inputMany m_fitting m_given m_pairs m_line m_lineMany m_letters m_begins0 m_commands m_commandMany m_place0 m_size0 m_isWrong) 22 [(4, .int x4), (3, .int x3), (2, .int x2), (0, .ref (ad o)), (1, .int x1)] [] := by
  intro jn
  induction jn with
  | zero => intro x4 x3 u hf; cases (show (none : Option (Int32 × Int32)) = some u from hf)
  | succ jn ih =>
    intro x4 x3 u hf kx
    unfold f_X10_hammerByWear_L22 at hf
    refine j_iload hX dX10_hammerByWear_22 0 rfl ?_
    refine j_aload_n hX dX10_hammerByWear_24 rfl 3 rfl ?_
    refine j_get hX dX10_hammerByWear_25 inX10 0 q1455 0 rfl rfl (by decide) rfl rfl ?_
    refine j_iconst hX 0 dX10_hammerByWear_28 (by decide) ?_
    refine j_iald hX dX10_hammerByWear_29 1 0 rfl rfl hf (fun c29 hf => ?_)
    refine j_icmp_ge hX 121 dX10_hammerByWear_30 (by decide) hf (fun c30 hf => ?_) (fun c30 hf => ?_)
    · cases hf
      exact kx _ rfl
    · refine j_aload_n hX dX10_hammerByWear_33 rfl 3 rfl ?_
      refine j_get hX dX10_hammerByWear_34 inX10 0 q1455 0 rfl rfl (by decide) rfl rfl ?_
      refine j_iload hX dX10_hammerByWear_37 0 rfl ?_
      obtain ⟨u1, h2, hf⟩ := jbind hf
      refine j_callS (st := [.ref (ad (o + 1))]) hX (k_X10_hammerOf (l := l) (D := D) (t := t) (ad := ad)  x4 u1 h2) q1509 q1510 q15 q1511 (n9 := 1) rfl ⟨by decide +kernel, by decide +kernel⟩ dX10_hammerByWear_39 (Nat.le_of_ble_eq_true rfl) ⟨Nat.le_refl _, Nat.le_refl _⟩ (fun w : va_W => w ++ (wM t ad o m_m m_aside m_saved m_isSaved m_past m_changes m_errorAt m_failed m_thrown m_input m_inputMany m_fitting m_given m_pairs m_line m_lineMany m_letters m_begins0 m_commands m_commandMany m_place0 m_size0 m_isWrong)) (jFr_r (wM t ad o m_m m_aside m_saved m_isSaved m_past m_changes m_errorAt m_failed m_thrown m_input m_inputMany m_fitting m_given m_pairs m_line m_lineMany m_letters m_begins0 m_commands m_commandMany m_place0 m_size0 m_isWrong)) rfl rfl (fun v w hvw => ?_)
      obtain ⟨rfl, rfl⟩ := hvw
      change J X 0 0 (wM t ad o m_m m_aside m_saved m_isSaved m_past m_changes m_errorAt m_failed m_thrown m_input m_inputMany m_fitting m_given m_pairs m_line m_lineMany m_letters m_begins0 m_commands m_commandMany m_place0 m_size0 m_isWrong) 42 [(4, .int x4), (3, .int x3), (2, .int x2), (0, .ref (ad o)), (1, .int x1)] [.int u1, .ref (ad (o + 1))]
      refine j_iconst hX 1 dX10_hammerByWear_42 (by decide) ?_
      refine j_iadd hX dX10_hammerByWear_43 ?_
      refine j_iald hX dX10_hammerByWear_44 1 0 rfl rfl hf (fun c44 hf => ?_)
      refine j_aload_n hX dX10_hammerByWear_45 rfl 3 rfl ?_
      refine j_get hX dX10_hammerByWear_46 inX10 0 q1455 0 rfl rfl (by decide) rfl rfl ?_
      refine j_iload_n hX dX10_hammerByWear_49 rfl 2 rfl ?_
      obtain ⟨u3, h4, hf⟩ := jbind hf
      refine j_callS (st := [.ref (ad (o + 1)), .int (m_m (u1 + 1).toNatClampNeg)]) hX (k_X10_hammerOf (l := l) (D := D) (t := t) (ad := ad)  x2 u3 h4) q1509 q1510 q15 q1511 (n9 := 1) rfl ⟨by decide +kernel, by decide +kernel⟩ dX10_hammerByWear_50 (Nat.le_of_ble_eq_true rfl) ⟨Nat.le_refl _, Nat.le_refl _⟩ (fun w : va_W => w ++ (wM t ad o m_m m_aside m_saved m_isSaved m_past m_changes m_errorAt m_failed m_thrown m_input m_inputMany m_fitting m_given m_pairs m_line m_lineMany m_letters m_begins0 m_commands m_commandMany m_place0 m_size0 m_isWrong)) (jFr_r (wM t ad o m_m m_aside m_saved m_isSaved m_past m_changes m_errorAt m_failed m_thrown m_input m_inputMany m_fitting m_given m_pairs m_line m_lineMany m_letters m_begins0 m_commands m_commandMany m_place0 m_size0 m_isWrong)) rfl rfl (fun v w hvw => ?_)
      obtain ⟨rfl, rfl⟩ := hvw
      change J X 0 0 (wM t ad o m_m m_aside m_saved m_isSaved m_past m_changes m_errorAt m_failed m_thrown m_input m_inputMany m_fitting m_given m_pairs m_line m_lineMany m_letters m_begins0 m_commands m_commandMany m_place0 m_size0 m_isWrong) 53 [(4, .int x4), (3, .int x3), (2, .int x2), (0, .ref (ad o)), (1, .int x1)] [.int u3, .ref (ad (o + 1)), .int (m_m (u1 + 1).toNatClampNeg)]
      refine j_iconst hX 1 dX10_hammerByWear_53 (by decide) ?_
      refine j_iadd hX dX10_hammerByWear_54 ?_
      refine j_iald hX dX10_hammerByWear_55 1 0 rfl rfl hf (fun c55 hf => ?_)
      refine j_isub hX dX10_hammerByWear_56 ?_
      refine j_istore hX [(5, .int ((m_m (u1 + 1).toNatClampNeg) - (m_m (u3 + 1).toNatClampNeg))), (4, .int x4), (3, .int x3), (2, .int x2), (0, .ref (ad o)), (1, .int x1)] dX10_hammerByWear_57 (by decide) rfl ?_
      refine j_iload hX dX10_hammerByWear_59 0 rfl ?_
      refine j_if_ne hX 87 dX10_hammerByWear_61 (by decide) hf (fun c61 hf => ?_) (fun c61 hf => ?_)
      · refine j_iload hX dX10_hammerByWear_87 0 rfl ?_
        refine j_istore hX [(5, .int ((m_m (u1 + 1).toNatClampNeg) - (m_m (u3 + 1).toNatClampNeg))), (4, .int x4), (3, .int x3), (2, .int x2), (0, .ref (ad o)), (1, .int x1)] dX10_hammerByWear_89 (by decide) rfl ?_
        refine j_iload_n hX dX10_hammerByWear_91 rfl 2 rfl ?_
        refine j_iload hX dX10_hammerByWear_92 0 rfl ?_
        refine j_if_gt hX 108 dX10_hammerByWear_94 (by decide) hf (fun c94 hf => ?_) (fun c94 hf => ?_)
        · refine j_iconst hX 1 dX10_hammerByWear_108 (by decide) ?_
          refine j_goto hX 113 dX10_hammerByWear_109 (by decide) ?_
          refine j_iadd hX dX10_hammerByWear_113 ?_
          refine j_istore_n hX [(3, .int (x3 + 1)), (5, .int ((m_m (u1 + 1).toNatClampNeg) - (m_m (u3 + 1).toNatClampNeg))), (4, .int x4), (2, .int x2), (0, .ref (ad o)), (1, .int x1)] dX10_hammerByWear_114 rfl (by decide) rfl ?_
          refine j_iinc hX (x4 + 1) [(4, .int (x4 + 1)), (3, .int (x3 + 1)), (5, .int ((m_m (u1 + 1).toNatClampNeg) - (m_m (u3 + 1).toNatClampNeg))), (2, .int x2), (0, .ref (ad o)), (1, .int x1)] dX10_hammerByWear_115 2 rfl rfl (by decide) rfl ?_
          refine j_goto hX 22 dX10_hammerByWear_118 (by decide) ?_
          refine j_sub hX [(4, .int (x4 + 1)), (3, .int (x3 + 1)), (2, .int x2), (0, .ref (ad o)), (1, .int x1)] [0, 1, 3, 4, 5] rfl ?_
          exact ih (x4 + 1) (x3 + 1) u hf kx
        · refine j_iload hX dX10_hammerByWear_97 0 rfl ?_
          refine j_if_ne hX 112 dX10_hammerByWear_99 (by decide) hf (fun c99 hf => ?_) (fun c99 hf => ?_)
          · refine j_iconst hX 0 dX10_hammerByWear_112 (by decide) ?_
            refine j_iadd hX dX10_hammerByWear_113 ?_
            refine j_istore_n hX [(3, .int (x3 + 0)), (5, .int ((m_m (u1 + 1).toNatClampNeg) - (m_m (u3 + 1).toNatClampNeg))), (4, .int x4), (2, .int x2), (0, .ref (ad o)), (1, .int x1)] dX10_hammerByWear_114 rfl (by decide) rfl ?_
            refine j_iinc hX (x4 + 1) [(4, .int (x4 + 1)), (3, .int (x3 + 0)), (5, .int ((m_m (u1 + 1).toNatClampNeg) - (m_m (u3 + 1).toNatClampNeg))), (2, .int x2), (0, .ref (ad o)), (1, .int x1)] dX10_hammerByWear_115 2 rfl rfl (by decide) rfl ?_
            refine j_goto hX 22 dX10_hammerByWear_118 (by decide) ?_
            refine j_sub hX [(4, .int (x4 + 1)), (3, .int (x3 + 0)), (2, .int x2), (0, .ref (ad o)), (1, .int x1)] [0, 1, 3, 4, 5] rfl ?_
            exact ih (x4 + 1) (x3 + 0) u hf kx
          · refine j_iload hX dX10_hammerByWear_102 1 rfl ?_
            refine j_iload_n hX dX10_hammerByWear_104 rfl 3 rfl ?_
            refine j_icmp_ge hX 112 dX10_hammerByWear_105 (by decide) hf (fun c105 hf => ?_) (fun c105 hf => ?_)
            · refine j_iconst hX 0 dX10_hammerByWear_112 (by decide) ?_
              refine j_iadd hX dX10_hammerByWear_113 ?_
              refine j_istore_n hX [(3, .int (x3 + 0)), (5, .int ((m_m (u1 + 1).toNatClampNeg) - (m_m (u3 + 1).toNatClampNeg))), (4, .int x4), (2, .int x2), (0, .ref (ad o)), (1, .int x1)] dX10_hammerByWear_114 rfl (by decide) rfl ?_
              refine j_iinc hX (x4 + 1) [(4, .int (x4 + 1)), (3, .int (x3 + 0)), (5, .int ((m_m (u1 + 1).toNatClampNeg) - (m_m (u3 + 1).toNatClampNeg))), (2, .int x2), (0, .ref (ad o)), (1, .int x1)] dX10_hammerByWear_115 2 rfl rfl (by decide) rfl ?_
              refine j_goto hX 22 dX10_hammerByWear_118 (by decide) ?_
              refine j_sub hX [(4, .int (x4 + 1)), (3, .int (x3 + 0)), (2, .int x2), (0, .ref (ad o)), (1, .int x1)] [0, 1, 3, 4, 5] rfl ?_
              exact ih (x4 + 1) (x3 + 0) u hf kx
            · refine j_iconst hX 1 dX10_hammerByWear_108 (by decide) ?_
              refine j_goto hX 113 dX10_hammerByWear_109 (by decide) ?_
              refine j_iadd hX dX10_hammerByWear_113 ?_
              refine j_istore_n hX [(3, .int (x3 + 1)), (5, .int ((m_m (u1 + 1).toNatClampNeg) - (m_m (u3 + 1).toNatClampNeg))), (4, .int x4), (2, .int x2), (0, .ref (ad o)), (1, .int x1)] dX10_hammerByWear_114 rfl (by decide) rfl ?_
              refine j_iinc hX (x4 + 1) [(4, .int (x4 + 1)), (3, .int (x3 + 1)), (5, .int ((m_m (u1 + 1).toNatClampNeg) - (m_m (u3 + 1).toNatClampNeg))), (2, .int x2), (0, .ref (ad o)), (1, .int x1)] dX10_hammerByWear_115 2 rfl rfl (by decide) rfl ?_
              refine j_goto hX 22 dX10_hammerByWear_118 (by decide) ?_
              refine j_sub hX [(4, .int (x4 + 1)), (3, .int (x3 + 1)), (2, .int x2), (0, .ref (ad o)), (1, .int x1)] [0, 1, 3, 4, 5] rfl ?_
              exact ih (x4 + 1) (x3 + 1) u hf kx
      · refine j_aload_n hX dX10_hammerByWear_64 rfl 4 rfl ?_
        refine j_get hX dX10_hammerByWear_65 inX10 0 q1455 0 rfl rfl (by decide) rfl rfl ?_
        refine j_iload_n hX dX10_hammerByWear_68 rfl 3 rfl ?_
        obtain ⟨u5, h6, hf⟩ := jbind hf
        refine j_callS (st := [.ref (ad (o + 1))]) hX (k_X10_hammerOf (l := l) (D := D) (t := t) (ad := ad)  x2 u5 h6) q1509 q1510 q15 q1511 (n9 := 1) rfl ⟨by decide +kernel, by decide +kernel⟩ dX10_hammerByWear_69 (Nat.le_of_ble_eq_true rfl) ⟨Nat.le_refl _, Nat.le_refl _⟩ (fun w : va_W => w ++ (wM t ad o m_m m_aside m_saved m_isSaved m_past m_changes m_errorAt m_failed m_thrown m_input m_inputMany m_fitting m_given m_pairs m_line m_lineMany m_letters m_begins0 m_commands m_commandMany m_place0 m_size0 m_isWrong)) (jFr_r (wM t ad o m_m m_aside m_saved m_isSaved m_past m_changes m_errorAt m_failed m_thrown m_input m_inputMany m_fitting m_given m_pairs m_line m_lineMany m_letters m_begins0 m_commands m_commandMany m_place0 m_size0 m_isWrong)) rfl rfl (fun v w hvw => ?_)
        obtain ⟨rfl, rfl⟩ := hvw
        change J X 0 0 (wM t ad o m_m m_aside m_saved m_isSaved m_past m_changes m_errorAt m_failed m_thrown m_input m_inputMany m_fitting m_given m_pairs m_line m_lineMany m_letters m_begins0 m_commands m_commandMany m_place0 m_size0 m_isWrong) 72 [(5, .int ((m_m (u1 + 1).toNatClampNeg) - (m_m (u3 + 1).toNatClampNeg))), (4, .int x4), (3, .int x3), (2, .int x2), (0, .ref (ad o)), (1, .int x1)] [.int u5, .ref (ad (o + 1))]
        refine j_iald hX dX10_hammerByWear_72 1 0 rfl rfl hf (fun c72 hf => ?_)
        refine j_aload_n hX dX10_hammerByWear_73 rfl 4 rfl ?_
        refine j_get hX dX10_hammerByWear_74 inX10 0 q1455 0 rfl rfl (by decide) rfl rfl ?_
        refine j_iload hX dX10_hammerByWear_77 1 rfl ?_
        obtain ⟨u7, h8, hf⟩ := jbind hf
        refine j_callS (st := [.ref (ad (o + 1)), .int (m_m (u5).toNatClampNeg)]) hX (k_X10_hammerOf (l := l) (D := D) (t := t) (ad := ad)  x4 u7 h8) q1509 q1510 q15 q1511 (n9 := 1) rfl ⟨by decide +kernel, by decide +kernel⟩ dX10_hammerByWear_79 (Nat.le_of_ble_eq_true rfl) ⟨Nat.le_refl _, Nat.le_refl _⟩ (fun w : va_W => w ++ (wM t ad o m_m m_aside m_saved m_isSaved m_past m_changes m_errorAt m_failed m_thrown m_input m_inputMany m_fitting m_given m_pairs m_line m_lineMany m_letters m_begins0 m_commands m_commandMany m_place0 m_size0 m_isWrong)) (jFr_r (wM t ad o m_m m_aside m_saved m_isSaved m_past m_changes m_errorAt m_failed m_thrown m_input m_inputMany m_fitting m_given m_pairs m_line m_lineMany m_letters m_begins0 m_commands m_commandMany m_place0 m_size0 m_isWrong)) rfl rfl (fun v w hvw => ?_)
        obtain ⟨rfl, rfl⟩ := hvw
        change J X 0 0 (wM t ad o m_m m_aside m_saved m_isSaved m_past m_changes m_errorAt m_failed m_thrown m_input m_inputMany m_fitting m_given m_pairs m_line m_lineMany m_letters m_begins0 m_commands m_commandMany m_place0 m_size0 m_isWrong) 82 [(5, .int ((m_m (u1 + 1).toNatClampNeg) - (m_m (u3 + 1).toNatClampNeg))), (4, .int x4), (3, .int x3), (2, .int x2), (0, .ref (ad o)), (1, .int x1)] [.int u7, .ref (ad (o + 1)), .int (m_m (u5).toNatClampNeg)]
        refine j_iald hX dX10_hammerByWear_82 1 0 rfl rfl hf (fun c82 hf => ?_)
        refine j_isub hX dX10_hammerByWear_83 ?_
        refine j_goto hX 89 dX10_hammerByWear_84 (by decide) ?_
        refine j_istore hX [(5, .int ((m_m (u5).toNatClampNeg) - (m_m (u7).toNatClampNeg))), (4, .int x4), (3, .int x3), (2, .int x2), (0, .ref (ad o)), (1, .int x1)] dX10_hammerByWear_89 (by decide) rfl ?_
        refine j_iload_n hX dX10_hammerByWear_91 rfl 2 rfl ?_
        refine j_iload hX dX10_hammerByWear_92 0 rfl ?_
        refine j_if_gt hX 108 dX10_hammerByWear_94 (by decide) hf (fun c94 hf => ?_) (fun c94 hf => ?_)
        · refine j_iconst hX 1 dX10_hammerByWear_108 (by decide) ?_
          refine j_goto hX 113 dX10_hammerByWear_109 (by decide) ?_
          refine j_iadd hX dX10_hammerByWear_113 ?_
          refine j_istore_n hX [(3, .int (x3 + 1)), (5, .int ((m_m (u5).toNatClampNeg) - (m_m (u7).toNatClampNeg))), (4, .int x4), (2, .int x2), (0, .ref (ad o)), (1, .int x1)] dX10_hammerByWear_114 rfl (by decide) rfl ?_
          refine j_iinc hX (x4 + 1) [(4, .int (x4 + 1)), (3, .int (x3 + 1)), (5, .int ((m_m (u5).toNatClampNeg) - (m_m (u7).toNatClampNeg))), (2, .int x2), (0, .ref (ad o)), (1, .int x1)] dX10_hammerByWear_115 2 rfl rfl (by decide) rfl ?_
          refine j_goto hX 22 dX10_hammerByWear_118 (by decide) ?_
          refine j_sub hX [(4, .int (x4 + 1)), (3, .int (x3 + 1)), (2, .int x2), (0, .ref (ad o)), (1, .int x1)] [0, 1, 3, 4, 5] rfl ?_
          exact ih (x4 + 1) (x3 + 1) u hf kx
        · refine j_iload hX dX10_hammerByWear_97 0 rfl ?_
          refine j_if_ne hX 112 dX10_hammerByWear_99 (by decide) hf (fun c99 hf => ?_) (fun c99 hf => ?_)
          · refine j_iconst hX 0 dX10_hammerByWear_112 (by decide) ?_
            refine j_iadd hX dX10_hammerByWear_113 ?_
            refine j_istore_n hX [(3, .int (x3 + 0)), (5, .int ((m_m (u5).toNatClampNeg) - (m_m (u7).toNatClampNeg))), (4, .int x4), (2, .int x2), (0, .ref (ad o)), (1, .int x1)] dX10_hammerByWear_114 rfl (by decide) rfl ?_
            refine j_iinc hX (x4 + 1) [(4, .int (x4 + 1)), (3, .int (x3 + 0)), (5, .int ((m_m (u5).toNatClampNeg) - (m_m (u7).toNatClampNeg))), (2, .int x2), (0, .ref (ad o)), (1, .int x1)] dX10_hammerByWear_115 2 rfl rfl (by decide) rfl ?_
            refine j_goto hX 22 dX10_hammerByWear_118 (by decide) ?_
            refine j_sub hX [(4, .int (x4 + 1)), (3, .int (x3 + 0)), (2, .int x2), (0, .ref (ad o)), (1, .int x1)] [0, 1, 3, 4, 5] rfl ?_
            exact ih (x4 + 1) (x3 + 0) u hf kx
          · refine j_iload hX dX10_hammerByWear_102 1 rfl ?_
            refine j_iload_n hX dX10_hammerByWear_104 rfl 3 rfl ?_
            refine j_icmp_ge hX 112 dX10_hammerByWear_105 (by decide) hf (fun c105 hf => ?_) (fun c105 hf => ?_)
            · refine j_iconst hX 0 dX10_hammerByWear_112 (by decide) ?_
              refine j_iadd hX dX10_hammerByWear_113 ?_
              refine j_istore_n hX [(3, .int (x3 + 0)), (5, .int ((m_m (u5).toNatClampNeg) - (m_m (u7).toNatClampNeg))), (4, .int x4), (2, .int x2), (0, .ref (ad o)), (1, .int x1)] dX10_hammerByWear_114 rfl (by decide) rfl ?_
              refine j_iinc hX (x4 + 1) [(4, .int (x4 + 1)), (3, .int (x3 + 0)), (5, .int ((m_m (u5).toNatClampNeg) - (m_m (u7).toNatClampNeg))), (2, .int x2), (0, .ref (ad o)), (1, .int x1)] dX10_hammerByWear_115 2 rfl rfl (by decide) rfl ?_
              refine j_goto hX 22 dX10_hammerByWear_118 (by decide) ?_
              refine j_sub hX [(4, .int (x4 + 1)), (3, .int (x3 + 0)), (2, .int x2), (0, .ref (ad o)), (1, .int x1)] [0, 1, 3, 4, 5] rfl ?_
              exact ih (x4 + 1) (x3 + 0) u hf kx
            · refine j_iconst hX 1 dX10_hammerByWear_108 (by decide) ?_
              refine j_goto hX 113 dX10_hammerByWear_109 (by decide) ?_
              refine j_iadd hX dX10_hammerByWear_113 ?_
              refine j_istore_n hX [(3, .int (x3 + 1)), (5, .int ((m_m (u5).toNatClampNeg) - (m_m (u7).toNatClampNeg))), (4, .int x4), (2, .int x2), (0, .ref (ad o)), (1, .int x1)] dX10_hammerByWear_114 rfl (by decide) rfl ?_
              refine j_iinc hX (x4 + 1) [(4, .int (x4 + 1)), (3, .int (x3 + 1)), (5, .int ((m_m (u5).toNatClampNeg) - (m_m (u7).toNatClampNeg))), (2, .int x2), (0, .ref (ad o)), (1, .int x1)] dX10_hammerByWear_115 2 rfl rfl (by decide) rfl ?_
              refine j_goto hX 22 dX10_hammerByWear_118 (by decide) ?_
              refine j_sub hX [(4, .int (x4 + 1)), (3, .int (x3 + 1)), (2, .int x2), (0, .ref (ad o)), (1, .int x1)] [0, 1, 3, 4, 5] rfl ?_
              exact ih (x4 + 1) (x3 + 1) u hf kx
set_option maxHeartbeats 4000000 in
set_option maxRecDepth 100000 in
theorem k_X10_hammerByWear_L7 {l : Launch} {D : va_G} {t : Nat → ClassId} {ad : Nat → Nat} {o : Nat} (m_m : Nat → Int32) (m_thrown : Int32) (x1 : Int32) (m_aside : Nat → Int32) (m_saved : Nat → Int32) (m_isSaved : Int32) (m_past : Nat → Int32) (m_changes : Int32) (m_errorAt : Int32) (m_failed : Int32) (m_input : Nat → Int32) (m_inputMany : Int32) (m_fitting : Nat → Int32) (m_given : Nat → Int32) (m_pairs : Nat → Int32) (m_line : Nat → Int32) (m_lineMany : Int32) (m_letters : Nat → Int32) (m_begins0 : Nat → Int32) (m_commands : Nat → Int32) (m_commandMany : Int32) (m_place0 : Int32) (m_size0 : Int32) (m_isWrong : Int32) {X : jX} (hX : jOK X l D (jT t) cX10_hammerByWear RX10 (some FieldType.int) { frames := 1, cells := 0, slots := 0, locals := 21 } 6) {PP : Option Value → va_W → Prop} (hE : jEnd X PP 0 0) :
    ∀ (jn : Nat) (x2 : Int32) (u : (Int32 × Int32) ⊕ (Int32)) (hf : f_X10_hammerByWear_L7 m_m m_thrown x1 jn x2 = some u) (kx : ∀ s : Int32, u = .inr s → J X 0 0 (wM t ad o m_m m_aside m_saved m_isSaved m_past m_changes m_errorAt m_failed m_thrown m_input m_inputMany m_fitting m_given m_pairs m_line m_lineMany m_letters m_begins0 m_commands m_commandMany m_place0 m_size0 m_isWrong) 134 [(2, .int s), (0, .ref (ad o)), (1, .int x1)] []) (kr : ∀ r : Int32 × Int32, u = .inl r → PP (some (.int r.1)) (wM t ad o m_m m_aside m_saved m_isSaved m_past m_changes m_errorAt m_failed r.2 m_input m_inputMany m_fitting m_given m_pairs m_line m_lineMany m_letters m_begins0 m_commands m_commandMany m_place0 m_size0 m_isWrong)), J X 0 0 (wM t ad o m_m m_aside m_saved m_isSaved m_past m_changes m_errorAt m_failed m_thrown m_input m_inputMany m_fitting m_given m_pairs m_line m_lineMany m_letters m_begins0 m_commands m_commandMany m_place0 m_size0 m_isWrong) 7 [(2, .int x2), (0, .ref (ad o)), (1, .int x1)] [] := by
  intro jn
  induction jn with
  | zero => intro x2 u hf; cases (show (none : Option ((Int32 × Int32) ⊕ (Int32))) = some u from hf)
  | succ jn ih =>
    intro x2 u hf kx kr
    unfold f_X10_hammerByWear_L7 at hf
    refine j_iload_n hX dX10_hammerByWear_7 rfl 0 rfl ?_
    refine j_aload_n hX dX10_hammerByWear_8 rfl 1 rfl ?_
    refine j_get hX dX10_hammerByWear_9 inX10 0 q1455 0 rfl rfl (by decide) rfl rfl ?_
    refine j_iconst hX 0 dX10_hammerByWear_12 (by decide) ?_
    refine j_iald hX dX10_hammerByWear_13 1 0 rfl rfl hf (fun c13 hf => ?_)
    refine j_icmp_ge hX 134 dX10_hammerByWear_14 (by decide) hf (fun c14 hf => ?_) (fun c14 hf => ?_)
    · cases hf
      exact kx _ rfl
    · refine j_iconst hX 0 dX10_hammerByWear_17 (by decide) ?_
      refine j_istore_n hX [(3, .int 0), (2, .int x2), (0, .ref (ad o)), (1, .int x1)] dX10_hammerByWear_18 rfl (by decide) rfl ?_
      refine j_iconst hX 0 dX10_hammerByWear_19 (by decide) ?_
      refine j_istore hX [(4, .int 0), (3, .int 0), (2, .int x2), (0, .ref (ad o)), (1, .int x1)] dX10_hammerByWear_20 (by decide) rfl ?_
      obtain ⟨s10, h11, hf⟩ := jbind hf
      refine k_X10_hammerByWear_L22 (ad := ad) m_m x2 m_aside m_saved m_isSaved m_past m_changes m_errorAt m_failed m_thrown m_input m_inputMany m_fitting m_given m_pairs m_line m_lineMany m_letters m_begins0 m_commands m_commandMany m_place0 m_size0 m_isWrong x1 hX jFU 0 0 s10 h11 (fun s100 es10 => ?_)
      subst es10
      refine j_iload_n hX dX10_hammerByWear_121 rfl 1 rfl ?_
      refine j_iload_n hX dX10_hammerByWear_122 rfl 4 rfl ?_
      refine j_icmp_ne hX 128 dX10_hammerByWear_123 (by decide) hf (fun c123 hf => ?_) (fun c123 hf => ?_)
      · refine j_iinc hX (x2 + 1) [(2, .int (x2 + 1)), (4, .int s10.1), (3, .int s10.2), (0, .ref (ad o)), (1, .int x1)] dX10_hammerByWear_128 2 rfl rfl (by decide) rfl ?_
        refine j_goto hX 7 dX10_hammerByWear_131 (by decide) ?_
        refine j_sub hX [(2, .int (x2 + 1)), (0, .ref (ad o)), (1, .int x1)] [0, 3, 4] rfl ?_
        exact ih (x2 + 1) u hf kx kr
      · refine j_iload_n hX dX10_hammerByWear_126 rfl 2 rfl ?_
        cases hf
        exact j_iret hX hE dX10_hammerByWear_127 (Nat.le_refl _) (Nat.le_refl _) (kr _ rfl)
set_option maxHeartbeats 4000000 in
set_option maxRecDepth 100000 in
theorem k_X10_hammerByWear {l : Launch} {D : va_G} {t : Nat → ClassId} {ad : Nat → Nat} {o : Nat} (m_m : Nat → Int32) (m_aside : Nat → Int32) (m_saved : Nat → Int32) (m_isSaved : Int32) (m_past : Nat → Int32) (m_changes : Int32) (m_errorAt : Int32) (m_failed : Int32) (m_thrown : Int32) (m_input : Nat → Int32) (m_inputMany : Int32) (m_fitting : Nat → Int32) (m_given : Nat → Int32) (m_pairs : Nat → Int32) (m_line : Nat → Int32) (m_lineMany : Int32) (m_letters : Nat → Int32) (m_begins0 : Nat → Int32) (m_commands : Nat → Int32) (m_commandMany : Int32) (m_place0 : Int32) (m_size0 : Int32) (m_isWrong : Int32) (a0 : Int32) (u : Int32 × Int32) (hf : f_X10_hammerByWear m_m m_thrown a0 = some u) : cm l D (jT t) yX10_hammerByWear cX10_hammerByWear 6 (some FieldType.int) { frames := 1, cells := 0, slots := 0, locals := 21 } [.ref (ad o), .int a0] (wM t ad o m_m m_aside m_saved m_isSaved m_past m_changes m_errorAt m_failed m_thrown m_input m_inputMany m_fitting m_given m_pairs m_line m_lineMany m_letters m_begins0 m_commands m_commandMany m_place0 m_size0 m_isWrong) (fun v w => v = (some (.int u.1)) ∧ w = wM t ad o m_m m_aside m_saved m_isSaved m_past m_changes m_errorAt m_failed u.2 m_input m_inputMany m_fitting m_given m_pairs m_line m_lineMany m_letters m_begins0 m_commands m_commandMany m_place0 m_size0 m_isWrong) := by
  refine cm_of RX10 rfl (by decide +kernel) (Nat.le_of_ble_eq_true rfl) (fun X hX hE => ?_)
  change J X 0 0 (wM t ad o m_m m_aside m_saved m_isSaved m_past m_changes m_errorAt m_failed m_thrown m_input m_inputMany m_fitting m_given m_pairs m_line m_lineMany m_letters m_begins0 m_commands m_commandMany m_place0 m_size0 m_isWrong) 0 [(0, .ref (ad o)), (1, .int a0)] []
  unfold f_X10_hammerByWear at hf
  refine j_aload_n hX dX10_hammerByWear_0 rfl 0 rfl ?_
  refine j_iconst hX 0 dX10_hammerByWear_1 (by decide) ?_
  refine j_put hX (wM t ad o m_m m_aside m_saved m_isSaved m_past m_changes m_errorAt m_failed 0 m_input m_inputMany m_fitting m_given m_pairs m_line m_lineMany m_letters m_begins0 m_commands m_commandMany m_place0 m_size0 m_isWrong) tyX10 dX10_hammerByWear_2 inX10 tyX10_ok nmX10 8 q1463 0 rfl rfl (by decide) rfl rfl rfl rfl rfl (Nat.le_of_ble_eq_true rfl) rfl ?_
  refine j_iconst hX 0 dX10_hammerByWear_5 (by decide) ?_
  refine j_istore_n hX [(2, .int 0), (0, .ref (ad o)), (1, .int a0)] dX10_hammerByWear_6 rfl (by decide) rfl ?_
  obtain ⟨o12, h14, hf⟩ := jbind hf
  refine k_X10_hammerByWear_L7 (ad := ad) m_m 0 a0 m_aside m_saved m_isSaved m_past m_changes m_errorAt m_failed m_input m_inputMany m_fitting m_given m_pairs m_line m_lineMany m_letters m_begins0 m_commands m_commandMany m_place0 m_size0 m_isWrong hX hE jFU 0 o12 h14 (fun s13 es13 => ?_) (fun r er => ?_)
  · subst es13
    have hf := jsum_r hf
    refine j_aload_n hX dX10_hammerByWear_134 rfl 1 rfl ?_
    refine j_iconst hX 1 dX10_hammerByWear_135 (by decide) ?_
    obtain ⟨u15, h16, hf⟩ := jbind hf
    refine j_callV (st := []) hX (k_X10_throwing (l := l) (D := D) (t := t) (ad := ad) (o := o) m_m m_aside m_saved m_isSaved m_past m_changes m_errorAt m_failed 0 m_input m_inputMany m_fitting m_given m_pairs m_line m_lineMany m_letters m_begins0 m_commands m_commandMany m_place0 m_size0 m_isWrong 1 u15 h16) q1496 q1497 q1951 q15 q1498 (n9 := 1) rfl ⟨by decide +kernel, by decide +kernel⟩ 0 rfl rfl rfl dX10_hammerByWear_136 (Nat.le_of_ble_eq_true rfl) ⟨Nat.le_refl _, Nat.le_refl _⟩ (fun w : va_W => w) jFr_id rfl rfl (fun v w hvw => ?_)
    obtain ⟨rfl, rfl⟩ := hvw
    change J X 0 0 (wM t ad o m_m m_aside m_saved m_isSaved m_past m_changes m_errorAt m_failed u15.2 m_input m_inputMany m_fitting m_given m_pairs m_line m_lineMany m_letters m_begins0 m_commands m_commandMany m_place0 m_size0 m_isWrong) 139 [(2, .int s13), (0, .ref (ad o)), (1, .int a0)] [.int u15.1]
    cases hf
    exact j_iret hX hE dX10_hammerByWear_139 (Nat.le_refl _) (Nat.le_refl _) ⟨rfl, rfl⟩
  · subst er
    cases hf
    exact ⟨rfl, rfl⟩
-- HammerDepotModel coins ()I
def f_X10_coins (m_m : Nat → Int32) (m_thrown : Int32) : Option (Int32 × Int32) :=
  Option.bind (f_X10_total m_m m_thrown 2) (fun u1 =>
    some (u1.1, u1.2))
set_option maxHeartbeats 4000000 in
set_option maxRecDepth 100000 in
theorem k_X10_coins {l : Launch} {D : va_G} {t : Nat → ClassId} {ad : Nat → Nat} {o : Nat} (m_m : Nat → Int32) (m_aside : Nat → Int32) (m_saved : Nat → Int32) (m_isSaved : Int32) (m_past : Nat → Int32) (m_changes : Int32) (m_errorAt : Int32) (m_failed : Int32) (m_thrown : Int32) (m_input : Nat → Int32) (m_inputMany : Int32) (m_fitting : Nat → Int32) (m_given : Nat → Int32) (m_pairs : Nat → Int32) (m_line : Nat → Int32) (m_lineMany : Int32) (m_letters : Nat → Int32) (m_begins0 : Nat → Int32) (m_commands : Nat → Int32) (m_commandMany : Int32) (m_place0 : Int32) (m_size0 : Int32) (m_isWrong : Int32)  (u : Int32 × Int32) (hf : f_X10_coins m_m m_thrown = some u) : cm l D (jT t) yX10_coins cX10_coins 1 (some FieldType.int) { frames := 1, cells := 0, slots := 0, locals := 21 } [.ref (ad o)] (wM t ad o m_m m_aside m_saved m_isSaved m_past m_changes m_errorAt m_failed m_thrown m_input m_inputMany m_fitting m_given m_pairs m_line m_lineMany m_letters m_begins0 m_commands m_commandMany m_place0 m_size0 m_isWrong) (fun v w => v = (some (.int u.1)) ∧ w = wM t ad o m_m m_aside m_saved m_isSaved m_past m_changes m_errorAt m_failed u.2 m_input m_inputMany m_fitting m_given m_pairs m_line m_lineMany m_letters m_begins0 m_commands m_commandMany m_place0 m_size0 m_isWrong) := by
  refine cm_of RX10 rfl (by decide +kernel) (Nat.le_of_ble_eq_true rfl) (fun X hX hE => ?_)
  change J X 0 0 (wM t ad o m_m m_aside m_saved m_isSaved m_past m_changes m_errorAt m_failed m_thrown m_input m_inputMany m_fitting m_given m_pairs m_line m_lineMany m_letters m_begins0 m_commands m_commandMany m_place0 m_size0 m_isWrong) 0 [(0, .ref (ad o))] []
  unfold f_X10_coins at hf
  refine j_aload_n hX dX10_coins_0 rfl 0 rfl ?_
  refine j_iconst hX 2 dX10_coins_1 (by decide) ?_
  obtain ⟨u1, h2, hf⟩ := jbind hf
  refine j_callV (st := []) hX (k_X10_total (l := l) (D := D) (t := t) (ad := ad) (o := o) m_m m_aside m_saved m_isSaved m_past m_changes m_errorAt m_failed m_thrown m_input m_inputMany m_fitting m_given m_pairs m_line m_lineMany m_letters m_begins0 m_commands m_commandMany m_place0 m_size0 m_isWrong 2 u1 h2) q1650 q1651 q1980 q15 q1652 (n9 := 1) rfl ⟨by decide +kernel, by decide +kernel⟩ 0 rfl rfl rfl dX10_coins_2 (Nat.le_of_ble_eq_true rfl) ⟨Nat.le_refl _, Nat.le_refl _⟩ (fun w : va_W => w) jFr_id rfl rfl (fun v w hvw => ?_)
  obtain ⟨rfl, rfl⟩ := hvw
  change J X 0 0 (wM t ad o m_m m_aside m_saved m_isSaved m_past m_changes m_errorAt m_failed u1.2 m_input m_inputMany m_fitting m_given m_pairs m_line m_lineMany m_letters m_begins0 m_commands m_commandMany m_place0 m_size0 m_isWrong) 5 [(0, .ref (ad o))] [.int u1.1]
  cases hf
  exact j_iret hX hE dX10_coins_5 (Nat.le_refl _) (Nat.le_refl _) ⟨rfl, rfl⟩
-- HammerDepotModel coinsByAccounts ()I
def f_X10_coinsByAccounts (m_m : Nat → Int32) (m_thrown : Int32) : Option (Int32 × Int32) :=
  Option.bind (f_X10_total m_m m_thrown 2) (fun u1 =>
    some (u1.1, u1.2))
set_option maxHeartbeats 4000000 in
set_option maxRecDepth 100000 in
theorem k_X10_coinsByAccounts {l : Launch} {D : va_G} {t : Nat → ClassId} {ad : Nat → Nat} {o : Nat} (m_m : Nat → Int32) (m_aside : Nat → Int32) (m_saved : Nat → Int32) (m_isSaved : Int32) (m_past : Nat → Int32) (m_changes : Int32) (m_errorAt : Int32) (m_failed : Int32) (m_thrown : Int32) (m_input : Nat → Int32) (m_inputMany : Int32) (m_fitting : Nat → Int32) (m_given : Nat → Int32) (m_pairs : Nat → Int32) (m_line : Nat → Int32) (m_lineMany : Int32) (m_letters : Nat → Int32) (m_begins0 : Nat → Int32) (m_commands : Nat → Int32) (m_commandMany : Int32) (m_place0 : Int32) (m_size0 : Int32) (m_isWrong : Int32)  (u : Int32 × Int32) (hf : f_X10_coinsByAccounts m_m m_thrown = some u) : cm l D (jT t) yX10_coinsByAccounts cX10_coinsByAccounts 1 (some FieldType.int) { frames := 1, cells := 0, slots := 0, locals := 21 } [.ref (ad o)] (wM t ad o m_m m_aside m_saved m_isSaved m_past m_changes m_errorAt m_failed m_thrown m_input m_inputMany m_fitting m_given m_pairs m_line m_lineMany m_letters m_begins0 m_commands m_commandMany m_place0 m_size0 m_isWrong) (fun v w => v = (some (.int u.1)) ∧ w = wM t ad o m_m m_aside m_saved m_isSaved m_past m_changes m_errorAt m_failed u.2 m_input m_inputMany m_fitting m_given m_pairs m_line m_lineMany m_letters m_begins0 m_commands m_commandMany m_place0 m_size0 m_isWrong) := by
  refine cm_of RX10 rfl (by decide +kernel) (Nat.le_of_ble_eq_true rfl) (fun X hX hE => ?_)
  change J X 0 0 (wM t ad o m_m m_aside m_saved m_isSaved m_past m_changes m_errorAt m_failed m_thrown m_input m_inputMany m_fitting m_given m_pairs m_line m_lineMany m_letters m_begins0 m_commands m_commandMany m_place0 m_size0 m_isWrong) 0 [(0, .ref (ad o))] []
  unfold f_X10_coinsByAccounts at hf
  refine j_aload_n hX dX10_coinsByAccounts_0 rfl 0 rfl ?_
  refine j_iconst hX 2 dX10_coinsByAccounts_1 (by decide) ?_
  obtain ⟨u1, h2, hf⟩ := jbind hf
  refine j_callV (st := []) hX (k_X10_total (l := l) (D := D) (t := t) (ad := ad) (o := o) m_m m_aside m_saved m_isSaved m_past m_changes m_errorAt m_failed m_thrown m_input m_inputMany m_fitting m_given m_pairs m_line m_lineMany m_letters m_begins0 m_commands m_commandMany m_place0 m_size0 m_isWrong 2 u1 h2) q1650 q1651 q1980 q15 q1652 (n9 := 1) rfl ⟨by decide +kernel, by decide +kernel⟩ 0 rfl rfl rfl dX10_coinsByAccounts_2 (Nat.le_of_ble_eq_true rfl) ⟨Nat.le_refl _, Nat.le_refl _⟩ (fun w : va_W => w) jFr_id rfl rfl (fun v w hvw => ?_)
  obtain ⟨rfl, rfl⟩ := hvw
  change J X 0 0 (wM t ad o m_m m_aside m_saved m_isSaved m_past m_changes m_errorAt m_failed u1.2 m_input m_inputMany m_fitting m_given m_pairs m_line m_lineMany m_letters m_begins0 m_commands m_commandMany m_place0 m_size0 m_isWrong) 5 [(0, .ref (ad o))] [.int u1.1]
  cases hf
  exact j_iret hX hE dX10_coinsByAccounts_5 (Nat.le_refl _) (Nat.le_refl _) ⟨rfl, rfl⟩
-- HammerDepotModel brokenTotal ()I
def f_X10_brokenTotal (m_m : Nat → Int32) (m_thrown : Int32) : Option (Int32 × Int32) :=
  Option.bind (f_X10_total m_m m_thrown 6) (fun u1 =>
    some (u1.1, u1.2))
set_option maxHeartbeats 4000000 in
set_option maxRecDepth 100000 in
theorem k_X10_brokenTotal {l : Launch} {D : va_G} {t : Nat → ClassId} {ad : Nat → Nat} {o : Nat} (m_m : Nat → Int32) (m_aside : Nat → Int32) (m_saved : Nat → Int32) (m_isSaved : Int32) (m_past : Nat → Int32) (m_changes : Int32) (m_errorAt : Int32) (m_failed : Int32) (m_thrown : Int32) (m_input : Nat → Int32) (m_inputMany : Int32) (m_fitting : Nat → Int32) (m_given : Nat → Int32) (m_pairs : Nat → Int32) (m_line : Nat → Int32) (m_lineMany : Int32) (m_letters : Nat → Int32) (m_begins0 : Nat → Int32) (m_commands : Nat → Int32) (m_commandMany : Int32) (m_place0 : Int32) (m_size0 : Int32) (m_isWrong : Int32)  (u : Int32 × Int32) (hf : f_X10_brokenTotal m_m m_thrown = some u) : cm l D (jT t) yX10_brokenTotal cX10_brokenTotal 1 (some FieldType.int) { frames := 1, cells := 0, slots := 0, locals := 21 } [.ref (ad o)] (wM t ad o m_m m_aside m_saved m_isSaved m_past m_changes m_errorAt m_failed m_thrown m_input m_inputMany m_fitting m_given m_pairs m_line m_lineMany m_letters m_begins0 m_commands m_commandMany m_place0 m_size0 m_isWrong) (fun v w => v = (some (.int u.1)) ∧ w = wM t ad o m_m m_aside m_saved m_isSaved m_past m_changes m_errorAt m_failed u.2 m_input m_inputMany m_fitting m_given m_pairs m_line m_lineMany m_letters m_begins0 m_commands m_commandMany m_place0 m_size0 m_isWrong) := by
  refine cm_of RX10 rfl (by decide +kernel) (Nat.le_of_ble_eq_true rfl) (fun X hX hE => ?_)
  change J X 0 0 (wM t ad o m_m m_aside m_saved m_isSaved m_past m_changes m_errorAt m_failed m_thrown m_input m_inputMany m_fitting m_given m_pairs m_line m_lineMany m_letters m_begins0 m_commands m_commandMany m_place0 m_size0 m_isWrong) 0 [(0, .ref (ad o))] []
  unfold f_X10_brokenTotal at hf
  refine j_aload_n hX dX10_brokenTotal_0 rfl 0 rfl ?_
  refine j_bipush hX 6 dX10_brokenTotal_1 (by decide) ?_
  obtain ⟨u1, h2, hf⟩ := jbind hf
  refine j_callV (st := []) hX (k_X10_total (l := l) (D := D) (t := t) (ad := ad) (o := o) m_m m_aside m_saved m_isSaved m_past m_changes m_errorAt m_failed m_thrown m_input m_inputMany m_fitting m_given m_pairs m_line m_lineMany m_letters m_begins0 m_commands m_commandMany m_place0 m_size0 m_isWrong 6 u1 h2) q1650 q1651 q1980 q15 q1652 (n9 := 1) rfl ⟨by decide +kernel, by decide +kernel⟩ 0 rfl rfl rfl dX10_brokenTotal_3 (Nat.le_of_ble_eq_true rfl) ⟨Nat.le_refl _, Nat.le_refl _⟩ (fun w : va_W => w) jFr_id rfl rfl (fun v w hvw => ?_)
  obtain ⟨rfl, rfl⟩ := hvw
  change J X 0 0 (wM t ad o m_m m_aside m_saved m_isSaved m_past m_changes m_errorAt m_failed u1.2 m_input m_inputMany m_fitting m_given m_pairs m_line m_lineMany m_letters m_begins0 m_commands m_commandMany m_place0 m_size0 m_isWrong) 6 [(0, .ref (ad o))] [.int u1.1]
  cases hf
  exact j_iret hX hE dX10_brokenTotal_6 (Nat.le_refl _) (Nat.le_refl _) ⟨rfl, rfl⟩
-- HammerDepotModel lentTotal ()I
def f_X10_lentTotal (m_m : Nat → Int32) (m_thrown : Int32) : Option (Int32 × Int32) :=
  Option.bind (f_X10_total m_m m_thrown 7) (fun u1 =>
    some (u1.1, u1.2))
set_option maxHeartbeats 4000000 in
set_option maxRecDepth 100000 in
theorem k_X10_lentTotal {l : Launch} {D : va_G} {t : Nat → ClassId} {ad : Nat → Nat} {o : Nat} (m_m : Nat → Int32) (m_aside : Nat → Int32) (m_saved : Nat → Int32) (m_isSaved : Int32) (m_past : Nat → Int32) (m_changes : Int32) (m_errorAt : Int32) (m_failed : Int32) (m_thrown : Int32) (m_input : Nat → Int32) (m_inputMany : Int32) (m_fitting : Nat → Int32) (m_given : Nat → Int32) (m_pairs : Nat → Int32) (m_line : Nat → Int32) (m_lineMany : Int32) (m_letters : Nat → Int32) (m_begins0 : Nat → Int32) (m_commands : Nat → Int32) (m_commandMany : Int32) (m_place0 : Int32) (m_size0 : Int32) (m_isWrong : Int32)  (u : Int32 × Int32) (hf : f_X10_lentTotal m_m m_thrown = some u) : cm l D (jT t) yX10_lentTotal cX10_lentTotal 1 (some FieldType.int) { frames := 1, cells := 0, slots := 0, locals := 21 } [.ref (ad o)] (wM t ad o m_m m_aside m_saved m_isSaved m_past m_changes m_errorAt m_failed m_thrown m_input m_inputMany m_fitting m_given m_pairs m_line m_lineMany m_letters m_begins0 m_commands m_commandMany m_place0 m_size0 m_isWrong) (fun v w => v = (some (.int u.1)) ∧ w = wM t ad o m_m m_aside m_saved m_isSaved m_past m_changes m_errorAt m_failed u.2 m_input m_inputMany m_fitting m_given m_pairs m_line m_lineMany m_letters m_begins0 m_commands m_commandMany m_place0 m_size0 m_isWrong) := by
  refine cm_of RX10 rfl (by decide +kernel) (Nat.le_of_ble_eq_true rfl) (fun X hX hE => ?_)
  change J X 0 0 (wM t ad o m_m m_aside m_saved m_isSaved m_past m_changes m_errorAt m_failed m_thrown m_input m_inputMany m_fitting m_given m_pairs m_line m_lineMany m_letters m_begins0 m_commands m_commandMany m_place0 m_size0 m_isWrong) 0 [(0, .ref (ad o))] []
  unfold f_X10_lentTotal at hf
  refine j_aload_n hX dX10_lentTotal_0 rfl 0 rfl ?_
  refine j_bipush hX 7 dX10_lentTotal_1 (by decide) ?_
  obtain ⟨u1, h2, hf⟩ := jbind hf
  refine j_callV (st := []) hX (k_X10_total (l := l) (D := D) (t := t) (ad := ad) (o := o) m_m m_aside m_saved m_isSaved m_past m_changes m_errorAt m_failed m_thrown m_input m_inputMany m_fitting m_given m_pairs m_line m_lineMany m_letters m_begins0 m_commands m_commandMany m_place0 m_size0 m_isWrong 7 u1 h2) q1650 q1651 q1980 q15 q1652 (n9 := 1) rfl ⟨by decide +kernel, by decide +kernel⟩ 0 rfl rfl rfl dX10_lentTotal_3 (Nat.le_of_ble_eq_true rfl) ⟨Nat.le_refl _, Nat.le_refl _⟩ (fun w : va_W => w) jFr_id rfl rfl (fun v w hvw => ?_)
  obtain ⟨rfl, rfl⟩ := hvw
  change J X 0 0 (wM t ad o m_m m_aside m_saved m_isSaved m_past m_changes m_errorAt m_failed u1.2 m_input m_inputMany m_fitting m_given m_pairs m_line m_lineMany m_letters m_begins0 m_commands m_commandMany m_place0 m_size0 m_isWrong) 6 [(0, .ref (ad o))] [.int u1.1]
  cases hf
  exact j_iret hX hE dX10_lentTotal_6 (Nat.le_refl _) (Nat.le_refl _) ⟨rfl, rfl⟩
-- HammerDepotModel day ()I
def f_X10_day (m_m : Nat → Int32) (m_thrown : Int32) : Option (Int32 × Int32) :=
  Option.bind (f_X10_total m_m m_thrown 1) (fun u1 =>
    some (u1.1, u1.2))
set_option maxHeartbeats 4000000 in
set_option maxRecDepth 100000 in
theorem k_X10_day {l : Launch} {D : va_G} {t : Nat → ClassId} {ad : Nat → Nat} {o : Nat} (m_m : Nat → Int32) (m_aside : Nat → Int32) (m_saved : Nat → Int32) (m_isSaved : Int32) (m_past : Nat → Int32) (m_changes : Int32) (m_errorAt : Int32) (m_failed : Int32) (m_thrown : Int32) (m_input : Nat → Int32) (m_inputMany : Int32) (m_fitting : Nat → Int32) (m_given : Nat → Int32) (m_pairs : Nat → Int32) (m_line : Nat → Int32) (m_lineMany : Int32) (m_letters : Nat → Int32) (m_begins0 : Nat → Int32) (m_commands : Nat → Int32) (m_commandMany : Int32) (m_place0 : Int32) (m_size0 : Int32) (m_isWrong : Int32)  (u : Int32 × Int32) (hf : f_X10_day m_m m_thrown = some u) : cm l D (jT t) yX10_day cX10_day 1 (some FieldType.int) { frames := 1, cells := 0, slots := 0, locals := 21 } [.ref (ad o)] (wM t ad o m_m m_aside m_saved m_isSaved m_past m_changes m_errorAt m_failed m_thrown m_input m_inputMany m_fitting m_given m_pairs m_line m_lineMany m_letters m_begins0 m_commands m_commandMany m_place0 m_size0 m_isWrong) (fun v w => v = (some (.int u.1)) ∧ w = wM t ad o m_m m_aside m_saved m_isSaved m_past m_changes m_errorAt m_failed u.2 m_input m_inputMany m_fitting m_given m_pairs m_line m_lineMany m_letters m_begins0 m_commands m_commandMany m_place0 m_size0 m_isWrong) := by
  refine cm_of RX10 rfl (by decide +kernel) (Nat.le_of_ble_eq_true rfl) (fun X hX hE => ?_)
  change J X 0 0 (wM t ad o m_m m_aside m_saved m_isSaved m_past m_changes m_errorAt m_failed m_thrown m_input m_inputMany m_fitting m_given m_pairs m_line m_lineMany m_letters m_begins0 m_commands m_commandMany m_place0 m_size0 m_isWrong) 0 [(0, .ref (ad o))] []
  unfold f_X10_day at hf
  refine j_aload_n hX dX10_day_0 rfl 0 rfl ?_
  refine j_iconst hX 1 dX10_day_1 (by decide) ?_
  obtain ⟨u1, h2, hf⟩ := jbind hf
  refine j_callV (st := []) hX (k_X10_total (l := l) (D := D) (t := t) (ad := ad) (o := o) m_m m_aside m_saved m_isSaved m_past m_changes m_errorAt m_failed m_thrown m_input m_inputMany m_fitting m_given m_pairs m_line m_lineMany m_letters m_begins0 m_commands m_commandMany m_place0 m_size0 m_isWrong 1 u1 h2) q1650 q1651 q1980 q15 q1652 (n9 := 1) rfl ⟨by decide +kernel, by decide +kernel⟩ 0 rfl rfl rfl dX10_day_2 (Nat.le_of_ble_eq_true rfl) ⟨Nat.le_refl _, Nat.le_refl _⟩ (fun w : va_W => w) jFr_id rfl rfl (fun v w hvw => ?_)
  obtain ⟨rfl, rfl⟩ := hvw
  change J X 0 0 (wM t ad o m_m m_aside m_saved m_isSaved m_past m_changes m_errorAt m_failed u1.2 m_input m_inputMany m_fitting m_given m_pairs m_line m_lineMany m_letters m_begins0 m_commands m_commandMany m_place0 m_size0 m_isWrong) 5 [(0, .ref (ad o))] [.int u1.1]
  cases hf
  exact j_iret hX hE dX10_day_5 (Nat.le_refl _) (Nat.le_refl _) ⟨rfl, rfl⟩
-- HammerDepotModel isConsistent ()Z
def f_X10_isConsistent (m_thrown : Int32) : Option (Int32 × Int32) :=
  some (1, 0)
set_option maxHeartbeats 4000000 in
set_option maxRecDepth 100000 in
theorem k_X10_isConsistent {l : Launch} {D : va_G} {t : Nat → ClassId} {ad : Nat → Nat} {o : Nat} (m_m : Nat → Int32) (m_aside : Nat → Int32) (m_saved : Nat → Int32) (m_isSaved : Int32) (m_past : Nat → Int32) (m_changes : Int32) (m_errorAt : Int32) (m_failed : Int32) (m_thrown : Int32) (m_input : Nat → Int32) (m_inputMany : Int32) (m_fitting : Nat → Int32) (m_given : Nat → Int32) (m_pairs : Nat → Int32) (m_line : Nat → Int32) (m_lineMany : Int32) (m_letters : Nat → Int32) (m_begins0 : Nat → Int32) (m_commands : Nat → Int32) (m_commandMany : Int32) (m_place0 : Int32) (m_size0 : Int32) (m_isWrong : Int32)  (u : Int32 × Int32) (hf : f_X10_isConsistent m_thrown = some u) : cm l D (jT t) yX10_isConsistent cX10_isConsistent 1 (some FieldType.boolean) { frames := 0, cells := 0, slots := 0, locals := 0 } [.ref (ad o)] (wM t ad o m_m m_aside m_saved m_isSaved m_past m_changes m_errorAt m_failed m_thrown m_input m_inputMany m_fitting m_given m_pairs m_line m_lineMany m_letters m_begins0 m_commands m_commandMany m_place0 m_size0 m_isWrong) (fun v w => v = (some (.int u.1)) ∧ w = wM t ad o m_m m_aside m_saved m_isSaved m_past m_changes m_errorAt m_failed u.2 m_input m_inputMany m_fitting m_given m_pairs m_line m_lineMany m_letters m_begins0 m_commands m_commandMany m_place0 m_size0 m_isWrong) := by
  refine cm_of RX10 rfl (by decide +kernel) (Nat.le_of_ble_eq_true rfl) (fun X hX hE => ?_)
  change J X 0 0 (wM t ad o m_m m_aside m_saved m_isSaved m_past m_changes m_errorAt m_failed m_thrown m_input m_inputMany m_fitting m_given m_pairs m_line m_lineMany m_letters m_begins0 m_commands m_commandMany m_place0 m_size0 m_isWrong) 0 [(0, .ref (ad o))] []
  unfold f_X10_isConsistent at hf
  refine j_aload_n hX dX10_isConsistent_0 rfl 0 rfl ?_
  refine j_iconst hX 0 dX10_isConsistent_1 (by decide) ?_
  refine j_put hX (wM t ad o m_m m_aside m_saved m_isSaved m_past m_changes m_errorAt m_failed 0 m_input m_inputMany m_fitting m_given m_pairs m_line m_lineMany m_letters m_begins0 m_commands m_commandMany m_place0 m_size0 m_isWrong) tyX10 dX10_isConsistent_2 inX10 tyX10_ok nmX10 8 q1463 0 rfl rfl (by decide) rfl rfl rfl rfl rfl (Nat.le_of_ble_eq_true rfl) rfl ?_
  refine j_iconst hX 1 dX10_isConsistent_5 (by decide) ?_
  cases hf
  exact j_zret hX hE rfl dX10_isConsistent_6 (Nat.le_refl _) (Nat.le_refl _) ⟨rfl, rfl⟩
-- HammerDepotModel sign (I)V
def f_X10_sign (m_line : Nat → Int32) (m_lineMany : Int32) (a0 : Int32) : Option ((Nat → Int32) × Int32) :=
  if jin m_lineMany 40 = true then
    some (upd m_line (m_lineMany).toNatClampNeg a0, m_lineMany + 1)
  else none
set_option maxHeartbeats 4000000 in
set_option maxRecDepth 100000 in
theorem k_X10_sign {l : Launch} {D : va_G} {t : Nat → ClassId} {ad : Nat → Nat} {o : Nat} (m_m : Nat → Int32) (m_aside : Nat → Int32) (m_saved : Nat → Int32) (m_isSaved : Int32) (m_past : Nat → Int32) (m_changes : Int32) (m_errorAt : Int32) (m_failed : Int32) (m_thrown : Int32) (m_input : Nat → Int32) (m_inputMany : Int32) (m_fitting : Nat → Int32) (m_given : Nat → Int32) (m_pairs : Nat → Int32) (m_line : Nat → Int32) (m_lineMany : Int32) (m_letters : Nat → Int32) (m_begins0 : Nat → Int32) (m_commands : Nat → Int32) (m_commandMany : Int32) (m_place0 : Int32) (m_size0 : Int32) (m_isWrong : Int32) (a0 : Int32) (u : (Nat → Int32) × Int32) (hf : f_X10_sign m_line m_lineMany a0 = some u) : cm l D (jT t) yX10_sign cX10_sign 2 none { frames := 0, cells := 0, slots := 0, locals := 0 } [.ref (ad o), .int a0] (wM t ad o m_m m_aside m_saved m_isSaved m_past m_changes m_errorAt m_failed m_thrown m_input m_inputMany m_fitting m_given m_pairs m_line m_lineMany m_letters m_begins0 m_commands m_commandMany m_place0 m_size0 m_isWrong) (fun v w => v = none ∧ w = wM t ad o m_m m_aside m_saved m_isSaved m_past m_changes m_errorAt m_failed m_thrown m_input m_inputMany m_fitting m_given m_pairs u.1 u.2 m_letters m_begins0 m_commands m_commandMany m_place0 m_size0 m_isWrong) := by
  refine cm_of RX10 rfl (by decide +kernel) (Nat.le_of_ble_eq_true rfl) (fun X hX hE => ?_)
  change J X 0 0 (wM t ad o m_m m_aside m_saved m_isSaved m_past m_changes m_errorAt m_failed m_thrown m_input m_inputMany m_fitting m_given m_pairs m_line m_lineMany m_letters m_begins0 m_commands m_commandMany m_place0 m_size0 m_isWrong) 0 [(0, .ref (ad o)), (1, .int a0)] []
  unfold f_X10_sign at hf
  refine j_aload_n hX dX10_sign_0 rfl 0 rfl ?_
  refine j_get hX dX10_sign_1 inX10 14 q1469 0 rfl rfl (by decide) rfl rfl ?_
  refine j_aload_n hX dX10_sign_4 rfl 0 rfl ?_
  refine j_get hX dX10_sign_5 inX10 15 q1470 0 rfl rfl (by decide) rfl rfl ?_
  refine j_iload_n hX dX10_sign_8 rfl 1 rfl ?_
  refine j_iast hX (wM t ad o m_m m_aside m_saved m_isSaved m_past m_changes m_errorAt m_failed m_thrown m_input m_inputMany m_fitting m_given m_pairs (upd m_line (m_lineMany).toNatClampNeg a0) m_lineMany m_letters m_begins0 m_commands m_commandMany m_place0 m_size0 m_isWrong) dX10_sign_9 9 0 rfl rfl rfl hf (fun c9 hf => ?_)
  refine j_aload_n hX dX10_sign_10 rfl 0 rfl ?_
  refine j_dup hX dX10_sign_11 rfl ?_
  refine j_get hX dX10_sign_12 inX10 15 q1470 0 rfl rfl (by decide) rfl rfl ?_
  refine j_iconst hX 1 dX10_sign_15 (by decide) ?_
  refine j_iadd hX dX10_sign_16 ?_
  refine j_put hX (wM t ad o m_m m_aside m_saved m_isSaved m_past m_changes m_errorAt m_failed m_thrown m_input m_inputMany m_fitting m_given m_pairs (upd m_line (m_lineMany).toNatClampNeg a0) (m_lineMany + 1) m_letters m_begins0 m_commands m_commandMany m_place0 m_size0 m_isWrong) tyX10 dX10_sign_17 inX10 tyX10_ok nmX10 15 q1470 0 rfl rfl (by decide) rfl rfl rfl rfl rfl (Nat.le_of_ble_eq_true rfl) rfl ?_
  cases hf
  exact j_vret hX hE dX10_sign_20 (Nat.le_refl _) (Nat.le_refl _) ⟨rfl, rfl⟩
-- HammerDepotModel writesNumber (I)V
def f_X10_writesNumber_L2 (x1 : Int32) : Nat → Int32 → Option (Int32)
  | 0, _ => none
  | jn + 1, x2 =>
    if ¬ x2 = 0 then
      if (x1 / x2) ≤ 9 then
        some x2
      else
        f_X10_writesNumber_L2 x1 jn (x2 * 10)
    else none
def f_X10_writesNumber_L18 (x1 : Int32) : Nat → Int32 → (Nat → Int32) → Int32 → Option (Int32 × (Nat → Int32) × Int32)
  | 0, _, _, _ => none
  | jn + 1, x2, m_line, m_lineMany =>
    if x2 ≤ 0 then
      some (x2, m_line, m_lineMany)
    else
      if ¬ x2 = 0 then
        Option.bind (f_X10_sign m_line m_lineMany ((48 : Int32) + ((x1 / x2) - (x1 / x2) / 10 * 10))) (fun u4 =>
          f_X10_writesNumber_L18 x1 jn (x2 / 10) u4.1 u4.2)
      else none
def f_X10_writesNumber (m_line : Nat → Int32) (m_lineMany : Int32) (a0 : Int32) : Option ((Nat → Int32) × Int32) :=
  Option.bind (f_X10_writesNumber_L2 a0 jFU 1) (fun s2 =>
    Option.bind (f_X10_writesNumber_L18 a0 jFU s2 m_line m_lineMany) (fun s7 =>
      some (s7.2.1, s7.2.2)))
set_option maxHeartbeats 4000000 in
set_option maxRecDepth 100000 in
theorem k_X10_writesNumber_L2 {l : Launch} {D : va_G} {t : Nat → ClassId} {ad : Nat → Nat} {o : Nat} (x1 : Int32) (m_m : Nat → Int32) (m_aside : Nat → Int32) (m_saved : Nat → Int32) (m_isSaved : Int32) (m_past : Nat → Int32) (m_changes : Int32) (m_errorAt : Int32) (m_failed : Int32) (m_thrown : Int32) (m_input : Nat → Int32) (m_inputMany : Int32) (m_fitting : Nat → Int32) (m_given : Nat → Int32) (m_pairs : Nat → Int32) (m_line : Nat → Int32) (m_lineMany : Int32) (m_letters : Nat → Int32) (m_begins0 : Nat → Int32) (m_commands : Nat → Int32) (m_commandMany : Int32) (m_place0 : Int32) (m_size0 : Int32) (m_isWrong : Int32) {X : jX} (hX : jOK X l D (jT t) cX10_writesNumber RX10 none { frames := 1, cells := 0, slots := 0, locals := 21 } 3) :
    ∀ (jn : Nat) (x2 : Int32) (u : Int32) (hf : f_X10_writesNumber_L2 x1 jn x2 = some u) (kx : ∀ s : Int32, u = s → J X 0 0 (wM t ad o m_m m_aside m_saved m_isSaved m_past m_changes m_errorAt m_failed m_thrown m_input m_inputMany m_fitting m_given m_pairs m_line m_lineMany m_letters m_begins0 m_commands m_commandMany m_place0 m_size0 m_isWrong) 18 [(2, .int s), (0, .ref (ad o)), (1, .int x1)] []), J X 0 0 (wM t ad o m_m m_aside m_saved m_isSaved m_past m_changes m_errorAt m_failed m_thrown m_input m_inputMany m_fitting m_given m_pairs m_line m_lineMany m_letters m_begins0 m_commands m_commandMany m_place0 m_size0 m_isWrong) 2 [(2, .int x2), (0, .ref (ad o)), (1, .int x1)] [] := by
  intro jn
  induction jn with
  | zero => intro x2 u hf; cases (show (none : Option (Int32)) = some u from hf)
  | succ jn ih =>
    intro x2 u hf kx
    unfold f_X10_writesNumber_L2 at hf
    refine j_iload_n hX dX10_writesNumber_2 rfl 2 rfl ?_
    refine j_iload_n hX dX10_writesNumber_3 rfl 0 rfl ?_
    obtain ⟨c4, hf⟩ := jif hf
    refine j_idiv hX dX10_writesNumber_4 c4 ?_
    refine j_bipush hX 9 dX10_writesNumber_5 (by decide) ?_
    refine j_icmp_le hX 18 dX10_writesNumber_7 (by decide) hf (fun c7 hf => ?_) (fun c7 hf => ?_)
    · cases hf
      exact kx _ rfl
    · refine j_iload_n hX dX10_writesNumber_10 rfl 0 rfl ?_
      refine j_bipush hX 10 dX10_writesNumber_11 (by decide) ?_
      refine j_imul hX dX10_writesNumber_13 ?_
      refine j_istore_n hX [(2, .int (x2 * 10)), (0, .ref (ad o)), (1, .int x1)] dX10_writesNumber_14 rfl (by decide) rfl ?_
      refine j_goto hX 2 dX10_writesNumber_15 (by decide) ?_
      exact ih (x2 * 10) u hf kx
set_option maxHeartbeats 4000000 in
set_option maxRecDepth 100000 in
theorem k_X10_writesNumber_L18 {l : Launch} {D : va_G} {t : Nat → ClassId} {ad : Nat → Nat} {o : Nat} (x1 : Int32) (m_m : Nat → Int32) (m_aside : Nat → Int32) (m_saved : Nat → Int32) (m_isSaved : Int32) (m_past : Nat → Int32) (m_changes : Int32) (m_errorAt : Int32) (m_failed : Int32) (m_thrown : Int32) (m_input : Nat → Int32) (m_inputMany : Int32) (m_fitting : Nat → Int32) (m_given : Nat → Int32) (m_pairs : Nat → Int32) (m_letters : Nat → Int32) (m_begins0 : Nat → Int32) (m_commands : Nat → Int32) (m_commandMany : Int32) (m_place0 : Int32) (m_size0 : Int32) (m_isWrong : Int32) {X : jX} (hX : jOK X l D (jT t) cX10_writesNumber RX10 none { frames := 1, cells := 0, slots := 0, locals := 21 } 3) :
    ∀ (jn : Nat) (x2 : Int32) (m_line : Nat → Int32) (m_lineMany : Int32) (u : Int32 × (Nat → Int32) × Int32) (hf : f_X10_writesNumber_L18 x1 jn x2 m_line m_lineMany = some u) (kx : ∀ s : Int32 × (Nat → Int32) × Int32, u = s → J X 0 0 (wM t ad o m_m m_aside m_saved m_isSaved m_past m_changes m_errorAt m_failed m_thrown m_input m_inputMany m_fitting m_given m_pairs s.2.1 s.2.2 m_letters m_begins0 m_commands m_commandMany m_place0 m_size0 m_isWrong) 43 [(2, .int s.1), (0, .ref (ad o)), (1, .int x1)] []), J X 0 0 (wM t ad o m_m m_aside m_saved m_isSaved m_past m_changes m_errorAt m_failed m_thrown m_input m_inputMany m_fitting m_given m_pairs m_line m_lineMany m_letters m_begins0 m_commands m_commandMany m_place0 m_size0 m_isWrong) 18 [(2, .int x2), (0, .ref (ad o)), (1, .int x1)] [] := by
  intro jn
  induction jn with
  | zero => intro x2 m_line m_lineMany u hf; cases (show (none : Option (Int32 × (Nat → Int32) × Int32)) = some u from hf)
  | succ jn ih =>
    intro x2 m_line m_lineMany u hf kx
    unfold f_X10_writesNumber_L18 at hf
    refine j_iload_n hX dX10_writesNumber_18 rfl 0 rfl ?_
    refine j_if_le hX 43 dX10_writesNumber_19 (by decide) hf (fun c19 hf => ?_) (fun c19 hf => ?_)
    · cases hf
      exact kx _ rfl
    · refine j_aload_n hX dX10_writesNumber_22 rfl 1 rfl ?_
      refine j_bipush hX 48 dX10_writesNumber_23 (by decide) ?_
      refine j_iload_n hX dX10_writesNumber_25 rfl 2 rfl ?_
      refine j_iload_n hX dX10_writesNumber_26 rfl 0 rfl ?_
      obtain ⟨c27, hf⟩ := jif hf
      refine j_idiv hX dX10_writesNumber_27 c27 ?_
      refine j_bipush hX 10 dX10_writesNumber_28 (by decide) ?_
      refine j_irem hX dX10_writesNumber_30 (by decide) ?_
      refine j_iadd hX dX10_writesNumber_31 ?_
      obtain ⟨u4, h5, hf⟩ := jbind hf
      refine j_callV (st := []) hX (k_X10_sign (l := l) (D := D) (t := t) (ad := ad) (o := o) m_m m_aside m_saved m_isSaved m_past m_changes m_errorAt m_failed m_thrown m_input m_inputMany m_fitting m_given m_pairs m_line m_lineMany m_letters m_begins0 m_commands m_commandMany m_place0 m_size0 m_isWrong ((48 : Int32) + ((x1 / x2) - (x1 / x2) / 10 * 10)) u4 h5) q1810 q1811 q1987 q15 q1812 (n9 := 1) rfl ⟨by decide +kernel, by decide +kernel⟩ 0 rfl rfl rfl dX10_writesNumber_32 (Nat.le_of_ble_eq_true rfl) ⟨Nat.le_refl _, Nat.le_refl _⟩ (fun w : va_W => w) jFr_id rfl rfl (fun v w hvw => ?_)
      obtain ⟨rfl, rfl⟩ := hvw
      change J X 0 0 (wM t ad o m_m m_aside m_saved m_isSaved m_past m_changes m_errorAt m_failed m_thrown m_input m_inputMany m_fitting m_given m_pairs u4.1 u4.2 m_letters m_begins0 m_commands m_commandMany m_place0 m_size0 m_isWrong) 35 [(2, .int x2), (0, .ref (ad o)), (1, .int x1)] []
      refine j_iload_n hX dX10_writesNumber_35 rfl 0 rfl ?_
      refine j_bipush hX 10 dX10_writesNumber_36 (by decide) ?_
      refine j_idiv hX dX10_writesNumber_38 (by decide) ?_
      refine j_istore_n hX [(2, .int (x2 / 10)), (0, .ref (ad o)), (1, .int x1)] dX10_writesNumber_39 rfl (by decide) rfl ?_
      refine j_goto hX 18 dX10_writesNumber_40 (by decide) ?_
      exact ih (x2 / 10) u4.1 u4.2 u hf kx
set_option maxHeartbeats 4000000 in
set_option maxRecDepth 100000 in
theorem k_X10_writesNumber {l : Launch} {D : va_G} {t : Nat → ClassId} {ad : Nat → Nat} {o : Nat} (m_m : Nat → Int32) (m_aside : Nat → Int32) (m_saved : Nat → Int32) (m_isSaved : Int32) (m_past : Nat → Int32) (m_changes : Int32) (m_errorAt : Int32) (m_failed : Int32) (m_thrown : Int32) (m_input : Nat → Int32) (m_inputMany : Int32) (m_fitting : Nat → Int32) (m_given : Nat → Int32) (m_pairs : Nat → Int32) (m_line : Nat → Int32) (m_lineMany : Int32) (m_letters : Nat → Int32) (m_begins0 : Nat → Int32) (m_commands : Nat → Int32) (m_commandMany : Int32) (m_place0 : Int32) (m_size0 : Int32) (m_isWrong : Int32) (a0 : Int32) (u : (Nat → Int32) × Int32) (hf : f_X10_writesNumber m_line m_lineMany a0 = some u) : cm l D (jT t) yX10_writesNumber cX10_writesNumber 3 none { frames := 1, cells := 0, slots := 0, locals := 21 } [.ref (ad o), .int a0] (wM t ad o m_m m_aside m_saved m_isSaved m_past m_changes m_errorAt m_failed m_thrown m_input m_inputMany m_fitting m_given m_pairs m_line m_lineMany m_letters m_begins0 m_commands m_commandMany m_place0 m_size0 m_isWrong) (fun v w => v = none ∧ w = wM t ad o m_m m_aside m_saved m_isSaved m_past m_changes m_errorAt m_failed m_thrown m_input m_inputMany m_fitting m_given m_pairs u.1 u.2 m_letters m_begins0 m_commands m_commandMany m_place0 m_size0 m_isWrong) := by
  refine cm_of RX10 rfl (by decide +kernel) (Nat.le_of_ble_eq_true rfl) (fun X hX hE => ?_)
  change J X 0 0 (wM t ad o m_m m_aside m_saved m_isSaved m_past m_changes m_errorAt m_failed m_thrown m_input m_inputMany m_fitting m_given m_pairs m_line m_lineMany m_letters m_begins0 m_commands m_commandMany m_place0 m_size0 m_isWrong) 0 [(0, .ref (ad o)), (1, .int a0)] []
  unfold f_X10_writesNumber at hf
  refine j_iconst hX 1 dX10_writesNumber_0 (by decide) ?_
  refine j_istore_n hX [(2, .int 1), (0, .ref (ad o)), (1, .int a0)] dX10_writesNumber_1 rfl (by decide) rfl ?_
  obtain ⟨s2, h3, hf⟩ := jbind hf
  refine k_X10_writesNumber_L2 (ad := ad) a0 m_m m_aside m_saved m_isSaved m_past m_changes m_errorAt m_failed m_thrown m_input m_inputMany m_fitting m_given m_pairs m_line m_lineMany m_letters m_begins0 m_commands m_commandMany m_place0 m_size0 m_isWrong hX jFU 1 s2 h3 (fun s20 es2 => ?_)
  subst es2
  obtain ⟨s7, h8, hf⟩ := jbind hf
  refine k_X10_writesNumber_L18 (ad := ad) a0 m_m m_aside m_saved m_isSaved m_past m_changes m_errorAt m_failed m_thrown m_input m_inputMany m_fitting m_given m_pairs m_letters m_begins0 m_commands m_commandMany m_place0 m_size0 m_isWrong hX jFU s2 m_line m_lineMany s7 h8 (fun s70 es7 => ?_)
  subst es7
  cases hf
  exact j_vret hX hE dX10_writesNumber_43 (Nat.le_refl _) (Nat.le_refl _) ⟨rfl, rfl⟩
-- HammerDepotModel writes (II)V
def f_X10_writes (m_line : Nat → Int32) (m_lineMany : Int32) (a0 : Int32) (a1 : Int32) : Option ((Nat → Int32) × Int32) :=
  Option.bind (f_X10_sign m_line m_lineMany a0) (fun u1 =>
    Option.bind (f_X10_writesNumber u1.1 u1.2 a1) (fun u3 =>
      some (u3.1, u3.2)))
set_option maxHeartbeats 4000000 in
set_option maxRecDepth 100000 in
theorem k_X10_writes {l : Launch} {D : va_G} {t : Nat → ClassId} {ad : Nat → Nat} {o : Nat} (m_m : Nat → Int32) (m_aside : Nat → Int32) (m_saved : Nat → Int32) (m_isSaved : Int32) (m_past : Nat → Int32) (m_changes : Int32) (m_errorAt : Int32) (m_failed : Int32) (m_thrown : Int32) (m_input : Nat → Int32) (m_inputMany : Int32) (m_fitting : Nat → Int32) (m_given : Nat → Int32) (m_pairs : Nat → Int32) (m_line : Nat → Int32) (m_lineMany : Int32) (m_letters : Nat → Int32) (m_begins0 : Nat → Int32) (m_commands : Nat → Int32) (m_commandMany : Int32) (m_place0 : Int32) (m_size0 : Int32) (m_isWrong : Int32) (a0 : Int32) (a1 : Int32) (u : (Nat → Int32) × Int32) (hf : f_X10_writes m_line m_lineMany a0 a1 = some u) : cm l D (jT t) yX10_writes cX10_writes 3 none { frames := 2, cells := 0, slots := 0, locals := 43 } [.ref (ad o), .int a0, .int a1] (wM t ad o m_m m_aside m_saved m_isSaved m_past m_changes m_errorAt m_failed m_thrown m_input m_inputMany m_fitting m_given m_pairs m_line m_lineMany m_letters m_begins0 m_commands m_commandMany m_place0 m_size0 m_isWrong) (fun v w => v = none ∧ w = wM t ad o m_m m_aside m_saved m_isSaved m_past m_changes m_errorAt m_failed m_thrown m_input m_inputMany m_fitting m_given m_pairs u.1 u.2 m_letters m_begins0 m_commands m_commandMany m_place0 m_size0 m_isWrong) := by
  refine cm_of RX10 rfl (by decide +kernel) (Nat.le_of_ble_eq_true rfl) (fun X hX hE => ?_)
  change J X 0 0 (wM t ad o m_m m_aside m_saved m_isSaved m_past m_changes m_errorAt m_failed m_thrown m_input m_inputMany m_fitting m_given m_pairs m_line m_lineMany m_letters m_begins0 m_commands m_commandMany m_place0 m_size0 m_isWrong) 0 [(0, .ref (ad o)), (1, .int a0), (2, .int a1)] []
  unfold f_X10_writes at hf
  refine j_aload_n hX dX10_writes_0 rfl 0 rfl ?_
  refine j_iload_n hX dX10_writes_1 rfl 1 rfl ?_
  obtain ⟨u1, h2, hf⟩ := jbind hf
  refine j_callV (st := []) hX (k_X10_sign (l := l) (D := D) (t := t) (ad := ad) (o := o) m_m m_aside m_saved m_isSaved m_past m_changes m_errorAt m_failed m_thrown m_input m_inputMany m_fitting m_given m_pairs m_line m_lineMany m_letters m_begins0 m_commands m_commandMany m_place0 m_size0 m_isWrong a0 u1 h2) q1810 q1811 q1987 q15 q1812 (n9 := 1) rfl ⟨by decide +kernel, by decide +kernel⟩ 0 rfl rfl rfl dX10_writes_2 (Nat.le_of_ble_eq_true rfl) ⟨Nat.le_refl _, Nat.le_refl _⟩ (fun w : va_W => w) jFr_id rfl rfl (fun v w hvw => ?_)
  obtain ⟨rfl, rfl⟩ := hvw
  change J X 0 0 (wM t ad o m_m m_aside m_saved m_isSaved m_past m_changes m_errorAt m_failed m_thrown m_input m_inputMany m_fitting m_given m_pairs u1.1 u1.2 m_letters m_begins0 m_commands m_commandMany m_place0 m_size0 m_isWrong) 5 [(0, .ref (ad o)), (1, .int a0), (2, .int a1)] []
  refine j_aload_n hX dX10_writes_5 rfl 0 rfl ?_
  refine j_iload_n hX dX10_writes_6 rfl 2 rfl ?_
  obtain ⟨u3, h4, hf⟩ := jbind hf
  refine j_callV (st := []) hX (k_X10_writesNumber (l := l) (D := D) (t := t) (ad := ad) (o := o) m_m m_aside m_saved m_isSaved m_past m_changes m_errorAt m_failed m_thrown m_input m_inputMany m_fitting m_given m_pairs u1.1 u1.2 m_letters m_begins0 m_commands m_commandMany m_place0 m_size0 m_isWrong a1 u3 h4) q1813 q1814 q1988 q15 q1815 (n9 := 1) rfl ⟨by decide +kernel, by decide +kernel⟩ 0 rfl rfl rfl dX10_writes_7 (Nat.le_of_ble_eq_true rfl) ⟨Nat.le_refl _, Nat.le_refl _⟩ (fun w : va_W => w) jFr_id rfl rfl (fun v w hvw => ?_)
  obtain ⟨rfl, rfl⟩ := hvw
  change J X 0 0 (wM t ad o m_m m_aside m_saved m_isSaved m_past m_changes m_errorAt m_failed m_thrown m_input m_inputMany m_fitting m_given m_pairs u3.1 u3.2 m_letters m_begins0 m_commands m_commandMany m_place0 m_size0 m_isWrong) 10 [(0, .ref (ad o)), (1, .int a0), (2, .int a1)] []
  cases hf
  exact j_vret hX hE dX10_writes_10 (Nat.le_refl _) (Nat.le_refl _) ⟨rfl, rfl⟩

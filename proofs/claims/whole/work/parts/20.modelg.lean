-- HammerDepotModel renderRack (I)I
def f_X10_renderRack_L25 (m_m : Nat → Int32) (x1 : Int32) : Nat → Int32 → (Nat → Int32) → Int32 → Option (Int32 × (Nat → Int32) × Int32)
  | 0, _, _, _ => none
  | jn + 1, x2, m_line, m_lineMany =>
    if 6 ≤ x2 then
      some (x2, m_line, m_lineMany)
    else
      if x2 ≤ 0 then
        Option.bind (f_X10_standing m_m x1 x2) (fun u3 =>
          if u3 = (-1) then
            Option.bind (f_X10_sign m_line m_lineMany 45) (fun u9 =>
              f_X10_renderRack_L25 m_m x1 jn (x2 + 1) u9.1 u9.2)
          else
            Option.bind (f_X10_standing m_m x1 x2) (fun u5 =>
              Option.bind (f_X10_writesNumber m_line m_lineMany u5) (fun u7 =>
                f_X10_renderRack_L25 m_m x1 jn (x2 + 1) u7.1 u7.2)))
      else
        Option.bind (f_X10_sign m_line m_lineMany 44) (fun u11 =>
          Option.bind (f_X10_standing m_m x1 x2) (fun u13 =>
            if u13 = (-1) then
              Option.bind (f_X10_sign u11.1 u11.2 45) (fun u19 =>
                f_X10_renderRack_L25 m_m x1 jn (x2 + 1) u19.1 u19.2)
            else
              Option.bind (f_X10_standing m_m x1 x2) (fun u15 =>
                Option.bind (f_X10_writesNumber u11.1 u11.2 u15) (fun u17 =>
                  f_X10_renderRack_L25 m_m x1 jn (x2 + 1) u17.1 u17.2))))
def f_X10_renderRack (m_m : Nat → Int32) (m_thrown : Int32) (m_line : Nat → Int32) (m_lineMany : Int32) (a0 : Int32) : Option (Int32 × Int32 × (Nat → Int32) × Int32) :=
  Option.bind (f_X10_isRack a0) (fun u1 =>
    if u1 = 0 then
      Option.bind (f_X10_throwing 0 1) (fun u24 =>
        some (u24.1, u24.2, m_line, m_lineMany))
    else
      Option.bind (f_X10_renderRack_L25 m_m a0 jFU 0 m_line 0) (fun s22 =>
        some (s22.2.2, 0, s22.2.1, s22.2.2)))
set_option maxHeartbeats 4000000 in
set_option maxRecDepth 100000 in
theorem k_X10_renderRack_L25 {l : Launch} {D : va_G} {t : Nat → ClassId} {ad : Nat → Nat} {o : Nat} (m_m : Nat → Int32) (x1 : Int32) (m_aside : Nat → Int32) (m_saved : Nat → Int32) (m_isSaved : Int32) (m_past : Nat → Int32) (m_changes : Int32) (m_errorAt : Int32) (m_failed : Int32) (m_thrown : Int32) (m_input : Nat → Int32) (m_inputMany : Int32) (m_fitting : Nat → Int32) (m_given : Nat → Int32) (m_pairs : Nat → Int32) (m_letters : Nat → Int32) (m_begins0 : Nat → Int32) (m_commands : Nat → Int32) (m_commandMany : Int32) (m_place0 : Int32) (m_size0 : Int32) (m_isWrong : Int32) {X : jX} (hX : jOK X l D (jT t) cX10_renderRack RX10 (some FieldType.int) { frames := 2, cells := 0, slots := 0, locals := 45 } 3) :
    ∀ (jn : Nat) (x2 : Int32) (m_line : Nat → Int32) (m_lineMany : Int32) (u : Int32 × (Nat → Int32) × Int32) (hf : f_X10_renderRack_L25 m_m x1 jn x2 m_line m_lineMany = some u) (kx : ∀ s : Int32 × (Nat → Int32) × Int32, u = s → J X 0 0 (wM t ad o m_m m_aside m_saved m_isSaved m_past m_changes m_errorAt m_failed m_thrown m_input m_inputMany m_fitting m_given m_pairs s.2.1 s.2.2 m_letters m_begins0 m_commands m_commandMany m_place0 m_size0 m_isWrong) 76 [(2, .int s.1), (0, .ref (ad o)), (1, .int x1)] []), J X 0 0 (wM t ad o m_m m_aside m_saved m_isSaved m_past m_changes m_errorAt m_failed m_thrown m_input m_inputMany m_fitting m_given m_pairs m_line m_lineMany m_letters m_begins0 m_commands m_commandMany m_place0 m_size0 m_isWrong) 25 [(2, .int x2), (0, .ref (ad o)), (1, .int x1)] [] := by
  intro jn
  induction jn with
  | zero => intro x2 m_line m_lineMany u hf; cases (show (none : Option (Int32 × (Nat → Int32) × Int32)) = some u from hf)
  | succ jn ih =>
    intro x2 m_line m_lineMany u hf kx
    unfold f_X10_renderRack_L25 at hf
    refine j_iload_n hX dX10_renderRack_25 rfl 0 rfl ?_
    refine j_bipush hX 6 dX10_renderRack_26 (by decide) ?_
    refine j_icmp_ge hX 76 dX10_renderRack_28 (by decide) hf (fun c28 hf => ?_) (fun c28 hf => ?_)
    · cases hf
      exact kx _ rfl
    · refine j_iload_n hX dX10_renderRack_31 rfl 0 rfl ?_
      refine j_if_le hX 41 dX10_renderRack_32 (by decide) hf (fun c32 hf => ?_) (fun c32 hf => ?_)
      · refine j_aload_n hX dX10_renderRack_41 rfl 1 rfl ?_
        refine j_iload_n hX dX10_renderRack_42 rfl 2 rfl ?_
        refine j_iload_n hX dX10_renderRack_43 rfl 0 rfl ?_
        obtain ⟨u3, h4, hf⟩ := jbind hf
        refine j_callV (st := []) hX (k_X10_standing (l := l) (D := D) (t := t) (ad := ad) (o := o) m_m m_aside m_saved m_isSaved m_past m_changes m_errorAt m_failed m_thrown m_input m_inputMany m_fitting m_given m_pairs m_line m_lineMany m_letters m_begins0 m_commands m_commandMany m_place0 m_size0 m_isWrong x1 x2 u3 h4) q1506 q1507 q1953 q15 q1508 (n9 := 2) rfl ⟨by decide +kernel, by decide +kernel⟩ 0 rfl rfl rfl dX10_renderRack_44 (Nat.le_of_ble_eq_true rfl) ⟨Nat.le_refl _, Nat.le_refl _⟩ (fun w : va_W => w) jFr_id rfl rfl (fun v w hvw => ?_)
        obtain ⟨rfl, rfl⟩ := hvw
        change J X 0 0 (wM t ad o m_m m_aside m_saved m_isSaved m_past m_changes m_errorAt m_failed m_thrown m_input m_inputMany m_fitting m_given m_pairs m_line m_lineMany m_letters m_begins0 m_commands m_commandMany m_place0 m_size0 m_isWrong) 47 [(2, .int x2), (0, .ref (ad o)), (1, .int x1)] [.int u3]
        refine j_iconst hX (-1) dX10_renderRack_47 (by decide) ?_
        refine j_icmp_ne hX 60 dX10_renderRack_48 (by decide) hf (fun c48 hf => ?_) (fun c48 hf => ?_)
        · refine j_aload_n hX dX10_renderRack_60 rfl 1 rfl ?_
          refine j_aload_n hX dX10_renderRack_61 rfl 1 rfl ?_
          refine j_iload_n hX dX10_renderRack_62 rfl 2 rfl ?_
          refine j_iload_n hX dX10_renderRack_63 rfl 0 rfl ?_
          obtain ⟨u5, h6, hf⟩ := jbind hf
          refine j_callV (st := [.ref (ad o)]) hX (k_X10_standing (l := l) (D := D) (t := t) (ad := ad) (o := o) m_m m_aside m_saved m_isSaved m_past m_changes m_errorAt m_failed m_thrown m_input m_inputMany m_fitting m_given m_pairs m_line m_lineMany m_letters m_begins0 m_commands m_commandMany m_place0 m_size0 m_isWrong x1 x2 u5 h6) q1506 q1507 q1953 q15 q1508 (n9 := 2) rfl ⟨by decide +kernel, by decide +kernel⟩ 0 rfl rfl rfl dX10_renderRack_64 (Nat.le_of_ble_eq_true rfl) ⟨Nat.le_refl _, Nat.le_refl _⟩ (fun w : va_W => w) jFr_id rfl rfl (fun v w hvw => ?_)
          obtain ⟨rfl, rfl⟩ := hvw
          change J X 0 0 (wM t ad o m_m m_aside m_saved m_isSaved m_past m_changes m_errorAt m_failed m_thrown m_input m_inputMany m_fitting m_given m_pairs m_line m_lineMany m_letters m_begins0 m_commands m_commandMany m_place0 m_size0 m_isWrong) 67 [(2, .int x2), (0, .ref (ad o)), (1, .int x1)] [.int u5, .ref (ad o)]
          obtain ⟨u7, h8, hf⟩ := jbind hf
          refine j_callV (st := []) hX (k_X10_writesNumber (l := l) (D := D) (t := t) (ad := ad) (o := o) m_m m_aside m_saved m_isSaved m_past m_changes m_errorAt m_failed m_thrown m_input m_inputMany m_fitting m_given m_pairs m_line m_lineMany m_letters m_begins0 m_commands m_commandMany m_place0 m_size0 m_isWrong u5 u7 h8) q1813 q1814 q1988 q15 q1815 (n9 := 1) rfl ⟨by decide +kernel, by decide +kernel⟩ 0 rfl rfl rfl dX10_renderRack_67 (Nat.le_of_ble_eq_true rfl) ⟨Nat.le_refl _, Nat.le_refl _⟩ (fun w : va_W => w) jFr_id rfl rfl (fun v w hvw => ?_)
          obtain ⟨rfl, rfl⟩ := hvw
          change J X 0 0 (wM t ad o m_m m_aside m_saved m_isSaved m_past m_changes m_errorAt m_failed m_thrown m_input m_inputMany m_fitting m_given m_pairs u7.1 u7.2 m_letters m_begins0 m_commands m_commandMany m_place0 m_size0 m_isWrong) 70 [(2, .int x2), (0, .ref (ad o)), (1, .int x1)] []
          refine j_iinc hX (x2 + 1) [(2, .int (x2 + 1)), (0, .ref (ad o)), (1, .int x1)] dX10_renderRack_70 0 rfl rfl (by decide) rfl ?_
          refine j_goto hX 25 dX10_renderRack_73 (by decide) ?_
          exact ih (x2 + 1) u7.1 u7.2 u hf kx
        · refine j_aload_n hX dX10_renderRack_51 rfl 1 rfl ?_
          refine j_bipush hX 45 dX10_renderRack_52 (by decide) ?_
          obtain ⟨u9, h10, hf⟩ := jbind hf
          refine j_callV (st := []) hX (k_X10_sign (l := l) (D := D) (t := t) (ad := ad) (o := o) m_m m_aside m_saved m_isSaved m_past m_changes m_errorAt m_failed m_thrown m_input m_inputMany m_fitting m_given m_pairs m_line m_lineMany m_letters m_begins0 m_commands m_commandMany m_place0 m_size0 m_isWrong 45 u9 h10) q1810 q1811 q1987 q15 q1812 (n9 := 1) rfl ⟨by decide +kernel, by decide +kernel⟩ 0 rfl rfl rfl dX10_renderRack_54 (Nat.le_of_ble_eq_true rfl) ⟨Nat.le_refl _, Nat.le_refl _⟩ (fun w : va_W => w) jFr_id rfl rfl (fun v w hvw => ?_)
          obtain ⟨rfl, rfl⟩ := hvw
          change J X 0 0 (wM t ad o m_m m_aside m_saved m_isSaved m_past m_changes m_errorAt m_failed m_thrown m_input m_inputMany m_fitting m_given m_pairs u9.1 u9.2 m_letters m_begins0 m_commands m_commandMany m_place0 m_size0 m_isWrong) 57 [(2, .int x2), (0, .ref (ad o)), (1, .int x1)] []
          refine j_goto hX 70 dX10_renderRack_57 (by decide) ?_
          refine j_iinc hX (x2 + 1) [(2, .int (x2 + 1)), (0, .ref (ad o)), (1, .int x1)] dX10_renderRack_70 0 rfl rfl (by decide) rfl ?_
          refine j_goto hX 25 dX10_renderRack_73 (by decide) ?_
          exact ih (x2 + 1) u9.1 u9.2 u hf kx
      · refine j_aload_n hX dX10_renderRack_35 rfl 1 rfl ?_
        refine j_bipush hX 44 dX10_renderRack_36 (by decide) ?_
        obtain ⟨u11, h12, hf⟩ := jbind hf
        refine j_callV (st := []) hX (k_X10_sign (l := l) (D := D) (t := t) (ad := ad) (o := o) m_m m_aside m_saved m_isSaved m_past m_changes m_errorAt m_failed m_thrown m_input m_inputMany m_fitting m_given m_pairs m_line m_lineMany m_letters m_begins0 m_commands m_commandMany m_place0 m_size0 m_isWrong 44 u11 h12) q1810 q1811 q1987 q15 q1812 (n9 := 1) rfl ⟨by decide +kernel, by decide +kernel⟩ 0 rfl rfl rfl dX10_renderRack_38 (Nat.le_of_ble_eq_true rfl) ⟨Nat.le_refl _, Nat.le_refl _⟩ (fun w : va_W => w) jFr_id rfl rfl (fun v w hvw => ?_)
        obtain ⟨rfl, rfl⟩ := hvw
        change J X 0 0 (wM t ad o m_m m_aside m_saved m_isSaved m_past m_changes m_errorAt m_failed m_thrown m_input m_inputMany m_fitting m_given m_pairs u11.1 u11.2 m_letters m_begins0 m_commands m_commandMany m_place0 m_size0 m_isWrong) 41 [(2, .int x2), (0, .ref (ad o)), (1, .int x1)] []
        refine j_aload_n hX dX10_renderRack_41 rfl 1 rfl ?_
        refine j_iload_n hX dX10_renderRack_42 rfl 2 rfl ?_
        refine j_iload_n hX dX10_renderRack_43 rfl 0 rfl ?_
        obtain ⟨u13, h14, hf⟩ := jbind hf
        refine j_callV (st := []) hX (k_X10_standing (l := l) (D := D) (t := t) (ad := ad) (o := o) m_m m_aside m_saved m_isSaved m_past m_changes m_errorAt m_failed m_thrown m_input m_inputMany m_fitting m_given m_pairs u11.1 u11.2 m_letters m_begins0 m_commands m_commandMany m_place0 m_size0 m_isWrong x1 x2 u13 h14) q1506 q1507 q1953 q15 q1508 (n9 := 2) rfl ⟨by decide +kernel, by decide +kernel⟩ 0 rfl rfl rfl dX10_renderRack_44 (Nat.le_of_ble_eq_true rfl) ⟨Nat.le_refl _, Nat.le_refl _⟩ (fun w : va_W => w) jFr_id rfl rfl (fun v w hvw => ?_)
        obtain ⟨rfl, rfl⟩ := hvw
        change J X 0 0 (wM t ad o m_m m_aside m_saved m_isSaved m_past m_changes m_errorAt m_failed m_thrown m_input m_inputMany m_fitting m_given m_pairs u11.1 u11.2 m_letters m_begins0 m_commands m_commandMany m_place0 m_size0 m_isWrong) 47 [(2, .int x2), (0, .ref (ad o)), (1, .int x1)] [.int u13]
        refine j_iconst hX (-1) dX10_renderRack_47 (by decide) ?_
        refine j_icmp_ne hX 60 dX10_renderRack_48 (by decide) hf (fun c48 hf => ?_) (fun c48 hf => ?_)
        · refine j_aload_n hX dX10_renderRack_60 rfl 1 rfl ?_
          refine j_aload_n hX dX10_renderRack_61 rfl 1 rfl ?_
          refine j_iload_n hX dX10_renderRack_62 rfl 2 rfl ?_
          refine j_iload_n hX dX10_renderRack_63 rfl 0 rfl ?_
          obtain ⟨u15, h16, hf⟩ := jbind hf
          refine j_callV (st := [.ref (ad o)]) hX (k_X10_standing (l := l) (D := D) (t := t) (ad := ad) (o := o) m_m m_aside m_saved m_isSaved m_past m_changes m_errorAt m_failed m_thrown m_input m_inputMany m_fitting m_given m_pairs u11.1 u11.2 m_letters m_begins0 m_commands m_commandMany m_place0 m_size0 m_isWrong x1 x2 u15 h16) q1506 q1507 q1953 q15 q1508 (n9 := 2) rfl ⟨by decide +kernel, by decide +kernel⟩ 0 rfl rfl rfl dX10_renderRack_64 (Nat.le_of_ble_eq_true rfl) ⟨Nat.le_refl _, Nat.le_refl _⟩ (fun w : va_W => w) jFr_id rfl rfl (fun v w hvw => ?_)
          obtain ⟨rfl, rfl⟩ := hvw
          change J X 0 0 (wM t ad o m_m m_aside m_saved m_isSaved m_past m_changes m_errorAt m_failed m_thrown m_input m_inputMany m_fitting m_given m_pairs u11.1 u11.2 m_letters m_begins0 m_commands m_commandMany m_place0 m_size0 m_isWrong) 67 [(2, .int x2), (0, .ref (ad o)), (1, .int x1)] [.int u15, .ref (ad o)]
          obtain ⟨u17, h18, hf⟩ := jbind hf
          refine j_callV (st := []) hX (k_X10_writesNumber (l := l) (D := D) (t := t) (ad := ad) (o := o) m_m m_aside m_saved m_isSaved m_past m_changes m_errorAt m_failed m_thrown m_input m_inputMany m_fitting m_given m_pairs u11.1 u11.2 m_letters m_begins0 m_commands m_commandMany m_place0 m_size0 m_isWrong u15 u17 h18) q1813 q1814 q1988 q15 q1815 (n9 := 1) rfl ⟨by decide +kernel, by decide +kernel⟩ 0 rfl rfl rfl dX10_renderRack_67 (Nat.le_of_ble_eq_true rfl) ⟨Nat.le_refl _, Nat.le_refl _⟩ (fun w : va_W => w) jFr_id rfl rfl (fun v w hvw => ?_)
          obtain ⟨rfl, rfl⟩ := hvw
          change J X 0 0 (wM t ad o m_m m_aside m_saved m_isSaved m_past m_changes m_errorAt m_failed m_thrown m_input m_inputMany m_fitting m_given m_pairs u17.1 u17.2 m_letters m_begins0 m_commands m_commandMany m_place0 m_size0 m_isWrong) 70 [(2, .int x2), (0, .ref (ad o)), (1, .int x1)] []
          refine j_iinc hX (x2 + 1) [(2, .int (x2 + 1)), (0, .ref (ad o)), (1, .int x1)] dX10_renderRack_70 0 rfl rfl (by decide) rfl ?_
          refine j_goto hX 25 dX10_renderRack_73 (by decide) ?_
          exact ih (x2 + 1) u17.1 u17.2 u hf kx
        · refine j_aload_n hX dX10_renderRack_51 rfl 1 rfl ?_
          refine j_bipush hX 45 dX10_renderRack_52 (by decide) ?_
          obtain ⟨u19, h20, hf⟩ := jbind hf
          refine j_callV (st := []) hX (k_X10_sign (l := l) (D := D) (t := t) (ad := ad) (o := o) m_m m_aside m_saved m_isSaved m_past m_changes m_errorAt m_failed m_thrown m_input m_inputMany m_fitting m_given m_pairs u11.1 u11.2 m_letters m_begins0 m_commands m_commandMany m_place0 m_size0 m_isWrong 45 u19 h20) q1810 q1811 q1987 q15 q1812 (n9 := 1) rfl ⟨by decide +kernel, by decide +kernel⟩ 0 rfl rfl rfl dX10_renderRack_54 (Nat.le_of_ble_eq_true rfl) ⟨Nat.le_refl _, Nat.le_refl _⟩ (fun w : va_W => w) jFr_id rfl rfl (fun v w hvw => ?_)
          obtain ⟨rfl, rfl⟩ := hvw
          change J X 0 0 (wM t ad o m_m m_aside m_saved m_isSaved m_past m_changes m_errorAt m_failed m_thrown m_input m_inputMany m_fitting m_given m_pairs u19.1 u19.2 m_letters m_begins0 m_commands m_commandMany m_place0 m_size0 m_isWrong) 57 [(2, .int x2), (0, .ref (ad o)), (1, .int x1)] []
          refine j_goto hX 70 dX10_renderRack_57 (by decide) ?_
          refine j_iinc hX (x2 + 1) [(2, .int (x2 + 1)), (0, .ref (ad o)), (1, .int x1)] dX10_renderRack_70 0 rfl rfl (by decide) rfl ?_
          refine j_goto hX 25 dX10_renderRack_73 (by decide) ?_
          exact ih (x2 + 1) u19.1 u19.2 u hf kx
set_option maxHeartbeats 4000000 in
set_option maxRecDepth 100000 in
theorem k_X10_renderRack {l : Launch} {D : va_G} {t : Nat → ClassId} {ad : Nat → Nat} {o : Nat} (m_m : Nat → Int32) (m_aside : Nat → Int32) (m_saved : Nat → Int32) (m_isSaved : Int32) (m_past : Nat → Int32) (m_changes : Int32) (m_errorAt : Int32) (m_failed : Int32) (m_thrown : Int32) (m_input : Nat → Int32) (m_inputMany : Int32) (m_fitting : Nat → Int32) (m_given : Nat → Int32) (m_pairs : Nat → Int32) (m_line : Nat → Int32) (m_lineMany : Int32) (m_letters : Nat → Int32) (m_begins0 : Nat → Int32) (m_commands : Nat → Int32) (m_commandMany : Int32) (m_place0 : Int32) (m_size0 : Int32) (m_isWrong : Int32) (a0 : Int32) (u : Int32 × Int32 × (Nat → Int32) × Int32) (hf : f_X10_renderRack m_m m_thrown m_line m_lineMany a0 = some u) : cm l D (jT t) yX10_renderRack cX10_renderRack 3 (some FieldType.int) { frames := 2, cells := 0, slots := 0, locals := 45 } [.ref (ad o), .int a0] (wM t ad o m_m m_aside m_saved m_isSaved m_past m_changes m_errorAt m_failed m_thrown m_input m_inputMany m_fitting m_given m_pairs m_line m_lineMany m_letters m_begins0 m_commands m_commandMany m_place0 m_size0 m_isWrong) (fun v w => v = (some (.int u.1)) ∧ w = wM t ad o m_m m_aside m_saved m_isSaved m_past m_changes m_errorAt m_failed u.2.1 m_input m_inputMany m_fitting m_given m_pairs u.2.2.1 u.2.2.2 m_letters m_begins0 m_commands m_commandMany m_place0 m_size0 m_isWrong) := by
  refine cm_of RX10 rfl (by decide +kernel) (Nat.le_of_ble_eq_true rfl) (fun X hX hE => ?_)
  change J X 0 0 (wM t ad o m_m m_aside m_saved m_isSaved m_past m_changes m_errorAt m_failed m_thrown m_input m_inputMany m_fitting m_given m_pairs m_line m_lineMany m_letters m_begins0 m_commands m_commandMany m_place0 m_size0 m_isWrong) 0 [(0, .ref (ad o)), (1, .int a0)] []
  unfold f_X10_renderRack at hf
  refine j_aload_n hX dX10_renderRack_0 rfl 0 rfl ?_
  refine j_iconst hX 0 dX10_renderRack_1 (by decide) ?_
  refine j_put hX (wM t ad o m_m m_aside m_saved m_isSaved m_past m_changes m_errorAt m_failed 0 m_input m_inputMany m_fitting m_given m_pairs m_line m_lineMany m_letters m_begins0 m_commands m_commandMany m_place0 m_size0 m_isWrong) tyX10 dX10_renderRack_2 inX10 tyX10_ok nmX10 8 q1463 0 rfl rfl (by decide) rfl rfl rfl rfl rfl (Nat.le_of_ble_eq_true rfl) rfl ?_
  refine j_iload_n hX dX10_renderRack_5 rfl 1 rfl ?_
  obtain ⟨u1, h2, hf⟩ := jbind hf
  refine j_callS (st := []) hX (k_X10_isRack (l := l) (D := D) (t := t) (ad := ad)  a0 u1 h2) q1499 q1500 q15 q1501 (n9 := 1) rfl ⟨by decide +kernel, by decide +kernel⟩ dX10_renderRack_6 (Nat.le_of_ble_eq_true rfl) ⟨Nat.le_refl _, Nat.le_refl _⟩ (fun w : va_W => w ++ (wM t ad o m_m m_aside m_saved m_isSaved m_past m_changes m_errorAt m_failed 0 m_input m_inputMany m_fitting m_given m_pairs m_line m_lineMany m_letters m_begins0 m_commands m_commandMany m_place0 m_size0 m_isWrong)) (jFr_r (wM t ad o m_m m_aside m_saved m_isSaved m_past m_changes m_errorAt m_failed 0 m_input m_inputMany m_fitting m_given m_pairs m_line m_lineMany m_letters m_begins0 m_commands m_commandMany m_place0 m_size0 m_isWrong)) rfl rfl (fun v w hvw => ?_)
  obtain ⟨rfl, rfl⟩ := hvw
  change J X 0 0 (wM t ad o m_m m_aside m_saved m_isSaved m_past m_changes m_errorAt m_failed 0 m_input m_inputMany m_fitting m_given m_pairs m_line m_lineMany m_letters m_begins0 m_commands m_commandMany m_place0 m_size0 m_isWrong) 9 [(0, .ref (ad o)), (1, .int a0)] [.int u1]
  refine j_if_ne hX 18 dX10_renderRack_9 (by decide) hf (fun c9 hf => ?_) (fun c9 hf => ?_)
  · refine j_aload_n hX dX10_renderRack_18 rfl 0 rfl ?_
    refine j_iconst hX 0 dX10_renderRack_19 (by decide) ?_
    refine j_put hX (wM t ad o m_m m_aside m_saved m_isSaved m_past m_changes m_errorAt m_failed 0 m_input m_inputMany m_fitting m_given m_pairs m_line 0 m_letters m_begins0 m_commands m_commandMany m_place0 m_size0 m_isWrong) tyX10 dX10_renderRack_20 inX10 tyX10_ok nmX10 15 q1470 0 rfl rfl (by decide) rfl rfl rfl rfl rfl (Nat.le_of_ble_eq_true rfl) rfl ?_
    refine j_iconst hX 0 dX10_renderRack_23 (by decide) ?_
    refine j_istore_n hX [(2, .int 0), (0, .ref (ad o)), (1, .int a0)] dX10_renderRack_24 rfl (by decide) rfl ?_
    obtain ⟨s22, h23, hf⟩ := jbind hf
    refine k_X10_renderRack_L25 (ad := ad) m_m a0 m_aside m_saved m_isSaved m_past m_changes m_errorAt m_failed 0 m_input m_inputMany m_fitting m_given m_pairs m_letters m_begins0 m_commands m_commandMany m_place0 m_size0 m_isWrong hX jFU 0 m_line 0 s22 h23 (fun s220 es22 => ?_)
    subst es22
    refine j_aload_n hX dX10_renderRack_76 rfl 1 rfl ?_
    refine j_get hX dX10_renderRack_77 inX10 15 q1470 0 rfl rfl (by decide) rfl rfl ?_
    cases hf
    exact j_iret hX hE dX10_renderRack_80 (Nat.le_refl _) (Nat.le_refl _) ⟨rfl, rfl⟩
  · refine j_aload_n hX dX10_renderRack_12 rfl 0 rfl ?_
    refine j_iconst hX 1 dX10_renderRack_13 (by decide) ?_
    obtain ⟨u24, h25, hf⟩ := jbind hf
    refine j_callV (st := []) hX (k_X10_throwing (l := l) (D := D) (t := t) (ad := ad) (o := o) m_m m_aside m_saved m_isSaved m_past m_changes m_errorAt m_failed 0 m_input m_inputMany m_fitting m_given m_pairs m_line m_lineMany m_letters m_begins0 m_commands m_commandMany m_place0 m_size0 m_isWrong 1 u24 h25) q1496 q1497 q1951 q15 q1498 (n9 := 1) rfl ⟨by decide +kernel, by decide +kernel⟩ 0 rfl rfl rfl dX10_renderRack_14 (Nat.le_of_ble_eq_true rfl) ⟨Nat.le_refl _, Nat.le_refl _⟩ (fun w : va_W => w) jFr_id rfl rfl (fun v w hvw => ?_)
    obtain ⟨rfl, rfl⟩ := hvw
    change J X 0 0 (wM t ad o m_m m_aside m_saved m_isSaved m_past m_changes m_errorAt m_failed u24.2 m_input m_inputMany m_fitting m_given m_pairs m_line m_lineMany m_letters m_begins0 m_commands m_commandMany m_place0 m_size0 m_isWrong) 17 [(0, .ref (ad o)), (1, .int a0)] [.int u24.1]
    cases hf
    exact j_iret hX hE dX10_renderRack_17 (Nat.le_refl _) (Nat.le_refl _) ⟨rfl, rfl⟩
-- HammerDepotModel renderHammer (I)I
def f_X10_renderHammer (m_m : Nat → Int32) (m_thrown : Int32) (m_line : Nat → Int32) (m_lineMany : Int32) (a0 : Int32) : Option (Int32 × Int32 × (Nat → Int32) × Int32) :=
  Option.bind (f_X10_isHammer m_m a0) (fun u1 =>
    if u1 = 0 then
      Option.bind (f_X10_throwing 0 1) (fun u15 =>
        some (u15.1, u15.2, m_line, m_lineMany))
    else
      Option.bind (f_X10_hammerOf a0) (fun u3 =>
        Option.bind (f_X10_writesNumber m_line 0 a0) (fun u5 =>
          if jin u3 2048 = true then
            Option.bind (f_X10_writes u5.1 u5.2 112 (m_m (u3).toNatClampNeg)) (fun u7 =>
              if jin (u3 + 1) 2048 = true then
                Option.bind (f_X10_writes u7.1 u7.2 119 (m_m (u3 + 1).toNatClampNeg)) (fun u9 =>
                  if jin (u3 + 2) 2048 = true then
                    if (m_m (u3 + 2).toNatClampNeg) = (-1) then
                      if jin (u3 + 4) 2048 = true then
                        Option.bind (f_X10_writes u9.1 u9.2 64 (m_m (u3 + 4).toNatClampNeg)) (fun u11 =>
                          if jin (u3 + 5) 2048 = true then
                            Option.bind (f_X10_writes u11.1 u11.2 60 (m_m (u3 + 5).toNatClampNeg)) (fun u13 =>
                              some (u13.2, 0, u13.1, u13.2))
                          else none)
                      else none
                    else
                      some (u9.2, 0, u9.1, u9.2)
                  else none)
              else none)
          else none)))
set_option maxHeartbeats 4000000 in
set_option maxRecDepth 100000 in
theorem k_X10_renderHammer {l : Launch} {D : va_G} {t : Nat → ClassId} {ad : Nat → Nat} {o : Nat} (m_m : Nat → Int32) (m_aside : Nat → Int32) (m_saved : Nat → Int32) (m_isSaved : Int32) (m_past : Nat → Int32) (m_changes : Int32) (m_errorAt : Int32) (m_failed : Int32) (m_thrown : Int32) (m_input : Nat → Int32) (m_inputMany : Int32) (m_fitting : Nat → Int32) (m_given : Nat → Int32) (m_pairs : Nat → Int32) (m_line : Nat → Int32) (m_lineMany : Int32) (m_letters : Nat → Int32) (m_begins0 : Nat → Int32) (m_commands : Nat → Int32) (m_commandMany : Int32) (m_place0 : Int32) (m_size0 : Int32) (m_isWrong : Int32) (a0 : Int32) (u : Int32 × Int32 × (Nat → Int32) × Int32) (hf : f_X10_renderHammer m_m m_thrown m_line m_lineMany a0 = some u) : cm l D (jT t) yX10_renderHammer cX10_renderHammer 3 (some FieldType.int) { frames := 3, cells := 0, slots := 0, locals := 65 } [.ref (ad o), .int a0] (wM t ad o m_m m_aside m_saved m_isSaved m_past m_changes m_errorAt m_failed m_thrown m_input m_inputMany m_fitting m_given m_pairs m_line m_lineMany m_letters m_begins0 m_commands m_commandMany m_place0 m_size0 m_isWrong) (fun v w => v = (some (.int u.1)) ∧ w = wM t ad o m_m m_aside m_saved m_isSaved m_past m_changes m_errorAt m_failed u.2.1 m_input m_inputMany m_fitting m_given m_pairs u.2.2.1 u.2.2.2 m_letters m_begins0 m_commands m_commandMany m_place0 m_size0 m_isWrong) := by
  refine cm_of RX10 rfl (by decide +kernel) (Nat.le_of_ble_eq_true rfl) (fun X hX hE => ?_)
  change J X 0 0 (wM t ad o m_m m_aside m_saved m_isSaved m_past m_changes m_errorAt m_failed m_thrown m_input m_inputMany m_fitting m_given m_pairs m_line m_lineMany m_letters m_begins0 m_commands m_commandMany m_place0 m_size0 m_isWrong) 0 [(0, .ref (ad o)), (1, .int a0)] []
  unfold f_X10_renderHammer at hf
  refine j_aload_n hX dX10_renderHammer_0 rfl 0 rfl ?_
  refine j_iconst hX 0 dX10_renderHammer_1 (by decide) ?_
  refine j_put hX (wM t ad o m_m m_aside m_saved m_isSaved m_past m_changes m_errorAt m_failed 0 m_input m_inputMany m_fitting m_given m_pairs m_line m_lineMany m_letters m_begins0 m_commands m_commandMany m_place0 m_size0 m_isWrong) tyX10 dX10_renderHammer_2 inX10 tyX10_ok nmX10 8 q1463 0 rfl rfl (by decide) rfl rfl rfl rfl rfl (Nat.le_of_ble_eq_true rfl) rfl ?_
  refine j_aload_n hX dX10_renderHammer_5 rfl 0 rfl ?_
  refine j_iload_n hX dX10_renderHammer_6 rfl 1 rfl ?_
  obtain ⟨u1, h2, hf⟩ := jbind hf
  refine j_callV (st := []) hX (k_X10_isHammer (l := l) (D := D) (t := t) (ad := ad) (o := o) m_m m_aside m_saved m_isSaved m_past m_changes m_errorAt m_failed 0 m_input m_inputMany m_fitting m_given m_pairs m_line m_lineMany m_letters m_begins0 m_commands m_commandMany m_place0 m_size0 m_isWrong a0 u1 h2) q1522 q1523 q1956 q15 q1524 (n9 := 1) rfl ⟨by decide +kernel, by decide +kernel⟩ 0 rfl rfl rfl dX10_renderHammer_7 (Nat.le_of_ble_eq_true rfl) ⟨Nat.le_refl _, Nat.le_refl _⟩ (fun w : va_W => w) jFr_id rfl rfl (fun v w hvw => ?_)
  obtain ⟨rfl, rfl⟩ := hvw
  change J X 0 0 (wM t ad o m_m m_aside m_saved m_isSaved m_past m_changes m_errorAt m_failed 0 m_input m_inputMany m_fitting m_given m_pairs m_line m_lineMany m_letters m_begins0 m_commands m_commandMany m_place0 m_size0 m_isWrong) 10 [(0, .ref (ad o)), (1, .int a0)] [.int u1]
  refine j_if_ne hX 19 dX10_renderHammer_10 (by decide) hf (fun c10 hf => ?_) (fun c10 hf => ?_)
  · refine j_iload_n hX dX10_renderHammer_19 rfl 1 rfl ?_
    obtain ⟨u3, h4, hf⟩ := jbind hf
    refine j_callS (st := []) hX (k_X10_hammerOf (l := l) (D := D) (t := t) (ad := ad)  a0 u3 h4) q1509 q1510 q15 q1511 (n9 := 1) rfl ⟨by decide +kernel, by decide +kernel⟩ dX10_renderHammer_20 (Nat.le_of_ble_eq_true rfl) ⟨Nat.le_refl _, Nat.le_refl _⟩ (fun w : va_W => w ++ (wM t ad o m_m m_aside m_saved m_isSaved m_past m_changes m_errorAt m_failed 0 m_input m_inputMany m_fitting m_given m_pairs m_line m_lineMany m_letters m_begins0 m_commands m_commandMany m_place0 m_size0 m_isWrong)) (jFr_r (wM t ad o m_m m_aside m_saved m_isSaved m_past m_changes m_errorAt m_failed 0 m_input m_inputMany m_fitting m_given m_pairs m_line m_lineMany m_letters m_begins0 m_commands m_commandMany m_place0 m_size0 m_isWrong)) rfl rfl (fun v w hvw => ?_)
    obtain ⟨rfl, rfl⟩ := hvw
    change J X 0 0 (wM t ad o m_m m_aside m_saved m_isSaved m_past m_changes m_errorAt m_failed 0 m_input m_inputMany m_fitting m_given m_pairs m_line m_lineMany m_letters m_begins0 m_commands m_commandMany m_place0 m_size0 m_isWrong) 23 [(0, .ref (ad o)), (1, .int a0)] [.int u3]
    refine j_istore_n hX [(2, .int u3), (0, .ref (ad o)), (1, .int a0)] dX10_renderHammer_23 rfl (by decide) rfl ?_
    refine j_aload_n hX dX10_renderHammer_24 rfl 1 rfl ?_
    refine j_iconst hX 0 dX10_renderHammer_25 (by decide) ?_
    refine j_put hX (wM t ad o m_m m_aside m_saved m_isSaved m_past m_changes m_errorAt m_failed 0 m_input m_inputMany m_fitting m_given m_pairs m_line 0 m_letters m_begins0 m_commands m_commandMany m_place0 m_size0 m_isWrong) tyX10 dX10_renderHammer_26 inX10 tyX10_ok nmX10 15 q1470 0 rfl rfl (by decide) rfl rfl rfl rfl rfl (Nat.le_of_ble_eq_true rfl) rfl ?_
    refine j_aload_n hX dX10_renderHammer_29 rfl 1 rfl ?_
    refine j_iload_n hX dX10_renderHammer_30 rfl 2 rfl ?_
    obtain ⟨u5, h6, hf⟩ := jbind hf
    refine j_callV (st := []) hX (k_X10_writesNumber (l := l) (D := D) (t := t) (ad := ad) (o := o) m_m m_aside m_saved m_isSaved m_past m_changes m_errorAt m_failed 0 m_input m_inputMany m_fitting m_given m_pairs m_line 0 m_letters m_begins0 m_commands m_commandMany m_place0 m_size0 m_isWrong a0 u5 h6) q1813 q1814 q1988 q15 q1815 (n9 := 1) rfl ⟨by decide +kernel, by decide +kernel⟩ 0 rfl rfl rfl dX10_renderHammer_31 (Nat.le_of_ble_eq_true rfl) ⟨Nat.le_refl _, Nat.le_refl _⟩ (fun w : va_W => w) jFr_id rfl rfl (fun v w hvw => ?_)
    obtain ⟨rfl, rfl⟩ := hvw
    change J X 0 0 (wM t ad o m_m m_aside m_saved m_isSaved m_past m_changes m_errorAt m_failed 0 m_input m_inputMany m_fitting m_given m_pairs u5.1 u5.2 m_letters m_begins0 m_commands m_commandMany m_place0 m_size0 m_isWrong) 34 [(2, .int u3), (0, .ref (ad o)), (1, .int a0)] []
    refine j_aload_n hX dX10_renderHammer_34 rfl 1 rfl ?_
    refine j_bipush hX 112 dX10_renderHammer_35 (by decide) ?_
    refine j_aload_n hX dX10_renderHammer_37 rfl 1 rfl ?_
    refine j_get hX dX10_renderHammer_38 inX10 0 q1455 0 rfl rfl (by decide) rfl rfl ?_
    refine j_iload_n hX dX10_renderHammer_41 rfl 0 rfl ?_
    refine j_iald hX dX10_renderHammer_42 1 0 rfl rfl hf (fun c42 hf => ?_)
    obtain ⟨u7, h8, hf⟩ := jbind hf
    refine j_callV (st := []) hX (k_X10_writes (l := l) (D := D) (t := t) (ad := ad) (o := o) m_m m_aside m_saved m_isSaved m_past m_changes m_errorAt m_failed 0 m_input m_inputMany m_fitting m_given m_pairs u5.1 u5.2 m_letters m_begins0 m_commands m_commandMany m_place0 m_size0 m_isWrong 112 (m_m (u3).toNatClampNeg) u7 h8) q1820 q1821 q1989 q15 q1822 (n9 := 2) rfl ⟨by decide +kernel, by decide +kernel⟩ 0 rfl rfl rfl dX10_renderHammer_43 (Nat.le_of_ble_eq_true rfl) ⟨Nat.le_refl _, Nat.le_refl _⟩ (fun w : va_W => w) jFr_id rfl rfl (fun v w hvw => ?_)
    obtain ⟨rfl, rfl⟩ := hvw
    change J X 0 0 (wM t ad o m_m m_aside m_saved m_isSaved m_past m_changes m_errorAt m_failed 0 m_input m_inputMany m_fitting m_given m_pairs u7.1 u7.2 m_letters m_begins0 m_commands m_commandMany m_place0 m_size0 m_isWrong) 46 [(2, .int u3), (0, .ref (ad o)), (1, .int a0)] []
    refine j_aload_n hX dX10_renderHammer_46 rfl 1 rfl ?_
    refine j_bipush hX 119 dX10_renderHammer_47 (by decide) ?_
    refine j_aload_n hX dX10_renderHammer_49 rfl 1 rfl ?_
    refine j_get hX dX10_renderHammer_50 inX10 0 q1455 0 rfl rfl (by decide) rfl rfl ?_
    refine j_iload_n hX dX10_renderHammer_53 rfl 0 rfl ?_
    refine j_iconst hX 1 dX10_renderHammer_54 (by decide) ?_
    refine j_iadd hX dX10_renderHammer_55 ?_
    refine j_iald hX dX10_renderHammer_56 1 0 rfl rfl hf (fun c56 hf => ?_)
    obtain ⟨u9, h10, hf⟩ := jbind hf
    refine j_callV (st := []) hX (k_X10_writes (l := l) (D := D) (t := t) (ad := ad) (o := o) m_m m_aside m_saved m_isSaved m_past m_changes m_errorAt m_failed 0 m_input m_inputMany m_fitting m_given m_pairs u7.1 u7.2 m_letters m_begins0 m_commands m_commandMany m_place0 m_size0 m_isWrong 119 (m_m (u3 + 1).toNatClampNeg) u9 h10) q1820 q1821 q1989 q15 q1822 (n9 := 2) rfl ⟨by decide +kernel, by decide +kernel⟩ 0 rfl rfl rfl dX10_renderHammer_57 (Nat.le_of_ble_eq_true rfl) ⟨Nat.le_refl _, Nat.le_refl _⟩ (fun w : va_W => w) jFr_id rfl rfl (fun v w hvw => ?_)
    obtain ⟨rfl, rfl⟩ := hvw
    change J X 0 0 (wM t ad o m_m m_aside m_saved m_isSaved m_past m_changes m_errorAt m_failed 0 m_input m_inputMany m_fitting m_given m_pairs u9.1 u9.2 m_letters m_begins0 m_commands m_commandMany m_place0 m_size0 m_isWrong) 60 [(2, .int u3), (0, .ref (ad o)), (1, .int a0)] []
    refine j_aload_n hX dX10_renderHammer_60 rfl 1 rfl ?_
    refine j_get hX dX10_renderHammer_61 inX10 0 q1455 0 rfl rfl (by decide) rfl rfl ?_
    refine j_iload_n hX dX10_renderHammer_64 rfl 0 rfl ?_
    refine j_iconst hX 2 dX10_renderHammer_65 (by decide) ?_
    refine j_iadd hX dX10_renderHammer_66 ?_
    refine j_iald hX dX10_renderHammer_67 1 0 rfl rfl hf (fun c67 hf => ?_)
    refine j_iconst hX (-1) dX10_renderHammer_68 (by decide) ?_
    refine j_icmp_ne hX 100 dX10_renderHammer_69 (by decide) hf (fun c69 hf => ?_) (fun c69 hf => ?_)
    · refine j_aload_n hX dX10_renderHammer_100 rfl 1 rfl ?_
      refine j_get hX dX10_renderHammer_101 inX10 15 q1470 0 rfl rfl (by decide) rfl rfl ?_
      cases hf
      exact j_iret hX hE dX10_renderHammer_104 (Nat.le_refl _) (Nat.le_refl _) ⟨rfl, rfl⟩
    · refine j_aload_n hX dX10_renderHammer_72 rfl 1 rfl ?_
      refine j_bipush hX 64 dX10_renderHammer_73 (by decide) ?_
      refine j_aload_n hX dX10_renderHammer_75 rfl 1 rfl ?_
      refine j_get hX dX10_renderHammer_76 inX10 0 q1455 0 rfl rfl (by decide) rfl rfl ?_
      refine j_iload_n hX dX10_renderHammer_79 rfl 0 rfl ?_
      refine j_iconst hX 4 dX10_renderHammer_80 (by decide) ?_
      refine j_iadd hX dX10_renderHammer_81 ?_
      refine j_iald hX dX10_renderHammer_82 1 0 rfl rfl hf (fun c82 hf => ?_)
      obtain ⟨u11, h12, hf⟩ := jbind hf
      refine j_callV (st := []) hX (k_X10_writes (l := l) (D := D) (t := t) (ad := ad) (o := o) m_m m_aside m_saved m_isSaved m_past m_changes m_errorAt m_failed 0 m_input m_inputMany m_fitting m_given m_pairs u9.1 u9.2 m_letters m_begins0 m_commands m_commandMany m_place0 m_size0 m_isWrong 64 (m_m (u3 + 4).toNatClampNeg) u11 h12) q1820 q1821 q1989 q15 q1822 (n9 := 2) rfl ⟨by decide +kernel, by decide +kernel⟩ 0 rfl rfl rfl dX10_renderHammer_83 (Nat.le_of_ble_eq_true rfl) ⟨Nat.le_refl _, Nat.le_refl _⟩ (fun w : va_W => w) jFr_id rfl rfl (fun v w hvw => ?_)
      obtain ⟨rfl, rfl⟩ := hvw
      change J X 0 0 (wM t ad o m_m m_aside m_saved m_isSaved m_past m_changes m_errorAt m_failed 0 m_input m_inputMany m_fitting m_given m_pairs u11.1 u11.2 m_letters m_begins0 m_commands m_commandMany m_place0 m_size0 m_isWrong) 86 [(2, .int u3), (0, .ref (ad o)), (1, .int a0)] []
      refine j_aload_n hX dX10_renderHammer_86 rfl 1 rfl ?_
      refine j_bipush hX 60 dX10_renderHammer_87 (by decide) ?_
      refine j_aload_n hX dX10_renderHammer_89 rfl 1 rfl ?_
      refine j_get hX dX10_renderHammer_90 inX10 0 q1455 0 rfl rfl (by decide) rfl rfl ?_
      refine j_iload_n hX dX10_renderHammer_93 rfl 0 rfl ?_
      refine j_iconst hX 5 dX10_renderHammer_94 (by decide) ?_
      refine j_iadd hX dX10_renderHammer_95 ?_
      refine j_iald hX dX10_renderHammer_96 1 0 rfl rfl hf (fun c96 hf => ?_)
      obtain ⟨u13, h14, hf⟩ := jbind hf
      refine j_callV (st := []) hX (k_X10_writes (l := l) (D := D) (t := t) (ad := ad) (o := o) m_m m_aside m_saved m_isSaved m_past m_changes m_errorAt m_failed 0 m_input m_inputMany m_fitting m_given m_pairs u11.1 u11.2 m_letters m_begins0 m_commands m_commandMany m_place0 m_size0 m_isWrong 60 (m_m (u3 + 5).toNatClampNeg) u13 h14) q1820 q1821 q1989 q15 q1822 (n9 := 2) rfl ⟨by decide +kernel, by decide +kernel⟩ 0 rfl rfl rfl dX10_renderHammer_97 (Nat.le_of_ble_eq_true rfl) ⟨Nat.le_refl _, Nat.le_refl _⟩ (fun w : va_W => w) jFr_id rfl rfl (fun v w hvw => ?_)
      obtain ⟨rfl, rfl⟩ := hvw
      change J X 0 0 (wM t ad o m_m m_aside m_saved m_isSaved m_past m_changes m_errorAt m_failed 0 m_input m_inputMany m_fitting m_given m_pairs u13.1 u13.2 m_letters m_begins0 m_commands m_commandMany m_place0 m_size0 m_isWrong) 100 [(2, .int u3), (0, .ref (ad o)), (1, .int a0)] []
      refine j_aload_n hX dX10_renderHammer_100 rfl 1 rfl ?_
      refine j_get hX dX10_renderHammer_101 inX10 15 q1470 0 rfl rfl (by decide) rfl rfl ?_
      cases hf
      exact j_iret hX hE dX10_renderHammer_104 (Nat.le_refl _) (Nat.le_refl _) ⟨rfl, rfl⟩
  · refine j_aload_n hX dX10_renderHammer_13 rfl 0 rfl ?_
    refine j_iconst hX 1 dX10_renderHammer_14 (by decide) ?_
    obtain ⟨u15, h16, hf⟩ := jbind hf
    refine j_callV (st := []) hX (k_X10_throwing (l := l) (D := D) (t := t) (ad := ad) (o := o) m_m m_aside m_saved m_isSaved m_past m_changes m_errorAt m_failed 0 m_input m_inputMany m_fitting m_given m_pairs m_line m_lineMany m_letters m_begins0 m_commands m_commandMany m_place0 m_size0 m_isWrong 1 u15 h16) q1496 q1497 q1951 q15 q1498 (n9 := 1) rfl ⟨by decide +kernel, by decide +kernel⟩ 0 rfl rfl rfl dX10_renderHammer_15 (Nat.le_of_ble_eq_true rfl) ⟨Nat.le_refl _, Nat.le_refl _⟩ (fun w : va_W => w) jFr_id rfl rfl (fun v w hvw => ?_)
    obtain ⟨rfl, rfl⟩ := hvw
    change J X 0 0 (wM t ad o m_m m_aside m_saved m_isSaved m_past m_changes m_errorAt m_failed u15.2 m_input m_inputMany m_fitting m_given m_pairs m_line m_lineMany m_letters m_begins0 m_commands m_commandMany m_place0 m_size0 m_isWrong) 18 [(0, .ref (ad o)), (1, .int a0)] [.int u15.1]
    cases hf
    exact j_iret hX hE dX10_renderHammer_18 (Nat.le_refl _) (Nat.le_refl _) ⟨rfl, rfl⟩
-- HammerDepotModel outputAt (I)C
def f_X10_outputAt (m_thrown : Int32) (m_line : Nat → Int32) (m_lineMany : Int32) (a0 : Int32) : Option (Int32 × Int32) :=
  Option.bind (f_X10_in ((a0).toInt64) (0 : Int64) ((m_lineMany - 1).toInt64)) (fun u1 =>
    if u1 = 0 then
      Option.bind (f_X10_throwing 0 1) (fun u3 =>
        if vp_nar .char (((u3.1).toUInt32 % 65536).toInt32) = (((u3.1).toUInt32 % 65536).toInt32) then some (((u3.1).toUInt32 % 65536).toInt32, u3.2) else none)
    else
      if jin a0 40 = true then
        if vp_nar .char (((m_line (a0).toNatClampNeg).toUInt32 % 65536).toInt32) = (((m_line (a0).toNatClampNeg).toUInt32 % 65536).toInt32) then some (((m_line (a0).toNatClampNeg).toUInt32 % 65536).toInt32, 0) else none
      else none)
set_option maxHeartbeats 4000000 in
set_option maxRecDepth 100000 in
theorem k_X10_outputAt {l : Launch} {D : va_G} {t : Nat → ClassId} {ad : Nat → Nat} {o : Nat} (m_m : Nat → Int32) (m_aside : Nat → Int32) (m_saved : Nat → Int32) (m_isSaved : Int32) (m_past : Nat → Int32) (m_changes : Int32) (m_errorAt : Int32) (m_failed : Int32) (m_thrown : Int32) (m_input : Nat → Int32) (m_inputMany : Int32) (m_fitting : Nat → Int32) (m_given : Nat → Int32) (m_pairs : Nat → Int32) (m_line : Nat → Int32) (m_lineMany : Int32) (m_letters : Nat → Int32) (m_begins0 : Nat → Int32) (m_commands : Nat → Int32) (m_commandMany : Int32) (m_place0 : Int32) (m_size0 : Int32) (m_isWrong : Int32) (a0 : Int32) (u : Int32 × Int32) (hf : f_X10_outputAt m_thrown m_line m_lineMany a0 = some u) : cm l D (jT t) yX10_outputAt cX10_outputAt 2 (some FieldType.char) { frames := 1, cells := 0, slots := 0, locals := 25 } [.ref (ad o), .int a0] (wM t ad o m_m m_aside m_saved m_isSaved m_past m_changes m_errorAt m_failed m_thrown m_input m_inputMany m_fitting m_given m_pairs m_line m_lineMany m_letters m_begins0 m_commands m_commandMany m_place0 m_size0 m_isWrong) (fun v w => v = (some (.int u.1)) ∧ w = wM t ad o m_m m_aside m_saved m_isSaved m_past m_changes m_errorAt m_failed u.2 m_input m_inputMany m_fitting m_given m_pairs m_line m_lineMany m_letters m_begins0 m_commands m_commandMany m_place0 m_size0 m_isWrong) := by
  refine cm_of RX10 rfl (by decide +kernel) (Nat.le_of_ble_eq_true rfl) (fun X hX hE => ?_)
  change J X 0 0 (wM t ad o m_m m_aside m_saved m_isSaved m_past m_changes m_errorAt m_failed m_thrown m_input m_inputMany m_fitting m_given m_pairs m_line m_lineMany m_letters m_begins0 m_commands m_commandMany m_place0 m_size0 m_isWrong) 0 [(0, .ref (ad o)), (1, .int a0)] []
  unfold f_X10_outputAt at hf
  refine j_aload_n hX dX10_outputAt_0 rfl 0 rfl ?_
  refine j_iconst hX 0 dX10_outputAt_1 (by decide) ?_
  refine j_put hX (wM t ad o m_m m_aside m_saved m_isSaved m_past m_changes m_errorAt m_failed 0 m_input m_inputMany m_fitting m_given m_pairs m_line m_lineMany m_letters m_begins0 m_commands m_commandMany m_place0 m_size0 m_isWrong) tyX10 dX10_outputAt_2 inX10 tyX10_ok nmX10 8 q1463 0 rfl rfl (by decide) rfl rfl rfl rfl rfl (Nat.le_of_ble_eq_true rfl) rfl ?_
  refine j_iload_n hX dX10_outputAt_5 rfl 1 rfl ?_
  refine j_i2l hX dX10_outputAt_6 ?_
  refine j_lconst hX 0 dX10_outputAt_7 (by decide) ?_
  refine j_aload_n hX dX10_outputAt_8 rfl 0 rfl ?_
  refine j_get hX dX10_outputAt_9 inX10 15 q1470 0 rfl rfl (by decide) rfl rfl ?_
  refine j_iconst hX 1 dX10_outputAt_12 (by decide) ?_
  refine j_isub hX dX10_outputAt_13 ?_
  refine j_i2l hX dX10_outputAt_14 ?_
  obtain ⟨u1, h2, hf⟩ := jbind hf
  refine j_callS (st := []) hX (k_X10_in (l := l) (D := D) (t := t) (ad := ad)  ((a0).toInt64) (0 : Int64) ((m_lineMany - 1).toInt64) u1 h2) q1493 q1494 q15 q1495 (n9 := 3) rfl ⟨by decide +kernel, by decide +kernel⟩ dX10_outputAt_15 (Nat.le_of_ble_eq_true rfl) ⟨Nat.le_refl _, Nat.le_refl _⟩ (fun w : va_W => w ++ (wM t ad o m_m m_aside m_saved m_isSaved m_past m_changes m_errorAt m_failed 0 m_input m_inputMany m_fitting m_given m_pairs m_line m_lineMany m_letters m_begins0 m_commands m_commandMany m_place0 m_size0 m_isWrong)) (jFr_r (wM t ad o m_m m_aside m_saved m_isSaved m_past m_changes m_errorAt m_failed 0 m_input m_inputMany m_fitting m_given m_pairs m_line m_lineMany m_letters m_begins0 m_commands m_commandMany m_place0 m_size0 m_isWrong)) rfl rfl (fun v w hvw => ?_)
  obtain ⟨rfl, rfl⟩ := hvw
  change J X 0 0 (wM t ad o m_m m_aside m_saved m_isSaved m_past m_changes m_errorAt m_failed 0 m_input m_inputMany m_fitting m_given m_pairs m_line m_lineMany m_letters m_begins0 m_commands m_commandMany m_place0 m_size0 m_isWrong) 18 [(0, .ref (ad o)), (1, .int a0)] [.int u1]
  refine j_if_eq hX 31 dX10_outputAt_18 (by decide) hf (fun c18 hf => ?_) (fun c18 hf => ?_)
  · refine j_aload_n hX dX10_outputAt_31 rfl 0 rfl ?_
    refine j_iconst hX 1 dX10_outputAt_32 (by decide) ?_
    obtain ⟨u3, h4, hf⟩ := jbind hf
    refine j_callV (st := []) hX (k_X10_throwing (l := l) (D := D) (t := t) (ad := ad) (o := o) m_m m_aside m_saved m_isSaved m_past m_changes m_errorAt m_failed 0 m_input m_inputMany m_fitting m_given m_pairs m_line m_lineMany m_letters m_begins0 m_commands m_commandMany m_place0 m_size0 m_isWrong 1 u3 h4) q1496 q1497 q1951 q15 q1498 (n9 := 1) rfl ⟨by decide +kernel, by decide +kernel⟩ 0 rfl rfl rfl dX10_outputAt_33 (Nat.le_of_ble_eq_true rfl) ⟨Nat.le_refl _, Nat.le_refl _⟩ (fun w : va_W => w) jFr_id rfl rfl (fun v w hvw => ?_)
    obtain ⟨rfl, rfl⟩ := hvw
    change J X 0 0 (wM t ad o m_m m_aside m_saved m_isSaved m_past m_changes m_errorAt m_failed u3.2 m_input m_inputMany m_fitting m_given m_pairs m_line m_lineMany m_letters m_begins0 m_commands m_commandMany m_place0 m_size0 m_isWrong) 36 [(0, .ref (ad o)), (1, .int a0)] [.int u3.1]
    refine j_i2c hX dX10_outputAt_36 ?_
    obtain ⟨c37, hf⟩ := jif hf
    cases hf
    exact j_zret hX hE (jc_n c37) dX10_outputAt_37 (Nat.le_refl _) (Nat.le_refl _) ⟨rfl, rfl⟩
  · refine j_aload_n hX dX10_outputAt_21 rfl 0 rfl ?_
    refine j_get hX dX10_outputAt_22 inX10 14 q1469 0 rfl rfl (by decide) rfl rfl ?_
    refine j_iload_n hX dX10_outputAt_25 rfl 1 rfl ?_
    refine j_iald hX dX10_outputAt_26 9 0 rfl rfl hf (fun c26 hf => ?_)
    refine j_i2c hX dX10_outputAt_27 ?_
    refine j_goto hX 37 dX10_outputAt_28 (by decide) ?_
    obtain ⟨c37, hf⟩ := jif hf
    cases hf
    exact j_zret hX hE (jc_n c37) dX10_outputAt_37 (Nat.le_refl _) (Nat.le_refl _) ⟨rfl, rfl⟩
-- HammerDepotModel type (C)I
def f_X10_type (m_thrown : Int32) (m_input : Nat → Int32) (m_inputMany : Int32) (a0 : Int32) : Option (Int32 × Int32 × (Nat → Int32) × Int32) :=
  Option.bind (f_X10_in ((a0).toInt64) (32 : Int64) (126 : Int64)) (fun u1 =>
    if u1 = 0 then
      Option.bind (f_X10_throwing 0 1) (fun u5 =>
        some (u5.1, u5.2, m_input, m_inputMany))
    else
      if m_inputMany = 60 then
        Option.bind (f_X10_throwing 0 2) (fun u3 =>
          some (u3.1, u3.2, m_input, m_inputMany))
      else
        if jin m_inputMany 60 = true then
          some (m_inputMany + 1, 0, upd m_input (m_inputMany).toNatClampNeg a0, m_inputMany + 1)
        else none)
set_option maxHeartbeats 4000000 in
set_option maxRecDepth 100000 in
theorem k_X10_type {l : Launch} {D : va_G} {t : Nat → ClassId} {ad : Nat → Nat} {o : Nat} (m_m : Nat → Int32) (m_aside : Nat → Int32) (m_saved : Nat → Int32) (m_isSaved : Int32) (m_past : Nat → Int32) (m_changes : Int32) (m_errorAt : Int32) (m_failed : Int32) (m_thrown : Int32) (m_input : Nat → Int32) (m_inputMany : Int32) (m_fitting : Nat → Int32) (m_given : Nat → Int32) (m_pairs : Nat → Int32) (m_line : Nat → Int32) (m_lineMany : Int32) (m_letters : Nat → Int32) (m_begins0 : Nat → Int32) (m_commands : Nat → Int32) (m_commandMany : Int32) (m_place0 : Int32) (m_size0 : Int32) (m_isWrong : Int32) (a0 : Int32) (u : Int32 × Int32 × (Nat → Int32) × Int32) (hf : f_X10_type m_thrown m_input m_inputMany a0 = some u) : cm l D (jT t) yX10_type cX10_type 2 (some FieldType.int) { frames := 1, cells := 0, slots := 0, locals := 25 } [.ref (ad o), .int a0] (wM t ad o m_m m_aside m_saved m_isSaved m_past m_changes m_errorAt m_failed m_thrown m_input m_inputMany m_fitting m_given m_pairs m_line m_lineMany m_letters m_begins0 m_commands m_commandMany m_place0 m_size0 m_isWrong) (fun v w => v = (some (.int u.1)) ∧ w = wM t ad o m_m m_aside m_saved m_isSaved m_past m_changes m_errorAt m_failed u.2.1 u.2.2.1 u.2.2.2 m_fitting m_given m_pairs m_line m_lineMany m_letters m_begins0 m_commands m_commandMany m_place0 m_size0 m_isWrong) := by
  refine cm_of RX10 rfl (by decide +kernel) (Nat.le_of_ble_eq_true rfl) (fun X hX hE => ?_)
  change J X 0 0 (wM t ad o m_m m_aside m_saved m_isSaved m_past m_changes m_errorAt m_failed m_thrown m_input m_inputMany m_fitting m_given m_pairs m_line m_lineMany m_letters m_begins0 m_commands m_commandMany m_place0 m_size0 m_isWrong) 0 [(0, .ref (ad o)), (1, .int a0)] []
  unfold f_X10_type at hf
  refine j_aload_n hX dX10_type_0 rfl 0 rfl ?_
  refine j_iconst hX 0 dX10_type_1 (by decide) ?_
  refine j_put hX (wM t ad o m_m m_aside m_saved m_isSaved m_past m_changes m_errorAt m_failed 0 m_input m_inputMany m_fitting m_given m_pairs m_line m_lineMany m_letters m_begins0 m_commands m_commandMany m_place0 m_size0 m_isWrong) tyX10 dX10_type_2 inX10 tyX10_ok nmX10 8 q1463 0 rfl rfl (by decide) rfl rfl rfl rfl rfl (Nat.le_of_ble_eq_true rfl) rfl ?_
  refine j_iload_n hX dX10_type_5 rfl 1 rfl ?_
  refine j_i2l hX dX10_type_6 ?_
  refine j_ldc2 hX q1831 dX10_type_7 ?_
  refine j_ldc2 hX q1832 dX10_type_10 ?_
  obtain ⟨u1, h2, hf⟩ := jbind hf
  refine j_callS (st := []) hX (k_X10_in (l := l) (D := D) (t := t) (ad := ad)  ((a0).toInt64) (32 : Int64) (126 : Int64) u1 h2) q1493 q1494 q15 q1495 (n9 := 3) rfl ⟨by decide +kernel, by decide +kernel⟩ dX10_type_13 (Nat.le_of_ble_eq_true rfl) ⟨Nat.le_refl _, Nat.le_refl _⟩ (fun w : va_W => w ++ (wM t ad o m_m m_aside m_saved m_isSaved m_past m_changes m_errorAt m_failed 0 m_input m_inputMany m_fitting m_given m_pairs m_line m_lineMany m_letters m_begins0 m_commands m_commandMany m_place0 m_size0 m_isWrong)) (jFr_r (wM t ad o m_m m_aside m_saved m_isSaved m_past m_changes m_errorAt m_failed 0 m_input m_inputMany m_fitting m_given m_pairs m_line m_lineMany m_letters m_begins0 m_commands m_commandMany m_place0 m_size0 m_isWrong)) rfl rfl (fun v w hvw => ?_)
  obtain ⟨rfl, rfl⟩ := hvw
  change J X 0 0 (wM t ad o m_m m_aside m_saved m_isSaved m_past m_changes m_errorAt m_failed 0 m_input m_inputMany m_fitting m_given m_pairs m_line m_lineMany m_letters m_begins0 m_commands m_commandMany m_place0 m_size0 m_isWrong) 16 [(0, .ref (ad o)), (1, .int a0)] [.int u1]
  refine j_if_ne hX 25 dX10_type_16 (by decide) hf (fun c16 hf => ?_) (fun c16 hf => ?_)
  · refine j_aload_n hX dX10_type_25 rfl 0 rfl ?_
    refine j_get hX dX10_type_26 inX10 10 q1465 0 rfl rfl (by decide) rfl rfl ?_
    refine j_bipush hX 60 dX10_type_29 (by decide) ?_
    refine j_icmp_ne hX 40 dX10_type_31 (by decide) hf (fun c31 hf => ?_) (fun c31 hf => ?_)
    · refine j_aload_n hX dX10_type_40 rfl 0 rfl ?_
      refine j_get hX dX10_type_41 inX10 9 q1464 0 rfl rfl (by decide) rfl rfl ?_
      refine j_aload_n hX dX10_type_44 rfl 0 rfl ?_
      refine j_get hX dX10_type_45 inX10 10 q1465 0 rfl rfl (by decide) rfl rfl ?_
      refine j_iload_n hX dX10_type_48 rfl 1 rfl ?_
      refine j_iast hX (wM t ad o m_m m_aside m_saved m_isSaved m_past m_changes m_errorAt m_failed 0 (upd m_input (m_inputMany).toNatClampNeg a0) m_inputMany m_fitting m_given m_pairs m_line m_lineMany m_letters m_begins0 m_commands m_commandMany m_place0 m_size0 m_isWrong) dX10_type_49 5 0 rfl rfl rfl hf (fun c49 hf => ?_)
      refine j_aload_n hX dX10_type_50 rfl 0 rfl ?_
      refine j_dup hX dX10_type_51 rfl ?_
      refine j_get hX dX10_type_52 inX10 10 q1465 0 rfl rfl (by decide) rfl rfl ?_
      refine j_iconst hX 1 dX10_type_55 (by decide) ?_
      refine j_iadd hX dX10_type_56 ?_
      refine j_put hX (wM t ad o m_m m_aside m_saved m_isSaved m_past m_changes m_errorAt m_failed 0 (upd m_input (m_inputMany).toNatClampNeg a0) (m_inputMany + 1) m_fitting m_given m_pairs m_line m_lineMany m_letters m_begins0 m_commands m_commandMany m_place0 m_size0 m_isWrong) tyX10 dX10_type_57 inX10 tyX10_ok nmX10 10 q1465 0 rfl rfl (by decide) rfl rfl rfl rfl rfl (Nat.le_of_ble_eq_true rfl) rfl ?_
      refine j_aload_n hX dX10_type_60 rfl 0 rfl ?_
      refine j_get hX dX10_type_61 inX10 10 q1465 0 rfl rfl (by decide) rfl rfl ?_
      cases hf
      exact j_iret hX hE dX10_type_64 (Nat.le_refl _) (Nat.le_refl _) ⟨rfl, rfl⟩
    · refine j_aload_n hX dX10_type_34 rfl 0 rfl ?_
      refine j_iconst hX 2 dX10_type_35 (by decide) ?_
      obtain ⟨u3, h4, hf⟩ := jbind hf
      refine j_callV (st := []) hX (k_X10_throwing (l := l) (D := D) (t := t) (ad := ad) (o := o) m_m m_aside m_saved m_isSaved m_past m_changes m_errorAt m_failed 0 m_input m_inputMany m_fitting m_given m_pairs m_line m_lineMany m_letters m_begins0 m_commands m_commandMany m_place0 m_size0 m_isWrong 2 u3 h4) q1496 q1497 q1951 q15 q1498 (n9 := 1) rfl ⟨by decide +kernel, by decide +kernel⟩ 0 rfl rfl rfl dX10_type_36 (Nat.le_of_ble_eq_true rfl) ⟨Nat.le_refl _, Nat.le_refl _⟩ (fun w : va_W => w) jFr_id rfl rfl (fun v w hvw => ?_)
      obtain ⟨rfl, rfl⟩ := hvw
      change J X 0 0 (wM t ad o m_m m_aside m_saved m_isSaved m_past m_changes m_errorAt m_failed u3.2 m_input m_inputMany m_fitting m_given m_pairs m_line m_lineMany m_letters m_begins0 m_commands m_commandMany m_place0 m_size0 m_isWrong) 39 [(0, .ref (ad o)), (1, .int a0)] [.int u3.1]
      cases hf
      exact j_iret hX hE dX10_type_39 (Nat.le_refl _) (Nat.le_refl _) ⟨rfl, rfl⟩
  · refine j_aload_n hX dX10_type_19 rfl 0 rfl ?_
    refine j_iconst hX 1 dX10_type_20 (by decide) ?_
    obtain ⟨u5, h6, hf⟩ := jbind hf
    refine j_callV (st := []) hX (k_X10_throwing (l := l) (D := D) (t := t) (ad := ad) (o := o) m_m m_aside m_saved m_isSaved m_past m_changes m_errorAt m_failed 0 m_input m_inputMany m_fitting m_given m_pairs m_line m_lineMany m_letters m_begins0 m_commands m_commandMany m_place0 m_size0 m_isWrong 1 u5 h6) q1496 q1497 q1951 q15 q1498 (n9 := 1) rfl ⟨by decide +kernel, by decide +kernel⟩ 0 rfl rfl rfl dX10_type_21 (Nat.le_of_ble_eq_true rfl) ⟨Nat.le_refl _, Nat.le_refl _⟩ (fun w : va_W => w) jFr_id rfl rfl (fun v w hvw => ?_)
    obtain ⟨rfl, rfl⟩ := hvw
    change J X 0 0 (wM t ad o m_m m_aside m_saved m_isSaved m_past m_changes m_errorAt m_failed u5.2 m_input m_inputMany m_fitting m_given m_pairs m_line m_lineMany m_letters m_begins0 m_commands m_commandMany m_place0 m_size0 m_isWrong) 24 [(0, .ref (ad o)), (1, .int a0)] [.int u5.1]
    cases hf
    exact j_iret hX hE dX10_type_24 (Nat.le_refl _) (Nat.le_refl _) ⟨rfl, rfl⟩
-- HammerDepotModel here ()I
def f_X10_here (m_input : Nat → Int32) (m_place0 : Int32) (m_size0 : Int32) : Option (Int32) :=
  if m_size0 ≤ m_place0 then
    some (-1)
  else
    if jin m_place0 60 = true then
      some (m_input (m_place0).toNatClampNeg)
    else none
set_option maxHeartbeats 4000000 in
set_option maxRecDepth 100000 in
theorem k_X10_here {l : Launch} {D : va_G} {t : Nat → ClassId} {ad : Nat → Nat} {o : Nat} (m_m : Nat → Int32) (m_aside : Nat → Int32) (m_saved : Nat → Int32) (m_isSaved : Int32) (m_past : Nat → Int32) (m_changes : Int32) (m_errorAt : Int32) (m_failed : Int32) (m_thrown : Int32) (m_input : Nat → Int32) (m_inputMany : Int32) (m_fitting : Nat → Int32) (m_given : Nat → Int32) (m_pairs : Nat → Int32) (m_line : Nat → Int32) (m_lineMany : Int32) (m_letters : Nat → Int32) (m_begins0 : Nat → Int32) (m_commands : Nat → Int32) (m_commandMany : Int32) (m_place0 : Int32) (m_size0 : Int32) (m_isWrong : Int32)  (u : Int32) (hf : f_X10_here m_input m_place0 m_size0 = some u) : cm l D (jT t) yX10_here cX10_here 1 (some FieldType.int) { frames := 0, cells := 0, slots := 0, locals := 0 } [.ref (ad o)] (wM t ad o m_m m_aside m_saved m_isSaved m_past m_changes m_errorAt m_failed m_thrown m_input m_inputMany m_fitting m_given m_pairs m_line m_lineMany m_letters m_begins0 m_commands m_commandMany m_place0 m_size0 m_isWrong) (fun v w => v = (some (.int u)) ∧ w = wM t ad o m_m m_aside m_saved m_isSaved m_past m_changes m_errorAt m_failed m_thrown m_input m_inputMany m_fitting m_given m_pairs m_line m_lineMany m_letters m_begins0 m_commands m_commandMany m_place0 m_size0 m_isWrong) := by
  refine cm_of RX10 rfl (by decide +kernel) (Nat.le_of_ble_eq_true rfl) (fun X hX hE => ?_)
  change J X 0 0 (wM t ad o m_m m_aside m_saved m_isSaved m_past m_changes m_errorAt m_failed m_thrown m_input m_inputMany m_fitting m_given m_pairs m_line m_lineMany m_letters m_begins0 m_commands m_commandMany m_place0 m_size0 m_isWrong) 0 [(0, .ref (ad o))] []
  unfold f_X10_here at hf
  refine j_aload_n hX dX10_here_0 rfl 0 rfl ?_
  refine j_get hX dX10_here_1 inX10 20 q1475 0 rfl rfl (by decide) rfl rfl ?_
  refine j_aload_n hX dX10_here_4 rfl 0 rfl ?_
  refine j_get hX dX10_here_5 inX10 21 q1476 0 rfl rfl (by decide) rfl rfl ?_
  refine j_icmp_ge hX 23 dX10_here_8 (by decide) hf (fun c8 hf => ?_) (fun c8 hf => ?_)
  · refine j_iconst hX (-1) dX10_here_23 (by decide) ?_
    cases hf
    exact j_iret hX hE dX10_here_24 (Nat.le_refl _) (Nat.le_refl _) ⟨rfl, rfl⟩
  · refine j_aload_n hX dX10_here_11 rfl 0 rfl ?_
    refine j_get hX dX10_here_12 inX10 9 q1464 0 rfl rfl (by decide) rfl rfl ?_
    refine j_aload_n hX dX10_here_15 rfl 0 rfl ?_
    refine j_get hX dX10_here_16 inX10 20 q1475 0 rfl rfl (by decide) rfl rfl ?_
    refine j_iald hX dX10_here_19 5 0 rfl rfl hf (fun c19 hf => ?_)
    refine j_goto hX 24 dX10_here_20 (by decide) ?_
    cases hf
    exact j_iret hX hE dX10_here_24 (Nat.le_refl _) (Nat.le_refl _) ⟨rfl, rfl⟩
-- HammerDepotModel expects (I)V
def f_X10_expects (m_input : Nat → Int32) (m_place0 : Int32) (m_size0 : Int32) (m_isWrong : Int32) (a0 : Int32) : Option (Int32 × Int32) :=
  if m_isWrong = 0 then
    Option.bind (f_X10_here m_input m_place0 m_size0) (fun u1 =>
      if u1 = a0 then
        some (m_place0 + 1, 0)
      else
        some (m_place0 + 0, 1))
  else
    some (m_place0 + 0, 1)
set_option maxHeartbeats 4000000 in
set_option maxRecDepth 100000 in
theorem k_X10_expects {l : Launch} {D : va_G} {t : Nat → ClassId} {ad : Nat → Nat} {o : Nat} (m_m : Nat → Int32) (m_aside : Nat → Int32) (m_saved : Nat → Int32) (m_isSaved : Int32) (m_past : Nat → Int32) (m_changes : Int32) (m_errorAt : Int32) (m_failed : Int32) (m_thrown : Int32) (m_input : Nat → Int32) (m_inputMany : Int32) (m_fitting : Nat → Int32) (m_given : Nat → Int32) (m_pairs : Nat → Int32) (m_line : Nat → Int32) (m_lineMany : Int32) (m_letters : Nat → Int32) (m_begins0 : Nat → Int32) (m_commands : Nat → Int32) (m_commandMany : Int32) (m_place0 : Int32) (m_size0 : Int32) (m_isWrong : Int32) (a0 : Int32) (u : Int32 × Int32) (hf : f_X10_expects m_input m_place0 m_size0 m_isWrong a0 = some u) : cm l D (jT t) yX10_expects cX10_expects 2 none { frames := 1, cells := 0, slots := 0, locals := 20 } [.ref (ad o), .int a0] (wM t ad o m_m m_aside m_saved m_isSaved m_past m_changes m_errorAt m_failed m_thrown m_input m_inputMany m_fitting m_given m_pairs m_line m_lineMany m_letters m_begins0 m_commands m_commandMany m_place0 m_size0 m_isWrong) (fun v w => v = none ∧ w = wM t ad o m_m m_aside m_saved m_isSaved m_past m_changes m_errorAt m_failed m_thrown m_input m_inputMany m_fitting m_given m_pairs m_line m_lineMany m_letters m_begins0 m_commands m_commandMany u.1 m_size0 u.2) := by
  refine cm_of RX10 rfl (by decide +kernel) (Nat.le_of_ble_eq_true rfl) (fun X hX hE => ?_)
  change J X 0 0 (wM t ad o m_m m_aside m_saved m_isSaved m_past m_changes m_errorAt m_failed m_thrown m_input m_inputMany m_fitting m_given m_pairs m_line m_lineMany m_letters m_begins0 m_commands m_commandMany m_place0 m_size0 m_isWrong) 0 [(0, .ref (ad o)), (1, .int a0)] []
  unfold f_X10_expects at hf
  refine j_aload_n hX dX10_expects_0 rfl 0 rfl ?_
  refine j_aload_n hX dX10_expects_1 rfl 0 rfl ?_
  refine j_get hX dX10_expects_2 inX10 22 q1477 0 rfl rfl (by decide) rfl rfl ?_
  refine j_if_ne hX 16 dX10_expects_5 (by decide) hf (fun c5 hf => ?_) (fun c5 hf => ?_)
  · refine j_iconst hX 1 dX10_expects_16 (by decide) ?_
    refine j_goto hX 21 dX10_expects_17 (by decide) ?_
    refine j_put hX (wM t ad o m_m m_aside m_saved m_isSaved m_past m_changes m_errorAt m_failed m_thrown m_input m_inputMany m_fitting m_given m_pairs m_line m_lineMany m_letters m_begins0 m_commands m_commandMany m_place0 m_size0 1) tyX10 dX10_expects_21 inX10 tyX10_ok nmX10 22 q1477 0 rfl rfl (by decide) rfl rfl rfl rfl rfl (Nat.le_of_ble_eq_true rfl) rfl ?_
    refine j_aload_n hX dX10_expects_24 rfl 0 rfl ?_
    refine j_dup hX dX10_expects_25 rfl ?_
    refine j_get hX dX10_expects_26 inX10 20 q1475 0 rfl rfl (by decide) rfl rfl ?_
    refine j_aload_n hX dX10_expects_29 rfl 0 rfl ?_
    refine j_get hX dX10_expects_30 inX10 22 q1477 0 rfl rfl (by decide) rfl rfl ?_
    refine j_if_eq (α := Unit) (F := none) (G := none) (o := none) hX 40 dX10_expects_33 (by decide) (ite_self none) (fun c33 _ => absurd c33 (by decide)) (fun c33 _ => ?_)
    refine j_iconst hX 0 dX10_expects_36 (by decide) ?_
    refine j_goto hX 41 dX10_expects_37 (by decide) ?_
    refine j_iadd hX dX10_expects_41 ?_
    refine j_put hX (wM t ad o m_m m_aside m_saved m_isSaved m_past m_changes m_errorAt m_failed m_thrown m_input m_inputMany m_fitting m_given m_pairs m_line m_lineMany m_letters m_begins0 m_commands m_commandMany (m_place0 + 0) m_size0 1) tyX10 dX10_expects_42 inX10 tyX10_ok nmX10 20 q1475 0 rfl rfl (by decide) rfl rfl rfl rfl rfl (Nat.le_of_ble_eq_true rfl) rfl ?_
    cases hf
    exact j_vret hX hE dX10_expects_45 (Nat.le_refl _) (Nat.le_refl _) ⟨rfl, rfl⟩
  · refine j_aload_n hX dX10_expects_8 rfl 0 rfl ?_
    obtain ⟨u1, h2, hf⟩ := jbind hf
    refine j_callV (st := [.ref (ad o)]) hX (k_X10_here (l := l) (D := D) (t := t) (ad := ad) (o := o) m_m m_aside m_saved m_isSaved m_past m_changes m_errorAt m_failed m_thrown m_input m_inputMany m_fitting m_given m_pairs m_line m_lineMany m_letters m_begins0 m_commands m_commandMany m_place0 m_size0 m_isWrong  u1 h2) q1852 q1853 q1995 q15 q1854 (n9 := 0) rfl ⟨by decide +kernel, by decide +kernel⟩ 0 rfl rfl rfl dX10_expects_9 (Nat.le_of_ble_eq_true rfl) ⟨Nat.le_refl _, Nat.le_refl _⟩ (fun w : va_W => w) jFr_id rfl rfl (fun v w hvw => ?_)
    obtain ⟨rfl, rfl⟩ := hvw
    change J X 0 0 (wM t ad o m_m m_aside m_saved m_isSaved m_past m_changes m_errorAt m_failed m_thrown m_input m_inputMany m_fitting m_given m_pairs m_line m_lineMany m_letters m_begins0 m_commands m_commandMany m_place0 m_size0 m_isWrong) 12 [(0, .ref (ad o)), (1, .int a0)] [.int u1, .ref (ad o)]
    refine j_iload_n hX dX10_expects_12 rfl 1 rfl ?_
    refine j_icmp_eq hX 20 dX10_expects_13 (by decide) hf (fun c13 hf => ?_) (fun c13 hf => ?_)
    · refine j_iconst hX 0 dX10_expects_20 (by decide) ?_
      refine j_put hX (wM t ad o m_m m_aside m_saved m_isSaved m_past m_changes m_errorAt m_failed m_thrown m_input m_inputMany m_fitting m_given m_pairs m_line m_lineMany m_letters m_begins0 m_commands m_commandMany m_place0 m_size0 0) tyX10 dX10_expects_21 inX10 tyX10_ok nmX10 22 q1477 0 rfl rfl (by decide) rfl rfl rfl rfl rfl (Nat.le_of_ble_eq_true rfl) rfl ?_
      refine j_aload_n hX dX10_expects_24 rfl 0 rfl ?_
      refine j_dup hX dX10_expects_25 rfl ?_
      refine j_get hX dX10_expects_26 inX10 20 q1475 0 rfl rfl (by decide) rfl rfl ?_
      refine j_aload_n hX dX10_expects_29 rfl 0 rfl ?_
      refine j_get hX dX10_expects_30 inX10 22 q1477 0 rfl rfl (by decide) rfl rfl ?_
      refine j_if_eq (α := Unit) (F := none) (G := none) (o := none) hX 40 dX10_expects_33 (by decide) (ite_self none) (fun c33 _ => ?_) (fun c33 _ => absurd c33 (by decide))
      refine j_iconst hX 1 dX10_expects_40 (by decide) ?_
      refine j_iadd hX dX10_expects_41 ?_
      refine j_put hX (wM t ad o m_m m_aside m_saved m_isSaved m_past m_changes m_errorAt m_failed m_thrown m_input m_inputMany m_fitting m_given m_pairs m_line m_lineMany m_letters m_begins0 m_commands m_commandMany (m_place0 + 1) m_size0 0) tyX10 dX10_expects_42 inX10 tyX10_ok nmX10 20 q1475 0 rfl rfl (by decide) rfl rfl rfl rfl rfl (Nat.le_of_ble_eq_true rfl) rfl ?_
      cases hf
      exact j_vret hX hE dX10_expects_45 (Nat.le_refl _) (Nat.le_refl _) ⟨rfl, rfl⟩
    · refine j_iconst hX 1 dX10_expects_16 (by decide) ?_
      refine j_goto hX 21 dX10_expects_17 (by decide) ?_
      refine j_put hX (wM t ad o m_m m_aside m_saved m_isSaved m_past m_changes m_errorAt m_failed m_thrown m_input m_inputMany m_fitting m_given m_pairs m_line m_lineMany m_letters m_begins0 m_commands m_commandMany m_place0 m_size0 1) tyX10 dX10_expects_21 inX10 tyX10_ok nmX10 22 q1477 0 rfl rfl (by decide) rfl rfl rfl rfl rfl (Nat.le_of_ble_eq_true rfl) rfl ?_
      refine j_aload_n hX dX10_expects_24 rfl 0 rfl ?_
      refine j_dup hX dX10_expects_25 rfl ?_
      refine j_get hX dX10_expects_26 inX10 20 q1475 0 rfl rfl (by decide) rfl rfl ?_
      refine j_aload_n hX dX10_expects_29 rfl 0 rfl ?_
      refine j_get hX dX10_expects_30 inX10 22 q1477 0 rfl rfl (by decide) rfl rfl ?_
      refine j_if_eq (α := Unit) (F := none) (G := none) (o := none) hX 40 dX10_expects_33 (by decide) (ite_self none) (fun c33 _ => absurd c33 (by decide)) (fun c33 _ => ?_)
      refine j_iconst hX 0 dX10_expects_36 (by decide) ?_
      refine j_goto hX 41 dX10_expects_37 (by decide) ?_
      refine j_iadd hX dX10_expects_41 ?_
      refine j_put hX (wM t ad o m_m m_aside m_saved m_isSaved m_past m_changes m_errorAt m_failed m_thrown m_input m_inputMany m_fitting m_given m_pairs m_line m_lineMany m_letters m_begins0 m_commands m_commandMany (m_place0 + 0) m_size0 1) tyX10 dX10_expects_42 inX10 tyX10_ok nmX10 20 q1475 0 rfl rfl (by decide) rfl rfl rfl rfl rfl (Nat.le_of_ble_eq_true rfl) rfl ?_
      cases hf
      exact j_vret hX hE dX10_expects_45 (Nat.le_refl _) (Nat.le_refl _) ⟨rfl, rfl⟩
-- HammerDepotModel digit ()I
def f_X10_digit (m_input : Nat → Int32) (m_place0 : Int32) (m_size0 : Int32) (m_isWrong : Int32) : Option (Int32 × Int32 × Int32) :=
  if m_isWrong = 0 then
    Option.bind (f_X10_here m_input m_place0 m_size0) (fun u1 =>
      Option.bind (f_X10_in ((u1).toInt64) (48 : Int64) (57 : Int64)) (fun u3 =>
        if u3 = 0 then
          some (0, m_place0 + 0, 1)
        else
          Option.bind (f_X10_here m_input m_place0 m_size0) (fun u5 =>
            some (u5 - 48, m_place0 + 1, 0))))
  else
    some (0, m_place0 + 0, 1)
set_option maxHeartbeats 4000000 in
set_option maxRecDepth 100000 in
theorem k_X10_digit {l : Launch} {D : va_G} {t : Nat → ClassId} {ad : Nat → Nat} {o : Nat} (m_m : Nat → Int32) (m_aside : Nat → Int32) (m_saved : Nat → Int32) (m_isSaved : Int32) (m_past : Nat → Int32) (m_changes : Int32) (m_errorAt : Int32) (m_failed : Int32) (m_thrown : Int32) (m_input : Nat → Int32) (m_inputMany : Int32) (m_fitting : Nat → Int32) (m_given : Nat → Int32) (m_pairs : Nat → Int32) (m_line : Nat → Int32) (m_lineMany : Int32) (m_letters : Nat → Int32) (m_begins0 : Nat → Int32) (m_commands : Nat → Int32) (m_commandMany : Int32) (m_place0 : Int32) (m_size0 : Int32) (m_isWrong : Int32)  (u : Int32 × Int32 × Int32) (hf : f_X10_digit m_input m_place0 m_size0 m_isWrong = some u) : cm l D (jT t) yX10_digit cX10_digit 2 (some FieldType.int) { frames := 1, cells := 0, slots := 0, locals := 25 } [.ref (ad o)] (wM t ad o m_m m_aside m_saved m_isSaved m_past m_changes m_errorAt m_failed m_thrown m_input m_inputMany m_fitting m_given m_pairs m_line m_lineMany m_letters m_begins0 m_commands m_commandMany m_place0 m_size0 m_isWrong) (fun v w => v = (some (.int u.1)) ∧ w = wM t ad o m_m m_aside m_saved m_isSaved m_past m_changes m_errorAt m_failed m_thrown m_input m_inputMany m_fitting m_given m_pairs m_line m_lineMany m_letters m_begins0 m_commands m_commandMany u.2.1 m_size0 u.2.2) := by
  refine cm_of RX10 rfl (by decide +kernel) (Nat.le_of_ble_eq_true rfl) (fun X hX hE => ?_)
  change J X 0 0 (wM t ad o m_m m_aside m_saved m_isSaved m_past m_changes m_errorAt m_failed m_thrown m_input m_inputMany m_fitting m_given m_pairs m_line m_lineMany m_letters m_begins0 m_commands m_commandMany m_place0 m_size0 m_isWrong) 0 [(0, .ref (ad o))] []
  unfold f_X10_digit at hf
  refine j_aload_n hX dX10_digit_0 rfl 0 rfl ?_
  refine j_aload_n hX dX10_digit_1 rfl 0 rfl ?_
  refine j_get hX dX10_digit_2 inX10 22 q1477 0 rfl rfl (by decide) rfl rfl ?_
  refine j_if_ne hX 25 dX10_digit_5 (by decide) hf (fun c5 hf => ?_) (fun c5 hf => ?_)
  · refine j_iconst hX 1 dX10_digit_25 (by decide) ?_
    refine j_goto hX 30 dX10_digit_26 (by decide) ?_
    refine j_put hX (wM t ad o m_m m_aside m_saved m_isSaved m_past m_changes m_errorAt m_failed m_thrown m_input m_inputMany m_fitting m_given m_pairs m_line m_lineMany m_letters m_begins0 m_commands m_commandMany m_place0 m_size0 1) tyX10 dX10_digit_30 inX10 tyX10_ok nmX10 22 q1477 0 rfl rfl (by decide) rfl rfl rfl rfl rfl (Nat.le_of_ble_eq_true rfl) rfl ?_
    refine j_aload_n hX dX10_digit_33 rfl 0 rfl ?_
    refine j_get hX dX10_digit_34 inX10 22 q1477 0 rfl rfl (by decide) rfl rfl ?_
    refine j_if_eq (α := Unit) (F := none) (G := none) (o := none) hX 44 dX10_digit_37 (by decide) (ite_self none) (fun c37 _ => absurd c37 (by decide)) (fun c37 _ => ?_)
    refine j_iconst hX 0 dX10_digit_40 (by decide) ?_
    refine j_goto hX 51 dX10_digit_41 (by decide) ?_
    refine j_istore_n hX [(1, .int 0), (0, .ref (ad o))] dX10_digit_51 rfl (by decide) rfl ?_
    refine j_aload_n hX dX10_digit_52 rfl 1 rfl ?_
    refine j_dup hX dX10_digit_53 rfl ?_
    refine j_get hX dX10_digit_54 inX10 20 q1475 0 rfl rfl (by decide) rfl rfl ?_
    refine j_aload_n hX dX10_digit_57 rfl 1 rfl ?_
    refine j_get hX dX10_digit_58 inX10 22 q1477 0 rfl rfl (by decide) rfl rfl ?_
    refine j_if_eq (α := Unit) (F := none) (G := none) (o := none) hX 68 dX10_digit_61 (by decide) (ite_self none) (fun c61 _ => absurd c61 (by decide)) (fun c61 _ => ?_)
    refine j_iconst hX 0 dX10_digit_64 (by decide) ?_
    refine j_goto hX 69 dX10_digit_65 (by decide) ?_
    refine j_iadd hX dX10_digit_69 ?_
    refine j_put hX (wM t ad o m_m m_aside m_saved m_isSaved m_past m_changes m_errorAt m_failed m_thrown m_input m_inputMany m_fitting m_given m_pairs m_line m_lineMany m_letters m_begins0 m_commands m_commandMany (m_place0 + 0) m_size0 1) tyX10 dX10_digit_70 inX10 tyX10_ok nmX10 20 q1475 0 rfl rfl (by decide) rfl rfl rfl rfl rfl (Nat.le_of_ble_eq_true rfl) rfl ?_
    refine j_iload_n hX dX10_digit_73 rfl 0 rfl ?_
    cases hf
    exact j_iret hX hE dX10_digit_74 (Nat.le_refl _) (Nat.le_refl _) ⟨rfl, rfl⟩
  · refine j_aload_n hX dX10_digit_8 rfl 0 rfl ?_
    obtain ⟨u1, h2, hf⟩ := jbind hf
    refine j_callV (st := [.ref (ad o)]) hX (k_X10_here (l := l) (D := D) (t := t) (ad := ad) (o := o) m_m m_aside m_saved m_isSaved m_past m_changes m_errorAt m_failed m_thrown m_input m_inputMany m_fitting m_given m_pairs m_line m_lineMany m_letters m_begins0 m_commands m_commandMany m_place0 m_size0 m_isWrong  u1 h2) q1852 q1853 q1995 q15 q1854 (n9 := 0) rfl ⟨by decide +kernel, by decide +kernel⟩ 0 rfl rfl rfl dX10_digit_9 (Nat.le_of_ble_eq_true rfl) ⟨Nat.le_refl _, Nat.le_refl _⟩ (fun w : va_W => w) jFr_id rfl rfl (fun v w hvw => ?_)
    obtain ⟨rfl, rfl⟩ := hvw
    change J X 0 0 (wM t ad o m_m m_aside m_saved m_isSaved m_past m_changes m_errorAt m_failed m_thrown m_input m_inputMany m_fitting m_given m_pairs m_line m_lineMany m_letters m_begins0 m_commands m_commandMany m_place0 m_size0 m_isWrong) 12 [(0, .ref (ad o))] [.int u1, .ref (ad o)]
    refine j_i2l hX dX10_digit_12 ?_
    refine j_ldc2 hX q1855 dX10_digit_13 ?_
    refine j_ldc2 hX q1856 dX10_digit_16 ?_
    obtain ⟨u3, h4, hf⟩ := jbind hf
    refine j_callS (st := [.ref (ad o)]) hX (k_X10_in (l := l) (D := D) (t := t) (ad := ad)  ((u1).toInt64) (48 : Int64) (57 : Int64) u3 h4) q1493 q1494 q15 q1495 (n9 := 3) rfl ⟨by decide +kernel, by decide +kernel⟩ dX10_digit_19 (Nat.le_of_ble_eq_true rfl) ⟨Nat.le_refl _, Nat.le_refl _⟩ (fun w : va_W => w ++ (wM t ad o m_m m_aside m_saved m_isSaved m_past m_changes m_errorAt m_failed m_thrown m_input m_inputMany m_fitting m_given m_pairs m_line m_lineMany m_letters m_begins0 m_commands m_commandMany m_place0 m_size0 m_isWrong)) (jFr_r (wM t ad o m_m m_aside m_saved m_isSaved m_past m_changes m_errorAt m_failed m_thrown m_input m_inputMany m_fitting m_given m_pairs m_line m_lineMany m_letters m_begins0 m_commands m_commandMany m_place0 m_size0 m_isWrong)) rfl rfl (fun v w hvw => ?_)
    obtain ⟨rfl, rfl⟩ := hvw
    change J X 0 0 (wM t ad o m_m m_aside m_saved m_isSaved m_past m_changes m_errorAt m_failed m_thrown m_input m_inputMany m_fitting m_given m_pairs m_line m_lineMany m_letters m_begins0 m_commands m_commandMany m_place0 m_size0 m_isWrong) 22 [(0, .ref (ad o))] [.int u3, .ref (ad o)]
    refine j_if_ne hX 29 dX10_digit_22 (by decide) hf (fun c22 hf => ?_) (fun c22 hf => ?_)
    · refine j_iconst hX 0 dX10_digit_29 (by decide) ?_
      refine j_put hX (wM t ad o m_m m_aside m_saved m_isSaved m_past m_changes m_errorAt m_failed m_thrown m_input m_inputMany m_fitting m_given m_pairs m_line m_lineMany m_letters m_begins0 m_commands m_commandMany m_place0 m_size0 0) tyX10 dX10_digit_30 inX10 tyX10_ok nmX10 22 q1477 0 rfl rfl (by decide) rfl rfl rfl rfl rfl (Nat.le_of_ble_eq_true rfl) rfl ?_
      refine j_aload_n hX dX10_digit_33 rfl 0 rfl ?_
      refine j_get hX dX10_digit_34 inX10 22 q1477 0 rfl rfl (by decide) rfl rfl ?_
      refine j_if_eq (α := Unit) (F := none) (G := none) (o := none) hX 44 dX10_digit_37 (by decide) (ite_self none) (fun c37 _ => ?_) (fun c37 _ => absurd c37 (by decide))
      refine j_aload_n hX dX10_digit_44 rfl 0 rfl ?_
      obtain ⟨u5, h6, hf⟩ := jbind hf
      refine j_callV (st := []) hX (k_X10_here (l := l) (D := D) (t := t) (ad := ad) (o := o) m_m m_aside m_saved m_isSaved m_past m_changes m_errorAt m_failed m_thrown m_input m_inputMany m_fitting m_given m_pairs m_line m_lineMany m_letters m_begins0 m_commands m_commandMany m_place0 m_size0 0  u5 h6) q1852 q1853 q1995 q15 q1854 (n9 := 0) rfl ⟨by decide +kernel, by decide +kernel⟩ 0 rfl rfl rfl dX10_digit_45 (Nat.le_of_ble_eq_true rfl) ⟨Nat.le_refl _, Nat.le_refl _⟩ (fun w : va_W => w) jFr_id rfl rfl (fun v w hvw => ?_)
      obtain ⟨rfl, rfl⟩ := hvw
      change J X 0 0 (wM t ad o m_m m_aside m_saved m_isSaved m_past m_changes m_errorAt m_failed m_thrown m_input m_inputMany m_fitting m_given m_pairs m_line m_lineMany m_letters m_begins0 m_commands m_commandMany m_place0 m_size0 0) 48 [(0, .ref (ad o))] [.int u5]
      refine j_bipush hX 48 dX10_digit_48 (by decide) ?_
      refine j_isub hX dX10_digit_50 ?_
      refine j_istore_n hX [(1, .int (u5 - 48)), (0, .ref (ad o))] dX10_digit_51 rfl (by decide) rfl ?_
      refine j_aload_n hX dX10_digit_52 rfl 1 rfl ?_
      refine j_dup hX dX10_digit_53 rfl ?_
      refine j_get hX dX10_digit_54 inX10 20 q1475 0 rfl rfl (by decide) rfl rfl ?_
      refine j_aload_n hX dX10_digit_57 rfl 1 rfl ?_
      refine j_get hX dX10_digit_58 inX10 22 q1477 0 rfl rfl (by decide) rfl rfl ?_
      refine j_if_eq (α := Unit) (F := none) (G := none) (o := none) hX 68 dX10_digit_61 (by decide) (ite_self none) (fun c61 _ => ?_) (fun c61 _ => absurd c61 (by decide))
      refine j_iconst hX 1 dX10_digit_68 (by decide) ?_
      refine j_iadd hX dX10_digit_69 ?_
      refine j_put hX (wM t ad o m_m m_aside m_saved m_isSaved m_past m_changes m_errorAt m_failed m_thrown m_input m_inputMany m_fitting m_given m_pairs m_line m_lineMany m_letters m_begins0 m_commands m_commandMany (m_place0 + 1) m_size0 0) tyX10 dX10_digit_70 inX10 tyX10_ok nmX10 20 q1475 0 rfl rfl (by decide) rfl rfl rfl rfl rfl (Nat.le_of_ble_eq_true rfl) rfl ?_
      refine j_iload_n hX dX10_digit_73 rfl 0 rfl ?_
      cases hf
      exact j_iret hX hE dX10_digit_74 (Nat.le_refl _) (Nat.le_refl _) ⟨rfl, rfl⟩
    · refine j_iconst hX 1 dX10_digit_25 (by decide) ?_
      refine j_goto hX 30 dX10_digit_26 (by decide) ?_
      refine j_put hX (wM t ad o m_m m_aside m_saved m_isSaved m_past m_changes m_errorAt m_failed m_thrown m_input m_inputMany m_fitting m_given m_pairs m_line m_lineMany m_letters m_begins0 m_commands m_commandMany m_place0 m_size0 1) tyX10 dX10_digit_30 inX10 tyX10_ok nmX10 22 q1477 0 rfl rfl (by decide) rfl rfl rfl rfl rfl (Nat.le_of_ble_eq_true rfl) rfl ?_
      refine j_aload_n hX dX10_digit_33 rfl 0 rfl ?_
      refine j_get hX dX10_digit_34 inX10 22 q1477 0 rfl rfl (by decide) rfl rfl ?_
      refine j_if_eq (α := Unit) (F := none) (G := none) (o := none) hX 44 dX10_digit_37 (by decide) (ite_self none) (fun c37 _ => absurd c37 (by decide)) (fun c37 _ => ?_)
      refine j_iconst hX 0 dX10_digit_40 (by decide) ?_
      refine j_goto hX 51 dX10_digit_41 (by decide) ?_
      refine j_istore_n hX [(1, .int 0), (0, .ref (ad o))] dX10_digit_51 rfl (by decide) rfl ?_
      refine j_aload_n hX dX10_digit_52 rfl 1 rfl ?_
      refine j_dup hX dX10_digit_53 rfl ?_
      refine j_get hX dX10_digit_54 inX10 20 q1475 0 rfl rfl (by decide) rfl rfl ?_
      refine j_aload_n hX dX10_digit_57 rfl 1 rfl ?_
      refine j_get hX dX10_digit_58 inX10 22 q1477 0 rfl rfl (by decide) rfl rfl ?_
      refine j_if_eq (α := Unit) (F := none) (G := none) (o := none) hX 68 dX10_digit_61 (by decide) (ite_self none) (fun c61 _ => absurd c61 (by decide)) (fun c61 _ => ?_)
      refine j_iconst hX 0 dX10_digit_64 (by decide) ?_
      refine j_goto hX 69 dX10_digit_65 (by decide) ?_
      refine j_iadd hX dX10_digit_69 ?_
      refine j_put hX (wM t ad o m_m m_aside m_saved m_isSaved m_past m_changes m_errorAt m_failed m_thrown m_input m_inputMany m_fitting m_given m_pairs m_line m_lineMany m_letters m_begins0 m_commands m_commandMany (m_place0 + 0) m_size0 1) tyX10 dX10_digit_70 inX10 tyX10_ok nmX10 20 q1475 0 rfl rfl (by decide) rfl rfl rfl rfl rfl (Nat.le_of_ble_eq_true rfl) rfl ?_
      refine j_iload_n hX dX10_digit_73 rfl 0 rfl ?_
      cases hf
      exact j_iret hX hE dX10_digit_74 (Nat.le_refl _) (Nat.le_refl _) ⟨rfl, rfl⟩
-- HammerDepotModel number ()I
def f_X10_number_L7 (m_input : Nat → Int32) (m_size0 : Int32) : Nat → Int32 → Int32 → Int32 → Int32 → Option (Int32 × Int32 × Int32 × Int32)
  | 0, _, _, _, _ => none
  | jn + 1, x2, x1, m_place0, m_isWrong =>
    if 2 ≤ x2 then
      some (x2, x1, m_place0, m_isWrong)
    else
      if m_isWrong = 0 then
        Option.bind (f_X10_here m_input m_place0 m_size0) (fun u3 =>
          Option.bind (f_X10_in ((u3).toInt64) (48 : Int64) (57 : Int64)) (fun u5 =>
            if u5 = 0 then
              some (x2, x1, m_place0, m_isWrong)
            else
              Option.bind (f_X10_digit m_input m_place0 m_size0 m_isWrong) (fun u7 =>
                f_X10_number_L7 m_input m_size0 jn (x2 + 1) (((10 : Int32) * x1) + u7.1) u7.2.1 u7.2.2)))
      else
        some (x2, x1, m_place0, m_isWrong)
def f_X10_number (m_input : Nat → Int32) (m_place0 : Int32) (m_size0 : Int32) (m_isWrong : Int32) : Option (Int32 × Int32 × Int32) :=
  Option.bind (f_X10_digit m_input m_place0 m_size0 m_isWrong) (fun u1 =>
    Option.bind (f_X10_number_L7 m_input m_size0 jFU 0 u1.1 u1.2.1 u1.2.2) (fun s10 =>
      some (s10.2.1, s10.2.2.1, s10.2.2.2)))
set_option maxHeartbeats 4000000 in
set_option maxRecDepth 100000 in
theorem k_X10_number_L7 {l : Launch} {D : va_G} {t : Nat → ClassId} {ad : Nat → Nat} {o : Nat} (m_input : Nat → Int32) (m_size0 : Int32) (m_m : Nat → Int32) (m_aside : Nat → Int32) (m_saved : Nat → Int32) (m_isSaved : Int32) (m_past : Nat → Int32) (m_changes : Int32) (m_errorAt : Int32) (m_failed : Int32) (m_thrown : Int32) (m_inputMany : Int32) (m_fitting : Nat → Int32) (m_given : Nat → Int32) (m_pairs : Nat → Int32) (m_line : Nat → Int32) (m_lineMany : Int32) (m_letters : Nat → Int32) (m_begins0 : Nat → Int32) (m_commands : Nat → Int32) (m_commandMany : Int32) {X : jX} (hX : jOK X l D (jT t) cX10_number RX10 (some FieldType.int) { frames := 2, cells := 0, slots := 0, locals := 46 } 3) :
    ∀ (jn : Nat) (x2 : Int32) (x1 : Int32) (m_place0 : Int32) (m_isWrong : Int32) (u : Int32 × Int32 × Int32 × Int32) (hf : f_X10_number_L7 m_input m_size0 jn x2 x1 m_place0 m_isWrong = some u) (kx : ∀ s : Int32 × Int32 × Int32 × Int32, u = s → J X 0 0 (wM t ad o m_m m_aside m_saved m_isSaved m_past m_changes m_errorAt m_failed m_thrown m_input m_inputMany m_fitting m_given m_pairs m_line m_lineMany m_letters m_begins0 m_commands m_commandMany s.2.2.1 m_size0 s.2.2.2) 52 [(2, .int s.1), (1, .int s.2.1), (0, .ref (ad o))] []), J X 0 0 (wM t ad o m_m m_aside m_saved m_isSaved m_past m_changes m_errorAt m_failed m_thrown m_input m_inputMany m_fitting m_given m_pairs m_line m_lineMany m_letters m_begins0 m_commands m_commandMany m_place0 m_size0 m_isWrong) 7 [(2, .int x2), (1, .int x1), (0, .ref (ad o))] [] := by
  intro jn
  induction jn with
  | zero => intro x2 x1 m_place0 m_isWrong u hf; cases (show (none : Option (Int32 × Int32 × Int32 × Int32)) = some u from hf)
  | succ jn ih =>
    intro x2 x1 m_place0 m_isWrong u hf kx
    unfold f_X10_number_L7 at hf
    refine j_iload_n hX dX10_number_7 rfl 0 rfl ?_
    refine j_iconst hX 2 dX10_number_8 (by decide) ?_
    refine j_icmp_ge hX 52 dX10_number_9 (by decide) hf (fun c9 hf => ?_) (fun c9 hf => ?_)
    · cases hf
      exact kx _ rfl
    · refine j_aload_n hX dX10_number_12 rfl 2 rfl ?_
      refine j_get hX dX10_number_13 inX10 22 q1477 0 rfl rfl (by decide) rfl rfl ?_
      refine j_if_ne hX 52 dX10_number_16 (by decide) hf (fun c16 hf => ?_) (fun c16 hf => ?_)
      · cases hf
        exact kx _ rfl
      · refine j_aload_n hX dX10_number_19 rfl 2 rfl ?_
        obtain ⟨u3, h4, hf⟩ := jbind hf
        refine j_callV (st := []) hX (k_X10_here (l := l) (D := D) (t := t) (ad := ad) (o := o) m_m m_aside m_saved m_isSaved m_past m_changes m_errorAt m_failed m_thrown m_input m_inputMany m_fitting m_given m_pairs m_line m_lineMany m_letters m_begins0 m_commands m_commandMany m_place0 m_size0 m_isWrong  u3 h4) q1852 q1853 q1995 q15 q1854 (n9 := 0) rfl ⟨by decide +kernel, by decide +kernel⟩ 0 rfl rfl rfl dX10_number_20 (Nat.le_of_ble_eq_true rfl) ⟨Nat.le_refl _, Nat.le_refl _⟩ (fun w : va_W => w) jFr_id rfl rfl (fun v w hvw => ?_)
        obtain ⟨rfl, rfl⟩ := hvw
        change J X 0 0 (wM t ad o m_m m_aside m_saved m_isSaved m_past m_changes m_errorAt m_failed m_thrown m_input m_inputMany m_fitting m_given m_pairs m_line m_lineMany m_letters m_begins0 m_commands m_commandMany m_place0 m_size0 m_isWrong) 23 [(2, .int x2), (1, .int x1), (0, .ref (ad o))] [.int u3]
        refine j_i2l hX dX10_number_23 ?_
        refine j_ldc2 hX q1855 dX10_number_24 ?_
        refine j_ldc2 hX q1856 dX10_number_27 ?_
        obtain ⟨u5, h6, hf⟩ := jbind hf
        refine j_callS (st := []) hX (k_X10_in (l := l) (D := D) (t := t) (ad := ad)  ((u3).toInt64) (48 : Int64) (57 : Int64) u5 h6) q1493 q1494 q15 q1495 (n9 := 3) rfl ⟨by decide +kernel, by decide +kernel⟩ dX10_number_30 (Nat.le_of_ble_eq_true rfl) ⟨Nat.le_refl _, Nat.le_refl _⟩ (fun w : va_W => w ++ (wM t ad o m_m m_aside m_saved m_isSaved m_past m_changes m_errorAt m_failed m_thrown m_input m_inputMany m_fitting m_given m_pairs m_line m_lineMany m_letters m_begins0 m_commands m_commandMany m_place0 m_size0 m_isWrong)) (jFr_r (wM t ad o m_m m_aside m_saved m_isSaved m_past m_changes m_errorAt m_failed m_thrown m_input m_inputMany m_fitting m_given m_pairs m_line m_lineMany m_letters m_begins0 m_commands m_commandMany m_place0 m_size0 m_isWrong)) rfl rfl (fun v w hvw => ?_)
        obtain ⟨rfl, rfl⟩ := hvw
        change J X 0 0 (wM t ad o m_m m_aside m_saved m_isSaved m_past m_changes m_errorAt m_failed m_thrown m_input m_inputMany m_fitting m_given m_pairs m_line m_lineMany m_letters m_begins0 m_commands m_commandMany m_place0 m_size0 m_isWrong) 33 [(2, .int x2), (1, .int x1), (0, .ref (ad o))] [.int u5]
        refine j_if_eq hX 52 dX10_number_33 (by decide) hf (fun c33 hf => ?_) (fun c33 hf => ?_)
        · cases hf
          exact kx _ rfl
        · refine j_bipush hX 10 dX10_number_36 (by decide) ?_
          refine j_iload_n hX dX10_number_38 rfl 1 rfl ?_
          refine j_imul hX dX10_number_39 ?_
          refine j_aload_n hX dX10_number_40 rfl 2 rfl ?_
          obtain ⟨u7, h8, hf⟩ := jbind hf
          refine j_callV (st := [.int ((10 : Int32) * x1)]) hX (k_X10_digit (l := l) (D := D) (t := t) (ad := ad) (o := o) m_m m_aside m_saved m_isSaved m_past m_changes m_errorAt m_failed m_thrown m_input m_inputMany m_fitting m_given m_pairs m_line m_lineMany m_letters m_begins0 m_commands m_commandMany m_place0 m_size0 m_isWrong  u7 h8) q1849 q1850 q1994 q15 q1851 (n9 := 0) rfl ⟨by decide +kernel, by decide +kernel⟩ 0 rfl rfl rfl dX10_number_41 (Nat.le_of_ble_eq_true rfl) ⟨Nat.le_refl _, Nat.le_refl _⟩ (fun w : va_W => w) jFr_id rfl rfl (fun v w hvw => ?_)
          obtain ⟨rfl, rfl⟩ := hvw
          change J X 0 0 (wM t ad o m_m m_aside m_saved m_isSaved m_past m_changes m_errorAt m_failed m_thrown m_input m_inputMany m_fitting m_given m_pairs m_line m_lineMany m_letters m_begins0 m_commands m_commandMany u7.2.1 m_size0 u7.2.2) 44 [(2, .int x2), (1, .int x1), (0, .ref (ad o))] [.int u7.1, .int ((10 : Int32) * x1)]
          refine j_iadd hX dX10_number_44 ?_
          refine j_istore_n hX [(1, .int (((10 : Int32) * x1) + u7.1)), (2, .int x2), (0, .ref (ad o))] dX10_number_45 rfl (by decide) rfl ?_
          refine j_iinc hX (x2 + 1) [(2, .int (x2 + 1)), (1, .int (((10 : Int32) * x1) + u7.1)), (0, .ref (ad o))] dX10_number_46 1 rfl rfl (by decide) rfl ?_
          refine j_goto hX 7 dX10_number_49 (by decide) ?_
          exact ih (x2 + 1) (((10 : Int32) * x1) + u7.1) u7.2.1 u7.2.2 u hf kx
set_option maxHeartbeats 4000000 in
set_option maxRecDepth 100000 in
theorem k_X10_number {l : Launch} {D : va_G} {t : Nat → ClassId} {ad : Nat → Nat} {o : Nat} (m_m : Nat → Int32) (m_aside : Nat → Int32) (m_saved : Nat → Int32) (m_isSaved : Int32) (m_past : Nat → Int32) (m_changes : Int32) (m_errorAt : Int32) (m_failed : Int32) (m_thrown : Int32) (m_input : Nat → Int32) (m_inputMany : Int32) (m_fitting : Nat → Int32) (m_given : Nat → Int32) (m_pairs : Nat → Int32) (m_line : Nat → Int32) (m_lineMany : Int32) (m_letters : Nat → Int32) (m_begins0 : Nat → Int32) (m_commands : Nat → Int32) (m_commandMany : Int32) (m_place0 : Int32) (m_size0 : Int32) (m_isWrong : Int32)  (u : Int32 × Int32 × Int32) (hf : f_X10_number m_input m_place0 m_size0 m_isWrong = some u) : cm l D (jT t) yX10_number cX10_number 3 (some FieldType.int) { frames := 2, cells := 0, slots := 0, locals := 46 } [.ref (ad o)] (wM t ad o m_m m_aside m_saved m_isSaved m_past m_changes m_errorAt m_failed m_thrown m_input m_inputMany m_fitting m_given m_pairs m_line m_lineMany m_letters m_begins0 m_commands m_commandMany m_place0 m_size0 m_isWrong) (fun v w => v = (some (.int u.1)) ∧ w = wM t ad o m_m m_aside m_saved m_isSaved m_past m_changes m_errorAt m_failed m_thrown m_input m_inputMany m_fitting m_given m_pairs m_line m_lineMany m_letters m_begins0 m_commands m_commandMany u.2.1 m_size0 u.2.2) := by
  refine cm_of RX10 rfl (by decide +kernel) (Nat.le_of_ble_eq_true rfl) (fun X hX hE => ?_)
  change J X 0 0 (wM t ad o m_m m_aside m_saved m_isSaved m_past m_changes m_errorAt m_failed m_thrown m_input m_inputMany m_fitting m_given m_pairs m_line m_lineMany m_letters m_begins0 m_commands m_commandMany m_place0 m_size0 m_isWrong) 0 [(0, .ref (ad o))] []
  unfold f_X10_number at hf
  refine j_aload_n hX dX10_number_0 rfl 0 rfl ?_
  obtain ⟨u1, h2, hf⟩ := jbind hf
  refine j_callV (st := []) hX (k_X10_digit (l := l) (D := D) (t := t) (ad := ad) (o := o) m_m m_aside m_saved m_isSaved m_past m_changes m_errorAt m_failed m_thrown m_input m_inputMany m_fitting m_given m_pairs m_line m_lineMany m_letters m_begins0 m_commands m_commandMany m_place0 m_size0 m_isWrong  u1 h2) q1849 q1850 q1994 q15 q1851 (n9 := 0) rfl ⟨by decide +kernel, by decide +kernel⟩ 0 rfl rfl rfl dX10_number_1 (Nat.le_of_ble_eq_true rfl) ⟨Nat.le_refl _, Nat.le_refl _⟩ (fun w : va_W => w) jFr_id rfl rfl (fun v w hvw => ?_)
  obtain ⟨rfl, rfl⟩ := hvw
  change J X 0 0 (wM t ad o m_m m_aside m_saved m_isSaved m_past m_changes m_errorAt m_failed m_thrown m_input m_inputMany m_fitting m_given m_pairs m_line m_lineMany m_letters m_begins0 m_commands m_commandMany u1.2.1 m_size0 u1.2.2) 4 [(0, .ref (ad o))] [.int u1.1]
  refine j_istore_n hX [(1, .int u1.1), (0, .ref (ad o))] dX10_number_4 rfl (by decide) rfl ?_
  refine j_iconst hX 0 dX10_number_5 (by decide) ?_
  refine j_istore_n hX [(2, .int 0), (1, .int u1.1), (0, .ref (ad o))] dX10_number_6 rfl (by decide) rfl ?_
  obtain ⟨s10, h11, hf⟩ := jbind hf
  refine k_X10_number_L7 (ad := ad) m_input m_size0 m_m m_aside m_saved m_isSaved m_past m_changes m_errorAt m_failed m_thrown m_inputMany m_fitting m_given m_pairs m_line m_lineMany m_letters m_begins0 m_commands m_commandMany hX jFU 0 u1.1 u1.2.1 u1.2.2 s10 h11 (fun s100 es10 => ?_)
  subst es10
  refine j_iload_n hX dX10_number_52 rfl 1 rfl ?_
  cases hf
  exact j_iret hX hE dX10_number_53 (Nat.le_refl _) (Nat.le_refl _) ⟨rfl, rfl⟩
-- HammerDepotModel digitBehind (I)I
def f_X10_digitBehind (m_input : Nat → Int32) (m_place0 : Int32) (m_size0 : Int32) (m_isWrong : Int32) (a0 : Int32) : Option (Int32 × Int32 × Int32) :=
  Option.bind (f_X10_expects m_input m_place0 m_size0 m_isWrong a0) (fun u1 =>
    Option.bind (f_X10_digit m_input u1.1 m_size0 u1.2) (fun u3 =>
      some (u3.1, u3.2.1, u3.2.2)))
set_option maxHeartbeats 4000000 in
set_option maxRecDepth 100000 in
theorem k_X10_digitBehind {l : Launch} {D : va_G} {t : Nat → ClassId} {ad : Nat → Nat} {o : Nat} (m_m : Nat → Int32) (m_aside : Nat → Int32) (m_saved : Nat → Int32) (m_isSaved : Int32) (m_past : Nat → Int32) (m_changes : Int32) (m_errorAt : Int32) (m_failed : Int32) (m_thrown : Int32) (m_input : Nat → Int32) (m_inputMany : Int32) (m_fitting : Nat → Int32) (m_given : Nat → Int32) (m_pairs : Nat → Int32) (m_line : Nat → Int32) (m_lineMany : Int32) (m_letters : Nat → Int32) (m_begins0 : Nat → Int32) (m_commands : Nat → Int32) (m_commandMany : Int32) (m_place0 : Int32) (m_size0 : Int32) (m_isWrong : Int32) (a0 : Int32) (u : Int32 × Int32 × Int32) (hf : f_X10_digitBehind m_input m_place0 m_size0 m_isWrong a0 = some u) : cm l D (jT t) yX10_digitBehind cX10_digitBehind 2 (some FieldType.int) { frames := 2, cells := 0, slots := 0, locals := 46 } [.ref (ad o), .int a0] (wM t ad o m_m m_aside m_saved m_isSaved m_past m_changes m_errorAt m_failed m_thrown m_input m_inputMany m_fitting m_given m_pairs m_line m_lineMany m_letters m_begins0 m_commands m_commandMany m_place0 m_size0 m_isWrong) (fun v w => v = (some (.int u.1)) ∧ w = wM t ad o m_m m_aside m_saved m_isSaved m_past m_changes m_errorAt m_failed m_thrown m_input m_inputMany m_fitting m_given m_pairs m_line m_lineMany m_letters m_begins0 m_commands m_commandMany u.2.1 m_size0 u.2.2) := by
  refine cm_of RX10 rfl (by decide +kernel) (Nat.le_of_ble_eq_true rfl) (fun X hX hE => ?_)
  change J X 0 0 (wM t ad o m_m m_aside m_saved m_isSaved m_past m_changes m_errorAt m_failed m_thrown m_input m_inputMany m_fitting m_given m_pairs m_line m_lineMany m_letters m_begins0 m_commands m_commandMany m_place0 m_size0 m_isWrong) 0 [(0, .ref (ad o)), (1, .int a0)] []
  unfold f_X10_digitBehind at hf
  refine j_aload_n hX dX10_digitBehind_0 rfl 0 rfl ?_
  refine j_iload_n hX dX10_digitBehind_1 rfl 1 rfl ?_
  obtain ⟨u1, h2, hf⟩ := jbind hf
  refine j_callV (st := []) hX (k_X10_expects (l := l) (D := D) (t := t) (ad := ad) (o := o) m_m m_aside m_saved m_isSaved m_past m_changes m_errorAt m_failed m_thrown m_input m_inputMany m_fitting m_given m_pairs m_line m_lineMany m_letters m_begins0 m_commands m_commandMany m_place0 m_size0 m_isWrong a0 u1 h2) q1860 q1861 q1997 q15 q1862 (n9 := 1) rfl ⟨by decide +kernel, by decide +kernel⟩ 0 rfl rfl rfl dX10_digitBehind_2 (Nat.le_of_ble_eq_true rfl) ⟨Nat.le_refl _, Nat.le_refl _⟩ (fun w : va_W => w) jFr_id rfl rfl (fun v w hvw => ?_)
  obtain ⟨rfl, rfl⟩ := hvw
  change J X 0 0 (wM t ad o m_m m_aside m_saved m_isSaved m_past m_changes m_errorAt m_failed m_thrown m_input m_inputMany m_fitting m_given m_pairs m_line m_lineMany m_letters m_begins0 m_commands m_commandMany u1.1 m_size0 u1.2) 5 [(0, .ref (ad o)), (1, .int a0)] []
  refine j_aload_n hX dX10_digitBehind_5 rfl 0 rfl ?_
  obtain ⟨u3, h4, hf⟩ := jbind hf
  refine j_callV (st := []) hX (k_X10_digit (l := l) (D := D) (t := t) (ad := ad) (o := o) m_m m_aside m_saved m_isSaved m_past m_changes m_errorAt m_failed m_thrown m_input m_inputMany m_fitting m_given m_pairs m_line m_lineMany m_letters m_begins0 m_commands m_commandMany u1.1 m_size0 u1.2  u3 h4) q1849 q1850 q1994 q15 q1851 (n9 := 0) rfl ⟨by decide +kernel, by decide +kernel⟩ 0 rfl rfl rfl dX10_digitBehind_6 (Nat.le_of_ble_eq_true rfl) ⟨Nat.le_refl _, Nat.le_refl _⟩ (fun w : va_W => w) jFr_id rfl rfl (fun v w hvw => ?_)
  obtain ⟨rfl, rfl⟩ := hvw
  change J X 0 0 (wM t ad o m_m m_aside m_saved m_isSaved m_past m_changes m_errorAt m_failed m_thrown m_input m_inputMany m_fitting m_given m_pairs m_line m_lineMany m_letters m_begins0 m_commands m_commandMany u3.2.1 m_size0 u3.2.2) 9 [(0, .ref (ad o)), (1, .int a0)] [.int u3.1]
  cases hf
  exact j_iret hX hE dX10_digitBehind_9 (Nat.le_refl _) (Nat.le_refl _) ⟨rfl, rfl⟩
-- HammerDepotModel numberBehind (I)I
def f_X10_numberBehind (m_input : Nat → Int32) (m_place0 : Int32) (m_size0 : Int32) (m_isWrong : Int32) (a0 : Int32) : Option (Int32 × Int32 × Int32) :=
  Option.bind (f_X10_expects m_input m_place0 m_size0 m_isWrong a0) (fun u1 =>
    Option.bind (f_X10_number m_input u1.1 m_size0 u1.2) (fun u3 =>
      some (u3.1, u3.2.1, u3.2.2)))
set_option maxHeartbeats 4000000 in
set_option maxRecDepth 100000 in
theorem k_X10_numberBehind {l : Launch} {D : va_G} {t : Nat → ClassId} {ad : Nat → Nat} {o : Nat} (m_m : Nat → Int32) (m_aside : Nat → Int32) (m_saved : Nat → Int32) (m_isSaved : Int32) (m_past : Nat → Int32) (m_changes : Int32) (m_errorAt : Int32) (m_failed : Int32) (m_thrown : Int32) (m_input : Nat → Int32) (m_inputMany : Int32) (m_fitting : Nat → Int32) (m_given : Nat → Int32) (m_pairs : Nat → Int32) (m_line : Nat → Int32) (m_lineMany : Int32) (m_letters : Nat → Int32) (m_begins0 : Nat → Int32) (m_commands : Nat → Int32) (m_commandMany : Int32) (m_place0 : Int32) (m_size0 : Int32) (m_isWrong : Int32) (a0 : Int32) (u : Int32 × Int32 × Int32) (hf : f_X10_numberBehind m_input m_place0 m_size0 m_isWrong a0 = some u) : cm l D (jT t) yX10_numberBehind cX10_numberBehind 2 (some FieldType.int) { frames := 3, cells := 0, slots := 0, locals := 68 } [.ref (ad o), .int a0] (wM t ad o m_m m_aside m_saved m_isSaved m_past m_changes m_errorAt m_failed m_thrown m_input m_inputMany m_fitting m_given m_pairs m_line m_lineMany m_letters m_begins0 m_commands m_commandMany m_place0 m_size0 m_isWrong) (fun v w => v = (some (.int u.1)) ∧ w = wM t ad o m_m m_aside m_saved m_isSaved m_past m_changes m_errorAt m_failed m_thrown m_input m_inputMany m_fitting m_given m_pairs m_line m_lineMany m_letters m_begins0 m_commands m_commandMany u.2.1 m_size0 u.2.2) := by
  refine cm_of RX10 rfl (by decide +kernel) (Nat.le_of_ble_eq_true rfl) (fun X hX hE => ?_)
  change J X 0 0 (wM t ad o m_m m_aside m_saved m_isSaved m_past m_changes m_errorAt m_failed m_thrown m_input m_inputMany m_fitting m_given m_pairs m_line m_lineMany m_letters m_begins0 m_commands m_commandMany m_place0 m_size0 m_isWrong) 0 [(0, .ref (ad o)), (1, .int a0)] []
  unfold f_X10_numberBehind at hf
  refine j_aload_n hX dX10_numberBehind_0 rfl 0 rfl ?_
  refine j_iload_n hX dX10_numberBehind_1 rfl 1 rfl ?_
  obtain ⟨u1, h2, hf⟩ := jbind hf
  refine j_callV (st := []) hX (k_X10_expects (l := l) (D := D) (t := t) (ad := ad) (o := o) m_m m_aside m_saved m_isSaved m_past m_changes m_errorAt m_failed m_thrown m_input m_inputMany m_fitting m_given m_pairs m_line m_lineMany m_letters m_begins0 m_commands m_commandMany m_place0 m_size0 m_isWrong a0 u1 h2) q1860 q1861 q1997 q15 q1862 (n9 := 1) rfl ⟨by decide +kernel, by decide +kernel⟩ 0 rfl rfl rfl dX10_numberBehind_2 (Nat.le_of_ble_eq_true rfl) ⟨Nat.le_refl _, Nat.le_refl _⟩ (fun w : va_W => w) jFr_id rfl rfl (fun v w hvw => ?_)
  obtain ⟨rfl, rfl⟩ := hvw
  change J X 0 0 (wM t ad o m_m m_aside m_saved m_isSaved m_past m_changes m_errorAt m_failed m_thrown m_input m_inputMany m_fitting m_given m_pairs m_line m_lineMany m_letters m_begins0 m_commands m_commandMany u1.1 m_size0 u1.2) 5 [(0, .ref (ad o)), (1, .int a0)] []
  refine j_aload_n hX dX10_numberBehind_5 rfl 0 rfl ?_
  obtain ⟨u3, h4, hf⟩ := jbind hf
  refine j_callV (st := []) hX (k_X10_number (l := l) (D := D) (t := t) (ad := ad) (o := o) m_m m_aside m_saved m_isSaved m_past m_changes m_errorAt m_failed m_thrown m_input m_inputMany m_fitting m_given m_pairs m_line m_lineMany m_letters m_begins0 m_commands m_commandMany u1.1 m_size0 u1.2  u3 h4) q1846 q1847 q1993 q15 q1848 (n9 := 0) rfl ⟨by decide +kernel, by decide +kernel⟩ 0 rfl rfl rfl dX10_numberBehind_6 (Nat.le_of_ble_eq_true rfl) ⟨Nat.le_refl _, Nat.le_refl _⟩ (fun w : va_W => w) jFr_id rfl rfl (fun v w hvw => ?_)
  obtain ⟨rfl, rfl⟩ := hvw
  change J X 0 0 (wM t ad o m_m m_aside m_saved m_isSaved m_past m_changes m_errorAt m_failed m_thrown m_input m_inputMany m_fitting m_given m_pairs m_line m_lineMany m_letters m_begins0 m_commands m_commandMany u3.2.1 m_size0 u3.2.2) 9 [(0, .ref (ad o)), (1, .int a0)] [.int u3.1]
  cases hf
  exact j_iret hX hE dX10_numberBehind_9 (Nat.le_refl _) (Nat.le_refl _) ⟨rfl, rfl⟩
-- HammerDepotModel likeness (I)I
def f_X10_likeness_L18 (m_input : Nat → Int32) (m_letters : Nat → Int32) (m_begins0 : Nat → Int32) (m_place0 : Int32) (m_size0 : Int32) (x3 : Int32) (x1 : Int32) : Nat → Int32 → Option (Int32)
  | 0, _ => none
  | jn + 1, x2 =>
    if x3 ≤ x2 then
      some x2
    else
      if m_size0 ≤ (m_place0 + x2) then
        some x2
      else
        if jin (m_place0 + x2) 60 = true then
          if jin x1 11 = true then
            if jin ((m_begins0 (x1).toNatClampNeg) + x2) 49 = true then
              if (m_input (m_place0 + x2).toNatClampNeg) = (m_letters ((m_begins0 (x1).toNatClampNeg) + x2).toNatClampNeg) then
                f_X10_likeness_L18 m_input m_letters m_begins0 m_place0 m_size0 x3 x1 jn (x2 + 1)
              else
                some x2
            else none
          else none
        else none
def f_X10_likeness (m_input : Nat → Int32) (m_letters : Nat → Int32) (m_begins0 : Nat → Int32) (m_place0 : Int32) (m_size0 : Int32) (a0 : Int32) : Option (Int32) :=
  if jin (a0 + 1) 11 = true then
    if jin a0 11 = true then
      Option.bind (f_X10_likeness_L18 m_input m_letters m_begins0 m_place0 m_size0 ((m_begins0 (a0 + 1).toNatClampNeg) - (m_begins0 (a0).toNatClampNeg)) a0 jFU 0) (fun s2 =>
        some s2)
    else none
  else none
set_option maxHeartbeats 4000000 in
set_option maxRecDepth 100000 in
theorem k_X10_likeness_L18 {l : Launch} {D : va_G} {t : Nat → ClassId} {ad : Nat → Nat} {o : Nat} (m_input : Nat → Int32) (m_letters : Nat → Int32) (m_begins0 : Nat → Int32) (m_place0 : Int32) (m_size0 : Int32) (x3 : Int32) (x1 : Int32) (m_m : Nat → Int32) (m_aside : Nat → Int32) (m_saved : Nat → Int32) (m_isSaved : Int32) (m_past : Nat → Int32) (m_changes : Int32) (m_errorAt : Int32) (m_failed : Int32) (m_thrown : Int32) (m_inputMany : Int32) (m_fitting : Nat → Int32) (m_given : Nat → Int32) (m_pairs : Nat → Int32) (m_line : Nat → Int32) (m_lineMany : Int32) (m_commands : Nat → Int32) (m_commandMany : Int32) (m_isWrong : Int32) {X : jX} (hX : jOK X l D (jT t) cX10_likeness RX10 (some FieldType.int) { frames := 0, cells := 0, slots := 0, locals := 0 } 4) :
    ∀ (jn : Nat) (x2 : Int32) (u : Int32) (hf : f_X10_likeness_L18 m_input m_letters m_begins0 m_place0 m_size0 x3 x1 jn x2 = some u) (kx : ∀ s : Int32, u = s → J X 0 0 (wM t ad o m_m m_aside m_saved m_isSaved m_past m_changes m_errorAt m_failed m_thrown m_input m_inputMany m_fitting m_given m_pairs m_line m_lineMany m_letters m_begins0 m_commands m_commandMany m_place0 m_size0 m_isWrong) 69 [(3, .int x3), (2, .int s), (0, .ref (ad o)), (1, .int x1)] []), J X 0 0 (wM t ad o m_m m_aside m_saved m_isSaved m_past m_changes m_errorAt m_failed m_thrown m_input m_inputMany m_fitting m_given m_pairs m_line m_lineMany m_letters m_begins0 m_commands m_commandMany m_place0 m_size0 m_isWrong) 18 [(3, .int x3), (2, .int x2), (0, .ref (ad o)), (1, .int x1)] [] := by
  intro jn
  induction jn with
  | zero => intro x2 u hf; cases (show (none : Option (Int32)) = some u from hf)
  | succ jn ih =>
    intro x2 u hf kx
    unfold f_X10_likeness_L18 at hf
    refine j_iload_n hX dX10_likeness_18 rfl 1 rfl ?_
    refine j_iload_n hX dX10_likeness_19 rfl 0 rfl ?_
    refine j_icmp_ge hX 69 dX10_likeness_20 (by decide) hf (fun c20 hf => ?_) (fun c20 hf => ?_)
    · cases hf
      exact kx _ rfl
    · refine j_aload_n hX dX10_likeness_23 rfl 2 rfl ?_
      refine j_get hX dX10_likeness_24 inX10 20 q1475 0 rfl rfl (by decide) rfl rfl ?_
      refine j_iload_n hX dX10_likeness_27 rfl 1 rfl ?_
      refine j_iadd hX dX10_likeness_28 ?_
      refine j_aload_n hX dX10_likeness_29 rfl 2 rfl ?_
      refine j_get hX dX10_likeness_30 inX10 21 q1476 0 rfl rfl (by decide) rfl rfl ?_
      refine j_icmp_ge hX 69 dX10_likeness_33 (by decide) hf (fun c33 hf => ?_) (fun c33 hf => ?_)
      · cases hf
        exact kx _ rfl
      · refine j_aload_n hX dX10_likeness_36 rfl 2 rfl ?_
        refine j_get hX dX10_likeness_37 inX10 9 q1464 0 rfl rfl (by decide) rfl rfl ?_
        refine j_aload_n hX dX10_likeness_40 rfl 2 rfl ?_
        refine j_get hX dX10_likeness_41 inX10 20 q1475 0 rfl rfl (by decide) rfl rfl ?_
        refine j_iload_n hX dX10_likeness_44 rfl 1 rfl ?_
        refine j_iadd hX dX10_likeness_45 ?_
        refine j_iald hX dX10_likeness_46 5 0 rfl rfl hf (fun c46 hf => ?_)
        refine j_aload_n hX dX10_likeness_47 rfl 2 rfl ?_
        refine j_get hX dX10_likeness_48 inX10 16 q1471 0 rfl rfl (by decide) rfl rfl ?_
        refine j_aload_n hX dX10_likeness_51 rfl 2 rfl ?_
        refine j_get hX dX10_likeness_52 inX10 17 q1472 0 rfl rfl (by decide) rfl rfl ?_
        refine j_iload_n hX dX10_likeness_55 rfl 3 rfl ?_
        refine j_iald hX dX10_likeness_56 11 0 rfl rfl hf (fun c56 hf => ?_)
        refine j_iload_n hX dX10_likeness_57 rfl 1 rfl ?_
        refine j_iadd hX dX10_likeness_58 ?_
        refine j_cald hX dX10_likeness_59 10 1 rfl rfl hf (fun c59 hf => ?_)
        refine j_icmp_ne hX 69 dX10_likeness_60 (by decide) hf (fun c60 hf => ?_) (fun c60 hf => ?_)
        · cases hf
          exact kx _ rfl
        · refine j_iinc hX (x2 + 1) [(2, .int (x2 + 1)), (3, .int x3), (0, .ref (ad o)), (1, .int x1)] dX10_likeness_63 1 rfl rfl (by decide) rfl ?_
          refine j_goto hX 18 dX10_likeness_66 (by decide) ?_
          refine j_sub hX [(3, .int x3), (2, .int (x2 + 1)), (0, .ref (ad o)), (1, .int x1)] [1, 0, 2, 3] rfl ?_
          exact ih (x2 + 1) u hf kx
set_option maxHeartbeats 4000000 in
set_option maxRecDepth 100000 in
theorem k_X10_likeness {l : Launch} {D : va_G} {t : Nat → ClassId} {ad : Nat → Nat} {o : Nat} (m_m : Nat → Int32) (m_aside : Nat → Int32) (m_saved : Nat → Int32) (m_isSaved : Int32) (m_past : Nat → Int32) (m_changes : Int32) (m_errorAt : Int32) (m_failed : Int32) (m_thrown : Int32) (m_input : Nat → Int32) (m_inputMany : Int32) (m_fitting : Nat → Int32) (m_given : Nat → Int32) (m_pairs : Nat → Int32) (m_line : Nat → Int32) (m_lineMany : Int32) (m_letters : Nat → Int32) (m_begins0 : Nat → Int32) (m_commands : Nat → Int32) (m_commandMany : Int32) (m_place0 : Int32) (m_size0 : Int32) (m_isWrong : Int32) (a0 : Int32) (u : Int32) (hf : f_X10_likeness m_input m_letters m_begins0 m_place0 m_size0 a0 = some u) : cm l D (jT t) yX10_likeness cX10_likeness 4 (some FieldType.int) { frames := 0, cells := 0, slots := 0, locals := 0 } [.ref (ad o), .int a0] (wM t ad o m_m m_aside m_saved m_isSaved m_past m_changes m_errorAt m_failed m_thrown m_input m_inputMany m_fitting m_given m_pairs m_line m_lineMany m_letters m_begins0 m_commands m_commandMany m_place0 m_size0 m_isWrong) (fun v w => v = (some (.int u)) ∧ w = wM t ad o m_m m_aside m_saved m_isSaved m_past m_changes m_errorAt m_failed m_thrown m_input m_inputMany m_fitting m_given m_pairs m_line m_lineMany m_letters m_begins0 m_commands m_commandMany m_place0 m_size0 m_isWrong) := by
  refine cm_of RX10 rfl (by decide +kernel) (Nat.le_of_ble_eq_true rfl) (fun X hX hE => ?_)
  change J X 0 0 (wM t ad o m_m m_aside m_saved m_isSaved m_past m_changes m_errorAt m_failed m_thrown m_input m_inputMany m_fitting m_given m_pairs m_line m_lineMany m_letters m_begins0 m_commands m_commandMany m_place0 m_size0 m_isWrong) 0 [(0, .ref (ad o)), (1, .int a0)] []
  unfold f_X10_likeness at hf
  refine j_iconst hX 0 dX10_likeness_0 (by decide) ?_
  refine j_istore_n hX [(2, .int 0), (0, .ref (ad o)), (1, .int a0)] dX10_likeness_1 rfl (by decide) rfl ?_
  refine j_aload_n hX dX10_likeness_2 rfl 1 rfl ?_
  refine j_get hX dX10_likeness_3 inX10 17 q1472 0 rfl rfl (by decide) rfl rfl ?_
  refine j_iload_n hX dX10_likeness_6 rfl 2 rfl ?_
  refine j_iconst hX 1 dX10_likeness_7 (by decide) ?_
  refine j_iadd hX dX10_likeness_8 ?_
  refine j_iald hX dX10_likeness_9 11 0 rfl rfl hf (fun c9 hf => ?_)
  refine j_aload_n hX dX10_likeness_10 rfl 1 rfl ?_
  refine j_get hX dX10_likeness_11 inX10 17 q1472 0 rfl rfl (by decide) rfl rfl ?_
  refine j_iload_n hX dX10_likeness_14 rfl 2 rfl ?_
  refine j_iald hX dX10_likeness_15 11 0 rfl rfl hf (fun c15 hf => ?_)
  refine j_isub hX dX10_likeness_16 ?_
  refine j_istore_n hX [(3, .int ((m_begins0 (a0 + 1).toNatClampNeg) - (m_begins0 (a0).toNatClampNeg))), (2, .int 0), (0, .ref (ad o)), (1, .int a0)] dX10_likeness_17 rfl (by decide) rfl ?_
  obtain ⟨s2, h3, hf⟩ := jbind hf
  refine k_X10_likeness_L18 (ad := ad) m_input m_letters m_begins0 m_place0 m_size0 ((m_begins0 (a0 + 1).toNatClampNeg) - (m_begins0 (a0).toNatClampNeg)) a0 m_m m_aside m_saved m_isSaved m_past m_changes m_errorAt m_failed m_thrown m_inputMany m_fitting m_given m_pairs m_line m_lineMany m_commands m_commandMany m_isWrong hX jFU 0 s2 h3 (fun s20 es2 => ?_)
  subst es2
  refine j_iload_n hX dX10_likeness_69 rfl 1 rfl ?_
  cases hf
  exact j_iret hX hE dX10_likeness_70 (Nat.le_refl _) (Nat.le_refl _) ⟨rfl, rfl⟩
-- HammerDepotModel readAsk (I)V
def f_X10_readAsk (m_input : Nat → Int32) (m_commands : Nat → Int32) (m_place0 : Int32) (m_size0 : Int32) (m_isWrong : Int32) (a0 : Int32) : Option ((Nat → Int32) × Int32 × Int32) :=
  Option.bind (f_X10_digit m_input m_place0 m_size0 m_isWrong) (fun u1 =>
    if jin a0 366 = true then
      Option.bind (f_X10_numberBehind m_input u1.2.1 m_size0 u1.2.2 32) (fun u3 =>
        if jin (a0 + 1) 366 = true then
          Option.bind (f_X10_numberBehind m_input u3.2.1 m_size0 u3.2.2 126) (fun u5 =>
            if jin (a0 + 2) 366 = true then
              Option.bind (f_X10_numberBehind m_input u5.2.1 m_size0 u5.2.2 32) (fun u7 =>
                if jin (a0 + 3) 366 = true then
                  Option.bind (f_X10_numberBehind m_input u7.2.1 m_size0 u7.2.2 45) (fun u9 =>
                    if jin (a0 + 4) 366 = true then
                      some (upd (upd (upd (upd (upd m_commands (a0).toNatClampNeg u1.1) (a0 + 1).toNatClampNeg u3.1) (a0 + 2).toNatClampNeg u5.1) (a0 + 3).toNatClampNeg u7.1) (a0 + 4).toNatClampNeg u9.1, u9.2.1, u9.2.2)
                    else none)
                else none)
            else none)
        else none)
    else none)
set_option maxHeartbeats 4000000 in
set_option maxRecDepth 100000 in
theorem k_X10_readAsk {l : Launch} {D : va_G} {t : Nat → ClassId} {ad : Nat → Nat} {o : Nat} (m_m : Nat → Int32) (m_aside : Nat → Int32) (m_saved : Nat → Int32) (m_isSaved : Int32) (m_past : Nat → Int32) (m_changes : Int32) (m_errorAt : Int32) (m_failed : Int32) (m_thrown : Int32) (m_input : Nat → Int32) (m_inputMany : Int32) (m_fitting : Nat → Int32) (m_given : Nat → Int32) (m_pairs : Nat → Int32) (m_line : Nat → Int32) (m_lineMany : Int32) (m_letters : Nat → Int32) (m_begins0 : Nat → Int32) (m_commands : Nat → Int32) (m_commandMany : Int32) (m_place0 : Int32) (m_size0 : Int32) (m_isWrong : Int32) (a0 : Int32) (u : (Nat → Int32) × Int32 × Int32) (hf : f_X10_readAsk m_input m_commands m_place0 m_size0 m_isWrong a0 = some u) : cm l D (jT t) yX10_readAsk cX10_readAsk 2 none { frames := 4, cells := 0, slots := 0, locals := 89 } [.ref (ad o), .int a0] (wM t ad o m_m m_aside m_saved m_isSaved m_past m_changes m_errorAt m_failed m_thrown m_input m_inputMany m_fitting m_given m_pairs m_line m_lineMany m_letters m_begins0 m_commands m_commandMany m_place0 m_size0 m_isWrong) (fun v w => v = none ∧ w = wM t ad o m_m m_aside m_saved m_isSaved m_past m_changes m_errorAt m_failed m_thrown m_input m_inputMany m_fitting m_given m_pairs m_line m_lineMany m_letters m_begins0 u.1 m_commandMany u.2.1 m_size0 u.2.2) := by
  refine cm_of RX10 rfl (by decide +kernel) (Nat.le_of_ble_eq_true rfl) (fun X hX hE => ?_)
  change J X 0 0 (wM t ad o m_m m_aside m_saved m_isSaved m_past m_changes m_errorAt m_failed m_thrown m_input m_inputMany m_fitting m_given m_pairs m_line m_lineMany m_letters m_begins0 m_commands m_commandMany m_place0 m_size0 m_isWrong) 0 [(0, .ref (ad o)), (1, .int a0)] []
  unfold f_X10_readAsk at hf
  refine j_aload_n hX dX10_readAsk_0 rfl 0 rfl ?_
  refine j_get hX dX10_readAsk_1 inX10 18 q1473 0 rfl rfl (by decide) rfl rfl ?_
  refine j_iload_n hX dX10_readAsk_4 rfl 1 rfl ?_
  refine j_aload_n hX dX10_readAsk_5 rfl 0 rfl ?_
  obtain ⟨u1, h2, hf⟩ := jbind hf
  refine j_callV (st := [.int a0, .ref (ad (o + 12))]) hX (k_X10_digit (l := l) (D := D) (t := t) (ad := ad) (o := o) m_m m_aside m_saved m_isSaved m_past m_changes m_errorAt m_failed m_thrown m_input m_inputMany m_fitting m_given m_pairs m_line m_lineMany m_letters m_begins0 m_commands m_commandMany m_place0 m_size0 m_isWrong  u1 h2) q1849 q1850 q1994 q15 q1851 (n9 := 0) rfl ⟨by decide +kernel, by decide +kernel⟩ 0 rfl rfl rfl dX10_readAsk_6 (Nat.le_of_ble_eq_true rfl) ⟨Nat.le_refl _, Nat.le_refl _⟩ (fun w : va_W => w) jFr_id rfl rfl (fun v w hvw => ?_)
  obtain ⟨rfl, rfl⟩ := hvw
  change J X 0 0 (wM t ad o m_m m_aside m_saved m_isSaved m_past m_changes m_errorAt m_failed m_thrown m_input m_inputMany m_fitting m_given m_pairs m_line m_lineMany m_letters m_begins0 m_commands m_commandMany u1.2.1 m_size0 u1.2.2) 9 [(0, .ref (ad o)), (1, .int a0)] [.int u1.1, .int a0, .ref (ad (o + 12))]
  refine j_iast hX (wM t ad o m_m m_aside m_saved m_isSaved m_past m_changes m_errorAt m_failed m_thrown m_input m_inputMany m_fitting m_given m_pairs m_line m_lineMany m_letters m_begins0 (upd m_commands (a0).toNatClampNeg u1.1) m_commandMany u1.2.1 m_size0 u1.2.2) dX10_readAsk_9 12 0 rfl rfl rfl hf (fun c9 hf => ?_)
  refine j_aload_n hX dX10_readAsk_10 rfl 0 rfl ?_
  refine j_get hX dX10_readAsk_11 inX10 18 q1473 0 rfl rfl (by decide) rfl rfl ?_
  refine j_iload_n hX dX10_readAsk_14 rfl 1 rfl ?_
  refine j_iconst hX 1 dX10_readAsk_15 (by decide) ?_
  refine j_iadd hX dX10_readAsk_16 ?_
  refine j_aload_n hX dX10_readAsk_17 rfl 0 rfl ?_
  refine j_bipush hX 32 dX10_readAsk_18 (by decide) ?_
  obtain ⟨u3, h4, hf⟩ := jbind hf
  refine j_callV (st := [.int (a0 + 1), .ref (ad (o + 12))]) hX (k_X10_numberBehind (l := l) (D := D) (t := t) (ad := ad) (o := o) m_m m_aside m_saved m_isSaved m_past m_changes m_errorAt m_failed m_thrown m_input m_inputMany m_fitting m_given m_pairs m_line m_lineMany m_letters m_begins0 (upd m_commands (a0).toNatClampNeg u1.1) m_commandMany u1.2.1 m_size0 u1.2.2 32 u3 h4) q1866 q1867 q1999 q15 q1868 (n9 := 1) rfl ⟨by decide +kernel, by decide +kernel⟩ 0 rfl rfl rfl dX10_readAsk_20 (Nat.le_of_ble_eq_true rfl) ⟨Nat.le_refl _, Nat.le_refl _⟩ (fun w : va_W => w) jFr_id rfl rfl (fun v w hvw => ?_)
  obtain ⟨rfl, rfl⟩ := hvw
  change J X 0 0 (wM t ad o m_m m_aside m_saved m_isSaved m_past m_changes m_errorAt m_failed m_thrown m_input m_inputMany m_fitting m_given m_pairs m_line m_lineMany m_letters m_begins0 (upd m_commands (a0).toNatClampNeg u1.1) m_commandMany u3.2.1 m_size0 u3.2.2) 23 [(0, .ref (ad o)), (1, .int a0)] [.int u3.1, .int (a0 + 1), .ref (ad (o + 12))]
  refine j_iast hX (wM t ad o m_m m_aside m_saved m_isSaved m_past m_changes m_errorAt m_failed m_thrown m_input m_inputMany m_fitting m_given m_pairs m_line m_lineMany m_letters m_begins0 (upd (upd m_commands (a0).toNatClampNeg u1.1) (a0 + 1).toNatClampNeg u3.1) m_commandMany u3.2.1 m_size0 u3.2.2) dX10_readAsk_23 12 0 rfl rfl rfl hf (fun c23 hf => ?_)
  refine j_aload_n hX dX10_readAsk_24 rfl 0 rfl ?_
  refine j_get hX dX10_readAsk_25 inX10 18 q1473 0 rfl rfl (by decide) rfl rfl ?_
  refine j_iload_n hX dX10_readAsk_28 rfl 1 rfl ?_
  refine j_iconst hX 2 dX10_readAsk_29 (by decide) ?_
  refine j_iadd hX dX10_readAsk_30 ?_
  refine j_aload_n hX dX10_readAsk_31 rfl 0 rfl ?_
  refine j_bipush hX 126 dX10_readAsk_32 (by decide) ?_
  obtain ⟨u5, h6, hf⟩ := jbind hf
  refine j_callV (st := [.int (a0 + 2), .ref (ad (o + 12))]) hX (k_X10_numberBehind (l := l) (D := D) (t := t) (ad := ad) (o := o) m_m m_aside m_saved m_isSaved m_past m_changes m_errorAt m_failed m_thrown m_input m_inputMany m_fitting m_given m_pairs m_line m_lineMany m_letters m_begins0 (upd (upd m_commands (a0).toNatClampNeg u1.1) (a0 + 1).toNatClampNeg u3.1) m_commandMany u3.2.1 m_size0 u3.2.2 126 u5 h6) q1866 q1867 q1999 q15 q1868 (n9 := 1) rfl ⟨by decide +kernel, by decide +kernel⟩ 0 rfl rfl rfl dX10_readAsk_34 (Nat.le_of_ble_eq_true rfl) ⟨Nat.le_refl _, Nat.le_refl _⟩ (fun w : va_W => w) jFr_id rfl rfl (fun v w hvw => ?_)
  obtain ⟨rfl, rfl⟩ := hvw
  change J X 0 0 (wM t ad o m_m m_aside m_saved m_isSaved m_past m_changes m_errorAt m_failed m_thrown m_input m_inputMany m_fitting m_given m_pairs m_line m_lineMany m_letters m_begins0 (upd (upd m_commands (a0).toNatClampNeg u1.1) (a0 + 1).toNatClampNeg u3.1) m_commandMany u5.2.1 m_size0 u5.2.2) 37 [(0, .ref (ad o)), (1, .int a0)] [.int u5.1, .int (a0 + 2), .ref (ad (o + 12))]
  refine j_iast hX (wM t ad o m_m m_aside m_saved m_isSaved m_past m_changes m_errorAt m_failed m_thrown m_input m_inputMany m_fitting m_given m_pairs m_line m_lineMany m_letters m_begins0 (upd (upd (upd m_commands (a0).toNatClampNeg u1.1) (a0 + 1).toNatClampNeg u3.1) (a0 + 2).toNatClampNeg u5.1) m_commandMany u5.2.1 m_size0 u5.2.2) dX10_readAsk_37 12 0 rfl rfl rfl hf (fun c37 hf => ?_)
  refine j_aload_n hX dX10_readAsk_38 rfl 0 rfl ?_
  refine j_get hX dX10_readAsk_39 inX10 18 q1473 0 rfl rfl (by decide) rfl rfl ?_
  refine j_iload_n hX dX10_readAsk_42 rfl 1 rfl ?_
  refine j_iconst hX 3 dX10_readAsk_43 (by decide) ?_
  refine j_iadd hX dX10_readAsk_44 ?_
  refine j_aload_n hX dX10_readAsk_45 rfl 0 rfl ?_
  refine j_bipush hX 32 dX10_readAsk_46 (by decide) ?_
  obtain ⟨u7, h8, hf⟩ := jbind hf
  refine j_callV (st := [.int (a0 + 3), .ref (ad (o + 12))]) hX (k_X10_numberBehind (l := l) (D := D) (t := t) (ad := ad) (o := o) m_m m_aside m_saved m_isSaved m_past m_changes m_errorAt m_failed m_thrown m_input m_inputMany m_fitting m_given m_pairs m_line m_lineMany m_letters m_begins0 (upd (upd (upd m_commands (a0).toNatClampNeg u1.1) (a0 + 1).toNatClampNeg u3.1) (a0 + 2).toNatClampNeg u5.1) m_commandMany u5.2.1 m_size0 u5.2.2 32 u7 h8) q1866 q1867 q1999 q15 q1868 (n9 := 1) rfl ⟨by decide +kernel, by decide +kernel⟩ 0 rfl rfl rfl dX10_readAsk_48 (Nat.le_of_ble_eq_true rfl) ⟨Nat.le_refl _, Nat.le_refl _⟩ (fun w : va_W => w) jFr_id rfl rfl (fun v w hvw => ?_)
  obtain ⟨rfl, rfl⟩ := hvw
  change J X 0 0 (wM t ad o m_m m_aside m_saved m_isSaved m_past m_changes m_errorAt m_failed m_thrown m_input m_inputMany m_fitting m_given m_pairs m_line m_lineMany m_letters m_begins0 (upd (upd (upd m_commands (a0).toNatClampNeg u1.1) (a0 + 1).toNatClampNeg u3.1) (a0 + 2).toNatClampNeg u5.1) m_commandMany u7.2.1 m_size0 u7.2.2) 51 [(0, .ref (ad o)), (1, .int a0)] [.int u7.1, .int (a0 + 3), .ref (ad (o + 12))]
  refine j_iast hX (wM t ad o m_m m_aside m_saved m_isSaved m_past m_changes m_errorAt m_failed m_thrown m_input m_inputMany m_fitting m_given m_pairs m_line m_lineMany m_letters m_begins0 (upd (upd (upd (upd m_commands (a0).toNatClampNeg u1.1) (a0 + 1).toNatClampNeg u3.1) (a0 + 2).toNatClampNeg u5.1) (a0 + 3).toNatClampNeg u7.1) m_commandMany u7.2.1 m_size0 u7.2.2) dX10_readAsk_51 12 0 rfl rfl rfl hf (fun c51 hf => ?_)
  refine j_aload_n hX dX10_readAsk_52 rfl 0 rfl ?_
  refine j_get hX dX10_readAsk_53 inX10 18 q1473 0 rfl rfl (by decide) rfl rfl ?_
  refine j_iload_n hX dX10_readAsk_56 rfl 1 rfl ?_
  refine j_iconst hX 4 dX10_readAsk_57 (by decide) ?_
  refine j_iadd hX dX10_readAsk_58 ?_
  refine j_aload_n hX dX10_readAsk_59 rfl 0 rfl ?_
  refine j_bipush hX 45 dX10_readAsk_60 (by decide) ?_
  obtain ⟨u9, h10, hf⟩ := jbind hf
  refine j_callV (st := [.int (a0 + 4), .ref (ad (o + 12))]) hX (k_X10_numberBehind (l := l) (D := D) (t := t) (ad := ad) (o := o) m_m m_aside m_saved m_isSaved m_past m_changes m_errorAt m_failed m_thrown m_input m_inputMany m_fitting m_given m_pairs m_line m_lineMany m_letters m_begins0 (upd (upd (upd (upd m_commands (a0).toNatClampNeg u1.1) (a0 + 1).toNatClampNeg u3.1) (a0 + 2).toNatClampNeg u5.1) (a0 + 3).toNatClampNeg u7.1) m_commandMany u7.2.1 m_size0 u7.2.2 45 u9 h10) q1866 q1867 q1999 q15 q1868 (n9 := 1) rfl ⟨by decide +kernel, by decide +kernel⟩ 0 rfl rfl rfl dX10_readAsk_62 (Nat.le_of_ble_eq_true rfl) ⟨Nat.le_refl _, Nat.le_refl _⟩ (fun w : va_W => w) jFr_id rfl rfl (fun v w hvw => ?_)
  obtain ⟨rfl, rfl⟩ := hvw
  change J X 0 0 (wM t ad o m_m m_aside m_saved m_isSaved m_past m_changes m_errorAt m_failed m_thrown m_input m_inputMany m_fitting m_given m_pairs m_line m_lineMany m_letters m_begins0 (upd (upd (upd (upd m_commands (a0).toNatClampNeg u1.1) (a0 + 1).toNatClampNeg u3.1) (a0 + 2).toNatClampNeg u5.1) (a0 + 3).toNatClampNeg u7.1) m_commandMany u9.2.1 m_size0 u9.2.2) 65 [(0, .ref (ad o)), (1, .int a0)] [.int u9.1, .int (a0 + 4), .ref (ad (o + 12))]
  refine j_iast hX (wM t ad o m_m m_aside m_saved m_isSaved m_past m_changes m_errorAt m_failed m_thrown m_input m_inputMany m_fitting m_given m_pairs m_line m_lineMany m_letters m_begins0 (upd (upd (upd (upd (upd m_commands (a0).toNatClampNeg u1.1) (a0 + 1).toNatClampNeg u3.1) (a0 + 2).toNatClampNeg u5.1) (a0 + 3).toNatClampNeg u7.1) (a0 + 4).toNatClampNeg u9.1) m_commandMany u9.2.1 m_size0 u9.2.2) dX10_readAsk_65 12 0 rfl rfl rfl hf (fun c65 hf => ?_)
  cases hf
  exact j_vret hX hE dX10_readAsk_66 (Nat.le_refl _) (Nat.le_refl _) ⟨rfl, rfl⟩

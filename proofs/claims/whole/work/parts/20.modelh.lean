-- HammerDepotModel readArguments (II)V
def f_X10_readArguments (m_input : Nat → Int32) (m_commands : Nat → Int32) (m_place0 : Int32) (m_size0 : Int32) (m_isWrong : Int32) (a0 : Int32) (a1 : Int32) : Option ((Nat → Int32) × Int32 × Int32) :=
  if a0 = 0 then
    Option.bind (f_X10_number m_input m_place0 m_size0 m_isWrong) (fun u1 =>
      if jin a1 366 = true then
        Option.bind (f_X10_digitBehind m_input u1.2.1 m_size0 u1.2.2 32) (fun u3 =>
          if jin (a1 + 1) 366 = true then
            some (upd (upd m_commands (a1).toNatClampNeg u1.1) (a1 + 1).toNatClampNeg u3.1, u3.2.1, u3.2.2)
          else none)
      else none)
  else
    if a0 = 1 then
      Option.bind (f_X10_number m_input m_place0 m_size0 m_isWrong) (fun u5 =>
        if jin a1 366 = true then
          Option.bind (f_X10_digitBehind m_input u5.2.1 m_size0 u5.2.2 32) (fun u7 =>
            if jin (a1 + 1) 366 = true then
              some (upd (upd m_commands (a1).toNatClampNeg u5.1) (a1 + 1).toNatClampNeg u7.1, u7.2.1, u7.2.2)
            else none)
        else none)
    else
      if a0 = 2 then
        Option.bind (f_X10_digit m_input m_place0 m_size0 m_isWrong) (fun u9 =>
          if jin a1 366 = true then
            Option.bind (f_X10_digit m_input u9.2.1 m_size0 u9.2.2) (fun u11 =>
              if jin (a1 + 1) 366 = true then
                Option.bind (f_X10_digit m_input u11.2.1 m_size0 u11.2.2) (fun u13 =>
                  if jin (a1 + 2) 366 = true then
                    some (upd (upd (upd m_commands (a1).toNatClampNeg u9.1) (a1 + 1).toNatClampNeg u11.1) (a1 + 2).toNatClampNeg u13.1, u13.2.1, u13.2.2)
                  else none)
              else none)
          else none)
      else
        if a0 = 3 then
          Option.bind (f_X10_readAsk m_input m_commands m_place0 m_size0 m_isWrong a1) (fun u15 =>
            some (u15.1, u15.2.1, u15.2.2))
        else
          if a0 = 4 then
            Option.bind (f_X10_number m_input m_place0 m_size0 m_isWrong) (fun u17 =>
              if jin a1 366 = true then
                some (upd m_commands (a1).toNatClampNeg u17.1, u17.2.1, u17.2.2)
              else none)
          else
            if a0 = 5 then
              Option.bind (f_X10_number m_input m_place0 m_size0 m_isWrong) (fun u19 =>
                if jin a1 366 = true then
                  some (upd m_commands (a1).toNatClampNeg u19.1, u19.2.1, u19.2.2)
                else none)
            else
              if a0 = 6 then
                some (m_commands, m_place0, m_isWrong)
              else
                if a0 = 7 then
                  Option.bind (f_X10_number m_input m_place0 m_size0 m_isWrong) (fun u21 =>
                    if jin a1 366 = true then
                      Option.bind (f_X10_numberBehind m_input u21.2.1 m_size0 u21.2.2 32) (fun u23 =>
                        if jin (a1 + 1) 366 = true then
                          Option.bind (f_X10_digitBehind m_input u23.2.1 m_size0 u23.2.2 32) (fun u25 =>
                            if jin (a1 + 2) 366 = true then
                              some (upd (upd (upd m_commands (a1).toNatClampNeg u21.1) (a1 + 1).toNatClampNeg u23.1) (a1 + 2).toNatClampNeg u25.1, u25.2.1, u25.2.2)
                            else none)
                        else none)
                    else none)
                else
                  if a0 = 8 then
                    Option.bind (f_X10_number m_input m_place0 m_size0 m_isWrong) (fun u27 =>
                      if jin a1 366 = true then
                        some (upd m_commands (a1).toNatClampNeg u27.1, u27.2.1, u27.2.2)
                      else none)
                  else
                    if a0 = 9 then
                      Option.bind (f_X10_here m_input m_place0 m_size0) (fun u29 =>
                        if u29 = 32 then
                          Option.bind (f_X10_numberBehind m_input m_place0 m_size0 m_isWrong 32) (fun u31 =>
                            if jin a1 366 = true then
                              some (upd m_commands (a1).toNatClampNeg u31.1, u31.2.1, u31.2.2)
                            else none)
                        else
                          if jin a1 366 = true then
                            some (upd m_commands (a1).toNatClampNeg 1, m_place0, m_isWrong)
                          else none)
                    else
                      some (m_commands, m_place0, m_isWrong)
set_option maxHeartbeats 4000000 in
set_option maxRecDepth 100000 in
theorem k_X10_readArguments {l : Launch} {D : va_G} {t : Nat → ClassId} {ad : Nat → Nat} {o : Nat} (m_m : Nat → Int32) (m_aside : Nat → Int32) (m_saved : Nat → Int32) (m_isSaved : Int32) (m_past : Nat → Int32) (m_changes : Int32) (m_errorAt : Int32) (m_failed : Int32) (m_thrown : Int32) (m_input : Nat → Int32) (m_inputMany : Int32) (m_fitting : Nat → Int32) (m_given : Nat → Int32) (m_pairs : Nat → Int32) (m_line : Nat → Int32) (m_lineMany : Int32) (m_letters : Nat → Int32) (m_begins0 : Nat → Int32) (m_commands : Nat → Int32) (m_commandMany : Int32) (m_place0 : Int32) (m_size0 : Int32) (m_isWrong : Int32) (a0 : Int32) (a1 : Int32) (u : (Nat → Int32) × Int32 × Int32) (hf : f_X10_readArguments m_input m_commands m_place0 m_size0 m_isWrong a0 a1 = some u) : cm l D (jT t) yX10_readArguments cX10_readArguments 3 none { frames := 5, cells := 0, slots := 0, locals := 110 } [.ref (ad o), .int a0, .int a1] (wM t ad o m_m m_aside m_saved m_isSaved m_past m_changes m_errorAt m_failed m_thrown m_input m_inputMany m_fitting m_given m_pairs m_line m_lineMany m_letters m_begins0 m_commands m_commandMany m_place0 m_size0 m_isWrong) (fun v w => v = none ∧ w = wM t ad o m_m m_aside m_saved m_isSaved m_past m_changes m_errorAt m_failed m_thrown m_input m_inputMany m_fitting m_given m_pairs m_line m_lineMany m_letters m_begins0 u.1 m_commandMany u.2.1 m_size0 u.2.2) := by
  refine cm_of RX10 rfl (by decide +kernel) (Nat.le_of_ble_eq_true rfl) (fun X hX hE => ?_)
  change J X 0 0 (wM t ad o m_m m_aside m_saved m_isSaved m_past m_changes m_errorAt m_failed m_thrown m_input m_inputMany m_fitting m_given m_pairs m_line m_lineMany m_letters m_begins0 m_commands m_commandMany m_place0 m_size0 m_isWrong) 0 [(0, .ref (ad o)), (1, .int a0), (2, .int a1)] []
  unfold f_X10_readArguments at hf
  refine j_iload_n hX dX10_readArguments_0 rfl 1 rfl ?_
  by_cases n1_0 : a0 = 0
  · rw [if_pos n1_0] at hf
    refine j_tab_c hX 210 dX10_readArguments_1 [(0, 56), (1, 56), (2, 83), (3, 120), (4, 128), (5, 128), (6, 210), (7, 141), (8, 128), (9, 182)] (by decide) 0 n1_0 rfl ?_
    refine j_aload_n hX dX10_readArguments_56 rfl 0 rfl ?_
    refine j_get hX dX10_readArguments_57 inX10 18 q1473 0 rfl rfl (by decide) rfl rfl ?_
    refine j_iload_n hX dX10_readArguments_60 rfl 2 rfl ?_
    refine j_aload_n hX dX10_readArguments_61 rfl 0 rfl ?_
    obtain ⟨u1, h2, hf⟩ := jbind hf
    refine j_callV (st := [.int a1, .ref (ad (o + 12))]) hX (k_X10_number (l := l) (D := D) (t := t) (ad := ad) (o := o) m_m m_aside m_saved m_isSaved m_past m_changes m_errorAt m_failed m_thrown m_input m_inputMany m_fitting m_given m_pairs m_line m_lineMany m_letters m_begins0 m_commands m_commandMany m_place0 m_size0 m_isWrong  u1 h2) q1846 q1847 q1993 q15 q1848 (n9 := 0) rfl ⟨by decide +kernel, by decide +kernel⟩ 0 rfl rfl rfl dX10_readArguments_62 (Nat.le_of_ble_eq_true rfl) ⟨Nat.le_refl _, Nat.le_refl _⟩ (fun w : va_W => w) jFr_id rfl rfl (fun v w hvw => ?_)
    obtain ⟨rfl, rfl⟩ := hvw
    change J X 0 0 (wM t ad o m_m m_aside m_saved m_isSaved m_past m_changes m_errorAt m_failed m_thrown m_input m_inputMany m_fitting m_given m_pairs m_line m_lineMany m_letters m_begins0 m_commands m_commandMany u1.2.1 m_size0 u1.2.2) 65 [(0, .ref (ad o)), (1, .int a0), (2, .int a1)] [.int u1.1, .int a1, .ref (ad (o + 12))]
    refine j_iast hX (wM t ad o m_m m_aside m_saved m_isSaved m_past m_changes m_errorAt m_failed m_thrown m_input m_inputMany m_fitting m_given m_pairs m_line m_lineMany m_letters m_begins0 (upd m_commands (a1).toNatClampNeg u1.1) m_commandMany u1.2.1 m_size0 u1.2.2) dX10_readArguments_65 12 0 rfl rfl rfl hf (fun c65 hf => ?_)
    refine j_aload_n hX dX10_readArguments_66 rfl 0 rfl ?_
    refine j_get hX dX10_readArguments_67 inX10 18 q1473 0 rfl rfl (by decide) rfl rfl ?_
    refine j_iload_n hX dX10_readArguments_70 rfl 2 rfl ?_
    refine j_iconst hX 1 dX10_readArguments_71 (by decide) ?_
    refine j_iadd hX dX10_readArguments_72 ?_
    refine j_aload_n hX dX10_readArguments_73 rfl 0 rfl ?_
    refine j_bipush hX 32 dX10_readArguments_74 (by decide) ?_
    obtain ⟨u3, h4, hf⟩ := jbind hf
    refine j_callV (st := [.int (a1 + 1), .ref (ad (o + 12))]) hX (k_X10_digitBehind (l := l) (D := D) (t := t) (ad := ad) (o := o) m_m m_aside m_saved m_isSaved m_past m_changes m_errorAt m_failed m_thrown m_input m_inputMany m_fitting m_given m_pairs m_line m_lineMany m_letters m_begins0 (upd m_commands (a1).toNatClampNeg u1.1) m_commandMany u1.2.1 m_size0 u1.2.2 32 u3 h4) q1857 q1858 q1996 q15 q1859 (n9 := 1) rfl ⟨by decide +kernel, by decide +kernel⟩ 0 rfl rfl rfl dX10_readArguments_76 (Nat.le_of_ble_eq_true rfl) ⟨Nat.le_refl _, Nat.le_refl _⟩ (fun w : va_W => w) jFr_id rfl rfl (fun v w hvw => ?_)
    obtain ⟨rfl, rfl⟩ := hvw
    change J X 0 0 (wM t ad o m_m m_aside m_saved m_isSaved m_past m_changes m_errorAt m_failed m_thrown m_input m_inputMany m_fitting m_given m_pairs m_line m_lineMany m_letters m_begins0 (upd m_commands (a1).toNatClampNeg u1.1) m_commandMany u3.2.1 m_size0 u3.2.2) 79 [(0, .ref (ad o)), (1, .int a0), (2, .int a1)] [.int u3.1, .int (a1 + 1), .ref (ad (o + 12))]
    refine j_iast hX (wM t ad o m_m m_aside m_saved m_isSaved m_past m_changes m_errorAt m_failed m_thrown m_input m_inputMany m_fitting m_given m_pairs m_line m_lineMany m_letters m_begins0 (upd (upd m_commands (a1).toNatClampNeg u1.1) (a1 + 1).toNatClampNeg u3.1) m_commandMany u3.2.1 m_size0 u3.2.2) dX10_readArguments_79 12 0 rfl rfl rfl hf (fun c79 hf => ?_)
    refine j_goto hX 210 dX10_readArguments_80 (by decide) ?_
    cases hf
    exact j_vret hX hE dX10_readArguments_210 (Nat.le_refl _) (Nat.le_refl _) ⟨rfl, rfl⟩
  rw [if_neg n1_0] at hf
  by_cases n1_1 : a0 = 1
  · rw [if_pos n1_1] at hf
    refine j_tab_c hX 210 dX10_readArguments_1 [(0, 56), (1, 56), (2, 83), (3, 120), (4, 128), (5, 128), (6, 210), (7, 141), (8, 128), (9, 182)] (by decide) 1 n1_1 rfl ?_
    refine j_aload_n hX dX10_readArguments_56 rfl 0 rfl ?_
    refine j_get hX dX10_readArguments_57 inX10 18 q1473 0 rfl rfl (by decide) rfl rfl ?_
    refine j_iload_n hX dX10_readArguments_60 rfl 2 rfl ?_
    refine j_aload_n hX dX10_readArguments_61 rfl 0 rfl ?_
    obtain ⟨u5, h6, hf⟩ := jbind hf
    refine j_callV (st := [.int a1, .ref (ad (o + 12))]) hX (k_X10_number (l := l) (D := D) (t := t) (ad := ad) (o := o) m_m m_aside m_saved m_isSaved m_past m_changes m_errorAt m_failed m_thrown m_input m_inputMany m_fitting m_given m_pairs m_line m_lineMany m_letters m_begins0 m_commands m_commandMany m_place0 m_size0 m_isWrong  u5 h6) q1846 q1847 q1993 q15 q1848 (n9 := 0) rfl ⟨by decide +kernel, by decide +kernel⟩ 0 rfl rfl rfl dX10_readArguments_62 (Nat.le_of_ble_eq_true rfl) ⟨Nat.le_refl _, Nat.le_refl _⟩ (fun w : va_W => w) jFr_id rfl rfl (fun v w hvw => ?_)
    obtain ⟨rfl, rfl⟩ := hvw
    change J X 0 0 (wM t ad o m_m m_aside m_saved m_isSaved m_past m_changes m_errorAt m_failed m_thrown m_input m_inputMany m_fitting m_given m_pairs m_line m_lineMany m_letters m_begins0 m_commands m_commandMany u5.2.1 m_size0 u5.2.2) 65 [(0, .ref (ad o)), (1, .int a0), (2, .int a1)] [.int u5.1, .int a1, .ref (ad (o + 12))]
    refine j_iast hX (wM t ad o m_m m_aside m_saved m_isSaved m_past m_changes m_errorAt m_failed m_thrown m_input m_inputMany m_fitting m_given m_pairs m_line m_lineMany m_letters m_begins0 (upd m_commands (a1).toNatClampNeg u5.1) m_commandMany u5.2.1 m_size0 u5.2.2) dX10_readArguments_65 12 0 rfl rfl rfl hf (fun c65 hf => ?_)
    refine j_aload_n hX dX10_readArguments_66 rfl 0 rfl ?_
    refine j_get hX dX10_readArguments_67 inX10 18 q1473 0 rfl rfl (by decide) rfl rfl ?_
    refine j_iload_n hX dX10_readArguments_70 rfl 2 rfl ?_
    refine j_iconst hX 1 dX10_readArguments_71 (by decide) ?_
    refine j_iadd hX dX10_readArguments_72 ?_
    refine j_aload_n hX dX10_readArguments_73 rfl 0 rfl ?_
    refine j_bipush hX 32 dX10_readArguments_74 (by decide) ?_
    obtain ⟨u7, h8, hf⟩ := jbind hf
    refine j_callV (st := [.int (a1 + 1), .ref (ad (o + 12))]) hX (k_X10_digitBehind (l := l) (D := D) (t := t) (ad := ad) (o := o) m_m m_aside m_saved m_isSaved m_past m_changes m_errorAt m_failed m_thrown m_input m_inputMany m_fitting m_given m_pairs m_line m_lineMany m_letters m_begins0 (upd m_commands (a1).toNatClampNeg u5.1) m_commandMany u5.2.1 m_size0 u5.2.2 32 u7 h8) q1857 q1858 q1996 q15 q1859 (n9 := 1) rfl ⟨by decide +kernel, by decide +kernel⟩ 0 rfl rfl rfl dX10_readArguments_76 (Nat.le_of_ble_eq_true rfl) ⟨Nat.le_refl _, Nat.le_refl _⟩ (fun w : va_W => w) jFr_id rfl rfl (fun v w hvw => ?_)
    obtain ⟨rfl, rfl⟩ := hvw
    change J X 0 0 (wM t ad o m_m m_aside m_saved m_isSaved m_past m_changes m_errorAt m_failed m_thrown m_input m_inputMany m_fitting m_given m_pairs m_line m_lineMany m_letters m_begins0 (upd m_commands (a1).toNatClampNeg u5.1) m_commandMany u7.2.1 m_size0 u7.2.2) 79 [(0, .ref (ad o)), (1, .int a0), (2, .int a1)] [.int u7.1, .int (a1 + 1), .ref (ad (o + 12))]
    refine j_iast hX (wM t ad o m_m m_aside m_saved m_isSaved m_past m_changes m_errorAt m_failed m_thrown m_input m_inputMany m_fitting m_given m_pairs m_line m_lineMany m_letters m_begins0 (upd (upd m_commands (a1).toNatClampNeg u5.1) (a1 + 1).toNatClampNeg u7.1) m_commandMany u7.2.1 m_size0 u7.2.2) dX10_readArguments_79 12 0 rfl rfl rfl hf (fun c79 hf => ?_)
    refine j_goto hX 210 dX10_readArguments_80 (by decide) ?_
    cases hf
    exact j_vret hX hE dX10_readArguments_210 (Nat.le_refl _) (Nat.le_refl _) ⟨rfl, rfl⟩
  rw [if_neg n1_1] at hf
  by_cases n1_2 : a0 = 2
  · rw [if_pos n1_2] at hf
    refine j_tab_c hX 210 dX10_readArguments_1 [(0, 56), (1, 56), (2, 83), (3, 120), (4, 128), (5, 128), (6, 210), (7, 141), (8, 128), (9, 182)] (by decide) 2 n1_2 rfl ?_
    refine j_aload_n hX dX10_readArguments_83 rfl 0 rfl ?_
    refine j_get hX dX10_readArguments_84 inX10 18 q1473 0 rfl rfl (by decide) rfl rfl ?_
    refine j_iload_n hX dX10_readArguments_87 rfl 2 rfl ?_
    refine j_aload_n hX dX10_readArguments_88 rfl 0 rfl ?_
    obtain ⟨u9, h10, hf⟩ := jbind hf
    refine j_callV (st := [.int a1, .ref (ad (o + 12))]) hX (k_X10_digit (l := l) (D := D) (t := t) (ad := ad) (o := o) m_m m_aside m_saved m_isSaved m_past m_changes m_errorAt m_failed m_thrown m_input m_inputMany m_fitting m_given m_pairs m_line m_lineMany m_letters m_begins0 m_commands m_commandMany m_place0 m_size0 m_isWrong  u9 h10) q1849 q1850 q1994 q15 q1851 (n9 := 0) rfl ⟨by decide +kernel, by decide +kernel⟩ 0 rfl rfl rfl dX10_readArguments_89 (Nat.le_of_ble_eq_true rfl) ⟨Nat.le_refl _, Nat.le_refl _⟩ (fun w : va_W => w) jFr_id rfl rfl (fun v w hvw => ?_)
    obtain ⟨rfl, rfl⟩ := hvw
    change J X 0 0 (wM t ad o m_m m_aside m_saved m_isSaved m_past m_changes m_errorAt m_failed m_thrown m_input m_inputMany m_fitting m_given m_pairs m_line m_lineMany m_letters m_begins0 m_commands m_commandMany u9.2.1 m_size0 u9.2.2) 92 [(0, .ref (ad o)), (1, .int a0), (2, .int a1)] [.int u9.1, .int a1, .ref (ad (o + 12))]
    refine j_iast hX (wM t ad o m_m m_aside m_saved m_isSaved m_past m_changes m_errorAt m_failed m_thrown m_input m_inputMany m_fitting m_given m_pairs m_line m_lineMany m_letters m_begins0 (upd m_commands (a1).toNatClampNeg u9.1) m_commandMany u9.2.1 m_size0 u9.2.2) dX10_readArguments_92 12 0 rfl rfl rfl hf (fun c92 hf => ?_)
    refine j_aload_n hX dX10_readArguments_93 rfl 0 rfl ?_
    refine j_get hX dX10_readArguments_94 inX10 18 q1473 0 rfl rfl (by decide) rfl rfl ?_
    refine j_iload_n hX dX10_readArguments_97 rfl 2 rfl ?_
    refine j_iconst hX 1 dX10_readArguments_98 (by decide) ?_
    refine j_iadd hX dX10_readArguments_99 ?_
    refine j_aload_n hX dX10_readArguments_100 rfl 0 rfl ?_
    obtain ⟨u11, h12, hf⟩ := jbind hf
    refine j_callV (st := [.int (a1 + 1), .ref (ad (o + 12))]) hX (k_X10_digit (l := l) (D := D) (t := t) (ad := ad) (o := o) m_m m_aside m_saved m_isSaved m_past m_changes m_errorAt m_failed m_thrown m_input m_inputMany m_fitting m_given m_pairs m_line m_lineMany m_letters m_begins0 (upd m_commands (a1).toNatClampNeg u9.1) m_commandMany u9.2.1 m_size0 u9.2.2  u11 h12) q1849 q1850 q1994 q15 q1851 (n9 := 0) rfl ⟨by decide +kernel, by decide +kernel⟩ 0 rfl rfl rfl dX10_readArguments_101 (Nat.le_of_ble_eq_true rfl) ⟨Nat.le_refl _, Nat.le_refl _⟩ (fun w : va_W => w) jFr_id rfl rfl (fun v w hvw => ?_)
    obtain ⟨rfl, rfl⟩ := hvw
    change J X 0 0 (wM t ad o m_m m_aside m_saved m_isSaved m_past m_changes m_errorAt m_failed m_thrown m_input m_inputMany m_fitting m_given m_pairs m_line m_lineMany m_letters m_begins0 (upd m_commands (a1).toNatClampNeg u9.1) m_commandMany u11.2.1 m_size0 u11.2.2) 104 [(0, .ref (ad o)), (1, .int a0), (2, .int a1)] [.int u11.1, .int (a1 + 1), .ref (ad (o + 12))]
    refine j_iast hX (wM t ad o m_m m_aside m_saved m_isSaved m_past m_changes m_errorAt m_failed m_thrown m_input m_inputMany m_fitting m_given m_pairs m_line m_lineMany m_letters m_begins0 (upd (upd m_commands (a1).toNatClampNeg u9.1) (a1 + 1).toNatClampNeg u11.1) m_commandMany u11.2.1 m_size0 u11.2.2) dX10_readArguments_104 12 0 rfl rfl rfl hf (fun c104 hf => ?_)
    refine j_aload_n hX dX10_readArguments_105 rfl 0 rfl ?_
    refine j_get hX dX10_readArguments_106 inX10 18 q1473 0 rfl rfl (by decide) rfl rfl ?_
    refine j_iload_n hX dX10_readArguments_109 rfl 2 rfl ?_
    refine j_iconst hX 2 dX10_readArguments_110 (by decide) ?_
    refine j_iadd hX dX10_readArguments_111 ?_
    refine j_aload_n hX dX10_readArguments_112 rfl 0 rfl ?_
    obtain ⟨u13, h14, hf⟩ := jbind hf
    refine j_callV (st := [.int (a1 + 2), .ref (ad (o + 12))]) hX (k_X10_digit (l := l) (D := D) (t := t) (ad := ad) (o := o) m_m m_aside m_saved m_isSaved m_past m_changes m_errorAt m_failed m_thrown m_input m_inputMany m_fitting m_given m_pairs m_line m_lineMany m_letters m_begins0 (upd (upd m_commands (a1).toNatClampNeg u9.1) (a1 + 1).toNatClampNeg u11.1) m_commandMany u11.2.1 m_size0 u11.2.2  u13 h14) q1849 q1850 q1994 q15 q1851 (n9 := 0) rfl ⟨by decide +kernel, by decide +kernel⟩ 0 rfl rfl rfl dX10_readArguments_113 (Nat.le_of_ble_eq_true rfl) ⟨Nat.le_refl _, Nat.le_refl _⟩ (fun w : va_W => w) jFr_id rfl rfl (fun v w hvw => ?_)
    obtain ⟨rfl, rfl⟩ := hvw
    change J X 0 0 (wM t ad o m_m m_aside m_saved m_isSaved m_past m_changes m_errorAt m_failed m_thrown m_input m_inputMany m_fitting m_given m_pairs m_line m_lineMany m_letters m_begins0 (upd (upd m_commands (a1).toNatClampNeg u9.1) (a1 + 1).toNatClampNeg u11.1) m_commandMany u13.2.1 m_size0 u13.2.2) 116 [(0, .ref (ad o)), (1, .int a0), (2, .int a1)] [.int u13.1, .int (a1 + 2), .ref (ad (o + 12))]
    refine j_iast hX (wM t ad o m_m m_aside m_saved m_isSaved m_past m_changes m_errorAt m_failed m_thrown m_input m_inputMany m_fitting m_given m_pairs m_line m_lineMany m_letters m_begins0 (upd (upd (upd m_commands (a1).toNatClampNeg u9.1) (a1 + 1).toNatClampNeg u11.1) (a1 + 2).toNatClampNeg u13.1) m_commandMany u13.2.1 m_size0 u13.2.2) dX10_readArguments_116 12 0 rfl rfl rfl hf (fun c116 hf => ?_)
    refine j_goto hX 210 dX10_readArguments_117 (by decide) ?_
    cases hf
    exact j_vret hX hE dX10_readArguments_210 (Nat.le_refl _) (Nat.le_refl _) ⟨rfl, rfl⟩
  rw [if_neg n1_2] at hf
  by_cases n1_3 : a0 = 3
  · rw [if_pos n1_3] at hf
    refine j_tab_c hX 210 dX10_readArguments_1 [(0, 56), (1, 56), (2, 83), (3, 120), (4, 128), (5, 128), (6, 210), (7, 141), (8, 128), (9, 182)] (by decide) 3 n1_3 rfl ?_
    refine j_aload_n hX dX10_readArguments_120 rfl 0 rfl ?_
    refine j_iload_n hX dX10_readArguments_121 rfl 2 rfl ?_
    obtain ⟨u15, h16, hf⟩ := jbind hf
    refine j_callV (st := []) hX (k_X10_readAsk (l := l) (D := D) (t := t) (ad := ad) (o := o) m_m m_aside m_saved m_isSaved m_past m_changes m_errorAt m_failed m_thrown m_input m_inputMany m_fitting m_given m_pairs m_line m_lineMany m_letters m_begins0 m_commands m_commandMany m_place0 m_size0 m_isWrong a1 u15 h16) q1863 q1864 q1998 q15 q1865 (n9 := 1) rfl ⟨by decide +kernel, by decide +kernel⟩ 0 rfl rfl rfl dX10_readArguments_122 (Nat.le_of_ble_eq_true rfl) ⟨Nat.le_refl _, Nat.le_refl _⟩ (fun w : va_W => w) jFr_id rfl rfl (fun v w hvw => ?_)
    obtain ⟨rfl, rfl⟩ := hvw
    change J X 0 0 (wM t ad o m_m m_aside m_saved m_isSaved m_past m_changes m_errorAt m_failed m_thrown m_input m_inputMany m_fitting m_given m_pairs m_line m_lineMany m_letters m_begins0 u15.1 m_commandMany u15.2.1 m_size0 u15.2.2) 125 [(0, .ref (ad o)), (1, .int a0), (2, .int a1)] []
    refine j_goto hX 210 dX10_readArguments_125 (by decide) ?_
    cases hf
    exact j_vret hX hE dX10_readArguments_210 (Nat.le_refl _) (Nat.le_refl _) ⟨rfl, rfl⟩
  rw [if_neg n1_3] at hf
  by_cases n1_4 : a0 = 4
  · rw [if_pos n1_4] at hf
    refine j_tab_c hX 210 dX10_readArguments_1 [(0, 56), (1, 56), (2, 83), (3, 120), (4, 128), (5, 128), (6, 210), (7, 141), (8, 128), (9, 182)] (by decide) 4 n1_4 rfl ?_
    refine j_aload_n hX dX10_readArguments_128 rfl 0 rfl ?_
    refine j_get hX dX10_readArguments_129 inX10 18 q1473 0 rfl rfl (by decide) rfl rfl ?_
    refine j_iload_n hX dX10_readArguments_132 rfl 2 rfl ?_
    refine j_aload_n hX dX10_readArguments_133 rfl 0 rfl ?_
    obtain ⟨u17, h18, hf⟩ := jbind hf
    refine j_callV (st := [.int a1, .ref (ad (o + 12))]) hX (k_X10_number (l := l) (D := D) (t := t) (ad := ad) (o := o) m_m m_aside m_saved m_isSaved m_past m_changes m_errorAt m_failed m_thrown m_input m_inputMany m_fitting m_given m_pairs m_line m_lineMany m_letters m_begins0 m_commands m_commandMany m_place0 m_size0 m_isWrong  u17 h18) q1846 q1847 q1993 q15 q1848 (n9 := 0) rfl ⟨by decide +kernel, by decide +kernel⟩ 0 rfl rfl rfl dX10_readArguments_134 (Nat.le_of_ble_eq_true rfl) ⟨Nat.le_refl _, Nat.le_refl _⟩ (fun w : va_W => w) jFr_id rfl rfl (fun v w hvw => ?_)
    obtain ⟨rfl, rfl⟩ := hvw
    change J X 0 0 (wM t ad o m_m m_aside m_saved m_isSaved m_past m_changes m_errorAt m_failed m_thrown m_input m_inputMany m_fitting m_given m_pairs m_line m_lineMany m_letters m_begins0 m_commands m_commandMany u17.2.1 m_size0 u17.2.2) 137 [(0, .ref (ad o)), (1, .int a0), (2, .int a1)] [.int u17.1, .int a1, .ref (ad (o + 12))]
    refine j_iast hX (wM t ad o m_m m_aside m_saved m_isSaved m_past m_changes m_errorAt m_failed m_thrown m_input m_inputMany m_fitting m_given m_pairs m_line m_lineMany m_letters m_begins0 (upd m_commands (a1).toNatClampNeg u17.1) m_commandMany u17.2.1 m_size0 u17.2.2) dX10_readArguments_137 12 0 rfl rfl rfl hf (fun c137 hf => ?_)
    refine j_goto hX 210 dX10_readArguments_138 (by decide) ?_
    cases hf
    exact j_vret hX hE dX10_readArguments_210 (Nat.le_refl _) (Nat.le_refl _) ⟨rfl, rfl⟩
  rw [if_neg n1_4] at hf
  by_cases n1_5 : a0 = 5
  · rw [if_pos n1_5] at hf
    refine j_tab_c hX 210 dX10_readArguments_1 [(0, 56), (1, 56), (2, 83), (3, 120), (4, 128), (5, 128), (6, 210), (7, 141), (8, 128), (9, 182)] (by decide) 5 n1_5 rfl ?_
    refine j_aload_n hX dX10_readArguments_128 rfl 0 rfl ?_
    refine j_get hX dX10_readArguments_129 inX10 18 q1473 0 rfl rfl (by decide) rfl rfl ?_
    refine j_iload_n hX dX10_readArguments_132 rfl 2 rfl ?_
    refine j_aload_n hX dX10_readArguments_133 rfl 0 rfl ?_
    obtain ⟨u19, h20, hf⟩ := jbind hf
    refine j_callV (st := [.int a1, .ref (ad (o + 12))]) hX (k_X10_number (l := l) (D := D) (t := t) (ad := ad) (o := o) m_m m_aside m_saved m_isSaved m_past m_changes m_errorAt m_failed m_thrown m_input m_inputMany m_fitting m_given m_pairs m_line m_lineMany m_letters m_begins0 m_commands m_commandMany m_place0 m_size0 m_isWrong  u19 h20) q1846 q1847 q1993 q15 q1848 (n9 := 0) rfl ⟨by decide +kernel, by decide +kernel⟩ 0 rfl rfl rfl dX10_readArguments_134 (Nat.le_of_ble_eq_true rfl) ⟨Nat.le_refl _, Nat.le_refl _⟩ (fun w : va_W => w) jFr_id rfl rfl (fun v w hvw => ?_)
    obtain ⟨rfl, rfl⟩ := hvw
    change J X 0 0 (wM t ad o m_m m_aside m_saved m_isSaved m_past m_changes m_errorAt m_failed m_thrown m_input m_inputMany m_fitting m_given m_pairs m_line m_lineMany m_letters m_begins0 m_commands m_commandMany u19.2.1 m_size0 u19.2.2) 137 [(0, .ref (ad o)), (1, .int a0), (2, .int a1)] [.int u19.1, .int a1, .ref (ad (o + 12))]
    refine j_iast hX (wM t ad o m_m m_aside m_saved m_isSaved m_past m_changes m_errorAt m_failed m_thrown m_input m_inputMany m_fitting m_given m_pairs m_line m_lineMany m_letters m_begins0 (upd m_commands (a1).toNatClampNeg u19.1) m_commandMany u19.2.1 m_size0 u19.2.2) dX10_readArguments_137 12 0 rfl rfl rfl hf (fun c137 hf => ?_)
    refine j_goto hX 210 dX10_readArguments_138 (by decide) ?_
    cases hf
    exact j_vret hX hE dX10_readArguments_210 (Nat.le_refl _) (Nat.le_refl _) ⟨rfl, rfl⟩
  rw [if_neg n1_5] at hf
  by_cases n1_6 : a0 = 6
  · rw [if_pos n1_6] at hf
    refine j_tab_c hX 210 dX10_readArguments_1 [(0, 56), (1, 56), (2, 83), (3, 120), (4, 128), (5, 128), (6, 210), (7, 141), (8, 128), (9, 182)] (by decide) 6 n1_6 rfl ?_
    cases hf
    exact j_vret hX hE dX10_readArguments_210 (Nat.le_refl _) (Nat.le_refl _) ⟨rfl, rfl⟩
  rw [if_neg n1_6] at hf
  by_cases n1_7 : a0 = 7
  · rw [if_pos n1_7] at hf
    refine j_tab_c hX 210 dX10_readArguments_1 [(0, 56), (1, 56), (2, 83), (3, 120), (4, 128), (5, 128), (6, 210), (7, 141), (8, 128), (9, 182)] (by decide) 7 n1_7 rfl ?_
    refine j_aload_n hX dX10_readArguments_141 rfl 0 rfl ?_
    refine j_get hX dX10_readArguments_142 inX10 18 q1473 0 rfl rfl (by decide) rfl rfl ?_
    refine j_iload_n hX dX10_readArguments_145 rfl 2 rfl ?_
    refine j_aload_n hX dX10_readArguments_146 rfl 0 rfl ?_
    obtain ⟨u21, h22, hf⟩ := jbind hf
    refine j_callV (st := [.int a1, .ref (ad (o + 12))]) hX (k_X10_number (l := l) (D := D) (t := t) (ad := ad) (o := o) m_m m_aside m_saved m_isSaved m_past m_changes m_errorAt m_failed m_thrown m_input m_inputMany m_fitting m_given m_pairs m_line m_lineMany m_letters m_begins0 m_commands m_commandMany m_place0 m_size0 m_isWrong  u21 h22) q1846 q1847 q1993 q15 q1848 (n9 := 0) rfl ⟨by decide +kernel, by decide +kernel⟩ 0 rfl rfl rfl dX10_readArguments_147 (Nat.le_of_ble_eq_true rfl) ⟨Nat.le_refl _, Nat.le_refl _⟩ (fun w : va_W => w) jFr_id rfl rfl (fun v w hvw => ?_)
    obtain ⟨rfl, rfl⟩ := hvw
    change J X 0 0 (wM t ad o m_m m_aside m_saved m_isSaved m_past m_changes m_errorAt m_failed m_thrown m_input m_inputMany m_fitting m_given m_pairs m_line m_lineMany m_letters m_begins0 m_commands m_commandMany u21.2.1 m_size0 u21.2.2) 150 [(0, .ref (ad o)), (1, .int a0), (2, .int a1)] [.int u21.1, .int a1, .ref (ad (o + 12))]
    refine j_iast hX (wM t ad o m_m m_aside m_saved m_isSaved m_past m_changes m_errorAt m_failed m_thrown m_input m_inputMany m_fitting m_given m_pairs m_line m_lineMany m_letters m_begins0 (upd m_commands (a1).toNatClampNeg u21.1) m_commandMany u21.2.1 m_size0 u21.2.2) dX10_readArguments_150 12 0 rfl rfl rfl hf (fun c150 hf => ?_)
    refine j_aload_n hX dX10_readArguments_151 rfl 0 rfl ?_
    refine j_get hX dX10_readArguments_152 inX10 18 q1473 0 rfl rfl (by decide) rfl rfl ?_
    refine j_iload_n hX dX10_readArguments_155 rfl 2 rfl ?_
    refine j_iconst hX 1 dX10_readArguments_156 (by decide) ?_
    refine j_iadd hX dX10_readArguments_157 ?_
    refine j_aload_n hX dX10_readArguments_158 rfl 0 rfl ?_
    refine j_bipush hX 32 dX10_readArguments_159 (by decide) ?_
    obtain ⟨u23, h24, hf⟩ := jbind hf
    refine j_callV (st := [.int (a1 + 1), .ref (ad (o + 12))]) hX (k_X10_numberBehind (l := l) (D := D) (t := t) (ad := ad) (o := o) m_m m_aside m_saved m_isSaved m_past m_changes m_errorAt m_failed m_thrown m_input m_inputMany m_fitting m_given m_pairs m_line m_lineMany m_letters m_begins0 (upd m_commands (a1).toNatClampNeg u21.1) m_commandMany u21.2.1 m_size0 u21.2.2 32 u23 h24) q1866 q1867 q1999 q15 q1868 (n9 := 1) rfl ⟨by decide +kernel, by decide +kernel⟩ 0 rfl rfl rfl dX10_readArguments_161 (Nat.le_of_ble_eq_true rfl) ⟨Nat.le_refl _, Nat.le_refl _⟩ (fun w : va_W => w) jFr_id rfl rfl (fun v w hvw => ?_)
    obtain ⟨rfl, rfl⟩ := hvw
    change J X 0 0 (wM t ad o m_m m_aside m_saved m_isSaved m_past m_changes m_errorAt m_failed m_thrown m_input m_inputMany m_fitting m_given m_pairs m_line m_lineMany m_letters m_begins0 (upd m_commands (a1).toNatClampNeg u21.1) m_commandMany u23.2.1 m_size0 u23.2.2) 164 [(0, .ref (ad o)), (1, .int a0), (2, .int a1)] [.int u23.1, .int (a1 + 1), .ref (ad (o + 12))]
    refine j_iast hX (wM t ad o m_m m_aside m_saved m_isSaved m_past m_changes m_errorAt m_failed m_thrown m_input m_inputMany m_fitting m_given m_pairs m_line m_lineMany m_letters m_begins0 (upd (upd m_commands (a1).toNatClampNeg u21.1) (a1 + 1).toNatClampNeg u23.1) m_commandMany u23.2.1 m_size0 u23.2.2) dX10_readArguments_164 12 0 rfl rfl rfl hf (fun c164 hf => ?_)
    refine j_aload_n hX dX10_readArguments_165 rfl 0 rfl ?_
    refine j_get hX dX10_readArguments_166 inX10 18 q1473 0 rfl rfl (by decide) rfl rfl ?_
    refine j_iload_n hX dX10_readArguments_169 rfl 2 rfl ?_
    refine j_iconst hX 2 dX10_readArguments_170 (by decide) ?_
    refine j_iadd hX dX10_readArguments_171 ?_
    refine j_aload_n hX dX10_readArguments_172 rfl 0 rfl ?_
    refine j_bipush hX 32 dX10_readArguments_173 (by decide) ?_
    obtain ⟨u25, h26, hf⟩ := jbind hf
    refine j_callV (st := [.int (a1 + 2), .ref (ad (o + 12))]) hX (k_X10_digitBehind (l := l) (D := D) (t := t) (ad := ad) (o := o) m_m m_aside m_saved m_isSaved m_past m_changes m_errorAt m_failed m_thrown m_input m_inputMany m_fitting m_given m_pairs m_line m_lineMany m_letters m_begins0 (upd (upd m_commands (a1).toNatClampNeg u21.1) (a1 + 1).toNatClampNeg u23.1) m_commandMany u23.2.1 m_size0 u23.2.2 32 u25 h26) q1857 q1858 q1996 q15 q1859 (n9 := 1) rfl ⟨by decide +kernel, by decide +kernel⟩ 0 rfl rfl rfl dX10_readArguments_175 (Nat.le_of_ble_eq_true rfl) ⟨Nat.le_refl _, Nat.le_refl _⟩ (fun w : va_W => w) jFr_id rfl rfl (fun v w hvw => ?_)
    obtain ⟨rfl, rfl⟩ := hvw
    change J X 0 0 (wM t ad o m_m m_aside m_saved m_isSaved m_past m_changes m_errorAt m_failed m_thrown m_input m_inputMany m_fitting m_given m_pairs m_line m_lineMany m_letters m_begins0 (upd (upd m_commands (a1).toNatClampNeg u21.1) (a1 + 1).toNatClampNeg u23.1) m_commandMany u25.2.1 m_size0 u25.2.2) 178 [(0, .ref (ad o)), (1, .int a0), (2, .int a1)] [.int u25.1, .int (a1 + 2), .ref (ad (o + 12))]
    refine j_iast hX (wM t ad o m_m m_aside m_saved m_isSaved m_past m_changes m_errorAt m_failed m_thrown m_input m_inputMany m_fitting m_given m_pairs m_line m_lineMany m_letters m_begins0 (upd (upd (upd m_commands (a1).toNatClampNeg u21.1) (a1 + 1).toNatClampNeg u23.1) (a1 + 2).toNatClampNeg u25.1) m_commandMany u25.2.1 m_size0 u25.2.2) dX10_readArguments_178 12 0 rfl rfl rfl hf (fun c178 hf => ?_)
    refine j_goto hX 210 dX10_readArguments_179 (by decide) ?_
    cases hf
    exact j_vret hX hE dX10_readArguments_210 (Nat.le_refl _) (Nat.le_refl _) ⟨rfl, rfl⟩
  rw [if_neg n1_7] at hf
  by_cases n1_8 : a0 = 8
  · rw [if_pos n1_8] at hf
    refine j_tab_c hX 210 dX10_readArguments_1 [(0, 56), (1, 56), (2, 83), (3, 120), (4, 128), (5, 128), (6, 210), (7, 141), (8, 128), (9, 182)] (by decide) 8 n1_8 rfl ?_
    refine j_aload_n hX dX10_readArguments_128 rfl 0 rfl ?_
    refine j_get hX dX10_readArguments_129 inX10 18 q1473 0 rfl rfl (by decide) rfl rfl ?_
    refine j_iload_n hX dX10_readArguments_132 rfl 2 rfl ?_
    refine j_aload_n hX dX10_readArguments_133 rfl 0 rfl ?_
    obtain ⟨u27, h28, hf⟩ := jbind hf
    refine j_callV (st := [.int a1, .ref (ad (o + 12))]) hX (k_X10_number (l := l) (D := D) (t := t) (ad := ad) (o := o) m_m m_aside m_saved m_isSaved m_past m_changes m_errorAt m_failed m_thrown m_input m_inputMany m_fitting m_given m_pairs m_line m_lineMany m_letters m_begins0 m_commands m_commandMany m_place0 m_size0 m_isWrong  u27 h28) q1846 q1847 q1993 q15 q1848 (n9 := 0) rfl ⟨by decide +kernel, by decide +kernel⟩ 0 rfl rfl rfl dX10_readArguments_134 (Nat.le_of_ble_eq_true rfl) ⟨Nat.le_refl _, Nat.le_refl _⟩ (fun w : va_W => w) jFr_id rfl rfl (fun v w hvw => ?_)
    obtain ⟨rfl, rfl⟩ := hvw
    change J X 0 0 (wM t ad o m_m m_aside m_saved m_isSaved m_past m_changes m_errorAt m_failed m_thrown m_input m_inputMany m_fitting m_given m_pairs m_line m_lineMany m_letters m_begins0 m_commands m_commandMany u27.2.1 m_size0 u27.2.2) 137 [(0, .ref (ad o)), (1, .int a0), (2, .int a1)] [.int u27.1, .int a1, .ref (ad (o + 12))]
    refine j_iast hX (wM t ad o m_m m_aside m_saved m_isSaved m_past m_changes m_errorAt m_failed m_thrown m_input m_inputMany m_fitting m_given m_pairs m_line m_lineMany m_letters m_begins0 (upd m_commands (a1).toNatClampNeg u27.1) m_commandMany u27.2.1 m_size0 u27.2.2) dX10_readArguments_137 12 0 rfl rfl rfl hf (fun c137 hf => ?_)
    refine j_goto hX 210 dX10_readArguments_138 (by decide) ?_
    cases hf
    exact j_vret hX hE dX10_readArguments_210 (Nat.le_refl _) (Nat.le_refl _) ⟨rfl, rfl⟩
  rw [if_neg n1_8] at hf
  by_cases n1_9 : a0 = 9
  · rw [if_pos n1_9] at hf
    refine j_tab_c hX 210 dX10_readArguments_1 [(0, 56), (1, 56), (2, 83), (3, 120), (4, 128), (5, 128), (6, 210), (7, 141), (8, 128), (9, 182)] (by decide) 9 n1_9 rfl ?_
    refine j_aload_n hX dX10_readArguments_182 rfl 0 rfl ?_
    refine j_get hX dX10_readArguments_183 inX10 18 q1473 0 rfl rfl (by decide) rfl rfl ?_
    refine j_iload_n hX dX10_readArguments_186 rfl 2 rfl ?_
    refine j_aload_n hX dX10_readArguments_187 rfl 0 rfl ?_
    obtain ⟨u29, h30, hf⟩ := jbind hf
    refine j_callV (st := [.int a1, .ref (ad (o + 12))]) hX (k_X10_here (l := l) (D := D) (t := t) (ad := ad) (o := o) m_m m_aside m_saved m_isSaved m_past m_changes m_errorAt m_failed m_thrown m_input m_inputMany m_fitting m_given m_pairs m_line m_lineMany m_letters m_begins0 m_commands m_commandMany m_place0 m_size0 m_isWrong  u29 h30) q1852 q1853 q1995 q15 q1854 (n9 := 0) rfl ⟨by decide +kernel, by decide +kernel⟩ 0 rfl rfl rfl dX10_readArguments_188 (Nat.le_of_ble_eq_true rfl) ⟨Nat.le_refl _, Nat.le_refl _⟩ (fun w : va_W => w) jFr_id rfl rfl (fun v w hvw => ?_)
    obtain ⟨rfl, rfl⟩ := hvw
    change J X 0 0 (wM t ad o m_m m_aside m_saved m_isSaved m_past m_changes m_errorAt m_failed m_thrown m_input m_inputMany m_fitting m_given m_pairs m_line m_lineMany m_letters m_begins0 m_commands m_commandMany m_place0 m_size0 m_isWrong) 191 [(0, .ref (ad o)), (1, .int a0), (2, .int a1)] [.int u29, .int a1, .ref (ad (o + 12))]
    refine j_bipush hX 32 dX10_readArguments_191 (by decide) ?_
    refine j_icmp_ne hX 205 dX10_readArguments_193 (by decide) hf (fun c193 hf => ?_) (fun c193 hf => ?_)
    · refine j_iconst hX 1 dX10_readArguments_205 (by decide) ?_
      refine j_iast hX (wM t ad o m_m m_aside m_saved m_isSaved m_past m_changes m_errorAt m_failed m_thrown m_input m_inputMany m_fitting m_given m_pairs m_line m_lineMany m_letters m_begins0 (upd m_commands (a1).toNatClampNeg 1) m_commandMany m_place0 m_size0 m_isWrong) dX10_readArguments_206 12 0 rfl rfl rfl hf (fun c206 hf => ?_)
      refine j_goto hX 210 dX10_readArguments_207 (by decide) ?_
      cases hf
      exact j_vret hX hE dX10_readArguments_210 (Nat.le_refl _) (Nat.le_refl _) ⟨rfl, rfl⟩
    · refine j_aload_n hX dX10_readArguments_196 rfl 0 rfl ?_
      refine j_bipush hX 32 dX10_readArguments_197 (by decide) ?_
      obtain ⟨u31, h32, hf⟩ := jbind hf
      refine j_callV (st := [.int a1, .ref (ad (o + 12))]) hX (k_X10_numberBehind (l := l) (D := D) (t := t) (ad := ad) (o := o) m_m m_aside m_saved m_isSaved m_past m_changes m_errorAt m_failed m_thrown m_input m_inputMany m_fitting m_given m_pairs m_line m_lineMany m_letters m_begins0 m_commands m_commandMany m_place0 m_size0 m_isWrong 32 u31 h32) q1866 q1867 q1999 q15 q1868 (n9 := 1) rfl ⟨by decide +kernel, by decide +kernel⟩ 0 rfl rfl rfl dX10_readArguments_199 (Nat.le_of_ble_eq_true rfl) ⟨Nat.le_refl _, Nat.le_refl _⟩ (fun w : va_W => w) jFr_id rfl rfl (fun v w hvw => ?_)
      obtain ⟨rfl, rfl⟩ := hvw
      change J X 0 0 (wM t ad o m_m m_aside m_saved m_isSaved m_past m_changes m_errorAt m_failed m_thrown m_input m_inputMany m_fitting m_given m_pairs m_line m_lineMany m_letters m_begins0 m_commands m_commandMany u31.2.1 m_size0 u31.2.2) 202 [(0, .ref (ad o)), (1, .int a0), (2, .int a1)] [.int u31.1, .int a1, .ref (ad (o + 12))]
      refine j_goto hX 206 dX10_readArguments_202 (by decide) ?_
      refine j_iast hX (wM t ad o m_m m_aside m_saved m_isSaved m_past m_changes m_errorAt m_failed m_thrown m_input m_inputMany m_fitting m_given m_pairs m_line m_lineMany m_letters m_begins0 (upd m_commands (a1).toNatClampNeg u31.1) m_commandMany u31.2.1 m_size0 u31.2.2) dX10_readArguments_206 12 0 rfl rfl rfl hf (fun c206 hf => ?_)
      refine j_goto hX 210 dX10_readArguments_207 (by decide) ?_
      cases hf
      exact j_vret hX hE dX10_readArguments_210 (Nat.le_refl _) (Nat.le_refl _) ⟨rfl, rfl⟩
  rw [if_neg n1_9] at hf
  refine j_tab_d hX 210 dX10_readArguments_1 [(0, 56), (1, 56), (2, 83), (3, 120), (4, 128), (5, 128), (6, 210), (7, 141), (8, 128), (9, 182)] (by decide) ⟨n1_0, n1_1, n1_2, n1_3, n1_4, n1_5, n1_6, n1_7, n1_8, n1_9, trivial⟩ ?_
  cases hf
  exact j_vret hX hE dX10_readArguments_210 (Nat.le_refl _) (Nat.le_refl _) ⟨rfl, rfl⟩
-- HammerDepotModel readCommand ()V
def f_X10_readCommand_L12 (m_input : Nat → Int32) (m_letters : Nat → Int32) (m_begins0 : Nat → Int32) (m_place0 : Int32) (m_size0 : Int32) : Nat → Int32 → Int32 → Option (Int32 × Int32)
  | 0, _, _ => none
  | jn + 1, x3, x2 =>
    if 10 ≤ x3 then
      some (x3, x2)
    else
      Option.bind (f_X10_likeness m_input m_letters m_begins0 m_place0 m_size0 x3) (fun u1 =>
        Option.bind (f_X10_likeness m_input m_letters m_begins0 m_place0 m_size0 x2) (fun u3 =>
          if u1 ≤ u3 then
            f_X10_readCommand_L12 m_input m_letters m_begins0 m_place0 m_size0 jn (x3 + 1) x2
          else
            f_X10_readCommand_L12 m_input m_letters m_begins0 m_place0 m_size0 jn (x3 + 1) x3))
def f_X10_readCommand (m_input : Nat → Int32) (m_letters : Nat → Int32) (m_begins0 : Nat → Int32) (m_commands : Nat → Int32) (m_commandMany : Int32) (m_place0 : Int32) (m_size0 : Int32) (m_isWrong : Int32) : Option ((Nat → Int32) × Int32 × Int32 × Int32) :=
  Option.bind (f_X10_readCommand_L12 m_input m_letters m_begins0 m_place0 m_size0 jFU 1 0) (fun s6 =>
    Option.bind (f_X10_likeness m_input m_letters m_begins0 m_place0 m_size0 s6.2) (fun u8 =>
      if jin (s6.2 + 1) 11 = true then
        if jin s6.2 11 = true then
          if ((m_begins0 (s6.2 + 1).toNatClampNeg) - (m_begins0 (s6.2).toNatClampNeg)) ≤ u8 then
            if jin ((6 : Int32) * m_commandMany) 366 = true then
              Option.bind (f_X10_readArguments m_input (upd m_commands ((6 : Int32) * m_commandMany).toNatClampNeg s6.2) (m_place0 + u8) m_size0 0 s6.2 (((6 : Int32) * m_commandMany) + 1)) (fun u10 =>
                some (u10.1, m_commandMany + 1, u10.2.1, u10.2.2))
            else none
          else
            some (m_commands, m_commandMany, m_place0 + u8, 1)
        else none
      else none))
set_option maxHeartbeats 4000000 in
set_option maxRecDepth 100000 in
theorem k_X10_readCommand_L12 {l : Launch} {D : va_G} {t : Nat → ClassId} {ad : Nat → Nat} {o : Nat} (m_input : Nat → Int32) (m_letters : Nat → Int32) (m_begins0 : Nat → Int32) (m_place0 : Int32) (m_size0 : Int32) (m_m : Nat → Int32) (m_aside : Nat → Int32) (m_saved : Nat → Int32) (m_isSaved : Int32) (m_past : Nat → Int32) (m_changes : Int32) (m_errorAt : Int32) (m_failed : Int32) (m_thrown : Int32) (m_inputMany : Int32) (m_fitting : Nat → Int32) (m_given : Nat → Int32) (m_pairs : Nat → Int32) (m_line : Nat → Int32) (m_lineMany : Int32) (m_commands : Nat → Int32) (m_commandMany : Int32) (m_isWrong : Int32) (x1 : Int32) {X : jX} (hX : jOK X l D (jT t) cX10_readCommand RX10 none { frames := 6, cells := 0, slots := 0, locals := 132 } 4) :
    ∀ (jn : Nat) (x3 : Int32) (x2 : Int32) (u : Int32 × Int32) (hf : f_X10_readCommand_L12 m_input m_letters m_begins0 m_place0 m_size0 jn x3 x2 = some u) (kx : ∀ s : Int32 × Int32, u = s → J X 0 0 (wM t ad o m_m m_aside m_saved m_isSaved m_past m_changes m_errorAt m_failed m_thrown m_input m_inputMany m_fitting m_given m_pairs m_line m_lineMany m_letters m_begins0 m_commands m_commandMany m_place0 m_size0 m_isWrong) 43 [(3, .int s.1), (2, .int s.2), (1, .int x1), (0, .ref (ad o))] []), J X 0 0 (wM t ad o m_m m_aside m_saved m_isSaved m_past m_changes m_errorAt m_failed m_thrown m_input m_inputMany m_fitting m_given m_pairs m_line m_lineMany m_letters m_begins0 m_commands m_commandMany m_place0 m_size0 m_isWrong) 12 [(3, .int x3), (2, .int x2), (1, .int x1), (0, .ref (ad o))] [] := by
  intro jn
  induction jn with
  | zero => intro x3 x2 u hf; cases (show (none : Option (Int32 × Int32)) = some u from hf)
  | succ jn ih =>
    intro x3 x2 u hf kx
    unfold f_X10_readCommand_L12 at hf
    refine j_iload_n hX dX10_readCommand_12 rfl 0 rfl ?_
    refine j_bipush hX 10 dX10_readCommand_13 (by decide) ?_
    refine j_icmp_ge hX 43 dX10_readCommand_15 (by decide) hf (fun c15 hf => ?_) (fun c15 hf => ?_)
    · cases hf
      exact kx _ rfl
    · refine j_aload_n hX dX10_readCommand_18 rfl 3 rfl ?_
      refine j_iload_n hX dX10_readCommand_19 rfl 0 rfl ?_
      obtain ⟨u1, h2, hf⟩ := jbind hf
      refine j_callV (st := []) hX (k_X10_likeness (l := l) (D := D) (t := t) (ad := ad) (o := o) m_m m_aside m_saved m_isSaved m_past m_changes m_errorAt m_failed m_thrown m_input m_inputMany m_fitting m_given m_pairs m_line m_lineMany m_letters m_begins0 m_commands m_commandMany m_place0 m_size0 m_isWrong x3 u1 h2) q1840 q1841 q1991 q15 q1842 (n9 := 1) rfl ⟨by decide +kernel, by decide +kernel⟩ 0 rfl rfl rfl dX10_readCommand_20 (Nat.le_of_ble_eq_true rfl) ⟨Nat.le_refl _, Nat.le_refl _⟩ (fun w : va_W => w) jFr_id rfl rfl (fun v w hvw => ?_)
      obtain ⟨rfl, rfl⟩ := hvw
      change J X 0 0 (wM t ad o m_m m_aside m_saved m_isSaved m_past m_changes m_errorAt m_failed m_thrown m_input m_inputMany m_fitting m_given m_pairs m_line m_lineMany m_letters m_begins0 m_commands m_commandMany m_place0 m_size0 m_isWrong) 23 [(3, .int x3), (2, .int x2), (1, .int x1), (0, .ref (ad o))] [.int u1]
      refine j_aload_n hX dX10_readCommand_23 rfl 3 rfl ?_
      refine j_iload_n hX dX10_readCommand_24 rfl 1 rfl ?_
      obtain ⟨u3, h4, hf⟩ := jbind hf
      refine j_callV (st := [.int u1]) hX (k_X10_likeness (l := l) (D := D) (t := t) (ad := ad) (o := o) m_m m_aside m_saved m_isSaved m_past m_changes m_errorAt m_failed m_thrown m_input m_inputMany m_fitting m_given m_pairs m_line m_lineMany m_letters m_begins0 m_commands m_commandMany m_place0 m_size0 m_isWrong x2 u3 h4) q1840 q1841 q1991 q15 q1842 (n9 := 1) rfl ⟨by decide +kernel, by decide +kernel⟩ 0 rfl rfl rfl dX10_readCommand_25 (Nat.le_of_ble_eq_true rfl) ⟨Nat.le_refl _, Nat.le_refl _⟩ (fun w : va_W => w) jFr_id rfl rfl (fun v w hvw => ?_)
      obtain ⟨rfl, rfl⟩ := hvw
      change J X 0 0 (wM t ad o m_m m_aside m_saved m_isSaved m_past m_changes m_errorAt m_failed m_thrown m_input m_inputMany m_fitting m_given m_pairs m_line m_lineMany m_letters m_begins0 m_commands m_commandMany m_place0 m_size0 m_isWrong) 28 [(3, .int x3), (2, .int x2), (1, .int x1), (0, .ref (ad o))] [.int u3, .int u1]
      refine j_icmp_le hX 35 dX10_readCommand_28 (by decide) hf (fun c28 hf => ?_) (fun c28 hf => ?_)
      · refine j_iload_n hX dX10_readCommand_35 rfl 1 rfl ?_
        refine j_istore_n hX [(2, .int x2), (3, .int x3), (1, .int x1), (0, .ref (ad o))] dX10_readCommand_36 rfl (by decide) rfl ?_
        refine j_iinc hX (x3 + 1) [(3, .int (x3 + 1)), (2, .int x2), (1, .int x1), (0, .ref (ad o))] dX10_readCommand_37 1 rfl rfl (by decide) rfl ?_
        refine j_goto hX 12 dX10_readCommand_40 (by decide) ?_
        exact ih (x3 + 1) x2 u hf kx
      · refine j_iload_n hX dX10_readCommand_31 rfl 0 rfl ?_
        refine j_goto hX 36 dX10_readCommand_32 (by decide) ?_
        refine j_istore_n hX [(2, .int x3), (3, .int x3), (1, .int x1), (0, .ref (ad o))] dX10_readCommand_36 rfl (by decide) rfl ?_
        refine j_iinc hX (x3 + 1) [(3, .int (x3 + 1)), (2, .int x3), (1, .int x1), (0, .ref (ad o))] dX10_readCommand_37 1 rfl rfl (by decide) rfl ?_
        refine j_goto hX 12 dX10_readCommand_40 (by decide) ?_
        exact ih (x3 + 1) x3 u hf kx
set_option maxHeartbeats 4000000 in
set_option maxRecDepth 100000 in
theorem k_X10_readCommand {l : Launch} {D : va_G} {t : Nat → ClassId} {ad : Nat → Nat} {o : Nat} (m_m : Nat → Int32) (m_aside : Nat → Int32) (m_saved : Nat → Int32) (m_isSaved : Int32) (m_past : Nat → Int32) (m_changes : Int32) (m_errorAt : Int32) (m_failed : Int32) (m_thrown : Int32) (m_input : Nat → Int32) (m_inputMany : Int32) (m_fitting : Nat → Int32) (m_given : Nat → Int32) (m_pairs : Nat → Int32) (m_line : Nat → Int32) (m_lineMany : Int32) (m_letters : Nat → Int32) (m_begins0 : Nat → Int32) (m_commands : Nat → Int32) (m_commandMany : Int32) (m_place0 : Int32) (m_size0 : Int32) (m_isWrong : Int32)  (u : (Nat → Int32) × Int32 × Int32 × Int32) (hf : f_X10_readCommand m_input m_letters m_begins0 m_commands m_commandMany m_place0 m_size0 m_isWrong = some u) : cm l D (jT t) yX10_readCommand cX10_readCommand 4 none { frames := 6, cells := 0, slots := 0, locals := 132 } [.ref (ad o)] (wM t ad o m_m m_aside m_saved m_isSaved m_past m_changes m_errorAt m_failed m_thrown m_input m_inputMany m_fitting m_given m_pairs m_line m_lineMany m_letters m_begins0 m_commands m_commandMany m_place0 m_size0 m_isWrong) (fun v w => v = none ∧ w = wM t ad o m_m m_aside m_saved m_isSaved m_past m_changes m_errorAt m_failed m_thrown m_input m_inputMany m_fitting m_given m_pairs m_line m_lineMany m_letters m_begins0 u.1 u.2.1 u.2.2.1 m_size0 u.2.2.2) := by
  refine cm_of RX10 rfl (by decide +kernel) (Nat.le_of_ble_eq_true rfl) (fun X hX hE => ?_)
  change J X 0 0 (wM t ad o m_m m_aside m_saved m_isSaved m_past m_changes m_errorAt m_failed m_thrown m_input m_inputMany m_fitting m_given m_pairs m_line m_lineMany m_letters m_begins0 m_commands m_commandMany m_place0 m_size0 m_isWrong) 0 [(0, .ref (ad o))] []
  unfold f_X10_readCommand at hf
  refine j_bipush hX 6 dX10_readCommand_0 (by decide) ?_
  refine j_aload_n hX dX10_readCommand_2 rfl 0 rfl ?_
  refine j_get hX dX10_readCommand_3 inX10 19 q1474 0 rfl rfl (by decide) rfl rfl ?_
  refine j_imul hX dX10_readCommand_6 ?_
  refine j_istore_n hX [(1, .int ((6 : Int32) * m_commandMany)), (0, .ref (ad o))] dX10_readCommand_7 rfl (by decide) rfl ?_
  refine j_iconst hX 0 dX10_readCommand_8 (by decide) ?_
  refine j_istore_n hX [(2, .int 0), (1, .int ((6 : Int32) * m_commandMany)), (0, .ref (ad o))] dX10_readCommand_9 rfl (by decide) rfl ?_
  refine j_iconst hX 1 dX10_readCommand_10 (by decide) ?_
  refine j_istore_n hX [(3, .int 1), (2, .int 0), (1, .int ((6 : Int32) * m_commandMany)), (0, .ref (ad o))] dX10_readCommand_11 rfl (by decide) rfl ?_
  obtain ⟨s6, h7, hf⟩ := jbind hf
  refine k_X10_readCommand_L12 (ad := ad) m_input m_letters m_begins0 m_place0 m_size0 m_m m_aside m_saved m_isSaved m_past m_changes m_errorAt m_failed m_thrown m_inputMany m_fitting m_given m_pairs m_line m_lineMany m_commands m_commandMany m_isWrong ((6 : Int32) * m_commandMany) hX jFU 1 0 s6 h7 (fun s60 es6 => ?_)
  subst es6
  refine j_aload_n hX dX10_readCommand_43 rfl 3 rfl ?_
  refine j_iload_n hX dX10_readCommand_44 rfl 1 rfl ?_
  obtain ⟨u8, h9, hf⟩ := jbind hf
  refine j_callV (st := []) hX (k_X10_likeness (l := l) (D := D) (t := t) (ad := ad) (o := o) m_m m_aside m_saved m_isSaved m_past m_changes m_errorAt m_failed m_thrown m_input m_inputMany m_fitting m_given m_pairs m_line m_lineMany m_letters m_begins0 m_commands m_commandMany m_place0 m_size0 m_isWrong s6.2 u8 h9) q1840 q1841 q1991 q15 q1842 (n9 := 1) rfl ⟨by decide +kernel, by decide +kernel⟩ 0 rfl rfl rfl dX10_readCommand_45 (Nat.le_of_ble_eq_true rfl) ⟨Nat.le_refl _, Nat.le_refl _⟩ (fun w : va_W => w) jFr_id rfl rfl (fun v w hvw => ?_)
  obtain ⟨rfl, rfl⟩ := hvw
  change J X 0 0 (wM t ad o m_m m_aside m_saved m_isSaved m_past m_changes m_errorAt m_failed m_thrown m_input m_inputMany m_fitting m_given m_pairs m_line m_lineMany m_letters m_begins0 m_commands m_commandMany m_place0 m_size0 m_isWrong) 48 [(3, .int s6.1), (2, .int s6.2), (1, .int ((6 : Int32) * m_commandMany)), (0, .ref (ad o))] [.int u8]
  refine j_istore_n hX [(3, .int u8), (2, .int s6.2), (1, .int ((6 : Int32) * m_commandMany)), (0, .ref (ad o))] dX10_readCommand_48 rfl (by decide) rfl ?_
  refine j_aload_n hX dX10_readCommand_49 rfl 3 rfl ?_
  refine j_dup hX dX10_readCommand_50 rfl ?_
  refine j_get hX dX10_readCommand_51 inX10 20 q1475 0 rfl rfl (by decide) rfl rfl ?_
  refine j_iload_n hX dX10_readCommand_54 rfl 0 rfl ?_
  refine j_iadd hX dX10_readCommand_55 ?_
  refine j_put hX (wM t ad o m_m m_aside m_saved m_isSaved m_past m_changes m_errorAt m_failed m_thrown m_input m_inputMany m_fitting m_given m_pairs m_line m_lineMany m_letters m_begins0 m_commands m_commandMany (m_place0 + u8) m_size0 m_isWrong) tyX10 dX10_readCommand_56 inX10 tyX10_ok nmX10 20 q1475 0 rfl rfl (by decide) rfl rfl rfl rfl rfl (Nat.le_of_ble_eq_true rfl) rfl ?_
  refine j_aload_n hX dX10_readCommand_59 rfl 3 rfl ?_
  refine j_iload_n hX dX10_readCommand_60 rfl 0 rfl ?_
  refine j_aload_n hX dX10_readCommand_61 rfl 3 rfl ?_
  refine j_get hX dX10_readCommand_62 inX10 17 q1472 0 rfl rfl (by decide) rfl rfl ?_
  refine j_iload_n hX dX10_readCommand_65 rfl 1 rfl ?_
  refine j_iconst hX 1 dX10_readCommand_66 (by decide) ?_
  refine j_iadd hX dX10_readCommand_67 ?_
  refine j_iald hX dX10_readCommand_68 11 0 rfl rfl hf (fun c68 hf => ?_)
  refine j_aload_n hX dX10_readCommand_69 rfl 3 rfl ?_
  refine j_get hX dX10_readCommand_70 inX10 17 q1472 0 rfl rfl (by decide) rfl rfl ?_
  refine j_iload_n hX dX10_readCommand_73 rfl 1 rfl ?_
  refine j_iald hX dX10_readCommand_74 11 0 rfl rfl hf (fun c74 hf => ?_)
  refine j_isub hX dX10_readCommand_75 ?_
  refine j_icmp_ge hX 83 dX10_readCommand_76 (by decide) hf (fun c76 hf => ?_) (fun c76 hf => ?_)
  · refine j_iconst hX 0 dX10_readCommand_83 (by decide) ?_
    refine j_put hX (wM t ad o m_m m_aside m_saved m_isSaved m_past m_changes m_errorAt m_failed m_thrown m_input m_inputMany m_fitting m_given m_pairs m_line m_lineMany m_letters m_begins0 m_commands m_commandMany (m_place0 + u8) m_size0 0) tyX10 dX10_readCommand_84 inX10 tyX10_ok nmX10 22 q1477 0 rfl rfl (by decide) rfl rfl rfl rfl rfl (Nat.le_of_ble_eq_true rfl) rfl ?_
    refine j_aload_n hX dX10_readCommand_87 rfl 3 rfl ?_
    refine j_get hX dX10_readCommand_88 inX10 22 q1477 0 rfl rfl (by decide) rfl rfl ?_
    refine j_if_ne (α := Unit) (F := none) (G := none) (o := none) hX 119 dX10_readCommand_91 (by decide) (ite_self none) (fun c91 _ => absurd c91 (by decide)) (fun c91 _ => ?_)
    refine j_aload_n hX dX10_readCommand_94 rfl 3 rfl ?_
    refine j_get hX dX10_readCommand_95 inX10 18 q1473 0 rfl rfl (by decide) rfl rfl ?_
    refine j_iload_n hX dX10_readCommand_98 rfl 2 rfl ?_
    refine j_iload_n hX dX10_readCommand_99 rfl 1 rfl ?_
    refine j_iast hX (wM t ad o m_m m_aside m_saved m_isSaved m_past m_changes m_errorAt m_failed m_thrown m_input m_inputMany m_fitting m_given m_pairs m_line m_lineMany m_letters m_begins0 (upd m_commands ((6 : Int32) * m_commandMany).toNatClampNeg s6.2) m_commandMany (m_place0 + u8) m_size0 0) dX10_readCommand_100 12 0 rfl rfl rfl hf (fun c100 hf => ?_)
    refine j_aload_n hX dX10_readCommand_101 rfl 3 rfl ?_
    refine j_dup hX dX10_readCommand_102 rfl ?_
    refine j_get hX dX10_readCommand_103 inX10 19 q1474 0 rfl rfl (by decide) rfl rfl ?_
    refine j_iconst hX 1 dX10_readCommand_106 (by decide) ?_
    refine j_iadd hX dX10_readCommand_107 ?_
    refine j_put hX (wM t ad o m_m m_aside m_saved m_isSaved m_past m_changes m_errorAt m_failed m_thrown m_input m_inputMany m_fitting m_given m_pairs m_line m_lineMany m_letters m_begins0 (upd m_commands ((6 : Int32) * m_commandMany).toNatClampNeg s6.2) (m_commandMany + 1) (m_place0 + u8) m_size0 0) tyX10 dX10_readCommand_108 inX10 tyX10_ok nmX10 19 q1474 0 rfl rfl (by decide) rfl rfl rfl rfl rfl (Nat.le_of_ble_eq_true rfl) rfl ?_
    refine j_aload_n hX dX10_readCommand_111 rfl 3 rfl ?_
    refine j_iload_n hX dX10_readCommand_112 rfl 1 rfl ?_
    refine j_iload_n hX dX10_readCommand_113 rfl 2 rfl ?_
    refine j_iconst hX 1 dX10_readCommand_114 (by decide) ?_
    refine j_iadd hX dX10_readCommand_115 ?_
    obtain ⟨u10, h11, hf⟩ := jbind hf
    refine j_callV (st := []) hX (k_X10_readArguments (l := l) (D := D) (t := t) (ad := ad) (o := o) m_m m_aside m_saved m_isSaved m_past m_changes m_errorAt m_failed m_thrown m_input m_inputMany m_fitting m_given m_pairs m_line m_lineMany m_letters m_begins0 (upd m_commands ((6 : Int32) * m_commandMany).toNatClampNeg s6.2) (m_commandMany + 1) (m_place0 + u8) m_size0 0 s6.2 (((6 : Int32) * m_commandMany) + 1) u10 h11) q1843 q1844 q1992 q15 q1845 (n9 := 2) rfl ⟨by decide +kernel, by decide +kernel⟩ 0 rfl rfl rfl dX10_readCommand_116 (Nat.le_of_ble_eq_true rfl) ⟨Nat.le_refl _, Nat.le_refl _⟩ (fun w : va_W => w) jFr_id rfl rfl (fun v w hvw => ?_)
    obtain ⟨rfl, rfl⟩ := hvw
    change J X 0 0 (wM t ad o m_m m_aside m_saved m_isSaved m_past m_changes m_errorAt m_failed m_thrown m_input m_inputMany m_fitting m_given m_pairs m_line m_lineMany m_letters m_begins0 u10.1 (m_commandMany + 1) u10.2.1 m_size0 u10.2.2) 119 [(3, .int u8), (2, .int s6.2), (1, .int ((6 : Int32) * m_commandMany)), (0, .ref (ad o))] []
    cases hf
    exact j_vret hX hE dX10_readCommand_119 (Nat.le_refl _) (Nat.le_refl _) ⟨rfl, rfl⟩
  · refine j_iconst hX 1 dX10_readCommand_79 (by decide) ?_
    refine j_goto hX 84 dX10_readCommand_80 (by decide) ?_
    refine j_put hX (wM t ad o m_m m_aside m_saved m_isSaved m_past m_changes m_errorAt m_failed m_thrown m_input m_inputMany m_fitting m_given m_pairs m_line m_lineMany m_letters m_begins0 m_commands m_commandMany (m_place0 + u8) m_size0 1) tyX10 dX10_readCommand_84 inX10 tyX10_ok nmX10 22 q1477 0 rfl rfl (by decide) rfl rfl rfl rfl rfl (Nat.le_of_ble_eq_true rfl) rfl ?_
    refine j_aload_n hX dX10_readCommand_87 rfl 3 rfl ?_
    refine j_get hX dX10_readCommand_88 inX10 22 q1477 0 rfl rfl (by decide) rfl rfl ?_
    refine j_if_ne (α := Unit) (F := none) (G := none) (o := none) hX 119 dX10_readCommand_91 (by decide) (ite_self none) (fun c91 _ => ?_) (fun c91 _ => absurd c91 (by decide))
    cases hf
    exact j_vret hX hE dX10_readCommand_119 (Nat.le_refl _) (Nat.le_refl _) ⟨rfl, rfl⟩
-- HammerDepotModel does (I)V
def f_X10_does (m_m : Nat → Int32) (m_thrown : Int32) (m_fitting : Nat → Int32) (m_given : Nat → Int32) (m_commands : Nat → Int32) (a0 : Int32) : Option ((Nat → Int32) × Int32 × (Nat → Int32) × (Nat → Int32)) :=
  if jin (a0 + 1) 366 = true then
    if jin (a0 + 2) 366 = true then
      if jin (a0 + 3) 366 = true then
        if jin a0 366 = true then
          if (m_commands (a0).toNatClampNeg) = 0 then
            Option.bind (f_X10_hammerIt m_m m_thrown (m_commands (a0 + 1).toNatClampNeg) (m_commands (a0 + 2).toNatClampNeg)) (fun u3 =>
              some (u3.2.1, u3.2.2, m_fitting, m_given))
          else
            if (m_commands (a0).toNatClampNeg) = 1 then
              Option.bind (f_X10_moveIt m_m m_thrown (m_commands (a0 + 1).toNatClampNeg) (m_commands (a0 + 2).toNatClampNeg)) (fun u5 =>
                some (u5.2.1, u5.2.2, m_fitting, m_given))
            else
              if (m_commands (a0).toNatClampNeg) = 2 then
                Option.bind (f_X10_swapIt m_m m_thrown (m_commands (a0 + 1).toNatClampNeg) (m_commands (a0 + 2).toNatClampNeg) (m_commands (a0 + 3).toNatClampNeg)) (fun u7 =>
                  some (u7.2.1, u7.2.2, m_fitting, m_given))
              else
                if (m_commands (a0).toNatClampNeg) = 3 then
                  if jin (a0 + 4) 366 = true then
                    if jin (a0 + 5) 366 = true then
                      Option.bind (f_X10_askIt m_m m_thrown (m_commands (a0 + 1).toNatClampNeg) (m_commands (a0 + 2).toNatClampNeg) (m_commands (a0 + 3).toNatClampNeg) (m_commands (a0 + 4).toNatClampNeg) (m_commands (a0 + 5).toNatClampNeg)) (fun u9 =>
                        some (u9.2.1, u9.2.2, m_fitting, m_given))
                    else none
                  else none
                else
                  if (m_commands (a0).toNatClampNeg) = 4 then
                    Option.bind (f_X10_dropIt m_m m_thrown (m_commands (a0 + 1).toNatClampNeg)) (fun u11 =>
                      some (u11.2.1, u11.2.2, m_fitting, m_given))
                  else
                    if (m_commands (a0).toNatClampNeg) = 5 then
                      Option.bind (f_X10_grantIt m_m m_thrown (m_commands (a0 + 1).toNatClampNeg)) (fun u13 =>
                        some (u13.2.1, u13.2.2, m_fitting, m_given))
                    else
                      if (m_commands (a0).toNatClampNeg) = 6 then
                        Option.bind (f_X10_mostIt m_m m_fitting m_given) (fun u15 =>
                          some (u15.2.1, m_thrown, u15.2.2.1, u15.2.2.2))
                      else
                        if (m_commands (a0).toNatClampNeg) = 7 then
                          Option.bind (f_X10_backIt m_m m_thrown (m_commands (a0 + 1).toNatClampNeg) (m_commands (a0 + 2).toNatClampNeg) (m_commands (a0 + 3).toNatClampNeg)) (fun u17 =>
                            some (u17.2.1, u17.2.2, m_fitting, m_given))
                        else
                          if (m_commands (a0).toNatClampNeg) = 8 then
                            Option.bind (f_X10_faceIt m_m m_thrown (m_commands (a0 + 1).toNatClampNeg)) (fun u19 =>
                              some (u19.2.1, u19.2.2, m_fitting, m_given))
                          else
                            Option.bind (f_X10_daysIt m_m m_thrown (m_commands (a0 + 1).toNatClampNeg)) (fun u1 =>
                              some (u1.2.1, u1.2.2, m_fitting, m_given))
        else none
      else none
    else none
  else none
set_option maxHeartbeats 4000000 in
set_option maxRecDepth 100000 in
theorem k_X10_does {l : Launch} {D : va_G} {t : Nat → ClassId} {ad : Nat → Nat} {o : Nat} (m_m : Nat → Int32) (m_aside : Nat → Int32) (m_saved : Nat → Int32) (m_isSaved : Int32) (m_past : Nat → Int32) (m_changes : Int32) (m_errorAt : Int32) (m_failed : Int32) (m_thrown : Int32) (m_input : Nat → Int32) (m_inputMany : Int32) (m_fitting : Nat → Int32) (m_given : Nat → Int32) (m_pairs : Nat → Int32) (m_line : Nat → Int32) (m_lineMany : Int32) (m_letters : Nat → Int32) (m_begins0 : Nat → Int32) (m_commands : Nat → Int32) (m_commandMany : Int32) (m_place0 : Int32) (m_size0 : Int32) (m_isWrong : Int32) (a0 : Int32) (u : (Nat → Int32) × Int32 × (Nat → Int32) × (Nat → Int32)) (hf : f_X10_does m_m m_thrown m_fitting m_given m_commands a0 = some u) : cm l D (jT t) yX10_does cX10_does 5 none { frames := 6, cells := 0, slots := 0, locals := 142 } [.ref (ad o), .int a0] (wM t ad o m_m m_aside m_saved m_isSaved m_past m_changes m_errorAt m_failed m_thrown m_input m_inputMany m_fitting m_given m_pairs m_line m_lineMany m_letters m_begins0 m_commands m_commandMany m_place0 m_size0 m_isWrong) (fun v w => v = none ∧ w = wM t ad o u.1 m_aside m_saved m_isSaved m_past m_changes m_errorAt m_failed u.2.1 m_input m_inputMany u.2.2.1 u.2.2.2 m_pairs m_line m_lineMany m_letters m_begins0 m_commands m_commandMany m_place0 m_size0 m_isWrong) := by
  refine cm_of RX10 rfl (by decide +kernel) (Nat.le_of_ble_eq_true rfl) (fun X hX hE => ?_)
  change J X 0 0 (wM t ad o m_m m_aside m_saved m_isSaved m_past m_changes m_errorAt m_failed m_thrown m_input m_inputMany m_fitting m_given m_pairs m_line m_lineMany m_letters m_begins0 m_commands m_commandMany m_place0 m_size0 m_isWrong) 0 [(0, .ref (ad o)), (1, .int a0)] []
  unfold f_X10_does at hf
  refine j_aload_n hX dX10_does_0 rfl 0 rfl ?_
  refine j_get hX dX10_does_1 inX10 18 q1473 0 rfl rfl (by decide) rfl rfl ?_
  refine j_iload_n hX dX10_does_4 rfl 1 rfl ?_
  refine j_iconst hX 1 dX10_does_5 (by decide) ?_
  refine j_iadd hX dX10_does_6 ?_
  refine j_iald hX dX10_does_7 12 0 rfl rfl hf (fun c7 hf => ?_)
  refine j_istore_n hX [(2, .int (m_commands (a0 + 1).toNatClampNeg)), (0, .ref (ad o)), (1, .int a0)] dX10_does_8 rfl (by decide) rfl ?_
  refine j_aload_n hX dX10_does_9 rfl 1 rfl ?_
  refine j_get hX dX10_does_10 inX10 18 q1473 0 rfl rfl (by decide) rfl rfl ?_
  refine j_iload_n hX dX10_does_13 rfl 2 rfl ?_
  refine j_iconst hX 2 dX10_does_14 (by decide) ?_
  refine j_iadd hX dX10_does_15 ?_
  refine j_iald hX dX10_does_16 12 0 rfl rfl hf (fun c16 hf => ?_)
  refine j_istore_n hX [(3, .int (m_commands (a0 + 2).toNatClampNeg)), (2, .int (m_commands (a0 + 1).toNatClampNeg)), (0, .ref (ad o)), (1, .int a0)] dX10_does_17 rfl (by decide) rfl ?_
  refine j_aload_n hX dX10_does_18 rfl 2 rfl ?_
  refine j_get hX dX10_does_19 inX10 18 q1473 0 rfl rfl (by decide) rfl rfl ?_
  refine j_iload_n hX dX10_does_22 rfl 3 rfl ?_
  refine j_iconst hX 3 dX10_does_23 (by decide) ?_
  refine j_iadd hX dX10_does_24 ?_
  refine j_iald hX dX10_does_25 12 0 rfl rfl hf (fun c25 hf => ?_)
  refine j_istore hX [(4, .int (m_commands (a0 + 3).toNatClampNeg)), (3, .int (m_commands (a0 + 2).toNatClampNeg)), (2, .int (m_commands (a0 + 1).toNatClampNeg)), (0, .ref (ad o)), (1, .int a0)] dX10_does_26 (by decide) rfl ?_
  refine j_aload_n hX dX10_does_28 rfl 3 rfl ?_
  refine j_get hX dX10_does_29 inX10 18 q1473 0 rfl rfl (by decide) rfl rfl ?_
  refine j_iload_n hX dX10_does_32 rfl 4 rfl ?_
  refine j_iald hX dX10_does_33 12 0 rfl rfl hf (fun c33 hf => ?_)
  by_cases n34_0 : (m_commands (a0).toNatClampNeg) = 0
  · rw [if_pos n34_0] at hf
    refine j_tab_c hX 191 dX10_does_34 [(0, 84), (1, 94), (2, 104), (3, 116), (4, 144), (5, 153), (6, 162), (7, 170), (8, 182)] (by decide) 0 n34_0 rfl ?_
    refine j_aload_n hX dX10_does_84 rfl 3 rfl ?_
    refine j_iload_n hX dX10_does_85 rfl 2 rfl ?_
    refine j_iload_n hX dX10_does_86 rfl 1 rfl ?_
    obtain ⟨u3, h4, hf⟩ := jbind hf
    refine j_callV (st := []) hX (k_X10_hammerIt (l := l) (D := D) (t := t) (ad := ad) (o := o) m_m m_aside m_saved m_isSaved m_past m_changes m_errorAt m_failed m_thrown m_input m_inputMany m_fitting m_given m_pairs m_line m_lineMany m_letters m_begins0 m_commands m_commandMany m_place0 m_size0 m_isWrong (m_commands (a0 + 1).toNatClampNeg) (m_commands (a0 + 2).toNatClampNeg) u3 h4) q1489 q1490 q1950 q15 q1491 (n9 := 2) rfl ⟨by decide +kernel, by decide +kernel⟩ 0 rfl rfl rfl dX10_does_87 (Nat.le_of_ble_eq_true rfl) ⟨Nat.le_refl _, Nat.le_refl _⟩ (fun w : va_W => w) jFr_id rfl rfl (fun v w hvw => ?_)
    obtain ⟨rfl, rfl⟩ := hvw
    change J X 0 0 (wM t ad o u3.2.1 m_aside m_saved m_isSaved m_past m_changes m_errorAt m_failed u3.2.2 m_input m_inputMany m_fitting m_given m_pairs m_line m_lineMany m_letters m_begins0 m_commands m_commandMany m_place0 m_size0 m_isWrong) 90 [(4, .int (m_commands (a0 + 3).toNatClampNeg)), (3, .int (m_commands (a0 + 2).toNatClampNeg)), (2, .int (m_commands (a0 + 1).toNatClampNeg)), (0, .ref (ad o)), (1, .int a0)] [.int u3.1]
    refine j_pop hX dX10_does_90 rfl ?_
    refine j_goto hX 197 dX10_does_91 (by decide) ?_
    cases hf
    exact j_vret hX hE dX10_does_197 (Nat.le_refl _) (Nat.le_refl _) ⟨rfl, rfl⟩
  rw [if_neg n34_0] at hf
  by_cases n34_1 : (m_commands (a0).toNatClampNeg) = 1
  · rw [if_pos n34_1] at hf
    refine j_tab_c hX 191 dX10_does_34 [(0, 84), (1, 94), (2, 104), (3, 116), (4, 144), (5, 153), (6, 162), (7, 170), (8, 182)] (by decide) 1 n34_1 rfl ?_
    refine j_aload_n hX dX10_does_94 rfl 3 rfl ?_
    refine j_iload_n hX dX10_does_95 rfl 2 rfl ?_
    refine j_iload_n hX dX10_does_96 rfl 1 rfl ?_
    obtain ⟨u5, h6, hf⟩ := jbind hf
    refine j_callV (st := []) hX (k_X10_moveIt (l := l) (D := D) (t := t) (ad := ad) (o := o) m_m m_aside m_saved m_isSaved m_past m_changes m_errorAt m_failed m_thrown m_input m_inputMany m_fitting m_given m_pairs m_line m_lineMany m_letters m_begins0 m_commands m_commandMany m_place0 m_size0 m_isWrong (m_commands (a0 + 1).toNatClampNeg) (m_commands (a0 + 2).toNatClampNeg) u5 h6) q1519 q1520 q1955 q15 q1521 (n9 := 2) rfl ⟨by decide +kernel, by decide +kernel⟩ 0 rfl rfl rfl dX10_does_97 (Nat.le_of_ble_eq_true rfl) ⟨Nat.le_refl _, Nat.le_refl _⟩ (fun w : va_W => w) jFr_id rfl rfl (fun v w hvw => ?_)
    obtain ⟨rfl, rfl⟩ := hvw
    change J X 0 0 (wM t ad o u5.2.1 m_aside m_saved m_isSaved m_past m_changes m_errorAt m_failed u5.2.2 m_input m_inputMany m_fitting m_given m_pairs m_line m_lineMany m_letters m_begins0 m_commands m_commandMany m_place0 m_size0 m_isWrong) 100 [(4, .int (m_commands (a0 + 3).toNatClampNeg)), (3, .int (m_commands (a0 + 2).toNatClampNeg)), (2, .int (m_commands (a0 + 1).toNatClampNeg)), (0, .ref (ad o)), (1, .int a0)] [.int u5.1]
    refine j_pop hX dX10_does_100 rfl ?_
    refine j_goto hX 197 dX10_does_101 (by decide) ?_
    cases hf
    exact j_vret hX hE dX10_does_197 (Nat.le_refl _) (Nat.le_refl _) ⟨rfl, rfl⟩
  rw [if_neg n34_1] at hf
  by_cases n34_2 : (m_commands (a0).toNatClampNeg) = 2
  · rw [if_pos n34_2] at hf
    refine j_tab_c hX 191 dX10_does_34 [(0, 84), (1, 94), (2, 104), (3, 116), (4, 144), (5, 153), (6, 162), (7, 170), (8, 182)] (by decide) 2 n34_2 rfl ?_
    refine j_aload_n hX dX10_does_104 rfl 3 rfl ?_
    refine j_iload_n hX dX10_does_105 rfl 2 rfl ?_
    refine j_iload_n hX dX10_does_106 rfl 1 rfl ?_
    refine j_iload hX dX10_does_107 0 rfl ?_
    obtain ⟨u7, h8, hf⟩ := jbind hf
    refine j_callV (st := []) hX (k_X10_swapIt (l := l) (D := D) (t := t) (ad := ad) (o := o) m_m m_aside m_saved m_isSaved m_past m_changes m_errorAt m_failed m_thrown m_input m_inputMany m_fitting m_given m_pairs m_line m_lineMany m_letters m_begins0 m_commands m_commandMany m_place0 m_size0 m_isWrong (m_commands (a0 + 1).toNatClampNeg) (m_commands (a0 + 2).toNatClampNeg) (m_commands (a0 + 3).toNatClampNeg) u7 h8) q1529 q1530 q1957 q15 q1531 (n9 := 3) rfl ⟨by decide +kernel, by decide +kernel⟩ 0 rfl rfl rfl dX10_does_109 (Nat.le_of_ble_eq_true rfl) ⟨Nat.le_refl _, Nat.le_refl _⟩ (fun w : va_W => w) jFr_id rfl rfl (fun v w hvw => ?_)
    obtain ⟨rfl, rfl⟩ := hvw
    change J X 0 0 (wM t ad o u7.2.1 m_aside m_saved m_isSaved m_past m_changes m_errorAt m_failed u7.2.2 m_input m_inputMany m_fitting m_given m_pairs m_line m_lineMany m_letters m_begins0 m_commands m_commandMany m_place0 m_size0 m_isWrong) 112 [(4, .int (m_commands (a0 + 3).toNatClampNeg)), (3, .int (m_commands (a0 + 2).toNatClampNeg)), (2, .int (m_commands (a0 + 1).toNatClampNeg)), (0, .ref (ad o)), (1, .int a0)] [.int u7.1]
    refine j_pop hX dX10_does_112 rfl ?_
    refine j_goto hX 197 dX10_does_113 (by decide) ?_
    cases hf
    exact j_vret hX hE dX10_does_197 (Nat.le_refl _) (Nat.le_refl _) ⟨rfl, rfl⟩
  rw [if_neg n34_2] at hf
  by_cases n34_3 : (m_commands (a0).toNatClampNeg) = 3
  · rw [if_pos n34_3] at hf
    refine j_tab_c hX 191 dX10_does_34 [(0, 84), (1, 94), (2, 104), (3, 116), (4, 144), (5, 153), (6, 162), (7, 170), (8, 182)] (by decide) 3 n34_3 rfl ?_
    refine j_aload_n hX dX10_does_116 rfl 3 rfl ?_
    refine j_iload_n hX dX10_does_117 rfl 2 rfl ?_
    refine j_iload_n hX dX10_does_118 rfl 1 rfl ?_
    refine j_iload hX dX10_does_119 0 rfl ?_
    refine j_aload_n hX dX10_does_121 rfl 3 rfl ?_
    refine j_get hX dX10_does_122 inX10 18 q1473 0 rfl rfl (by decide) rfl rfl ?_
    refine j_iload_n hX dX10_does_125 rfl 4 rfl ?_
    refine j_iconst hX 4 dX10_does_126 (by decide) ?_
    refine j_iadd hX dX10_does_127 ?_
    refine j_iald hX dX10_does_128 12 0 rfl rfl hf (fun c128 hf => ?_)
    refine j_aload_n hX dX10_does_129 rfl 3 rfl ?_
    refine j_get hX dX10_does_130 inX10 18 q1473 0 rfl rfl (by decide) rfl rfl ?_
    refine j_iload_n hX dX10_does_133 rfl 4 rfl ?_
    refine j_iconst hX 5 dX10_does_134 (by decide) ?_
    refine j_iadd hX dX10_does_135 ?_
    refine j_iald hX dX10_does_136 12 0 rfl rfl hf (fun c136 hf => ?_)
    obtain ⟨u9, h10, hf⟩ := jbind hf
    refine j_callV (st := []) hX (k_X10_askIt (l := l) (D := D) (t := t) (ad := ad) (o := o) m_m m_aside m_saved m_isSaved m_past m_changes m_errorAt m_failed m_thrown m_input m_inputMany m_fitting m_given m_pairs m_line m_lineMany m_letters m_begins0 m_commands m_commandMany m_place0 m_size0 m_isWrong (m_commands (a0 + 1).toNatClampNeg) (m_commands (a0 + 2).toNatClampNeg) (m_commands (a0 + 3).toNatClampNeg) (m_commands (a0 + 4).toNatClampNeg) (m_commands (a0 + 5).toNatClampNeg) u9 h10) q1549 q1550 q1961 q15 q1551 (n9 := 5) rfl ⟨by decide +kernel, by decide +kernel⟩ 0 rfl rfl rfl dX10_does_137 (Nat.le_of_ble_eq_true rfl) ⟨Nat.le_refl _, Nat.le_refl _⟩ (fun w : va_W => w) jFr_id rfl rfl (fun v w hvw => ?_)
    obtain ⟨rfl, rfl⟩ := hvw
    change J X 0 0 (wM t ad o u9.2.1 m_aside m_saved m_isSaved m_past m_changes m_errorAt m_failed u9.2.2 m_input m_inputMany m_fitting m_given m_pairs m_line m_lineMany m_letters m_begins0 m_commands m_commandMany m_place0 m_size0 m_isWrong) 140 [(4, .int (m_commands (a0 + 3).toNatClampNeg)), (3, .int (m_commands (a0 + 2).toNatClampNeg)), (2, .int (m_commands (a0 + 1).toNatClampNeg)), (0, .ref (ad o)), (1, .int a0)] [.int u9.1]
    refine j_pop hX dX10_does_140 rfl ?_
    refine j_goto hX 197 dX10_does_141 (by decide) ?_
    cases hf
    exact j_vret hX hE dX10_does_197 (Nat.le_refl _) (Nat.le_refl _) ⟨rfl, rfl⟩
  rw [if_neg n34_3] at hf
  by_cases n34_4 : (m_commands (a0).toNatClampNeg) = 4
  · rw [if_pos n34_4] at hf
    refine j_tab_c hX 191 dX10_does_34 [(0, 84), (1, 94), (2, 104), (3, 116), (4, 144), (5, 153), (6, 162), (7, 170), (8, 182)] (by decide) 4 n34_4 rfl ?_
    refine j_aload_n hX dX10_does_144 rfl 3 rfl ?_
    refine j_iload_n hX dX10_does_145 rfl 2 rfl ?_
    obtain ⟨u11, h12, hf⟩ := jbind hf
    refine j_callV (st := []) hX (k_X10_dropIt (l := l) (D := D) (t := t) (ad := ad) (o := o) m_m m_aside m_saved m_isSaved m_past m_changes m_errorAt m_failed m_thrown m_input m_inputMany m_fitting m_given m_pairs m_line m_lineMany m_letters m_begins0 m_commands m_commandMany m_place0 m_size0 m_isWrong (m_commands (a0 + 1).toNatClampNeg) u11 h12) q1561 q1562 q1962 q15 q1563 (n9 := 1) rfl ⟨by decide +kernel, by decide +kernel⟩ 0 rfl rfl rfl dX10_does_146 (Nat.le_of_ble_eq_true rfl) ⟨Nat.le_refl _, Nat.le_refl _⟩ (fun w : va_W => w) jFr_id rfl rfl (fun v w hvw => ?_)
    obtain ⟨rfl, rfl⟩ := hvw
    change J X 0 0 (wM t ad o u11.2.1 m_aside m_saved m_isSaved m_past m_changes m_errorAt m_failed u11.2.2 m_input m_inputMany m_fitting m_given m_pairs m_line m_lineMany m_letters m_begins0 m_commands m_commandMany m_place0 m_size0 m_isWrong) 149 [(4, .int (m_commands (a0 + 3).toNatClampNeg)), (3, .int (m_commands (a0 + 2).toNatClampNeg)), (2, .int (m_commands (a0 + 1).toNatClampNeg)), (0, .ref (ad o)), (1, .int a0)] [.int u11.1]
    refine j_pop hX dX10_does_149 rfl ?_
    refine j_goto hX 197 dX10_does_150 (by decide) ?_
    cases hf
    exact j_vret hX hE dX10_does_197 (Nat.le_refl _) (Nat.le_refl _) ⟨rfl, rfl⟩
  rw [if_neg n34_4] at hf
  by_cases n34_5 : (m_commands (a0).toNatClampNeg) = 5
  · rw [if_pos n34_5] at hf
    refine j_tab_c hX 191 dX10_does_34 [(0, 84), (1, 94), (2, 104), (3, 116), (4, 144), (5, 153), (6, 162), (7, 170), (8, 182)] (by decide) 5 n34_5 rfl ?_
    refine j_aload_n hX dX10_does_153 rfl 3 rfl ?_
    refine j_iload_n hX dX10_does_154 rfl 2 rfl ?_
    obtain ⟨u13, h14, hf⟩ := jbind hf
    refine j_callV (st := []) hX (k_X10_grantIt (l := l) (D := D) (t := t) (ad := ad) (o := o) m_m m_aside m_saved m_isSaved m_past m_changes m_errorAt m_failed m_thrown m_input m_inputMany m_fitting m_given m_pairs m_line m_lineMany m_letters m_begins0 m_commands m_commandMany m_place0 m_size0 m_isWrong (m_commands (a0 + 1).toNatClampNeg) u13 h14) q1574 q1575 q1965 q15 q1576 (n9 := 1) rfl ⟨by decide +kernel, by decide +kernel⟩ 0 rfl rfl rfl dX10_does_155 (Nat.le_of_ble_eq_true rfl) ⟨Nat.le_refl _, Nat.le_refl _⟩ (fun w : va_W => w) jFr_id rfl rfl (fun v w hvw => ?_)
    obtain ⟨rfl, rfl⟩ := hvw
    change J X 0 0 (wM t ad o u13.2.1 m_aside m_saved m_isSaved m_past m_changes m_errorAt m_failed u13.2.2 m_input m_inputMany m_fitting m_given m_pairs m_line m_lineMany m_letters m_begins0 m_commands m_commandMany m_place0 m_size0 m_isWrong) 158 [(4, .int (m_commands (a0 + 3).toNatClampNeg)), (3, .int (m_commands (a0 + 2).toNatClampNeg)), (2, .int (m_commands (a0 + 1).toNatClampNeg)), (0, .ref (ad o)), (1, .int a0)] [.int u13.1]
    refine j_pop hX dX10_does_158 rfl ?_
    refine j_goto hX 197 dX10_does_159 (by decide) ?_
    cases hf
    exact j_vret hX hE dX10_does_197 (Nat.le_refl _) (Nat.le_refl _) ⟨rfl, rfl⟩
  rw [if_neg n34_5] at hf
  by_cases n34_6 : (m_commands (a0).toNatClampNeg) = 6
  · rw [if_pos n34_6] at hf
    refine j_tab_c hX 191 dX10_does_34 [(0, 84), (1, 94), (2, 104), (3, 116), (4, 144), (5, 153), (6, 162), (7, 170), (8, 182)] (by decide) 6 n34_6 rfl ?_
    refine j_aload_n hX dX10_does_162 rfl 3 rfl ?_
    obtain ⟨u15, h16, hf⟩ := jbind hf
    refine j_callV (st := []) hX (k_X10_mostIt (l := l) (D := D) (t := t) (ad := ad) (o := o) m_m m_aside m_saved m_isSaved m_past m_changes m_errorAt m_failed m_thrown m_input m_inputMany m_fitting m_given m_pairs m_line m_lineMany m_letters m_begins0 m_commands m_commandMany m_place0 m_size0 m_isWrong  u15 h16) q1597 q1598 q1970 q15 q1599 (n9 := 0) rfl ⟨by decide +kernel, by decide +kernel⟩ 0 rfl rfl rfl dX10_does_163 (Nat.le_of_ble_eq_true rfl) ⟨Nat.le_refl _, Nat.le_refl _⟩ (fun w : va_W => w) jFr_id rfl rfl (fun v w hvw => ?_)
    obtain ⟨rfl, rfl⟩ := hvw
    change J X 0 0 (wM t ad o u15.2.1 m_aside m_saved m_isSaved m_past m_changes m_errorAt m_failed m_thrown m_input m_inputMany u15.2.2.1 u15.2.2.2 m_pairs m_line m_lineMany m_letters m_begins0 m_commands m_commandMany m_place0 m_size0 m_isWrong) 166 [(4, .int (m_commands (a0 + 3).toNatClampNeg)), (3, .int (m_commands (a0 + 2).toNatClampNeg)), (2, .int (m_commands (a0 + 1).toNatClampNeg)), (0, .ref (ad o)), (1, .int a0)] [.int u15.1]
    refine j_pop hX dX10_does_166 rfl ?_
    refine j_goto hX 197 dX10_does_167 (by decide) ?_
    cases hf
    exact j_vret hX hE dX10_does_197 (Nat.le_refl _) (Nat.le_refl _) ⟨rfl, rfl⟩
  rw [if_neg n34_6] at hf
  by_cases n34_7 : (m_commands (a0).toNatClampNeg) = 7
  · rw [if_pos n34_7] at hf
    refine j_tab_c hX 191 dX10_does_34 [(0, 84), (1, 94), (2, 104), (3, 116), (4, 144), (5, 153), (6, 162), (7, 170), (8, 182)] (by decide) 7 n34_7 rfl ?_
    refine j_aload_n hX dX10_does_170 rfl 3 rfl ?_
    refine j_iload_n hX dX10_does_171 rfl 2 rfl ?_
    refine j_iload_n hX dX10_does_172 rfl 1 rfl ?_
    refine j_iload hX dX10_does_173 0 rfl ?_
    obtain ⟨u17, h18, hf⟩ := jbind hf
    refine j_callV (st := []) hX (k_X10_backIt (l := l) (D := D) (t := t) (ad := ad) (o := o) m_m m_aside m_saved m_isSaved m_past m_changes m_errorAt m_failed m_thrown m_input m_inputMany m_fitting m_given m_pairs m_line m_lineMany m_letters m_begins0 m_commands m_commandMany m_place0 m_size0 m_isWrong (m_commands (a0 + 1).toNatClampNeg) (m_commands (a0 + 2).toNatClampNeg) (m_commands (a0 + 3).toNatClampNeg) u17 h18) q1620 q1621 q1975 q15 q1622 (n9 := 3) rfl ⟨by decide +kernel, by decide +kernel⟩ 0 rfl rfl rfl dX10_does_175 (Nat.le_of_ble_eq_true rfl) ⟨Nat.le_refl _, Nat.le_refl _⟩ (fun w : va_W => w) jFr_id rfl rfl (fun v w hvw => ?_)
    obtain ⟨rfl, rfl⟩ := hvw
    change J X 0 0 (wM t ad o u17.2.1 m_aside m_saved m_isSaved m_past m_changes m_errorAt m_failed u17.2.2 m_input m_inputMany m_fitting m_given m_pairs m_line m_lineMany m_letters m_begins0 m_commands m_commandMany m_place0 m_size0 m_isWrong) 178 [(4, .int (m_commands (a0 + 3).toNatClampNeg)), (3, .int (m_commands (a0 + 2).toNatClampNeg)), (2, .int (m_commands (a0 + 1).toNatClampNeg)), (0, .ref (ad o)), (1, .int a0)] [.int u17.1]
    refine j_pop hX dX10_does_178 rfl ?_
    refine j_goto hX 197 dX10_does_179 (by decide) ?_
    cases hf
    exact j_vret hX hE dX10_does_197 (Nat.le_refl _) (Nat.le_refl _) ⟨rfl, rfl⟩
  rw [if_neg n34_7] at hf
  by_cases n34_8 : (m_commands (a0).toNatClampNeg) = 8
  · rw [if_pos n34_8] at hf
    refine j_tab_c hX 191 dX10_does_34 [(0, 84), (1, 94), (2, 104), (3, 116), (4, 144), (5, 153), (6, 162), (7, 170), (8, 182)] (by decide) 8 n34_8 rfl ?_
    refine j_aload_n hX dX10_does_182 rfl 3 rfl ?_
    refine j_iload_n hX dX10_does_183 rfl 2 rfl ?_
    obtain ⟨u19, h20, hf⟩ := jbind hf
    refine j_callV (st := []) hX (k_X10_faceIt (l := l) (D := D) (t := t) (ad := ad) (o := o) m_m m_aside m_saved m_isSaved m_past m_changes m_errorAt m_failed m_thrown m_input m_inputMany m_fitting m_given m_pairs m_line m_lineMany m_letters m_begins0 m_commands m_commandMany m_place0 m_size0 m_isWrong (m_commands (a0 + 1).toNatClampNeg) u19 h20) q1629 q1630 q1976 q15 q1631 (n9 := 1) rfl ⟨by decide +kernel, by decide +kernel⟩ 0 rfl rfl rfl dX10_does_184 (Nat.le_of_ble_eq_true rfl) ⟨Nat.le_refl _, Nat.le_refl _⟩ (fun w : va_W => w) jFr_id rfl rfl (fun v w hvw => ?_)
    obtain ⟨rfl, rfl⟩ := hvw
    change J X 0 0 (wM t ad o u19.2.1 m_aside m_saved m_isSaved m_past m_changes m_errorAt m_failed u19.2.2 m_input m_inputMany m_fitting m_given m_pairs m_line m_lineMany m_letters m_begins0 m_commands m_commandMany m_place0 m_size0 m_isWrong) 187 [(4, .int (m_commands (a0 + 3).toNatClampNeg)), (3, .int (m_commands (a0 + 2).toNatClampNeg)), (2, .int (m_commands (a0 + 1).toNatClampNeg)), (0, .ref (ad o)), (1, .int a0)] [.int u19.1]
    refine j_pop hX dX10_does_187 rfl ?_
    refine j_goto hX 197 dX10_does_188 (by decide) ?_
    cases hf
    exact j_vret hX hE dX10_does_197 (Nat.le_refl _) (Nat.le_refl _) ⟨rfl, rfl⟩
  rw [if_neg n34_8] at hf
  refine j_tab_d hX 191 dX10_does_34 [(0, 84), (1, 94), (2, 104), (3, 116), (4, 144), (5, 153), (6, 162), (7, 170), (8, 182)] (by decide) ⟨n34_0, n34_1, n34_2, n34_3, n34_4, n34_5, n34_6, n34_7, n34_8, trivial⟩ ?_
  refine j_aload_n hX dX10_does_191 rfl 3 rfl ?_
  refine j_iload_n hX dX10_does_192 rfl 2 rfl ?_
  obtain ⟨u1, h2, hf⟩ := jbind hf
  refine j_callV (st := []) hX (k_X10_daysIt (l := l) (D := D) (t := t) (ad := ad) (o := o) m_m m_aside m_saved m_isSaved m_past m_changes m_errorAt m_failed m_thrown m_input m_inputMany m_fitting m_given m_pairs m_line m_lineMany m_letters m_begins0 m_commands m_commandMany m_place0 m_size0 m_isWrong (m_commands (a0 + 1).toNatClampNeg) u1 h2) q1636 q1637 q1977 q15 q1638 (n9 := 1) rfl ⟨by decide +kernel, by decide +kernel⟩ 0 rfl rfl rfl dX10_does_193 (Nat.le_of_ble_eq_true rfl) ⟨Nat.le_refl _, Nat.le_refl _⟩ (fun w : va_W => w) jFr_id rfl rfl (fun v w hvw => ?_)
  obtain ⟨rfl, rfl⟩ := hvw
  change J X 0 0 (wM t ad o u1.2.1 m_aside m_saved m_isSaved m_past m_changes m_errorAt m_failed u1.2.2 m_input m_inputMany m_fitting m_given m_pairs m_line m_lineMany m_letters m_begins0 m_commands m_commandMany m_place0 m_size0 m_isWrong) 196 [(4, .int (m_commands (a0 + 3).toNatClampNeg)), (3, .int (m_commands (a0 + 2).toNatClampNeg)), (2, .int (m_commands (a0 + 1).toNatClampNeg)), (0, .ref (ad o)), (1, .int a0)] [.int u1.1]
  refine j_pop hX dX10_does_196 rfl ?_
  cases hf
  exact j_vret hX hE dX10_does_197 (Nat.le_refl _) (Nat.le_refl _) ⟨rfl, rfl⟩
-- HammerDepotModel runScript ()I
def f_X10_runScript_L34 (m_input : Nat → Int32) (m_letters : Nat → Int32) (m_begins0 : Nat → Int32) (m_size0 : Int32) : Nat → Int32 → (Nat → Int32) → Int32 → Int32 → Int32 → Option (Int32 × (Nat → Int32) × Int32 × Int32 × Int32)
  | 0, _, _, _, _, _ => none
  | jn + 1, x1, m_commands, m_commandMany, m_place0, m_isWrong =>
    if x1 = 0 then
      some (x1, m_commands, m_commandMany, m_place0, m_isWrong)
    else
      Option.bind (f_X10_readCommand m_input m_letters m_begins0 m_commands m_commandMany m_place0 m_size0 m_isWrong) (fun u3 =>
        if u3.2.2.2 = 0 then
          if m_size0 ≤ u3.2.2.1 then
            f_X10_runScript_L34 m_input m_letters m_begins0 m_size0 jn 0 u3.1 u3.2.1 u3.2.2.1 u3.2.2.2
          else
            Option.bind (f_X10_expects m_input u3.2.2.1 m_size0 u3.2.2.2 59) (fun u5 =>
              if u5.2 = 0 then
                f_X10_runScript_L34 m_input m_letters m_begins0 m_size0 jn 1 u3.1 u3.2.1 u5.1 u5.2
              else
                f_X10_runScript_L34 m_input m_letters m_begins0 m_size0 jn 0 u3.1 u3.2.1 u5.1 u5.2)
        else
          f_X10_runScript_L34 m_input m_letters m_begins0 m_size0 jn 0 u3.1 u3.2.1 u3.2.2.1 u3.2.2.2)
def f_X10_runScript_L140 (m_aside : Nat → Int32) : Nat → Int32 → (Nat → Int32) → Option (Int32 × (Nat → Int32))
  | 0, _, _ => none
  | jn + 1, x3, m_m =>
    if 2048 ≤ x3 then
      some (x3, m_m)
    else
      if jin x3 2048 = true then
        if jin x3 2048 = true then
          f_X10_runScript_L140 m_aside jn (x3 + 1) (upd m_m (x3).toNatClampNeg (m_aside (x3).toNatClampNeg))
        else none
      else none
def f_X10_runScript_L115 (m_aside : Nat → Int32) (m_past : Nat → Int32) (m_changes : Int32) (m_errorAt : Int32) (m_inputMany : Int32) (m_commands : Nat → Int32) (m_commandMany : Int32) (m_place0 : Int32) (m_size0 : Int32) (m_isWrong : Int32) : Nat → Int32 → (Nat → Int32) → Int32 → Int32 → (Nat → Int32) → (Nat → Int32) → Option ((Int32 × (Nat → Int32) × (Nat → Int32) × (Nat → Int32) × Int32 × Int32 × Int32 × Int32 × Int32 × (Nat → Int32) × (Nat → Int32) × (Nat → Int32) × Int32 × Int32 × Int32 × Int32) ⊕ (Int32 × (Nat → Int32) × Int32 × Int32 × (Nat → Int32) × (Nat → Int32)))
  | 0, _, _, _, _, _, _ => none
  | jn + 1, x2, m_m, m_failed, m_thrown, m_fitting, m_given =>
    if m_commandMany ≤ x2 then
      some (.inr (x2, m_m, m_failed, m_thrown, m_fitting, m_given))
    else
      Option.bind (f_X10_does m_m m_thrown m_fitting m_given m_commands ((6 : Int32) * x2)) (fun u10 =>
        if u10.2.1 ≤ 0 then
          f_X10_runScript_L115 m_aside m_past m_changes m_errorAt m_inputMany m_commands m_commandMany m_place0 m_size0 m_isWrong jn (x2 + 1) u10.1 m_failed u10.2.1 u10.2.2.1 u10.2.2.2
        else
          Option.bind (f_X10_runScript_L140 m_aside jFU 0 u10.1) (fun s13 =>
            Option.bind (f_X10_throwing u10.2.1 2) (fun u15 =>
              some (.inl (u15.1, s13.2, m_aside, m_past, m_changes, m_errorAt, x2, u15.2, m_inputMany, u10.2.2.1, u10.2.2.2, m_commands, m_commandMany, m_place0, m_size0, m_isWrong)))))
def f_X10_runScript (m_m : Nat → Int32) (m_aside : Nat → Int32) (m_past : Nat → Int32) (m_changes : Int32) (m_errorAt : Int32) (m_failed : Int32) (m_thrown : Int32) (m_input : Nat → Int32) (m_inputMany : Int32) (m_fitting : Nat → Int32) (m_given : Nat → Int32) (m_letters : Nat → Int32) (m_begins0 : Nat → Int32) (m_commands : Nat → Int32) (m_commandMany : Int32) (m_place0 : Int32) (m_size0 : Int32) (m_isWrong : Int32) : Option (Int32 × (Nat → Int32) × (Nat → Int32) × (Nat → Int32) × Int32 × Int32 × Int32 × Int32 × Int32 × (Nat → Int32) × (Nat → Int32) × (Nat → Int32) × Int32 × Int32 × Int32 × Int32) :=
  Option.bind (f_X10_starts m_m m_aside m_thrown) (fun u1 =>
    Option.bind (f_X10_runScript_L34 m_input m_letters m_begins0 m_inputMany jFU 1 m_commands 0 0 0) (fun s8 =>
      if s8.2.2.2.2 = 0 then
        Option.bind (f_X10_runScript_L115 u1.1 m_past m_changes m_errorAt 0 s8.2.1 s8.2.2.1 s8.2.2.2.1 m_inputMany s8.2.2.2.2 jFU 0 m_m m_failed u1.2 m_fitting m_given) (fun o17 => Sum.elim (fun r => some r) (fun s18 =>
          Option.bind (f_X10_changed u1.1 m_past m_changes s18.2.2.2.1 s8.2.2.1) (fun u20 =>
            some (u20.1, s18.2.1, u1.1, u20.2.1, u20.2.2, m_errorAt, s18.2.2.1, s18.2.2.2.1, 0, s18.2.2.2.2.1, s18.2.2.2.2.2, s8.2.1, s8.2.2.1, s8.2.2.2.1, m_inputMany, s8.2.2.2.2))) o17)
      else
        Option.bind (f_X10_throwing u1.2 1) (fun u22 =>
          some (u22.1, m_m, u1.1, m_past, m_changes, s8.2.2.2.1, m_failed, u22.2, 0, m_fitting, m_given, s8.2.1, s8.2.2.1, s8.2.2.2.1, m_inputMany, s8.2.2.2.2))))
set_option maxHeartbeats 4000000 in
set_option maxRecDepth 100000 in
theorem k_X10_runScript_L34 {l : Launch} {D : va_G} {t : Nat → ClassId} {ad : Nat → Nat} {o : Nat} (m_input : Nat → Int32) (m_letters : Nat → Int32) (m_begins0 : Nat → Int32) (m_size0 : Int32) (m_m : Nat → Int32) (m_aside : Nat → Int32) (m_saved : Nat → Int32) (m_isSaved : Int32) (m_past : Nat → Int32) (m_changes : Int32) (m_errorAt : Int32) (m_failed : Int32) (m_thrown : Int32) (m_inputMany : Int32) (m_fitting : Nat → Int32) (m_given : Nat → Int32) (m_pairs : Nat → Int32) (m_line : Nat → Int32) (m_lineMany : Int32) {X : jX} (hX : jOK X l D (jT t) cX10_runScript RX10 (some FieldType.int) { frames := 7, cells := 0, slots := 0, locals := 166 } 4) :
    ∀ (jn : Nat) (x1 : Int32) (m_commands : Nat → Int32) (m_commandMany : Int32) (m_place0 : Int32) (m_isWrong : Int32) (u : Int32 × (Nat → Int32) × Int32 × Int32 × Int32) (hf : f_X10_runScript_L34 m_input m_letters m_begins0 m_size0 jn x1 m_commands m_commandMany m_place0 m_isWrong = some u) (kx : ∀ s : Int32 × (Nat → Int32) × Int32 × Int32 × Int32, u = s → J X 0 0 (wM t ad o m_m m_aside m_saved m_isSaved m_past m_changes m_errorAt m_failed m_thrown m_input m_inputMany m_fitting m_given m_pairs m_line m_lineMany m_letters m_begins0 s.2.1 s.2.2.1 s.2.2.2.1 m_size0 s.2.2.2.2) 92 [(1, .int s.1), (0, .ref (ad o))] []), J X 0 0 (wM t ad o m_m m_aside m_saved m_isSaved m_past m_changes m_errorAt m_failed m_thrown m_input m_inputMany m_fitting m_given m_pairs m_line m_lineMany m_letters m_begins0 m_commands m_commandMany m_place0 m_size0 m_isWrong) 34 [(1, .int x1), (0, .ref (ad o))] [] := by
  intro jn
  induction jn with
  | zero => intro x1 m_commands m_commandMany m_place0 m_isWrong u hf; cases (show (none : Option (Int32 × (Nat → Int32) × Int32 × Int32 × Int32)) = some u from hf)
  | succ jn ih =>
    intro x1 m_commands m_commandMany m_place0 m_isWrong u hf kx
    unfold f_X10_runScript_L34 at hf
    refine j_iload_n hX dX10_runScript_34 rfl 0 rfl ?_
    refine j_if_eq hX 92 dX10_runScript_35 (by decide) hf (fun c35 hf => ?_) (fun c35 hf => ?_)
    · cases hf
      exact kx _ rfl
    · refine j_aload_n hX dX10_runScript_38 rfl 1 rfl ?_
      obtain ⟨u3, h4, hf⟩ := jbind hf
      refine j_callV (st := []) hX (k_X10_readCommand (l := l) (D := D) (t := t) (ad := ad) (o := o) m_m m_aside m_saved m_isSaved m_past m_changes m_errorAt m_failed m_thrown m_input m_inputMany m_fitting m_given m_pairs m_line m_lineMany m_letters m_begins0 m_commands m_commandMany m_place0 m_size0 m_isWrong  u3 h4) q1837 q1838 q1990 q15 q1839 (n9 := 0) rfl ⟨by decide +kernel, by decide +kernel⟩ 0 rfl rfl rfl dX10_runScript_39 (Nat.le_of_ble_eq_true rfl) ⟨Nat.le_refl _, Nat.le_refl _⟩ (fun w : va_W => w) jFr_id rfl rfl (fun v w hvw => ?_)
      obtain ⟨rfl, rfl⟩ := hvw
      change J X 0 0 (wM t ad o m_m m_aside m_saved m_isSaved m_past m_changes m_errorAt m_failed m_thrown m_input m_inputMany m_fitting m_given m_pairs m_line m_lineMany m_letters m_begins0 u3.1 u3.2.1 u3.2.2.1 m_size0 u3.2.2.2) 42 [(1, .int x1), (0, .ref (ad o))] []
      refine j_aload_n hX dX10_runScript_42 rfl 1 rfl ?_
      refine j_get hX dX10_runScript_43 inX10 22 q1477 0 rfl rfl (by decide) rfl rfl ?_
      refine j_if_ne hX 64 dX10_runScript_46 (by decide) hf (fun c46 hf => ?_) (fun c46 hf => ?_)
      · refine j_iconst hX 0 dX10_runScript_64 (by decide) ?_
        refine j_istore_n hX [(1, .int 0), (0, .ref (ad o))] dX10_runScript_65 rfl (by decide) rfl ?_
        refine j_iload_n hX dX10_runScript_66 rfl 0 rfl ?_
        refine j_if_eq (α := Unit) (F := none) (G := none) (o := none) hX 34 dX10_runScript_67 (by decide) (ite_self none) (fun c67 _ => ?_) (fun c67 _ => absurd c67 (by decide))
        exact ih 0 u3.1 u3.2.1 u3.2.2.1 u3.2.2.2 u hf kx
      · refine j_aload_n hX dX10_runScript_49 rfl 1 rfl ?_
        refine j_get hX dX10_runScript_50 inX10 20 q1475 0 rfl rfl (by decide) rfl rfl ?_
        refine j_aload_n hX dX10_runScript_53 rfl 1 rfl ?_
        refine j_get hX dX10_runScript_54 inX10 21 q1476 0 rfl rfl (by decide) rfl rfl ?_
        refine j_icmp_ge hX 64 dX10_runScript_57 (by decide) hf (fun c57 hf => ?_) (fun c57 hf => ?_)
        · refine j_iconst hX 0 dX10_runScript_64 (by decide) ?_
          refine j_istore_n hX [(1, .int 0), (0, .ref (ad o))] dX10_runScript_65 rfl (by decide) rfl ?_
          refine j_iload_n hX dX10_runScript_66 rfl 0 rfl ?_
          refine j_if_eq (α := Unit) (F := none) (G := none) (o := none) hX 34 dX10_runScript_67 (by decide) (ite_self none) (fun c67 _ => ?_) (fun c67 _ => absurd c67 (by decide))
          exact ih 0 u3.1 u3.2.1 u3.2.2.1 u3.2.2.2 u hf kx
        · refine j_iconst hX 1 dX10_runScript_60 (by decide) ?_
          refine j_goto hX 65 dX10_runScript_61 (by decide) ?_
          refine j_istore_n hX [(1, .int 1), (0, .ref (ad o))] dX10_runScript_65 rfl (by decide) rfl ?_
          refine j_iload_n hX dX10_runScript_66 rfl 0 rfl ?_
          refine j_if_eq (α := Unit) (F := none) (G := none) (o := none) hX 34 dX10_runScript_67 (by decide) (ite_self none) (fun c67 _ => absurd c67 (by decide)) (fun c67 _ => ?_)
          refine j_aload_n hX dX10_runScript_70 rfl 1 rfl ?_
          refine j_bipush hX 59 dX10_runScript_71 (by decide) ?_
          obtain ⟨u5, h6, hf⟩ := jbind hf
          refine j_callV (st := []) hX (k_X10_expects (l := l) (D := D) (t := t) (ad := ad) (o := o) m_m m_aside m_saved m_isSaved m_past m_changes m_errorAt m_failed m_thrown m_input m_inputMany m_fitting m_given m_pairs m_line m_lineMany m_letters m_begins0 u3.1 u3.2.1 u3.2.2.1 m_size0 u3.2.2.2 59 u5 h6) q1860 q1861 q1997 q15 q1862 (n9 := 1) rfl ⟨by decide +kernel, by decide +kernel⟩ 0 rfl rfl rfl dX10_runScript_73 (Nat.le_of_ble_eq_true rfl) ⟨Nat.le_refl _, Nat.le_refl _⟩ (fun w : va_W => w) jFr_id rfl rfl (fun v w hvw => ?_)
          obtain ⟨rfl, rfl⟩ := hvw
          change J X 0 0 (wM t ad o m_m m_aside m_saved m_isSaved m_past m_changes m_errorAt m_failed m_thrown m_input m_inputMany m_fitting m_given m_pairs m_line m_lineMany m_letters m_begins0 u3.1 u3.2.1 u5.1 m_size0 u5.2) 76 [(1, .int 1), (0, .ref (ad o))] []
          refine j_aload_n hX dX10_runScript_76 rfl 1 rfl ?_
          refine j_get hX dX10_runScript_77 inX10 22 q1477 0 rfl rfl (by decide) rfl rfl ?_
          refine j_if_ne hX 87 dX10_runScript_80 (by decide) hf (fun c80 hf => ?_) (fun c80 hf => ?_)
          · refine j_iconst hX 0 dX10_runScript_87 (by decide) ?_
            refine j_istore_n hX [(1, .int 0), (0, .ref (ad o))] dX10_runScript_88 rfl (by decide) rfl ?_
            refine j_goto hX 34 dX10_runScript_89 (by decide) ?_
            exact ih 0 u3.1 u3.2.1 u5.1 u5.2 u hf kx
          · refine j_iconst hX 1 dX10_runScript_83 (by decide) ?_
            refine j_goto hX 88 dX10_runScript_84 (by decide) ?_
            refine j_istore_n hX [(1, .int 1), (0, .ref (ad o))] dX10_runScript_88 rfl (by decide) rfl ?_
            refine j_goto hX 34 dX10_runScript_89 (by decide) ?_
            exact ih 1 u3.1 u3.2.1 u5.1 u5.2 u hf kx
set_option maxHeartbeats 4000000 in
set_option maxRecDepth 100000 in
theorem k_X10_runScript_L140 {l : Launch} {D : va_G} {t : Nat → ClassId} {ad : Nat → Nat} {o : Nat} (m_aside : Nat → Int32) (m_saved : Nat → Int32) (m_isSaved : Int32) (m_past : Nat → Int32) (m_changes : Int32) (m_errorAt : Int32) (m_failed : Int32) (m_thrown : Int32) (m_input : Nat → Int32) (m_inputMany : Int32) (m_fitting : Nat → Int32) (m_given : Nat → Int32) (m_pairs : Nat → Int32) (m_line : Nat → Int32) (m_lineMany : Int32) (m_letters : Nat → Int32) (m_begins0 : Nat → Int32) (m_commands : Nat → Int32) (m_commandMany : Int32) (m_place0 : Int32) (m_size0 : Int32) (m_isWrong : Int32) (x2 : Int32) (x1 : Int32) {X : jX} (hX : jOK X l D (jT t) cX10_runScript RX10 (some FieldType.int) { frames := 7, cells := 0, slots := 0, locals := 166 } 4) :
    ∀ (jn : Nat) (x3 : Int32) (m_m : Nat → Int32) (u : Int32 × (Nat → Int32)) (hf : f_X10_runScript_L140 m_aside jn x3 m_m = some u) (kx : ∀ s : Int32 × (Nat → Int32), u = s → J X 0 0 (wM t ad o s.2 m_aside m_saved m_isSaved m_past m_changes m_errorAt m_failed m_thrown m_input m_inputMany m_fitting m_given m_pairs m_line m_lineMany m_letters m_begins0 m_commands m_commandMany m_place0 m_size0 m_isWrong) 165 [(3, .int s.1), (2, .int x2), (1, .int x1), (0, .ref (ad o))] []), J X 0 0 (wM t ad o m_m m_aside m_saved m_isSaved m_past m_changes m_errorAt m_failed m_thrown m_input m_inputMany m_fitting m_given m_pairs m_line m_lineMany m_letters m_begins0 m_commands m_commandMany m_place0 m_size0 m_isWrong) 140 [(3, .int x3), (2, .int x2), (1, .int x1), (0, .ref (ad o))] [] := by
  intro jn
  induction jn with
  | zero => intro x3 m_m u hf; cases (show (none : Option (Int32 × (Nat → Int32))) = some u from hf)
  | succ jn ih =>
    intro x3 m_m u hf kx
    unfold f_X10_runScript_L140 at hf
    refine j_iload_n hX dX10_runScript_140 rfl 0 rfl ?_
    refine j_sipush hX 2048 dX10_runScript_141 (by decide) ?_
    refine j_icmp_ge hX 165 dX10_runScript_144 (by decide) hf (fun c144 hf => ?_) (fun c144 hf => ?_)
    · cases hf
      exact kx _ rfl
    · refine j_aload_n hX dX10_runScript_147 rfl 3 rfl ?_
      refine j_get hX dX10_runScript_148 inX10 0 q1455 0 rfl rfl (by decide) rfl rfl ?_
      refine j_iload_n hX dX10_runScript_151 rfl 0 rfl ?_
      refine j_aload_n hX dX10_runScript_152 rfl 3 rfl ?_
      refine j_get hX dX10_runScript_153 inX10 1 q1456 0 rfl rfl (by decide) rfl rfl ?_
      refine j_iload_n hX dX10_runScript_156 rfl 0 rfl ?_
      refine j_iald hX dX10_runScript_157 2 0 rfl rfl hf (fun c157 hf => ?_)
      refine j_iast hX (wM t ad o (upd m_m (x3).toNatClampNeg (m_aside (x3).toNatClampNeg)) m_aside m_saved m_isSaved m_past m_changes m_errorAt m_failed m_thrown m_input m_inputMany m_fitting m_given m_pairs m_line m_lineMany m_letters m_begins0 m_commands m_commandMany m_place0 m_size0 m_isWrong) dX10_runScript_158 1 0 rfl rfl rfl hf (fun c158 hf => ?_)
      refine j_iinc hX (x3 + 1) [(3, .int (x3 + 1)), (2, .int x2), (1, .int x1), (0, .ref (ad o))] dX10_runScript_159 0 rfl rfl (by decide) rfl ?_
      refine j_goto hX 140 dX10_runScript_162 (by decide) ?_
      exact ih (x3 + 1) (upd m_m (x3).toNatClampNeg (m_aside (x3).toNatClampNeg)) u hf kx
set_option maxHeartbeats 4000000 in
set_option maxRecDepth 100000 in
theorem k_X10_runScript_L115 {l : Launch} {D : va_G} {t : Nat → ClassId} {ad : Nat → Nat} {o : Nat} (m_aside : Nat → Int32) (m_past : Nat → Int32) (m_changes : Int32) (m_errorAt : Int32) (m_inputMany : Int32) (m_commands : Nat → Int32) (m_commandMany : Int32) (m_place0 : Int32) (m_size0 : Int32) (m_isWrong : Int32) (m_saved : Nat → Int32) (m_isSaved : Int32) (m_input : Nat → Int32) (m_pairs : Nat → Int32) (m_line : Nat → Int32) (m_lineMany : Int32) (m_letters : Nat → Int32) (m_begins0 : Nat → Int32) (x1 : Int32) {X : jX} (hX : jOK X l D (jT t) cX10_runScript RX10 (some FieldType.int) { frames := 7, cells := 0, slots := 0, locals := 166 } 4) {PP : Option Value → va_W → Prop} (hE : jEnd X PP 0 0) :
    ∀ (jn : Nat) (x2 : Int32) (m_m : Nat → Int32) (m_failed : Int32) (m_thrown : Int32) (m_fitting : Nat → Int32) (m_given : Nat → Int32) (u : (Int32 × (Nat → Int32) × (Nat → Int32) × (Nat → Int32) × Int32 × Int32 × Int32 × Int32 × Int32 × (Nat → Int32) × (Nat → Int32) × (Nat → Int32) × Int32 × Int32 × Int32 × Int32) ⊕ (Int32 × (Nat → Int32) × Int32 × Int32 × (Nat → Int32) × (Nat → Int32))) (hf : f_X10_runScript_L115 m_aside m_past m_changes m_errorAt m_inputMany m_commands m_commandMany m_place0 m_size0 m_isWrong jn x2 m_m m_failed m_thrown m_fitting m_given = some u) (kx : ∀ s : Int32 × (Nat → Int32) × Int32 × Int32 × (Nat → Int32) × (Nat → Int32), u = .inr s → J X 0 0 (wM t ad o s.2.1 m_aside m_saved m_isSaved m_past m_changes m_errorAt s.2.2.1 s.2.2.2.1 m_input m_inputMany s.2.2.2.2.1 s.2.2.2.2.2 m_pairs m_line m_lineMany m_letters m_begins0 m_commands m_commandMany m_place0 m_size0 m_isWrong) 182 [(2, .int s.1), (1, .int x1), (0, .ref (ad o))] []) (kr : ∀ r : Int32 × (Nat → Int32) × (Nat → Int32) × (Nat → Int32) × Int32 × Int32 × Int32 × Int32 × Int32 × (Nat → Int32) × (Nat → Int32) × (Nat → Int32) × Int32 × Int32 × Int32 × Int32, u = .inl r → PP (some (.int r.1)) (wM t ad o r.2.1 r.2.2.1 m_saved m_isSaved r.2.2.2.1 r.2.2.2.2.1 r.2.2.2.2.2.1 r.2.2.2.2.2.2.1 r.2.2.2.2.2.2.2.1 m_input r.2.2.2.2.2.2.2.2.1 r.2.2.2.2.2.2.2.2.2.1 r.2.2.2.2.2.2.2.2.2.2.1 m_pairs m_line m_lineMany m_letters m_begins0 r.2.2.2.2.2.2.2.2.2.2.2.1 r.2.2.2.2.2.2.2.2.2.2.2.2.1 r.2.2.2.2.2.2.2.2.2.2.2.2.2.1 r.2.2.2.2.2.2.2.2.2.2.2.2.2.2.1 r.2.2.2.2.2.2.2.2.2.2.2.2.2.2.2)), J X 0 0 (wM t ad o m_m m_aside m_saved m_isSaved m_past m_changes m_errorAt m_failed m_thrown m_input m_inputMany m_fitting m_given m_pairs m_line m_lineMany m_letters m_begins0 m_commands m_commandMany m_place0 m_size0 m_isWrong) 115 [(2, .int x2), (1, .int x1), (0, .ref (ad o))] [] := by
  intro jn
  induction jn with
  | zero => intro x2 m_m m_failed m_thrown m_fitting m_given u hf; cases (show (none : Option ((Int32 × (Nat → Int32) × (Nat → Int32) × (Nat → Int32) × Int32 × Int32 × Int32 × Int32 × Int32 × (Nat → Int32) × (Nat → Int32) × (Nat → Int32) × Int32 × Int32 × Int32 × Int32) ⊕ (Int32 × (Nat → Int32) × Int32 × Int32 × (Nat → Int32) × (Nat → Int32)))) = some u from hf)
  | succ jn ih =>
    intro x2 m_m m_failed m_thrown m_fitting m_given u hf kx kr
    unfold f_X10_runScript_L115 at hf
    refine j_iload_n hX dX10_runScript_115 rfl 0 rfl ?_
    refine j_aload_n hX dX10_runScript_116 rfl 2 rfl ?_
    refine j_get hX dX10_runScript_117 inX10 19 q1474 0 rfl rfl (by decide) rfl rfl ?_
    refine j_icmp_ge hX 182 dX10_runScript_120 (by decide) hf (fun c120 hf => ?_) (fun c120 hf => ?_)
    · cases hf
      exact kx _ rfl
    · refine j_aload_n hX dX10_runScript_123 rfl 2 rfl ?_
      refine j_bipush hX 6 dX10_runScript_124 (by decide) ?_
      refine j_iload_n hX dX10_runScript_126 rfl 0 rfl ?_
      refine j_imul hX dX10_runScript_127 ?_
      obtain ⟨u10, h11, hf⟩ := jbind hf
      refine j_callV (st := []) hX (k_X10_does (l := l) (D := D) (t := t) (ad := ad) (o := o) m_m m_aside m_saved m_isSaved m_past m_changes m_errorAt m_failed m_thrown m_input m_inputMany m_fitting m_given m_pairs m_line m_lineMany m_letters m_begins0 m_commands m_commandMany m_place0 m_size0 m_isWrong ((6 : Int32) * x2) u10 h11) q1869 q1870 q2000 q15 q1871 (n9 := 1) rfl ⟨by decide +kernel, by decide +kernel⟩ 0 rfl rfl rfl dX10_runScript_128 (Nat.le_of_ble_eq_true rfl) ⟨Nat.le_refl _, Nat.le_refl _⟩ (fun w : va_W => w) jFr_id rfl rfl (fun v w hvw => ?_)
      obtain ⟨rfl, rfl⟩ := hvw
      change J X 0 0 (wM t ad o u10.1 m_aside m_saved m_isSaved m_past m_changes m_errorAt m_failed u10.2.1 m_input m_inputMany u10.2.2.1 u10.2.2.2 m_pairs m_line m_lineMany m_letters m_begins0 m_commands m_commandMany m_place0 m_size0 m_isWrong) 131 [(2, .int x2), (1, .int x1), (0, .ref (ad o))] []
      refine j_aload_n hX dX10_runScript_131 rfl 2 rfl ?_
      refine j_get hX dX10_runScript_132 inX10 8 q1463 0 rfl rfl (by decide) rfl rfl ?_
      refine j_if_le hX 176 dX10_runScript_135 (by decide) hf (fun c135 hf => ?_) (fun c135 hf => ?_)
      · refine j_iinc hX (x2 + 1) [(2, .int (x2 + 1)), (1, .int x1), (0, .ref (ad o))] dX10_runScript_176 0 rfl rfl (by decide) rfl ?_
        refine j_goto hX 115 dX10_runScript_179 (by decide) ?_
        exact ih (x2 + 1) u10.1 m_failed u10.2.1 u10.2.2.1 u10.2.2.2 u hf kx kr
      · refine j_iconst hX 0 dX10_runScript_138 (by decide) ?_
        refine j_istore_n hX [(3, .int 0), (2, .int x2), (1, .int x1), (0, .ref (ad o))] dX10_runScript_139 rfl (by decide) rfl ?_
        obtain ⟨s13, h14, hf⟩ := jbind hf
        refine k_X10_runScript_L140 (ad := ad) m_aside m_saved m_isSaved m_past m_changes m_errorAt m_failed u10.2.1 m_input m_inputMany u10.2.2.1 u10.2.2.2 m_pairs m_line m_lineMany m_letters m_begins0 m_commands m_commandMany m_place0 m_size0 m_isWrong x2 x1 hX jFU 0 u10.1 s13 h14 (fun s130 es13 => ?_)
        subst es13
        refine j_aload_n hX dX10_runScript_165 rfl 3 rfl ?_
        refine j_iload_n hX dX10_runScript_166 rfl 1 rfl ?_
        refine j_put hX (wM t ad o s13.2 m_aside m_saved m_isSaved m_past m_changes m_errorAt x2 u10.2.1 m_input m_inputMany u10.2.2.1 u10.2.2.2 m_pairs m_line m_lineMany m_letters m_begins0 m_commands m_commandMany m_place0 m_size0 m_isWrong) tyX10 dX10_runScript_167 inX10 tyX10_ok nmX10 7 q1462 0 rfl rfl (by decide) rfl rfl rfl rfl rfl (Nat.le_of_ble_eq_true rfl) rfl ?_
        refine j_aload_n hX dX10_runScript_170 rfl 3 rfl ?_
        refine j_iconst hX 2 dX10_runScript_171 (by decide) ?_
        obtain ⟨u15, h16, hf⟩ := jbind hf
        refine j_callV (st := []) hX (k_X10_throwing (l := l) (D := D) (t := t) (ad := ad) (o := o) s13.2 m_aside m_saved m_isSaved m_past m_changes m_errorAt x2 u10.2.1 m_input m_inputMany u10.2.2.1 u10.2.2.2 m_pairs m_line m_lineMany m_letters m_begins0 m_commands m_commandMany m_place0 m_size0 m_isWrong 2 u15 h16) q1496 q1497 q1951 q15 q1498 (n9 := 1) rfl ⟨by decide +kernel, by decide +kernel⟩ 0 rfl rfl rfl dX10_runScript_172 (Nat.le_of_ble_eq_true rfl) ⟨Nat.le_refl _, Nat.le_refl _⟩ (fun w : va_W => w) jFr_id rfl rfl (fun v w hvw => ?_)
        obtain ⟨rfl, rfl⟩ := hvw
        change J X 0 0 (wM t ad o s13.2 m_aside m_saved m_isSaved m_past m_changes m_errorAt x2 u15.2 m_input m_inputMany u10.2.2.1 u10.2.2.2 m_pairs m_line m_lineMany m_letters m_begins0 m_commands m_commandMany m_place0 m_size0 m_isWrong) 175 [(3, .int s13.1), (2, .int x2), (1, .int x1), (0, .ref (ad o))] [.int u15.1]
        cases hf
        exact j_iret hX hE dX10_runScript_175 (Nat.le_refl _) (Nat.le_refl _) (kr _ rfl)
set_option maxHeartbeats 4000000 in
set_option maxRecDepth 100000 in
theorem k_X10_runScript {l : Launch} {D : va_G} {t : Nat → ClassId} {ad : Nat → Nat} {o : Nat} (m_m : Nat → Int32) (m_aside : Nat → Int32) (m_saved : Nat → Int32) (m_isSaved : Int32) (m_past : Nat → Int32) (m_changes : Int32) (m_errorAt : Int32) (m_failed : Int32) (m_thrown : Int32) (m_input : Nat → Int32) (m_inputMany : Int32) (m_fitting : Nat → Int32) (m_given : Nat → Int32) (m_pairs : Nat → Int32) (m_line : Nat → Int32) (m_lineMany : Int32) (m_letters : Nat → Int32) (m_begins0 : Nat → Int32) (m_commands : Nat → Int32) (m_commandMany : Int32) (m_place0 : Int32) (m_size0 : Int32) (m_isWrong : Int32)  (u : Int32 × (Nat → Int32) × (Nat → Int32) × (Nat → Int32) × Int32 × Int32 × Int32 × Int32 × Int32 × (Nat → Int32) × (Nat → Int32) × (Nat → Int32) × Int32 × Int32 × Int32 × Int32) (hf : f_X10_runScript m_m m_aside m_past m_changes m_errorAt m_failed m_thrown m_input m_inputMany m_fitting m_given m_letters m_begins0 m_commands m_commandMany m_place0 m_size0 m_isWrong = some u) : cm l D (jT t) yX10_runScript cX10_runScript 4 (some FieldType.int) { frames := 7, cells := 0, slots := 0, locals := 166 } [.ref (ad o)] (wM t ad o m_m m_aside m_saved m_isSaved m_past m_changes m_errorAt m_failed m_thrown m_input m_inputMany m_fitting m_given m_pairs m_line m_lineMany m_letters m_begins0 m_commands m_commandMany m_place0 m_size0 m_isWrong) (fun v w => v = (some (.int u.1)) ∧ w = wM t ad o u.2.1 u.2.2.1 m_saved m_isSaved u.2.2.2.1 u.2.2.2.2.1 u.2.2.2.2.2.1 u.2.2.2.2.2.2.1 u.2.2.2.2.2.2.2.1 m_input u.2.2.2.2.2.2.2.2.1 u.2.2.2.2.2.2.2.2.2.1 u.2.2.2.2.2.2.2.2.2.2.1 m_pairs m_line m_lineMany m_letters m_begins0 u.2.2.2.2.2.2.2.2.2.2.2.1 u.2.2.2.2.2.2.2.2.2.2.2.2.1 u.2.2.2.2.2.2.2.2.2.2.2.2.2.1 u.2.2.2.2.2.2.2.2.2.2.2.2.2.2.1 u.2.2.2.2.2.2.2.2.2.2.2.2.2.2.2) := by
  refine cm_of RX10 rfl (by decide +kernel) (Nat.le_of_ble_eq_true rfl) (fun X hX hE => ?_)
  change J X 0 0 (wM t ad o m_m m_aside m_saved m_isSaved m_past m_changes m_errorAt m_failed m_thrown m_input m_inputMany m_fitting m_given m_pairs m_line m_lineMany m_letters m_begins0 m_commands m_commandMany m_place0 m_size0 m_isWrong) 0 [(0, .ref (ad o))] []
  unfold f_X10_runScript at hf
  refine j_aload_n hX dX10_runScript_0 rfl 0 rfl ?_
  obtain ⟨u1, h2, hf⟩ := jbind hf
  refine j_callV (st := []) hX (k_X10_starts (l := l) (D := D) (t := t) (ad := ad) (o := o) m_m m_aside m_saved m_isSaved m_past m_changes m_errorAt m_failed m_thrown m_input m_inputMany m_fitting m_given m_pairs m_line m_lineMany m_letters m_begins0 m_commands m_commandMany m_place0 m_size0 m_isWrong  u1 h2) q1486 q1487 q1949 q15 q1488 (n9 := 0) rfl ⟨by decide +kernel, by decide +kernel⟩ 0 rfl rfl rfl dX10_runScript_1 (Nat.le_of_ble_eq_true rfl) ⟨Nat.le_refl _, Nat.le_refl _⟩ (fun w : va_W => w) jFr_id rfl rfl (fun v w hvw => ?_)
  obtain ⟨rfl, rfl⟩ := hvw
  change J X 0 0 (wM t ad o m_m u1.1 m_saved m_isSaved m_past m_changes m_errorAt m_failed u1.2 m_input m_inputMany m_fitting m_given m_pairs m_line m_lineMany m_letters m_begins0 m_commands m_commandMany m_place0 m_size0 m_isWrong) 4 [(0, .ref (ad o))] []
  refine j_aload_n hX dX10_runScript_4 rfl 0 rfl ?_
  refine j_aload_n hX dX10_runScript_5 rfl 0 rfl ?_
  refine j_get hX dX10_runScript_6 inX10 10 q1465 0 rfl rfl (by decide) rfl rfl ?_
  refine j_put hX (wM t ad o m_m u1.1 m_saved m_isSaved m_past m_changes m_errorAt m_failed u1.2 m_input m_inputMany m_fitting m_given m_pairs m_line m_lineMany m_letters m_begins0 m_commands m_commandMany m_place0 m_inputMany m_isWrong) tyX10 dX10_runScript_9 inX10 tyX10_ok nmX10 21 q1476 0 rfl rfl (by decide) rfl rfl rfl rfl rfl (Nat.le_of_ble_eq_true rfl) rfl ?_
  refine j_aload_n hX dX10_runScript_12 rfl 0 rfl ?_
  refine j_iconst hX 0 dX10_runScript_13 (by decide) ?_
  refine j_put hX (wM t ad o m_m u1.1 m_saved m_isSaved m_past m_changes m_errorAt m_failed u1.2 m_input 0 m_fitting m_given m_pairs m_line m_lineMany m_letters m_begins0 m_commands m_commandMany m_place0 m_inputMany m_isWrong) tyX10 dX10_runScript_14 inX10 tyX10_ok nmX10 10 q1465 0 rfl rfl (by decide) rfl rfl rfl rfl rfl (Nat.le_of_ble_eq_true rfl) rfl ?_
  refine j_aload_n hX dX10_runScript_17 rfl 0 rfl ?_
  refine j_iconst hX 0 dX10_runScript_18 (by decide) ?_
  refine j_put hX (wM t ad o m_m u1.1 m_saved m_isSaved m_past m_changes m_errorAt m_failed u1.2 m_input 0 m_fitting m_given m_pairs m_line m_lineMany m_letters m_begins0 m_commands m_commandMany 0 m_inputMany m_isWrong) tyX10 dX10_runScript_19 inX10 tyX10_ok nmX10 20 q1475 0 rfl rfl (by decide) rfl rfl rfl rfl rfl (Nat.le_of_ble_eq_true rfl) rfl ?_
  refine j_aload_n hX dX10_runScript_22 rfl 0 rfl ?_
  refine j_iconst hX 0 dX10_runScript_23 (by decide) ?_
  refine j_put hX (wM t ad o m_m u1.1 m_saved m_isSaved m_past m_changes m_errorAt m_failed u1.2 m_input 0 m_fitting m_given m_pairs m_line m_lineMany m_letters m_begins0 m_commands 0 0 m_inputMany m_isWrong) tyX10 dX10_runScript_24 inX10 tyX10_ok nmX10 19 q1474 0 rfl rfl (by decide) rfl rfl rfl rfl rfl (Nat.le_of_ble_eq_true rfl) rfl ?_
  refine j_aload_n hX dX10_runScript_27 rfl 0 rfl ?_
  refine j_iconst hX 0 dX10_runScript_28 (by decide) ?_
  refine j_put hX (wM t ad o m_m u1.1 m_saved m_isSaved m_past m_changes m_errorAt m_failed u1.2 m_input 0 m_fitting m_given m_pairs m_line m_lineMany m_letters m_begins0 m_commands 0 0 m_inputMany 0) tyX10 dX10_runScript_29 inX10 tyX10_ok nmX10 22 q1477 0 rfl rfl (by decide) rfl rfl rfl rfl rfl (Nat.le_of_ble_eq_true rfl) rfl ?_
  refine j_iconst hX 1 dX10_runScript_32 (by decide) ?_
  refine j_istore_n hX [(1, .int 1), (0, .ref (ad o))] dX10_runScript_33 rfl (by decide) rfl ?_
  obtain ⟨s8, h9, hf⟩ := jbind hf
  refine k_X10_runScript_L34 (ad := ad) m_input m_letters m_begins0 m_inputMany m_m u1.1 m_saved m_isSaved m_past m_changes m_errorAt m_failed u1.2 0 m_fitting m_given m_pairs m_line m_lineMany hX jFU 1 m_commands 0 0 0 s8 h9 (fun s80 es8 => ?_)
  subst es8
  refine j_aload_n hX dX10_runScript_92 rfl 1 rfl ?_
  refine j_get hX dX10_runScript_93 inX10 22 q1477 0 rfl rfl (by decide) rfl rfl ?_
  refine j_if_eq hX 113 dX10_runScript_96 (by decide) hf (fun c96 hf => ?_) (fun c96 hf => ?_)
  · refine j_iconst hX 0 dX10_runScript_113 (by decide) ?_
    refine j_istore_n hX [(2, .int 0), (1, .int s8.1), (0, .ref (ad o))] dX10_runScript_114 rfl (by decide) rfl ?_
    obtain ⟨o17, h19, hf⟩ := jbind hf
    refine k_X10_runScript_L115 (ad := ad) u1.1 m_past m_changes m_errorAt 0 s8.2.1 s8.2.2.1 s8.2.2.2.1 m_inputMany s8.2.2.2.2 m_saved m_isSaved m_input m_pairs m_line m_lineMany m_letters m_begins0 s8.1 hX hE jFU 0 m_m m_failed u1.2 m_fitting m_given o17 h19 (fun s18 es18 => ?_) (fun r er => ?_)
    · subst es18
      have hf := jsum_r hf
      refine j_aload_n hX dX10_runScript_182 rfl 2 rfl ?_
      refine j_aload_n hX dX10_runScript_183 rfl 2 rfl ?_
      refine j_get hX dX10_runScript_184 inX10 19 q1474 0 rfl rfl (by decide) rfl rfl ?_
      obtain ⟨u20, h21, hf⟩ := jbind hf
      refine j_callV (st := []) hX (k_X10_changed (l := l) (D := D) (t := t) (ad := ad) (o := o) s18.2.1 u1.1 m_saved m_isSaved m_past m_changes m_errorAt s18.2.2.1 s18.2.2.2.1 m_input 0 s18.2.2.2.2.1 s18.2.2.2.2.2 m_pairs m_line m_lineMany m_letters m_begins0 s8.2.1 s8.2.2.1 s8.2.2.2.1 m_inputMany s8.2.2.2.2 s8.2.2.1 u20 h21) q1512 q1513 q1954 q15 q1514 (n9 := 1) rfl ⟨by decide +kernel, by decide +kernel⟩ 0 rfl rfl rfl dX10_runScript_187 (Nat.le_of_ble_eq_true rfl) ⟨Nat.le_refl _, Nat.le_refl _⟩ (fun w : va_W => w) jFr_id rfl rfl (fun v w hvw => ?_)
      obtain ⟨rfl, rfl⟩ := hvw
      change J X 0 0 (wM t ad o s18.2.1 u1.1 m_saved m_isSaved u20.2.1 u20.2.2 m_errorAt s18.2.2.1 s18.2.2.2.1 m_input 0 s18.2.2.2.2.1 s18.2.2.2.2.2 m_pairs m_line m_lineMany m_letters m_begins0 s8.2.1 s8.2.2.1 s8.2.2.2.1 m_inputMany s8.2.2.2.2) 190 [(2, .int s18.1), (1, .int s8.1), (0, .ref (ad o))] [.int u20.1]
      cases hf
      exact j_iret hX hE dX10_runScript_190 (Nat.le_refl _) (Nat.le_refl _) ⟨rfl, rfl⟩
    · subst er
      cases hf
      exact ⟨rfl, rfl⟩
  · refine j_aload_n hX dX10_runScript_99 rfl 1 rfl ?_
    refine j_aload_n hX dX10_runScript_100 rfl 1 rfl ?_
    refine j_get hX dX10_runScript_101 inX10 20 q1475 0 rfl rfl (by decide) rfl rfl ?_
    refine j_put hX (wM t ad o m_m u1.1 m_saved m_isSaved m_past m_changes s8.2.2.2.1 m_failed u1.2 m_input 0 m_fitting m_given m_pairs m_line m_lineMany m_letters m_begins0 s8.2.1 s8.2.2.1 s8.2.2.2.1 m_inputMany s8.2.2.2.2) tyX10 dX10_runScript_104 inX10 tyX10_ok nmX10 6 q1461 0 rfl rfl (by decide) rfl rfl rfl rfl rfl (Nat.le_of_ble_eq_true rfl) rfl ?_
    refine j_aload_n hX dX10_runScript_107 rfl 1 rfl ?_
    refine j_iconst hX 1 dX10_runScript_108 (by decide) ?_
    obtain ⟨u22, h23, hf⟩ := jbind hf
    refine j_callV (st := []) hX (k_X10_throwing (l := l) (D := D) (t := t) (ad := ad) (o := o) m_m u1.1 m_saved m_isSaved m_past m_changes s8.2.2.2.1 m_failed u1.2 m_input 0 m_fitting m_given m_pairs m_line m_lineMany m_letters m_begins0 s8.2.1 s8.2.2.1 s8.2.2.2.1 m_inputMany s8.2.2.2.2 1 u22 h23) q1496 q1497 q1951 q15 q1498 (n9 := 1) rfl ⟨by decide +kernel, by decide +kernel⟩ 0 rfl rfl rfl dX10_runScript_109 (Nat.le_of_ble_eq_true rfl) ⟨Nat.le_refl _, Nat.le_refl _⟩ (fun w : va_W => w) jFr_id rfl rfl (fun v w hvw => ?_)
    obtain ⟨rfl, rfl⟩ := hvw
    change J X 0 0 (wM t ad o m_m u1.1 m_saved m_isSaved m_past m_changes s8.2.2.2.1 m_failed u22.2 m_input 0 m_fitting m_given m_pairs m_line m_lineMany m_letters m_begins0 s8.2.1 s8.2.2.1 s8.2.2.2.1 m_inputMany s8.2.2.2.2) 112 [(1, .int s8.1), (0, .ref (ad o))] [.int u22.1]
    cases hf
    exact j_iret hX hE dX10_runScript_112 (Nat.le_refl _) (Nat.le_refl _) ⟨rfl, rfl⟩
-- HammerDepotModel errorPosition ()I
def f_X10_errorPosition (m_errorAt : Int32) (m_thrown : Int32) : Option (Int32 × Int32) :=
  if m_errorAt = (-1) then
    Option.bind (f_X10_throwing 0 1) (fun u1 =>
      some (u1.1, u1.2))
  else
    some (m_errorAt, 0)
set_option maxHeartbeats 4000000 in
set_option maxRecDepth 100000 in
theorem k_X10_errorPosition {l : Launch} {D : va_G} {t : Nat → ClassId} {ad : Nat → Nat} {o : Nat} (m_m : Nat → Int32) (m_aside : Nat → Int32) (m_saved : Nat → Int32) (m_isSaved : Int32) (m_past : Nat → Int32) (m_changes : Int32) (m_errorAt : Int32) (m_failed : Int32) (m_thrown : Int32) (m_input : Nat → Int32) (m_inputMany : Int32) (m_fitting : Nat → Int32) (m_given : Nat → Int32) (m_pairs : Nat → Int32) (m_line : Nat → Int32) (m_lineMany : Int32) (m_letters : Nat → Int32) (m_begins0 : Nat → Int32) (m_commands : Nat → Int32) (m_commandMany : Int32) (m_place0 : Int32) (m_size0 : Int32) (m_isWrong : Int32)  (u : Int32 × Int32) (hf : f_X10_errorPosition m_errorAt m_thrown = some u) : cm l D (jT t) yX10_errorPosition cX10_errorPosition 1 (some FieldType.int) { frames := 1, cells := 0, slots := 0, locals := 21 } [.ref (ad o)] (wM t ad o m_m m_aside m_saved m_isSaved m_past m_changes m_errorAt m_failed m_thrown m_input m_inputMany m_fitting m_given m_pairs m_line m_lineMany m_letters m_begins0 m_commands m_commandMany m_place0 m_size0 m_isWrong) (fun v w => v = (some (.int u.1)) ∧ w = wM t ad o m_m m_aside m_saved m_isSaved m_past m_changes m_errorAt m_failed u.2 m_input m_inputMany m_fitting m_given m_pairs m_line m_lineMany m_letters m_begins0 m_commands m_commandMany m_place0 m_size0 m_isWrong) := by
  refine cm_of RX10 rfl (by decide +kernel) (Nat.le_of_ble_eq_true rfl) (fun X hX hE => ?_)
  change J X 0 0 (wM t ad o m_m m_aside m_saved m_isSaved m_past m_changes m_errorAt m_failed m_thrown m_input m_inputMany m_fitting m_given m_pairs m_line m_lineMany m_letters m_begins0 m_commands m_commandMany m_place0 m_size0 m_isWrong) 0 [(0, .ref (ad o))] []
  unfold f_X10_errorPosition at hf
  refine j_aload_n hX dX10_errorPosition_0 rfl 0 rfl ?_
  refine j_iconst hX 0 dX10_errorPosition_1 (by decide) ?_
  refine j_put hX (wM t ad o m_m m_aside m_saved m_isSaved m_past m_changes m_errorAt m_failed 0 m_input m_inputMany m_fitting m_given m_pairs m_line m_lineMany m_letters m_begins0 m_commands m_commandMany m_place0 m_size0 m_isWrong) tyX10 dX10_errorPosition_2 inX10 tyX10_ok nmX10 8 q1463 0 rfl rfl (by decide) rfl rfl rfl rfl rfl (Nat.le_of_ble_eq_true rfl) rfl ?_
  refine j_aload_n hX dX10_errorPosition_5 rfl 0 rfl ?_
  refine j_get hX dX10_errorPosition_6 inX10 6 q1461 0 rfl rfl (by decide) rfl rfl ?_
  refine j_iconst hX (-1) dX10_errorPosition_9 (by decide) ?_
  refine j_icmp_ne hX 21 dX10_errorPosition_10 (by decide) hf (fun c10 hf => ?_) (fun c10 hf => ?_)
  · refine j_aload_n hX dX10_errorPosition_21 rfl 0 rfl ?_
    refine j_get hX dX10_errorPosition_22 inX10 6 q1461 0 rfl rfl (by decide) rfl rfl ?_
    cases hf
    exact j_iret hX hE dX10_errorPosition_25 (Nat.le_refl _) (Nat.le_refl _) ⟨rfl, rfl⟩
  · refine j_aload_n hX dX10_errorPosition_13 rfl 0 rfl ?_
    refine j_iconst hX 1 dX10_errorPosition_14 (by decide) ?_
    obtain ⟨u1, h2, hf⟩ := jbind hf
    refine j_callV (st := []) hX (k_X10_throwing (l := l) (D := D) (t := t) (ad := ad) (o := o) m_m m_aside m_saved m_isSaved m_past m_changes m_errorAt m_failed 0 m_input m_inputMany m_fitting m_given m_pairs m_line m_lineMany m_letters m_begins0 m_commands m_commandMany m_place0 m_size0 m_isWrong 1 u1 h2) q1496 q1497 q1951 q15 q1498 (n9 := 1) rfl ⟨by decide +kernel, by decide +kernel⟩ 0 rfl rfl rfl dX10_errorPosition_15 (Nat.le_of_ble_eq_true rfl) ⟨Nat.le_refl _, Nat.le_refl _⟩ (fun w : va_W => w) jFr_id rfl rfl (fun v w hvw => ?_)
    obtain ⟨rfl, rfl⟩ := hvw
    change J X 0 0 (wM t ad o m_m m_aside m_saved m_isSaved m_past m_changes m_errorAt m_failed u1.2 m_input m_inputMany m_fitting m_given m_pairs m_line m_lineMany m_letters m_begins0 m_commands m_commandMany m_place0 m_size0 m_isWrong) 18 [(0, .ref (ad o))] [.int u1.1]
    refine j_goto hX 25 dX10_errorPosition_18 (by decide) ?_
    cases hf
    exact j_iret hX hE dX10_errorPosition_25 (Nat.le_refl _) (Nat.le_refl _) ⟨rfl, rfl⟩
-- HammerDepotModel failedCommand ()I
def f_X10_failedCommand (m_failed : Int32) (m_thrown : Int32) : Option (Int32 × Int32) :=
  if m_failed = (-1) then
    Option.bind (f_X10_throwing 0 1) (fun u1 =>
      some (u1.1, u1.2))
  else
    some (m_failed, 0)
set_option maxHeartbeats 4000000 in
set_option maxRecDepth 100000 in
theorem k_X10_failedCommand {l : Launch} {D : va_G} {t : Nat → ClassId} {ad : Nat → Nat} {o : Nat} (m_m : Nat → Int32) (m_aside : Nat → Int32) (m_saved : Nat → Int32) (m_isSaved : Int32) (m_past : Nat → Int32) (m_changes : Int32) (m_errorAt : Int32) (m_failed : Int32) (m_thrown : Int32) (m_input : Nat → Int32) (m_inputMany : Int32) (m_fitting : Nat → Int32) (m_given : Nat → Int32) (m_pairs : Nat → Int32) (m_line : Nat → Int32) (m_lineMany : Int32) (m_letters : Nat → Int32) (m_begins0 : Nat → Int32) (m_commands : Nat → Int32) (m_commandMany : Int32) (m_place0 : Int32) (m_size0 : Int32) (m_isWrong : Int32)  (u : Int32 × Int32) (hf : f_X10_failedCommand m_failed m_thrown = some u) : cm l D (jT t) yX10_failedCommand cX10_failedCommand 1 (some FieldType.int) { frames := 1, cells := 0, slots := 0, locals := 21 } [.ref (ad o)] (wM t ad o m_m m_aside m_saved m_isSaved m_past m_changes m_errorAt m_failed m_thrown m_input m_inputMany m_fitting m_given m_pairs m_line m_lineMany m_letters m_begins0 m_commands m_commandMany m_place0 m_size0 m_isWrong) (fun v w => v = (some (.int u.1)) ∧ w = wM t ad o m_m m_aside m_saved m_isSaved m_past m_changes m_errorAt m_failed u.2 m_input m_inputMany m_fitting m_given m_pairs m_line m_lineMany m_letters m_begins0 m_commands m_commandMany m_place0 m_size0 m_isWrong) := by
  refine cm_of RX10 rfl (by decide +kernel) (Nat.le_of_ble_eq_true rfl) (fun X hX hE => ?_)
  change J X 0 0 (wM t ad o m_m m_aside m_saved m_isSaved m_past m_changes m_errorAt m_failed m_thrown m_input m_inputMany m_fitting m_given m_pairs m_line m_lineMany m_letters m_begins0 m_commands m_commandMany m_place0 m_size0 m_isWrong) 0 [(0, .ref (ad o))] []
  unfold f_X10_failedCommand at hf
  refine j_aload_n hX dX10_failedCommand_0 rfl 0 rfl ?_
  refine j_iconst hX 0 dX10_failedCommand_1 (by decide) ?_
  refine j_put hX (wM t ad o m_m m_aside m_saved m_isSaved m_past m_changes m_errorAt m_failed 0 m_input m_inputMany m_fitting m_given m_pairs m_line m_lineMany m_letters m_begins0 m_commands m_commandMany m_place0 m_size0 m_isWrong) tyX10 dX10_failedCommand_2 inX10 tyX10_ok nmX10 8 q1463 0 rfl rfl (by decide) rfl rfl rfl rfl rfl (Nat.le_of_ble_eq_true rfl) rfl ?_
  refine j_aload_n hX dX10_failedCommand_5 rfl 0 rfl ?_
  refine j_get hX dX10_failedCommand_6 inX10 7 q1462 0 rfl rfl (by decide) rfl rfl ?_
  refine j_iconst hX (-1) dX10_failedCommand_9 (by decide) ?_
  refine j_icmp_ne hX 21 dX10_failedCommand_10 (by decide) hf (fun c10 hf => ?_) (fun c10 hf => ?_)
  · refine j_aload_n hX dX10_failedCommand_21 rfl 0 rfl ?_
    refine j_get hX dX10_failedCommand_22 inX10 7 q1462 0 rfl rfl (by decide) rfl rfl ?_
    cases hf
    exact j_iret hX hE dX10_failedCommand_25 (Nat.le_refl _) (Nat.le_refl _) ⟨rfl, rfl⟩
  · refine j_aload_n hX dX10_failedCommand_13 rfl 0 rfl ?_
    refine j_iconst hX 1 dX10_failedCommand_14 (by decide) ?_
    obtain ⟨u1, h2, hf⟩ := jbind hf
    refine j_callV (st := []) hX (k_X10_throwing (l := l) (D := D) (t := t) (ad := ad) (o := o) m_m m_aside m_saved m_isSaved m_past m_changes m_errorAt m_failed 0 m_input m_inputMany m_fitting m_given m_pairs m_line m_lineMany m_letters m_begins0 m_commands m_commandMany m_place0 m_size0 m_isWrong 1 u1 h2) q1496 q1497 q1951 q15 q1498 (n9 := 1) rfl ⟨by decide +kernel, by decide +kernel⟩ 0 rfl rfl rfl dX10_failedCommand_15 (Nat.le_of_ble_eq_true rfl) ⟨Nat.le_refl _, Nat.le_refl _⟩ (fun w : va_W => w) jFr_id rfl rfl (fun v w hvw => ?_)
    obtain ⟨rfl, rfl⟩ := hvw
    change J X 0 0 (wM t ad o m_m m_aside m_saved m_isSaved m_past m_changes m_errorAt m_failed u1.2 m_input m_inputMany m_fitting m_given m_pairs m_line m_lineMany m_letters m_begins0 m_commands m_commandMany m_place0 m_size0 m_isWrong) 18 [(0, .ref (ad o))] [.int u1.1]
    refine j_goto hX 25 dX10_failedCommand_18 (by decide) ?_
    cases hf
    exact j_iret hX hE dX10_failedCommand_25 (Nat.le_refl _) (Nat.le_refl _) ⟨rfl, rfl⟩
-- HammerDepotModel undo ()I
def f_X10_undo_L30 (m_past : Nat → Int32) (m_changes : Int32) : Nat → Int32 → (Nat → Int32) → Option (Int32 × (Nat → Int32))
  | 0, _, _ => none
  | jn + 1, x1, m_m =>
    if 2048 ≤ x1 then
      some (x1, m_m)
    else
      if jin (((2048 : Int32) * m_changes) + x1) 16384 = true then
        if jin x1 2048 = true then
          f_X10_undo_L30 m_past m_changes jn (x1 + 1) (upd m_m (x1).toNatClampNeg (m_past (((2048 : Int32) * m_changes) + x1).toNatClampNeg))
        else none
      else none
def f_X10_undo (m_m : Nat → Int32) (m_past : Nat → Int32) (m_changes : Int32) (m_thrown : Int32) : Option (Int32 × (Nat → Int32) × Int32 × Int32) :=
  if m_changes = 0 then
    Option.bind (f_X10_throwing 0 1) (fun u4 =>
      some (u4.1, m_m, m_changes, u4.2))
  else
    Option.bind (f_X10_undo_L30 m_past (m_changes - 1) jFU 0 m_m) (fun s2 =>
      some (m_changes - 1, s2.2, m_changes - 1, 0))
set_option maxHeartbeats 4000000 in
set_option maxRecDepth 100000 in
theorem k_X10_undo_L30 {l : Launch} {D : va_G} {t : Nat → ClassId} {ad : Nat → Nat} {o : Nat} (m_past : Nat → Int32) (m_changes : Int32) (m_aside : Nat → Int32) (m_saved : Nat → Int32) (m_isSaved : Int32) (m_errorAt : Int32) (m_failed : Int32) (m_thrown : Int32) (m_input : Nat → Int32) (m_inputMany : Int32) (m_fitting : Nat → Int32) (m_given : Nat → Int32) (m_pairs : Nat → Int32) (m_line : Nat → Int32) (m_lineMany : Int32) (m_letters : Nat → Int32) (m_begins0 : Nat → Int32) (m_commands : Nat → Int32) (m_commandMany : Int32) (m_place0 : Int32) (m_size0 : Int32) (m_isWrong : Int32) {X : jX} (hX : jOK X l D (jT t) cX10_undo RX10 (some FieldType.int) { frames := 1, cells := 0, slots := 0, locals := 21 } 2) :
    ∀ (jn : Nat) (x1 : Int32) (m_m : Nat → Int32) (u : Int32 × (Nat → Int32)) (hf : f_X10_undo_L30 m_past m_changes jn x1 m_m = some u) (kx : ∀ s : Int32 × (Nat → Int32), u = s → J X 0 0 (wM t ad o s.2 m_aside m_saved m_isSaved m_past m_changes m_errorAt m_failed m_thrown m_input m_inputMany m_fitting m_given m_pairs m_line m_lineMany m_letters m_begins0 m_commands m_commandMany m_place0 m_size0 m_isWrong) 64 [(1, .int s.1), (0, .ref (ad o))] []), J X 0 0 (wM t ad o m_m m_aside m_saved m_isSaved m_past m_changes m_errorAt m_failed m_thrown m_input m_inputMany m_fitting m_given m_pairs m_line m_lineMany m_letters m_begins0 m_commands m_commandMany m_place0 m_size0 m_isWrong) 30 [(1, .int x1), (0, .ref (ad o))] [] := by
  intro jn
  induction jn with
  | zero => intro x1 m_m u hf; cases (show (none : Option (Int32 × (Nat → Int32))) = some u from hf)
  | succ jn ih =>
    intro x1 m_m u hf kx
    unfold f_X10_undo_L30 at hf
    refine j_iload_n hX dX10_undo_30 rfl 0 rfl ?_
    refine j_sipush hX 2048 dX10_undo_31 (by decide) ?_
    refine j_icmp_ge hX 64 dX10_undo_34 (by decide) hf (fun c34 hf => ?_) (fun c34 hf => ?_)
    · cases hf
      exact kx _ rfl
    · refine j_aload_n hX dX10_undo_37 rfl 1 rfl ?_
      refine j_get hX dX10_undo_38 inX10 0 q1455 0 rfl rfl (by decide) rfl rfl ?_
      refine j_iload_n hX dX10_undo_41 rfl 0 rfl ?_
      refine j_aload_n hX dX10_undo_42 rfl 1 rfl ?_
      refine j_get hX dX10_undo_43 inX10 4 q1459 0 rfl rfl (by decide) rfl rfl ?_
      refine j_sipush hX 2048 dX10_undo_46 (by decide) ?_
      refine j_aload_n hX dX10_undo_49 rfl 1 rfl ?_
      refine j_get hX dX10_undo_50 inX10 5 q1460 0 rfl rfl (by decide) rfl rfl ?_
      refine j_imul hX dX10_undo_53 ?_
      refine j_iload_n hX dX10_undo_54 rfl 0 rfl ?_
      refine j_iadd hX dX10_undo_55 ?_
      refine j_iald hX dX10_undo_56 4 0 rfl rfl hf (fun c56 hf => ?_)
      refine j_iast hX (wM t ad o (upd m_m (x1).toNatClampNeg (m_past (((2048 : Int32) * m_changes) + x1).toNatClampNeg)) m_aside m_saved m_isSaved m_past m_changes m_errorAt m_failed m_thrown m_input m_inputMany m_fitting m_given m_pairs m_line m_lineMany m_letters m_begins0 m_commands m_commandMany m_place0 m_size0 m_isWrong) dX10_undo_57 1 0 rfl rfl rfl hf (fun c57 hf => ?_)
      refine j_iinc hX (x1 + 1) [(1, .int (x1 + 1)), (0, .ref (ad o))] dX10_undo_58 0 rfl rfl (by decide) rfl ?_
      refine j_goto hX 30 dX10_undo_61 (by decide) ?_
      exact ih (x1 + 1) (upd m_m (x1).toNatClampNeg (m_past (((2048 : Int32) * m_changes) + x1).toNatClampNeg)) u hf kx
set_option maxHeartbeats 4000000 in
set_option maxRecDepth 100000 in
theorem k_X10_undo {l : Launch} {D : va_G} {t : Nat → ClassId} {ad : Nat → Nat} {o : Nat} (m_m : Nat → Int32) (m_aside : Nat → Int32) (m_saved : Nat → Int32) (m_isSaved : Int32) (m_past : Nat → Int32) (m_changes : Int32) (m_errorAt : Int32) (m_failed : Int32) (m_thrown : Int32) (m_input : Nat → Int32) (m_inputMany : Int32) (m_fitting : Nat → Int32) (m_given : Nat → Int32) (m_pairs : Nat → Int32) (m_line : Nat → Int32) (m_lineMany : Int32) (m_letters : Nat → Int32) (m_begins0 : Nat → Int32) (m_commands : Nat → Int32) (m_commandMany : Int32) (m_place0 : Int32) (m_size0 : Int32) (m_isWrong : Int32)  (u : Int32 × (Nat → Int32) × Int32 × Int32) (hf : f_X10_undo m_m m_past m_changes m_thrown = some u) : cm l D (jT t) yX10_undo cX10_undo 2 (some FieldType.int) { frames := 1, cells := 0, slots := 0, locals := 21 } [.ref (ad o)] (wM t ad o m_m m_aside m_saved m_isSaved m_past m_changes m_errorAt m_failed m_thrown m_input m_inputMany m_fitting m_given m_pairs m_line m_lineMany m_letters m_begins0 m_commands m_commandMany m_place0 m_size0 m_isWrong) (fun v w => v = (some (.int u.1)) ∧ w = wM t ad o u.2.1 m_aside m_saved m_isSaved m_past u.2.2.1 m_errorAt m_failed u.2.2.2 m_input m_inputMany m_fitting m_given m_pairs m_line m_lineMany m_letters m_begins0 m_commands m_commandMany m_place0 m_size0 m_isWrong) := by
  refine cm_of RX10 rfl (by decide +kernel) (Nat.le_of_ble_eq_true rfl) (fun X hX hE => ?_)
  change J X 0 0 (wM t ad o m_m m_aside m_saved m_isSaved m_past m_changes m_errorAt m_failed m_thrown m_input m_inputMany m_fitting m_given m_pairs m_line m_lineMany m_letters m_begins0 m_commands m_commandMany m_place0 m_size0 m_isWrong) 0 [(0, .ref (ad o))] []
  unfold f_X10_undo at hf
  refine j_aload_n hX dX10_undo_0 rfl 0 rfl ?_
  refine j_iconst hX 0 dX10_undo_1 (by decide) ?_
  refine j_put hX (wM t ad o m_m m_aside m_saved m_isSaved m_past m_changes m_errorAt m_failed 0 m_input m_inputMany m_fitting m_given m_pairs m_line m_lineMany m_letters m_begins0 m_commands m_commandMany m_place0 m_size0 m_isWrong) tyX10 dX10_undo_2 inX10 tyX10_ok nmX10 8 q1463 0 rfl rfl (by decide) rfl rfl rfl rfl rfl (Nat.le_of_ble_eq_true rfl) rfl ?_
  refine j_aload_n hX dX10_undo_5 rfl 0 rfl ?_
  refine j_get hX dX10_undo_6 inX10 5 q1460 0 rfl rfl (by decide) rfl rfl ?_
  refine j_if_ne hX 18 dX10_undo_9 (by decide) hf (fun c9 hf => ?_) (fun c9 hf => ?_)
  · refine j_aload_n hX dX10_undo_18 rfl 0 rfl ?_
    refine j_dup hX dX10_undo_19 rfl ?_
    refine j_get hX dX10_undo_20 inX10 5 q1460 0 rfl rfl (by decide) rfl rfl ?_
    refine j_iconst hX 1 dX10_undo_23 (by decide) ?_
    refine j_isub hX dX10_undo_24 ?_
    refine j_put hX (wM t ad o m_m m_aside m_saved m_isSaved m_past (m_changes - 1) m_errorAt m_failed 0 m_input m_inputMany m_fitting m_given m_pairs m_line m_lineMany m_letters m_begins0 m_commands m_commandMany m_place0 m_size0 m_isWrong) tyX10 dX10_undo_25 inX10 tyX10_ok nmX10 5 q1460 0 rfl rfl (by decide) rfl rfl rfl rfl rfl (Nat.le_of_ble_eq_true rfl) rfl ?_
    refine j_iconst hX 0 dX10_undo_28 (by decide) ?_
    refine j_istore_n hX [(1, .int 0), (0, .ref (ad o))] dX10_undo_29 rfl (by decide) rfl ?_
    obtain ⟨s2, h3, hf⟩ := jbind hf
    refine k_X10_undo_L30 (ad := ad) m_past (m_changes - 1) m_aside m_saved m_isSaved m_errorAt m_failed 0 m_input m_inputMany m_fitting m_given m_pairs m_line m_lineMany m_letters m_begins0 m_commands m_commandMany m_place0 m_size0 m_isWrong hX jFU 0 m_m s2 h3 (fun s20 es2 => ?_)
    subst es2
    refine j_aload_n hX dX10_undo_64 rfl 1 rfl ?_
    refine j_get hX dX10_undo_65 inX10 5 q1460 0 rfl rfl (by decide) rfl rfl ?_
    cases hf
    exact j_iret hX hE dX10_undo_68 (Nat.le_refl _) (Nat.le_refl _) ⟨rfl, rfl⟩
  · refine j_aload_n hX dX10_undo_12 rfl 0 rfl ?_
    refine j_iconst hX 1 dX10_undo_13 (by decide) ?_
    obtain ⟨u4, h5, hf⟩ := jbind hf
    refine j_callV (st := []) hX (k_X10_throwing (l := l) (D := D) (t := t) (ad := ad) (o := o) m_m m_aside m_saved m_isSaved m_past m_changes m_errorAt m_failed 0 m_input m_inputMany m_fitting m_given m_pairs m_line m_lineMany m_letters m_begins0 m_commands m_commandMany m_place0 m_size0 m_isWrong 1 u4 h5) q1496 q1497 q1951 q15 q1498 (n9 := 1) rfl ⟨by decide +kernel, by decide +kernel⟩ 0 rfl rfl rfl dX10_undo_14 (Nat.le_of_ble_eq_true rfl) ⟨Nat.le_refl _, Nat.le_refl _⟩ (fun w : va_W => w) jFr_id rfl rfl (fun v w hvw => ?_)
    obtain ⟨rfl, rfl⟩ := hvw
    change J X 0 0 (wM t ad o m_m m_aside m_saved m_isSaved m_past m_changes m_errorAt m_failed u4.2 m_input m_inputMany m_fitting m_given m_pairs m_line m_lineMany m_letters m_begins0 m_commands m_commandMany m_place0 m_size0 m_isWrong) 17 [(0, .ref (ad o))] [.int u4.1]
    cases hf
    exact j_iret hX hE dX10_undo_17 (Nat.le_refl _) (Nat.le_refl _) ⟨rfl, rfl⟩
-- HammerDepotModel save ()I
def f_X10_save_L7 (m_m : Nat → Int32) : Nat → Int32 → (Nat → Int32) → Option (Int32 × (Nat → Int32))
  | 0, _, _ => none
  | jn + 1, x1, m_saved =>
    if 2048 ≤ x1 then
      some (x1, m_saved)
    else
      if jin x1 2048 = true then
        if jin x1 2048 = true then
          f_X10_save_L7 m_m jn (x1 + 1) (upd m_saved (x1).toNatClampNeg (m_m (x1).toNatClampNeg))
        else none
      else none
def f_X10_save (m_m : Nat → Int32) (m_saved : Nat → Int32) (m_isSaved : Int32) (m_thrown : Int32) : Option (Int32 × (Nat → Int32) × Int32 × Int32) :=
  Option.bind (f_X10_save_L7 m_m jFU 0 m_saved) (fun s2 =>
    if jin 0 2048 = true then
      some (m_m (0 : Int32).toNatClampNeg, s2.2, 1, 0)
    else none)
set_option maxHeartbeats 4000000 in
set_option maxRecDepth 100000 in
theorem k_X10_save_L7 {l : Launch} {D : va_G} {t : Nat → ClassId} {ad : Nat → Nat} {o : Nat} (m_m : Nat → Int32) (m_aside : Nat → Int32) (m_isSaved : Int32) (m_past : Nat → Int32) (m_changes : Int32) (m_errorAt : Int32) (m_failed : Int32) (m_thrown : Int32) (m_input : Nat → Int32) (m_inputMany : Int32) (m_fitting : Nat → Int32) (m_given : Nat → Int32) (m_pairs : Nat → Int32) (m_line : Nat → Int32) (m_lineMany : Int32) (m_letters : Nat → Int32) (m_begins0 : Nat → Int32) (m_commands : Nat → Int32) (m_commandMany : Int32) (m_place0 : Int32) (m_size0 : Int32) (m_isWrong : Int32) {X : jX} (hX : jOK X l D (jT t) cX10_save RX10 (some FieldType.int) { frames := 0, cells := 0, slots := 0, locals := 0 } 2) :
    ∀ (jn : Nat) (x1 : Int32) (m_saved : Nat → Int32) (u : Int32 × (Nat → Int32)) (hf : f_X10_save_L7 m_m jn x1 m_saved = some u) (kx : ∀ s : Int32 × (Nat → Int32), u = s → J X 0 0 (wM t ad o m_m m_aside s.2 m_isSaved m_past m_changes m_errorAt m_failed m_thrown m_input m_inputMany m_fitting m_given m_pairs m_line m_lineMany m_letters m_begins0 m_commands m_commandMany m_place0 m_size0 m_isWrong) 32 [(1, .int s.1), (0, .ref (ad o))] []), J X 0 0 (wM t ad o m_m m_aside m_saved m_isSaved m_past m_changes m_errorAt m_failed m_thrown m_input m_inputMany m_fitting m_given m_pairs m_line m_lineMany m_letters m_begins0 m_commands m_commandMany m_place0 m_size0 m_isWrong) 7 [(1, .int x1), (0, .ref (ad o))] [] := by
  intro jn
  induction jn with
  | zero => intro x1 m_saved u hf; cases (show (none : Option (Int32 × (Nat → Int32))) = some u from hf)
  | succ jn ih =>
    intro x1 m_saved u hf kx
    unfold f_X10_save_L7 at hf
    refine j_iload_n hX dX10_save_7 rfl 0 rfl ?_
    refine j_sipush hX 2048 dX10_save_8 (by decide) ?_
    refine j_icmp_ge hX 32 dX10_save_11 (by decide) hf (fun c11 hf => ?_) (fun c11 hf => ?_)
    · cases hf
      exact kx _ rfl
    · refine j_aload_n hX dX10_save_14 rfl 1 rfl ?_
      refine j_get hX dX10_save_15 inX10 2 q1457 0 rfl rfl (by decide) rfl rfl ?_
      refine j_iload_n hX dX10_save_18 rfl 0 rfl ?_
      refine j_aload_n hX dX10_save_19 rfl 1 rfl ?_
      refine j_get hX dX10_save_20 inX10 0 q1455 0 rfl rfl (by decide) rfl rfl ?_
      refine j_iload_n hX dX10_save_23 rfl 0 rfl ?_
      refine j_iald hX dX10_save_24 1 0 rfl rfl hf (fun c24 hf => ?_)
      refine j_iast hX (wM t ad o m_m m_aside (upd m_saved (x1).toNatClampNeg (m_m (x1).toNatClampNeg)) m_isSaved m_past m_changes m_errorAt m_failed m_thrown m_input m_inputMany m_fitting m_given m_pairs m_line m_lineMany m_letters m_begins0 m_commands m_commandMany m_place0 m_size0 m_isWrong) dX10_save_25 3 0 rfl rfl rfl hf (fun c25 hf => ?_)
      refine j_iinc hX (x1 + 1) [(1, .int (x1 + 1)), (0, .ref (ad o))] dX10_save_26 0 rfl rfl (by decide) rfl ?_
      refine j_goto hX 7 dX10_save_29 (by decide) ?_
      exact ih (x1 + 1) (upd m_saved (x1).toNatClampNeg (m_m (x1).toNatClampNeg)) u hf kx
set_option maxHeartbeats 4000000 in
set_option maxRecDepth 100000 in
theorem k_X10_save {l : Launch} {D : va_G} {t : Nat → ClassId} {ad : Nat → Nat} {o : Nat} (m_m : Nat → Int32) (m_aside : Nat → Int32) (m_saved : Nat → Int32) (m_isSaved : Int32) (m_past : Nat → Int32) (m_changes : Int32) (m_errorAt : Int32) (m_failed : Int32) (m_thrown : Int32) (m_input : Nat → Int32) (m_inputMany : Int32) (m_fitting : Nat → Int32) (m_given : Nat → Int32) (m_pairs : Nat → Int32) (m_line : Nat → Int32) (m_lineMany : Int32) (m_letters : Nat → Int32) (m_begins0 : Nat → Int32) (m_commands : Nat → Int32) (m_commandMany : Int32) (m_place0 : Int32) (m_size0 : Int32) (m_isWrong : Int32)  (u : Int32 × (Nat → Int32) × Int32 × Int32) (hf : f_X10_save m_m m_saved m_isSaved m_thrown = some u) : cm l D (jT t) yX10_save cX10_save 2 (some FieldType.int) { frames := 0, cells := 0, slots := 0, locals := 0 } [.ref (ad o)] (wM t ad o m_m m_aside m_saved m_isSaved m_past m_changes m_errorAt m_failed m_thrown m_input m_inputMany m_fitting m_given m_pairs m_line m_lineMany m_letters m_begins0 m_commands m_commandMany m_place0 m_size0 m_isWrong) (fun v w => v = (some (.int u.1)) ∧ w = wM t ad o m_m m_aside u.2.1 u.2.2.1 m_past m_changes m_errorAt m_failed u.2.2.2 m_input m_inputMany m_fitting m_given m_pairs m_line m_lineMany m_letters m_begins0 m_commands m_commandMany m_place0 m_size0 m_isWrong) := by
  refine cm_of RX10 rfl (by decide +kernel) (Nat.le_of_ble_eq_true rfl) (fun X hX hE => ?_)
  change J X 0 0 (wM t ad o m_m m_aside m_saved m_isSaved m_past m_changes m_errorAt m_failed m_thrown m_input m_inputMany m_fitting m_given m_pairs m_line m_lineMany m_letters m_begins0 m_commands m_commandMany m_place0 m_size0 m_isWrong) 0 [(0, .ref (ad o))] []
  unfold f_X10_save at hf
  refine j_aload_n hX dX10_save_0 rfl 0 rfl ?_
  refine j_iconst hX 0 dX10_save_1 (by decide) ?_
  refine j_put hX (wM t ad o m_m m_aside m_saved m_isSaved m_past m_changes m_errorAt m_failed 0 m_input m_inputMany m_fitting m_given m_pairs m_line m_lineMany m_letters m_begins0 m_commands m_commandMany m_place0 m_size0 m_isWrong) tyX10 dX10_save_2 inX10 tyX10_ok nmX10 8 q1463 0 rfl rfl (by decide) rfl rfl rfl rfl rfl (Nat.le_of_ble_eq_true rfl) rfl ?_
  refine j_iconst hX 0 dX10_save_5 (by decide) ?_
  refine j_istore_n hX [(1, .int 0), (0, .ref (ad o))] dX10_save_6 rfl (by decide) rfl ?_
  obtain ⟨s2, h3, hf⟩ := jbind hf
  refine k_X10_save_L7 (ad := ad) m_m m_aside m_isSaved m_past m_changes m_errorAt m_failed 0 m_input m_inputMany m_fitting m_given m_pairs m_line m_lineMany m_letters m_begins0 m_commands m_commandMany m_place0 m_size0 m_isWrong hX jFU 0 m_saved s2 h3 (fun s20 es2 => ?_)
  subst es2
  refine j_aload_n hX dX10_save_32 rfl 1 rfl ?_
  refine j_iconst hX 1 dX10_save_33 (by decide) ?_
  refine j_put hX (wM t ad o m_m m_aside s2.2 1 m_past m_changes m_errorAt m_failed 0 m_input m_inputMany m_fitting m_given m_pairs m_line m_lineMany m_letters m_begins0 m_commands m_commandMany m_place0 m_size0 m_isWrong) tyX10 dX10_save_34 inX10 tyX10_ok nmX10 3 q1458 0 rfl rfl (by decide) rfl rfl rfl rfl rfl (Nat.le_of_ble_eq_true rfl) rfl ?_
  refine j_aload_n hX dX10_save_37 rfl 1 rfl ?_
  refine j_get hX dX10_save_38 inX10 0 q1455 0 rfl rfl (by decide) rfl rfl ?_
  refine j_iconst hX 0 dX10_save_41 (by decide) ?_
  refine j_iald hX dX10_save_42 1 0 rfl rfl hf (fun c42 hf => ?_)
  cases hf
  exact j_iret hX hE dX10_save_43 (Nat.le_refl _) (Nat.le_refl _) ⟨rfl, rfl⟩
-- HammerDepotModel restore ()I
def f_X10_restore_L20 (m_saved : Nat → Int32) : Nat → Int32 → (Nat → Int32) → Option (Int32 × (Nat → Int32))
  | 0, _, _ => none
  | jn + 1, x1, m_m =>
    if 2048 ≤ x1 then
      some (x1, m_m)
    else
      if jin x1 2048 = true then
        if jin x1 2048 = true then
          f_X10_restore_L20 m_saved jn (x1 + 1) (upd m_m (x1).toNatClampNeg (m_saved (x1).toNatClampNeg))
        else none
      else none
def f_X10_restore (m_m : Nat → Int32) (m_saved : Nat → Int32) (m_isSaved : Int32) (m_changes : Int32) (m_thrown : Int32) : Option (Int32 × (Nat → Int32) × Int32 × Int32) :=
  if m_isSaved = 0 then
    Option.bind (f_X10_throwing 0 1) (fun u4 =>
      some (u4.1, m_m, m_changes, u4.2))
  else
    Option.bind (f_X10_restore_L20 m_saved jFU 0 m_m) (fun s2 =>
      if jin 0 2048 = true then
        some (s2.2 (0 : Int32).toNatClampNeg, s2.2, 0, 0)
      else none)
set_option maxHeartbeats 4000000 in
set_option maxRecDepth 100000 in
theorem k_X10_restore_L20 {l : Launch} {D : va_G} {t : Nat → ClassId} {ad : Nat → Nat} {o : Nat} (m_saved : Nat → Int32) (m_aside : Nat → Int32) (m_isSaved : Int32) (m_past : Nat → Int32) (m_changes : Int32) (m_errorAt : Int32) (m_failed : Int32) (m_thrown : Int32) (m_input : Nat → Int32) (m_inputMany : Int32) (m_fitting : Nat → Int32) (m_given : Nat → Int32) (m_pairs : Nat → Int32) (m_line : Nat → Int32) (m_lineMany : Int32) (m_letters : Nat → Int32) (m_begins0 : Nat → Int32) (m_commands : Nat → Int32) (m_commandMany : Int32) (m_place0 : Int32) (m_size0 : Int32) (m_isWrong : Int32) {X : jX} (hX : jOK X l D (jT t) cX10_restore RX10 (some FieldType.int) { frames := 1, cells := 0, slots := 0, locals := 21 } 2) :
    ∀ (jn : Nat) (x1 : Int32) (m_m : Nat → Int32) (u : Int32 × (Nat → Int32)) (hf : f_X10_restore_L20 m_saved jn x1 m_m = some u) (kx : ∀ s : Int32 × (Nat → Int32), u = s → J X 0 0 (wM t ad o s.2 m_aside m_saved m_isSaved m_past m_changes m_errorAt m_failed m_thrown m_input m_inputMany m_fitting m_given m_pairs m_line m_lineMany m_letters m_begins0 m_commands m_commandMany m_place0 m_size0 m_isWrong) 45 [(1, .int s.1), (0, .ref (ad o))] []), J X 0 0 (wM t ad o m_m m_aside m_saved m_isSaved m_past m_changes m_errorAt m_failed m_thrown m_input m_inputMany m_fitting m_given m_pairs m_line m_lineMany m_letters m_begins0 m_commands m_commandMany m_place0 m_size0 m_isWrong) 20 [(1, .int x1), (0, .ref (ad o))] [] := by
  intro jn
  induction jn with
  | zero => intro x1 m_m u hf; cases (show (none : Option (Int32 × (Nat → Int32))) = some u from hf)
  | succ jn ih =>
    intro x1 m_m u hf kx
    unfold f_X10_restore_L20 at hf
    refine j_iload_n hX dX10_restore_20 rfl 0 rfl ?_
    refine j_sipush hX 2048 dX10_restore_21 (by decide) ?_
    refine j_icmp_ge hX 45 dX10_restore_24 (by decide) hf (fun c24 hf => ?_) (fun c24 hf => ?_)
    · cases hf
      exact kx _ rfl
    · refine j_aload_n hX dX10_restore_27 rfl 1 rfl ?_
      refine j_get hX dX10_restore_28 inX10 0 q1455 0 rfl rfl (by decide) rfl rfl ?_
      refine j_iload_n hX dX10_restore_31 rfl 0 rfl ?_
      refine j_aload_n hX dX10_restore_32 rfl 1 rfl ?_
      refine j_get hX dX10_restore_33 inX10 2 q1457 0 rfl rfl (by decide) rfl rfl ?_
      refine j_iload_n hX dX10_restore_36 rfl 0 rfl ?_
      refine j_iald hX dX10_restore_37 3 0 rfl rfl hf (fun c37 hf => ?_)
      refine j_iast hX (wM t ad o (upd m_m (x1).toNatClampNeg (m_saved (x1).toNatClampNeg)) m_aside m_saved m_isSaved m_past m_changes m_errorAt m_failed m_thrown m_input m_inputMany m_fitting m_given m_pairs m_line m_lineMany m_letters m_begins0 m_commands m_commandMany m_place0 m_size0 m_isWrong) dX10_restore_38 1 0 rfl rfl rfl hf (fun c38 hf => ?_)
      refine j_iinc hX (x1 + 1) [(1, .int (x1 + 1)), (0, .ref (ad o))] dX10_restore_39 0 rfl rfl (by decide) rfl ?_
      refine j_goto hX 20 dX10_restore_42 (by decide) ?_
      exact ih (x1 + 1) (upd m_m (x1).toNatClampNeg (m_saved (x1).toNatClampNeg)) u hf kx
set_option maxHeartbeats 4000000 in
set_option maxRecDepth 100000 in
theorem k_X10_restore {l : Launch} {D : va_G} {t : Nat → ClassId} {ad : Nat → Nat} {o : Nat} (m_m : Nat → Int32) (m_aside : Nat → Int32) (m_saved : Nat → Int32) (m_isSaved : Int32) (m_past : Nat → Int32) (m_changes : Int32) (m_errorAt : Int32) (m_failed : Int32) (m_thrown : Int32) (m_input : Nat → Int32) (m_inputMany : Int32) (m_fitting : Nat → Int32) (m_given : Nat → Int32) (m_pairs : Nat → Int32) (m_line : Nat → Int32) (m_lineMany : Int32) (m_letters : Nat → Int32) (m_begins0 : Nat → Int32) (m_commands : Nat → Int32) (m_commandMany : Int32) (m_place0 : Int32) (m_size0 : Int32) (m_isWrong : Int32)  (u : Int32 × (Nat → Int32) × Int32 × Int32) (hf : f_X10_restore m_m m_saved m_isSaved m_changes m_thrown = some u) : cm l D (jT t) yX10_restore cX10_restore 2 (some FieldType.int) { frames := 1, cells := 0, slots := 0, locals := 21 } [.ref (ad o)] (wM t ad o m_m m_aside m_saved m_isSaved m_past m_changes m_errorAt m_failed m_thrown m_input m_inputMany m_fitting m_given m_pairs m_line m_lineMany m_letters m_begins0 m_commands m_commandMany m_place0 m_size0 m_isWrong) (fun v w => v = (some (.int u.1)) ∧ w = wM t ad o u.2.1 m_aside m_saved m_isSaved m_past u.2.2.1 m_errorAt m_failed u.2.2.2 m_input m_inputMany m_fitting m_given m_pairs m_line m_lineMany m_letters m_begins0 m_commands m_commandMany m_place0 m_size0 m_isWrong) := by
  refine cm_of RX10 rfl (by decide +kernel) (Nat.le_of_ble_eq_true rfl) (fun X hX hE => ?_)
  change J X 0 0 (wM t ad o m_m m_aside m_saved m_isSaved m_past m_changes m_errorAt m_failed m_thrown m_input m_inputMany m_fitting m_given m_pairs m_line m_lineMany m_letters m_begins0 m_commands m_commandMany m_place0 m_size0 m_isWrong) 0 [(0, .ref (ad o))] []
  unfold f_X10_restore at hf
  refine j_aload_n hX dX10_restore_0 rfl 0 rfl ?_
  refine j_iconst hX 0 dX10_restore_1 (by decide) ?_
  refine j_put hX (wM t ad o m_m m_aside m_saved m_isSaved m_past m_changes m_errorAt m_failed 0 m_input m_inputMany m_fitting m_given m_pairs m_line m_lineMany m_letters m_begins0 m_commands m_commandMany m_place0 m_size0 m_isWrong) tyX10 dX10_restore_2 inX10 tyX10_ok nmX10 8 q1463 0 rfl rfl (by decide) rfl rfl rfl rfl rfl (Nat.le_of_ble_eq_true rfl) rfl ?_
  refine j_aload_n hX dX10_restore_5 rfl 0 rfl ?_
  refine j_get hX dX10_restore_6 inX10 3 q1458 0 rfl rfl (by decide) rfl rfl ?_
  refine j_if_ne hX 18 dX10_restore_9 (by decide) hf (fun c9 hf => ?_) (fun c9 hf => ?_)
  · refine j_iconst hX 0 dX10_restore_18 (by decide) ?_
    refine j_istore_n hX [(1, .int 0), (0, .ref (ad o))] dX10_restore_19 rfl (by decide) rfl ?_
    obtain ⟨s2, h3, hf⟩ := jbind hf
    refine k_X10_restore_L20 (ad := ad) m_saved m_aside m_isSaved m_past m_changes m_errorAt m_failed 0 m_input m_inputMany m_fitting m_given m_pairs m_line m_lineMany m_letters m_begins0 m_commands m_commandMany m_place0 m_size0 m_isWrong hX jFU 0 m_m s2 h3 (fun s20 es2 => ?_)
    subst es2
    refine j_aload_n hX dX10_restore_45 rfl 1 rfl ?_
    refine j_iconst hX 0 dX10_restore_46 (by decide) ?_
    refine j_put hX (wM t ad o s2.2 m_aside m_saved m_isSaved m_past 0 m_errorAt m_failed 0 m_input m_inputMany m_fitting m_given m_pairs m_line m_lineMany m_letters m_begins0 m_commands m_commandMany m_place0 m_size0 m_isWrong) tyX10 dX10_restore_47 inX10 tyX10_ok nmX10 5 q1460 0 rfl rfl (by decide) rfl rfl rfl rfl rfl (Nat.le_of_ble_eq_true rfl) rfl ?_
    refine j_aload_n hX dX10_restore_50 rfl 1 rfl ?_
    refine j_get hX dX10_restore_51 inX10 0 q1455 0 rfl rfl (by decide) rfl rfl ?_
    refine j_iconst hX 0 dX10_restore_54 (by decide) ?_
    refine j_iald hX dX10_restore_55 1 0 rfl rfl hf (fun c55 hf => ?_)
    cases hf
    exact j_iret hX hE dX10_restore_56 (Nat.le_refl _) (Nat.le_refl _) ⟨rfl, rfl⟩
  · refine j_aload_n hX dX10_restore_12 rfl 0 rfl ?_
    refine j_iconst hX 1 dX10_restore_13 (by decide) ?_
    obtain ⟨u4, h5, hf⟩ := jbind hf
    refine j_callV (st := []) hX (k_X10_throwing (l := l) (D := D) (t := t) (ad := ad) (o := o) m_m m_aside m_saved m_isSaved m_past m_changes m_errorAt m_failed 0 m_input m_inputMany m_fitting m_given m_pairs m_line m_lineMany m_letters m_begins0 m_commands m_commandMany m_place0 m_size0 m_isWrong 1 u4 h5) q1496 q1497 q1951 q15 q1498 (n9 := 1) rfl ⟨by decide +kernel, by decide +kernel⟩ 0 rfl rfl rfl dX10_restore_14 (Nat.le_of_ble_eq_true rfl) ⟨Nat.le_refl _, Nat.le_refl _⟩ (fun w : va_W => w) jFr_id rfl rfl (fun v w hvw => ?_)
    obtain ⟨rfl, rfl⟩ := hvw
    change J X 0 0 (wM t ad o m_m m_aside m_saved m_isSaved m_past m_changes m_errorAt m_failed u4.2 m_input m_inputMany m_fitting m_given m_pairs m_line m_lineMany m_letters m_begins0 m_commands m_commandMany m_place0 m_size0 m_isWrong) 17 [(0, .ref (ad o))] [.int u4.1]
    cases hf
    exact j_iret hX hE dX10_restore_17 (Nat.le_refl _) (Nat.le_refl _) ⟨rfl, rfl⟩

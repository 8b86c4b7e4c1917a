-- HammerDepotModel may (II)Z
def f_X10_may (m_m : Nat → Int32) (a0 : Int32) (a1 : Int32) : Option (Int32) :=
  Option.bind (f_X10_requestOf a0) (fun u1 =>
    Option.bind (f_X10_hammerOf a1) (fun u3 =>
      if jin u3 2048 = true then
        if jin (u1 + 2) 2048 = true then
          if jin (u1 + 3) 2048 = true then
            if (m_m (u1 + 3).toNatClampNeg) < (jabs ((m_m (u3).toNatClampNeg) - (m_m (u1 + 2).toNatClampNeg))) then
              if jin (u3 + 2) 2048 = true then
                if (m_m (u3 + 2).toNatClampNeg) = (-1) then
                  if jin (u3 + 5) 2048 = true then
                    if jin (u1 + 4) 2048 = true then
                      if (m_m (u1 + 4).toNatClampNeg) ≤ (m_m (u3 + 5).toNatClampNeg) then
                        some 0
                      else
                        some 0
                    else none
                  else none
                else
                  some 0
              else none
            else
              if jin (u3 + 1) 2048 = true then
                if 100 ≤ (m_m (u3 + 1).toNatClampNeg) then
                  if jin (u3 + 2) 2048 = true then
                    if (m_m (u3 + 2).toNatClampNeg) = (-1) then
                      if jin (u3 + 5) 2048 = true then
                        if jin (u1 + 4) 2048 = true then
                          if (m_m (u1 + 4).toNatClampNeg) ≤ (m_m (u3 + 5).toNatClampNeg) then
                            some 0
                          else
                            some 0
                        else none
                      else none
                    else
                      some 0
                  else none
                else
                  if jin (u3 + 2) 2048 = true then
                    if (m_m (u3 + 2).toNatClampNeg) = (-1) then
                      if jin (u3 + 5) 2048 = true then
                        if jin (u1 + 4) 2048 = true then
                          if (m_m (u1 + 4).toNatClampNeg) ≤ (m_m (u3 + 5).toNatClampNeg) then
                            some 0
                          else
                            if jin (u1 + 4) 2048 = true then
                              if jin (u1 + 5) 2048 = true then
                                Option.bind (f_X10_isFree m_m a1 (m_m (u1 + 4).toNatClampNeg) (m_m (u1 + 5).toNatClampNeg)) (fun u7 =>
                                  if u7 = 0 then
                                    some 0
                                  else
                                    some 1)
                              else none
                            else none
                        else none
                      else none
                    else
                      if jin (u1 + 4) 2048 = true then
                        if jin (u1 + 5) 2048 = true then
                          Option.bind (f_X10_isFree m_m a1 (m_m (u1 + 4).toNatClampNeg) (m_m (u1 + 5).toNatClampNeg)) (fun u5 =>
                            if u5 = 0 then
                              some 0
                            else
                              some 1)
                        else none
                      else none
                  else none
              else none
          else none
        else none
      else none))
set_option maxHeartbeats 4000000 in
set_option maxRecDepth 100000 in
theorem k_X10_may {l : Launch} {D : va_G} {t : Nat → ClassId} {ad : Nat → Nat} {o : Nat} (m_m : Nat → Int32) (m_aside : Nat → Int32) (m_saved : Nat → Int32) (m_isSaved : Int32) (m_past : Nat → Int32) (m_changes : Int32) (m_errorAt : Int32) (m_failed : Int32) (m_thrown : Int32) (m_input : Nat → Int32) (m_inputMany : Int32) (m_fitting : Nat → Int32) (m_given : Nat → Int32) (m_pairs : Nat → Int32) (m_line : Nat → Int32) (m_lineMany : Int32) (m_letters : Nat → Int32) (m_begins0 : Nat → Int32) (m_commands : Nat → Int32) (m_commandMany : Int32) (m_place0 : Int32) (m_size0 : Int32) (m_isWrong : Int32) (a0 : Int32) (a1 : Int32) (u : Int32) (hf : f_X10_may m_m a0 a1 = some u) : cm l D (jT t) yX10_may cX10_may 7 (some FieldType.boolean) { frames := 2, cells := 0, slots := 0, locals := 46 } [.ref (ad o), .int a0, .int a1] (wM t ad o m_m m_aside m_saved m_isSaved m_past m_changes m_errorAt m_failed m_thrown m_input m_inputMany m_fitting m_given m_pairs m_line m_lineMany m_letters m_begins0 m_commands m_commandMany m_place0 m_size0 m_isWrong) (fun v w => v = (some (.int u)) ∧ w = wM t ad o m_m m_aside m_saved m_isSaved m_past m_changes m_errorAt m_failed m_thrown m_input m_inputMany m_fitting m_given m_pairs m_line m_lineMany m_letters m_begins0 m_commands m_commandMany m_place0 m_size0 m_isWrong) := by
  refine cm_of RX10 rfl (by decide +kernel) (Nat.le_of_ble_eq_true rfl) (fun X hX hE => ?_)
  change J X 0 0 (wM t ad o m_m m_aside m_saved m_isSaved m_past m_changes m_errorAt m_failed m_thrown m_input m_inputMany m_fitting m_given m_pairs m_line m_lineMany m_letters m_begins0 m_commands m_commandMany m_place0 m_size0 m_isWrong) 0 [(0, .ref (ad o)), (1, .int a0), (2, .int a1)] []
  unfold f_X10_may at hf
  refine j_iload_n hX dX10_may_0 rfl 1 rfl ?_
  obtain ⟨u1, h2, hf⟩ := jbind hf
  refine j_callS (st := []) hX (k_X10_requestOf (l := l) (D := D) (t := t) (ad := ad)  a0 u1 h2) q1554 q1555 q15 q1556 (n9 := 1) rfl ⟨by decide +kernel, by decide +kernel⟩ dX10_may_1 (Nat.le_of_ble_eq_true rfl) ⟨Nat.le_refl _, Nat.le_refl _⟩ (fun w : va_W => w ++ (wM t ad o m_m m_aside m_saved m_isSaved m_past m_changes m_errorAt m_failed m_thrown m_input m_inputMany m_fitting m_given m_pairs m_line m_lineMany m_letters m_begins0 m_commands m_commandMany m_place0 m_size0 m_isWrong)) (jFr_r (wM t ad o m_m m_aside m_saved m_isSaved m_past m_changes m_errorAt m_failed m_thrown m_input m_inputMany m_fitting m_given m_pairs m_line m_lineMany m_letters m_begins0 m_commands m_commandMany m_place0 m_size0 m_isWrong)) rfl rfl (fun v w hvw => ?_)
  obtain ⟨rfl, rfl⟩ := hvw
  change J X 0 0 (wM t ad o m_m m_aside m_saved m_isSaved m_past m_changes m_errorAt m_failed m_thrown m_input m_inputMany m_fitting m_given m_pairs m_line m_lineMany m_letters m_begins0 m_commands m_commandMany m_place0 m_size0 m_isWrong) 4 [(0, .ref (ad o)), (1, .int a0), (2, .int a1)] [.int u1]
  refine j_istore_n hX [(3, .int u1), (0, .ref (ad o)), (1, .int a0), (2, .int a1)] dX10_may_4 rfl (by decide) rfl ?_
  refine j_iload_n hX dX10_may_5 rfl 3 rfl ?_
  obtain ⟨u3, h4, hf⟩ := jbind hf
  refine j_callS (st := []) hX (k_X10_hammerOf (l := l) (D := D) (t := t) (ad := ad)  a1 u3 h4) q1509 q1510 q15 q1511 (n9 := 1) rfl ⟨by decide +kernel, by decide +kernel⟩ dX10_may_6 (Nat.le_of_ble_eq_true rfl) ⟨Nat.le_refl _, Nat.le_refl _⟩ (fun w : va_W => w ++ (wM t ad o m_m m_aside m_saved m_isSaved m_past m_changes m_errorAt m_failed m_thrown m_input m_inputMany m_fitting m_given m_pairs m_line m_lineMany m_letters m_begins0 m_commands m_commandMany m_place0 m_size0 m_isWrong)) (jFr_r (wM t ad o m_m m_aside m_saved m_isSaved m_past m_changes m_errorAt m_failed m_thrown m_input m_inputMany m_fitting m_given m_pairs m_line m_lineMany m_letters m_begins0 m_commands m_commandMany m_place0 m_size0 m_isWrong)) rfl rfl (fun v w hvw => ?_)
  obtain ⟨rfl, rfl⟩ := hvw
  change J X 0 0 (wM t ad o m_m m_aside m_saved m_isSaved m_past m_changes m_errorAt m_failed m_thrown m_input m_inputMany m_fitting m_given m_pairs m_line m_lineMany m_letters m_begins0 m_commands m_commandMany m_place0 m_size0 m_isWrong) 9 [(3, .int u1), (0, .ref (ad o)), (1, .int a0), (2, .int a1)] [.int u3]
  refine j_istore hX [(4, .int u3), (3, .int u1), (0, .ref (ad o)), (1, .int a0), (2, .int a1)] dX10_may_9 (by decide) rfl ?_
  refine j_aload_n hX dX10_may_11 rfl 2 rfl ?_
  refine j_get hX dX10_may_12 inX10 0 q1455 0 rfl rfl (by decide) rfl rfl ?_
  refine j_iload hX dX10_may_15 0 rfl ?_
  refine j_iald hX dX10_may_17 1 0 rfl rfl hf (fun c17 hf => ?_)
  refine j_aload_n hX dX10_may_18 rfl 2 rfl ?_
  refine j_get hX dX10_may_19 inX10 0 q1455 0 rfl rfl (by decide) rfl rfl ?_
  refine j_iload_n hX dX10_may_22 rfl 1 rfl ?_
  refine j_iconst hX 2 dX10_may_23 (by decide) ?_
  refine j_iadd hX dX10_may_24 ?_
  refine j_iald hX dX10_may_25 1 0 rfl rfl hf (fun c25 hf => ?_)
  refine j_isub hX dX10_may_26 ?_
  refine j_mabs hX q1583 dX10_may_27 (Nat.le_of_ble_eq_true rfl) (by decide) ⟨Nat.le_refl _, Nat.le_refl _⟩ ?_
  refine j_aload_n hX dX10_may_30 rfl 2 rfl ?_
  refine j_get hX dX10_may_31 inX10 0 q1455 0 rfl rfl (by decide) rfl rfl ?_
  refine j_iload_n hX dX10_may_34 rfl 1 rfl ?_
  refine j_iconst hX 3 dX10_may_35 (by decide) ?_
  refine j_iadd hX dX10_may_36 ?_
  refine j_iald hX dX10_may_37 1 0 rfl rfl hf (fun c37 hf => ?_)
  refine j_icmp_gt hX 59 dX10_may_38 (by decide) hf (fun c38 hf => ?_) (fun c38 hf => ?_)
  · refine j_iconst hX 0 dX10_may_59 (by decide) ?_
    refine j_istore hX [(5, .int 0), (4, .int u3), (3, .int u1), (0, .ref (ad o)), (1, .int a0), (2, .int a1)] dX10_may_60 (by decide) rfl ?_
    refine j_aload_n hX dX10_may_62 rfl 3 rfl ?_
    refine j_get hX dX10_may_63 inX10 0 q1455 0 rfl rfl (by decide) rfl rfl ?_
    refine j_iload hX dX10_may_66 1 rfl ?_
    refine j_iconst hX 2 dX10_may_68 (by decide) ?_
    refine j_iadd hX dX10_may_69 ?_
    refine j_iald hX dX10_may_70 1 0 rfl rfl hf (fun c70 hf => ?_)
    refine j_iconst hX (-1) dX10_may_71 (by decide) ?_
    refine j_icmp_ne hX 95 dX10_may_72 (by decide) hf (fun c72 hf => ?_) (fun c72 hf => ?_)
    · refine j_iconst hX 1 dX10_may_95 (by decide) ?_
      refine j_goto hX 100 dX10_may_96 (by decide) ?_
      refine j_istore hX [(6, .int 1), (5, .int 0), (4, .int u3), (3, .int u1), (0, .ref (ad o)), (1, .int a0), (2, .int a1)] dX10_may_100 (by decide) rfl ?_
      refine j_iload hX dX10_may_102 1 rfl ?_
      refine j_if_eq (α := Unit) (F := none) (G := none) (o := none) hX 140 dX10_may_104 (by decide) (ite_self none) (fun c104 _ => ?_) (fun c104 _ => absurd c104 (by decide))
      refine j_iconst hX 0 dX10_may_140 (by decide) ?_
      cases hf
      exact j_zret hX hE rfl dX10_may_141 (Nat.le_refl _) (Nat.le_refl _) ⟨rfl, rfl⟩
    · refine j_aload_n hX dX10_may_75 rfl 3 rfl ?_
      refine j_get hX dX10_may_76 inX10 0 q1455 0 rfl rfl (by decide) rfl rfl ?_
      refine j_iload hX dX10_may_79 1 rfl ?_
      refine j_iconst hX 5 dX10_may_81 (by decide) ?_
      refine j_iadd hX dX10_may_82 ?_
      refine j_iald hX dX10_may_83 1 0 rfl rfl hf (fun c83 hf => ?_)
      refine j_aload_n hX dX10_may_84 rfl 3 rfl ?_
      refine j_get hX dX10_may_85 inX10 0 q1455 0 rfl rfl (by decide) rfl rfl ?_
      refine j_iload_n hX dX10_may_88 rfl 2 rfl ?_
      refine j_iconst hX 4 dX10_may_89 (by decide) ?_
      refine j_iadd hX dX10_may_90 ?_
      refine j_iald hX dX10_may_91 1 0 rfl rfl hf (fun c91 hf => ?_)
      refine j_icmp_ge hX 99 dX10_may_92 (by decide) hf (fun c92 hf => ?_) (fun c92 hf => ?_)
      · refine j_iconst hX 0 dX10_may_99 (by decide) ?_
        refine j_istore hX [(6, .int 0), (5, .int 0), (4, .int u3), (3, .int u1), (0, .ref (ad o)), (1, .int a0), (2, .int a1)] dX10_may_100 (by decide) rfl ?_
        refine j_iload hX dX10_may_102 1 rfl ?_
        refine j_if_eq (α := Unit) (F := none) (G := none) (o := none) hX 140 dX10_may_104 (by decide) (ite_self none) (fun c104 _ => ?_) (fun c104 _ => absurd c104 (by decide))
        refine j_iconst hX 0 dX10_may_140 (by decide) ?_
        cases hf
        exact j_zret hX hE rfl dX10_may_141 (Nat.le_refl _) (Nat.le_refl _) ⟨rfl, rfl⟩
      · refine j_iconst hX 1 dX10_may_95 (by decide) ?_
        refine j_goto hX 100 dX10_may_96 (by decide) ?_
        refine j_istore hX [(6, .int 1), (5, .int 0), (4, .int u3), (3, .int u1), (0, .ref (ad o)), (1, .int a0), (2, .int a1)] dX10_may_100 (by decide) rfl ?_
        refine j_iload hX dX10_may_102 1 rfl ?_
        refine j_if_eq (α := Unit) (F := none) (G := none) (o := none) hX 140 dX10_may_104 (by decide) (ite_self none) (fun c104 _ => ?_) (fun c104 _ => absurd c104 (by decide))
        refine j_iconst hX 0 dX10_may_140 (by decide) ?_
        cases hf
        exact j_zret hX hE rfl dX10_may_141 (Nat.le_refl _) (Nat.le_refl _) ⟨rfl, rfl⟩
  · refine j_aload_n hX dX10_may_41 rfl 2 rfl ?_
    refine j_get hX dX10_may_42 inX10 0 q1455 0 rfl rfl (by decide) rfl rfl ?_
    refine j_iload hX dX10_may_45 0 rfl ?_
    refine j_iconst hX 1 dX10_may_47 (by decide) ?_
    refine j_iadd hX dX10_may_48 ?_
    refine j_iald hX dX10_may_49 1 0 rfl rfl hf (fun c49 hf => ?_)
    refine j_bipush hX 100 dX10_may_50 (by decide) ?_
    refine j_icmp_ge hX 59 dX10_may_52 (by decide) hf (fun c52 hf => ?_) (fun c52 hf => ?_)
    · refine j_iconst hX 0 dX10_may_59 (by decide) ?_
      refine j_istore hX [(5, .int 0), (4, .int u3), (3, .int u1), (0, .ref (ad o)), (1, .int a0), (2, .int a1)] dX10_may_60 (by decide) rfl ?_
      refine j_aload_n hX dX10_may_62 rfl 3 rfl ?_
      refine j_get hX dX10_may_63 inX10 0 q1455 0 rfl rfl (by decide) rfl rfl ?_
      refine j_iload hX dX10_may_66 1 rfl ?_
      refine j_iconst hX 2 dX10_may_68 (by decide) ?_
      refine j_iadd hX dX10_may_69 ?_
      refine j_iald hX dX10_may_70 1 0 rfl rfl hf (fun c70 hf => ?_)
      refine j_iconst hX (-1) dX10_may_71 (by decide) ?_
      refine j_icmp_ne hX 95 dX10_may_72 (by decide) hf (fun c72 hf => ?_) (fun c72 hf => ?_)
      · refine j_iconst hX 1 dX10_may_95 (by decide) ?_
        refine j_goto hX 100 dX10_may_96 (by decide) ?_
        refine j_istore hX [(6, .int 1), (5, .int 0), (4, .int u3), (3, .int u1), (0, .ref (ad o)), (1, .int a0), (2, .int a1)] dX10_may_100 (by decide) rfl ?_
        refine j_iload hX dX10_may_102 1 rfl ?_
        refine j_if_eq (α := Unit) (F := none) (G := none) (o := none) hX 140 dX10_may_104 (by decide) (ite_self none) (fun c104 _ => ?_) (fun c104 _ => absurd c104 (by decide))
        refine j_iconst hX 0 dX10_may_140 (by decide) ?_
        cases hf
        exact j_zret hX hE rfl dX10_may_141 (Nat.le_refl _) (Nat.le_refl _) ⟨rfl, rfl⟩
      · refine j_aload_n hX dX10_may_75 rfl 3 rfl ?_
        refine j_get hX dX10_may_76 inX10 0 q1455 0 rfl rfl (by decide) rfl rfl ?_
        refine j_iload hX dX10_may_79 1 rfl ?_
        refine j_iconst hX 5 dX10_may_81 (by decide) ?_
        refine j_iadd hX dX10_may_82 ?_
        refine j_iald hX dX10_may_83 1 0 rfl rfl hf (fun c83 hf => ?_)
        refine j_aload_n hX dX10_may_84 rfl 3 rfl ?_
        refine j_get hX dX10_may_85 inX10 0 q1455 0 rfl rfl (by decide) rfl rfl ?_
        refine j_iload_n hX dX10_may_88 rfl 2 rfl ?_
        refine j_iconst hX 4 dX10_may_89 (by decide) ?_
        refine j_iadd hX dX10_may_90 ?_
        refine j_iald hX dX10_may_91 1 0 rfl rfl hf (fun c91 hf => ?_)
        refine j_icmp_ge hX 99 dX10_may_92 (by decide) hf (fun c92 hf => ?_) (fun c92 hf => ?_)
        · refine j_iconst hX 0 dX10_may_99 (by decide) ?_
          refine j_istore hX [(6, .int 0), (5, .int 0), (4, .int u3), (3, .int u1), (0, .ref (ad o)), (1, .int a0), (2, .int a1)] dX10_may_100 (by decide) rfl ?_
          refine j_iload hX dX10_may_102 1 rfl ?_
          refine j_if_eq (α := Unit) (F := none) (G := none) (o := none) hX 140 dX10_may_104 (by decide) (ite_self none) (fun c104 _ => ?_) (fun c104 _ => absurd c104 (by decide))
          refine j_iconst hX 0 dX10_may_140 (by decide) ?_
          cases hf
          exact j_zret hX hE rfl dX10_may_141 (Nat.le_refl _) (Nat.le_refl _) ⟨rfl, rfl⟩
        · refine j_iconst hX 1 dX10_may_95 (by decide) ?_
          refine j_goto hX 100 dX10_may_96 (by decide) ?_
          refine j_istore hX [(6, .int 1), (5, .int 0), (4, .int u3), (3, .int u1), (0, .ref (ad o)), (1, .int a0), (2, .int a1)] dX10_may_100 (by decide) rfl ?_
          refine j_iload hX dX10_may_102 1 rfl ?_
          refine j_if_eq (α := Unit) (F := none) (G := none) (o := none) hX 140 dX10_may_104 (by decide) (ite_self none) (fun c104 _ => ?_) (fun c104 _ => absurd c104 (by decide))
          refine j_iconst hX 0 dX10_may_140 (by decide) ?_
          cases hf
          exact j_zret hX hE rfl dX10_may_141 (Nat.le_refl _) (Nat.le_refl _) ⟨rfl, rfl⟩
    · refine j_iconst hX 1 dX10_may_55 (by decide) ?_
      refine j_goto hX 60 dX10_may_56 (by decide) ?_
      refine j_istore hX [(5, .int 1), (4, .int u3), (3, .int u1), (0, .ref (ad o)), (1, .int a0), (2, .int a1)] dX10_may_60 (by decide) rfl ?_
      refine j_aload_n hX dX10_may_62 rfl 3 rfl ?_
      refine j_get hX dX10_may_63 inX10 0 q1455 0 rfl rfl (by decide) rfl rfl ?_
      refine j_iload hX dX10_may_66 1 rfl ?_
      refine j_iconst hX 2 dX10_may_68 (by decide) ?_
      refine j_iadd hX dX10_may_69 ?_
      refine j_iald hX dX10_may_70 1 0 rfl rfl hf (fun c70 hf => ?_)
      refine j_iconst hX (-1) dX10_may_71 (by decide) ?_
      refine j_icmp_ne hX 95 dX10_may_72 (by decide) hf (fun c72 hf => ?_) (fun c72 hf => ?_)
      · refine j_iconst hX 1 dX10_may_95 (by decide) ?_
        refine j_goto hX 100 dX10_may_96 (by decide) ?_
        refine j_istore hX [(6, .int 1), (5, .int 1), (4, .int u3), (3, .int u1), (0, .ref (ad o)), (1, .int a0), (2, .int a1)] dX10_may_100 (by decide) rfl ?_
        refine j_iload hX dX10_may_102 1 rfl ?_
        refine j_if_eq (α := Unit) (F := none) (G := none) (o := none) hX 140 dX10_may_104 (by decide) (ite_self none) (fun c104 _ => absurd c104 (by decide)) (fun c104 _ => ?_)
        refine j_iload hX dX10_may_107 0 rfl ?_
        refine j_if_eq (α := Unit) (F := none) (G := none) (o := none) hX 140 dX10_may_109 (by decide) (ite_self none) (fun c109 _ => absurd c109 (by decide)) (fun c109 _ => ?_)
        refine j_aload_n hX dX10_may_112 rfl 4 rfl ?_
        refine j_iload_n hX dX10_may_113 rfl 6 rfl ?_
        refine j_aload_n hX dX10_may_114 rfl 4 rfl ?_
        refine j_get hX dX10_may_115 inX10 0 q1455 0 rfl rfl (by decide) rfl rfl ?_
        refine j_iload_n hX dX10_may_118 rfl 3 rfl ?_
        refine j_iconst hX 4 dX10_may_119 (by decide) ?_
        refine j_iadd hX dX10_may_120 ?_
        refine j_iald hX dX10_may_121 1 0 rfl rfl hf (fun c121 hf => ?_)
        refine j_aload_n hX dX10_may_122 rfl 4 rfl ?_
        refine j_get hX dX10_may_123 inX10 0 q1455 0 rfl rfl (by decide) rfl rfl ?_
        refine j_iload_n hX dX10_may_126 rfl 3 rfl ?_
        refine j_iconst hX 5 dX10_may_127 (by decide) ?_
        refine j_iadd hX dX10_may_128 ?_
        refine j_iald hX dX10_may_129 1 0 rfl rfl hf (fun c129 hf => ?_)
        obtain ⟨u5, h6, hf⟩ := jbind hf
        refine j_callV (st := []) hX (k_X10_isFree (l := l) (D := D) (t := t) (ad := ad) (o := o) m_m m_aside m_saved m_isSaved m_past m_changes m_errorAt m_failed m_thrown m_input m_inputMany m_fitting m_given m_pairs m_line m_lineMany m_letters m_begins0 m_commands m_commandMany m_place0 m_size0 m_isWrong a1 (m_m (u1 + 4).toNatClampNeg) (m_m (u1 + 5).toNatClampNeg) u5 h6) q1584 q1585 q1968 q15 q1586 (n9 := 3) rfl ⟨by decide +kernel, by decide +kernel⟩ 0 rfl rfl rfl dX10_may_130 (Nat.le_of_ble_eq_true rfl) ⟨Nat.le_refl _, Nat.le_refl _⟩ (fun w : va_W => w) jFr_id rfl rfl (fun v w hvw => ?_)
        obtain ⟨rfl, rfl⟩ := hvw
        change J X 0 0 (wM t ad o m_m m_aside m_saved m_isSaved m_past m_changes m_errorAt m_failed m_thrown m_input m_inputMany m_fitting m_given m_pairs m_line m_lineMany m_letters m_begins0 m_commands m_commandMany m_place0 m_size0 m_isWrong) 133 [(6, .int 1), (5, .int 1), (4, .int u3), (3, .int u1), (0, .ref (ad o)), (1, .int a0), (2, .int a1)] [.int u5]
        refine j_if_eq hX 140 dX10_may_133 (by decide) hf (fun c133 hf => ?_) (fun c133 hf => ?_)
        · refine j_iconst hX 0 dX10_may_140 (by decide) ?_
          cases hf
          exact j_zret hX hE rfl dX10_may_141 (Nat.le_refl _) (Nat.le_refl _) ⟨rfl, rfl⟩
        · refine j_iconst hX 1 dX10_may_136 (by decide) ?_
          refine j_goto hX 141 dX10_may_137 (by decide) ?_
          cases hf
          exact j_zret hX hE rfl dX10_may_141 (Nat.le_refl _) (Nat.le_refl _) ⟨rfl, rfl⟩
      · refine j_aload_n hX dX10_may_75 rfl 3 rfl ?_
        refine j_get hX dX10_may_76 inX10 0 q1455 0 rfl rfl (by decide) rfl rfl ?_
        refine j_iload hX dX10_may_79 1 rfl ?_
        refine j_iconst hX 5 dX10_may_81 (by decide) ?_
        refine j_iadd hX dX10_may_82 ?_
        refine j_iald hX dX10_may_83 1 0 rfl rfl hf (fun c83 hf => ?_)
        refine j_aload_n hX dX10_may_84 rfl 3 rfl ?_
        refine j_get hX dX10_may_85 inX10 0 q1455 0 rfl rfl (by decide) rfl rfl ?_
        refine j_iload_n hX dX10_may_88 rfl 2 rfl ?_
        refine j_iconst hX 4 dX10_may_89 (by decide) ?_
        refine j_iadd hX dX10_may_90 ?_
        refine j_iald hX dX10_may_91 1 0 rfl rfl hf (fun c91 hf => ?_)
        refine j_icmp_ge hX 99 dX10_may_92 (by decide) hf (fun c92 hf => ?_) (fun c92 hf => ?_)
        · refine j_iconst hX 0 dX10_may_99 (by decide) ?_
          refine j_istore hX [(6, .int 0), (5, .int 1), (4, .int u3), (3, .int u1), (0, .ref (ad o)), (1, .int a0), (2, .int a1)] dX10_may_100 (by decide) rfl ?_
          refine j_iload hX dX10_may_102 1 rfl ?_
          refine j_if_eq (α := Unit) (F := none) (G := none) (o := none) hX 140 dX10_may_104 (by decide) (ite_self none) (fun c104 _ => absurd c104 (by decide)) (fun c104 _ => ?_)
          refine j_iload hX dX10_may_107 0 rfl ?_
          refine j_if_eq (α := Unit) (F := none) (G := none) (o := none) hX 140 dX10_may_109 (by decide) (ite_self none) (fun c109 _ => ?_) (fun c109 _ => absurd c109 (by decide))
          refine j_iconst hX 0 dX10_may_140 (by decide) ?_
          cases hf
          exact j_zret hX hE rfl dX10_may_141 (Nat.le_refl _) (Nat.le_refl _) ⟨rfl, rfl⟩
        · refine j_iconst hX 1 dX10_may_95 (by decide) ?_
          refine j_goto hX 100 dX10_may_96 (by decide) ?_
          refine j_istore hX [(6, .int 1), (5, .int 1), (4, .int u3), (3, .int u1), (0, .ref (ad o)), (1, .int a0), (2, .int a1)] dX10_may_100 (by decide) rfl ?_
          refine j_iload hX dX10_may_102 1 rfl ?_
          refine j_if_eq (α := Unit) (F := none) (G := none) (o := none) hX 140 dX10_may_104 (by decide) (ite_self none) (fun c104 _ => absurd c104 (by decide)) (fun c104 _ => ?_)
          refine j_iload hX dX10_may_107 0 rfl ?_
          refine j_if_eq (α := Unit) (F := none) (G := none) (o := none) hX 140 dX10_may_109 (by decide) (ite_self none) (fun c109 _ => absurd c109 (by decide)) (fun c109 _ => ?_)
          refine j_aload_n hX dX10_may_112 rfl 4 rfl ?_
          refine j_iload_n hX dX10_may_113 rfl 6 rfl ?_
          refine j_aload_n hX dX10_may_114 rfl 4 rfl ?_
          refine j_get hX dX10_may_115 inX10 0 q1455 0 rfl rfl (by decide) rfl rfl ?_
          refine j_iload_n hX dX10_may_118 rfl 3 rfl ?_
          refine j_iconst hX 4 dX10_may_119 (by decide) ?_
          refine j_iadd hX dX10_may_120 ?_
          refine j_iald hX dX10_may_121 1 0 rfl rfl hf (fun c121 hf => ?_)
          refine j_aload_n hX dX10_may_122 rfl 4 rfl ?_
          refine j_get hX dX10_may_123 inX10 0 q1455 0 rfl rfl (by decide) rfl rfl ?_
          refine j_iload_n hX dX10_may_126 rfl 3 rfl ?_
          refine j_iconst hX 5 dX10_may_127 (by decide) ?_
          refine j_iadd hX dX10_may_128 ?_
          refine j_iald hX dX10_may_129 1 0 rfl rfl hf (fun c129 hf => ?_)
          obtain ⟨u7, h8, hf⟩ := jbind hf
          refine j_callV (st := []) hX (k_X10_isFree (l := l) (D := D) (t := t) (ad := ad) (o := o) m_m m_aside m_saved m_isSaved m_past m_changes m_errorAt m_failed m_thrown m_input m_inputMany m_fitting m_given m_pairs m_line m_lineMany m_letters m_begins0 m_commands m_commandMany m_place0 m_size0 m_isWrong a1 (m_m (u1 + 4).toNatClampNeg) (m_m (u1 + 5).toNatClampNeg) u7 h8) q1584 q1585 q1968 q15 q1586 (n9 := 3) rfl ⟨by decide +kernel, by decide +kernel⟩ 0 rfl rfl rfl dX10_may_130 (Nat.le_of_ble_eq_true rfl) ⟨Nat.le_refl _, Nat.le_refl _⟩ (fun w : va_W => w) jFr_id rfl rfl (fun v w hvw => ?_)
          obtain ⟨rfl, rfl⟩ := hvw
          change J X 0 0 (wM t ad o m_m m_aside m_saved m_isSaved m_past m_changes m_errorAt m_failed m_thrown m_input m_inputMany m_fitting m_given m_pairs m_line m_lineMany m_letters m_begins0 m_commands m_commandMany m_place0 m_size0 m_isWrong) 133 [(6, .int 1), (5, .int 1), (4, .int u3), (3, .int u1), (0, .ref (ad o)), (1, .int a0), (2, .int a1)] [.int u7]
          refine j_if_eq hX 140 dX10_may_133 (by decide) hf (fun c133 hf => ?_) (fun c133 hf => ?_)
          · refine j_iconst hX 0 dX10_may_140 (by decide) ?_
            cases hf
            exact j_zret hX hE rfl dX10_may_141 (Nat.le_refl _) (Nat.le_refl _) ⟨rfl, rfl⟩
          · refine j_iconst hX 1 dX10_may_136 (by decide) ?_
            refine j_goto hX 141 dX10_may_137 (by decide) ?_
            cases hf
            exact j_zret hX hE rfl dX10_may_141 (Nat.le_refl _) (Nat.le_refl _) ⟨rfl, rfl⟩
-- HammerDepotModel best (I)I
def f_X10_best_L4 (m_m : Nat → Int32) (x1 : Int32) : Nat → Int32 → Int32 → Option (Int32 × Int32)
  | 0, _, _ => none
  | jn + 1, x3, x2 =>
    if jin 0 2048 = true then
      if (m_m (0 : Int32).toNatClampNeg) ≤ x3 then
        some (x3, x2)
      else
        Option.bind (f_X10_may m_m x1 x3) (fun u1 =>
          if u1 = 0 then
            f_X10_best_L4 m_m x1 jn (x3 + 1) x2
          else
            Option.bind (f_X10_requestOf x1) (fun u3 =>
              if jin (u3 + 2) 2048 = true then
                if x2 = (-1) then
                  f_X10_best_L4 m_m x1 jn (x3 + 1) x3
                else
                  Option.bind (f_X10_hammerOf x3) (fun u5 =>
                    if jin u5 2048 = true then
                      Option.bind (f_X10_hammerOf x2) (fun u7 =>
                        if jin u7 2048 = true then
                          jlet ((jabs ((m_m (u5).toNatClampNeg) - (m_m (u3 + 2).toNatClampNeg))) - (jabs ((m_m (u7).toNatClampNeg) - (m_m (u3 + 2).toNatClampNeg)))) (fun y76_8 =>
                            if y76_8 = 0 then
                              Option.bind (f_X10_hammerOf x3) (fun u10 =>
                                if jin (u10 + 1) 2048 = true then
                                  Option.bind (f_X10_hammerOf x2) (fun u12 =>
                                    if jin (u12 + 1) 2048 = true then
                                      if 0 ≤ ((m_m (u10 + 1).toNatClampNeg) - (m_m (u12 + 1).toNatClampNeg)) then
                                        f_X10_best_L4 m_m x1 jn (x3 + 1) x2
                                      else
                                        f_X10_best_L4 m_m x1 jn (x3 + 1) x3
                                    else none)
                                else none)
                            else
                              if 0 ≤ y76_8 then
                                f_X10_best_L4 m_m x1 jn (x3 + 1) x2
                              else
                                f_X10_best_L4 m_m x1 jn (x3 + 1) x3)
                        else none)
                    else none)
              else none))
    else none
def f_X10_best (m_m : Nat → Int32) (a0 : Int32) : Option (Int32) :=
  Option.bind (f_X10_best_L4 m_m a0 jFU 0 (-1)) (fun s15 =>
    some s15.2)
set_option maxHeartbeats 4000000 in
set_option maxRecDepth 100000 in
theorem k_X10_best_L4 {l : Launch} {D : va_G} {t : Nat → ClassId} {ad : Nat → Nat} {o : Nat} (m_m : Nat → Int32) (x1 : Int32) (m_aside : Nat → Int32) (m_saved : Nat → Int32) (m_isSaved : Int32) (m_past : Nat → Int32) (m_changes : Int32) (m_errorAt : Int32) (m_failed : Int32) (m_thrown : Int32) (m_input : Nat → Int32) (m_inputMany : Int32) (m_fitting : Nat → Int32) (m_given : Nat → Int32) (m_pairs : Nat → Int32) (m_line : Nat → Int32) (m_lineMany : Int32) (m_letters : Nat → Int32) (m_begins0 : Nat → Int32) (m_commands : Nat → Int32) (m_commandMany : Int32) (m_place0 : Int32) (m_size0 : Int32) (m_isWrong : Int32) {X : jX} (hX : jOK X l D (jT t) cX10_best RX10 (some FieldType.int) { frames := 3, cells := 0, slots := 0, locals := 72 } 6) :
    ∀ (jn : Nat) (x3 : Int32) (x2 : Int32) (u : Int32 × Int32) (hf : f_X10_best_L4 m_m x1 jn x3 x2 = some u) (kx : ∀ s : Int32 × Int32, u = s → J X 0 0 (wM t ad o m_m m_aside m_saved m_isSaved m_past m_changes m_errorAt m_failed m_thrown m_input m_inputMany m_fitting m_given m_pairs m_line m_lineMany m_letters m_begins0 m_commands m_commandMany m_place0 m_size0 m_isWrong) 130 [(3, .int s.1), (2, .int s.2), (0, .ref (ad o)), (1, .int x1)] []), J X 0 0 (wM t ad o m_m m_aside m_saved m_isSaved m_past m_changes m_errorAt m_failed m_thrown m_input m_inputMany m_fitting m_given m_pairs m_line m_lineMany m_letters m_begins0 m_commands m_commandMany m_place0 m_size0 m_isWrong) 4 [(3, .int x3), (2, .int x2), (0, .ref (ad o)), (1, .int x1)] [] := by
  intro jn
  induction jn with
  | zero => intro x3 x2 u hf; cases (show (none : Option (Int32 × Int32)) = some u from hf)
  | succ jn ih =>
    intro x3 x2 u hf kx
    unfold f_X10_best_L4 at hf
    refine j_iload_n hX dX10_best_4 rfl 0 rfl ?_
    refine j_aload_n hX dX10_best_5 rfl 2 rfl ?_
    refine j_get hX dX10_best_6 inX10 0 q1455 0 rfl rfl (by decide) rfl rfl ?_
    refine j_iconst hX 0 dX10_best_9 (by decide) ?_
    refine j_iald hX dX10_best_10 1 0 rfl rfl hf (fun c10 hf => ?_)
    refine j_icmp_ge hX 130 dX10_best_11 (by decide) hf (fun c11 hf => ?_) (fun c11 hf => ?_)
    · cases hf
      exact kx _ rfl
    · refine j_aload_n hX dX10_best_14 rfl 2 rfl ?_
      refine j_iload_n hX dX10_best_15 rfl 3 rfl ?_
      refine j_iload_n hX dX10_best_16 rfl 0 rfl ?_
      obtain ⟨u1, h2, hf⟩ := jbind hf
      refine j_callV (st := []) hX (k_X10_may (l := l) (D := D) (t := t) (ad := ad) (o := o) m_m m_aside m_saved m_isSaved m_past m_changes m_errorAt m_failed m_thrown m_input m_inputMany m_fitting m_given m_pairs m_line m_lineMany m_letters m_begins0 m_commands m_commandMany m_place0 m_size0 m_isWrong x1 x3 u1 h2) q1580 q1581 q1967 q15 q1582 (n9 := 2) rfl ⟨by decide +kernel, by decide +kernel⟩ 0 rfl rfl rfl dX10_best_17 (Nat.le_of_ble_eq_true rfl) ⟨Nat.le_refl _, Nat.le_refl _⟩ (fun w : va_W => w) jFr_id rfl rfl (fun v w hvw => ?_)
      obtain ⟨rfl, rfl⟩ := hvw
      change J X 0 0 (wM t ad o m_m m_aside m_saved m_isSaved m_past m_changes m_errorAt m_failed m_thrown m_input m_inputMany m_fitting m_given m_pairs m_line m_lineMany m_letters m_begins0 m_commands m_commandMany m_place0 m_size0 m_isWrong) 20 [(3, .int x3), (2, .int x2), (0, .ref (ad o)), (1, .int x1)] [.int u1]
      refine j_if_eq hX 124 dX10_best_20 (by decide) hf (fun c20 hf => ?_) (fun c20 hf => ?_)
      · refine j_iinc hX (x3 + 1) [(3, .int (x3 + 1)), (2, .int x2), (0, .ref (ad o)), (1, .int x1)] dX10_best_124 0 rfl rfl (by decide) rfl ?_
        refine j_goto hX 4 dX10_best_127 (by decide) ?_
        exact ih (x3 + 1) x2 u hf kx
      · refine j_aload_n hX dX10_best_23 rfl 2 rfl ?_
        refine j_get hX dX10_best_24 inX10 0 q1455 0 rfl rfl (by decide) rfl rfl ?_
        refine j_iload_n hX dX10_best_27 rfl 3 rfl ?_
        obtain ⟨u3, h4, hf⟩ := jbind hf
        refine j_callS (st := [.ref (ad (o + 1))]) hX (k_X10_requestOf (l := l) (D := D) (t := t) (ad := ad)  x1 u3 h4) q1554 q1555 q15 q1556 (n9 := 1) rfl ⟨by decide +kernel, by decide +kernel⟩ dX10_best_28 (Nat.le_of_ble_eq_true rfl) ⟨Nat.le_refl _, Nat.le_refl _⟩ (fun w : va_W => w ++ (wM t ad o m_m m_aside m_saved m_isSaved m_past m_changes m_errorAt m_failed m_thrown m_input m_inputMany m_fitting m_given m_pairs m_line m_lineMany m_letters m_begins0 m_commands m_commandMany m_place0 m_size0 m_isWrong)) (jFr_r (wM t ad o m_m m_aside m_saved m_isSaved m_past m_changes m_errorAt m_failed m_thrown m_input m_inputMany m_fitting m_given m_pairs m_line m_lineMany m_letters m_begins0 m_commands m_commandMany m_place0 m_size0 m_isWrong)) rfl rfl (fun v w hvw => ?_)
        obtain ⟨rfl, rfl⟩ := hvw
        change J X 0 0 (wM t ad o m_m m_aside m_saved m_isSaved m_past m_changes m_errorAt m_failed m_thrown m_input m_inputMany m_fitting m_given m_pairs m_line m_lineMany m_letters m_begins0 m_commands m_commandMany m_place0 m_size0 m_isWrong) 31 [(3, .int x3), (2, .int x2), (0, .ref (ad o)), (1, .int x1)] [.int u3, .ref (ad (o + 1))]
        refine j_iconst hX 2 dX10_best_31 (by decide) ?_
        refine j_iadd hX dX10_best_32 ?_
        refine j_iald hX dX10_best_33 1 0 rfl rfl hf (fun c33 hf => ?_)
        refine j_istore hX [(4, .int (m_m (u3 + 2).toNatClampNeg)), (3, .int x3), (2, .int x2), (0, .ref (ad o)), (1, .int x1)] dX10_best_34 (by decide) rfl ?_
        refine j_iload_n hX dX10_best_36 rfl 2 rfl ?_
        refine j_iconst hX (-1) dX10_best_37 (by decide) ?_
        refine j_icmp_ne hX 45 dX10_best_38 (by decide) hf (fun c38 hf => ?_) (fun c38 hf => ?_)
        · refine j_aload_n hX dX10_best_45 rfl 3 rfl ?_
          refine j_get hX dX10_best_46 inX10 0 q1455 0 rfl rfl (by decide) rfl rfl ?_
          refine j_iload_n hX dX10_best_49 rfl 1 rfl ?_
          obtain ⟨u5, h6, hf⟩ := jbind hf
          refine j_callS (st := [.ref (ad (o + 1))]) hX (k_X10_hammerOf (l := l) (D := D) (t := t) (ad := ad)  x3 u5 h6) q1509 q1510 q15 q1511 (n9 := 1) rfl ⟨by decide +kernel, by decide +kernel⟩ dX10_best_50 (Nat.le_of_ble_eq_true rfl) ⟨Nat.le_refl _, Nat.le_refl _⟩ (fun w : va_W => w ++ (wM t ad o m_m m_aside m_saved m_isSaved m_past m_changes m_errorAt m_failed m_thrown m_input m_inputMany m_fitting m_given m_pairs m_line m_lineMany m_letters m_begins0 m_commands m_commandMany m_place0 m_size0 m_isWrong)) (jFr_r (wM t ad o m_m m_aside m_saved m_isSaved m_past m_changes m_errorAt m_failed m_thrown m_input m_inputMany m_fitting m_given m_pairs m_line m_lineMany m_letters m_begins0 m_commands m_commandMany m_place0 m_size0 m_isWrong)) rfl rfl (fun v w hvw => ?_)
          obtain ⟨rfl, rfl⟩ := hvw
          change J X 0 0 (wM t ad o m_m m_aside m_saved m_isSaved m_past m_changes m_errorAt m_failed m_thrown m_input m_inputMany m_fitting m_given m_pairs m_line m_lineMany m_letters m_begins0 m_commands m_commandMany m_place0 m_size0 m_isWrong) 53 [(4, .int (m_m (u3 + 2).toNatClampNeg)), (3, .int x3), (2, .int x2), (0, .ref (ad o)), (1, .int x1)] [.int u5, .ref (ad (o + 1))]
          refine j_iald hX dX10_best_53 1 0 rfl rfl hf (fun c53 hf => ?_)
          refine j_iload hX dX10_best_54 0 rfl ?_
          refine j_isub hX dX10_best_56 ?_
          refine j_mabs hX q1583 dX10_best_57 (Nat.le_of_ble_eq_true rfl) (by decide) ⟨Nat.le_refl _, Nat.le_refl _⟩ ?_
          refine j_aload_n hX dX10_best_60 rfl 3 rfl ?_
          refine j_get hX dX10_best_61 inX10 0 q1455 0 rfl rfl (by decide) rfl rfl ?_
          refine j_iload_n hX dX10_best_64 rfl 2 rfl ?_
          obtain ⟨u7, h8, hf⟩ := jbind hf
          refine j_callS (st := [.ref (ad (o + 1)), .int (jabs ((m_m (u5).toNatClampNeg) - (m_m (u3 + 2).toNatClampNeg)))]) hX (k_X10_hammerOf (l := l) (D := D) (t := t) (ad := ad)  x2 u7 h8) q1509 q1510 q15 q1511 (n9 := 1) rfl ⟨by decide +kernel, by decide +kernel⟩ dX10_best_65 (Nat.le_of_ble_eq_true rfl) ⟨Nat.le_refl _, Nat.le_refl _⟩ (fun w : va_W => w ++ (wM t ad o m_m m_aside m_saved m_isSaved m_past m_changes m_errorAt m_failed m_thrown m_input m_inputMany m_fitting m_given m_pairs m_line m_lineMany m_letters m_begins0 m_commands m_commandMany m_place0 m_size0 m_isWrong)) (jFr_r (wM t ad o m_m m_aside m_saved m_isSaved m_past m_changes m_errorAt m_failed m_thrown m_input m_inputMany m_fitting m_given m_pairs m_line m_lineMany m_letters m_begins0 m_commands m_commandMany m_place0 m_size0 m_isWrong)) rfl rfl (fun v w hvw => ?_)
          obtain ⟨rfl, rfl⟩ := hvw
          change J X 0 0 (wM t ad o m_m m_aside m_saved m_isSaved m_past m_changes m_errorAt m_failed m_thrown m_input m_inputMany m_fitting m_given m_pairs m_line m_lineMany m_letters m_begins0 m_commands m_commandMany m_place0 m_size0 m_isWrong) 68 [(4, .int (m_m (u3 + 2).toNatClampNeg)), (3, .int x3), (2, .int x2), (0, .ref (ad o)), (1, .int x1)] [.int u7, .ref (ad (o + 1)), .int (jabs ((m_m (u5).toNatClampNeg) - (m_m (u3 + 2).toNatClampNeg)))]
          refine j_iald hX dX10_best_68 1 0 rfl rfl hf (fun c68 hf => ?_)
          refine j_iload hX dX10_best_69 0 rfl ?_
          refine j_isub hX dX10_best_71 ?_
          refine j_mabs hX q1583 dX10_best_72 (Nat.le_of_ble_eq_true rfl) (by decide) ⟨Nat.le_refl _, Nat.le_refl _⟩ ?_
          refine j_isub hX dX10_best_75 ?_
          refine j_let hX hf (fun y76_8 ey76_8 hf => ?_)
          refine j_istore hX [(5, .int y76_8), (4, .int (m_m (u3 + 2).toNatClampNeg)), (3, .int x3), (2, .int x2), (0, .ref (ad o)), (1, .int x1)] dX10_best_76 (by decide) rfl ?_
          refine j_iload hX dX10_best_78 0 rfl ?_
          refine j_if_ne hX 109 dX10_best_80 (by decide) hf (fun c80 hf => ?_) (fun c80 hf => ?_)
          · refine j_iload hX dX10_best_109 0 rfl ?_
            refine j_istore hX [(5, .int y76_8), (4, .int (m_m (u3 + 2).toNatClampNeg)), (3, .int x3), (2, .int x2), (0, .ref (ad o)), (1, .int x1)] dX10_best_111 (by decide) rfl ?_
            refine j_iload hX dX10_best_113 0 rfl ?_
            refine j_if_ge hX 122 dX10_best_115 (by decide) hf (fun c115 hf => ?_) (fun c115 hf => ?_)
            · refine j_iload_n hX dX10_best_122 rfl 3 rfl ?_
              refine j_istore_n hX [(2, .int x2), (5, .int y76_8), (4, .int (m_m (u3 + 2).toNatClampNeg)), (3, .int x3), (0, .ref (ad o)), (1, .int x1)] dX10_best_123 rfl (by decide) rfl ?_
              refine j_iinc hX (x3 + 1) [(3, .int (x3 + 1)), (2, .int x2), (5, .int y76_8), (4, .int (m_m (u3 + 2).toNatClampNeg)), (0, .ref (ad o)), (1, .int x1)] dX10_best_124 3 rfl rfl (by decide) rfl ?_
              refine j_goto hX 4 dX10_best_127 (by decide) ?_
              refine j_sub hX [(3, .int (x3 + 1)), (2, .int x2), (0, .ref (ad o)), (1, .int x1)] [0, 1, 4, 5] rfl ?_
              exact ih (x3 + 1) x2 u hf kx
            · refine j_iload_n hX dX10_best_118 rfl 2 rfl ?_
              refine j_goto hX 123 dX10_best_119 (by decide) ?_
              refine j_istore_n hX [(2, .int x3), (5, .int y76_8), (4, .int (m_m (u3 + 2).toNatClampNeg)), (3, .int x3), (0, .ref (ad o)), (1, .int x1)] dX10_best_123 rfl (by decide) rfl ?_
              refine j_iinc hX (x3 + 1) [(3, .int (x3 + 1)), (2, .int x3), (5, .int y76_8), (4, .int (m_m (u3 + 2).toNatClampNeg)), (0, .ref (ad o)), (1, .int x1)] dX10_best_124 3 rfl rfl (by decide) rfl ?_
              refine j_goto hX 4 dX10_best_127 (by decide) ?_
              refine j_sub hX [(3, .int (x3 + 1)), (2, .int x3), (0, .ref (ad o)), (1, .int x1)] [0, 1, 4, 5] rfl ?_
              exact ih (x3 + 1) x3 u hf kx
          · refine j_aload_n hX dX10_best_83 rfl 4 rfl ?_
            refine j_get hX dX10_best_84 inX10 0 q1455 0 rfl rfl (by decide) rfl rfl ?_
            refine j_iload_n hX dX10_best_87 rfl 2 rfl ?_
            obtain ⟨u10, h11, hf⟩ := jbind hf
            refine j_callS (st := [.ref (ad (o + 1))]) hX (k_X10_hammerOf (l := l) (D := D) (t := t) (ad := ad)  x3 u10 h11) q1509 q1510 q15 q1511 (n9 := 1) rfl ⟨by decide +kernel, by decide +kernel⟩ dX10_best_88 (Nat.le_of_ble_eq_true rfl) ⟨Nat.le_refl _, Nat.le_refl _⟩ (fun w : va_W => w ++ (wM t ad o m_m m_aside m_saved m_isSaved m_past m_changes m_errorAt m_failed m_thrown m_input m_inputMany m_fitting m_given m_pairs m_line m_lineMany m_letters m_begins0 m_commands m_commandMany m_place0 m_size0 m_isWrong)) (jFr_r (wM t ad o m_m m_aside m_saved m_isSaved m_past m_changes m_errorAt m_failed m_thrown m_input m_inputMany m_fitting m_given m_pairs m_line m_lineMany m_letters m_begins0 m_commands m_commandMany m_place0 m_size0 m_isWrong)) rfl rfl (fun v w hvw => ?_)
            obtain ⟨rfl, rfl⟩ := hvw
            change J X 0 0 (wM t ad o m_m m_aside m_saved m_isSaved m_past m_changes m_errorAt m_failed m_thrown m_input m_inputMany m_fitting m_given m_pairs m_line m_lineMany m_letters m_begins0 m_commands m_commandMany m_place0 m_size0 m_isWrong) 91 [(5, .int y76_8), (4, .int (m_m (u3 + 2).toNatClampNeg)), (3, .int x3), (2, .int x2), (0, .ref (ad o)), (1, .int x1)] [.int u10, .ref (ad (o + 1))]
            refine j_iconst hX 1 dX10_best_91 (by decide) ?_
            refine j_iadd hX dX10_best_92 ?_
            refine j_iald hX dX10_best_93 1 0 rfl rfl hf (fun c93 hf => ?_)
            refine j_aload_n hX dX10_best_94 rfl 4 rfl ?_
            refine j_get hX dX10_best_95 inX10 0 q1455 0 rfl rfl (by decide) rfl rfl ?_
            refine j_iload_n hX dX10_best_98 rfl 3 rfl ?_
            obtain ⟨u12, h13, hf⟩ := jbind hf
            refine j_callS (st := [.ref (ad (o + 1)), .int (m_m (u10 + 1).toNatClampNeg)]) hX (k_X10_hammerOf (l := l) (D := D) (t := t) (ad := ad)  x2 u12 h13) q1509 q1510 q15 q1511 (n9 := 1) rfl ⟨by decide +kernel, by decide +kernel⟩ dX10_best_99 (Nat.le_of_ble_eq_true rfl) ⟨Nat.le_refl _, Nat.le_refl _⟩ (fun w : va_W => w ++ (wM t ad o m_m m_aside m_saved m_isSaved m_past m_changes m_errorAt m_failed m_thrown m_input m_inputMany m_fitting m_given m_pairs m_line m_lineMany m_letters m_begins0 m_commands m_commandMany m_place0 m_size0 m_isWrong)) (jFr_r (wM t ad o m_m m_aside m_saved m_isSaved m_past m_changes m_errorAt m_failed m_thrown m_input m_inputMany m_fitting m_given m_pairs m_line m_lineMany m_letters m_begins0 m_commands m_commandMany m_place0 m_size0 m_isWrong)) rfl rfl (fun v w hvw => ?_)
            obtain ⟨rfl, rfl⟩ := hvw
            change J X 0 0 (wM t ad o m_m m_aside m_saved m_isSaved m_past m_changes m_errorAt m_failed m_thrown m_input m_inputMany m_fitting m_given m_pairs m_line m_lineMany m_letters m_begins0 m_commands m_commandMany m_place0 m_size0 m_isWrong) 102 [(5, .int y76_8), (4, .int (m_m (u3 + 2).toNatClampNeg)), (3, .int x3), (2, .int x2), (0, .ref (ad o)), (1, .int x1)] [.int u12, .ref (ad (o + 1)), .int (m_m (u10 + 1).toNatClampNeg)]
            refine j_iconst hX 1 dX10_best_102 (by decide) ?_
            refine j_iadd hX dX10_best_103 ?_
            refine j_iald hX dX10_best_104 1 0 rfl rfl hf (fun c104 hf => ?_)
            refine j_isub hX dX10_best_105 ?_
            refine j_goto hX 111 dX10_best_106 (by decide) ?_
            refine j_istore hX [(5, .int ((m_m (u10 + 1).toNatClampNeg) - (m_m (u12 + 1).toNatClampNeg))), (4, .int (m_m (u3 + 2).toNatClampNeg)), (3, .int x3), (2, .int x2), (0, .ref (ad o)), (1, .int x1)] dX10_best_111 (by decide) rfl ?_
            refine j_iload hX dX10_best_113 0 rfl ?_
            refine j_if_ge hX 122 dX10_best_115 (by decide) hf (fun c115 hf => ?_) (fun c115 hf => ?_)
            · refine j_iload_n hX dX10_best_122 rfl 3 rfl ?_
              refine j_istore_n hX [(2, .int x2), (5, .int ((m_m (u10 + 1).toNatClampNeg) - (m_m (u12 + 1).toNatClampNeg))), (4, .int (m_m (u3 + 2).toNatClampNeg)), (3, .int x3), (0, .ref (ad o)), (1, .int x1)] dX10_best_123 rfl (by decide) rfl ?_
              refine j_iinc hX (x3 + 1) [(3, .int (x3 + 1)), (2, .int x2), (5, .int ((m_m (u10 + 1).toNatClampNeg) - (m_m (u12 + 1).toNatClampNeg))), (4, .int (m_m (u3 + 2).toNatClampNeg)), (0, .ref (ad o)), (1, .int x1)] dX10_best_124 3 rfl rfl (by decide) rfl ?_
              refine j_goto hX 4 dX10_best_127 (by decide) ?_
              refine j_sub hX [(3, .int (x3 + 1)), (2, .int x2), (0, .ref (ad o)), (1, .int x1)] [0, 1, 4, 5] rfl ?_
              exact ih (x3 + 1) x2 u hf kx
            · refine j_iload_n hX dX10_best_118 rfl 2 rfl ?_
              refine j_goto hX 123 dX10_best_119 (by decide) ?_
              refine j_istore_n hX [(2, .int x3), (5, .int ((m_m (u10 + 1).toNatClampNeg) - (m_m (u12 + 1).toNatClampNeg))), (4, .int (m_m (u3 + 2).toNatClampNeg)), (3, .int x3), (0, .ref (ad o)), (1, .int x1)] dX10_best_123 rfl (by decide) rfl ?_
              refine j_iinc hX (x3 + 1) [(3, .int (x3 + 1)), (2, .int x3), (5, .int ((m_m (u10 + 1).toNatClampNeg) - (m_m (u12 + 1).toNatClampNeg))), (4, .int (m_m (u3 + 2).toNatClampNeg)), (0, .ref (ad o)), (1, .int x1)] dX10_best_124 3 rfl rfl (by decide) rfl ?_
              refine j_goto hX 4 dX10_best_127 (by decide) ?_
              refine j_sub hX [(3, .int (x3 + 1)), (2, .int x3), (0, .ref (ad o)), (1, .int x1)] [0, 1, 4, 5] rfl ?_
              exact ih (x3 + 1) x3 u hf kx
        · refine j_iconst hX (-1) dX10_best_41 (by decide) ?_
          refine j_goto hX 76 dX10_best_42 (by decide) ?_
          refine j_istore hX [(5, .int (-1)), (4, .int (m_m (u3 + 2).toNatClampNeg)), (3, .int x3), (2, .int x2), (0, .ref (ad o)), (1, .int x1)] dX10_best_76 (by decide) rfl ?_
          refine j_iload hX dX10_best_78 0 rfl ?_
          refine j_if_ne (α := Unit) (F := none) (G := none) (o := none) hX 109 dX10_best_80 (by decide) (ite_self none) (fun c80 _ => ?_) (fun c80 _ => absurd c80 (by decide))
          refine j_iload hX dX10_best_109 0 rfl ?_
          refine j_istore hX [(5, .int (-1)), (4, .int (m_m (u3 + 2).toNatClampNeg)), (3, .int x3), (2, .int x2), (0, .ref (ad o)), (1, .int x1)] dX10_best_111 (by decide) rfl ?_
          refine j_iload hX dX10_best_113 0 rfl ?_
          refine j_if_ge (α := Unit) (F := none) (G := none) (o := none) hX 122 dX10_best_115 (by decide) (ite_self none) (fun c115 _ => absurd c115 (by decide)) (fun c115 _ => ?_)
          refine j_iload_n hX dX10_best_118 rfl 2 rfl ?_
          refine j_goto hX 123 dX10_best_119 (by decide) ?_
          refine j_istore_n hX [(2, .int x3), (5, .int (-1)), (4, .int (m_m (u3 + 2).toNatClampNeg)), (3, .int x3), (0, .ref (ad o)), (1, .int x1)] dX10_best_123 rfl (by decide) rfl ?_
          refine j_iinc hX (x3 + 1) [(3, .int (x3 + 1)), (2, .int x3), (5, .int (-1)), (4, .int (m_m (u3 + 2).toNatClampNeg)), (0, .ref (ad o)), (1, .int x1)] dX10_best_124 3 rfl rfl (by decide) rfl ?_
          refine j_goto hX 4 dX10_best_127 (by decide) ?_
          refine j_sub hX [(3, .int (x3 + 1)), (2, .int x3), (0, .ref (ad o)), (1, .int x1)] [0, 1, 4, 5] rfl ?_
          exact ih (x3 + 1) x3 u hf kx
set_option maxHeartbeats 4000000 in
set_option maxRecDepth 100000 in
theorem k_X10_best {l : Launch} {D : va_G} {t : Nat → ClassId} {ad : Nat → Nat} {o : Nat} (m_m : Nat → Int32) (m_aside : Nat → Int32) (m_saved : Nat → Int32) (m_isSaved : Int32) (m_past : Nat → Int32) (m_changes : Int32) (m_errorAt : Int32) (m_failed : Int32) (m_thrown : Int32) (m_input : Nat → Int32) (m_inputMany : Int32) (m_fitting : Nat → Int32) (m_given : Nat → Int32) (m_pairs : Nat → Int32) (m_line : Nat → Int32) (m_lineMany : Int32) (m_letters : Nat → Int32) (m_begins0 : Nat → Int32) (m_commands : Nat → Int32) (m_commandMany : Int32) (m_place0 : Int32) (m_size0 : Int32) (m_isWrong : Int32) (a0 : Int32) (u : Int32) (hf : f_X10_best m_m a0 = some u) : cm l D (jT t) yX10_best cX10_best 6 (some FieldType.int) { frames := 3, cells := 0, slots := 0, locals := 72 } [.ref (ad o), .int a0] (wM t ad o m_m m_aside m_saved m_isSaved m_past m_changes m_errorAt m_failed m_thrown m_input m_inputMany m_fitting m_given m_pairs m_line m_lineMany m_letters m_begins0 m_commands m_commandMany m_place0 m_size0 m_isWrong) (fun v w => v = (some (.int u)) ∧ w = wM t ad o m_m m_aside m_saved m_isSaved m_past m_changes m_errorAt m_failed m_thrown m_input m_inputMany m_fitting m_given m_pairs m_line m_lineMany m_letters m_begins0 m_commands m_commandMany m_place0 m_size0 m_isWrong) := by
  refine cm_of RX10 rfl (by decide +kernel) (Nat.le_of_ble_eq_true rfl) (fun X hX hE => ?_)
  change J X 0 0 (wM t ad o m_m m_aside m_saved m_isSaved m_past m_changes m_errorAt m_failed m_thrown m_input m_inputMany m_fitting m_given m_pairs m_line m_lineMany m_letters m_begins0 m_commands m_commandMany m_place0 m_size0 m_isWrong) 0 [(0, .ref (ad o)), (1, .int a0)] []
  unfold f_X10_best at hf
  refine j_iconst hX (-1) dX10_best_0 (by decide) ?_
  refine j_istore_n hX [(2, .int (-1)), (0, .ref (ad o)), (1, .int a0)] dX10_best_1 rfl (by decide) rfl ?_
  refine j_iconst hX 0 dX10_best_2 (by decide) ?_
  refine j_istore_n hX [(3, .int 0), (2, .int (-1)), (0, .ref (ad o)), (1, .int a0)] dX10_best_3 rfl (by decide) rfl ?_
  obtain ⟨s15, h16, hf⟩ := jbind hf
  refine k_X10_best_L4 (ad := ad) m_m a0 m_aside m_saved m_isSaved m_past m_changes m_errorAt m_failed m_thrown m_input m_inputMany m_fitting m_given m_pairs m_line m_lineMany m_letters m_begins0 m_commands m_commandMany m_place0 m_size0 m_isWrong hX jFU 0 (-1) s15 h16 (fun s150 es15 => ?_)
  subst es15
  refine j_iload_n hX dX10_best_130 rfl 1 rfl ?_
  cases hf
  exact j_iret hX hE dX10_best_131 (Nat.le_refl _) (Nat.le_refl _) ⟨rfl, rfl⟩
-- HammerDepotModel dropsRequest (I)V
def f_X10_dropsRequest_L5  : Nat → Int32 → (Nat → Int32) → Option (Int32 × (Nat → Int32))
  | 0, _, _ => none
  | jn + 1, x2, m_m =>
    if 122 ≤ x2 then
      some (x2, m_m)
    else
      if jin (x2 + 6) 2048 = true then
        if jin x2 2048 = true then
          f_X10_dropsRequest_L5  jn (x2 + 1) (upd m_m (x2).toNatClampNeg (m_m (x2 + 6).toNatClampNeg))
        else none
      else none
def f_X10_dropsRequest_L35  : Nat → Int32 → (Nat → Int32) → Option (Int32 × (Nat → Int32))
  | 0, _, _ => none
  | jn + 1, x2, m_m =>
    if 128 ≤ x2 then
      some (x2, m_m)
    else
      if jin x2 2048 = true then
        f_X10_dropsRequest_L35  jn (x2 + 1) (upd m_m (x2).toNatClampNeg 0)
      else none
def f_X10_dropsRequest (m_m : Nat → Int32) (a0 : Int32) : Option ((Nat → Int32)) :=
  Option.bind (f_X10_requestOf a0) (fun u1 =>
    Option.bind (f_X10_dropsRequest_L5  jFU u1 m_m) (fun s4 =>
      Option.bind (f_X10_dropsRequest_L35  jFU 122 s4.2) (fun s7 =>
        if jin 4 2048 = true then
          if jin 4 2048 = true then
            some (upd s7.2 (4 : Int32).toNatClampNeg ((s7.2 (4 : Int32).toNatClampNeg) - 1))
          else none
        else none)))
set_option maxHeartbeats 4000000 in
set_option maxRecDepth 100000 in
theorem k_X10_dropsRequest_L5 {l : Launch} {D : va_G} {t : Nat → ClassId} {ad : Nat → Nat} {o : Nat}  (m_aside : Nat → Int32) (m_saved : Nat → Int32) (m_isSaved : Int32) (m_past : Nat → Int32) (m_changes : Int32) (m_errorAt : Int32) (m_failed : Int32) (m_thrown : Int32) (m_input : Nat → Int32) (m_inputMany : Int32) (m_fitting : Nat → Int32) (m_given : Nat → Int32) (m_pairs : Nat → Int32) (m_line : Nat → Int32) (m_lineMany : Int32) (m_letters : Nat → Int32) (m_begins0 : Nat → Int32) (m_commands : Nat → Int32) (m_commandMany : Int32) (m_place0 : Int32) (m_size0 : Int32) (m_isWrong : Int32) (x1 : Int32) {X : jX} (hX : jOK X l D (jT t) cX10_dropsRequest RX10 none { frames := 1, cells := 0, slots := 0, locals := 20 } 3) :
    ∀ (jn : Nat) (x2 : Int32) (m_m : Nat → Int32) (u : Int32 × (Nat → Int32)) (hf : f_X10_dropsRequest_L5  jn x2 m_m = some u) (kx : ∀ s : Int32 × (Nat → Int32), u = s → J X 0 0 (wM t ad o s.2 m_aside m_saved m_isSaved m_past m_changes m_errorAt m_failed m_thrown m_input m_inputMany m_fitting m_given m_pairs m_line m_lineMany m_letters m_begins0 m_commands m_commandMany m_place0 m_size0 m_isWrong) 32 [(2, .int s.1), (0, .ref (ad o)), (1, .int x1)] []), J X 0 0 (wM t ad o m_m m_aside m_saved m_isSaved m_past m_changes m_errorAt m_failed m_thrown m_input m_inputMany m_fitting m_given m_pairs m_line m_lineMany m_letters m_begins0 m_commands m_commandMany m_place0 m_size0 m_isWrong) 5 [(2, .int x2), (0, .ref (ad o)), (1, .int x1)] [] := by
  intro jn
  induction jn with
  | zero => intro x2 m_m u hf; cases (show (none : Option (Int32 × (Nat → Int32))) = some u from hf)
  | succ jn ih =>
    intro x2 m_m u hf kx
    unfold f_X10_dropsRequest_L5 at hf
    refine j_iload_n hX dX10_dropsRequest_5 rfl 0 rfl ?_
    refine j_bipush hX 122 dX10_dropsRequest_6 (by decide) ?_
    refine j_icmp_ge hX 32 dX10_dropsRequest_8 (by decide) hf (fun c8 hf => ?_) (fun c8 hf => ?_)
    · cases hf
      exact kx _ rfl
    · refine j_aload_n hX dX10_dropsRequest_11 rfl 1 rfl ?_
      refine j_get hX dX10_dropsRequest_12 inX10 0 q1455 0 rfl rfl (by decide) rfl rfl ?_
      refine j_iload_n hX dX10_dropsRequest_15 rfl 0 rfl ?_
      refine j_aload_n hX dX10_dropsRequest_16 rfl 1 rfl ?_
      refine j_get hX dX10_dropsRequest_17 inX10 0 q1455 0 rfl rfl (by decide) rfl rfl ?_
      refine j_iload_n hX dX10_dropsRequest_20 rfl 0 rfl ?_
      refine j_bipush hX 6 dX10_dropsRequest_21 (by decide) ?_
      refine j_iadd hX dX10_dropsRequest_23 ?_
      refine j_iald hX dX10_dropsRequest_24 1 0 rfl rfl hf (fun c24 hf => ?_)
      refine j_iast hX (wM t ad o (upd m_m (x2).toNatClampNeg (m_m (x2 + 6).toNatClampNeg)) m_aside m_saved m_isSaved m_past m_changes m_errorAt m_failed m_thrown m_input m_inputMany m_fitting m_given m_pairs m_line m_lineMany m_letters m_begins0 m_commands m_commandMany m_place0 m_size0 m_isWrong) dX10_dropsRequest_25 1 0 rfl rfl rfl hf (fun c25 hf => ?_)
      refine j_iinc hX (x2 + 1) [(2, .int (x2 + 1)), (0, .ref (ad o)), (1, .int x1)] dX10_dropsRequest_26 0 rfl rfl (by decide) rfl ?_
      refine j_goto hX 5 dX10_dropsRequest_29 (by decide) ?_
      exact ih (x2 + 1) (upd m_m (x2).toNatClampNeg (m_m (x2 + 6).toNatClampNeg)) u hf kx
set_option maxHeartbeats 4000000 in
set_option maxRecDepth 100000 in
theorem k_X10_dropsRequest_L35 {l : Launch} {D : va_G} {t : Nat → ClassId} {ad : Nat → Nat} {o : Nat}  (m_aside : Nat → Int32) (m_saved : Nat → Int32) (m_isSaved : Int32) (m_past : Nat → Int32) (m_changes : Int32) (m_errorAt : Int32) (m_failed : Int32) (m_thrown : Int32) (m_input : Nat → Int32) (m_inputMany : Int32) (m_fitting : Nat → Int32) (m_given : Nat → Int32) (m_pairs : Nat → Int32) (m_line : Nat → Int32) (m_lineMany : Int32) (m_letters : Nat → Int32) (m_begins0 : Nat → Int32) (m_commands : Nat → Int32) (m_commandMany : Int32) (m_place0 : Int32) (m_size0 : Int32) (m_isWrong : Int32) (x1 : Int32) {X : jX} (hX : jOK X l D (jT t) cX10_dropsRequest RX10 none { frames := 1, cells := 0, slots := 0, locals := 20 } 3) :
    ∀ (jn : Nat) (x2 : Int32) (m_m : Nat → Int32) (u : Int32 × (Nat → Int32)) (hf : f_X10_dropsRequest_L35  jn x2 m_m = some u) (kx : ∀ s : Int32 × (Nat → Int32), u = s → J X 0 0 (wM t ad o s.2 m_aside m_saved m_isSaved m_past m_changes m_errorAt m_failed m_thrown m_input m_inputMany m_fitting m_given m_pairs m_line m_lineMany m_letters m_begins0 m_commands m_commandMany m_place0 m_size0 m_isWrong) 55 [(2, .int s.1), (0, .ref (ad o)), (1, .int x1)] []), J X 0 0 (wM t ad o m_m m_aside m_saved m_isSaved m_past m_changes m_errorAt m_failed m_thrown m_input m_inputMany m_fitting m_given m_pairs m_line m_lineMany m_letters m_begins0 m_commands m_commandMany m_place0 m_size0 m_isWrong) 35 [(2, .int x2), (0, .ref (ad o)), (1, .int x1)] [] := by
  intro jn
  induction jn with
  | zero => intro x2 m_m u hf; cases (show (none : Option (Int32 × (Nat → Int32))) = some u from hf)
  | succ jn ih =>
    intro x2 m_m u hf kx
    unfold f_X10_dropsRequest_L35 at hf
    refine j_iload_n hX dX10_dropsRequest_35 rfl 0 rfl ?_
    refine j_sipush hX 128 dX10_dropsRequest_36 (by decide) ?_
    refine j_icmp_ge hX 55 dX10_dropsRequest_39 (by decide) hf (fun c39 hf => ?_) (fun c39 hf => ?_)
    · cases hf
      exact kx _ rfl
    · refine j_aload_n hX dX10_dropsRequest_42 rfl 1 rfl ?_
      refine j_get hX dX10_dropsRequest_43 inX10 0 q1455 0 rfl rfl (by decide) rfl rfl ?_
      refine j_iload_n hX dX10_dropsRequest_46 rfl 0 rfl ?_
      refine j_iconst hX 0 dX10_dropsRequest_47 (by decide) ?_
      refine j_iast hX (wM t ad o (upd m_m (x2).toNatClampNeg 0) m_aside m_saved m_isSaved m_past m_changes m_errorAt m_failed m_thrown m_input m_inputMany m_fitting m_given m_pairs m_line m_lineMany m_letters m_begins0 m_commands m_commandMany m_place0 m_size0 m_isWrong) dX10_dropsRequest_48 1 0 rfl rfl rfl hf (fun c48 hf => ?_)
      refine j_iinc hX (x2 + 1) [(2, .int (x2 + 1)), (0, .ref (ad o)), (1, .int x1)] dX10_dropsRequest_49 0 rfl rfl (by decide) rfl ?_
      refine j_goto hX 35 dX10_dropsRequest_52 (by decide) ?_
      exact ih (x2 + 1) (upd m_m (x2).toNatClampNeg 0) u hf kx
set_option maxHeartbeats 4000000 in
set_option maxRecDepth 100000 in
theorem k_X10_dropsRequest {l : Launch} {D : va_G} {t : Nat → ClassId} {ad : Nat → Nat} {o : Nat} (m_m : Nat → Int32) (m_aside : Nat → Int32) (m_saved : Nat → Int32) (m_isSaved : Int32) (m_past : Nat → Int32) (m_changes : Int32) (m_errorAt : Int32) (m_failed : Int32) (m_thrown : Int32) (m_input : Nat → Int32) (m_inputMany : Int32) (m_fitting : Nat → Int32) (m_given : Nat → Int32) (m_pairs : Nat → Int32) (m_line : Nat → Int32) (m_lineMany : Int32) (m_letters : Nat → Int32) (m_begins0 : Nat → Int32) (m_commands : Nat → Int32) (m_commandMany : Int32) (m_place0 : Int32) (m_size0 : Int32) (m_isWrong : Int32) (a0 : Int32) (u : (Nat → Int32)) (hf : f_X10_dropsRequest m_m a0 = some u) : cm l D (jT t) yX10_dropsRequest cX10_dropsRequest 3 none { frames := 1, cells := 0, slots := 0, locals := 20 } [.ref (ad o), .int a0] (wM t ad o m_m m_aside m_saved m_isSaved m_past m_changes m_errorAt m_failed m_thrown m_input m_inputMany m_fitting m_given m_pairs m_line m_lineMany m_letters m_begins0 m_commands m_commandMany m_place0 m_size0 m_isWrong) (fun v w => v = none ∧ w = wM t ad o u m_aside m_saved m_isSaved m_past m_changes m_errorAt m_failed m_thrown m_input m_inputMany m_fitting m_given m_pairs m_line m_lineMany m_letters m_begins0 m_commands m_commandMany m_place0 m_size0 m_isWrong) := by
  refine cm_of RX10 rfl (by decide +kernel) (Nat.le_of_ble_eq_true rfl) (fun X hX hE => ?_)
  change J X 0 0 (wM t ad o m_m m_aside m_saved m_isSaved m_past m_changes m_errorAt m_failed m_thrown m_input m_inputMany m_fitting m_given m_pairs m_line m_lineMany m_letters m_begins0 m_commands m_commandMany m_place0 m_size0 m_isWrong) 0 [(0, .ref (ad o)), (1, .int a0)] []
  unfold f_X10_dropsRequest at hf
  refine j_iload_n hX dX10_dropsRequest_0 rfl 1 rfl ?_
  obtain ⟨u1, h2, hf⟩ := jbind hf
  refine j_callS (st := []) hX (k_X10_requestOf (l := l) (D := D) (t := t) (ad := ad)  a0 u1 h2) q1554 q1555 q15 q1556 (n9 := 1) rfl ⟨by decide +kernel, by decide +kernel⟩ dX10_dropsRequest_1 (Nat.le_of_ble_eq_true rfl) ⟨Nat.le_refl _, Nat.le_refl _⟩ (fun w : va_W => w ++ (wM t ad o m_m m_aside m_saved m_isSaved m_past m_changes m_errorAt m_failed m_thrown m_input m_inputMany m_fitting m_given m_pairs m_line m_lineMany m_letters m_begins0 m_commands m_commandMany m_place0 m_size0 m_isWrong)) (jFr_r (wM t ad o m_m m_aside m_saved m_isSaved m_past m_changes m_errorAt m_failed m_thrown m_input m_inputMany m_fitting m_given m_pairs m_line m_lineMany m_letters m_begins0 m_commands m_commandMany m_place0 m_size0 m_isWrong)) rfl rfl (fun v w hvw => ?_)
  obtain ⟨rfl, rfl⟩ := hvw
  change J X 0 0 (wM t ad o m_m m_aside m_saved m_isSaved m_past m_changes m_errorAt m_failed m_thrown m_input m_inputMany m_fitting m_given m_pairs m_line m_lineMany m_letters m_begins0 m_commands m_commandMany m_place0 m_size0 m_isWrong) 4 [(0, .ref (ad o)), (1, .int a0)] [.int u1]
  refine j_istore_n hX [(2, .int u1), (0, .ref (ad o)), (1, .int a0)] dX10_dropsRequest_4 rfl (by decide) rfl ?_
  obtain ⟨s4, h5, hf⟩ := jbind hf
  refine k_X10_dropsRequest_L5 (ad := ad)  m_aside m_saved m_isSaved m_past m_changes m_errorAt m_failed m_thrown m_input m_inputMany m_fitting m_given m_pairs m_line m_lineMany m_letters m_begins0 m_commands m_commandMany m_place0 m_size0 m_isWrong a0 hX jFU u1 m_m s4 h5 (fun s40 es4 => ?_)
  subst es4
  refine j_bipush hX 122 dX10_dropsRequest_32 (by decide) ?_
  refine j_istore_n hX [(2, .int 122), (0, .ref (ad o)), (1, .int a0)] dX10_dropsRequest_34 rfl (by decide) rfl ?_
  obtain ⟨s7, h8, hf⟩ := jbind hf
  refine k_X10_dropsRequest_L35 (ad := ad)  m_aside m_saved m_isSaved m_past m_changes m_errorAt m_failed m_thrown m_input m_inputMany m_fitting m_given m_pairs m_line m_lineMany m_letters m_begins0 m_commands m_commandMany m_place0 m_size0 m_isWrong a0 hX jFU 122 s4.2 s7 h8 (fun s70 es7 => ?_)
  subst es7
  refine j_aload_n hX dX10_dropsRequest_55 rfl 1 rfl ?_
  refine j_get hX dX10_dropsRequest_56 inX10 0 q1455 0 rfl rfl (by decide) rfl rfl ?_
  refine j_iconst hX 4 dX10_dropsRequest_59 (by decide) ?_
  refine j_dup2 hX dX10_dropsRequest_60 rfl rfl ?_
  refine j_iald hX dX10_dropsRequest_61 1 0 rfl rfl hf (fun c61 hf => ?_)
  refine j_iconst hX 1 dX10_dropsRequest_62 (by decide) ?_
  refine j_isub hX dX10_dropsRequest_63 ?_
  refine j_iast hX (wM t ad o (upd s7.2 (4 : Int32).toNatClampNeg ((s7.2 (4 : Int32).toNatClampNeg) - 1)) m_aside m_saved m_isSaved m_past m_changes m_errorAt m_failed m_thrown m_input m_inputMany m_fitting m_given m_pairs m_line m_lineMany m_letters m_begins0 m_commands m_commandMany m_place0 m_size0 m_isWrong) dX10_dropsRequest_64 1 0 rfl rfl rfl hf (fun c64 hf => ?_)
  cases hf
  exact j_vret hX hE dX10_dropsRequest_65 (Nat.le_refl _) (Nat.le_refl _) ⟨rfl, rfl⟩
-- HammerDepotModel dropsBooking (I)V
def f_X10_dropsBooking_L5  : Nat → Int32 → (Nat → Int32) → Option (Int32 × (Nat → Int32))
  | 0, _, _ => none
  | jn + 1, x2, m_m =>
    if jin 5 2048 = true then
      Option.bind (f_X10_bookingOf ((m_m (5 : Int32).toNatClampNeg) - 1)) (fun u3 =>
        if u3 ≤ x2 then
          some (x2, m_m)
        else
          if jin (x2 + 4) 2048 = true then
            if jin x2 2048 = true then
              f_X10_dropsBooking_L5  jn (x2 + 1) (upd m_m (x2).toNatClampNeg (m_m (x2 + 4).toNatClampNeg))
            else none
          else none)
    else none
def f_X10_dropsBooking_L52  : Nat → Int32 → (Nat → Int32) → Option (Int32 × (Nat → Int32))
  | 0, _, _ => none
  | jn + 1, x2, m_m =>
    if jin 5 2048 = true then
      Option.bind (f_X10_bookingOf (m_m (5 : Int32).toNatClampNeg)) (fun u10 =>
        if u10 ≤ x2 then
          some (x2, m_m)
        else
          if jin x2 2048 = true then
            f_X10_dropsBooking_L52  jn (x2 + 1) (upd m_m (x2).toNatClampNeg 0)
          else none)
    else none
def f_X10_dropsBooking (m_m : Nat → Int32) (a0 : Int32) : Option ((Nat → Int32)) :=
  Option.bind (f_X10_bookingOf a0) (fun u1 =>
    Option.bind (f_X10_dropsBooking_L5  jFU u1 m_m) (fun s6 =>
      if jin 5 2048 = true then
        Option.bind (f_X10_bookingOf ((s6.2 (5 : Int32).toNatClampNeg) - 1)) (fun u8 =>
          Option.bind (f_X10_dropsBooking_L52  jFU u8 s6.2) (fun s13 =>
            if jin 5 2048 = true then
              if jin 5 2048 = true then
                some (upd s13.2 (5 : Int32).toNatClampNeg ((s13.2 (5 : Int32).toNatClampNeg) - 1))
              else none
            else none))
      else none))
set_option maxHeartbeats 4000000 in
set_option maxRecDepth 100000 in
theorem k_X10_dropsBooking_L5 {l : Launch} {D : va_G} {t : Nat → ClassId} {ad : Nat → Nat} {o : Nat}  (m_aside : Nat → Int32) (m_saved : Nat → Int32) (m_isSaved : Int32) (m_past : Nat → Int32) (m_changes : Int32) (m_errorAt : Int32) (m_failed : Int32) (m_thrown : Int32) (m_input : Nat → Int32) (m_inputMany : Int32) (m_fitting : Nat → Int32) (m_given : Nat → Int32) (m_pairs : Nat → Int32) (m_line : Nat → Int32) (m_lineMany : Int32) (m_letters : Nat → Int32) (m_begins0 : Nat → Int32) (m_commands : Nat → Int32) (m_commandMany : Int32) (m_place0 : Int32) (m_size0 : Int32) (m_isWrong : Int32) (x1 : Int32) {X : jX} (hX : jOK X l D (jT t) cX10_dropsBooking RX10 none { frames := 1, cells := 0, slots := 0, locals := 20 } 3) :
    ∀ (jn : Nat) (x2 : Int32) (m_m : Nat → Int32) (u : Int32 × (Nat → Int32)) (hf : f_X10_dropsBooking_L5  jn x2 m_m = some u) (kx : ∀ s : Int32 × (Nat → Int32), u = s → J X 0 0 (wM t ad o s.2 m_aside m_saved m_isSaved m_past m_changes m_errorAt m_failed m_thrown m_input m_inputMany m_fitting m_given m_pairs m_line m_lineMany m_letters m_begins0 m_commands m_commandMany m_place0 m_size0 m_isWrong) 40 [(2, .int s.1), (0, .ref (ad o)), (1, .int x1)] []), J X 0 0 (wM t ad o m_m m_aside m_saved m_isSaved m_past m_changes m_errorAt m_failed m_thrown m_input m_inputMany m_fitting m_given m_pairs m_line m_lineMany m_letters m_begins0 m_commands m_commandMany m_place0 m_size0 m_isWrong) 5 [(2, .int x2), (0, .ref (ad o)), (1, .int x1)] [] := by
  intro jn
  induction jn with
  | zero => intro x2 m_m u hf; cases (show (none : Option (Int32 × (Nat → Int32))) = some u from hf)
  | succ jn ih =>
    intro x2 m_m u hf kx
    unfold f_X10_dropsBooking_L5 at hf
    refine j_iload_n hX dX10_dropsBooking_5 rfl 0 rfl ?_
    refine j_aload_n hX dX10_dropsBooking_6 rfl 1 rfl ?_
    refine j_get hX dX10_dropsBooking_7 inX10 0 q1455 0 rfl rfl (by decide) rfl rfl ?_
    refine j_iconst hX 5 dX10_dropsBooking_10 (by decide) ?_
    refine j_iald hX dX10_dropsBooking_11 1 0 rfl rfl hf (fun c11 hf => ?_)
    refine j_iconst hX 1 dX10_dropsBooking_12 (by decide) ?_
    refine j_isub hX dX10_dropsBooking_13 ?_
    obtain ⟨u3, h4, hf⟩ := jbind hf
    refine j_callS (st := [.int x2]) hX (k_X10_bookingOf (l := l) (D := D) (t := t) (ad := ad)  ((m_m (5 : Int32).toNatClampNeg) - 1) u3 h4) q1587 q1588 q15 q1589 (n9 := 1) rfl ⟨by decide +kernel, by decide +kernel⟩ dX10_dropsBooking_14 (Nat.le_of_ble_eq_true rfl) ⟨Nat.le_refl _, Nat.le_refl _⟩ (fun w : va_W => w ++ (wM t ad o m_m m_aside m_saved m_isSaved m_past m_changes m_errorAt m_failed m_thrown m_input m_inputMany m_fitting m_given m_pairs m_line m_lineMany m_letters m_begins0 m_commands m_commandMany m_place0 m_size0 m_isWrong)) (jFr_r (wM t ad o m_m m_aside m_saved m_isSaved m_past m_changes m_errorAt m_failed m_thrown m_input m_inputMany m_fitting m_given m_pairs m_line m_lineMany m_letters m_begins0 m_commands m_commandMany m_place0 m_size0 m_isWrong)) rfl rfl (fun v w hvw => ?_)
    obtain ⟨rfl, rfl⟩ := hvw
    change J X 0 0 (wM t ad o m_m m_aside m_saved m_isSaved m_past m_changes m_errorAt m_failed m_thrown m_input m_inputMany m_fitting m_given m_pairs m_line m_lineMany m_letters m_begins0 m_commands m_commandMany m_place0 m_size0 m_isWrong) 17 [(2, .int x2), (0, .ref (ad o)), (1, .int x1)] [.int u3, .int x2]
    refine j_icmp_ge hX 40 dX10_dropsBooking_17 (by decide) hf (fun c17 hf => ?_) (fun c17 hf => ?_)
    · cases hf
      exact kx _ rfl
    · refine j_aload_n hX dX10_dropsBooking_20 rfl 1 rfl ?_
      refine j_get hX dX10_dropsBooking_21 inX10 0 q1455 0 rfl rfl (by decide) rfl rfl ?_
      refine j_iload_n hX dX10_dropsBooking_24 rfl 0 rfl ?_
      refine j_aload_n hX dX10_dropsBooking_25 rfl 1 rfl ?_
      refine j_get hX dX10_dropsBooking_26 inX10 0 q1455 0 rfl rfl (by decide) rfl rfl ?_
      refine j_iload_n hX dX10_dropsBooking_29 rfl 0 rfl ?_
      refine j_iconst hX 4 dX10_dropsBooking_30 (by decide) ?_
      refine j_iadd hX dX10_dropsBooking_31 ?_
      refine j_iald hX dX10_dropsBooking_32 1 0 rfl rfl hf (fun c32 hf => ?_)
      refine j_iast hX (wM t ad o (upd m_m (x2).toNatClampNeg (m_m (x2 + 4).toNatClampNeg)) m_aside m_saved m_isSaved m_past m_changes m_errorAt m_failed m_thrown m_input m_inputMany m_fitting m_given m_pairs m_line m_lineMany m_letters m_begins0 m_commands m_commandMany m_place0 m_size0 m_isWrong) dX10_dropsBooking_33 1 0 rfl rfl rfl hf (fun c33 hf => ?_)
      refine j_iinc hX (x2 + 1) [(2, .int (x2 + 1)), (0, .ref (ad o)), (1, .int x1)] dX10_dropsBooking_34 0 rfl rfl (by decide) rfl ?_
      refine j_goto hX 5 dX10_dropsBooking_37 (by decide) ?_
      exact ih (x2 + 1) (upd m_m (x2).toNatClampNeg (m_m (x2 + 4).toNatClampNeg)) u hf kx
set_option maxHeartbeats 4000000 in
set_option maxRecDepth 100000 in
theorem k_X10_dropsBooking_L52 {l : Launch} {D : va_G} {t : Nat → ClassId} {ad : Nat → Nat} {o : Nat}  (m_aside : Nat → Int32) (m_saved : Nat → Int32) (m_isSaved : Int32) (m_past : Nat → Int32) (m_changes : Int32) (m_errorAt : Int32) (m_failed : Int32) (m_thrown : Int32) (m_input : Nat → Int32) (m_inputMany : Int32) (m_fitting : Nat → Int32) (m_given : Nat → Int32) (m_pairs : Nat → Int32) (m_line : Nat → Int32) (m_lineMany : Int32) (m_letters : Nat → Int32) (m_begins0 : Nat → Int32) (m_commands : Nat → Int32) (m_commandMany : Int32) (m_place0 : Int32) (m_size0 : Int32) (m_isWrong : Int32) (x1 : Int32) {X : jX} (hX : jOK X l D (jT t) cX10_dropsBooking RX10 none { frames := 1, cells := 0, slots := 0, locals := 20 } 3) :
    ∀ (jn : Nat) (x2 : Int32) (m_m : Nat → Int32) (u : Int32 × (Nat → Int32)) (hf : f_X10_dropsBooking_L52  jn x2 m_m = some u) (kx : ∀ s : Int32 × (Nat → Int32), u = s → J X 0 0 (wM t ad o s.2 m_aside m_saved m_isSaved m_past m_changes m_errorAt m_failed m_thrown m_input m_inputMany m_fitting m_given m_pairs m_line m_lineMany m_letters m_begins0 m_commands m_commandMany m_place0 m_size0 m_isWrong) 78 [(2, .int s.1), (0, .ref (ad o)), (1, .int x1)] []), J X 0 0 (wM t ad o m_m m_aside m_saved m_isSaved m_past m_changes m_errorAt m_failed m_thrown m_input m_inputMany m_fitting m_given m_pairs m_line m_lineMany m_letters m_begins0 m_commands m_commandMany m_place0 m_size0 m_isWrong) 52 [(2, .int x2), (0, .ref (ad o)), (1, .int x1)] [] := by
  intro jn
  induction jn with
  | zero => intro x2 m_m u hf; cases (show (none : Option (Int32 × (Nat → Int32))) = some u from hf)
  | succ jn ih =>
    intro x2 m_m u hf kx
    unfold f_X10_dropsBooking_L52 at hf
    refine j_iload_n hX dX10_dropsBooking_52 rfl 0 rfl ?_
    refine j_aload_n hX dX10_dropsBooking_53 rfl 1 rfl ?_
    refine j_get hX dX10_dropsBooking_54 inX10 0 q1455 0 rfl rfl (by decide) rfl rfl ?_
    refine j_iconst hX 5 dX10_dropsBooking_57 (by decide) ?_
    refine j_iald hX dX10_dropsBooking_58 1 0 rfl rfl hf (fun c58 hf => ?_)
    obtain ⟨u10, h11, hf⟩ := jbind hf
    refine j_callS (st := [.int x2]) hX (k_X10_bookingOf (l := l) (D := D) (t := t) (ad := ad)  (m_m (5 : Int32).toNatClampNeg) u10 h11) q1587 q1588 q15 q1589 (n9 := 1) rfl ⟨by decide +kernel, by decide +kernel⟩ dX10_dropsBooking_59 (Nat.le_of_ble_eq_true rfl) ⟨Nat.le_refl _, Nat.le_refl _⟩ (fun w : va_W => w ++ (wM t ad o m_m m_aside m_saved m_isSaved m_past m_changes m_errorAt m_failed m_thrown m_input m_inputMany m_fitting m_given m_pairs m_line m_lineMany m_letters m_begins0 m_commands m_commandMany m_place0 m_size0 m_isWrong)) (jFr_r (wM t ad o m_m m_aside m_saved m_isSaved m_past m_changes m_errorAt m_failed m_thrown m_input m_inputMany m_fitting m_given m_pairs m_line m_lineMany m_letters m_begins0 m_commands m_commandMany m_place0 m_size0 m_isWrong)) rfl rfl (fun v w hvw => ?_)
    obtain ⟨rfl, rfl⟩ := hvw
    change J X 0 0 (wM t ad o m_m m_aside m_saved m_isSaved m_past m_changes m_errorAt m_failed m_thrown m_input m_inputMany m_fitting m_given m_pairs m_line m_lineMany m_letters m_begins0 m_commands m_commandMany m_place0 m_size0 m_isWrong) 62 [(2, .int x2), (0, .ref (ad o)), (1, .int x1)] [.int u10, .int x2]
    refine j_icmp_ge hX 78 dX10_dropsBooking_62 (by decide) hf (fun c62 hf => ?_) (fun c62 hf => ?_)
    · cases hf
      exact kx _ rfl
    · refine j_aload_n hX dX10_dropsBooking_65 rfl 1 rfl ?_
      refine j_get hX dX10_dropsBooking_66 inX10 0 q1455 0 rfl rfl (by decide) rfl rfl ?_
      refine j_iload_n hX dX10_dropsBooking_69 rfl 0 rfl ?_
      refine j_iconst hX 0 dX10_dropsBooking_70 (by decide) ?_
      refine j_iast hX (wM t ad o (upd m_m (x2).toNatClampNeg 0) m_aside m_saved m_isSaved m_past m_changes m_errorAt m_failed m_thrown m_input m_inputMany m_fitting m_given m_pairs m_line m_lineMany m_letters m_begins0 m_commands m_commandMany m_place0 m_size0 m_isWrong) dX10_dropsBooking_71 1 0 rfl rfl rfl hf (fun c71 hf => ?_)
      refine j_iinc hX (x2 + 1) [(2, .int (x2 + 1)), (0, .ref (ad o)), (1, .int x1)] dX10_dropsBooking_72 0 rfl rfl (by decide) rfl ?_
      refine j_goto hX 52 dX10_dropsBooking_75 (by decide) ?_
      exact ih (x2 + 1) (upd m_m (x2).toNatClampNeg 0) u hf kx
set_option maxHeartbeats 4000000 in
set_option maxRecDepth 100000 in
theorem k_X10_dropsBooking {l : Launch} {D : va_G} {t : Nat → ClassId} {ad : Nat → Nat} {o : Nat} (m_m : Nat → Int32) (m_aside : Nat → Int32) (m_saved : Nat → Int32) (m_isSaved : Int32) (m_past : Nat → Int32) (m_changes : Int32) (m_errorAt : Int32) (m_failed : Int32) (m_thrown : Int32) (m_input : Nat → Int32) (m_inputMany : Int32) (m_fitting : Nat → Int32) (m_given : Nat → Int32) (m_pairs : Nat → Int32) (m_line : Nat → Int32) (m_lineMany : Int32) (m_letters : Nat → Int32) (m_begins0 : Nat → Int32) (m_commands : Nat → Int32) (m_commandMany : Int32) (m_place0 : Int32) (m_size0 : Int32) (m_isWrong : Int32) (a0 : Int32) (u : (Nat → Int32)) (hf : f_X10_dropsBooking m_m a0 = some u) : cm l D (jT t) yX10_dropsBooking cX10_dropsBooking 3 none { frames := 1, cells := 0, slots := 0, locals := 20 } [.ref (ad o), .int a0] (wM t ad o m_m m_aside m_saved m_isSaved m_past m_changes m_errorAt m_failed m_thrown m_input m_inputMany m_fitting m_given m_pairs m_line m_lineMany m_letters m_begins0 m_commands m_commandMany m_place0 m_size0 m_isWrong) (fun v w => v = none ∧ w = wM t ad o u m_aside m_saved m_isSaved m_past m_changes m_errorAt m_failed m_thrown m_input m_inputMany m_fitting m_given m_pairs m_line m_lineMany m_letters m_begins0 m_commands m_commandMany m_place0 m_size0 m_isWrong) := by
  refine cm_of RX10 rfl (by decide +kernel) (Nat.le_of_ble_eq_true rfl) (fun X hX hE => ?_)
  change J X 0 0 (wM t ad o m_m m_aside m_saved m_isSaved m_past m_changes m_errorAt m_failed m_thrown m_input m_inputMany m_fitting m_given m_pairs m_line m_lineMany m_letters m_begins0 m_commands m_commandMany m_place0 m_size0 m_isWrong) 0 [(0, .ref (ad o)), (1, .int a0)] []
  unfold f_X10_dropsBooking at hf
  refine j_iload_n hX dX10_dropsBooking_0 rfl 1 rfl ?_
  obtain ⟨u1, h2, hf⟩ := jbind hf
  refine j_callS (st := []) hX (k_X10_bookingOf (l := l) (D := D) (t := t) (ad := ad)  a0 u1 h2) q1587 q1588 q15 q1589 (n9 := 1) rfl ⟨by decide +kernel, by decide +kernel⟩ dX10_dropsBooking_1 (Nat.le_of_ble_eq_true rfl) ⟨Nat.le_refl _, Nat.le_refl _⟩ (fun w : va_W => w ++ (wM t ad o m_m m_aside m_saved m_isSaved m_past m_changes m_errorAt m_failed m_thrown m_input m_inputMany m_fitting m_given m_pairs m_line m_lineMany m_letters m_begins0 m_commands m_commandMany m_place0 m_size0 m_isWrong)) (jFr_r (wM t ad o m_m m_aside m_saved m_isSaved m_past m_changes m_errorAt m_failed m_thrown m_input m_inputMany m_fitting m_given m_pairs m_line m_lineMany m_letters m_begins0 m_commands m_commandMany m_place0 m_size0 m_isWrong)) rfl rfl (fun v w hvw => ?_)
  obtain ⟨rfl, rfl⟩ := hvw
  change J X 0 0 (wM t ad o m_m m_aside m_saved m_isSaved m_past m_changes m_errorAt m_failed m_thrown m_input m_inputMany m_fitting m_given m_pairs m_line m_lineMany m_letters m_begins0 m_commands m_commandMany m_place0 m_size0 m_isWrong) 4 [(0, .ref (ad o)), (1, .int a0)] [.int u1]
  refine j_istore_n hX [(2, .int u1), (0, .ref (ad o)), (1, .int a0)] dX10_dropsBooking_4 rfl (by decide) rfl ?_
  obtain ⟨s6, h7, hf⟩ := jbind hf
  refine k_X10_dropsBooking_L5 (ad := ad)  m_aside m_saved m_isSaved m_past m_changes m_errorAt m_failed m_thrown m_input m_inputMany m_fitting m_given m_pairs m_line m_lineMany m_letters m_begins0 m_commands m_commandMany m_place0 m_size0 m_isWrong a0 hX jFU u1 m_m s6 h7 (fun s60 es6 => ?_)
  subst es6
  refine j_aload_n hX dX10_dropsBooking_40 rfl 1 rfl ?_
  refine j_get hX dX10_dropsBooking_41 inX10 0 q1455 0 rfl rfl (by decide) rfl rfl ?_
  refine j_iconst hX 5 dX10_dropsBooking_44 (by decide) ?_
  refine j_iald hX dX10_dropsBooking_45 1 0 rfl rfl hf (fun c45 hf => ?_)
  refine j_iconst hX 1 dX10_dropsBooking_46 (by decide) ?_
  refine j_isub hX dX10_dropsBooking_47 ?_
  obtain ⟨u8, h9, hf⟩ := jbind hf
  refine j_callS (st := []) hX (k_X10_bookingOf (l := l) (D := D) (t := t) (ad := ad)  ((s6.2 (5 : Int32).toNatClampNeg) - 1) u8 h9) q1587 q1588 q15 q1589 (n9 := 1) rfl ⟨by decide +kernel, by decide +kernel⟩ dX10_dropsBooking_48 (Nat.le_of_ble_eq_true rfl) ⟨Nat.le_refl _, Nat.le_refl _⟩ (fun w : va_W => w ++ (wM t ad o s6.2 m_aside m_saved m_isSaved m_past m_changes m_errorAt m_failed m_thrown m_input m_inputMany m_fitting m_given m_pairs m_line m_lineMany m_letters m_begins0 m_commands m_commandMany m_place0 m_size0 m_isWrong)) (jFr_r (wM t ad o s6.2 m_aside m_saved m_isSaved m_past m_changes m_errorAt m_failed m_thrown m_input m_inputMany m_fitting m_given m_pairs m_line m_lineMany m_letters m_begins0 m_commands m_commandMany m_place0 m_size0 m_isWrong)) rfl rfl (fun v w hvw => ?_)
  obtain ⟨rfl, rfl⟩ := hvw
  change J X 0 0 (wM t ad o s6.2 m_aside m_saved m_isSaved m_past m_changes m_errorAt m_failed m_thrown m_input m_inputMany m_fitting m_given m_pairs m_line m_lineMany m_letters m_begins0 m_commands m_commandMany m_place0 m_size0 m_isWrong) 51 [(2, .int s6.1), (0, .ref (ad o)), (1, .int a0)] [.int u8]
  refine j_istore_n hX [(2, .int u8), (0, .ref (ad o)), (1, .int a0)] dX10_dropsBooking_51 rfl (by decide) rfl ?_
  obtain ⟨s13, h14, hf⟩ := jbind hf
  refine k_X10_dropsBooking_L52 (ad := ad)  m_aside m_saved m_isSaved m_past m_changes m_errorAt m_failed m_thrown m_input m_inputMany m_fitting m_given m_pairs m_line m_lineMany m_letters m_begins0 m_commands m_commandMany m_place0 m_size0 m_isWrong a0 hX jFU u8 s6.2 s13 h14 (fun s130 es13 => ?_)
  subst es13
  refine j_aload_n hX dX10_dropsBooking_78 rfl 1 rfl ?_
  refine j_get hX dX10_dropsBooking_79 inX10 0 q1455 0 rfl rfl (by decide) rfl rfl ?_
  refine j_iconst hX 5 dX10_dropsBooking_82 (by decide) ?_
  refine j_dup2 hX dX10_dropsBooking_83 rfl rfl ?_
  refine j_iald hX dX10_dropsBooking_84 1 0 rfl rfl hf (fun c84 hf => ?_)
  refine j_iconst hX 1 dX10_dropsBooking_85 (by decide) ?_
  refine j_isub hX dX10_dropsBooking_86 ?_
  refine j_iast hX (wM t ad o (upd s13.2 (5 : Int32).toNatClampNeg ((s13.2 (5 : Int32).toNatClampNeg) - 1)) m_aside m_saved m_isSaved m_past m_changes m_errorAt m_failed m_thrown m_input m_inputMany m_fitting m_given m_pairs m_line m_lineMany m_letters m_begins0 m_commands m_commandMany m_place0 m_size0 m_isWrong) dX10_dropsBooking_87 1 0 rfl rfl rfl hf (fun c87 hf => ?_)
  cases hf
  exact j_vret hX hE dX10_dropsBooking_88 (Nat.le_refl _) (Nat.le_refl _) ⟨rfl, rfl⟩
-- HammerDepotModel books (II)V
def f_X10_books (m_m : Nat → Int32) (a0 : Int32) (a1 : Int32) : Option ((Nat → Int32)) :=
  Option.bind (f_X10_requestOf a0) (fun u1 =>
    if jin 5 2048 = true then
      if 480 ≤ (m_m (5 : Int32).toNatClampNeg) then
        if jin 2 2048 = true then
          if jin (u1 + 5) 2048 = true then
            if jin (u1 + 4) 2048 = true then
              if jin 2 2048 = true then
                Option.bind (f_X10_dropsRequest (upd m_m (2 : Int32).toNatClampNeg ((m_m (2 : Int32).toNatClampNeg) + (((m_m (u1 + 5).toNatClampNeg) - (m_m (u1 + 4).toNatClampNeg)) + 1))) a0) (fun u3 =>
                  some u3)
              else none
            else none
          else none
        else none
      else
        if jin 5 2048 = true then
          Option.bind (f_X10_bookingOf (m_m (5 : Int32).toNatClampNeg)) (fun u5 =>
            if jin u5 2048 = true then
              if jin (u1 + 1) 2048 = true then
                if jin (u5 + 1) 2048 = true then
                  if jin (u1 + 4) 2048 = true then
                    if jin (u5 + 2) 2048 = true then
                      if jin (u1 + 5) 2048 = true then
                        if jin (u5 + 3) 2048 = true then
                          if jin 5 2048 = true then
                            if jin 5 2048 = true then
                              if jin 2 2048 = true then
                                if jin (u1 + 5) 2048 = true then
                                  if jin (u1 + 4) 2048 = true then
                                    if jin 2 2048 = true then
                                      Option.bind (f_X10_dropsRequest (upd (upd (upd (upd (upd (upd m_m (u5).toNatClampNeg a1) (u5 + 1).toNatClampNeg ((upd m_m (u5).toNatClampNeg a1) (u1 + 1).toNatClampNeg)) (u5 + 2).toNatClampNeg ((upd (upd m_m (u5).toNatClampNeg a1) (u5 + 1).toNatClampNeg ((upd m_m (u5).toNatClampNeg a1) (u1 + 1).toNatClampNeg)) (u1 + 4).toNatClampNeg)) (u5 + 3).toNatClampNeg ((upd (upd (upd m_m (u5).toNatClampNeg a1) (u5 + 1).toNatClampNeg ((upd m_m (u5).toNatClampNeg a1) (u1 + 1).toNatClampNeg)) (u5 + 2).toNatClampNeg ((upd (upd m_m (u5).toNatClampNeg a1) (u5 + 1).toNatClampNeg ((upd m_m (u5).toNatClampNeg a1) (u1 + 1).toNatClampNeg)) (u1 + 4).toNatClampNeg)) (u1 + 5).toNatClampNeg)) (5 : Int32).toNatClampNeg (((upd (upd (upd (upd m_m (u5).toNatClampNeg a1) (u5 + 1).toNatClampNeg ((upd m_m (u5).toNatClampNeg a1) (u1 + 1).toNatClampNeg)) (u5 + 2).toNatClampNeg ((upd (upd m_m (u5).toNatClampNeg a1) (u5 + 1).toNatClampNeg ((upd m_m (u5).toNatClampNeg a1) (u1 + 1).toNatClampNeg)) (u1 + 4).toNatClampNeg)) (u5 + 3).toNatClampNeg ((upd (upd (upd m_m (u5).toNatClampNeg a1) (u5 + 1).toNatClampNeg ((upd m_m (u5).toNatClampNeg a1) (u1 + 1).toNatClampNeg)) (u5 + 2).toNatClampNeg ((upd (upd m_m (u5).toNatClampNeg a1) (u5 + 1).toNatClampNeg ((upd m_m (u5).toNatClampNeg a1) (u1 + 1).toNatClampNeg)) (u1 + 4).toNatClampNeg)) (u1 + 5).toNatClampNeg)) (5 : Int32).toNatClampNeg) + 1)) (2 : Int32).toNatClampNeg (((upd (upd (upd (upd (upd m_m (u5).toNatClampNeg a1) (u5 + 1).toNatClampNeg ((upd m_m (u5).toNatClampNeg a1) (u1 + 1).toNatClampNeg)) (u5 + 2).toNatClampNeg ((upd (upd m_m (u5).toNatClampNeg a1) (u5 + 1).toNatClampNeg ((upd m_m (u5).toNatClampNeg a1) (u1 + 1).toNatClampNeg)) (u1 + 4).toNatClampNeg)) (u5 + 3).toNatClampNeg ((upd (upd (upd m_m (u5).toNatClampNeg a1) (u5 + 1).toNatClampNeg ((upd m_m (u5).toNatClampNeg a1) (u1 + 1).toNatClampNeg)) (u5 + 2).toNatClampNeg ((upd (upd m_m (u5).toNatClampNeg a1) (u5 + 1).toNatClampNeg ((upd m_m (u5).toNatClampNeg a1) (u1 + 1).toNatClampNeg)) (u1 + 4).toNatClampNeg)) (u1 + 5).toNatClampNeg)) (5 : Int32).toNatClampNeg (((upd (upd (upd (upd m_m (u5).toNatClampNeg a1) (u5 + 1).toNatClampNeg ((upd m_m (u5).toNatClampNeg a1) (u1 + 1).toNatClampNeg)) (u5 + 2).toNatClampNeg ((upd (upd m_m (u5).toNatClampNeg a1) (u5 + 1).toNatClampNeg ((upd m_m (u5).toNatClampNeg a1) (u1 + 1).toNatClampNeg)) (u1 + 4).toNatClampNeg)) (u5 + 3).toNatClampNeg ((upd (upd (upd m_m (u5).toNatClampNeg a1) (u5 + 1).toNatClampNeg ((upd m_m (u5).toNatClampNeg a1) (u1 + 1).toNatClampNeg)) (u5 + 2).toNatClampNeg ((upd (upd m_m (u5).toNatClampNeg a1) (u5 + 1).toNatClampNeg ((upd m_m (u5).toNatClampNeg a1) (u1 + 1).toNatClampNeg)) (u1 + 4).toNatClampNeg)) (u1 + 5).toNatClampNeg)) (5 : Int32).toNatClampNeg) + 1)) (2 : Int32).toNatClampNeg) + ((((upd (upd (upd (upd (upd m_m (u5).toNatClampNeg a1) (u5 + 1).toNatClampNeg ((upd m_m (u5).toNatClampNeg a1) (u1 + 1).toNatClampNeg)) (u5 + 2).toNatClampNeg ((upd (upd m_m (u5).toNatClampNeg a1) (u5 + 1).toNatClampNeg ((upd m_m (u5).toNatClampNeg a1) (u1 + 1).toNatClampNeg)) (u1 + 4).toNatClampNeg)) (u5 + 3).toNatClampNeg ((upd (upd (upd m_m (u5).toNatClampNeg a1) (u5 + 1).toNatClampNeg ((upd m_m (u5).toNatClampNeg a1) (u1 + 1).toNatClampNeg)) (u5 + 2).toNatClampNeg ((upd (upd m_m (u5).toNatClampNeg a1) (u5 + 1).toNatClampNeg ((upd m_m (u5).toNatClampNeg a1) (u1 + 1).toNatClampNeg)) (u1 + 4).toNatClampNeg)) (u1 + 5).toNatClampNeg)) (5 : Int32).toNatClampNeg (((upd (upd (upd (upd m_m (u5).toNatClampNeg a1) (u5 + 1).toNatClampNeg ((upd m_m (u5).toNatClampNeg a1) (u1 + 1).toNatClampNeg)) (u5 + 2).toNatClampNeg ((upd (upd m_m (u5).toNatClampNeg a1) (u5 + 1).toNatClampNeg ((upd m_m (u5).toNatClampNeg a1) (u1 + 1).toNatClampNeg)) (u1 + 4).toNatClampNeg)) (u5 + 3).toNatClampNeg ((upd (upd (upd m_m (u5).toNatClampNeg a1) (u5 + 1).toNatClampNeg ((upd m_m (u5).toNatClampNeg a1) (u1 + 1).toNatClampNeg)) (u5 + 2).toNatClampNeg ((upd (upd m_m (u5).toNatClampNeg a1) (u5 + 1).toNatClampNeg ((upd m_m (u5).toNatClampNeg a1) (u1 + 1).toNatClampNeg)) (u1 + 4).toNatClampNeg)) (u1 + 5).toNatClampNeg)) (5 : Int32).toNatClampNeg) + 1)) (u1 + 5).toNatClampNeg) - ((upd (upd (upd (upd (upd m_m (u5).toNatClampNeg a1) (u5 + 1).toNatClampNeg ((upd m_m (u5).toNatClampNeg a1) (u1 + 1).toNatClampNeg)) (u5 + 2).toNatClampNeg ((upd (upd m_m (u5).toNatClampNeg a1) (u5 + 1).toNatClampNeg ((upd m_m (u5).toNatClampNeg a1) (u1 + 1).toNatClampNeg)) (u1 + 4).toNatClampNeg)) (u5 + 3).toNatClampNeg ((upd (upd (upd m_m (u5).toNatClampNeg a1) (u5 + 1).toNatClampNeg ((upd m_m (u5).toNatClampNeg a1) (u1 + 1).toNatClampNeg)) (u5 + 2).toNatClampNeg ((upd (upd m_m (u5).toNatClampNeg a1) (u5 + 1).toNatClampNeg ((upd m_m (u5).toNatClampNeg a1) (u1 + 1).toNatClampNeg)) (u1 + 4).toNatClampNeg)) (u1 + 5).toNatClampNeg)) (5 : Int32).toNatClampNeg (((upd (upd (upd (upd m_m (u5).toNatClampNeg a1) (u5 + 1).toNatClampNeg ((upd m_m (u5).toNatClampNeg a1) (u1 + 1).toNatClampNeg)) (u5 + 2).toNatClampNeg ((upd (upd m_m (u5).toNatClampNeg a1) (u5 + 1).toNatClampNeg ((upd m_m (u5).toNatClampNeg a1) (u1 + 1).toNatClampNeg)) (u1 + 4).toNatClampNeg)) (u5 + 3).toNatClampNeg ((upd (upd (upd m_m (u5).toNatClampNeg a1) (u5 + 1).toNatClampNeg ((upd m_m (u5).toNatClampNeg a1) (u1 + 1).toNatClampNeg)) (u5 + 2).toNatClampNeg ((upd (upd m_m (u5).toNatClampNeg a1) (u5 + 1).toNatClampNeg ((upd m_m (u5).toNatClampNeg a1) (u1 + 1).toNatClampNeg)) (u1 + 4).toNatClampNeg)) (u1 + 5).toNatClampNeg)) (5 : Int32).toNatClampNeg) + 1)) (u1 + 4).toNatClampNeg)) + 1))) a0) (fun u7 =>
                                        some u7)
                                    else none
                                  else none
                                else none
                              else none
                            else none
                          else none
                        else none
                      else none
                    else none
                  else none
                else none
              else none
            else none)
        else none
    else none)
set_option maxHeartbeats 4000000 in
set_option maxRecDepth 100000 in
theorem k_X10_books {l : Launch} {D : va_G} {t : Nat → ClassId} {ad : Nat → Nat} {o : Nat} (m_m : Nat → Int32) (m_aside : Nat → Int32) (m_saved : Nat → Int32) (m_isSaved : Int32) (m_past : Nat → Int32) (m_changes : Int32) (m_errorAt : Int32) (m_failed : Int32) (m_thrown : Int32) (m_input : Nat → Int32) (m_inputMany : Int32) (m_fitting : Nat → Int32) (m_given : Nat → Int32) (m_pairs : Nat → Int32) (m_line : Nat → Int32) (m_lineMany : Int32) (m_letters : Nat → Int32) (m_begins0 : Nat → Int32) (m_commands : Nat → Int32) (m_commandMany : Int32) (m_place0 : Int32) (m_size0 : Int32) (m_isWrong : Int32) (a0 : Int32) (a1 : Int32) (u : (Nat → Int32)) (hf : f_X10_books m_m a0 a1 = some u) : cm l D (jT t) yX10_books cX10_books 5 none { frames := 2, cells := 0, slots := 0, locals := 42 } [.ref (ad o), .int a0, .int a1] (wM t ad o m_m m_aside m_saved m_isSaved m_past m_changes m_errorAt m_failed m_thrown m_input m_inputMany m_fitting m_given m_pairs m_line m_lineMany m_letters m_begins0 m_commands m_commandMany m_place0 m_size0 m_isWrong) (fun v w => v = none ∧ w = wM t ad o u m_aside m_saved m_isSaved m_past m_changes m_errorAt m_failed m_thrown m_input m_inputMany m_fitting m_given m_pairs m_line m_lineMany m_letters m_begins0 m_commands m_commandMany m_place0 m_size0 m_isWrong) := by
  refine cm_of RX10 rfl (by decide +kernel) (Nat.le_of_ble_eq_true rfl) (fun X hX hE => ?_)
  change J X 0 0 (wM t ad o m_m m_aside m_saved m_isSaved m_past m_changes m_errorAt m_failed m_thrown m_input m_inputMany m_fitting m_given m_pairs m_line m_lineMany m_letters m_begins0 m_commands m_commandMany m_place0 m_size0 m_isWrong) 0 [(0, .ref (ad o)), (1, .int a0), (2, .int a1)] []
  unfold f_X10_books at hf
  refine j_iload_n hX dX10_books_0 rfl 1 rfl ?_
  obtain ⟨u1, h2, hf⟩ := jbind hf
  refine j_callS (st := []) hX (k_X10_requestOf (l := l) (D := D) (t := t) (ad := ad)  a0 u1 h2) q1554 q1555 q15 q1556 (n9 := 1) rfl ⟨by decide +kernel, by decide +kernel⟩ dX10_books_1 (Nat.le_of_ble_eq_true rfl) ⟨Nat.le_refl _, Nat.le_refl _⟩ (fun w : va_W => w ++ (wM t ad o m_m m_aside m_saved m_isSaved m_past m_changes m_errorAt m_failed m_thrown m_input m_inputMany m_fitting m_given m_pairs m_line m_lineMany m_letters m_begins0 m_commands m_commandMany m_place0 m_size0 m_isWrong)) (jFr_r (wM t ad o m_m m_aside m_saved m_isSaved m_past m_changes m_errorAt m_failed m_thrown m_input m_inputMany m_fitting m_given m_pairs m_line m_lineMany m_letters m_begins0 m_commands m_commandMany m_place0 m_size0 m_isWrong)) rfl rfl (fun v w hvw => ?_)
  obtain ⟨rfl, rfl⟩ := hvw
  change J X 0 0 (wM t ad o m_m m_aside m_saved m_isSaved m_past m_changes m_errorAt m_failed m_thrown m_input m_inputMany m_fitting m_given m_pairs m_line m_lineMany m_letters m_begins0 m_commands m_commandMany m_place0 m_size0 m_isWrong) 4 [(0, .ref (ad o)), (1, .int a0), (2, .int a1)] [.int u1]
  refine j_istore_n hX [(3, .int u1), (0, .ref (ad o)), (1, .int a0), (2, .int a1)] dX10_books_4 rfl (by decide) rfl ?_
  refine j_aload_n hX dX10_books_5 rfl 1 rfl ?_
  refine j_get hX dX10_books_6 inX10 0 q1455 0 rfl rfl (by decide) rfl rfl ?_
  refine j_iconst hX 5 dX10_books_9 (by decide) ?_
  refine j_iald hX dX10_books_10 1 0 rfl rfl hf (fun c10 hf => ?_)
  refine j_sipush hX 480 dX10_books_11 (by decide) ?_
  refine j_icmp_ge hX 97 dX10_books_14 (by decide) hf (fun c14 hf => ?_) (fun c14 hf => ?_)
  · refine j_aload_n hX dX10_books_97 rfl 1 rfl ?_
    refine j_get hX dX10_books_98 inX10 0 q1455 0 rfl rfl (by decide) rfl rfl ?_
    refine j_iconst hX 2 dX10_books_101 (by decide) ?_
    refine j_dup2 hX dX10_books_102 rfl rfl ?_
    refine j_iald hX dX10_books_103 1 0 rfl rfl hf (fun c103 hf => ?_)
    refine j_aload_n hX dX10_books_104 rfl 1 rfl ?_
    refine j_get hX dX10_books_105 inX10 0 q1455 0 rfl rfl (by decide) rfl rfl ?_
    refine j_iload_n hX dX10_books_108 rfl 0 rfl ?_
    refine j_iconst hX 5 dX10_books_109 (by decide) ?_
    refine j_iadd hX dX10_books_110 ?_
    refine j_iald hX dX10_books_111 1 0 rfl rfl hf (fun c111 hf => ?_)
    refine j_aload_n hX dX10_books_112 rfl 1 rfl ?_
    refine j_get hX dX10_books_113 inX10 0 q1455 0 rfl rfl (by decide) rfl rfl ?_
    refine j_iload_n hX dX10_books_116 rfl 0 rfl ?_
    refine j_iconst hX 4 dX10_books_117 (by decide) ?_
    refine j_iadd hX dX10_books_118 ?_
    refine j_iald hX dX10_books_119 1 0 rfl rfl hf (fun c119 hf => ?_)
    refine j_isub hX dX10_books_120 ?_
    refine j_iconst hX 1 dX10_books_121 (by decide) ?_
    refine j_iadd hX dX10_books_122 ?_
    refine j_iadd hX dX10_books_123 ?_
    refine j_iast hX (wM t ad o (upd m_m (2 : Int32).toNatClampNeg ((m_m (2 : Int32).toNatClampNeg) + (((m_m (u1 + 5).toNatClampNeg) - (m_m (u1 + 4).toNatClampNeg)) + 1))) m_aside m_saved m_isSaved m_past m_changes m_errorAt m_failed m_thrown m_input m_inputMany m_fitting m_given m_pairs m_line m_lineMany m_letters m_begins0 m_commands m_commandMany m_place0 m_size0 m_isWrong) dX10_books_124 1 0 rfl rfl rfl hf (fun c124 hf => ?_)
    refine j_aload_n hX dX10_books_125 rfl 1 rfl ?_
    refine j_iload_n hX dX10_books_126 rfl 2 rfl ?_
    obtain ⟨u3, h4, hf⟩ := jbind hf
    refine j_callV (st := []) hX (k_X10_dropsRequest (l := l) (D := D) (t := t) (ad := ad) (o := o) (upd m_m (2 : Int32).toNatClampNeg ((m_m (2 : Int32).toNatClampNeg) + (((m_m (u1 + 5).toNatClampNeg) - (m_m (u1 + 4).toNatClampNeg)) + 1))) m_aside m_saved m_isSaved m_past m_changes m_errorAt m_failed m_thrown m_input m_inputMany m_fitting m_given m_pairs m_line m_lineMany m_letters m_begins0 m_commands m_commandMany m_place0 m_size0 m_isWrong a0 u3 h4) q1567 q1568 q1964 q15 q1569 (n9 := 1) rfl ⟨by decide +kernel, by decide +kernel⟩ 0 rfl rfl rfl dX10_books_127 (Nat.le_of_ble_eq_true rfl) ⟨Nat.le_refl _, Nat.le_refl _⟩ (fun w : va_W => w) jFr_id rfl rfl (fun v w hvw => ?_)
    obtain ⟨rfl, rfl⟩ := hvw
    change J X 0 0 (wM t ad o u3 m_aside m_saved m_isSaved m_past m_changes m_errorAt m_failed m_thrown m_input m_inputMany m_fitting m_given m_pairs m_line m_lineMany m_letters m_begins0 m_commands m_commandMany m_place0 m_size0 m_isWrong) 130 [(3, .int u1), (0, .ref (ad o)), (1, .int a0), (2, .int a1)] []
    cases hf
    exact j_vret hX hE dX10_books_130 (Nat.le_refl _) (Nat.le_refl _) ⟨rfl, rfl⟩
  · refine j_aload_n hX dX10_books_17 rfl 1 rfl ?_
    refine j_get hX dX10_books_18 inX10 0 q1455 0 rfl rfl (by decide) rfl rfl ?_
    refine j_iconst hX 5 dX10_books_21 (by decide) ?_
    refine j_iald hX dX10_books_22 1 0 rfl rfl hf (fun c22 hf => ?_)
    obtain ⟨u5, h6, hf⟩ := jbind hf
    refine j_callS (st := []) hX (k_X10_bookingOf (l := l) (D := D) (t := t) (ad := ad)  (m_m (5 : Int32).toNatClampNeg) u5 h6) q1587 q1588 q15 q1589 (n9 := 1) rfl ⟨by decide +kernel, by decide +kernel⟩ dX10_books_23 (Nat.le_of_ble_eq_true rfl) ⟨Nat.le_refl _, Nat.le_refl _⟩ (fun w : va_W => w ++ (wM t ad o m_m m_aside m_saved m_isSaved m_past m_changes m_errorAt m_failed m_thrown m_input m_inputMany m_fitting m_given m_pairs m_line m_lineMany m_letters m_begins0 m_commands m_commandMany m_place0 m_size0 m_isWrong)) (jFr_r (wM t ad o m_m m_aside m_saved m_isSaved m_past m_changes m_errorAt m_failed m_thrown m_input m_inputMany m_fitting m_given m_pairs m_line m_lineMany m_letters m_begins0 m_commands m_commandMany m_place0 m_size0 m_isWrong)) rfl rfl (fun v w hvw => ?_)
    obtain ⟨rfl, rfl⟩ := hvw
    change J X 0 0 (wM t ad o m_m m_aside m_saved m_isSaved m_past m_changes m_errorAt m_failed m_thrown m_input m_inputMany m_fitting m_given m_pairs m_line m_lineMany m_letters m_begins0 m_commands m_commandMany m_place0 m_size0 m_isWrong) 26 [(3, .int u1), (0, .ref (ad o)), (1, .int a0), (2, .int a1)] [.int u5]
    refine j_istore hX [(4, .int u5), (3, .int u1), (0, .ref (ad o)), (1, .int a0), (2, .int a1)] dX10_books_26 (by decide) rfl ?_
    refine j_aload_n hX dX10_books_28 rfl 2 rfl ?_
    refine j_get hX dX10_books_29 inX10 0 q1455 0 rfl rfl (by decide) rfl rfl ?_
    refine j_iload hX dX10_books_32 0 rfl ?_
    refine j_iload_n hX dX10_books_34 rfl 4 rfl ?_
    refine j_iast hX (wM t ad o (upd m_m (u5).toNatClampNeg a1) m_aside m_saved m_isSaved m_past m_changes m_errorAt m_failed m_thrown m_input m_inputMany m_fitting m_given m_pairs m_line m_lineMany m_letters m_begins0 m_commands m_commandMany m_place0 m_size0 m_isWrong) dX10_books_35 1 0 rfl rfl rfl hf (fun c35 hf => ?_)
    refine j_aload_n hX dX10_books_36 rfl 2 rfl ?_
    refine j_get hX dX10_books_37 inX10 0 q1455 0 rfl rfl (by decide) rfl rfl ?_
    refine j_iload hX dX10_books_40 0 rfl ?_
    refine j_iconst hX 1 dX10_books_42 (by decide) ?_
    refine j_iadd hX dX10_books_43 ?_
    refine j_aload_n hX dX10_books_44 rfl 2 rfl ?_
    refine j_get hX dX10_books_45 inX10 0 q1455 0 rfl rfl (by decide) rfl rfl ?_
    refine j_iload_n hX dX10_books_48 rfl 1 rfl ?_
    refine j_iconst hX 1 dX10_books_49 (by decide) ?_
    refine j_iadd hX dX10_books_50 ?_
    refine j_iald hX dX10_books_51 1 0 rfl rfl hf (fun c51 hf => ?_)
    refine j_iast hX (wM t ad o (upd (upd m_m (u5).toNatClampNeg a1) (u5 + 1).toNatClampNeg ((upd m_m (u5).toNatClampNeg a1) (u1 + 1).toNatClampNeg)) m_aside m_saved m_isSaved m_past m_changes m_errorAt m_failed m_thrown m_input m_inputMany m_fitting m_given m_pairs m_line m_lineMany m_letters m_begins0 m_commands m_commandMany m_place0 m_size0 m_isWrong) dX10_books_52 1 0 rfl rfl rfl hf (fun c52 hf => ?_)
    refine j_aload_n hX dX10_books_53 rfl 2 rfl ?_
    refine j_get hX dX10_books_54 inX10 0 q1455 0 rfl rfl (by decide) rfl rfl ?_
    refine j_iload hX dX10_books_57 0 rfl ?_
    refine j_iconst hX 2 dX10_books_59 (by decide) ?_
    refine j_iadd hX dX10_books_60 ?_
    refine j_aload_n hX dX10_books_61 rfl 2 rfl ?_
    refine j_get hX dX10_books_62 inX10 0 q1455 0 rfl rfl (by decide) rfl rfl ?_
    refine j_iload_n hX dX10_books_65 rfl 1 rfl ?_
    refine j_iconst hX 4 dX10_books_66 (by decide) ?_
    refine j_iadd hX dX10_books_67 ?_
    refine j_iald hX dX10_books_68 1 0 rfl rfl hf (fun c68 hf => ?_)
    refine j_iast hX (wM t ad o (upd (upd (upd m_m (u5).toNatClampNeg a1) (u5 + 1).toNatClampNeg ((upd m_m (u5).toNatClampNeg a1) (u1 + 1).toNatClampNeg)) (u5 + 2).toNatClampNeg ((upd (upd m_m (u5).toNatClampNeg a1) (u5 + 1).toNatClampNeg ((upd m_m (u5).toNatClampNeg a1) (u1 + 1).toNatClampNeg)) (u1 + 4).toNatClampNeg)) m_aside m_saved m_isSaved m_past m_changes m_errorAt m_failed m_thrown m_input m_inputMany m_fitting m_given m_pairs m_line m_lineMany m_letters m_begins0 m_commands m_commandMany m_place0 m_size0 m_isWrong) dX10_books_69 1 0 rfl rfl rfl hf (fun c69 hf => ?_)
    refine j_aload_n hX dX10_books_70 rfl 2 rfl ?_
    refine j_get hX dX10_books_71 inX10 0 q1455 0 rfl rfl (by decide) rfl rfl ?_
    refine j_iload hX dX10_books_74 0 rfl ?_
    refine j_iconst hX 3 dX10_books_76 (by decide) ?_
    refine j_iadd hX dX10_books_77 ?_
    refine j_aload_n hX dX10_books_78 rfl 2 rfl ?_
    refine j_get hX dX10_books_79 inX10 0 q1455 0 rfl rfl (by decide) rfl rfl ?_
    refine j_iload_n hX dX10_books_82 rfl 1 rfl ?_
    refine j_iconst hX 5 dX10_books_83 (by decide) ?_
    refine j_iadd hX dX10_books_84 ?_
    refine j_iald hX dX10_books_85 1 0 rfl rfl hf (fun c85 hf => ?_)
    refine j_iast hX (wM t ad o (upd (upd (upd (upd m_m (u5).toNatClampNeg a1) (u5 + 1).toNatClampNeg ((upd m_m (u5).toNatClampNeg a1) (u1 + 1).toNatClampNeg)) (u5 + 2).toNatClampNeg ((upd (upd m_m (u5).toNatClampNeg a1) (u5 + 1).toNatClampNeg ((upd m_m (u5).toNatClampNeg a1) (u1 + 1).toNatClampNeg)) (u1 + 4).toNatClampNeg)) (u5 + 3).toNatClampNeg ((upd (upd (upd m_m (u5).toNatClampNeg a1) (u5 + 1).toNatClampNeg ((upd m_m (u5).toNatClampNeg a1) (u1 + 1).toNatClampNeg)) (u5 + 2).toNatClampNeg ((upd (upd m_m (u5).toNatClampNeg a1) (u5 + 1).toNatClampNeg ((upd m_m (u5).toNatClampNeg a1) (u1 + 1).toNatClampNeg)) (u1 + 4).toNatClampNeg)) (u1 + 5).toNatClampNeg)) m_aside m_saved m_isSaved m_past m_changes m_errorAt m_failed m_thrown m_input m_inputMany m_fitting m_given m_pairs m_line m_lineMany m_letters m_begins0 m_commands m_commandMany m_place0 m_size0 m_isWrong) dX10_books_86 1 0 rfl rfl rfl hf (fun c86 hf => ?_)
    refine j_aload_n hX dX10_books_87 rfl 2 rfl ?_
    refine j_get hX dX10_books_88 inX10 0 q1455 0 rfl rfl (by decide) rfl rfl ?_
    refine j_iconst hX 5 dX10_books_91 (by decide) ?_
    refine j_dup2 hX dX10_books_92 rfl rfl ?_
    refine j_iald hX dX10_books_93 1 0 rfl rfl hf (fun c93 hf => ?_)
    refine j_iconst hX 1 dX10_books_94 (by decide) ?_
    refine j_iadd hX dX10_books_95 ?_
    refine j_iast hX (wM t ad o (upd (upd (upd (upd (upd m_m (u5).toNatClampNeg a1) (u5 + 1).toNatClampNeg ((upd m_m (u5).toNatClampNeg a1) (u1 + 1).toNatClampNeg)) (u5 + 2).toNatClampNeg ((upd (upd m_m (u5).toNatClampNeg a1) (u5 + 1).toNatClampNeg ((upd m_m (u5).toNatClampNeg a1) (u1 + 1).toNatClampNeg)) (u1 + 4).toNatClampNeg)) (u5 + 3).toNatClampNeg ((upd (upd (upd m_m (u5).toNatClampNeg a1) (u5 + 1).toNatClampNeg ((upd m_m (u5).toNatClampNeg a1) (u1 + 1).toNatClampNeg)) (u5 + 2).toNatClampNeg ((upd (upd m_m (u5).toNatClampNeg a1) (u5 + 1).toNatClampNeg ((upd m_m (u5).toNatClampNeg a1) (u1 + 1).toNatClampNeg)) (u1 + 4).toNatClampNeg)) (u1 + 5).toNatClampNeg)) (5 : Int32).toNatClampNeg (((upd (upd (upd (upd m_m (u5).toNatClampNeg a1) (u5 + 1).toNatClampNeg ((upd m_m (u5).toNatClampNeg a1) (u1 + 1).toNatClampNeg)) (u5 + 2).toNatClampNeg ((upd (upd m_m (u5).toNatClampNeg a1) (u5 + 1).toNatClampNeg ((upd m_m (u5).toNatClampNeg a1) (u1 + 1).toNatClampNeg)) (u1 + 4).toNatClampNeg)) (u5 + 3).toNatClampNeg ((upd (upd (upd m_m (u5).toNatClampNeg a1) (u5 + 1).toNatClampNeg ((upd m_m (u5).toNatClampNeg a1) (u1 + 1).toNatClampNeg)) (u5 + 2).toNatClampNeg ((upd (upd m_m (u5).toNatClampNeg a1) (u5 + 1).toNatClampNeg ((upd m_m (u5).toNatClampNeg a1) (u1 + 1).toNatClampNeg)) (u1 + 4).toNatClampNeg)) (u1 + 5).toNatClampNeg)) (5 : Int32).toNatClampNeg) + 1)) m_aside m_saved m_isSaved m_past m_changes m_errorAt m_failed m_thrown m_input m_inputMany m_fitting m_given m_pairs m_line m_lineMany m_letters m_begins0 m_commands m_commandMany m_place0 m_size0 m_isWrong) dX10_books_96 1 0 rfl rfl rfl hf (fun c96 hf => ?_)
    refine j_aload_n hX dX10_books_97 rfl 2 rfl ?_
    refine j_get hX dX10_books_98 inX10 0 q1455 0 rfl rfl (by decide) rfl rfl ?_
    refine j_iconst hX 2 dX10_books_101 (by decide) ?_
    refine j_dup2 hX dX10_books_102 rfl rfl ?_
    refine j_iald hX dX10_books_103 1 0 rfl rfl hf (fun c103 hf => ?_)
    refine j_aload_n hX dX10_books_104 rfl 2 rfl ?_
    refine j_get hX dX10_books_105 inX10 0 q1455 0 rfl rfl (by decide) rfl rfl ?_
    refine j_iload_n hX dX10_books_108 rfl 1 rfl ?_
    refine j_iconst hX 5 dX10_books_109 (by decide) ?_
    refine j_iadd hX dX10_books_110 ?_
    refine j_iald hX dX10_books_111 1 0 rfl rfl hf (fun c111 hf => ?_)
    refine j_aload_n hX dX10_books_112 rfl 2 rfl ?_
    refine j_get hX dX10_books_113 inX10 0 q1455 0 rfl rfl (by decide) rfl rfl ?_
    refine j_iload_n hX dX10_books_116 rfl 1 rfl ?_
    refine j_iconst hX 4 dX10_books_117 (by decide) ?_
    refine j_iadd hX dX10_books_118 ?_
    refine j_iald hX dX10_books_119 1 0 rfl rfl hf (fun c119 hf => ?_)
    refine j_isub hX dX10_books_120 ?_
    refine j_iconst hX 1 dX10_books_121 (by decide) ?_
    refine j_iadd hX dX10_books_122 ?_
    refine j_iadd hX dX10_books_123 ?_
    refine j_iast hX (wM t ad o (upd (upd (upd (upd (upd (upd m_m (u5).toNatClampNeg a1) (u5 + 1).toNatClampNeg ((upd m_m (u5).toNatClampNeg a1) (u1 + 1).toNatClampNeg)) (u5 + 2).toNatClampNeg ((upd (upd m_m (u5).toNatClampNeg a1) (u5 + 1).toNatClampNeg ((upd m_m (u5).toNatClampNeg a1) (u1 + 1).toNatClampNeg)) (u1 + 4).toNatClampNeg)) (u5 + 3).toNatClampNeg ((upd (upd (upd m_m (u5).toNatClampNeg a1) (u5 + 1).toNatClampNeg ((upd m_m (u5).toNatClampNeg a1) (u1 + 1).toNatClampNeg)) (u5 + 2).toNatClampNeg ((upd (upd m_m (u5).toNatClampNeg a1) (u5 + 1).toNatClampNeg ((upd m_m (u5).toNatClampNeg a1) (u1 + 1).toNatClampNeg)) (u1 + 4).toNatClampNeg)) (u1 + 5).toNatClampNeg)) (5 : Int32).toNatClampNeg (((upd (upd (upd (upd m_m (u5).toNatClampNeg a1) (u5 + 1).toNatClampNeg ((upd m_m (u5).toNatClampNeg a1) (u1 + 1).toNatClampNeg)) (u5 + 2).toNatClampNeg ((upd (upd m_m (u5).toNatClampNeg a1) (u5 + 1).toNatClampNeg ((upd m_m (u5).toNatClampNeg a1) (u1 + 1).toNatClampNeg)) (u1 + 4).toNatClampNeg)) (u5 + 3).toNatClampNeg ((upd (upd (upd m_m (u5).toNatClampNeg a1) (u5 + 1).toNatClampNeg ((upd m_m (u5).toNatClampNeg a1) (u1 + 1).toNatClampNeg)) (u5 + 2).toNatClampNeg ((upd (upd m_m (u5).toNatClampNeg a1) (u5 + 1).toNatClampNeg ((upd m_m (u5).toNatClampNeg a1) (u1 + 1).toNatClampNeg)) (u1 + 4).toNatClampNeg)) (u1 + 5).toNatClampNeg)) (5 : Int32).toNatClampNeg) + 1)) (2 : Int32).toNatClampNeg (((upd (upd (upd (upd (upd m_m (u5).toNatClampNeg a1) (u5 + 1).toNatClampNeg ((upd m_m (u5).toNatClampNeg a1) (u1 + 1).toNatClampNeg)) (u5 + 2).toNatClampNeg ((upd (upd m_m (u5).toNatClampNeg a1) (u5 + 1).toNatClampNeg ((upd m_m (u5).toNatClampNeg a1) (u1 + 1).toNatClampNeg)) (u1 + 4).toNatClampNeg)) (u5 + 3).toNatClampNeg ((upd (upd (upd m_m (u5).toNatClampNeg a1) (u5 + 1).toNatClampNeg ((upd m_m (u5).toNatClampNeg a1) (u1 + 1).toNatClampNeg)) (u5 + 2).toNatClampNeg ((upd (upd m_m (u5).toNatClampNeg a1) (u5 + 1).toNatClampNeg ((upd m_m (u5).toNatClampNeg a1) (u1 + 1).toNatClampNeg)) (u1 + 4).toNatClampNeg)) (u1 + 5).toNatClampNeg)) (5 : Int32).toNatClampNeg (((upd (upd (upd (upd m_m (u5).toNatClampNeg a1) (u5 + 1).toNatClampNeg ((upd m_m (u5).toNatClampNeg a1) (u1 + 1).toNatClampNeg)) (u5 + 2).toNatClampNeg ((upd (upd m_m (u5).toNatClampNeg a1) (u5 + 1).toNatClampNeg ((upd m_m (u5).toNatClampNeg a1) (u1 + 1).toNatClampNeg)) (u1 + 4).toNatClampNeg)) (u5 + 3).toNatClampNeg ((upd (upd (upd m_m (u5).toNatClampNeg a1) (u5 + 1).toNatClampNeg ((upd m_m (u5).toNatClampNeg a1) (u1 + 1).toNatClampNeg)) (u5 + 2).toNatClampNeg ((upd (upd m_m (u5).toNatClampNeg a1) (u5 + 1).toNatClampNeg ((upd m_m (u5).toNatClampNeg a1) (u1 + 1).toNatClampNeg)) (u1 + 4).toNatClampNeg)) (u1 + 5).toNatClampNeg)) (5 : Int32).toNatClampNeg) + 1)) (2 : Int32).toNatClampNeg) + ((((upd (upd (upd (upd (upd m_m (u5).toNatClampNeg a1) (u5 + 1).toNatClampNeg ((upd m_m (u5).toNatClampNeg a1) (u1 + 1).toNatClampNeg)) (u5 + 2).toNatClampNeg ((upd (upd m_m (u5).toNatClampNeg a1) (u5 + 1).toNatClampNeg ((upd m_m (u5).toNatClampNeg a1) (u1 + 1).toNatClampNeg)) (u1 + 4).toNatClampNeg)) (u5 + 3).toNatClampNeg ((upd (upd (upd m_m (u5).toNatClampNeg a1) (u5 + 1).toNatClampNeg ((upd m_m (u5).toNatClampNeg a1) (u1 + 1).toNatClampNeg)) (u5 + 2).toNatClampNeg ((upd (upd m_m (u5).toNatClampNeg a1) (u5 + 1).toNatClampNeg ((upd m_m (u5).toNatClampNeg a1) (u1 + 1).toNatClampNeg)) (u1 + 4).toNatClampNeg)) (u1 + 5).toNatClampNeg)) (5 : Int32).toNatClampNeg (((upd (upd (upd (upd m_m (u5).toNatClampNeg a1) (u5 + 1).toNatClampNeg ((upd m_m (u5).toNatClampNeg a1) (u1 + 1).toNatClampNeg)) (u5 + 2).toNatClampNeg ((upd (upd m_m (u5).toNatClampNeg a1) (u5 + 1).toNatClampNeg ((upd m_m (u5).toNatClampNeg a1) (u1 + 1).toNatClampNeg)) (u1 + 4).toNatClampNeg)) (u5 + 3).toNatClampNeg ((upd (upd (upd m_m (u5).toNatClampNeg a1) (u5 + 1).toNatClampNeg ((upd m_m (u5).toNatClampNeg a1) (u1 + 1).toNatClampNeg)) (u5 + 2).toNatClampNeg ((upd (upd m_m (u5).toNatClampNeg a1) (u5 + 1).toNatClampNeg ((upd m_m (u5).toNatClampNeg a1) (u1 + 1).toNatClampNeg)) (u1 + 4).toNatClampNeg)) (u1 + 5).toNatClampNeg)) (5 : Int32).toNatClampNeg) + 1)) (u1 + 5).toNatClampNeg) - ((upd (upd (upd (upd (upd m_m (u5).toNatClampNeg a1) (u5 + 1).toNatClampNeg ((upd m_m (u5).toNatClampNeg a1) (u1 + 1).toNatClampNeg)) (u5 + 2).toNatClampNeg ((upd (upd m_m (u5).toNatClampNeg a1) (u5 + 1).toNatClampNeg ((upd m_m (u5).toNatClampNeg a1) (u1 + 1).toNatClampNeg)) (u1 + 4).toNatClampNeg)) (u5 + 3).toNatClampNeg ((upd (upd (upd m_m (u5).toNatClampNeg a1) (u5 + 1).toNatClampNeg ((upd m_m (u5).toNatClampNeg a1) (u1 + 1).toNatClampNeg)) (u5 + 2).toNatClampNeg ((upd (upd m_m (u5).toNatClampNeg a1) (u5 + 1).toNatClampNeg ((upd m_m (u5).toNatClampNeg a1) (u1 + 1).toNatClampNeg)) (u1 + 4).toNatClampNeg)) (u1 + 5).toNatClampNeg)) (5 : Int32).toNatClampNeg (((upd (upd (upd (upd m_m (u5).toNatClampNeg a1) (u5 + 1).toNatClampNeg ((upd m_m (u5).toNatClampNeg a1) (u1 + 1).toNatClampNeg)) (u5 + 2).toNatClampNeg ((upd (upd m_m (u5).toNatClampNeg a1) (u5 + 1).toNatClampNeg ((upd m_m (u5).toNatClampNeg a1) (u1 + 1).toNatClampNeg)) (u1 + 4).toNatClampNeg)) (u5 + 3).toNatClampNeg ((upd (upd (upd m_m (u5).toNatClampNeg a1) (u5 + 1).toNatClampNeg ((upd m_m (u5).toNatClampNeg a1) (u1 + 1).toNatClampNeg)) (u5 + 2).toNatClampNeg ((upd (upd m_m (u5).toNatClampNeg a1) (u5 + 1).toNatClampNeg ((upd m_m (u5).toNatClampNeg a1) (u1 + 1).toNatClampNeg)) (u1 + 4).toNatClampNeg)) (u1 + 5).toNatClampNeg)) (5 : Int32).toNatClampNeg) + 1)) (u1 + 4).toNatClampNeg)) + 1))) m_aside m_saved m_isSaved m_past m_changes m_errorAt m_failed m_thrown m_input m_inputMany m_fitting m_given m_pairs m_line m_lineMany m_letters m_begins0 m_commands m_commandMany m_place0 m_size0 m_isWrong) dX10_books_124 1 0 rfl rfl rfl hf (fun c124 hf => ?_)
    refine j_aload_n hX dX10_books_125 rfl 2 rfl ?_
    refine j_iload_n hX dX10_books_126 rfl 3 rfl ?_
    obtain ⟨u7, h8, hf⟩ := jbind hf
    refine j_callV (st := []) hX (k_X10_dropsRequest (l := l) (D := D) (t := t) (ad := ad) (o := o) (upd (upd (upd (upd (upd (upd m_m (u5).toNatClampNeg a1) (u5 + 1).toNatClampNeg ((upd m_m (u5).toNatClampNeg a1) (u1 + 1).toNatClampNeg)) (u5 + 2).toNatClampNeg ((upd (upd m_m (u5).toNatClampNeg a1) (u5 + 1).toNatClampNeg ((upd m_m (u5).toNatClampNeg a1) (u1 + 1).toNatClampNeg)) (u1 + 4).toNatClampNeg)) (u5 + 3).toNatClampNeg ((upd (upd (upd m_m (u5).toNatClampNeg a1) (u5 + 1).toNatClampNeg ((upd m_m (u5).toNatClampNeg a1) (u1 + 1).toNatClampNeg)) (u5 + 2).toNatClampNeg ((upd (upd m_m (u5).toNatClampNeg a1) (u5 + 1).toNatClampNeg ((upd m_m (u5).toNatClampNeg a1) (u1 + 1).toNatClampNeg)) (u1 + 4).toNatClampNeg)) (u1 + 5).toNatClampNeg)) (5 : Int32).toNatClampNeg (((upd (upd (upd (upd m_m (u5).toNatClampNeg a1) (u5 + 1).toNatClampNeg ((upd m_m (u5).toNatClampNeg a1) (u1 + 1).toNatClampNeg)) (u5 + 2).toNatClampNeg ((upd (upd m_m (u5).toNatClampNeg a1) (u5 + 1).toNatClampNeg ((upd m_m (u5).toNatClampNeg a1) (u1 + 1).toNatClampNeg)) (u1 + 4).toNatClampNeg)) (u5 + 3).toNatClampNeg ((upd (upd (upd m_m (u5).toNatClampNeg a1) (u5 + 1).toNatClampNeg ((upd m_m (u5).toNatClampNeg a1) (u1 + 1).toNatClampNeg)) (u5 + 2).toNatClampNeg ((upd (upd m_m (u5).toNatClampNeg a1) (u5 + 1).toNatClampNeg ((upd m_m (u5).toNatClampNeg a1) (u1 + 1).toNatClampNeg)) (u1 + 4).toNatClampNeg)) (u1 + 5).toNatClampNeg)) (5 : Int32).toNatClampNeg) + 1)) (2 : Int32).toNatClampNeg (((upd (upd (upd (upd (upd m_m (u5).toNatClampNeg a1) (u5 + 1).toNatClampNeg ((upd m_m (u5).toNatClampNeg a1) (u1 + 1).toNatClampNeg)) (u5 + 2).toNatClampNeg ((upd (upd m_m (u5).toNatClampNeg a1) (u5 + 1).toNatClampNeg ((upd m_m (u5).toNatClampNeg a1) (u1 + 1).toNatClampNeg)) (u1 + 4).toNatClampNeg)) (u5 + 3).toNatClampNeg ((upd (upd (upd m_m (u5).toNatClampNeg a1) (u5 + 1).toNatClampNeg ((upd m_m (u5).toNatClampNeg a1) (u1 + 1).toNatClampNeg)) (u5 + 2).toNatClampNeg ((upd (upd m_m (u5).toNatClampNeg a1) (u5 + 1).toNatClampNeg ((upd m_m (u5).toNatClampNeg a1) (u1 + 1).toNatClampNeg)) (u1 + 4).toNatClampNeg)) (u1 + 5).toNatClampNeg)) (5 : Int32).toNatClampNeg (((upd (upd (upd (upd m_m (u5).toNatClampNeg a1) (u5 + 1).toNatClampNeg ((upd m_m (u5).toNatClampNeg a1) (u1 + 1).toNatClampNeg)) (u5 + 2).toNatClampNeg ((upd (upd m_m (u5).toNatClampNeg a1) (u5 + 1).toNatClampNeg ((upd m_m (u5).toNatClampNeg a1) (u1 + 1).toNatClampNeg)) (u1 + 4).toNatClampNeg)) (u5 + 3).toNatClampNeg ((upd (upd (upd m_m (u5).toNatClampNeg a1) (u5 + 1).toNatClampNeg ((upd m_m (u5).toNatClampNeg a1) (u1 + 1).toNatClampNeg)) (u5 + 2).toNatClampNeg ((upd (upd m_m (u5).toNatClampNeg a1) (u5 + 1).toNatClampNeg ((upd m_m (u5).toNatClampNeg a1) (u1 + 1).toNatClampNeg)) (u1 + 4).toNatClampNeg)) (u1 + 5).toNatClampNeg)) (5 : Int32).toNatClampNeg) + 1)) (2 : Int32).toNatClampNeg) + ((((upd (upd (upd (upd (upd m_m (u5).toNatClampNeg a1) (u5 + 1).toNatClampNeg ((upd m_m (u5).toNatClampNeg a1) (u1 + 1).toNatClampNeg)) (u5 + 2).toNatClampNeg ((upd (upd m_m (u5).toNatClampNeg a1) (u5 + 1).toNatClampNeg ((upd m_m (u5).toNatClampNeg a1) (u1 + 1).toNatClampNeg)) (u1 + 4).toNatClampNeg)) (u5 + 3).toNatClampNeg ((upd (upd (upd m_m (u5).toNatClampNeg a1) (u5 + 1).toNatClampNeg ((upd m_m (u5).toNatClampNeg a1) (u1 + 1).toNatClampNeg)) (u5 + 2).toNatClampNeg ((upd (upd m_m (u5).toNatClampNeg a1) (u5 + 1).toNatClampNeg ((upd m_m (u5).toNatClampNeg a1) (u1 + 1).toNatClampNeg)) (u1 + 4).toNatClampNeg)) (u1 + 5).toNatClampNeg)) (5 : Int32).toNatClampNeg (((upd (upd (upd (upd m_m (u5).toNatClampNeg a1) (u5 + 1).toNatClampNeg ((upd m_m (u5).toNatClampNeg a1) (u1 + 1).toNatClampNeg)) (u5 + 2).toNatClampNeg ((upd (upd m_m (u5).toNatClampNeg a1) (u5 + 1).toNatClampNeg ((upd m_m (u5).toNatClampNeg a1) (u1 + 1).toNatClampNeg)) (u1 + 4).toNatClampNeg)) (u5 + 3).toNatClampNeg ((upd (upd (upd m_m (u5).toNatClampNeg a1) (u5 + 1).toNatClampNeg ((upd m_m (u5).toNatClampNeg a1) (u1 + 1).toNatClampNeg)) (u5 + 2).toNatClampNeg ((upd (upd m_m (u5).toNatClampNeg a1) (u5 + 1).toNatClampNeg ((upd m_m (u5).toNatClampNeg a1) (u1 + 1).toNatClampNeg)) (u1 + 4).toNatClampNeg)) (u1 + 5).toNatClampNeg)) (5 : Int32).toNatClampNeg) + 1)) (u1 + 5).toNatClampNeg) - ((upd (upd (upd (upd (upd m_m (u5).toNatClampNeg a1) (u5 + 1).toNatClampNeg ((upd m_m (u5).toNatClampNeg a1) (u1 + 1).toNatClampNeg)) (u5 + 2).toNatClampNeg ((upd (upd m_m (u5).toNatClampNeg a1) (u5 + 1).toNatClampNeg ((upd m_m (u5).toNatClampNeg a1) (u1 + 1).toNatClampNeg)) (u1 + 4).toNatClampNeg)) (u5 + 3).toNatClampNeg ((upd (upd (upd m_m (u5).toNatClampNeg a1) (u5 + 1).toNatClampNeg ((upd m_m (u5).toNatClampNeg a1) (u1 + 1).toNatClampNeg)) (u5 + 2).toNatClampNeg ((upd (upd m_m (u5).toNatClampNeg a1) (u5 + 1).toNatClampNeg ((upd m_m (u5).toNatClampNeg a1) (u1 + 1).toNatClampNeg)) (u1 + 4).toNatClampNeg)) (u1 + 5).toNatClampNeg)) (5 : Int32).toNatClampNeg (((upd (upd (upd (upd m_m (u5).toNatClampNeg a1) (u5 + 1).toNatClampNeg ((upd m_m (u5).toNatClampNeg a1) (u1 + 1).toNatClampNeg)) (u5 + 2).toNatClampNeg ((upd (upd m_m (u5).toNatClampNeg a1) (u5 + 1).toNatClampNeg ((upd m_m (u5).toNatClampNeg a1) (u1 + 1).toNatClampNeg)) (u1 + 4).toNatClampNeg)) (u5 + 3).toNatClampNeg ((upd (upd (upd m_m (u5).toNatClampNeg a1) (u5 + 1).toNatClampNeg ((upd m_m (u5).toNatClampNeg a1) (u1 + 1).toNatClampNeg)) (u5 + 2).toNatClampNeg ((upd (upd m_m (u5).toNatClampNeg a1) (u5 + 1).toNatClampNeg ((upd m_m (u5).toNatClampNeg a1) (u1 + 1).toNatClampNeg)) (u1 + 4).toNatClampNeg)) (u1 + 5).toNatClampNeg)) (5 : Int32).toNatClampNeg) + 1)) (u1 + 4).toNatClampNeg)) + 1))) m_aside m_saved m_isSaved m_past m_changes m_errorAt m_failed m_thrown m_input m_inputMany m_fitting m_given m_pairs m_line m_lineMany m_letters m_begins0 m_commands m_commandMany m_place0 m_size0 m_isWrong a0 u7 h8) q1567 q1568 q1964 q15 q1569 (n9 := 1) rfl ⟨by decide +kernel, by decide +kernel⟩ 0 rfl rfl rfl dX10_books_127 (Nat.le_of_ble_eq_true rfl) ⟨Nat.le_refl _, Nat.le_refl _⟩ (fun w : va_W => w) jFr_id rfl rfl (fun v w hvw => ?_)
    obtain ⟨rfl, rfl⟩ := hvw
    change J X 0 0 (wM t ad o u7 m_aside m_saved m_isSaved m_past m_changes m_errorAt m_failed m_thrown m_input m_inputMany m_fitting m_given m_pairs m_line m_lineMany m_letters m_begins0 m_commands m_commandMany m_place0 m_size0 m_isWrong) 130 [(4, .int u5), (3, .int u1), (0, .ref (ad o)), (1, .int a0), (2, .int a1)] []
    cases hf
    exact j_vret hX hE dX10_books_130 (Nat.le_refl _) (Nat.le_refl _) ⟨rfl, rfl⟩
-- HammerDepotModel worksFitting ()V
def f_X10_worksFitting_L21 (m_m : Nat → Int32) (x1 : Int32) : Nat → Int32 → (Nat → Int32) → Option (Int32 × (Nat → Int32))
  | 0, _, _ => none
  | jn + 1, x2, m_fitting =>
    if jin 0 2048 = true then
      if (m_m (0 : Int32).toNatClampNeg) ≤ x2 then
        some (x2, m_fitting)
      else
        if jin x1 8 = true then
          Option.bind (f_X10_may m_m x1 x2) (fun u1 =>
            if u1 = 0 then
              if jin x1 8 = true then
                f_X10_worksFitting_L21 m_m x1 jn (x2 + 1) (upd m_fitting (x1).toNatClampNeg ((m_fitting (x1).toNatClampNeg) ||| 0))
              else none
            else
              if jin x1 8 = true then
                f_X10_worksFitting_L21 m_m x1 jn (x2 + 1) (upd m_fitting (x1).toNatClampNeg ((m_fitting (x1).toNatClampNeg) ||| ((1 : Int32) <<< (x2 &&& 31))))
              else none)
        else none
    else none
def f_X10_worksFitting_L2 (m_m : Nat → Int32) : Nat → Int32 → (Nat → Int32) → Option (Int32 × (Nat → Int32))
  | 0, _, _ => none
  | jn + 1, x1, m_fitting =>
    if jin 4 2048 = true then
      if (m_m (4 : Int32).toNatClampNeg) ≤ x1 then
        some (x1, m_fitting)
      else
        if jin x1 8 = true then
          Option.bind (f_X10_worksFitting_L21 m_m x1 jFU 0 (upd m_fitting (x1).toNatClampNeg 0)) (fun s4 =>
            f_X10_worksFitting_L2 m_m jn (x1 + 1) s4.2)
        else none
    else none
def f_X10_worksFitting (m_m : Nat → Int32) (m_fitting : Nat → Int32) : Option ((Nat → Int32)) :=
  Option.bind (f_X10_worksFitting_L2 m_m jFU 0 m_fitting) (fun s7 =>
    some s7.2)
set_option maxHeartbeats 4000000 in
set_option maxRecDepth 100000 in
theorem k_X10_worksFitting_L21 {l : Launch} {D : va_G} {t : Nat → ClassId} {ad : Nat → Nat} {o : Nat} (m_m : Nat → Int32) (x1 : Int32) (m_aside : Nat → Int32) (m_saved : Nat → Int32) (m_isSaved : Int32) (m_past : Nat → Int32) (m_changes : Int32) (m_errorAt : Int32) (m_failed : Int32) (m_thrown : Int32) (m_input : Nat → Int32) (m_inputMany : Int32) (m_given : Nat → Int32) (m_pairs : Nat → Int32) (m_line : Nat → Int32) (m_lineMany : Int32) (m_letters : Nat → Int32) (m_begins0 : Nat → Int32) (m_commands : Nat → Int32) (m_commandMany : Int32) (m_place0 : Int32) (m_size0 : Int32) (m_isWrong : Int32) {X : jX} (hX : jOK X l D (jT t) cX10_worksFitting RX10 none { frames := 3, cells := 0, slots := 0, locals := 72 } 3) :
    ∀ (jn : Nat) (x2 : Int32) (m_fitting : Nat → Int32) (u : Int32 × (Nat → Int32)) (hf : f_X10_worksFitting_L21 m_m x1 jn x2 m_fitting = some u) (kx : ∀ s : Int32 × (Nat → Int32), u = s → J X 0 0 (wM t ad o m_m m_aside m_saved m_isSaved m_past m_changes m_errorAt m_failed m_thrown m_input m_inputMany s.2 m_given m_pairs m_line m_lineMany m_letters m_begins0 m_commands m_commandMany m_place0 m_size0 m_isWrong) 62 [(2, .int s.1), (1, .int x1), (0, .ref (ad o))] []), J X 0 0 (wM t ad o m_m m_aside m_saved m_isSaved m_past m_changes m_errorAt m_failed m_thrown m_input m_inputMany m_fitting m_given m_pairs m_line m_lineMany m_letters m_begins0 m_commands m_commandMany m_place0 m_size0 m_isWrong) 21 [(2, .int x2), (1, .int x1), (0, .ref (ad o))] [] := by
  intro jn
  induction jn with
  | zero => intro x2 m_fitting u hf; cases (show (none : Option (Int32 × (Nat → Int32))) = some u from hf)
  | succ jn ih =>
    intro x2 m_fitting u hf kx
    unfold f_X10_worksFitting_L21 at hf
    refine j_iload_n hX dX10_worksFitting_21 rfl 0 rfl ?_
    refine j_aload_n hX dX10_worksFitting_22 rfl 2 rfl ?_
    refine j_get hX dX10_worksFitting_23 inX10 0 q1455 0 rfl rfl (by decide) rfl rfl ?_
    refine j_iconst hX 0 dX10_worksFitting_26 (by decide) ?_
    refine j_iald hX dX10_worksFitting_27 1 0 rfl rfl hf (fun c27 hf => ?_)
    refine j_icmp_ge hX 62 dX10_worksFitting_28 (by decide) hf (fun c28 hf => ?_) (fun c28 hf => ?_)
    · cases hf
      exact kx _ rfl
    · refine j_aload_n hX dX10_worksFitting_31 rfl 2 rfl ?_
      refine j_get hX dX10_worksFitting_32 inX10 11 q1466 0 rfl rfl (by decide) rfl rfl ?_
      refine j_iload_n hX dX10_worksFitting_35 rfl 1 rfl ?_
      refine j_dup2 hX dX10_worksFitting_36 rfl rfl ?_
      refine j_iald hX dX10_worksFitting_37 6 0 rfl rfl hf (fun c37 hf => ?_)
      refine j_aload_n hX dX10_worksFitting_38 rfl 2 rfl ?_
      refine j_iload_n hX dX10_worksFitting_39 rfl 1 rfl ?_
      refine j_iload_n hX dX10_worksFitting_40 rfl 0 rfl ?_
      obtain ⟨u1, h2, hf⟩ := jbind hf
      refine j_callV (st := [.int (m_fitting (x1).toNatClampNeg), .int x1, .ref (ad (o + 6))]) hX (k_X10_may (l := l) (D := D) (t := t) (ad := ad) (o := o) m_m m_aside m_saved m_isSaved m_past m_changes m_errorAt m_failed m_thrown m_input m_inputMany m_fitting m_given m_pairs m_line m_lineMany m_letters m_begins0 m_commands m_commandMany m_place0 m_size0 m_isWrong x1 x2 u1 h2) q1580 q1581 q1967 q15 q1582 (n9 := 2) rfl ⟨by decide +kernel, by decide +kernel⟩ 0 rfl rfl rfl dX10_worksFitting_41 (Nat.le_of_ble_eq_true rfl) ⟨Nat.le_refl _, Nat.le_refl _⟩ (fun w : va_W => w) jFr_id rfl rfl (fun v w hvw => ?_)
      obtain ⟨rfl, rfl⟩ := hvw
      change J X 0 0 (wM t ad o m_m m_aside m_saved m_isSaved m_past m_changes m_errorAt m_failed m_thrown m_input m_inputMany m_fitting m_given m_pairs m_line m_lineMany m_letters m_begins0 m_commands m_commandMany m_place0 m_size0 m_isWrong) 44 [(2, .int x2), (1, .int x1), (0, .ref (ad o))] [.int u1, .int (m_fitting (x1).toNatClampNeg), .int x1, .ref (ad (o + 6))]
      refine j_if_eq hX 53 dX10_worksFitting_44 (by decide) hf (fun c44 hf => ?_) (fun c44 hf => ?_)
      · refine j_iconst hX 0 dX10_worksFitting_53 (by decide) ?_
        refine j_ior hX dX10_worksFitting_54 ?_
        refine j_iast hX (wM t ad o m_m m_aside m_saved m_isSaved m_past m_changes m_errorAt m_failed m_thrown m_input m_inputMany (upd m_fitting (x1).toNatClampNeg ((m_fitting (x1).toNatClampNeg) ||| 0)) m_given m_pairs m_line m_lineMany m_letters m_begins0 m_commands m_commandMany m_place0 m_size0 m_isWrong) dX10_worksFitting_55 6 0 rfl rfl rfl hf (fun c55 hf => ?_)
        refine j_iinc hX (x2 + 1) [(2, .int (x2 + 1)), (1, .int x1), (0, .ref (ad o))] dX10_worksFitting_56 0 rfl rfl (by decide) rfl ?_
        refine j_goto hX 21 dX10_worksFitting_59 (by decide) ?_
        exact ih (x2 + 1) (upd m_fitting (x1).toNatClampNeg ((m_fitting (x1).toNatClampNeg) ||| 0)) u hf kx
      · refine j_iconst hX 1 dX10_worksFitting_47 (by decide) ?_
        refine j_iload_n hX dX10_worksFitting_48 rfl 0 rfl ?_
        refine j_ishl hX dX10_worksFitting_49 ?_
        refine j_goto hX 54 dX10_worksFitting_50 (by decide) ?_
        refine j_ior hX dX10_worksFitting_54 ?_
        refine j_iast hX (wM t ad o m_m m_aside m_saved m_isSaved m_past m_changes m_errorAt m_failed m_thrown m_input m_inputMany (upd m_fitting (x1).toNatClampNeg ((m_fitting (x1).toNatClampNeg) ||| ((1 : Int32) <<< (x2 &&& 31)))) m_given m_pairs m_line m_lineMany m_letters m_begins0 m_commands m_commandMany m_place0 m_size0 m_isWrong) dX10_worksFitting_55 6 0 rfl rfl rfl hf (fun c55 hf => ?_)
        refine j_iinc hX (x2 + 1) [(2, .int (x2 + 1)), (1, .int x1), (0, .ref (ad o))] dX10_worksFitting_56 0 rfl rfl (by decide) rfl ?_
        refine j_goto hX 21 dX10_worksFitting_59 (by decide) ?_
        exact ih (x2 + 1) (upd m_fitting (x1).toNatClampNeg ((m_fitting (x1).toNatClampNeg) ||| ((1 : Int32) <<< (x2 &&& 31)))) u hf kx
set_option maxHeartbeats 4000000 in
set_option maxRecDepth 100000 in
theorem k_X10_worksFitting_L2 {l : Launch} {D : va_G} {t : Nat → ClassId} {ad : Nat → Nat} {o : Nat} (m_m : Nat → Int32) (m_aside : Nat → Int32) (m_saved : Nat → Int32) (m_isSaved : Int32) (m_past : Nat → Int32) (m_changes : Int32) (m_errorAt : Int32) (m_failed : Int32) (m_thrown : Int32) (m_input : Nat → Int32) (m_inputMany : Int32) (m_given : Nat → Int32) (m_pairs : Nat → Int32) (m_line : Nat → Int32) (m_lineMany : Int32) (m_letters : Nat → Int32) (m_begins0 : Nat → Int32) (m_commands : Nat → Int32) (m_commandMany : Int32) (m_place0 : Int32) (m_size0 : Int32) (m_isWrong : Int32) {X : jX} (hX : jOK X l D (jT t) cX10_worksFitting RX10 none { frames := 3, cells := 0, slots := 0, locals := 72 } 3) :
    ∀ (jn : Nat) (x1 : Int32) (m_fitting : Nat → Int32) (u : Int32 × (Nat → Int32)) (hf : f_X10_worksFitting_L2 m_m jn x1 m_fitting = some u) (kx : ∀ s : Int32 × (Nat → Int32), u = s → J X 0 0 (wM t ad o m_m m_aside m_saved m_isSaved m_past m_changes m_errorAt m_failed m_thrown m_input m_inputMany s.2 m_given m_pairs m_line m_lineMany m_letters m_begins0 m_commands m_commandMany m_place0 m_size0 m_isWrong) 68 [(1, .int s.1), (0, .ref (ad o))] []), J X 0 0 (wM t ad o m_m m_aside m_saved m_isSaved m_past m_changes m_errorAt m_failed m_thrown m_input m_inputMany m_fitting m_given m_pairs m_line m_lineMany m_letters m_begins0 m_commands m_commandMany m_place0 m_size0 m_isWrong) 2 [(1, .int x1), (0, .ref (ad o))] [] := by
  intro jn
  induction jn with
  | zero => intro x1 m_fitting u hf; cases (show (none : Option (Int32 × (Nat → Int32))) = some u from hf)
  | succ jn ih =>
    intro x1 m_fitting u hf kx
    unfold f_X10_worksFitting_L2 at hf
    refine j_iload_n hX dX10_worksFitting_2 rfl 0 rfl ?_
    refine j_aload_n hX dX10_worksFitting_3 rfl 1 rfl ?_
    refine j_get hX dX10_worksFitting_4 inX10 0 q1455 0 rfl rfl (by decide) rfl rfl ?_
    refine j_iconst hX 4 dX10_worksFitting_7 (by decide) ?_
    refine j_iald hX dX10_worksFitting_8 1 0 rfl rfl hf (fun c8 hf => ?_)
    refine j_icmp_ge hX 68 dX10_worksFitting_9 (by decide) hf (fun c9 hf => ?_) (fun c9 hf => ?_)
    · cases hf
      exact kx _ rfl
    · refine j_aload_n hX dX10_worksFitting_12 rfl 1 rfl ?_
      refine j_get hX dX10_worksFitting_13 inX10 11 q1466 0 rfl rfl (by decide) rfl rfl ?_
      refine j_iload_n hX dX10_worksFitting_16 rfl 0 rfl ?_
      refine j_iconst hX 0 dX10_worksFitting_17 (by decide) ?_
      refine j_iast hX (wM t ad o m_m m_aside m_saved m_isSaved m_past m_changes m_errorAt m_failed m_thrown m_input m_inputMany (upd m_fitting (x1).toNatClampNeg 0) m_given m_pairs m_line m_lineMany m_letters m_begins0 m_commands m_commandMany m_place0 m_size0 m_isWrong) dX10_worksFitting_18 6 0 rfl rfl rfl hf (fun c18 hf => ?_)
      refine j_iconst hX 0 dX10_worksFitting_19 (by decide) ?_
      refine j_istore_n hX [(2, .int 0), (1, .int x1), (0, .ref (ad o))] dX10_worksFitting_20 rfl (by decide) rfl ?_
      obtain ⟨s4, h5, hf⟩ := jbind hf
      refine k_X10_worksFitting_L21 (ad := ad) m_m x1 m_aside m_saved m_isSaved m_past m_changes m_errorAt m_failed m_thrown m_input m_inputMany m_given m_pairs m_line m_lineMany m_letters m_begins0 m_commands m_commandMany m_place0 m_size0 m_isWrong hX jFU 0 (upd m_fitting (x1).toNatClampNeg 0) s4 h5 (fun s40 es4 => ?_)
      subst es4
      refine j_iinc hX (x1 + 1) [(1, .int (x1 + 1)), (2, .int s4.1), (0, .ref (ad o))] dX10_worksFitting_62 1 rfl rfl (by decide) rfl ?_
      refine j_goto hX 2 dX10_worksFitting_65 (by decide) ?_
      refine j_sub hX [(1, .int (x1 + 1)), (0, .ref (ad o))] [0, 2] rfl ?_
      exact ih (x1 + 1) s4.2 u hf kx
set_option maxHeartbeats 4000000 in
set_option maxRecDepth 100000 in
theorem k_X10_worksFitting {l : Launch} {D : va_G} {t : Nat → ClassId} {ad : Nat → Nat} {o : Nat} (m_m : Nat → Int32) (m_aside : Nat → Int32) (m_saved : Nat → Int32) (m_isSaved : Int32) (m_past : Nat → Int32) (m_changes : Int32) (m_errorAt : Int32) (m_failed : Int32) (m_thrown : Int32) (m_input : Nat → Int32) (m_inputMany : Int32) (m_fitting : Nat → Int32) (m_given : Nat → Int32) (m_pairs : Nat → Int32) (m_line : Nat → Int32) (m_lineMany : Int32) (m_letters : Nat → Int32) (m_begins0 : Nat → Int32) (m_commands : Nat → Int32) (m_commandMany : Int32) (m_place0 : Int32) (m_size0 : Int32) (m_isWrong : Int32)  (u : (Nat → Int32)) (hf : f_X10_worksFitting m_m m_fitting = some u) : cm l D (jT t) yX10_worksFitting cX10_worksFitting 3 none { frames := 3, cells := 0, slots := 0, locals := 72 } [.ref (ad o)] (wM t ad o m_m m_aside m_saved m_isSaved m_past m_changes m_errorAt m_failed m_thrown m_input m_inputMany m_fitting m_given m_pairs m_line m_lineMany m_letters m_begins0 m_commands m_commandMany m_place0 m_size0 m_isWrong) (fun v w => v = none ∧ w = wM t ad o m_m m_aside m_saved m_isSaved m_past m_changes m_errorAt m_failed m_thrown m_input m_inputMany u m_given m_pairs m_line m_lineMany m_letters m_begins0 m_commands m_commandMany m_place0 m_size0 m_isWrong) := by
  refine cm_of RX10 rfl (by decide +kernel) (Nat.le_of_ble_eq_true rfl) (fun X hX hE => ?_)
  change J X 0 0 (wM t ad o m_m m_aside m_saved m_isSaved m_past m_changes m_errorAt m_failed m_thrown m_input m_inputMany m_fitting m_given m_pairs m_line m_lineMany m_letters m_begins0 m_commands m_commandMany m_place0 m_size0 m_isWrong) 0 [(0, .ref (ad o))] []
  unfold f_X10_worksFitting at hf
  refine j_iconst hX 0 dX10_worksFitting_0 (by decide) ?_
  refine j_istore_n hX [(1, .int 0), (0, .ref (ad o))] dX10_worksFitting_1 rfl (by decide) rfl ?_
  obtain ⟨s7, h8, hf⟩ := jbind hf
  refine k_X10_worksFitting_L2 (ad := ad) m_m m_aside m_saved m_isSaved m_past m_changes m_errorAt m_failed m_thrown m_input m_inputMany m_given m_pairs m_line m_lineMany m_letters m_begins0 m_commands m_commandMany m_place0 m_size0 m_isWrong hX jFU 0 m_fitting s7 h8 (fun s70 es7 => ?_)
  subst es7
  cases hf
  exact j_vret hX hE dX10_worksFitting_68 (Nat.le_refl _) (Nat.le_refl _) ⟨rfl, rfl⟩
-- HammerDepotModel ones (I)I
def f_X10_ones_L4 (x0 : Int32) : Nat → Int32 → Int32 → Option (Int32 × Int32)
  | 0, _, _ => none
  | jn + 1, x2, x1 =>
    if 12 ≤ x2 then
      some (x2, x1)
    else
      f_X10_ones_L4 x0 jn (x2 + 1) (x1 + ((x0 >>> (x2 &&& 31)) &&& 1))
def f_X10_ones (a0 : Int32) : Option (Int32) :=
  Option.bind (f_X10_ones_L4 a0 jFU 0 0) (fun s2 =>
    some s2.2)
set_option maxHeartbeats 4000000 in
set_option maxRecDepth 100000 in
theorem k_X10_ones_L4 {l : Launch} {D : va_G} {t : Nat → ClassId} {ad : Nat → Nat} (x0 : Int32)  {X : jX} (hX : jOK X l D (jT t) cX10_ones RX10 (some FieldType.int) { frames := 0, cells := 0, slots := 0, locals := 0 } 3) :
    ∀ (jn : Nat) (x2 : Int32) (x1 : Int32) (u : Int32 × Int32) (hf : f_X10_ones_L4 x0 jn x2 x1 = some u) (kx : ∀ s : Int32 × Int32, u = s → J X 0 0 ([]) 24 [(2, .int s.1), (1, .int s.2), (0, .int x0)] []), J X 0 0 ([]) 4 [(2, .int x2), (1, .int x1), (0, .int x0)] [] := by
  intro jn
  induction jn with
  | zero => intro x2 x1 u hf; cases (show (none : Option (Int32 × Int32)) = some u from hf)
  | succ jn ih =>
    intro x2 x1 u hf kx
    unfold f_X10_ones_L4 at hf
    refine j_iload_n hX dX10_ones_4 rfl 0 rfl ?_
    refine j_bipush hX 12 dX10_ones_5 (by decide) ?_
    refine j_icmp_ge hX 24 dX10_ones_7 (by decide) hf (fun c7 hf => ?_) (fun c7 hf => ?_)
    · cases hf
      exact kx _ rfl
    · refine j_iload_n hX dX10_ones_10 rfl 1 rfl ?_
      refine j_iload_n hX dX10_ones_11 rfl 2 rfl ?_
      refine j_iload_n hX dX10_ones_12 rfl 0 rfl ?_
      refine j_ishr hX dX10_ones_13 ?_
      refine j_iconst hX 1 dX10_ones_14 (by decide) ?_
      refine j_iand hX dX10_ones_15 ?_
      refine j_iadd hX dX10_ones_16 ?_
      refine j_istore_n hX [(1, .int (x1 + ((x0 >>> (x2 &&& 31)) &&& 1))), (2, .int x2), (0, .int x0)] dX10_ones_17 rfl (by decide) rfl ?_
      refine j_iinc hX (x2 + 1) [(2, .int (x2 + 1)), (1, .int (x1 + ((x0 >>> (x2 &&& 31)) &&& 1))), (0, .int x0)] dX10_ones_18 1 rfl rfl (by decide) rfl ?_
      refine j_goto hX 4 dX10_ones_21 (by decide) ?_
      exact ih (x2 + 1) (x1 + ((x0 >>> (x2 &&& 31)) &&& 1)) u hf kx
set_option maxHeartbeats 4000000 in
set_option maxRecDepth 100000 in
theorem k_X10_ones {l : Launch} {D : va_G} {t : Nat → ClassId} {ad : Nat → Nat}  (a0 : Int32) (u : Int32) (hf : f_X10_ones a0 = some u) : cm l D (jT t) yX10_ones cX10_ones 3 (some FieldType.int) { frames := 0, cells := 0, slots := 0, locals := 0 } [.int a0] ([]) (fun v w => v = (some (.int u)) ∧ w = []) := by
  refine cm_of RX10 rfl (by decide +kernel) (Nat.le_of_ble_eq_true rfl) (fun X hX hE => ?_)
  change J X 0 0 ([]) 0 [(0, .int a0)] []
  unfold f_X10_ones at hf
  refine j_iconst hX 0 dX10_ones_0 (by decide) ?_
  refine j_istore_n hX [(1, .int 0), (0, .int a0)] dX10_ones_1 rfl (by decide) rfl ?_
  refine j_iconst hX 0 dX10_ones_2 (by decide) ?_
  refine j_istore_n hX [(2, .int 0), (1, .int 0), (0, .int a0)] dX10_ones_3 rfl (by decide) rfl ?_
  obtain ⟨s2, h3, hf⟩ := jbind hf
  refine k_X10_ones_L4 (ad := ad) a0  hX jFU 0 0 s2 h3 (fun s20 es2 => ?_)
  subst es2
  refine j_iload_n hX dX10_ones_24 rfl 1 rfl ?_
  cases hf
  exact j_iret hX hE dX10_ones_25 (Nat.le_refl _) (Nat.le_refl _) ⟨rfl, rfl⟩
-- HammerDepotModel most (II)I
def f_X10_most_L34 (m_m : Nat → Int32) (m_fitting : Nat → Int32) (x4 : Int32) : Nat → Int32 → Int32 → Option (Int32 × Int32)
  | 0, _, _ => none
  | jn + 1, x6, x5 =>
    if jin 4 2048 = true then
      if (m_m (4 : Int32).toNatClampNeg) ≤ x6 then
        some (x6, x5)
      else
        if ((x4 >>> (x6 &&& 31)) &&& 1) = 1 then
          if jin x6 8 = true then
            f_X10_most_L34 m_m m_fitting x4 jn (x6 + 1) (x5 ||| (m_fitting (x6).toNatClampNeg))
          else none
        else
          f_X10_most_L34 m_m m_fitting x4 jn (x6 + 1) (x5 ||| 0)
    else none
def f_X10_most_L6 (m_m : Nat → Int32) (m_fitting : Nat → Int32) (x1 : Int32) (x2 : Int32) : Nat → Int32 → Int32 → Option (Int32 × Int32)
  | 0, _, _ => none
  | jn + 1, x4, x3 =>
    if jin 4 2048 = true then
      if ((1 : Int32) <<< ((m_m (4 : Int32).toNatClampNeg) &&& 31)) ≤ x4 then
        some (x4, x3)
      else
        if (x4 &&& (x1 ^^^ (-1))) = 0 then
          Option.bind (f_X10_most_L34 m_m m_fitting x4 jFU 0 0) (fun s2 =>
            Option.bind (f_X10_ones (x1 &&& (x4 ^^^ (-1)))) (fun u4 =>
              Option.bind (f_X10_ones (s2.2 &&& x2)) (fun u6 =>
                f_X10_most_L6 m_m m_fitting x1 x2 jn (x4 + 1) (jmin x3 (u4 + u6)))))
        else
          f_X10_most_L6 m_m m_fitting x1 x2 jn (x4 + 1) x3
    else none
def f_X10_most (m_m : Nat → Int32) (m_fitting : Nat → Int32) (a0 : Int32) (a1 : Int32) : Option (Int32) :=
  Option.bind (f_X10_most_L6 m_m m_fitting a0 a1 jFU 0 8) (fun s9 =>
    some s9.2)
set_option maxHeartbeats 4000000 in
set_option maxRecDepth 100000 in
theorem k_X10_most_L34 {l : Launch} {D : va_G} {t : Nat → ClassId} {ad : Nat → Nat} {o : Nat} (m_m : Nat → Int32) (m_fitting : Nat → Int32) (x4 : Int32) (m_aside : Nat → Int32) (m_saved : Nat → Int32) (m_isSaved : Int32) (m_past : Nat → Int32) (m_changes : Int32) (m_errorAt : Int32) (m_failed : Int32) (m_thrown : Int32) (m_input : Nat → Int32) (m_inputMany : Int32) (m_given : Nat → Int32) (m_pairs : Nat → Int32) (m_line : Nat → Int32) (m_lineMany : Int32) (m_letters : Nat → Int32) (m_begins0 : Nat → Int32) (m_commands : Nat → Int32) (m_commandMany : Int32) (m_place0 : Int32) (m_size0 : Int32) (m_isWrong : Int32) (x3 : Int32) (x1 : Int32) (x2 : Int32) {X : jX} (hX : jOK X l D (jT t) cX10_most RX10 (some FieldType.int) { frames := 1, cells := 0, slots := 0, locals := 29 } 7) :
    ∀ (jn : Nat) (x6 : Int32) (x5 : Int32) (u : Int32 × Int32) (hf : f_X10_most_L34 m_m m_fitting x4 jn x6 x5 = some u) (kx : ∀ s : Int32 × Int32, u = s → J X 0 0 (wM t ad o m_m m_aside m_saved m_isSaved m_past m_changes m_errorAt m_failed m_thrown m_input m_inputMany m_fitting m_given m_pairs m_line m_lineMany m_letters m_begins0 m_commands m_commandMany m_place0 m_size0 m_isWrong) 78 [(6, .int s.1), (5, .int s.2), (4, .int x4), (3, .int x3), (0, .ref (ad o)), (1, .int x1), (2, .int x2)] []), J X 0 0 (wM t ad o m_m m_aside m_saved m_isSaved m_past m_changes m_errorAt m_failed m_thrown m_input m_inputMany m_fitting m_given m_pairs m_line m_lineMany m_letters m_begins0 m_commands m_commandMany m_place0 m_size0 m_isWrong) 34 [(6, .int x6), (5, .int x5), (4, .int x4), (3, .int x3), (0, .ref (ad o)), (1, .int x1), (2, .int x2)] [] := by
  intro jn
  induction jn with
  | zero => intro x6 x5 u hf; cases (show (none : Option (Int32 × Int32)) = some u from hf)
  | succ jn ih =>
    intro x6 x5 u hf kx
    unfold f_X10_most_L34 at hf
    refine j_iload hX dX10_most_34 0 rfl ?_
    refine j_aload_n hX dX10_most_36 rfl 4 rfl ?_
    refine j_get hX dX10_most_37 inX10 0 q1455 0 rfl rfl (by decide) rfl rfl ?_
    refine j_iconst hX 4 dX10_most_40 (by decide) ?_
    refine j_iald hX dX10_most_41 1 0 rfl rfl hf (fun c41 hf => ?_)
    refine j_icmp_ge hX 78 dX10_most_42 (by decide) hf (fun c42 hf => ?_) (fun c42 hf => ?_)
    · cases hf
      exact kx _ rfl
    · refine j_iload hX dX10_most_45 1 rfl ?_
      refine j_iload hX dX10_most_47 2 rfl ?_
      refine j_iload hX dX10_most_49 0 rfl ?_
      refine j_ishr hX dX10_most_51 ?_
      refine j_iconst hX 1 dX10_most_52 (by decide) ?_
      refine j_iand hX dX10_most_53 ?_
      refine j_iconst hX 1 dX10_most_54 (by decide) ?_
      refine j_icmp_ne hX 68 dX10_most_55 (by decide) hf (fun c55 hf => ?_) (fun c55 hf => ?_)
      · refine j_iconst hX 0 dX10_most_68 (by decide) ?_
        refine j_ior hX dX10_most_69 ?_
        refine j_istore hX [(5, .int (x5 ||| 0)), (6, .int x6), (4, .int x4), (3, .int x3), (0, .ref (ad o)), (1, .int x1), (2, .int x2)] dX10_most_70 (by decide) rfl ?_
        refine j_iinc hX (x6 + 1) [(6, .int (x6 + 1)), (5, .int (x5 ||| 0)), (4, .int x4), (3, .int x3), (0, .ref (ad o)), (1, .int x1), (2, .int x2)] dX10_most_72 1 rfl rfl (by decide) rfl ?_
        refine j_goto hX 34 dX10_most_75 (by decide) ?_
        exact ih (x6 + 1) (x5 ||| 0) u hf kx
      · refine j_aload_n hX dX10_most_58 rfl 4 rfl ?_
        refine j_get hX dX10_most_59 inX10 11 q1466 0 rfl rfl (by decide) rfl rfl ?_
        refine j_iload hX dX10_most_62 0 rfl ?_
        refine j_iald hX dX10_most_64 6 0 rfl rfl hf (fun c64 hf => ?_)
        refine j_goto hX 69 dX10_most_65 (by decide) ?_
        refine j_ior hX dX10_most_69 ?_
        refine j_istore hX [(5, .int (x5 ||| (m_fitting (x6).toNatClampNeg))), (6, .int x6), (4, .int x4), (3, .int x3), (0, .ref (ad o)), (1, .int x1), (2, .int x2)] dX10_most_70 (by decide) rfl ?_
        refine j_iinc hX (x6 + 1) [(6, .int (x6 + 1)), (5, .int (x5 ||| (m_fitting (x6).toNatClampNeg))), (4, .int x4), (3, .int x3), (0, .ref (ad o)), (1, .int x1), (2, .int x2)] dX10_most_72 1 rfl rfl (by decide) rfl ?_
        refine j_goto hX 34 dX10_most_75 (by decide) ?_
        exact ih (x6 + 1) (x5 ||| (m_fitting (x6).toNatClampNeg)) u hf kx
set_option maxHeartbeats 4000000 in
set_option maxRecDepth 100000 in
theorem k_X10_most_L6 {l : Launch} {D : va_G} {t : Nat → ClassId} {ad : Nat → Nat} {o : Nat} (m_m : Nat → Int32) (m_fitting : Nat → Int32) (x1 : Int32) (x2 : Int32) (m_aside : Nat → Int32) (m_saved : Nat → Int32) (m_isSaved : Int32) (m_past : Nat → Int32) (m_changes : Int32) (m_errorAt : Int32) (m_failed : Int32) (m_thrown : Int32) (m_input : Nat → Int32) (m_inputMany : Int32) (m_given : Nat → Int32) (m_pairs : Nat → Int32) (m_line : Nat → Int32) (m_lineMany : Int32) (m_letters : Nat → Int32) (m_begins0 : Nat → Int32) (m_commands : Nat → Int32) (m_commandMany : Int32) (m_place0 : Int32) (m_size0 : Int32) (m_isWrong : Int32) {X : jX} (hX : jOK X l D (jT t) cX10_most RX10 (some FieldType.int) { frames := 1, cells := 0, slots := 0, locals := 29 } 7) :
    ∀ (jn : Nat) (x4 : Int32) (x3 : Int32) (u : Int32 × Int32) (hf : f_X10_most_L6 m_m m_fitting x1 x2 jn x4 x3 = some u) (kx : ∀ s : Int32 × Int32, u = s → J X 0 0 (wM t ad o m_m m_aside m_saved m_isSaved m_past m_changes m_errorAt m_failed m_thrown m_input m_inputMany m_fitting m_given m_pairs m_line m_lineMany m_letters m_begins0 m_commands m_commandMany m_place0 m_size0 m_isWrong) 106 [(4, .int s.1), (3, .int s.2), (0, .ref (ad o)), (1, .int x1), (2, .int x2)] []), J X 0 0 (wM t ad o m_m m_aside m_saved m_isSaved m_past m_changes m_errorAt m_failed m_thrown m_input m_inputMany m_fitting m_given m_pairs m_line m_lineMany m_letters m_begins0 m_commands m_commandMany m_place0 m_size0 m_isWrong) 6 [(4, .int x4), (3, .int x3), (0, .ref (ad o)), (1, .int x1), (2, .int x2)] [] := by
  intro jn
  induction jn with
  | zero => intro x4 x3 u hf; cases (show (none : Option (Int32 × Int32)) = some u from hf)
  | succ jn ih =>
    intro x4 x3 u hf kx
    unfold f_X10_most_L6 at hf
    refine j_iload hX dX10_most_6 0 rfl ?_
    refine j_iconst hX 1 dX10_most_8 (by decide) ?_
    refine j_aload_n hX dX10_most_9 rfl 2 rfl ?_
    refine j_get hX dX10_most_10 inX10 0 q1455 0 rfl rfl (by decide) rfl rfl ?_
    refine j_iconst hX 4 dX10_most_13 (by decide) ?_
    refine j_iald hX dX10_most_14 1 0 rfl rfl hf (fun c14 hf => ?_)
    refine j_ishl hX dX10_most_15 ?_
    refine j_icmp_ge hX 106 dX10_most_16 (by decide) hf (fun c16 hf => ?_) (fun c16 hf => ?_)
    · cases hf
      exact kx _ rfl
    · refine j_iload hX dX10_most_19 0 rfl ?_
      refine j_iload_n hX dX10_most_21 rfl 3 rfl ?_
      refine j_iconst hX (-1) dX10_most_22 (by decide) ?_
      refine j_ixor hX dX10_most_23 ?_
      refine j_iand hX dX10_most_24 ?_
      refine j_if_ne hX 100 dX10_most_25 (by decide) hf (fun c25 hf => ?_) (fun c25 hf => ?_)
      · refine j_iinc hX (x4 + 1) [(4, .int (x4 + 1)), (3, .int x3), (0, .ref (ad o)), (1, .int x1), (2, .int x2)] dX10_most_100 0 rfl rfl (by decide) rfl ?_
        refine j_goto hX 6 dX10_most_103 (by decide) ?_
        exact ih (x4 + 1) x3 u hf kx
      · refine j_iconst hX 0 dX10_most_28 (by decide) ?_
        refine j_istore hX [(5, .int 0), (4, .int x4), (3, .int x3), (0, .ref (ad o)), (1, .int x1), (2, .int x2)] dX10_most_29 (by decide) rfl ?_
        refine j_iconst hX 0 dX10_most_31 (by decide) ?_
        refine j_istore hX [(6, .int 0), (5, .int 0), (4, .int x4), (3, .int x3), (0, .ref (ad o)), (1, .int x1), (2, .int x2)] dX10_most_32 (by decide) rfl ?_
        obtain ⟨s2, h3, hf⟩ := jbind hf
        refine k_X10_most_L34 (ad := ad) m_m m_fitting x4 m_aside m_saved m_isSaved m_past m_changes m_errorAt m_failed m_thrown m_input m_inputMany m_given m_pairs m_line m_lineMany m_letters m_begins0 m_commands m_commandMany m_place0 m_size0 m_isWrong x3 x1 x2 hX jFU 0 0 s2 h3 (fun s20 es2 => ?_)
        subst es2
        refine j_iload_n hX dX10_most_78 rfl 3 rfl ?_
        refine j_iload_n hX dX10_most_79 rfl 5 rfl ?_
        refine j_iload hX dX10_most_80 2 rfl ?_
        refine j_iconst hX (-1) dX10_most_82 (by decide) ?_
        refine j_ixor hX dX10_most_83 ?_
        refine j_iand hX dX10_most_84 ?_
        obtain ⟨u4, h5, hf⟩ := jbind hf
        refine j_callS (st := [.int x3]) hX (k_X10_ones (l := l) (D := D) (t := t) (ad := ad)  (x1 &&& (x4 ^^^ (-1))) u4 h5) q1609 q1610 q15 q1611 (n9 := 1) rfl ⟨by decide +kernel, by decide +kernel⟩ dX10_most_85 (Nat.le_of_ble_eq_true rfl) ⟨Nat.le_refl _, Nat.le_refl _⟩ (fun w : va_W => w ++ (wM t ad o m_m m_aside m_saved m_isSaved m_past m_changes m_errorAt m_failed m_thrown m_input m_inputMany m_fitting m_given m_pairs m_line m_lineMany m_letters m_begins0 m_commands m_commandMany m_place0 m_size0 m_isWrong)) (jFr_r (wM t ad o m_m m_aside m_saved m_isSaved m_past m_changes m_errorAt m_failed m_thrown m_input m_inputMany m_fitting m_given m_pairs m_line m_lineMany m_letters m_begins0 m_commands m_commandMany m_place0 m_size0 m_isWrong)) rfl rfl (fun v w hvw => ?_)
        obtain ⟨rfl, rfl⟩ := hvw
        change J X 0 0 (wM t ad o m_m m_aside m_saved m_isSaved m_past m_changes m_errorAt m_failed m_thrown m_input m_inputMany m_fitting m_given m_pairs m_line m_lineMany m_letters m_begins0 m_commands m_commandMany m_place0 m_size0 m_isWrong) 88 [(6, .int s2.1), (5, .int s2.2), (4, .int x4), (3, .int x3), (0, .ref (ad o)), (1, .int x1), (2, .int x2)] [.int u4, .int x3]
        refine j_iload hX dX10_most_88 1 rfl ?_
        refine j_iload_n hX dX10_most_90 rfl 6 rfl ?_
        refine j_iand hX dX10_most_91 ?_
        obtain ⟨u6, h7, hf⟩ := jbind hf
        refine j_callS (st := [.int u4, .int x3]) hX (k_X10_ones (l := l) (D := D) (t := t) (ad := ad)  (s2.2 &&& x2) u6 h7) q1609 q1610 q15 q1611 (n9 := 1) rfl ⟨by decide +kernel, by decide +kernel⟩ dX10_most_92 (Nat.le_of_ble_eq_true rfl) ⟨Nat.le_refl _, Nat.le_refl _⟩ (fun w : va_W => w ++ (wM t ad o m_m m_aside m_saved m_isSaved m_past m_changes m_errorAt m_failed m_thrown m_input m_inputMany m_fitting m_given m_pairs m_line m_lineMany m_letters m_begins0 m_commands m_commandMany m_place0 m_size0 m_isWrong)) (jFr_r (wM t ad o m_m m_aside m_saved m_isSaved m_past m_changes m_errorAt m_failed m_thrown m_input m_inputMany m_fitting m_given m_pairs m_line m_lineMany m_letters m_begins0 m_commands m_commandMany m_place0 m_size0 m_isWrong)) rfl rfl (fun v w hvw => ?_)
        obtain ⟨rfl, rfl⟩ := hvw
        change J X 0 0 (wM t ad o m_m m_aside m_saved m_isSaved m_past m_changes m_errorAt m_failed m_thrown m_input m_inputMany m_fitting m_given m_pairs m_line m_lineMany m_letters m_begins0 m_commands m_commandMany m_place0 m_size0 m_isWrong) 95 [(6, .int s2.1), (5, .int s2.2), (4, .int x4), (3, .int x3), (0, .ref (ad o)), (1, .int x1), (2, .int x2)] [.int u6, .int u4, .int x3]
        refine j_iadd hX dX10_most_95 ?_
        refine j_mmin hX q1612 dX10_most_96 (Nat.le_of_ble_eq_true rfl) (by decide) ⟨Nat.le_refl _, Nat.le_refl _⟩ ?_
        refine j_istore_n hX [(3, .int (jmin x3 (u4 + u6))), (6, .int s2.1), (5, .int s2.2), (4, .int x4), (0, .ref (ad o)), (1, .int x1), (2, .int x2)] dX10_most_99 rfl (by decide) rfl ?_
        refine j_iinc hX (x4 + 1) [(4, .int (x4 + 1)), (3, .int (jmin x3 (u4 + u6))), (6, .int s2.1), (5, .int s2.2), (0, .ref (ad o)), (1, .int x1), (2, .int x2)] dX10_most_100 3 rfl rfl (by decide) rfl ?_
        refine j_goto hX 6 dX10_most_103 (by decide) ?_
        refine j_sub hX [(4, .int (x4 + 1)), (3, .int (jmin x3 (u4 + u6))), (0, .ref (ad o)), (1, .int x1), (2, .int x2)] [0, 1, 4, 5, 6] rfl ?_
        exact ih (x4 + 1) (jmin x3 (u4 + u6)) u hf kx
set_option maxHeartbeats 4000000 in
set_option maxRecDepth 100000 in
theorem k_X10_most {l : Launch} {D : va_G} {t : Nat → ClassId} {ad : Nat → Nat} {o : Nat} (m_m : Nat → Int32) (m_aside : Nat → Int32) (m_saved : Nat → Int32) (m_isSaved : Int32) (m_past : Nat → Int32) (m_changes : Int32) (m_errorAt : Int32) (m_failed : Int32) (m_thrown : Int32) (m_input : Nat → Int32) (m_inputMany : Int32) (m_fitting : Nat → Int32) (m_given : Nat → Int32) (m_pairs : Nat → Int32) (m_line : Nat → Int32) (m_lineMany : Int32) (m_letters : Nat → Int32) (m_begins0 : Nat → Int32) (m_commands : Nat → Int32) (m_commandMany : Int32) (m_place0 : Int32) (m_size0 : Int32) (m_isWrong : Int32) (a0 : Int32) (a1 : Int32) (u : Int32) (hf : f_X10_most m_m m_fitting a0 a1 = some u) : cm l D (jT t) yX10_most cX10_most 7 (some FieldType.int) { frames := 1, cells := 0, slots := 0, locals := 29 } [.ref (ad o), .int a0, .int a1] (wM t ad o m_m m_aside m_saved m_isSaved m_past m_changes m_errorAt m_failed m_thrown m_input m_inputMany m_fitting m_given m_pairs m_line m_lineMany m_letters m_begins0 m_commands m_commandMany m_place0 m_size0 m_isWrong) (fun v w => v = (some (.int u)) ∧ w = wM t ad o m_m m_aside m_saved m_isSaved m_past m_changes m_errorAt m_failed m_thrown m_input m_inputMany m_fitting m_given m_pairs m_line m_lineMany m_letters m_begins0 m_commands m_commandMany m_place0 m_size0 m_isWrong) := by
  refine cm_of RX10 rfl (by decide +kernel) (Nat.le_of_ble_eq_true rfl) (fun X hX hE => ?_)
  change J X 0 0 (wM t ad o m_m m_aside m_saved m_isSaved m_past m_changes m_errorAt m_failed m_thrown m_input m_inputMany m_fitting m_given m_pairs m_line m_lineMany m_letters m_begins0 m_commands m_commandMany m_place0 m_size0 m_isWrong) 0 [(0, .ref (ad o)), (1, .int a0), (2, .int a1)] []
  unfold f_X10_most at hf
  refine j_bipush hX 8 dX10_most_0 (by decide) ?_
  refine j_istore_n hX [(3, .int 8), (0, .ref (ad o)), (1, .int a0), (2, .int a1)] dX10_most_2 rfl (by decide) rfl ?_
  refine j_iconst hX 0 dX10_most_3 (by decide) ?_
  refine j_istore hX [(4, .int 0), (3, .int 8), (0, .ref (ad o)), (1, .int a0), (2, .int a1)] dX10_most_4 (by decide) rfl ?_
  obtain ⟨s9, h10, hf⟩ := jbind hf
  refine k_X10_most_L6 (ad := ad) m_m m_fitting a0 a1 m_aside m_saved m_isSaved m_past m_changes m_errorAt m_failed m_thrown m_input m_inputMany m_given m_pairs m_line m_lineMany m_letters m_begins0 m_commands m_commandMany m_place0 m_size0 m_isWrong hX jFU 0 8 s9 h10 (fun s90 es9 => ?_)
  subst es9
  refine j_iload_n hX dX10_most_106 rfl 1 rfl ?_
  cases hf
  exact j_iret hX hE dX10_most_107 (Nat.le_refl _) (Nat.le_refl _) ⟨rfl, rfl⟩
-- HammerDepotModel mostNow ()I
def f_X10_mostNow (m_m : Nat → Int32) (m_fitting : Nat → Int32) : Option (Int32 × (Nat → Int32)) :=
  Option.bind (f_X10_worksFitting m_m m_fitting) (fun u1 =>
    if jin 4 2048 = true then
      if jin 0 2048 = true then
        Option.bind (f_X10_most m_m u1 (((1 : Int32) <<< ((m_m (4 : Int32).toNatClampNeg) &&& 31)) - 1) (((1 : Int32) <<< ((m_m (0 : Int32).toNatClampNeg) &&& 31)) - 1)) (fun u3 =>
          some (u3, u1))
      else none
    else none)
set_option maxHeartbeats 4000000 in
set_option maxRecDepth 100000 in
theorem k_X10_mostNow {l : Launch} {D : va_G} {t : Nat → ClassId} {ad : Nat → Nat} {o : Nat} (m_m : Nat → Int32) (m_aside : Nat → Int32) (m_saved : Nat → Int32) (m_isSaved : Int32) (m_past : Nat → Int32) (m_changes : Int32) (m_errorAt : Int32) (m_failed : Int32) (m_thrown : Int32) (m_input : Nat → Int32) (m_inputMany : Int32) (m_fitting : Nat → Int32) (m_given : Nat → Int32) (m_pairs : Nat → Int32) (m_line : Nat → Int32) (m_lineMany : Int32) (m_letters : Nat → Int32) (m_begins0 : Nat → Int32) (m_commands : Nat → Int32) (m_commandMany : Int32) (m_place0 : Int32) (m_size0 : Int32) (m_isWrong : Int32)  (u : Int32 × (Nat → Int32)) (hf : f_X10_mostNow m_m m_fitting = some u) : cm l D (jT t) yX10_mostNow cX10_mostNow 1 (some FieldType.int) { frames := 4, cells := 0, slots := 0, locals := 94 } [.ref (ad o)] (wM t ad o m_m m_aside m_saved m_isSaved m_past m_changes m_errorAt m_failed m_thrown m_input m_inputMany m_fitting m_given m_pairs m_line m_lineMany m_letters m_begins0 m_commands m_commandMany m_place0 m_size0 m_isWrong) (fun v w => v = (some (.int u.1)) ∧ w = wM t ad o m_m m_aside m_saved m_isSaved m_past m_changes m_errorAt m_failed m_thrown m_input m_inputMany u.2 m_given m_pairs m_line m_lineMany m_letters m_begins0 m_commands m_commandMany m_place0 m_size0 m_isWrong) := by
  refine cm_of RX10 rfl (by decide +kernel) (Nat.le_of_ble_eq_true rfl) (fun X hX hE => ?_)
  change J X 0 0 (wM t ad o m_m m_aside m_saved m_isSaved m_past m_changes m_errorAt m_failed m_thrown m_input m_inputMany m_fitting m_given m_pairs m_line m_lineMany m_letters m_begins0 m_commands m_commandMany m_place0 m_size0 m_isWrong) 0 [(0, .ref (ad o))] []
  unfold f_X10_mostNow at hf
  refine j_aload_n hX dX10_mostNow_0 rfl 0 rfl ?_
  obtain ⟨u1, h2, hf⟩ := jbind hf
  refine j_callV (st := []) hX (k_X10_worksFitting (l := l) (D := D) (t := t) (ad := ad) (o := o) m_m m_aside m_saved m_isSaved m_past m_changes m_errorAt m_failed m_thrown m_input m_inputMany m_fitting m_given m_pairs m_line m_lineMany m_letters m_begins0 m_commands m_commandMany m_place0 m_size0 m_isWrong  u1 h2) q1603 q1604 q1972 q15 q1605 (n9 := 0) rfl ⟨by decide +kernel, by decide +kernel⟩ 0 rfl rfl rfl dX10_mostNow_1 (Nat.le_of_ble_eq_true rfl) ⟨Nat.le_refl _, Nat.le_refl _⟩ (fun w : va_W => w) jFr_id rfl rfl (fun v w hvw => ?_)
  obtain ⟨rfl, rfl⟩ := hvw
  change J X 0 0 (wM t ad o m_m m_aside m_saved m_isSaved m_past m_changes m_errorAt m_failed m_thrown m_input m_inputMany u1 m_given m_pairs m_line m_lineMany m_letters m_begins0 m_commands m_commandMany m_place0 m_size0 m_isWrong) 4 [(0, .ref (ad o))] []
  refine j_aload_n hX dX10_mostNow_4 rfl 0 rfl ?_
  refine j_iconst hX 1 dX10_mostNow_5 (by decide) ?_
  refine j_aload_n hX dX10_mostNow_6 rfl 0 rfl ?_
  refine j_get hX dX10_mostNow_7 inX10 0 q1455 0 rfl rfl (by decide) rfl rfl ?_
  refine j_iconst hX 4 dX10_mostNow_10 (by decide) ?_
  refine j_iald hX dX10_mostNow_11 1 0 rfl rfl hf (fun c11 hf => ?_)
  refine j_ishl hX dX10_mostNow_12 ?_
  refine j_iconst hX 1 dX10_mostNow_13 (by decide) ?_
  refine j_isub hX dX10_mostNow_14 ?_
  refine j_iconst hX 1 dX10_mostNow_15 (by decide) ?_
  refine j_aload_n hX dX10_mostNow_16 rfl 0 rfl ?_
  refine j_get hX dX10_mostNow_17 inX10 0 q1455 0 rfl rfl (by decide) rfl rfl ?_
  refine j_iconst hX 0 dX10_mostNow_20 (by decide) ?_
  refine j_iald hX dX10_mostNow_21 1 0 rfl rfl hf (fun c21 hf => ?_)
  refine j_ishl hX dX10_mostNow_22 ?_
  refine j_iconst hX 1 dX10_mostNow_23 (by decide) ?_
  refine j_isub hX dX10_mostNow_24 ?_
  obtain ⟨u3, h4, hf⟩ := jbind hf
  refine j_callV (st := []) hX (k_X10_most (l := l) (D := D) (t := t) (ad := ad) (o := o) m_m m_aside m_saved m_isSaved m_past m_changes m_errorAt m_failed m_thrown m_input m_inputMany u1 m_given m_pairs m_line m_lineMany m_letters m_begins0 m_commands m_commandMany m_place0 m_size0 m_isWrong (((1 : Int32) <<< ((m_m (4 : Int32).toNatClampNeg) &&& 31)) - 1) (((1 : Int32) <<< ((m_m (0 : Int32).toNatClampNeg) &&& 31)) - 1) u3 h4) q1606 q1607 q1973 q15 q1608 (n9 := 2) rfl ⟨by decide +kernel, by decide +kernel⟩ 0 rfl rfl rfl dX10_mostNow_25 (Nat.le_of_ble_eq_true rfl) ⟨Nat.le_refl _, Nat.le_refl _⟩ (fun w : va_W => w) jFr_id rfl rfl (fun v w hvw => ?_)
  obtain ⟨rfl, rfl⟩ := hvw
  change J X 0 0 (wM t ad o m_m m_aside m_saved m_isSaved m_past m_changes m_errorAt m_failed m_thrown m_input m_inputMany u1 m_given m_pairs m_line m_lineMany m_letters m_begins0 m_commands m_commandMany m_place0 m_size0 m_isWrong) 28 [(0, .ref (ad o))] [.int u3]
  cases hf
  exact j_iret hX hE dX10_mostNow_28 (Nat.le_refl _) (Nat.le_refl _) ⟨rfl, rfl⟩

-- HammerDepotModel hammerIt (II)I
def f_X10_hammerIt (m_m : Nat → Int32) (m_thrown : Int32) (a0 : Int32) (a1 : Int32) : Option (Int32 × (Nat → Int32) × Int32) :=
  Option.bind (f_X10_in ((a0).toInt64) (0 : Int64) (60 : Int64)) (fun u1 =>
    if u1 = 0 then
      Option.bind (f_X10_throwing m_thrown 1) (fun u17 =>
        some (u17.1, m_m, u17.2))
    else
      Option.bind (f_X10_isRack a1) (fun u3 =>
        if u3 = 0 then
          Option.bind (f_X10_throwing m_thrown 2) (fun u15 =>
            some (u15.1, m_m, u15.2))
        else
          if jin 0 2048 = true then
            if (m_m (0 : Int32).toNatClampNeg) = 12 then
              Option.bind (f_X10_throwing m_thrown 3) (fun u5 =>
                some (u5.1, m_m, u5.2))
            else
              Option.bind (f_X10_freePlace m_m a1) (fun u7 =>
                if u7 = (-1) then
                  Option.bind (f_X10_throwing m_thrown 3) (fun u13 =>
                    some (u13.1, m_m, u13.2))
                else
                  Option.bind (f_X10_freePlace m_m a1) (fun u9 =>
                    if jin 0 2048 = true then
                      Option.bind (f_X10_hammerOf (m_m (0 : Int32).toNatClampNeg)) (fun u11 =>
                        if jin u11 2048 = true then
                          if jin (u11 + 2) 2048 = true then
                            if jin (u11 + 3) 2048 = true then
                              if jin 0 2048 = true then
                                if jin 0 2048 = true then
                                  if jin 0 2048 = true then
                                    some (((upd (upd (upd (upd m_m (u11).toNatClampNeg a0) (u11 + 2).toNatClampNeg a1) (u11 + 3).toNatClampNeg u9) (0 : Int32).toNatClampNeg (((upd (upd (upd m_m (u11).toNatClampNeg a0) (u11 + 2).toNatClampNeg a1) (u11 + 3).toNatClampNeg u9) (0 : Int32).toNatClampNeg) + 1)) (0 : Int32).toNatClampNeg) - 1, upd (upd (upd (upd m_m (u11).toNatClampNeg a0) (u11 + 2).toNatClampNeg a1) (u11 + 3).toNatClampNeg u9) (0 : Int32).toNatClampNeg (((upd (upd (upd m_m (u11).toNatClampNeg a0) (u11 + 2).toNatClampNeg a1) (u11 + 3).toNatClampNeg u9) (0 : Int32).toNatClampNeg) + 1), m_thrown)
                                  else none
                                else none
                              else none
                            else none
                          else none
                        else none)
                    else none))
          else none))
set_option maxHeartbeats 4000000 in
set_option maxRecDepth 100000 in
theorem k_X10_hammerIt {l : Launch} {D : va_G} {t : Nat → ClassId} {ad : Nat → Nat} {o : Nat} (m_m : Nat → Int32) (m_aside : Nat → Int32) (m_saved : Nat → Int32) (m_isSaved : Int32) (m_past : Nat → Int32) (m_changes : Int32) (m_errorAt : Int32) (m_failed : Int32) (m_thrown : Int32) (m_input : Nat → Int32) (m_inputMany : Int32) (m_fitting : Nat → Int32) (m_given : Nat → Int32) (m_pairs : Nat → Int32) (m_line : Nat → Int32) (m_lineMany : Int32) (m_letters : Nat → Int32) (m_begins0 : Nat → Int32) (m_commands : Nat → Int32) (m_commandMany : Int32) (m_place0 : Int32) (m_size0 : Int32) (m_isWrong : Int32) (a0 : Int32) (a1 : Int32) (u : Int32 × (Nat → Int32) × Int32) (hf : f_X10_hammerIt m_m m_thrown a0 a1 = some u) : cm l D (jT t) yX10_hammerIt cX10_hammerIt 5 (some FieldType.int) { frames := 3, cells := 0, slots := 0, locals := 65 } [.ref (ad o), .int a0, .int a1] (wM t ad o m_m m_aside m_saved m_isSaved m_past m_changes m_errorAt m_failed m_thrown m_input m_inputMany m_fitting m_given m_pairs m_line m_lineMany m_letters m_begins0 m_commands m_commandMany m_place0 m_size0 m_isWrong) (fun v w => v = (some (.int u.1)) ∧ w = wM t ad o u.2.1 m_aside m_saved m_isSaved m_past m_changes m_errorAt m_failed u.2.2 m_input m_inputMany m_fitting m_given m_pairs m_line m_lineMany m_letters m_begins0 m_commands m_commandMany m_place0 m_size0 m_isWrong) := by
  refine cm_of RX10 rfl (by decide +kernel) (Nat.le_of_ble_eq_true rfl) (fun X hX hE => ?_)
  change J X 0 0 (wM t ad o m_m m_aside m_saved m_isSaved m_past m_changes m_errorAt m_failed m_thrown m_input m_inputMany m_fitting m_given m_pairs m_line m_lineMany m_letters m_begins0 m_commands m_commandMany m_place0 m_size0 m_isWrong) 0 [(0, .ref (ad o)), (1, .int a0), (2, .int a1)] []
  unfold f_X10_hammerIt at hf
  refine j_iload_n hX dX10_hammerIt_0 rfl 1 rfl ?_
  refine j_i2l hX dX10_hammerIt_1 ?_
  refine j_lconst hX 0 dX10_hammerIt_2 (by decide) ?_
  refine j_ldc2 hX q1492 dX10_hammerIt_3 ?_
  obtain ⟨u1, h2, hf⟩ := jbind hf
  refine j_callS (st := []) hX (k_X10_in (l := l) (D := D) (t := t) (ad := ad)  ((a0).toInt64) (0 : Int64) (60 : Int64) u1 h2) q1493 q1494 q15 q1495 (n9 := 3) rfl ⟨by decide +kernel, by decide +kernel⟩ dX10_hammerIt_6 (Nat.le_of_ble_eq_true rfl) ⟨Nat.le_refl _, Nat.le_refl _⟩ (fun w : va_W => w ++ (wM t ad o m_m m_aside m_saved m_isSaved m_past m_changes m_errorAt m_failed m_thrown m_input m_inputMany m_fitting m_given m_pairs m_line m_lineMany m_letters m_begins0 m_commands m_commandMany m_place0 m_size0 m_isWrong)) (jFr_r (wM t ad o m_m m_aside m_saved m_isSaved m_past m_changes m_errorAt m_failed m_thrown m_input m_inputMany m_fitting m_given m_pairs m_line m_lineMany m_letters m_begins0 m_commands m_commandMany m_place0 m_size0 m_isWrong)) rfl rfl (fun v w hvw => ?_)
  obtain ⟨rfl, rfl⟩ := hvw
  change J X 0 0 (wM t ad o m_m m_aside m_saved m_isSaved m_past m_changes m_errorAt m_failed m_thrown m_input m_inputMany m_fitting m_given m_pairs m_line m_lineMany m_letters m_begins0 m_commands m_commandMany m_place0 m_size0 m_isWrong) 9 [(0, .ref (ad o)), (1, .int a0), (2, .int a1)] [.int u1]
  refine j_if_ne hX 18 dX10_hammerIt_9 (by decide) hf (fun c9 hf => ?_) (fun c9 hf => ?_)
  · refine j_iload_n hX dX10_hammerIt_18 rfl 2 rfl ?_
    obtain ⟨u3, h4, hf⟩ := jbind hf
    refine j_callS (st := []) hX (k_X10_isRack (l := l) (D := D) (t := t) (ad := ad)  a1 u3 h4) q1499 q1500 q15 q1501 (n9 := 1) rfl ⟨by decide +kernel, by decide +kernel⟩ dX10_hammerIt_19 (Nat.le_of_ble_eq_true rfl) ⟨Nat.le_refl _, Nat.le_refl _⟩ (fun w : va_W => w ++ (wM t ad o m_m m_aside m_saved m_isSaved m_past m_changes m_errorAt m_failed m_thrown m_input m_inputMany m_fitting m_given m_pairs m_line m_lineMany m_letters m_begins0 m_commands m_commandMany m_place0 m_size0 m_isWrong)) (jFr_r (wM t ad o m_m m_aside m_saved m_isSaved m_past m_changes m_errorAt m_failed m_thrown m_input m_inputMany m_fitting m_given m_pairs m_line m_lineMany m_letters m_begins0 m_commands m_commandMany m_place0 m_size0 m_isWrong)) rfl rfl (fun v w hvw => ?_)
    obtain ⟨rfl, rfl⟩ := hvw
    change J X 0 0 (wM t ad o m_m m_aside m_saved m_isSaved m_past m_changes m_errorAt m_failed m_thrown m_input m_inputMany m_fitting m_given m_pairs m_line m_lineMany m_letters m_begins0 m_commands m_commandMany m_place0 m_size0 m_isWrong) 22 [(0, .ref (ad o)), (1, .int a0), (2, .int a1)] [.int u3]
    refine j_if_ne hX 31 dX10_hammerIt_22 (by decide) hf (fun c22 hf => ?_) (fun c22 hf => ?_)
    · refine j_aload_n hX dX10_hammerIt_31 rfl 0 rfl ?_
      refine j_get hX dX10_hammerIt_32 inX10 0 q1455 0 rfl rfl (by decide) rfl rfl ?_
      refine j_iconst hX 0 dX10_hammerIt_35 (by decide) ?_
      refine j_iald hX dX10_hammerIt_36 1 0 rfl rfl hf (fun c36 hf => ?_)
      refine j_bipush hX 12 dX10_hammerIt_37 (by decide) ?_
      refine j_icmp_eq hX 51 dX10_hammerIt_39 (by decide) hf (fun c39 hf => ?_) (fun c39 hf => ?_)
      · refine j_aload_n hX dX10_hammerIt_51 rfl 0 rfl ?_
        refine j_iconst hX 3 dX10_hammerIt_52 (by decide) ?_
        obtain ⟨u5, h6, hf⟩ := jbind hf
        refine j_callV (st := []) hX (k_X10_throwing (l := l) (D := D) (t := t) (ad := ad) (o := o) m_m m_aside m_saved m_isSaved m_past m_changes m_errorAt m_failed m_thrown m_input m_inputMany m_fitting m_given m_pairs m_line m_lineMany m_letters m_begins0 m_commands m_commandMany m_place0 m_size0 m_isWrong 3 u5 h6) q1496 q1497 q1951 q15 q1498 (n9 := 1) rfl ⟨by decide +kernel, by decide +kernel⟩ 0 rfl rfl rfl dX10_hammerIt_53 (Nat.le_of_ble_eq_true rfl) ⟨Nat.le_refl _, Nat.le_refl _⟩ (fun w : va_W => w) jFr_id rfl rfl (fun v w hvw => ?_)
        obtain ⟨rfl, rfl⟩ := hvw
        change J X 0 0 (wM t ad o m_m m_aside m_saved m_isSaved m_past m_changes m_errorAt m_failed u5.2 m_input m_inputMany m_fitting m_given m_pairs m_line m_lineMany m_letters m_begins0 m_commands m_commandMany m_place0 m_size0 m_isWrong) 56 [(0, .ref (ad o)), (1, .int a0), (2, .int a1)] [.int u5.1]
        cases hf
        exact j_iret hX hE dX10_hammerIt_56 (Nat.le_refl _) (Nat.le_refl _) ⟨rfl, rfl⟩
      · refine j_aload_n hX dX10_hammerIt_42 rfl 0 rfl ?_
        refine j_iload_n hX dX10_hammerIt_43 rfl 2 rfl ?_
        obtain ⟨u7, h8, hf⟩ := jbind hf
        refine j_callV (st := []) hX (k_X10_freePlace (l := l) (D := D) (t := t) (ad := ad) (o := o) m_m m_aside m_saved m_isSaved m_past m_changes m_errorAt m_failed m_thrown m_input m_inputMany m_fitting m_given m_pairs m_line m_lineMany m_letters m_begins0 m_commands m_commandMany m_place0 m_size0 m_isWrong a1 u7 h8) q1503 q1504 q1952 q15 q1505 (n9 := 1) rfl ⟨by decide +kernel, by decide +kernel⟩ 0 rfl rfl rfl dX10_hammerIt_44 (Nat.le_of_ble_eq_true rfl) ⟨Nat.le_refl _, Nat.le_refl _⟩ (fun w : va_W => w) jFr_id rfl rfl (fun v w hvw => ?_)
        obtain ⟨rfl, rfl⟩ := hvw
        change J X 0 0 (wM t ad o m_m m_aside m_saved m_isSaved m_past m_changes m_errorAt m_failed m_thrown m_input m_inputMany m_fitting m_given m_pairs m_line m_lineMany m_letters m_begins0 m_commands m_commandMany m_place0 m_size0 m_isWrong) 47 [(0, .ref (ad o)), (1, .int a0), (2, .int a1)] [.int u7]
        refine j_iconst hX (-1) dX10_hammerIt_47 (by decide) ?_
        refine j_icmp_ne hX 57 dX10_hammerIt_48 (by decide) hf (fun c48 hf => ?_) (fun c48 hf => ?_)
        · refine j_aload_n hX dX10_hammerIt_57 rfl 0 rfl ?_
          refine j_iload_n hX dX10_hammerIt_58 rfl 2 rfl ?_
          obtain ⟨u9, h10, hf⟩ := jbind hf
          refine j_callV (st := []) hX (k_X10_freePlace (l := l) (D := D) (t := t) (ad := ad) (o := o) m_m m_aside m_saved m_isSaved m_past m_changes m_errorAt m_failed m_thrown m_input m_inputMany m_fitting m_given m_pairs m_line m_lineMany m_letters m_begins0 m_commands m_commandMany m_place0 m_size0 m_isWrong a1 u9 h10) q1503 q1504 q1952 q15 q1505 (n9 := 1) rfl ⟨by decide +kernel, by decide +kernel⟩ 0 rfl rfl rfl dX10_hammerIt_59 (Nat.le_of_ble_eq_true rfl) ⟨Nat.le_refl _, Nat.le_refl _⟩ (fun w : va_W => w) jFr_id rfl rfl (fun v w hvw => ?_)
          obtain ⟨rfl, rfl⟩ := hvw
          change J X 0 0 (wM t ad o m_m m_aside m_saved m_isSaved m_past m_changes m_errorAt m_failed m_thrown m_input m_inputMany m_fitting m_given m_pairs m_line m_lineMany m_letters m_begins0 m_commands m_commandMany m_place0 m_size0 m_isWrong) 62 [(0, .ref (ad o)), (1, .int a0), (2, .int a1)] [.int u9]
          refine j_istore_n hX [(3, .int u9), (0, .ref (ad o)), (1, .int a0), (2, .int a1)] dX10_hammerIt_62 rfl (by decide) rfl ?_
          refine j_aload_n hX dX10_hammerIt_63 rfl 1 rfl ?_
          refine j_get hX dX10_hammerIt_64 inX10 0 q1455 0 rfl rfl (by decide) rfl rfl ?_
          refine j_iconst hX 0 dX10_hammerIt_67 (by decide) ?_
          refine j_iald hX dX10_hammerIt_68 1 0 rfl rfl hf (fun c68 hf => ?_)
          obtain ⟨u11, h12, hf⟩ := jbind hf
          refine j_callS (st := []) hX (k_X10_hammerOf (l := l) (D := D) (t := t) (ad := ad)  (m_m (0 : Int32).toNatClampNeg) u11 h12) q1509 q1510 q15 q1511 (n9 := 1) rfl ⟨by decide +kernel, by decide +kernel⟩ dX10_hammerIt_69 (Nat.le_of_ble_eq_true rfl) ⟨Nat.le_refl _, Nat.le_refl _⟩ (fun w : va_W => w ++ (wM t ad o m_m m_aside m_saved m_isSaved m_past m_changes m_errorAt m_failed m_thrown m_input m_inputMany m_fitting m_given m_pairs m_line m_lineMany m_letters m_begins0 m_commands m_commandMany m_place0 m_size0 m_isWrong)) (jFr_r (wM t ad o m_m m_aside m_saved m_isSaved m_past m_changes m_errorAt m_failed m_thrown m_input m_inputMany m_fitting m_given m_pairs m_line m_lineMany m_letters m_begins0 m_commands m_commandMany m_place0 m_size0 m_isWrong)) rfl rfl (fun v w hvw => ?_)
          obtain ⟨rfl, rfl⟩ := hvw
          change J X 0 0 (wM t ad o m_m m_aside m_saved m_isSaved m_past m_changes m_errorAt m_failed m_thrown m_input m_inputMany m_fitting m_given m_pairs m_line m_lineMany m_letters m_begins0 m_commands m_commandMany m_place0 m_size0 m_isWrong) 72 [(3, .int u9), (0, .ref (ad o)), (1, .int a0), (2, .int a1)] [.int u11]
          refine j_istore hX [(4, .int u11), (3, .int u9), (0, .ref (ad o)), (1, .int a0), (2, .int a1)] dX10_hammerIt_72 (by decide) rfl ?_
          refine j_aload_n hX dX10_hammerIt_74 rfl 2 rfl ?_
          refine j_get hX dX10_hammerIt_75 inX10 0 q1455 0 rfl rfl (by decide) rfl rfl ?_
          refine j_iload hX dX10_hammerIt_78 0 rfl ?_
          refine j_iload_n hX dX10_hammerIt_80 rfl 3 rfl ?_
          refine j_iast hX (wM t ad o (upd m_m (u11).toNatClampNeg a0) m_aside m_saved m_isSaved m_past m_changes m_errorAt m_failed m_thrown m_input m_inputMany m_fitting m_given m_pairs m_line m_lineMany m_letters m_begins0 m_commands m_commandMany m_place0 m_size0 m_isWrong) dX10_hammerIt_81 1 0 rfl rfl rfl hf (fun c81 hf => ?_)
          refine j_aload_n hX dX10_hammerIt_82 rfl 2 rfl ?_
          refine j_get hX dX10_hammerIt_83 inX10 0 q1455 0 rfl rfl (by decide) rfl rfl ?_
          refine j_iload hX dX10_hammerIt_86 0 rfl ?_
          refine j_iconst hX 2 dX10_hammerIt_88 (by decide) ?_
          refine j_iadd hX dX10_hammerIt_89 ?_
          refine j_iload_n hX dX10_hammerIt_90 rfl 4 rfl ?_
          refine j_iast hX (wM t ad o (upd (upd m_m (u11).toNatClampNeg a0) (u11 + 2).toNatClampNeg a1) m_aside m_saved m_isSaved m_past m_changes m_errorAt m_failed m_thrown m_input m_inputMany m_fitting m_given m_pairs m_line m_lineMany m_letters m_begins0 m_commands m_commandMany m_place0 m_size0 m_isWrong) dX10_hammerIt_91 1 0 rfl rfl rfl hf (fun c91 hf => ?_)
          refine j_aload_n hX dX10_hammerIt_92 rfl 2 rfl ?_
          refine j_get hX dX10_hammerIt_93 inX10 0 q1455 0 rfl rfl (by decide) rfl rfl ?_
          refine j_iload hX dX10_hammerIt_96 0 rfl ?_
          refine j_iconst hX 3 dX10_hammerIt_98 (by decide) ?_
          refine j_iadd hX dX10_hammerIt_99 ?_
          refine j_iload_n hX dX10_hammerIt_100 rfl 1 rfl ?_
          refine j_iast hX (wM t ad o (upd (upd (upd m_m (u11).toNatClampNeg a0) (u11 + 2).toNatClampNeg a1) (u11 + 3).toNatClampNeg u9) m_aside m_saved m_isSaved m_past m_changes m_errorAt m_failed m_thrown m_input m_inputMany m_fitting m_given m_pairs m_line m_lineMany m_letters m_begins0 m_commands m_commandMany m_place0 m_size0 m_isWrong) dX10_hammerIt_101 1 0 rfl rfl rfl hf (fun c101 hf => ?_)
          refine j_aload_n hX dX10_hammerIt_102 rfl 2 rfl ?_
          refine j_get hX dX10_hammerIt_103 inX10 0 q1455 0 rfl rfl (by decide) rfl rfl ?_
          refine j_iconst hX 0 dX10_hammerIt_106 (by decide) ?_
          refine j_dup2 hX dX10_hammerIt_107 rfl rfl ?_
          refine j_iald hX dX10_hammerIt_108 1 0 rfl rfl hf (fun c108 hf => ?_)
          refine j_iconst hX 1 dX10_hammerIt_109 (by decide) ?_
          refine j_iadd hX dX10_hammerIt_110 ?_
          refine j_iast hX (wM t ad o (upd (upd (upd (upd m_m (u11).toNatClampNeg a0) (u11 + 2).toNatClampNeg a1) (u11 + 3).toNatClampNeg u9) (0 : Int32).toNatClampNeg (((upd (upd (upd m_m (u11).toNatClampNeg a0) (u11 + 2).toNatClampNeg a1) (u11 + 3).toNatClampNeg u9) (0 : Int32).toNatClampNeg) + 1)) m_aside m_saved m_isSaved m_past m_changes m_errorAt m_failed m_thrown m_input m_inputMany m_fitting m_given m_pairs m_line m_lineMany m_letters m_begins0 m_commands m_commandMany m_place0 m_size0 m_isWrong) dX10_hammerIt_111 1 0 rfl rfl rfl hf (fun c111 hf => ?_)
          refine j_aload_n hX dX10_hammerIt_112 rfl 2 rfl ?_
          refine j_get hX dX10_hammerIt_113 inX10 0 q1455 0 rfl rfl (by decide) rfl rfl ?_
          refine j_iconst hX 0 dX10_hammerIt_116 (by decide) ?_
          refine j_iald hX dX10_hammerIt_117 1 0 rfl rfl hf (fun c117 hf => ?_)
          refine j_iconst hX 1 dX10_hammerIt_118 (by decide) ?_
          refine j_isub hX dX10_hammerIt_119 ?_
          cases hf
          exact j_iret hX hE dX10_hammerIt_120 (Nat.le_refl _) (Nat.le_refl _) ⟨rfl, rfl⟩
        · refine j_aload_n hX dX10_hammerIt_51 rfl 0 rfl ?_
          refine j_iconst hX 3 dX10_hammerIt_52 (by decide) ?_
          obtain ⟨u13, h14, hf⟩ := jbind hf
          refine j_callV (st := []) hX (k_X10_throwing (l := l) (D := D) (t := t) (ad := ad) (o := o) m_m m_aside m_saved m_isSaved m_past m_changes m_errorAt m_failed m_thrown m_input m_inputMany m_fitting m_given m_pairs m_line m_lineMany m_letters m_begins0 m_commands m_commandMany m_place0 m_size0 m_isWrong 3 u13 h14) q1496 q1497 q1951 q15 q1498 (n9 := 1) rfl ⟨by decide +kernel, by decide +kernel⟩ 0 rfl rfl rfl dX10_hammerIt_53 (Nat.le_of_ble_eq_true rfl) ⟨Nat.le_refl _, Nat.le_refl _⟩ (fun w : va_W => w) jFr_id rfl rfl (fun v w hvw => ?_)
          obtain ⟨rfl, rfl⟩ := hvw
          change J X 0 0 (wM t ad o m_m m_aside m_saved m_isSaved m_past m_changes m_errorAt m_failed u13.2 m_input m_inputMany m_fitting m_given m_pairs m_line m_lineMany m_letters m_begins0 m_commands m_commandMany m_place0 m_size0 m_isWrong) 56 [(0, .ref (ad o)), (1, .int a0), (2, .int a1)] [.int u13.1]
          cases hf
          exact j_iret hX hE dX10_hammerIt_56 (Nat.le_refl _) (Nat.le_refl _) ⟨rfl, rfl⟩
    · refine j_aload_n hX dX10_hammerIt_25 rfl 0 rfl ?_
      refine j_iconst hX 2 dX10_hammerIt_26 (by decide) ?_
      obtain ⟨u15, h16, hf⟩ := jbind hf
      refine j_callV (st := []) hX (k_X10_throwing (l := l) (D := D) (t := t) (ad := ad) (o := o) m_m m_aside m_saved m_isSaved m_past m_changes m_errorAt m_failed m_thrown m_input m_inputMany m_fitting m_given m_pairs m_line m_lineMany m_letters m_begins0 m_commands m_commandMany m_place0 m_size0 m_isWrong 2 u15 h16) q1496 q1497 q1951 q15 q1498 (n9 := 1) rfl ⟨by decide +kernel, by decide +kernel⟩ 0 rfl rfl rfl dX10_hammerIt_27 (Nat.le_of_ble_eq_true rfl) ⟨Nat.le_refl _, Nat.le_refl _⟩ (fun w : va_W => w) jFr_id rfl rfl (fun v w hvw => ?_)
      obtain ⟨rfl, rfl⟩ := hvw
      change J X 0 0 (wM t ad o m_m m_aside m_saved m_isSaved m_past m_changes m_errorAt m_failed u15.2 m_input m_inputMany m_fitting m_given m_pairs m_line m_lineMany m_letters m_begins0 m_commands m_commandMany m_place0 m_size0 m_isWrong) 30 [(0, .ref (ad o)), (1, .int a0), (2, .int a1)] [.int u15.1]
      cases hf
      exact j_iret hX hE dX10_hammerIt_30 (Nat.le_refl _) (Nat.le_refl _) ⟨rfl, rfl⟩
  · refine j_aload_n hX dX10_hammerIt_12 rfl 0 rfl ?_
    refine j_iconst hX 1 dX10_hammerIt_13 (by decide) ?_
    obtain ⟨u17, h18, hf⟩ := jbind hf
    refine j_callV (st := []) hX (k_X10_throwing (l := l) (D := D) (t := t) (ad := ad) (o := o) m_m m_aside m_saved m_isSaved m_past m_changes m_errorAt m_failed m_thrown m_input m_inputMany m_fitting m_given m_pairs m_line m_lineMany m_letters m_begins0 m_commands m_commandMany m_place0 m_size0 m_isWrong 1 u17 h18) q1496 q1497 q1951 q15 q1498 (n9 := 1) rfl ⟨by decide +kernel, by decide +kernel⟩ 0 rfl rfl rfl dX10_hammerIt_14 (Nat.le_of_ble_eq_true rfl) ⟨Nat.le_refl _, Nat.le_refl _⟩ (fun w : va_W => w) jFr_id rfl rfl (fun v w hvw => ?_)
    obtain ⟨rfl, rfl⟩ := hvw
    change J X 0 0 (wM t ad o m_m m_aside m_saved m_isSaved m_past m_changes m_errorAt m_failed u17.2 m_input m_inputMany m_fitting m_given m_pairs m_line m_lineMany m_letters m_begins0 m_commands m_commandMany m_place0 m_size0 m_isWrong) 17 [(0, .ref (ad o)), (1, .int a0), (2, .int a1)] [.int u17.1]
    cases hf
    exact j_iret hX hE dX10_hammerIt_17 (Nat.le_refl _) (Nat.le_refl _) ⟨rfl, rfl⟩
-- HammerDepotModel addHammer (II)I
def f_X10_addHammer (m_m : Nat → Int32) (m_aside : Nat → Int32) (m_past : Nat → Int32) (m_changes : Int32) (m_thrown : Int32) (a0 : Int32) (a1 : Int32) : Option (Int32 × (Nat → Int32) × (Nat → Int32) × (Nat → Int32) × Int32 × Int32) :=
  Option.bind (f_X10_starts m_m m_aside m_thrown) (fun u1 =>
    Option.bind (f_X10_hammerIt m_m u1.2 a0 a1) (fun u3 =>
      Option.bind (f_X10_changed u1.1 m_past m_changes u3.2.2 u3.1) (fun u5 =>
        some (u5.1, u3.2.1, u1.1, u5.2.1, u5.2.2, u3.2.2))))
set_option maxHeartbeats 4000000 in
set_option maxRecDepth 100000 in
theorem k_X10_addHammer {l : Launch} {D : va_G} {t : Nat → ClassId} {ad : Nat → Nat} {o : Nat} (m_m : Nat → Int32) (m_aside : Nat → Int32) (m_saved : Nat → Int32) (m_isSaved : Int32) (m_past : Nat → Int32) (m_changes : Int32) (m_errorAt : Int32) (m_failed : Int32) (m_thrown : Int32) (m_input : Nat → Int32) (m_inputMany : Int32) (m_fitting : Nat → Int32) (m_given : Nat → Int32) (m_pairs : Nat → Int32) (m_line : Nat → Int32) (m_lineMany : Int32) (m_letters : Nat → Int32) (m_begins0 : Nat → Int32) (m_commands : Nat → Int32) (m_commandMany : Int32) (m_place0 : Int32) (m_size0 : Int32) (m_isWrong : Int32) (a0 : Int32) (a1 : Int32) (u : Int32 × (Nat → Int32) × (Nat → Int32) × (Nat → Int32) × Int32 × Int32) (hf : f_X10_addHammer m_m m_aside m_past m_changes m_thrown a0 a1 = some u) : cm l D (jT t) yX10_addHammer cX10_addHammer 3 (some FieldType.int) { frames := 4, cells := 0, slots := 0, locals := 89 } [.ref (ad o), .int a0, .int a1] (wM t ad o m_m m_aside m_saved m_isSaved m_past m_changes m_errorAt m_failed m_thrown m_input m_inputMany m_fitting m_given m_pairs m_line m_lineMany m_letters m_begins0 m_commands m_commandMany m_place0 m_size0 m_isWrong) (fun v w => v = (some (.int u.1)) ∧ w = wM t ad o u.2.1 u.2.2.1 m_saved m_isSaved u.2.2.2.1 u.2.2.2.2.1 m_errorAt m_failed u.2.2.2.2.2 m_input m_inputMany m_fitting m_given m_pairs m_line m_lineMany m_letters m_begins0 m_commands m_commandMany m_place0 m_size0 m_isWrong) := by
  refine cm_of RX10 rfl (by decide +kernel) (Nat.le_of_ble_eq_true rfl) (fun X hX hE => ?_)
  change J X 0 0 (wM t ad o m_m m_aside m_saved m_isSaved m_past m_changes m_errorAt m_failed m_thrown m_input m_inputMany m_fitting m_given m_pairs m_line m_lineMany m_letters m_begins0 m_commands m_commandMany m_place0 m_size0 m_isWrong) 0 [(0, .ref (ad o)), (1, .int a0), (2, .int a1)] []
  unfold f_X10_addHammer at hf
  refine j_aload_n hX dX10_addHammer_0 rfl 0 rfl ?_
  obtain ⟨u1, h2, hf⟩ := jbind hf
  refine j_callV (st := []) hX (k_X10_starts (l := l) (D := D) (t := t) (ad := ad) (o := o) m_m m_aside m_saved m_isSaved m_past m_changes m_errorAt m_failed m_thrown m_input m_inputMany m_fitting m_given m_pairs m_line m_lineMany m_letters m_begins0 m_commands m_commandMany m_place0 m_size0 m_isWrong  u1 h2) q1486 q1487 q1949 q15 q1488 (n9 := 0) rfl ⟨by decide +kernel, by decide +kernel⟩ 0 rfl rfl rfl dX10_addHammer_1 (Nat.le_of_ble_eq_true rfl) ⟨Nat.le_refl _, Nat.le_refl _⟩ (fun w : va_W => w) jFr_id rfl rfl (fun v w hvw => ?_)
  obtain ⟨rfl, rfl⟩ := hvw
  change J X 0 0 (wM t ad o m_m u1.1 m_saved m_isSaved m_past m_changes m_errorAt m_failed u1.2 m_input m_inputMany m_fitting m_given m_pairs m_line m_lineMany m_letters m_begins0 m_commands m_commandMany m_place0 m_size0 m_isWrong) 4 [(0, .ref (ad o)), (1, .int a0), (2, .int a1)] []
  refine j_aload_n hX dX10_addHammer_4 rfl 0 rfl ?_
  refine j_aload_n hX dX10_addHammer_5 rfl 0 rfl ?_
  refine j_iload_n hX dX10_addHammer_6 rfl 1 rfl ?_
  refine j_iload_n hX dX10_addHammer_7 rfl 2 rfl ?_
  obtain ⟨u3, h4, hf⟩ := jbind hf
  refine j_callV (st := [.ref (ad o)]) hX (k_X10_hammerIt (l := l) (D := D) (t := t) (ad := ad) (o := o) m_m u1.1 m_saved m_isSaved m_past m_changes m_errorAt m_failed u1.2 m_input m_inputMany m_fitting m_given m_pairs m_line m_lineMany m_letters m_begins0 m_commands m_commandMany m_place0 m_size0 m_isWrong a0 a1 u3 h4) q1489 q1490 q1950 q15 q1491 (n9 := 2) rfl ⟨by decide +kernel, by decide +kernel⟩ 0 rfl rfl rfl dX10_addHammer_8 (Nat.le_of_ble_eq_true rfl) ⟨Nat.le_refl _, Nat.le_refl _⟩ (fun w : va_W => w) jFr_id rfl rfl (fun v w hvw => ?_)
  obtain ⟨rfl, rfl⟩ := hvw
  change J X 0 0 (wM t ad o u3.2.1 u1.1 m_saved m_isSaved m_past m_changes m_errorAt m_failed u3.2.2 m_input m_inputMany m_fitting m_given m_pairs m_line m_lineMany m_letters m_begins0 m_commands m_commandMany m_place0 m_size0 m_isWrong) 11 [(0, .ref (ad o)), (1, .int a0), (2, .int a1)] [.int u3.1, .ref (ad o)]
  obtain ⟨u5, h6, hf⟩ := jbind hf
  refine j_callV (st := []) hX (k_X10_changed (l := l) (D := D) (t := t) (ad := ad) (o := o) u3.2.1 u1.1 m_saved m_isSaved m_past m_changes m_errorAt m_failed u3.2.2 m_input m_inputMany m_fitting m_given m_pairs m_line m_lineMany m_letters m_begins0 m_commands m_commandMany m_place0 m_size0 m_isWrong u3.1 u5 h6) q1512 q1513 q1954 q15 q1514 (n9 := 1) rfl ⟨by decide +kernel, by decide +kernel⟩ 0 rfl rfl rfl dX10_addHammer_11 (Nat.le_of_ble_eq_true rfl) ⟨Nat.le_refl _, Nat.le_refl _⟩ (fun w : va_W => w) jFr_id rfl rfl (fun v w hvw => ?_)
  obtain ⟨rfl, rfl⟩ := hvw
  change J X 0 0 (wM t ad o u3.2.1 u1.1 m_saved m_isSaved u5.2.1 u5.2.2 m_errorAt m_failed u3.2.2 m_input m_inputMany m_fitting m_given m_pairs m_line m_lineMany m_letters m_begins0 m_commands m_commandMany m_place0 m_size0 m_isWrong) 14 [(0, .ref (ad o)), (1, .int a0), (2, .int a1)] [.int u5.1]
  cases hf
  exact j_iret hX hE dX10_addHammer_14 (Nat.le_refl _) (Nat.le_refl _) ⟨rfl, rfl⟩
-- HammerDepotModel moveIt (II)I
def f_X10_moveIt (m_m : Nat → Int32) (m_thrown : Int32) (a0 : Int32) (a1 : Int32) : Option (Int32 × (Nat → Int32) × Int32) :=
  Option.bind (f_X10_isHammer m_m a0) (fun u1 =>
    if u1 = 0 then
      Option.bind (f_X10_throwing m_thrown 1) (fun u3 =>
        some (u3.1, m_m, u3.2))
    else
      Option.bind (f_X10_isRack a1) (fun u5 =>
        if u5 = 0 then
          Option.bind (f_X10_throwing m_thrown 1) (fun u19 =>
            some (u19.1, m_m, u19.2))
        else
          Option.bind (f_X10_hammerOf a0) (fun u7 =>
            if jin (u7 + 2) 2048 = true then
              if (m_m (u7 + 2).toNatClampNeg) = (-1) then
                Option.bind (f_X10_throwing m_thrown 2) (fun u9 =>
                  some (u9.1, m_m, u9.2))
              else
                if jin (u7 + 2) 2048 = true then
                  if (m_m (u7 + 2).toNatClampNeg) = a1 then
                    Option.bind (f_X10_throwing m_thrown 2) (fun u11 =>
                      some (u11.1, m_m, u11.2))
                  else
                    Option.bind (f_X10_freePlace m_m a1) (fun u13 =>
                      if u13 = (-1) then
                        Option.bind (f_X10_throwing m_thrown 2) (fun u17 =>
                          some (u17.1, m_m, u17.2))
                      else
                        Option.bind (f_X10_freePlace m_m a1) (fun u15 =>
                          if jin (u7 + 2) 2048 = true then
                            if jin (u7 + 3) 2048 = true then
                              some (u15, upd (upd m_m (u7 + 2).toNatClampNeg a1) (u7 + 3).toNatClampNeg u15, m_thrown)
                            else none
                          else none))
                else none
            else none)))
set_option maxHeartbeats 4000000 in
set_option maxRecDepth 100000 in
theorem k_X10_moveIt {l : Launch} {D : va_G} {t : Nat → ClassId} {ad : Nat → Nat} {o : Nat} (m_m : Nat → Int32) (m_aside : Nat → Int32) (m_saved : Nat → Int32) (m_isSaved : Int32) (m_past : Nat → Int32) (m_changes : Int32) (m_errorAt : Int32) (m_failed : Int32) (m_thrown : Int32) (m_input : Nat → Int32) (m_inputMany : Int32) (m_fitting : Nat → Int32) (m_given : Nat → Int32) (m_pairs : Nat → Int32) (m_line : Nat → Int32) (m_lineMany : Int32) (m_letters : Nat → Int32) (m_begins0 : Nat → Int32) (m_commands : Nat → Int32) (m_commandMany : Int32) (m_place0 : Int32) (m_size0 : Int32) (m_isWrong : Int32) (a0 : Int32) (a1 : Int32) (u : Int32 × (Nat → Int32) × Int32) (hf : f_X10_moveIt m_m m_thrown a0 a1 = some u) : cm l D (jT t) yX10_moveIt cX10_moveIt 5 (some FieldType.int) { frames := 3, cells := 0, slots := 0, locals := 65 } [.ref (ad o), .int a0, .int a1] (wM t ad o m_m m_aside m_saved m_isSaved m_past m_changes m_errorAt m_failed m_thrown m_input m_inputMany m_fitting m_given m_pairs m_line m_lineMany m_letters m_begins0 m_commands m_commandMany m_place0 m_size0 m_isWrong) (fun v w => v = (some (.int u.1)) ∧ w = wM t ad o u.2.1 m_aside m_saved m_isSaved m_past m_changes m_errorAt m_failed u.2.2 m_input m_inputMany m_fitting m_given m_pairs m_line m_lineMany m_letters m_begins0 m_commands m_commandMany m_place0 m_size0 m_isWrong) := by
  refine cm_of RX10 rfl (by decide +kernel) (Nat.le_of_ble_eq_true rfl) (fun X hX hE => ?_)
  change J X 0 0 (wM t ad o m_m m_aside m_saved m_isSaved m_past m_changes m_errorAt m_failed m_thrown m_input m_inputMany m_fitting m_given m_pairs m_line m_lineMany m_letters m_begins0 m_commands m_commandMany m_place0 m_size0 m_isWrong) 0 [(0, .ref (ad o)), (1, .int a0), (2, .int a1)] []
  unfold f_X10_moveIt at hf
  refine j_aload_n hX dX10_moveIt_0 rfl 0 rfl ?_
  refine j_iload_n hX dX10_moveIt_1 rfl 1 rfl ?_
  obtain ⟨u1, h2, hf⟩ := jbind hf
  refine j_callV (st := []) hX (k_X10_isHammer (l := l) (D := D) (t := t) (ad := ad) (o := o) m_m m_aside m_saved m_isSaved m_past m_changes m_errorAt m_failed m_thrown m_input m_inputMany m_fitting m_given m_pairs m_line m_lineMany m_letters m_begins0 m_commands m_commandMany m_place0 m_size0 m_isWrong a0 u1 h2) q1522 q1523 q1956 q15 q1524 (n9 := 1) rfl ⟨by decide +kernel, by decide +kernel⟩ 0 rfl rfl rfl dX10_moveIt_2 (Nat.le_of_ble_eq_true rfl) ⟨Nat.le_refl _, Nat.le_refl _⟩ (fun w : va_W => w) jFr_id rfl rfl (fun v w hvw => ?_)
  obtain ⟨rfl, rfl⟩ := hvw
  change J X 0 0 (wM t ad o m_m m_aside m_saved m_isSaved m_past m_changes m_errorAt m_failed m_thrown m_input m_inputMany m_fitting m_given m_pairs m_line m_lineMany m_letters m_begins0 m_commands m_commandMany m_place0 m_size0 m_isWrong) 5 [(0, .ref (ad o)), (1, .int a0), (2, .int a1)] [.int u1]
  refine j_if_eq hX 15 dX10_moveIt_5 (by decide) hf (fun c5 hf => ?_) (fun c5 hf => ?_)
  · refine j_aload_n hX dX10_moveIt_15 rfl 0 rfl ?_
    refine j_iconst hX 1 dX10_moveIt_16 (by decide) ?_
    obtain ⟨u3, h4, hf⟩ := jbind hf
    refine j_callV (st := []) hX (k_X10_throwing (l := l) (D := D) (t := t) (ad := ad) (o := o) m_m m_aside m_saved m_isSaved m_past m_changes m_errorAt m_failed m_thrown m_input m_inputMany m_fitting m_given m_pairs m_line m_lineMany m_letters m_begins0 m_commands m_commandMany m_place0 m_size0 m_isWrong 1 u3 h4) q1496 q1497 q1951 q15 q1498 (n9 := 1) rfl ⟨by decide +kernel, by decide +kernel⟩ 0 rfl rfl rfl dX10_moveIt_17 (Nat.le_of_ble_eq_true rfl) ⟨Nat.le_refl _, Nat.le_refl _⟩ (fun w : va_W => w) jFr_id rfl rfl (fun v w hvw => ?_)
    obtain ⟨rfl, rfl⟩ := hvw
    change J X 0 0 (wM t ad o m_m m_aside m_saved m_isSaved m_past m_changes m_errorAt m_failed u3.2 m_input m_inputMany m_fitting m_given m_pairs m_line m_lineMany m_letters m_begins0 m_commands m_commandMany m_place0 m_size0 m_isWrong) 20 [(0, .ref (ad o)), (1, .int a0), (2, .int a1)] [.int u3.1]
    cases hf
    exact j_iret hX hE dX10_moveIt_20 (Nat.le_refl _) (Nat.le_refl _) ⟨rfl, rfl⟩
  · refine j_iload_n hX dX10_moveIt_8 rfl 2 rfl ?_
    obtain ⟨u5, h6, hf⟩ := jbind hf
    refine j_callS (st := []) hX (k_X10_isRack (l := l) (D := D) (t := t) (ad := ad)  a1 u5 h6) q1499 q1500 q15 q1501 (n9 := 1) rfl ⟨by decide +kernel, by decide +kernel⟩ dX10_moveIt_9 (Nat.le_of_ble_eq_true rfl) ⟨Nat.le_refl _, Nat.le_refl _⟩ (fun w : va_W => w ++ (wM t ad o m_m m_aside m_saved m_isSaved m_past m_changes m_errorAt m_failed m_thrown m_input m_inputMany m_fitting m_given m_pairs m_line m_lineMany m_letters m_begins0 m_commands m_commandMany m_place0 m_size0 m_isWrong)) (jFr_r (wM t ad o m_m m_aside m_saved m_isSaved m_past m_changes m_errorAt m_failed m_thrown m_input m_inputMany m_fitting m_given m_pairs m_line m_lineMany m_letters m_begins0 m_commands m_commandMany m_place0 m_size0 m_isWrong)) rfl rfl (fun v w hvw => ?_)
    obtain ⟨rfl, rfl⟩ := hvw
    change J X 0 0 (wM t ad o m_m m_aside m_saved m_isSaved m_past m_changes m_errorAt m_failed m_thrown m_input m_inputMany m_fitting m_given m_pairs m_line m_lineMany m_letters m_begins0 m_commands m_commandMany m_place0 m_size0 m_isWrong) 12 [(0, .ref (ad o)), (1, .int a0), (2, .int a1)] [.int u5]
    refine j_if_ne hX 21 dX10_moveIt_12 (by decide) hf (fun c12 hf => ?_) (fun c12 hf => ?_)
    · refine j_iload_n hX dX10_moveIt_21 rfl 1 rfl ?_
      obtain ⟨u7, h8, hf⟩ := jbind hf
      refine j_callS (st := []) hX (k_X10_hammerOf (l := l) (D := D) (t := t) (ad := ad)  a0 u7 h8) q1509 q1510 q15 q1511 (n9 := 1) rfl ⟨by decide +kernel, by decide +kernel⟩ dX10_moveIt_22 (Nat.le_of_ble_eq_true rfl) ⟨Nat.le_refl _, Nat.le_refl _⟩ (fun w : va_W => w ++ (wM t ad o m_m m_aside m_saved m_isSaved m_past m_changes m_errorAt m_failed m_thrown m_input m_inputMany m_fitting m_given m_pairs m_line m_lineMany m_letters m_begins0 m_commands m_commandMany m_place0 m_size0 m_isWrong)) (jFr_r (wM t ad o m_m m_aside m_saved m_isSaved m_past m_changes m_errorAt m_failed m_thrown m_input m_inputMany m_fitting m_given m_pairs m_line m_lineMany m_letters m_begins0 m_commands m_commandMany m_place0 m_size0 m_isWrong)) rfl rfl (fun v w hvw => ?_)
      obtain ⟨rfl, rfl⟩ := hvw
      change J X 0 0 (wM t ad o m_m m_aside m_saved m_isSaved m_past m_changes m_errorAt m_failed m_thrown m_input m_inputMany m_fitting m_given m_pairs m_line m_lineMany m_letters m_begins0 m_commands m_commandMany m_place0 m_size0 m_isWrong) 25 [(0, .ref (ad o)), (1, .int a0), (2, .int a1)] [.int u7]
      refine j_istore_n hX [(3, .int u7), (0, .ref (ad o)), (1, .int a0), (2, .int a1)] dX10_moveIt_25 rfl (by decide) rfl ?_
      refine j_aload_n hX dX10_moveIt_26 rfl 1 rfl ?_
      refine j_get hX dX10_moveIt_27 inX10 0 q1455 0 rfl rfl (by decide) rfl rfl ?_
      refine j_iload_n hX dX10_moveIt_30 rfl 0 rfl ?_
      refine j_iconst hX 2 dX10_moveIt_31 (by decide) ?_
      refine j_iadd hX dX10_moveIt_32 ?_
      refine j_iald hX dX10_moveIt_33 1 0 rfl rfl hf (fun c33 hf => ?_)
      refine j_iconst hX (-1) dX10_moveIt_34 (by decide) ?_
      refine j_icmp_eq hX 59 dX10_moveIt_35 (by decide) hf (fun c35 hf => ?_) (fun c35 hf => ?_)
      · refine j_aload_n hX dX10_moveIt_59 rfl 1 rfl ?_
        refine j_iconst hX 2 dX10_moveIt_60 (by decide) ?_
        obtain ⟨u9, h10, hf⟩ := jbind hf
        refine j_callV (st := []) hX (k_X10_throwing (l := l) (D := D) (t := t) (ad := ad) (o := o) m_m m_aside m_saved m_isSaved m_past m_changes m_errorAt m_failed m_thrown m_input m_inputMany m_fitting m_given m_pairs m_line m_lineMany m_letters m_begins0 m_commands m_commandMany m_place0 m_size0 m_isWrong 2 u9 h10) q1496 q1497 q1951 q15 q1498 (n9 := 1) rfl ⟨by decide +kernel, by decide +kernel⟩ 0 rfl rfl rfl dX10_moveIt_61 (Nat.le_of_ble_eq_true rfl) ⟨Nat.le_refl _, Nat.le_refl _⟩ (fun w : va_W => w) jFr_id rfl rfl (fun v w hvw => ?_)
        obtain ⟨rfl, rfl⟩ := hvw
        change J X 0 0 (wM t ad o m_m m_aside m_saved m_isSaved m_past m_changes m_errorAt m_failed u9.2 m_input m_inputMany m_fitting m_given m_pairs m_line m_lineMany m_letters m_begins0 m_commands m_commandMany m_place0 m_size0 m_isWrong) 64 [(3, .int u7), (0, .ref (ad o)), (1, .int a0), (2, .int a1)] [.int u9.1]
        cases hf
        exact j_iret hX hE dX10_moveIt_64 (Nat.le_refl _) (Nat.le_refl _) ⟨rfl, rfl⟩
      · refine j_aload_n hX dX10_moveIt_38 rfl 1 rfl ?_
        refine j_get hX dX10_moveIt_39 inX10 0 q1455 0 rfl rfl (by decide) rfl rfl ?_
        refine j_iload_n hX dX10_moveIt_42 rfl 0 rfl ?_
        refine j_iconst hX 2 dX10_moveIt_43 (by decide) ?_
        refine j_iadd hX dX10_moveIt_44 ?_
        refine j_iald hX dX10_moveIt_45 1 0 rfl rfl hf (fun c45 hf => ?_)
        refine j_iload_n hX dX10_moveIt_46 rfl 3 rfl ?_
        refine j_icmp_eq hX 59 dX10_moveIt_47 (by decide) hf (fun c47 hf => ?_) (fun c47 hf => ?_)
        · refine j_aload_n hX dX10_moveIt_59 rfl 1 rfl ?_
          refine j_iconst hX 2 dX10_moveIt_60 (by decide) ?_
          obtain ⟨u11, h12, hf⟩ := jbind hf
          refine j_callV (st := []) hX (k_X10_throwing (l := l) (D := D) (t := t) (ad := ad) (o := o) m_m m_aside m_saved m_isSaved m_past m_changes m_errorAt m_failed m_thrown m_input m_inputMany m_fitting m_given m_pairs m_line m_lineMany m_letters m_begins0 m_commands m_commandMany m_place0 m_size0 m_isWrong 2 u11 h12) q1496 q1497 q1951 q15 q1498 (n9 := 1) rfl ⟨by decide +kernel, by decide +kernel⟩ 0 rfl rfl rfl dX10_moveIt_61 (Nat.le_of_ble_eq_true rfl) ⟨Nat.le_refl _, Nat.le_refl _⟩ (fun w : va_W => w) jFr_id rfl rfl (fun v w hvw => ?_)
          obtain ⟨rfl, rfl⟩ := hvw
          change J X 0 0 (wM t ad o m_m m_aside m_saved m_isSaved m_past m_changes m_errorAt m_failed u11.2 m_input m_inputMany m_fitting m_given m_pairs m_line m_lineMany m_letters m_begins0 m_commands m_commandMany m_place0 m_size0 m_isWrong) 64 [(3, .int u7), (0, .ref (ad o)), (1, .int a0), (2, .int a1)] [.int u11.1]
          cases hf
          exact j_iret hX hE dX10_moveIt_64 (Nat.le_refl _) (Nat.le_refl _) ⟨rfl, rfl⟩
        · refine j_aload_n hX dX10_moveIt_50 rfl 1 rfl ?_
          refine j_iload_n hX dX10_moveIt_51 rfl 3 rfl ?_
          obtain ⟨u13, h14, hf⟩ := jbind hf
          refine j_callV (st := []) hX (k_X10_freePlace (l := l) (D := D) (t := t) (ad := ad) (o := o) m_m m_aside m_saved m_isSaved m_past m_changes m_errorAt m_failed m_thrown m_input m_inputMany m_fitting m_given m_pairs m_line m_lineMany m_letters m_begins0 m_commands m_commandMany m_place0 m_size0 m_isWrong a1 u13 h14) q1503 q1504 q1952 q15 q1505 (n9 := 1) rfl ⟨by decide +kernel, by decide +kernel⟩ 0 rfl rfl rfl dX10_moveIt_52 (Nat.le_of_ble_eq_true rfl) ⟨Nat.le_refl _, Nat.le_refl _⟩ (fun w : va_W => w) jFr_id rfl rfl (fun v w hvw => ?_)
          obtain ⟨rfl, rfl⟩ := hvw
          change J X 0 0 (wM t ad o m_m m_aside m_saved m_isSaved m_past m_changes m_errorAt m_failed m_thrown m_input m_inputMany m_fitting m_given m_pairs m_line m_lineMany m_letters m_begins0 m_commands m_commandMany m_place0 m_size0 m_isWrong) 55 [(3, .int u7), (0, .ref (ad o)), (1, .int a0), (2, .int a1)] [.int u13]
          refine j_iconst hX (-1) dX10_moveIt_55 (by decide) ?_
          refine j_icmp_ne hX 65 dX10_moveIt_56 (by decide) hf (fun c56 hf => ?_) (fun c56 hf => ?_)
          · refine j_aload_n hX dX10_moveIt_65 rfl 1 rfl ?_
            refine j_iload_n hX dX10_moveIt_66 rfl 3 rfl ?_
            obtain ⟨u15, h16, hf⟩ := jbind hf
            refine j_callV (st := []) hX (k_X10_freePlace (l := l) (D := D) (t := t) (ad := ad) (o := o) m_m m_aside m_saved m_isSaved m_past m_changes m_errorAt m_failed m_thrown m_input m_inputMany m_fitting m_given m_pairs m_line m_lineMany m_letters m_begins0 m_commands m_commandMany m_place0 m_size0 m_isWrong a1 u15 h16) q1503 q1504 q1952 q15 q1505 (n9 := 1) rfl ⟨by decide +kernel, by decide +kernel⟩ 0 rfl rfl rfl dX10_moveIt_67 (Nat.le_of_ble_eq_true rfl) ⟨Nat.le_refl _, Nat.le_refl _⟩ (fun w : va_W => w) jFr_id rfl rfl (fun v w hvw => ?_)
            obtain ⟨rfl, rfl⟩ := hvw
            change J X 0 0 (wM t ad o m_m m_aside m_saved m_isSaved m_past m_changes m_errorAt m_failed m_thrown m_input m_inputMany m_fitting m_given m_pairs m_line m_lineMany m_letters m_begins0 m_commands m_commandMany m_place0 m_size0 m_isWrong) 70 [(3, .int u7), (0, .ref (ad o)), (1, .int a0), (2, .int a1)] [.int u15]
            refine j_istore hX [(4, .int u15), (3, .int u7), (0, .ref (ad o)), (1, .int a0), (2, .int a1)] dX10_moveIt_70 (by decide) rfl ?_
            refine j_aload_n hX dX10_moveIt_72 rfl 2 rfl ?_
            refine j_get hX dX10_moveIt_73 inX10 0 q1455 0 rfl rfl (by decide) rfl rfl ?_
            refine j_iload_n hX dX10_moveIt_76 rfl 1 rfl ?_
            refine j_iconst hX 2 dX10_moveIt_77 (by decide) ?_
            refine j_iadd hX dX10_moveIt_78 ?_
            refine j_iload_n hX dX10_moveIt_79 rfl 4 rfl ?_
            refine j_iast hX (wM t ad o (upd m_m (u7 + 2).toNatClampNeg a1) m_aside m_saved m_isSaved m_past m_changes m_errorAt m_failed m_thrown m_input m_inputMany m_fitting m_given m_pairs m_line m_lineMany m_letters m_begins0 m_commands m_commandMany m_place0 m_size0 m_isWrong) dX10_moveIt_80 1 0 rfl rfl rfl hf (fun c80 hf => ?_)
            refine j_aload_n hX dX10_moveIt_81 rfl 2 rfl ?_
            refine j_get hX dX10_moveIt_82 inX10 0 q1455 0 rfl rfl (by decide) rfl rfl ?_
            refine j_iload_n hX dX10_moveIt_85 rfl 1 rfl ?_
            refine j_iconst hX 3 dX10_moveIt_86 (by decide) ?_
            refine j_iadd hX dX10_moveIt_87 ?_
            refine j_iload hX dX10_moveIt_88 0 rfl ?_
            refine j_iast hX (wM t ad o (upd (upd m_m (u7 + 2).toNatClampNeg a1) (u7 + 3).toNatClampNeg u15) m_aside m_saved m_isSaved m_past m_changes m_errorAt m_failed m_thrown m_input m_inputMany m_fitting m_given m_pairs m_line m_lineMany m_letters m_begins0 m_commands m_commandMany m_place0 m_size0 m_isWrong) dX10_moveIt_90 1 0 rfl rfl rfl hf (fun c90 hf => ?_)
            refine j_iload hX dX10_moveIt_91 0 rfl ?_
            cases hf
            exact j_iret hX hE dX10_moveIt_93 (Nat.le_refl _) (Nat.le_refl _) ⟨rfl, rfl⟩
          · refine j_aload_n hX dX10_moveIt_59 rfl 1 rfl ?_
            refine j_iconst hX 2 dX10_moveIt_60 (by decide) ?_
            obtain ⟨u17, h18, hf⟩ := jbind hf
            refine j_callV (st := []) hX (k_X10_throwing (l := l) (D := D) (t := t) (ad := ad) (o := o) m_m m_aside m_saved m_isSaved m_past m_changes m_errorAt m_failed m_thrown m_input m_inputMany m_fitting m_given m_pairs m_line m_lineMany m_letters m_begins0 m_commands m_commandMany m_place0 m_size0 m_isWrong 2 u17 h18) q1496 q1497 q1951 q15 q1498 (n9 := 1) rfl ⟨by decide +kernel, by decide +kernel⟩ 0 rfl rfl rfl dX10_moveIt_61 (Nat.le_of_ble_eq_true rfl) ⟨Nat.le_refl _, Nat.le_refl _⟩ (fun w : va_W => w) jFr_id rfl rfl (fun v w hvw => ?_)
            obtain ⟨rfl, rfl⟩ := hvw
            change J X 0 0 (wM t ad o m_m m_aside m_saved m_isSaved m_past m_changes m_errorAt m_failed u17.2 m_input m_inputMany m_fitting m_given m_pairs m_line m_lineMany m_letters m_begins0 m_commands m_commandMany m_place0 m_size0 m_isWrong) 64 [(3, .int u7), (0, .ref (ad o)), (1, .int a0), (2, .int a1)] [.int u17.1]
            cases hf
            exact j_iret hX hE dX10_moveIt_64 (Nat.le_refl _) (Nat.le_refl _) ⟨rfl, rfl⟩
    · refine j_aload_n hX dX10_moveIt_15 rfl 0 rfl ?_
      refine j_iconst hX 1 dX10_moveIt_16 (by decide) ?_
      obtain ⟨u19, h20, hf⟩ := jbind hf
      refine j_callV (st := []) hX (k_X10_throwing (l := l) (D := D) (t := t) (ad := ad) (o := o) m_m m_aside m_saved m_isSaved m_past m_changes m_errorAt m_failed m_thrown m_input m_inputMany m_fitting m_given m_pairs m_line m_lineMany m_letters m_begins0 m_commands m_commandMany m_place0 m_size0 m_isWrong 1 u19 h20) q1496 q1497 q1951 q15 q1498 (n9 := 1) rfl ⟨by decide +kernel, by decide +kernel⟩ 0 rfl rfl rfl dX10_moveIt_17 (Nat.le_of_ble_eq_true rfl) ⟨Nat.le_refl _, Nat.le_refl _⟩ (fun w : va_W => w) jFr_id rfl rfl (fun v w hvw => ?_)
      obtain ⟨rfl, rfl⟩ := hvw
      change J X 0 0 (wM t ad o m_m m_aside m_saved m_isSaved m_past m_changes m_errorAt m_failed u19.2 m_input m_inputMany m_fitting m_given m_pairs m_line m_lineMany m_letters m_begins0 m_commands m_commandMany m_place0 m_size0 m_isWrong) 20 [(0, .ref (ad o)), (1, .int a0), (2, .int a1)] [.int u19.1]
      cases hf
      exact j_iret hX hE dX10_moveIt_20 (Nat.le_refl _) (Nat.le_refl _) ⟨rfl, rfl⟩
-- HammerDepotModel moveHammer (II)I
def f_X10_moveHammer (m_m : Nat → Int32) (m_aside : Nat → Int32) (m_past : Nat → Int32) (m_changes : Int32) (m_thrown : Int32) (a0 : Int32) (a1 : Int32) : Option (Int32 × (Nat → Int32) × (Nat → Int32) × (Nat → Int32) × Int32 × Int32) :=
  Option.bind (f_X10_starts m_m m_aside m_thrown) (fun u1 =>
    Option.bind (f_X10_moveIt m_m u1.2 a0 a1) (fun u3 =>
      Option.bind (f_X10_changed u1.1 m_past m_changes u3.2.2 u3.1) (fun u5 =>
        some (u5.1, u3.2.1, u1.1, u5.2.1, u5.2.2, u3.2.2))))
set_option maxHeartbeats 4000000 in
set_option maxRecDepth 100000 in
theorem k_X10_moveHammer {l : Launch} {D : va_G} {t : Nat → ClassId} {ad : Nat → Nat} {o : Nat} (m_m : Nat → Int32) (m_aside : Nat → Int32) (m_saved : Nat → Int32) (m_isSaved : Int32) (m_past : Nat → Int32) (m_changes : Int32) (m_errorAt : Int32) (m_failed : Int32) (m_thrown : Int32) (m_input : Nat → Int32) (m_inputMany : Int32) (m_fitting : Nat → Int32) (m_given : Nat → Int32) (m_pairs : Nat → Int32) (m_line : Nat → Int32) (m_lineMany : Int32) (m_letters : Nat → Int32) (m_begins0 : Nat → Int32) (m_commands : Nat → Int32) (m_commandMany : Int32) (m_place0 : Int32) (m_size0 : Int32) (m_isWrong : Int32) (a0 : Int32) (a1 : Int32) (u : Int32 × (Nat → Int32) × (Nat → Int32) × (Nat → Int32) × Int32 × Int32) (hf : f_X10_moveHammer m_m m_aside m_past m_changes m_thrown a0 a1 = some u) : cm l D (jT t) yX10_moveHammer cX10_moveHammer 3 (some FieldType.int) { frames := 4, cells := 0, slots := 0, locals := 89 } [.ref (ad o), .int a0, .int a1] (wM t ad o m_m m_aside m_saved m_isSaved m_past m_changes m_errorAt m_failed m_thrown m_input m_inputMany m_fitting m_given m_pairs m_line m_lineMany m_letters m_begins0 m_commands m_commandMany m_place0 m_size0 m_isWrong) (fun v w => v = (some (.int u.1)) ∧ w = wM t ad o u.2.1 u.2.2.1 m_saved m_isSaved u.2.2.2.1 u.2.2.2.2.1 m_errorAt m_failed u.2.2.2.2.2 m_input m_inputMany m_fitting m_given m_pairs m_line m_lineMany m_letters m_begins0 m_commands m_commandMany m_place0 m_size0 m_isWrong) := by
  refine cm_of RX10 rfl (by decide +kernel) (Nat.le_of_ble_eq_true rfl) (fun X hX hE => ?_)
  change J X 0 0 (wM t ad o m_m m_aside m_saved m_isSaved m_past m_changes m_errorAt m_failed m_thrown m_input m_inputMany m_fitting m_given m_pairs m_line m_lineMany m_letters m_begins0 m_commands m_commandMany m_place0 m_size0 m_isWrong) 0 [(0, .ref (ad o)), (1, .int a0), (2, .int a1)] []
  unfold f_X10_moveHammer at hf
  refine j_aload_n hX dX10_moveHammer_0 rfl 0 rfl ?_
  obtain ⟨u1, h2, hf⟩ := jbind hf
  refine j_callV (st := []) hX (k_X10_starts (l := l) (D := D) (t := t) (ad := ad) (o := o) m_m m_aside m_saved m_isSaved m_past m_changes m_errorAt m_failed m_thrown m_input m_inputMany m_fitting m_given m_pairs m_line m_lineMany m_letters m_begins0 m_commands m_commandMany m_place0 m_size0 m_isWrong  u1 h2) q1486 q1487 q1949 q15 q1488 (n9 := 0) rfl ⟨by decide +kernel, by decide +kernel⟩ 0 rfl rfl rfl dX10_moveHammer_1 (Nat.le_of_ble_eq_true rfl) ⟨Nat.le_refl _, Nat.le_refl _⟩ (fun w : va_W => w) jFr_id rfl rfl (fun v w hvw => ?_)
  obtain ⟨rfl, rfl⟩ := hvw
  change J X 0 0 (wM t ad o m_m u1.1 m_saved m_isSaved m_past m_changes m_errorAt m_failed u1.2 m_input m_inputMany m_fitting m_given m_pairs m_line m_lineMany m_letters m_begins0 m_commands m_commandMany m_place0 m_size0 m_isWrong) 4 [(0, .ref (ad o)), (1, .int a0), (2, .int a1)] []
  refine j_aload_n hX dX10_moveHammer_4 rfl 0 rfl ?_
  refine j_aload_n hX dX10_moveHammer_5 rfl 0 rfl ?_
  refine j_iload_n hX dX10_moveHammer_6 rfl 1 rfl ?_
  refine j_iload_n hX dX10_moveHammer_7 rfl 2 rfl ?_
  obtain ⟨u3, h4, hf⟩ := jbind hf
  refine j_callV (st := [.ref (ad o)]) hX (k_X10_moveIt (l := l) (D := D) (t := t) (ad := ad) (o := o) m_m u1.1 m_saved m_isSaved m_past m_changes m_errorAt m_failed u1.2 m_input m_inputMany m_fitting m_given m_pairs m_line m_lineMany m_letters m_begins0 m_commands m_commandMany m_place0 m_size0 m_isWrong a0 a1 u3 h4) q1519 q1520 q1955 q15 q1521 (n9 := 2) rfl ⟨by decide +kernel, by decide +kernel⟩ 0 rfl rfl rfl dX10_moveHammer_8 (Nat.le_of_ble_eq_true rfl) ⟨Nat.le_refl _, Nat.le_refl _⟩ (fun w : va_W => w) jFr_id rfl rfl (fun v w hvw => ?_)
  obtain ⟨rfl, rfl⟩ := hvw
  change J X 0 0 (wM t ad o u3.2.1 u1.1 m_saved m_isSaved m_past m_changes m_errorAt m_failed u3.2.2 m_input m_inputMany m_fitting m_given m_pairs m_line m_lineMany m_letters m_begins0 m_commands m_commandMany m_place0 m_size0 m_isWrong) 11 [(0, .ref (ad o)), (1, .int a0), (2, .int a1)] [.int u3.1, .ref (ad o)]
  obtain ⟨u5, h6, hf⟩ := jbind hf
  refine j_callV (st := []) hX (k_X10_changed (l := l) (D := D) (t := t) (ad := ad) (o := o) u3.2.1 u1.1 m_saved m_isSaved m_past m_changes m_errorAt m_failed u3.2.2 m_input m_inputMany m_fitting m_given m_pairs m_line m_lineMany m_letters m_begins0 m_commands m_commandMany m_place0 m_size0 m_isWrong u3.1 u5 h6) q1512 q1513 q1954 q15 q1514 (n9 := 1) rfl ⟨by decide +kernel, by decide +kernel⟩ 0 rfl rfl rfl dX10_moveHammer_11 (Nat.le_of_ble_eq_true rfl) ⟨Nat.le_refl _, Nat.le_refl _⟩ (fun w : va_W => w) jFr_id rfl rfl (fun v w hvw => ?_)
  obtain ⟨rfl, rfl⟩ := hvw
  change J X 0 0 (wM t ad o u3.2.1 u1.1 m_saved m_isSaved u5.2.1 u5.2.2 m_errorAt m_failed u3.2.2 m_input m_inputMany m_fitting m_given m_pairs m_line m_lineMany m_letters m_begins0 m_commands m_commandMany m_place0 m_size0 m_isWrong) 14 [(0, .ref (ad o)), (1, .int a0), (2, .int a1)] [.int u5.1]
  cases hf
  exact j_iret hX hE dX10_moveHammer_14 (Nat.le_refl _) (Nat.le_refl _) ⟨rfl, rfl⟩
-- HammerDepotModel swapIt (III)I
def f_X10_swapIt (m_m : Nat → Int32) (m_thrown : Int32) (a0 : Int32) (a1 : Int32) (a2 : Int32) : Option (Int32 × (Nat → Int32) × Int32) :=
  Option.bind (f_X10_isRack a0) (fun u1 =>
    if u1 = 0 then
      Option.bind (f_X10_throwing m_thrown 1) (fun u3 =>
        some (u3.1, m_m, u3.2))
    else
      Option.bind (f_X10_isPlace a1) (fun u5 =>
        if u5 = 0 then
          Option.bind (f_X10_throwing m_thrown 1) (fun u7 =>
            some (u7.1, m_m, u7.2))
        else
          Option.bind (f_X10_isPlace a2) (fun u9 =>
            if u9 = 0 then
              Option.bind (f_X10_throwing m_thrown 1) (fun u31 =>
                some (u31.1, m_m, u31.2))
            else
              if a1 = a2 then
                Option.bind (f_X10_throwing m_thrown 2) (fun u29 =>
                  some (u29.1, m_m, u29.2))
              else
                Option.bind (f_X10_standing m_m a0 a1) (fun u11 =>
                  Option.bind (f_X10_standing m_m a0 a2) (fun u13 =>
                    if u11 = (-1) then
                      if u13 = (-1) then
                        Option.bind (f_X10_swaps m_m a0) (fun u15 =>
                          some (u15, m_m, m_thrown))
                      else
                        Option.bind (f_X10_hammerOf u13) (fun u17 =>
                          if jin (u17 + 3) 2048 = true then
                            Option.bind (f_X10_swaps (upd m_m (u17 + 3).toNatClampNeg a1) a0) (fun u19 =>
                              some (u19, upd m_m (u17 + 3).toNatClampNeg a1, m_thrown))
                          else none)
                    else
                      Option.bind (f_X10_hammerOf u11) (fun u21 =>
                        if jin (u21 + 3) 2048 = true then
                          if u13 = (-1) then
                            Option.bind (f_X10_swaps (upd m_m (u21 + 3).toNatClampNeg a2) a0) (fun u23 =>
                              some (u23, upd m_m (u21 + 3).toNatClampNeg a2, m_thrown))
                          else
                            Option.bind (f_X10_hammerOf u13) (fun u25 =>
                              if jin (u25 + 3) 2048 = true then
                                Option.bind (f_X10_swaps (upd (upd m_m (u21 + 3).toNatClampNeg a2) (u25 + 3).toNatClampNeg a1) a0) (fun u27 =>
                                  some (u27, upd (upd m_m (u21 + 3).toNatClampNeg a2) (u25 + 3).toNatClampNeg a1, m_thrown))
                              else none)
                        else none))))))
set_option maxHeartbeats 4000000 in
set_option maxRecDepth 100000 in
theorem k_X10_swapIt {l : Launch} {D : va_G} {t : Nat → ClassId} {ad : Nat → Nat} {o : Nat} (m_m : Nat → Int32) (m_aside : Nat → Int32) (m_saved : Nat → Int32) (m_isSaved : Int32) (m_past : Nat → Int32) (m_changes : Int32) (m_errorAt : Int32) (m_failed : Int32) (m_thrown : Int32) (m_input : Nat → Int32) (m_inputMany : Int32) (m_fitting : Nat → Int32) (m_given : Nat → Int32) (m_pairs : Nat → Int32) (m_line : Nat → Int32) (m_lineMany : Int32) (m_letters : Nat → Int32) (m_begins0 : Nat → Int32) (m_commands : Nat → Int32) (m_commandMany : Int32) (m_place0 : Int32) (m_size0 : Int32) (m_isWrong : Int32) (a0 : Int32) (a1 : Int32) (a2 : Int32) (u : Int32 × (Nat → Int32) × Int32) (hf : f_X10_swapIt m_m m_thrown a0 a1 a2 = some u) : cm l D (jT t) yX10_swapIt cX10_swapIt 6 (some FieldType.int) { frames := 4, cells := 0, slots := 0, locals := 93 } [.ref (ad o), .int a0, .int a1, .int a2] (wM t ad o m_m m_aside m_saved m_isSaved m_past m_changes m_errorAt m_failed m_thrown m_input m_inputMany m_fitting m_given m_pairs m_line m_lineMany m_letters m_begins0 m_commands m_commandMany m_place0 m_size0 m_isWrong) (fun v w => v = (some (.int u.1)) ∧ w = wM t ad o u.2.1 m_aside m_saved m_isSaved m_past m_changes m_errorAt m_failed u.2.2 m_input m_inputMany m_fitting m_given m_pairs m_line m_lineMany m_letters m_begins0 m_commands m_commandMany m_place0 m_size0 m_isWrong) := by
  refine cm_of RX10 rfl (by decide +kernel) (Nat.le_of_ble_eq_true rfl) (fun X hX hE => ?_)
  change J X 0 0 (wM t ad o m_m m_aside m_saved m_isSaved m_past m_changes m_errorAt m_failed m_thrown m_input m_inputMany m_fitting m_given m_pairs m_line m_lineMany m_letters m_begins0 m_commands m_commandMany m_place0 m_size0 m_isWrong) 0 [(0, .ref (ad o)), (1, .int a0), (2, .int a1), (3, .int a2)] []
  unfold f_X10_swapIt at hf
  refine j_iload_n hX dX10_swapIt_0 rfl 1 rfl ?_
  obtain ⟨u1, h2, hf⟩ := jbind hf
  refine j_callS (st := []) hX (k_X10_isRack (l := l) (D := D) (t := t) (ad := ad)  a0 u1 h2) q1499 q1500 q15 q1501 (n9 := 1) rfl ⟨by decide +kernel, by decide +kernel⟩ dX10_swapIt_1 (Nat.le_of_ble_eq_true rfl) ⟨Nat.le_refl _, Nat.le_refl _⟩ (fun w : va_W => w ++ (wM t ad o m_m m_aside m_saved m_isSaved m_past m_changes m_errorAt m_failed m_thrown m_input m_inputMany m_fitting m_given m_pairs m_line m_lineMany m_letters m_begins0 m_commands m_commandMany m_place0 m_size0 m_isWrong)) (jFr_r (wM t ad o m_m m_aside m_saved m_isSaved m_past m_changes m_errorAt m_failed m_thrown m_input m_inputMany m_fitting m_given m_pairs m_line m_lineMany m_letters m_begins0 m_commands m_commandMany m_place0 m_size0 m_isWrong)) rfl rfl (fun v w hvw => ?_)
  obtain ⟨rfl, rfl⟩ := hvw
  change J X 0 0 (wM t ad o m_m m_aside m_saved m_isSaved m_past m_changes m_errorAt m_failed m_thrown m_input m_inputMany m_fitting m_given m_pairs m_line m_lineMany m_letters m_begins0 m_commands m_commandMany m_place0 m_size0 m_isWrong) 4 [(0, .ref (ad o)), (1, .int a0), (2, .int a1), (3, .int a2)] [.int u1]
  refine j_if_eq hX 21 dX10_swapIt_4 (by decide) hf (fun c4 hf => ?_) (fun c4 hf => ?_)
  · refine j_aload_n hX dX10_swapIt_21 rfl 0 rfl ?_
    refine j_iconst hX 1 dX10_swapIt_22 (by decide) ?_
    obtain ⟨u3, h4, hf⟩ := jbind hf
    refine j_callV (st := []) hX (k_X10_throwing (l := l) (D := D) (t := t) (ad := ad) (o := o) m_m m_aside m_saved m_isSaved m_past m_changes m_errorAt m_failed m_thrown m_input m_inputMany m_fitting m_given m_pairs m_line m_lineMany m_letters m_begins0 m_commands m_commandMany m_place0 m_size0 m_isWrong 1 u3 h4) q1496 q1497 q1951 q15 q1498 (n9 := 1) rfl ⟨by decide +kernel, by decide +kernel⟩ 0 rfl rfl rfl dX10_swapIt_23 (Nat.le_of_ble_eq_true rfl) ⟨Nat.le_refl _, Nat.le_refl _⟩ (fun w : va_W => w) jFr_id rfl rfl (fun v w hvw => ?_)
    obtain ⟨rfl, rfl⟩ := hvw
    change J X 0 0 (wM t ad o m_m m_aside m_saved m_isSaved m_past m_changes m_errorAt m_failed u3.2 m_input m_inputMany m_fitting m_given m_pairs m_line m_lineMany m_letters m_begins0 m_commands m_commandMany m_place0 m_size0 m_isWrong) 26 [(0, .ref (ad o)), (1, .int a0), (2, .int a1), (3, .int a2)] [.int u3.1]
    cases hf
    exact j_iret hX hE dX10_swapIt_26 (Nat.le_refl _) (Nat.le_refl _) ⟨rfl, rfl⟩
  · refine j_iload_n hX dX10_swapIt_7 rfl 2 rfl ?_
    obtain ⟨u5, h6, hf⟩ := jbind hf
    refine j_callS (st := []) hX (k_X10_isPlace (l := l) (D := D) (t := t) (ad := ad)  a1 u5 h6) q1532 q1533 q15 q1534 (n9 := 1) rfl ⟨by decide +kernel, by decide +kernel⟩ dX10_swapIt_8 (Nat.le_of_ble_eq_true rfl) ⟨Nat.le_refl _, Nat.le_refl _⟩ (fun w : va_W => w ++ (wM t ad o m_m m_aside m_saved m_isSaved m_past m_changes m_errorAt m_failed m_thrown m_input m_inputMany m_fitting m_given m_pairs m_line m_lineMany m_letters m_begins0 m_commands m_commandMany m_place0 m_size0 m_isWrong)) (jFr_r (wM t ad o m_m m_aside m_saved m_isSaved m_past m_changes m_errorAt m_failed m_thrown m_input m_inputMany m_fitting m_given m_pairs m_line m_lineMany m_letters m_begins0 m_commands m_commandMany m_place0 m_size0 m_isWrong)) rfl rfl (fun v w hvw => ?_)
    obtain ⟨rfl, rfl⟩ := hvw
    change J X 0 0 (wM t ad o m_m m_aside m_saved m_isSaved m_past m_changes m_errorAt m_failed m_thrown m_input m_inputMany m_fitting m_given m_pairs m_line m_lineMany m_letters m_begins0 m_commands m_commandMany m_place0 m_size0 m_isWrong) 11 [(0, .ref (ad o)), (1, .int a0), (2, .int a1), (3, .int a2)] [.int u5]
    refine j_if_eq hX 21 dX10_swapIt_11 (by decide) hf (fun c11 hf => ?_) (fun c11 hf => ?_)
    · refine j_aload_n hX dX10_swapIt_21 rfl 0 rfl ?_
      refine j_iconst hX 1 dX10_swapIt_22 (by decide) ?_
      obtain ⟨u7, h8, hf⟩ := jbind hf
      refine j_callV (st := []) hX (k_X10_throwing (l := l) (D := D) (t := t) (ad := ad) (o := o) m_m m_aside m_saved m_isSaved m_past m_changes m_errorAt m_failed m_thrown m_input m_inputMany m_fitting m_given m_pairs m_line m_lineMany m_letters m_begins0 m_commands m_commandMany m_place0 m_size0 m_isWrong 1 u7 h8) q1496 q1497 q1951 q15 q1498 (n9 := 1) rfl ⟨by decide +kernel, by decide +kernel⟩ 0 rfl rfl rfl dX10_swapIt_23 (Nat.le_of_ble_eq_true rfl) ⟨Nat.le_refl _, Nat.le_refl _⟩ (fun w : va_W => w) jFr_id rfl rfl (fun v w hvw => ?_)
      obtain ⟨rfl, rfl⟩ := hvw
      change J X 0 0 (wM t ad o m_m m_aside m_saved m_isSaved m_past m_changes m_errorAt m_failed u7.2 m_input m_inputMany m_fitting m_given m_pairs m_line m_lineMany m_letters m_begins0 m_commands m_commandMany m_place0 m_size0 m_isWrong) 26 [(0, .ref (ad o)), (1, .int a0), (2, .int a1), (3, .int a2)] [.int u7.1]
      cases hf
      exact j_iret hX hE dX10_swapIt_26 (Nat.le_refl _) (Nat.le_refl _) ⟨rfl, rfl⟩
    · refine j_iload_n hX dX10_swapIt_14 rfl 3 rfl ?_
      obtain ⟨u9, h10, hf⟩ := jbind hf
      refine j_callS (st := []) hX (k_X10_isPlace (l := l) (D := D) (t := t) (ad := ad)  a2 u9 h10) q1532 q1533 q15 q1534 (n9 := 1) rfl ⟨by decide +kernel, by decide +kernel⟩ dX10_swapIt_15 (Nat.le_of_ble_eq_true rfl) ⟨Nat.le_refl _, Nat.le_refl _⟩ (fun w : va_W => w ++ (wM t ad o m_m m_aside m_saved m_isSaved m_past m_changes m_errorAt m_failed m_thrown m_input m_inputMany m_fitting m_given m_pairs m_line m_lineMany m_letters m_begins0 m_commands m_commandMany m_place0 m_size0 m_isWrong)) (jFr_r (wM t ad o m_m m_aside m_saved m_isSaved m_past m_changes m_errorAt m_failed m_thrown m_input m_inputMany m_fitting m_given m_pairs m_line m_lineMany m_letters m_begins0 m_commands m_commandMany m_place0 m_size0 m_isWrong)) rfl rfl (fun v w hvw => ?_)
      obtain ⟨rfl, rfl⟩ := hvw
      change J X 0 0 (wM t ad o m_m m_aside m_saved m_isSaved m_past m_changes m_errorAt m_failed m_thrown m_input m_inputMany m_fitting m_given m_pairs m_line m_lineMany m_letters m_begins0 m_commands m_commandMany m_place0 m_size0 m_isWrong) 18 [(0, .ref (ad o)), (1, .int a0), (2, .int a1), (3, .int a2)] [.int u9]
      refine j_if_ne hX 27 dX10_swapIt_18 (by decide) hf (fun c18 hf => ?_) (fun c18 hf => ?_)
      · refine j_iload_n hX dX10_swapIt_27 rfl 2 rfl ?_
        refine j_iload_n hX dX10_swapIt_28 rfl 3 rfl ?_
        refine j_icmp_ne hX 38 dX10_swapIt_29 (by decide) hf (fun c29 hf => ?_) (fun c29 hf => ?_)
        · refine j_aload_n hX dX10_swapIt_38 rfl 0 rfl ?_
          refine j_iload_n hX dX10_swapIt_39 rfl 1 rfl ?_
          refine j_iload_n hX dX10_swapIt_40 rfl 2 rfl ?_
          obtain ⟨u11, h12, hf⟩ := jbind hf
          refine j_callV (st := []) hX (k_X10_standing (l := l) (D := D) (t := t) (ad := ad) (o := o) m_m m_aside m_saved m_isSaved m_past m_changes m_errorAt m_failed m_thrown m_input m_inputMany m_fitting m_given m_pairs m_line m_lineMany m_letters m_begins0 m_commands m_commandMany m_place0 m_size0 m_isWrong a0 a1 u11 h12) q1506 q1507 q1953 q15 q1508 (n9 := 2) rfl ⟨by decide +kernel, by decide +kernel⟩ 0 rfl rfl rfl dX10_swapIt_41 (Nat.le_of_ble_eq_true rfl) ⟨Nat.le_refl _, Nat.le_refl _⟩ (fun w : va_W => w) jFr_id rfl rfl (fun v w hvw => ?_)
          obtain ⟨rfl, rfl⟩ := hvw
          change J X 0 0 (wM t ad o m_m m_aside m_saved m_isSaved m_past m_changes m_errorAt m_failed m_thrown m_input m_inputMany m_fitting m_given m_pairs m_line m_lineMany m_letters m_begins0 m_commands m_commandMany m_place0 m_size0 m_isWrong) 44 [(0, .ref (ad o)), (1, .int a0), (2, .int a1), (3, .int a2)] [.int u11]
          refine j_istore hX [(4, .int u11), (0, .ref (ad o)), (1, .int a0), (2, .int a1), (3, .int a2)] dX10_swapIt_44 (by decide) rfl ?_
          refine j_aload_n hX dX10_swapIt_46 rfl 1 rfl ?_
          refine j_iload_n hX dX10_swapIt_47 rfl 2 rfl ?_
          refine j_iload_n hX dX10_swapIt_48 rfl 4 rfl ?_
          obtain ⟨u13, h14, hf⟩ := jbind hf
          refine j_callV (st := []) hX (k_X10_standing (l := l) (D := D) (t := t) (ad := ad) (o := o) m_m m_aside m_saved m_isSaved m_past m_changes m_errorAt m_failed m_thrown m_input m_inputMany m_fitting m_given m_pairs m_line m_lineMany m_letters m_begins0 m_commands m_commandMany m_place0 m_size0 m_isWrong a0 a2 u13 h14) q1506 q1507 q1953 q15 q1508 (n9 := 2) rfl ⟨by decide +kernel, by decide +kernel⟩ 0 rfl rfl rfl dX10_swapIt_49 (Nat.le_of_ble_eq_true rfl) ⟨Nat.le_refl _, Nat.le_refl _⟩ (fun w : va_W => w) jFr_id rfl rfl (fun v w hvw => ?_)
          obtain ⟨rfl, rfl⟩ := hvw
          change J X 0 0 (wM t ad o m_m m_aside m_saved m_isSaved m_past m_changes m_errorAt m_failed m_thrown m_input m_inputMany m_fitting m_given m_pairs m_line m_lineMany m_letters m_begins0 m_commands m_commandMany m_place0 m_size0 m_isWrong) 52 [(4, .int u11), (0, .ref (ad o)), (1, .int a0), (2, .int a1), (3, .int a2)] [.int u13]
          refine j_istore hX [(5, .int u13), (4, .int u11), (0, .ref (ad o)), (1, .int a0), (2, .int a1), (3, .int a2)] dX10_swapIt_52 (by decide) rfl ?_
          refine j_iload hX dX10_swapIt_54 1 rfl ?_
          refine j_iconst hX (-1) dX10_swapIt_56 (by decide) ?_
          refine j_icmp_eq hX 73 dX10_swapIt_57 (by decide) hf (fun c57 hf => ?_) (fun c57 hf => ?_)
          · refine j_iload hX dX10_swapIt_73 0 rfl ?_
            refine j_iconst hX (-1) dX10_swapIt_75 (by decide) ?_
            refine j_icmp_eq hX 92 dX10_swapIt_76 (by decide) hf (fun c76 hf => ?_) (fun c76 hf => ?_)
            · refine j_aload_n hX dX10_swapIt_92 rfl 2 rfl ?_
              refine j_iload_n hX dX10_swapIt_93 rfl 3 rfl ?_
              obtain ⟨u15, h16, hf⟩ := jbind hf
              refine j_callV (st := []) hX (k_X10_swaps (l := l) (D := D) (t := t) (ad := ad) (o := o) m_m m_aside m_saved m_isSaved m_past m_changes m_errorAt m_failed m_thrown m_input m_inputMany m_fitting m_given m_pairs m_line m_lineMany m_letters m_begins0 m_commands m_commandMany m_place0 m_size0 m_isWrong a0 u15 h16) q1536 q1537 q1958 q15 q1538 (n9 := 1) rfl ⟨by decide +kernel, by decide +kernel⟩ 0 rfl rfl rfl dX10_swapIt_94 (Nat.le_of_ble_eq_true rfl) ⟨Nat.le_refl _, Nat.le_refl _⟩ (fun w : va_W => w) jFr_id rfl rfl (fun v w hvw => ?_)
              obtain ⟨rfl, rfl⟩ := hvw
              change J X 0 0 (wM t ad o m_m m_aside m_saved m_isSaved m_past m_changes m_errorAt m_failed m_thrown m_input m_inputMany m_fitting m_given m_pairs m_line m_lineMany m_letters m_begins0 m_commands m_commandMany m_place0 m_size0 m_isWrong) 97 [(5, .int u13), (4, .int u11), (0, .ref (ad o)), (1, .int a0), (2, .int a1), (3, .int a2)] [.int u15]
              cases hf
              exact j_iret hX hE dX10_swapIt_97 (Nat.le_refl _) (Nat.le_refl _) ⟨rfl, rfl⟩
            · refine j_aload_n hX dX10_swapIt_79 rfl 2 rfl ?_
              refine j_get hX dX10_swapIt_80 inX10 0 q1455 0 rfl rfl (by decide) rfl rfl ?_
              refine j_iload hX dX10_swapIt_83 0 rfl ?_
              obtain ⟨u17, h18, hf⟩ := jbind hf
              refine j_callS (st := [.ref (ad (o + 1))]) hX (k_X10_hammerOf (l := l) (D := D) (t := t) (ad := ad)  u13 u17 h18) q1509 q1510 q15 q1511 (n9 := 1) rfl ⟨by decide +kernel, by decide +kernel⟩ dX10_swapIt_85 (Nat.le_of_ble_eq_true rfl) ⟨Nat.le_refl _, Nat.le_refl _⟩ (fun w : va_W => w ++ (wM t ad o m_m m_aside m_saved m_isSaved m_past m_changes m_errorAt m_failed m_thrown m_input m_inputMany m_fitting m_given m_pairs m_line m_lineMany m_letters m_begins0 m_commands m_commandMany m_place0 m_size0 m_isWrong)) (jFr_r (wM t ad o m_m m_aside m_saved m_isSaved m_past m_changes m_errorAt m_failed m_thrown m_input m_inputMany m_fitting m_given m_pairs m_line m_lineMany m_letters m_begins0 m_commands m_commandMany m_place0 m_size0 m_isWrong)) rfl rfl (fun v w hvw => ?_)
              obtain ⟨rfl, rfl⟩ := hvw
              change J X 0 0 (wM t ad o m_m m_aside m_saved m_isSaved m_past m_changes m_errorAt m_failed m_thrown m_input m_inputMany m_fitting m_given m_pairs m_line m_lineMany m_letters m_begins0 m_commands m_commandMany m_place0 m_size0 m_isWrong) 88 [(5, .int u13), (4, .int u11), (0, .ref (ad o)), (1, .int a0), (2, .int a1), (3, .int a2)] [.int u17, .ref (ad (o + 1))]
              refine j_iconst hX 3 dX10_swapIt_88 (by decide) ?_
              refine j_iadd hX dX10_swapIt_89 ?_
              refine j_iload_n hX dX10_swapIt_90 rfl 4 rfl ?_
              refine j_iast hX (wM t ad o (upd m_m (u17 + 3).toNatClampNeg a1) m_aside m_saved m_isSaved m_past m_changes m_errorAt m_failed m_thrown m_input m_inputMany m_fitting m_given m_pairs m_line m_lineMany m_letters m_begins0 m_commands m_commandMany m_place0 m_size0 m_isWrong) dX10_swapIt_91 1 0 rfl rfl rfl hf (fun c91 hf => ?_)
              refine j_aload_n hX dX10_swapIt_92 rfl 2 rfl ?_
              refine j_iload_n hX dX10_swapIt_93 rfl 3 rfl ?_
              obtain ⟨u19, h20, hf⟩ := jbind hf
              refine j_callV (st := []) hX (k_X10_swaps (l := l) (D := D) (t := t) (ad := ad) (o := o) (upd m_m (u17 + 3).toNatClampNeg a1) m_aside m_saved m_isSaved m_past m_changes m_errorAt m_failed m_thrown m_input m_inputMany m_fitting m_given m_pairs m_line m_lineMany m_letters m_begins0 m_commands m_commandMany m_place0 m_size0 m_isWrong a0 u19 h20) q1536 q1537 q1958 q15 q1538 (n9 := 1) rfl ⟨by decide +kernel, by decide +kernel⟩ 0 rfl rfl rfl dX10_swapIt_94 (Nat.le_of_ble_eq_true rfl) ⟨Nat.le_refl _, Nat.le_refl _⟩ (fun w : va_W => w) jFr_id rfl rfl (fun v w hvw => ?_)
              obtain ⟨rfl, rfl⟩ := hvw
              change J X 0 0 (wM t ad o (upd m_m (u17 + 3).toNatClampNeg a1) m_aside m_saved m_isSaved m_past m_changes m_errorAt m_failed m_thrown m_input m_inputMany m_fitting m_given m_pairs m_line m_lineMany m_letters m_begins0 m_commands m_commandMany m_place0 m_size0 m_isWrong) 97 [(5, .int u13), (4, .int u11), (0, .ref (ad o)), (1, .int a0), (2, .int a1), (3, .int a2)] [.int u19]
              cases hf
              exact j_iret hX hE dX10_swapIt_97 (Nat.le_refl _) (Nat.le_refl _) ⟨rfl, rfl⟩
          · refine j_aload_n hX dX10_swapIt_60 rfl 2 rfl ?_
            refine j_get hX dX10_swapIt_61 inX10 0 q1455 0 rfl rfl (by decide) rfl rfl ?_
            refine j_iload hX dX10_swapIt_64 1 rfl ?_
            obtain ⟨u21, h22, hf⟩ := jbind hf
            refine j_callS (st := [.ref (ad (o + 1))]) hX (k_X10_hammerOf (l := l) (D := D) (t := t) (ad := ad)  u11 u21 h22) q1509 q1510 q15 q1511 (n9 := 1) rfl ⟨by decide +kernel, by decide +kernel⟩ dX10_swapIt_66 (Nat.le_of_ble_eq_true rfl) ⟨Nat.le_refl _, Nat.le_refl _⟩ (fun w : va_W => w ++ (wM t ad o m_m m_aside m_saved m_isSaved m_past m_changes m_errorAt m_failed m_thrown m_input m_inputMany m_fitting m_given m_pairs m_line m_lineMany m_letters m_begins0 m_commands m_commandMany m_place0 m_size0 m_isWrong)) (jFr_r (wM t ad o m_m m_aside m_saved m_isSaved m_past m_changes m_errorAt m_failed m_thrown m_input m_inputMany m_fitting m_given m_pairs m_line m_lineMany m_letters m_begins0 m_commands m_commandMany m_place0 m_size0 m_isWrong)) rfl rfl (fun v w hvw => ?_)
            obtain ⟨rfl, rfl⟩ := hvw
            change J X 0 0 (wM t ad o m_m m_aside m_saved m_isSaved m_past m_changes m_errorAt m_failed m_thrown m_input m_inputMany m_fitting m_given m_pairs m_line m_lineMany m_letters m_begins0 m_commands m_commandMany m_place0 m_size0 m_isWrong) 69 [(5, .int u13), (4, .int u11), (0, .ref (ad o)), (1, .int a0), (2, .int a1), (3, .int a2)] [.int u21, .ref (ad (o + 1))]
            refine j_iconst hX 3 dX10_swapIt_69 (by decide) ?_
            refine j_iadd hX dX10_swapIt_70 ?_
            refine j_iload_n hX dX10_swapIt_71 rfl 5 rfl ?_
            refine j_iast hX (wM t ad o (upd m_m (u21 + 3).toNatClampNeg a2) m_aside m_saved m_isSaved m_past m_changes m_errorAt m_failed m_thrown m_input m_inputMany m_fitting m_given m_pairs m_line m_lineMany m_letters m_begins0 m_commands m_commandMany m_place0 m_size0 m_isWrong) dX10_swapIt_72 1 0 rfl rfl rfl hf (fun c72 hf => ?_)
            refine j_iload hX dX10_swapIt_73 0 rfl ?_
            refine j_iconst hX (-1) dX10_swapIt_75 (by decide) ?_
            refine j_icmp_eq hX 92 dX10_swapIt_76 (by decide) hf (fun c76 hf => ?_) (fun c76 hf => ?_)
            · refine j_aload_n hX dX10_swapIt_92 rfl 2 rfl ?_
              refine j_iload_n hX dX10_swapIt_93 rfl 3 rfl ?_
              obtain ⟨u23, h24, hf⟩ := jbind hf
              refine j_callV (st := []) hX (k_X10_swaps (l := l) (D := D) (t := t) (ad := ad) (o := o) (upd m_m (u21 + 3).toNatClampNeg a2) m_aside m_saved m_isSaved m_past m_changes m_errorAt m_failed m_thrown m_input m_inputMany m_fitting m_given m_pairs m_line m_lineMany m_letters m_begins0 m_commands m_commandMany m_place0 m_size0 m_isWrong a0 u23 h24) q1536 q1537 q1958 q15 q1538 (n9 := 1) rfl ⟨by decide +kernel, by decide +kernel⟩ 0 rfl rfl rfl dX10_swapIt_94 (Nat.le_of_ble_eq_true rfl) ⟨Nat.le_refl _, Nat.le_refl _⟩ (fun w : va_W => w) jFr_id rfl rfl (fun v w hvw => ?_)
              obtain ⟨rfl, rfl⟩ := hvw
              change J X 0 0 (wM t ad o (upd m_m (u21 + 3).toNatClampNeg a2) m_aside m_saved m_isSaved m_past m_changes m_errorAt m_failed m_thrown m_input m_inputMany m_fitting m_given m_pairs m_line m_lineMany m_letters m_begins0 m_commands m_commandMany m_place0 m_size0 m_isWrong) 97 [(5, .int u13), (4, .int u11), (0, .ref (ad o)), (1, .int a0), (2, .int a1), (3, .int a2)] [.int u23]
              cases hf
              exact j_iret hX hE dX10_swapIt_97 (Nat.le_refl _) (Nat.le_refl _) ⟨rfl, rfl⟩
            · refine j_aload_n hX dX10_swapIt_79 rfl 2 rfl ?_
              refine j_get hX dX10_swapIt_80 inX10 0 q1455 0 rfl rfl (by decide) rfl rfl ?_
              refine j_iload hX dX10_swapIt_83 0 rfl ?_
              obtain ⟨u25, h26, hf⟩ := jbind hf
              refine j_callS (st := [.ref (ad (o + 1))]) hX (k_X10_hammerOf (l := l) (D := D) (t := t) (ad := ad)  u13 u25 h26) q1509 q1510 q15 q1511 (n9 := 1) rfl ⟨by decide +kernel, by decide +kernel⟩ dX10_swapIt_85 (Nat.le_of_ble_eq_true rfl) ⟨Nat.le_refl _, Nat.le_refl _⟩ (fun w : va_W => w ++ (wM t ad o (upd m_m (u21 + 3).toNatClampNeg a2) m_aside m_saved m_isSaved m_past m_changes m_errorAt m_failed m_thrown m_input m_inputMany m_fitting m_given m_pairs m_line m_lineMany m_letters m_begins0 m_commands m_commandMany m_place0 m_size0 m_isWrong)) (jFr_r (wM t ad o (upd m_m (u21 + 3).toNatClampNeg a2) m_aside m_saved m_isSaved m_past m_changes m_errorAt m_failed m_thrown m_input m_inputMany m_fitting m_given m_pairs m_line m_lineMany m_letters m_begins0 m_commands m_commandMany m_place0 m_size0 m_isWrong)) rfl rfl (fun v w hvw => ?_)
              obtain ⟨rfl, rfl⟩ := hvw
              change J X 0 0 (wM t ad o (upd m_m (u21 + 3).toNatClampNeg a2) m_aside m_saved m_isSaved m_past m_changes m_errorAt m_failed m_thrown m_input m_inputMany m_fitting m_given m_pairs m_line m_lineMany m_letters m_begins0 m_commands m_commandMany m_place0 m_size0 m_isWrong) 88 [(5, .int u13), (4, .int u11), (0, .ref (ad o)), (1, .int a0), (2, .int a1), (3, .int a2)] [.int u25, .ref (ad (o + 1))]
              refine j_iconst hX 3 dX10_swapIt_88 (by decide) ?_
              refine j_iadd hX dX10_swapIt_89 ?_
              refine j_iload_n hX dX10_swapIt_90 rfl 4 rfl ?_
              refine j_iast hX (wM t ad o (upd (upd m_m (u21 + 3).toNatClampNeg a2) (u25 + 3).toNatClampNeg a1) m_aside m_saved m_isSaved m_past m_changes m_errorAt m_failed m_thrown m_input m_inputMany m_fitting m_given m_pairs m_line m_lineMany m_letters m_begins0 m_commands m_commandMany m_place0 m_size0 m_isWrong) dX10_swapIt_91 1 0 rfl rfl rfl hf (fun c91 hf => ?_)
              refine j_aload_n hX dX10_swapIt_92 rfl 2 rfl ?_
              refine j_iload_n hX dX10_swapIt_93 rfl 3 rfl ?_
              obtain ⟨u27, h28, hf⟩ := jbind hf
              refine j_callV (st := []) hX (k_X10_swaps (l := l) (D := D) (t := t) (ad := ad) (o := o) (upd (upd m_m (u21 + 3).toNatClampNeg a2) (u25 + 3).toNatClampNeg a1) m_aside m_saved m_isSaved m_past m_changes m_errorAt m_failed m_thrown m_input m_inputMany m_fitting m_given m_pairs m_line m_lineMany m_letters m_begins0 m_commands m_commandMany m_place0 m_size0 m_isWrong a0 u27 h28) q1536 q1537 q1958 q15 q1538 (n9 := 1) rfl ⟨by decide +kernel, by decide +kernel⟩ 0 rfl rfl rfl dX10_swapIt_94 (Nat.le_of_ble_eq_true rfl) ⟨Nat.le_refl _, Nat.le_refl _⟩ (fun w : va_W => w) jFr_id rfl rfl (fun v w hvw => ?_)
              obtain ⟨rfl, rfl⟩ := hvw
              change J X 0 0 (wM t ad o (upd (upd m_m (u21 + 3).toNatClampNeg a2) (u25 + 3).toNatClampNeg a1) m_aside m_saved m_isSaved m_past m_changes m_errorAt m_failed m_thrown m_input m_inputMany m_fitting m_given m_pairs m_line m_lineMany m_letters m_begins0 m_commands m_commandMany m_place0 m_size0 m_isWrong) 97 [(5, .int u13), (4, .int u11), (0, .ref (ad o)), (1, .int a0), (2, .int a1), (3, .int a2)] [.int u27]
              cases hf
              exact j_iret hX hE dX10_swapIt_97 (Nat.le_refl _) (Nat.le_refl _) ⟨rfl, rfl⟩
        · refine j_aload_n hX dX10_swapIt_32 rfl 0 rfl ?_
          refine j_iconst hX 2 dX10_swapIt_33 (by decide) ?_
          obtain ⟨u29, h30, hf⟩ := jbind hf
          refine j_callV (st := []) hX (k_X10_throwing (l := l) (D := D) (t := t) (ad := ad) (o := o) m_m m_aside m_saved m_isSaved m_past m_changes m_errorAt m_failed m_thrown m_input m_inputMany m_fitting m_given m_pairs m_line m_lineMany m_letters m_begins0 m_commands m_commandMany m_place0 m_size0 m_isWrong 2 u29 h30) q1496 q1497 q1951 q15 q1498 (n9 := 1) rfl ⟨by decide +kernel, by decide +kernel⟩ 0 rfl rfl rfl dX10_swapIt_34 (Nat.le_of_ble_eq_true rfl) ⟨Nat.le_refl _, Nat.le_refl _⟩ (fun w : va_W => w) jFr_id rfl rfl (fun v w hvw => ?_)
          obtain ⟨rfl, rfl⟩ := hvw
          change J X 0 0 (wM t ad o m_m m_aside m_saved m_isSaved m_past m_changes m_errorAt m_failed u29.2 m_input m_inputMany m_fitting m_given m_pairs m_line m_lineMany m_letters m_begins0 m_commands m_commandMany m_place0 m_size0 m_isWrong) 37 [(0, .ref (ad o)), (1, .int a0), (2, .int a1), (3, .int a2)] [.int u29.1]
          cases hf
          exact j_iret hX hE dX10_swapIt_37 (Nat.le_refl _) (Nat.le_refl _) ⟨rfl, rfl⟩
      · refine j_aload_n hX dX10_swapIt_21 rfl 0 rfl ?_
        refine j_iconst hX 1 dX10_swapIt_22 (by decide) ?_
        obtain ⟨u31, h32, hf⟩ := jbind hf
        refine j_callV (st := []) hX (k_X10_throwing (l := l) (D := D) (t := t) (ad := ad) (o := o) m_m m_aside m_saved m_isSaved m_past m_changes m_errorAt m_failed m_thrown m_input m_inputMany m_fitting m_given m_pairs m_line m_lineMany m_letters m_begins0 m_commands m_commandMany m_place0 m_size0 m_isWrong 1 u31 h32) q1496 q1497 q1951 q15 q1498 (n9 := 1) rfl ⟨by decide +kernel, by decide +kernel⟩ 0 rfl rfl rfl dX10_swapIt_23 (Nat.le_of_ble_eq_true rfl) ⟨Nat.le_refl _, Nat.le_refl _⟩ (fun w : va_W => w) jFr_id rfl rfl (fun v w hvw => ?_)
        obtain ⟨rfl, rfl⟩ := hvw
        change J X 0 0 (wM t ad o m_m m_aside m_saved m_isSaved m_past m_changes m_errorAt m_failed u31.2 m_input m_inputMany m_fitting m_given m_pairs m_line m_lineMany m_letters m_begins0 m_commands m_commandMany m_place0 m_size0 m_isWrong) 26 [(0, .ref (ad o)), (1, .int a0), (2, .int a1), (3, .int a2)] [.int u31.1]
        cases hf
        exact j_iret hX hE dX10_swapIt_26 (Nat.le_refl _) (Nat.le_refl _) ⟨rfl, rfl⟩
-- HammerDepotModel swapPlaces (III)I
def f_X10_swapPlaces (m_m : Nat → Int32) (m_aside : Nat → Int32) (m_past : Nat → Int32) (m_changes : Int32) (m_thrown : Int32) (a0 : Int32) (a1 : Int32) (a2 : Int32) : Option (Int32 × (Nat → Int32) × (Nat → Int32) × (Nat → Int32) × Int32 × Int32) :=
  Option.bind (f_X10_starts m_m m_aside m_thrown) (fun u1 =>
    Option.bind (f_X10_swapIt m_m u1.2 a0 a1 a2) (fun u3 =>
      Option.bind (f_X10_changed u1.1 m_past m_changes u3.2.2 u3.1) (fun u5 =>
        some (u5.1, u3.2.1, u1.1, u5.2.1, u5.2.2, u3.2.2))))
set_option maxHeartbeats 4000000 in
set_option maxRecDepth 100000 in
theorem k_X10_swapPlaces {l : Launch} {D : va_G} {t : Nat → ClassId} {ad : Nat → Nat} {o : Nat} (m_m : Nat → Int32) (m_aside : Nat → Int32) (m_saved : Nat → Int32) (m_isSaved : Int32) (m_past : Nat → Int32) (m_changes : Int32) (m_errorAt : Int32) (m_failed : Int32) (m_thrown : Int32) (m_input : Nat → Int32) (m_inputMany : Int32) (m_fitting : Nat → Int32) (m_given : Nat → Int32) (m_pairs : Nat → Int32) (m_line : Nat → Int32) (m_lineMany : Int32) (m_letters : Nat → Int32) (m_begins0 : Nat → Int32) (m_commands : Nat → Int32) (m_commandMany : Int32) (m_place0 : Int32) (m_size0 : Int32) (m_isWrong : Int32) (a0 : Int32) (a1 : Int32) (a2 : Int32) (u : Int32 × (Nat → Int32) × (Nat → Int32) × (Nat → Int32) × Int32 × Int32) (hf : f_X10_swapPlaces m_m m_aside m_past m_changes m_thrown a0 a1 a2 = some u) : cm l D (jT t) yX10_swapPlaces cX10_swapPlaces 4 (some FieldType.int) { frames := 5, cells := 0, slots := 0, locals := 118 } [.ref (ad o), .int a0, .int a1, .int a2] (wM t ad o m_m m_aside m_saved m_isSaved m_past m_changes m_errorAt m_failed m_thrown m_input m_inputMany m_fitting m_given m_pairs m_line m_lineMany m_letters m_begins0 m_commands m_commandMany m_place0 m_size0 m_isWrong) (fun v w => v = (some (.int u.1)) ∧ w = wM t ad o u.2.1 u.2.2.1 m_saved m_isSaved u.2.2.2.1 u.2.2.2.2.1 m_errorAt m_failed u.2.2.2.2.2 m_input m_inputMany m_fitting m_given m_pairs m_line m_lineMany m_letters m_begins0 m_commands m_commandMany m_place0 m_size0 m_isWrong) := by
  refine cm_of RX10 rfl (by decide +kernel) (Nat.le_of_ble_eq_true rfl) (fun X hX hE => ?_)
  change J X 0 0 (wM t ad o m_m m_aside m_saved m_isSaved m_past m_changes m_errorAt m_failed m_thrown m_input m_inputMany m_fitting m_given m_pairs m_line m_lineMany m_letters m_begins0 m_commands m_commandMany m_place0 m_size0 m_isWrong) 0 [(0, .ref (ad o)), (1, .int a0), (2, .int a1), (3, .int a2)] []
  unfold f_X10_swapPlaces at hf
  refine j_aload_n hX dX10_swapPlaces_0 rfl 0 rfl ?_
  obtain ⟨u1, h2, hf⟩ := jbind hf
  refine j_callV (st := []) hX (k_X10_starts (l := l) (D := D) (t := t) (ad := ad) (o := o) m_m m_aside m_saved m_isSaved m_past m_changes m_errorAt m_failed m_thrown m_input m_inputMany m_fitting m_given m_pairs m_line m_lineMany m_letters m_begins0 m_commands m_commandMany m_place0 m_size0 m_isWrong  u1 h2) q1486 q1487 q1949 q15 q1488 (n9 := 0) rfl ⟨by decide +kernel, by decide +kernel⟩ 0 rfl rfl rfl dX10_swapPlaces_1 (Nat.le_of_ble_eq_true rfl) ⟨Nat.le_refl _, Nat.le_refl _⟩ (fun w : va_W => w) jFr_id rfl rfl (fun v w hvw => ?_)
  obtain ⟨rfl, rfl⟩ := hvw
  change J X 0 0 (wM t ad o m_m u1.1 m_saved m_isSaved m_past m_changes m_errorAt m_failed u1.2 m_input m_inputMany m_fitting m_given m_pairs m_line m_lineMany m_letters m_begins0 m_commands m_commandMany m_place0 m_size0 m_isWrong) 4 [(0, .ref (ad o)), (1, .int a0), (2, .int a1), (3, .int a2)] []
  refine j_aload_n hX dX10_swapPlaces_4 rfl 0 rfl ?_
  refine j_aload_n hX dX10_swapPlaces_5 rfl 0 rfl ?_
  refine j_iload_n hX dX10_swapPlaces_6 rfl 1 rfl ?_
  refine j_iload_n hX dX10_swapPlaces_7 rfl 2 rfl ?_
  refine j_iload_n hX dX10_swapPlaces_8 rfl 3 rfl ?_
  obtain ⟨u3, h4, hf⟩ := jbind hf
  refine j_callV (st := [.ref (ad o)]) hX (k_X10_swapIt (l := l) (D := D) (t := t) (ad := ad) (o := o) m_m u1.1 m_saved m_isSaved m_past m_changes m_errorAt m_failed u1.2 m_input m_inputMany m_fitting m_given m_pairs m_line m_lineMany m_letters m_begins0 m_commands m_commandMany m_place0 m_size0 m_isWrong a0 a1 a2 u3 h4) q1529 q1530 q1957 q15 q1531 (n9 := 3) rfl ⟨by decide +kernel, by decide +kernel⟩ 0 rfl rfl rfl dX10_swapPlaces_9 (Nat.le_of_ble_eq_true rfl) ⟨Nat.le_refl _, Nat.le_refl _⟩ (fun w : va_W => w) jFr_id rfl rfl (fun v w hvw => ?_)
  obtain ⟨rfl, rfl⟩ := hvw
  change J X 0 0 (wM t ad o u3.2.1 u1.1 m_saved m_isSaved m_past m_changes m_errorAt m_failed u3.2.2 m_input m_inputMany m_fitting m_given m_pairs m_line m_lineMany m_letters m_begins0 m_commands m_commandMany m_place0 m_size0 m_isWrong) 12 [(0, .ref (ad o)), (1, .int a0), (2, .int a1), (3, .int a2)] [.int u3.1, .ref (ad o)]
  obtain ⟨u5, h6, hf⟩ := jbind hf
  refine j_callV (st := []) hX (k_X10_changed (l := l) (D := D) (t := t) (ad := ad) (o := o) u3.2.1 u1.1 m_saved m_isSaved m_past m_changes m_errorAt m_failed u3.2.2 m_input m_inputMany m_fitting m_given m_pairs m_line m_lineMany m_letters m_begins0 m_commands m_commandMany m_place0 m_size0 m_isWrong u3.1 u5 h6) q1512 q1513 q1954 q15 q1514 (n9 := 1) rfl ⟨by decide +kernel, by decide +kernel⟩ 0 rfl rfl rfl dX10_swapPlaces_12 (Nat.le_of_ble_eq_true rfl) ⟨Nat.le_refl _, Nat.le_refl _⟩ (fun w : va_W => w) jFr_id rfl rfl (fun v w hvw => ?_)
  obtain ⟨rfl, rfl⟩ := hvw
  change J X 0 0 (wM t ad o u3.2.1 u1.1 m_saved m_isSaved u5.2.1 u5.2.2 m_errorAt m_failed u3.2.2 m_input m_inputMany m_fitting m_given m_pairs m_line m_lineMany m_letters m_begins0 m_commands m_commandMany m_place0 m_size0 m_isWrong) 15 [(0, .ref (ad o)), (1, .int a0), (2, .int a1), (3, .int a2)] [.int u5.1]
  cases hf
  exact j_iret hX hE dX10_swapPlaces_15 (Nat.le_refl _) (Nat.le_refl _) ⟨rfl, rfl⟩
-- HammerDepotModel askIt (IIIII)I
def f_X10_askIt (m_m : Nat → Int32) (m_thrown : Int32) (a0 : Int32) (a1 : Int32) (a2 : Int32) (a3 : Int32) (a4 : Int32) : Option (Int32 × (Nat → Int32) × Int32) :=
  Option.bind (f_X10_in ((a0).toInt64) (0 : Int64) (9 : Int64)) (fun u1 =>
    if u1 = 0 then
      Option.bind (f_X10_throwing m_thrown 1) (fun u3 =>
        some (u3.1, m_m, u3.2))
    else
      Option.bind (f_X10_in ((a1).toInt64) (0 : Int64) (60 : Int64)) (fun u5 =>
        if u5 = 0 then
          Option.bind (f_X10_throwing m_thrown 1) (fun u7 =>
            some (u7.1, m_m, u7.2))
        else
          Option.bind (f_X10_in ((a2).toInt64) (0 : Int64) (12 : Int64)) (fun u9 =>
            if u9 = 0 then
              Option.bind (f_X10_throwing m_thrown 1) (fun u11 =>
                some (u11.1, m_m, u11.2))
            else
              if jin 1 2048 = true then
                if a3 ≤ (m_m (1 : Int32).toNatClampNeg) then
                  Option.bind (f_X10_throwing m_thrown 1) (fun u13 =>
                    some (u13.1, m_m, u13.2))
                else
                  if a4 < a3 then
                    Option.bind (f_X10_throwing m_thrown 1) (fun u15 =>
                      some (u15.1, m_m, u15.2))
                  else
                    if jin 1 2048 = true then
                      if a4 ≤ ((m_m (1 : Int32).toNatClampNeg) + 40) then
                        if jin 4 2048 = true then
                          if (m_m (4 : Int32).toNatClampNeg) = 8 then
                            Option.bind (f_X10_throwing m_thrown 2) (fun u19 =>
                              some (u19.1, m_m, u19.2))
                          else
                            if jin 4 2048 = true then
                              Option.bind (f_X10_requestOf (m_m (4 : Int32).toNatClampNeg)) (fun u17 =>
                                if jin 3 2048 = true then
                                  if jin u17 2048 = true then
                                    if jin (u17 + 1) 2048 = true then
                                      if jin (u17 + 2) 2048 = true then
                                        if jin (u17 + 3) 2048 = true then
                                          if jin (u17 + 4) 2048 = true then
                                            if jin (u17 + 5) 2048 = true then
                                              if jin 4 2048 = true then
                                                if jin 4 2048 = true then
                                                  if jin 3 2048 = true then
                                                    if jin 3 2048 = true then
                                                      if jin u17 2048 = true then
                                                        some ((upd (upd (upd (upd (upd (upd (upd (upd m_m (u17).toNatClampNeg (m_m (3 : Int32).toNatClampNeg)) (u17 + 1).toNatClampNeg a0) (u17 + 2).toNatClampNeg a1) (u17 + 3).toNatClampNeg a2) (u17 + 4).toNatClampNeg a3) (u17 + 5).toNatClampNeg a4) (4 : Int32).toNatClampNeg (((upd (upd (upd (upd (upd (upd m_m (u17).toNatClampNeg (m_m (3 : Int32).toNatClampNeg)) (u17 + 1).toNatClampNeg a0) (u17 + 2).toNatClampNeg a1) (u17 + 3).toNatClampNeg a2) (u17 + 4).toNatClampNeg a3) (u17 + 5).toNatClampNeg a4) (4 : Int32).toNatClampNeg) + 1)) (3 : Int32).toNatClampNeg (((upd (upd (upd (upd (upd (upd (upd m_m (u17).toNatClampNeg (m_m (3 : Int32).toNatClampNeg)) (u17 + 1).toNatClampNeg a0) (u17 + 2).toNatClampNeg a1) (u17 + 3).toNatClampNeg a2) (u17 + 4).toNatClampNeg a3) (u17 + 5).toNatClampNeg a4) (4 : Int32).toNatClampNeg (((upd (upd (upd (upd (upd (upd m_m (u17).toNatClampNeg (m_m (3 : Int32).toNatClampNeg)) (u17 + 1).toNatClampNeg a0) (u17 + 2).toNatClampNeg a1) (u17 + 3).toNatClampNeg a2) (u17 + 4).toNatClampNeg a3) (u17 + 5).toNatClampNeg a4) (4 : Int32).toNatClampNeg) + 1)) (3 : Int32).toNatClampNeg) + 1)) (u17).toNatClampNeg, upd (upd (upd (upd (upd (upd (upd (upd m_m (u17).toNatClampNeg (m_m (3 : Int32).toNatClampNeg)) (u17 + 1).toNatClampNeg a0) (u17 + 2).toNatClampNeg a1) (u17 + 3).toNatClampNeg a2) (u17 + 4).toNatClampNeg a3) (u17 + 5).toNatClampNeg a4) (4 : Int32).toNatClampNeg (((upd (upd (upd (upd (upd (upd m_m (u17).toNatClampNeg (m_m (3 : Int32).toNatClampNeg)) (u17 + 1).toNatClampNeg a0) (u17 + 2).toNatClampNeg a1) (u17 + 3).toNatClampNeg a2) (u17 + 4).toNatClampNeg a3) (u17 + 5).toNatClampNeg a4) (4 : Int32).toNatClampNeg) + 1)) (3 : Int32).toNatClampNeg (((upd (upd (upd (upd (upd (upd (upd m_m (u17).toNatClampNeg (m_m (3 : Int32).toNatClampNeg)) (u17 + 1).toNatClampNeg a0) (u17 + 2).toNatClampNeg a1) (u17 + 3).toNatClampNeg a2) (u17 + 4).toNatClampNeg a3) (u17 + 5).toNatClampNeg a4) (4 : Int32).toNatClampNeg (((upd (upd (upd (upd (upd (upd m_m (u17).toNatClampNeg (m_m (3 : Int32).toNatClampNeg)) (u17 + 1).toNatClampNeg a0) (u17 + 2).toNatClampNeg a1) (u17 + 3).toNatClampNeg a2) (u17 + 4).toNatClampNeg a3) (u17 + 5).toNatClampNeg a4) (4 : Int32).toNatClampNeg) + 1)) (3 : Int32).toNatClampNeg) + 1), m_thrown)
                                                      else none
                                                    else none
                                                  else none
                                                else none
                                              else none
                                            else none
                                          else none
                                        else none
                                      else none
                                    else none
                                  else none
                                else none)
                            else none
                        else none
                      else
                        Option.bind (f_X10_throwing m_thrown 1) (fun u21 =>
                          some (u21.1, m_m, u21.2))
                    else none
              else none)))
set_option maxHeartbeats 4000000 in
set_option maxRecDepth 100000 in
theorem k_X10_askIt {l : Launch} {D : va_G} {t : Nat → ClassId} {ad : Nat → Nat} {o : Nat} (m_m : Nat → Int32) (m_aside : Nat → Int32) (m_saved : Nat → Int32) (m_isSaved : Int32) (m_past : Nat → Int32) (m_changes : Int32) (m_errorAt : Int32) (m_failed : Int32) (m_thrown : Int32) (m_input : Nat → Int32) (m_inputMany : Int32) (m_fitting : Nat → Int32) (m_given : Nat → Int32) (m_pairs : Nat → Int32) (m_line : Nat → Int32) (m_lineMany : Int32) (m_letters : Nat → Int32) (m_begins0 : Nat → Int32) (m_commands : Nat → Int32) (m_commandMany : Int32) (m_place0 : Int32) (m_size0 : Int32) (m_isWrong : Int32) (a0 : Int32) (a1 : Int32) (a2 : Int32) (a3 : Int32) (a4 : Int32) (u : Int32 × (Nat → Int32) × Int32) (hf : f_X10_askIt m_m m_thrown a0 a1 a2 a3 a4 = some u) : cm l D (jT t) yX10_askIt cX10_askIt 8 (some FieldType.int) { frames := 1, cells := 0, slots := 0, locals := 25 } [.ref (ad o), .int a0, .int a1, .int a2, .int a3, .int a4] (wM t ad o m_m m_aside m_saved m_isSaved m_past m_changes m_errorAt m_failed m_thrown m_input m_inputMany m_fitting m_given m_pairs m_line m_lineMany m_letters m_begins0 m_commands m_commandMany m_place0 m_size0 m_isWrong) (fun v w => v = (some (.int u.1)) ∧ w = wM t ad o u.2.1 m_aside m_saved m_isSaved m_past m_changes m_errorAt m_failed u.2.2 m_input m_inputMany m_fitting m_given m_pairs m_line m_lineMany m_letters m_begins0 m_commands m_commandMany m_place0 m_size0 m_isWrong) := by
  refine cm_of RX10 rfl (by decide +kernel) (Nat.le_of_ble_eq_true rfl) (fun X hX hE => ?_)
  change J X 0 0 (wM t ad o m_m m_aside m_saved m_isSaved m_past m_changes m_errorAt m_failed m_thrown m_input m_inputMany m_fitting m_given m_pairs m_line m_lineMany m_letters m_begins0 m_commands m_commandMany m_place0 m_size0 m_isWrong) 0 [(0, .ref (ad o)), (1, .int a0), (2, .int a1), (3, .int a2), (4, .int a3), (5, .int a4)] []
  unfold f_X10_askIt at hf
  refine j_iload_n hX dX10_askIt_0 rfl 1 rfl ?_
  refine j_i2l hX dX10_askIt_1 ?_
  refine j_lconst hX 0 dX10_askIt_2 (by decide) ?_
  refine j_ldc2 hX q1552 dX10_askIt_3 ?_
  obtain ⟨u1, h2, hf⟩ := jbind hf
  refine j_callS (st := []) hX (k_X10_in (l := l) (D := D) (t := t) (ad := ad)  ((a0).toInt64) (0 : Int64) (9 : Int64) u1 h2) q1493 q1494 q15 q1495 (n9 := 3) rfl ⟨by decide +kernel, by decide +kernel⟩ dX10_askIt_6 (Nat.le_of_ble_eq_true rfl) ⟨Nat.le_refl _, Nat.le_refl _⟩ (fun w : va_W => w ++ (wM t ad o m_m m_aside m_saved m_isSaved m_past m_changes m_errorAt m_failed m_thrown m_input m_inputMany m_fitting m_given m_pairs m_line m_lineMany m_letters m_begins0 m_commands m_commandMany m_place0 m_size0 m_isWrong)) (jFr_r (wM t ad o m_m m_aside m_saved m_isSaved m_past m_changes m_errorAt m_failed m_thrown m_input m_inputMany m_fitting m_given m_pairs m_line m_lineMany m_letters m_begins0 m_commands m_commandMany m_place0 m_size0 m_isWrong)) rfl rfl (fun v w hvw => ?_)
  obtain ⟨rfl, rfl⟩ := hvw
  change J X 0 0 (wM t ad o m_m m_aside m_saved m_isSaved m_past m_changes m_errorAt m_failed m_thrown m_input m_inputMany m_fitting m_given m_pairs m_line m_lineMany m_letters m_begins0 m_commands m_commandMany m_place0 m_size0 m_isWrong) 9 [(0, .ref (ad o)), (1, .int a0), (2, .int a1), (3, .int a2), (4, .int a3), (5, .int a4)] [.int u1]
  refine j_if_eq hX 40 dX10_askIt_9 (by decide) hf (fun c9 hf => ?_) (fun c9 hf => ?_)
  · refine j_iconst hX 0 dX10_askIt_40 (by decide) ?_
    refine j_istore hX [(6, .int 0), (0, .ref (ad o)), (1, .int a0), (2, .int a1), (3, .int a2), (4, .int a3), (5, .int a4)] dX10_askIt_41 (by decide) rfl ?_
    refine j_iload hX dX10_askIt_43 0 rfl ?_
    refine j_if_eq (α := Unit) (F := none) (G := none) (o := none) hX 80 dX10_askIt_45 (by decide) (ite_self none) (fun c45 _ => ?_) (fun c45 _ => absurd c45 (by decide))
    refine j_aload_n hX dX10_askIt_80 rfl 1 rfl ?_
    refine j_iconst hX 1 dX10_askIt_81 (by decide) ?_
    obtain ⟨u3, h4, hf⟩ := jbind hf
    refine j_callV (st := []) hX (k_X10_throwing (l := l) (D := D) (t := t) (ad := ad) (o := o) m_m m_aside m_saved m_isSaved m_past m_changes m_errorAt m_failed m_thrown m_input m_inputMany m_fitting m_given m_pairs m_line m_lineMany m_letters m_begins0 m_commands m_commandMany m_place0 m_size0 m_isWrong 1 u3 h4) q1496 q1497 q1951 q15 q1498 (n9 := 1) rfl ⟨by decide +kernel, by decide +kernel⟩ 0 rfl rfl rfl dX10_askIt_82 (Nat.le_of_ble_eq_true rfl) ⟨Nat.le_refl _, Nat.le_refl _⟩ (fun w : va_W => w) jFr_id rfl rfl (fun v w hvw => ?_)
    obtain ⟨rfl, rfl⟩ := hvw
    change J X 0 0 (wM t ad o m_m m_aside m_saved m_isSaved m_past m_changes m_errorAt m_failed u3.2 m_input m_inputMany m_fitting m_given m_pairs m_line m_lineMany m_letters m_begins0 m_commands m_commandMany m_place0 m_size0 m_isWrong) 85 [(6, .int 0), (0, .ref (ad o)), (1, .int a0), (2, .int a1), (3, .int a2), (4, .int a3), (5, .int a4)] [.int u3.1]
    cases hf
    exact j_iret hX hE dX10_askIt_85 (Nat.le_refl _) (Nat.le_refl _) ⟨rfl, rfl⟩
  · refine j_iload_n hX dX10_askIt_12 rfl 2 rfl ?_
    refine j_i2l hX dX10_askIt_13 ?_
    refine j_lconst hX 0 dX10_askIt_14 (by decide) ?_
    refine j_ldc2 hX q1492 dX10_askIt_15 ?_
    obtain ⟨u5, h6, hf⟩ := jbind hf
    refine j_callS (st := []) hX (k_X10_in (l := l) (D := D) (t := t) (ad := ad)  ((a1).toInt64) (0 : Int64) (60 : Int64) u5 h6) q1493 q1494 q15 q1495 (n9 := 3) rfl ⟨by decide +kernel, by decide +kernel⟩ dX10_askIt_18 (Nat.le_of_ble_eq_true rfl) ⟨Nat.le_refl _, Nat.le_refl _⟩ (fun w : va_W => w ++ (wM t ad o m_m m_aside m_saved m_isSaved m_past m_changes m_errorAt m_failed m_thrown m_input m_inputMany m_fitting m_given m_pairs m_line m_lineMany m_letters m_begins0 m_commands m_commandMany m_place0 m_size0 m_isWrong)) (jFr_r (wM t ad o m_m m_aside m_saved m_isSaved m_past m_changes m_errorAt m_failed m_thrown m_input m_inputMany m_fitting m_given m_pairs m_line m_lineMany m_letters m_begins0 m_commands m_commandMany m_place0 m_size0 m_isWrong)) rfl rfl (fun v w hvw => ?_)
    obtain ⟨rfl, rfl⟩ := hvw
    change J X 0 0 (wM t ad o m_m m_aside m_saved m_isSaved m_past m_changes m_errorAt m_failed m_thrown m_input m_inputMany m_fitting m_given m_pairs m_line m_lineMany m_letters m_begins0 m_commands m_commandMany m_place0 m_size0 m_isWrong) 21 [(0, .ref (ad o)), (1, .int a0), (2, .int a1), (3, .int a2), (4, .int a3), (5, .int a4)] [.int u5]
    refine j_if_eq hX 40 dX10_askIt_21 (by decide) hf (fun c21 hf => ?_) (fun c21 hf => ?_)
    · refine j_iconst hX 0 dX10_askIt_40 (by decide) ?_
      refine j_istore hX [(6, .int 0), (0, .ref (ad o)), (1, .int a0), (2, .int a1), (3, .int a2), (4, .int a3), (5, .int a4)] dX10_askIt_41 (by decide) rfl ?_
      refine j_iload hX dX10_askIt_43 0 rfl ?_
      refine j_if_eq (α := Unit) (F := none) (G := none) (o := none) hX 80 dX10_askIt_45 (by decide) (ite_self none) (fun c45 _ => ?_) (fun c45 _ => absurd c45 (by decide))
      refine j_aload_n hX dX10_askIt_80 rfl 1 rfl ?_
      refine j_iconst hX 1 dX10_askIt_81 (by decide) ?_
      obtain ⟨u7, h8, hf⟩ := jbind hf
      refine j_callV (st := []) hX (k_X10_throwing (l := l) (D := D) (t := t) (ad := ad) (o := o) m_m m_aside m_saved m_isSaved m_past m_changes m_errorAt m_failed m_thrown m_input m_inputMany m_fitting m_given m_pairs m_line m_lineMany m_letters m_begins0 m_commands m_commandMany m_place0 m_size0 m_isWrong 1 u7 h8) q1496 q1497 q1951 q15 q1498 (n9 := 1) rfl ⟨by decide +kernel, by decide +kernel⟩ 0 rfl rfl rfl dX10_askIt_82 (Nat.le_of_ble_eq_true rfl) ⟨Nat.le_refl _, Nat.le_refl _⟩ (fun w : va_W => w) jFr_id rfl rfl (fun v w hvw => ?_)
      obtain ⟨rfl, rfl⟩ := hvw
      change J X 0 0 (wM t ad o m_m m_aside m_saved m_isSaved m_past m_changes m_errorAt m_failed u7.2 m_input m_inputMany m_fitting m_given m_pairs m_line m_lineMany m_letters m_begins0 m_commands m_commandMany m_place0 m_size0 m_isWrong) 85 [(6, .int 0), (0, .ref (ad o)), (1, .int a0), (2, .int a1), (3, .int a2), (4, .int a3), (5, .int a4)] [.int u7.1]
      cases hf
      exact j_iret hX hE dX10_askIt_85 (Nat.le_refl _) (Nat.le_refl _) ⟨rfl, rfl⟩
    · refine j_iload_n hX dX10_askIt_24 rfl 3 rfl ?_
      refine j_i2l hX dX10_askIt_25 ?_
      refine j_lconst hX 0 dX10_askIt_26 (by decide) ?_
      refine j_ldc2 hX q1553 dX10_askIt_27 ?_
      obtain ⟨u9, h10, hf⟩ := jbind hf
      refine j_callS (st := []) hX (k_X10_in (l := l) (D := D) (t := t) (ad := ad)  ((a2).toInt64) (0 : Int64) (12 : Int64) u9 h10) q1493 q1494 q15 q1495 (n9 := 3) rfl ⟨by decide +kernel, by decide +kernel⟩ dX10_askIt_30 (Nat.le_of_ble_eq_true rfl) ⟨Nat.le_refl _, Nat.le_refl _⟩ (fun w : va_W => w ++ (wM t ad o m_m m_aside m_saved m_isSaved m_past m_changes m_errorAt m_failed m_thrown m_input m_inputMany m_fitting m_given m_pairs m_line m_lineMany m_letters m_begins0 m_commands m_commandMany m_place0 m_size0 m_isWrong)) (jFr_r (wM t ad o m_m m_aside m_saved m_isSaved m_past m_changes m_errorAt m_failed m_thrown m_input m_inputMany m_fitting m_given m_pairs m_line m_lineMany m_letters m_begins0 m_commands m_commandMany m_place0 m_size0 m_isWrong)) rfl rfl (fun v w hvw => ?_)
      obtain ⟨rfl, rfl⟩ := hvw
      change J X 0 0 (wM t ad o m_m m_aside m_saved m_isSaved m_past m_changes m_errorAt m_failed m_thrown m_input m_inputMany m_fitting m_given m_pairs m_line m_lineMany m_letters m_begins0 m_commands m_commandMany m_place0 m_size0 m_isWrong) 33 [(0, .ref (ad o)), (1, .int a0), (2, .int a1), (3, .int a2), (4, .int a3), (5, .int a4)] [.int u9]
      refine j_if_eq hX 40 dX10_askIt_33 (by decide) hf (fun c33 hf => ?_) (fun c33 hf => ?_)
      · refine j_iconst hX 0 dX10_askIt_40 (by decide) ?_
        refine j_istore hX [(6, .int 0), (0, .ref (ad o)), (1, .int a0), (2, .int a1), (3, .int a2), (4, .int a3), (5, .int a4)] dX10_askIt_41 (by decide) rfl ?_
        refine j_iload hX dX10_askIt_43 0 rfl ?_
        refine j_if_eq (α := Unit) (F := none) (G := none) (o := none) hX 80 dX10_askIt_45 (by decide) (ite_self none) (fun c45 _ => ?_) (fun c45 _ => absurd c45 (by decide))
        refine j_aload_n hX dX10_askIt_80 rfl 1 rfl ?_
        refine j_iconst hX 1 dX10_askIt_81 (by decide) ?_
        obtain ⟨u11, h12, hf⟩ := jbind hf
        refine j_callV (st := []) hX (k_X10_throwing (l := l) (D := D) (t := t) (ad := ad) (o := o) m_m m_aside m_saved m_isSaved m_past m_changes m_errorAt m_failed m_thrown m_input m_inputMany m_fitting m_given m_pairs m_line m_lineMany m_letters m_begins0 m_commands m_commandMany m_place0 m_size0 m_isWrong 1 u11 h12) q1496 q1497 q1951 q15 q1498 (n9 := 1) rfl ⟨by decide +kernel, by decide +kernel⟩ 0 rfl rfl rfl dX10_askIt_82 (Nat.le_of_ble_eq_true rfl) ⟨Nat.le_refl _, Nat.le_refl _⟩ (fun w : va_W => w) jFr_id rfl rfl (fun v w hvw => ?_)
        obtain ⟨rfl, rfl⟩ := hvw
        change J X 0 0 (wM t ad o m_m m_aside m_saved m_isSaved m_past m_changes m_errorAt m_failed u11.2 m_input m_inputMany m_fitting m_given m_pairs m_line m_lineMany m_letters m_begins0 m_commands m_commandMany m_place0 m_size0 m_isWrong) 85 [(6, .int 0), (0, .ref (ad o)), (1, .int a0), (2, .int a1), (3, .int a2), (4, .int a3), (5, .int a4)] [.int u11.1]
        cases hf
        exact j_iret hX hE dX10_askIt_85 (Nat.le_refl _) (Nat.le_refl _) ⟨rfl, rfl⟩
      · refine j_iconst hX 1 dX10_askIt_36 (by decide) ?_
        refine j_goto hX 41 dX10_askIt_37 (by decide) ?_
        refine j_istore hX [(6, .int 1), (0, .ref (ad o)), (1, .int a0), (2, .int a1), (3, .int a2), (4, .int a3), (5, .int a4)] dX10_askIt_41 (by decide) rfl ?_
        refine j_iload hX dX10_askIt_43 0 rfl ?_
        refine j_if_eq (α := Unit) (F := none) (G := none) (o := none) hX 80 dX10_askIt_45 (by decide) (ite_self none) (fun c45 _ => absurd c45 (by decide)) (fun c45 _ => ?_)
        refine j_iload hX dX10_askIt_48 5 rfl ?_
        refine j_aload_n hX dX10_askIt_50 rfl 1 rfl ?_
        refine j_get hX dX10_askIt_51 inX10 0 q1455 0 rfl rfl (by decide) rfl rfl ?_
        refine j_iconst hX 1 dX10_askIt_54 (by decide) ?_
        refine j_iald hX dX10_askIt_55 1 0 rfl rfl hf (fun c55 hf => ?_)
        refine j_icmp_le hX 80 dX10_askIt_56 (by decide) hf (fun c56 hf => ?_) (fun c56 hf => ?_)
        · refine j_aload_n hX dX10_askIt_80 rfl 1 rfl ?_
          refine j_iconst hX 1 dX10_askIt_81 (by decide) ?_
          obtain ⟨u13, h14, hf⟩ := jbind hf
          refine j_callV (st := []) hX (k_X10_throwing (l := l) (D := D) (t := t) (ad := ad) (o := o) m_m m_aside m_saved m_isSaved m_past m_changes m_errorAt m_failed m_thrown m_input m_inputMany m_fitting m_given m_pairs m_line m_lineMany m_letters m_begins0 m_commands m_commandMany m_place0 m_size0 m_isWrong 1 u13 h14) q1496 q1497 q1951 q15 q1498 (n9 := 1) rfl ⟨by decide +kernel, by decide +kernel⟩ 0 rfl rfl rfl dX10_askIt_82 (Nat.le_of_ble_eq_true rfl) ⟨Nat.le_refl _, Nat.le_refl _⟩ (fun w : va_W => w) jFr_id rfl rfl (fun v w hvw => ?_)
          obtain ⟨rfl, rfl⟩ := hvw
          change J X 0 0 (wM t ad o m_m m_aside m_saved m_isSaved m_past m_changes m_errorAt m_failed u13.2 m_input m_inputMany m_fitting m_given m_pairs m_line m_lineMany m_letters m_begins0 m_commands m_commandMany m_place0 m_size0 m_isWrong) 85 [(6, .int 1), (0, .ref (ad o)), (1, .int a0), (2, .int a1), (3, .int a2), (4, .int a3), (5, .int a4)] [.int u13.1]
          cases hf
          exact j_iret hX hE dX10_askIt_85 (Nat.le_refl _) (Nat.le_refl _) ⟨rfl, rfl⟩
        · refine j_iload hX dX10_askIt_59 6 rfl ?_
          refine j_iload hX dX10_askIt_61 5 rfl ?_
          refine j_icmp_lt hX 80 dX10_askIt_63 (by decide) hf (fun c63 hf => ?_) (fun c63 hf => ?_)
          · refine j_aload_n hX dX10_askIt_80 rfl 1 rfl ?_
            refine j_iconst hX 1 dX10_askIt_81 (by decide) ?_
            obtain ⟨u15, h16, hf⟩ := jbind hf
            refine j_callV (st := []) hX (k_X10_throwing (l := l) (D := D) (t := t) (ad := ad) (o := o) m_m m_aside m_saved m_isSaved m_past m_changes m_errorAt m_failed m_thrown m_input m_inputMany m_fitting m_given m_pairs m_line m_lineMany m_letters m_begins0 m_commands m_commandMany m_place0 m_size0 m_isWrong 1 u15 h16) q1496 q1497 q1951 q15 q1498 (n9 := 1) rfl ⟨by decide +kernel, by decide +kernel⟩ 0 rfl rfl rfl dX10_askIt_82 (Nat.le_of_ble_eq_true rfl) ⟨Nat.le_refl _, Nat.le_refl _⟩ (fun w : va_W => w) jFr_id rfl rfl (fun v w hvw => ?_)
            obtain ⟨rfl, rfl⟩ := hvw
            change J X 0 0 (wM t ad o m_m m_aside m_saved m_isSaved m_past m_changes m_errorAt m_failed u15.2 m_input m_inputMany m_fitting m_given m_pairs m_line m_lineMany m_letters m_begins0 m_commands m_commandMany m_place0 m_size0 m_isWrong) 85 [(6, .int 1), (0, .ref (ad o)), (1, .int a0), (2, .int a1), (3, .int a2), (4, .int a3), (5, .int a4)] [.int u15.1]
            cases hf
            exact j_iret hX hE dX10_askIt_85 (Nat.le_refl _) (Nat.le_refl _) ⟨rfl, rfl⟩
          · refine j_iload hX dX10_askIt_66 6 rfl ?_
            refine j_aload_n hX dX10_askIt_68 rfl 1 rfl ?_
            refine j_get hX dX10_askIt_69 inX10 0 q1455 0 rfl rfl (by decide) rfl rfl ?_
            refine j_iconst hX 1 dX10_askIt_72 (by decide) ?_
            refine j_iald hX dX10_askIt_73 1 0 rfl rfl hf (fun c73 hf => ?_)
            refine j_bipush hX 40 dX10_askIt_74 (by decide) ?_
            refine j_iadd hX dX10_askIt_76 ?_
            refine j_icmp_le hX 86 dX10_askIt_77 (by decide) hf (fun c77 hf => ?_) (fun c77 hf => ?_)
            · refine j_aload_n hX dX10_askIt_86 rfl 1 rfl ?_
              refine j_get hX dX10_askIt_87 inX10 0 q1455 0 rfl rfl (by decide) rfl rfl ?_
              refine j_iconst hX 4 dX10_askIt_90 (by decide) ?_
              refine j_iald hX dX10_askIt_91 1 0 rfl rfl hf (fun c91 hf => ?_)
              refine j_bipush hX 8 dX10_askIt_92 (by decide) ?_
              refine j_icmp_ne hX 103 dX10_askIt_94 (by decide) hf (fun c94 hf => ?_) (fun c94 hf => ?_)
              · refine j_aload_n hX dX10_askIt_103 rfl 1 rfl ?_
                refine j_get hX dX10_askIt_104 inX10 0 q1455 0 rfl rfl (by decide) rfl rfl ?_
                refine j_iconst hX 4 dX10_askIt_107 (by decide) ?_
                refine j_iald hX dX10_askIt_108 1 0 rfl rfl hf (fun c108 hf => ?_)
                obtain ⟨u17, h18, hf⟩ := jbind hf
                refine j_callS (st := []) hX (k_X10_requestOf (l := l) (D := D) (t := t) (ad := ad)  (m_m (4 : Int32).toNatClampNeg) u17 h18) q1554 q1555 q15 q1556 (n9 := 1) rfl ⟨by decide +kernel, by decide +kernel⟩ dX10_askIt_109 (Nat.le_of_ble_eq_true rfl) ⟨Nat.le_refl _, Nat.le_refl _⟩ (fun w : va_W => w ++ (wM t ad o m_m m_aside m_saved m_isSaved m_past m_changes m_errorAt m_failed m_thrown m_input m_inputMany m_fitting m_given m_pairs m_line m_lineMany m_letters m_begins0 m_commands m_commandMany m_place0 m_size0 m_isWrong)) (jFr_r (wM t ad o m_m m_aside m_saved m_isSaved m_past m_changes m_errorAt m_failed m_thrown m_input m_inputMany m_fitting m_given m_pairs m_line m_lineMany m_letters m_begins0 m_commands m_commandMany m_place0 m_size0 m_isWrong)) rfl rfl (fun v w hvw => ?_)
                obtain ⟨rfl, rfl⟩ := hvw
                change J X 0 0 (wM t ad o m_m m_aside m_saved m_isSaved m_past m_changes m_errorAt m_failed m_thrown m_input m_inputMany m_fitting m_given m_pairs m_line m_lineMany m_letters m_begins0 m_commands m_commandMany m_place0 m_size0 m_isWrong) 112 [(6, .int 1), (0, .ref (ad o)), (1, .int a0), (2, .int a1), (3, .int a2), (4, .int a3), (5, .int a4)] [.int u17]
                refine j_istore hX [(7, .int u17), (6, .int 1), (0, .ref (ad o)), (1, .int a0), (2, .int a1), (3, .int a2), (4, .int a3), (5, .int a4)] dX10_askIt_112 (by decide) rfl ?_
                refine j_aload_n hX dX10_askIt_114 rfl 2 rfl ?_
                refine j_get hX dX10_askIt_115 inX10 0 q1455 0 rfl rfl (by decide) rfl rfl ?_
                refine j_iload hX dX10_askIt_118 0 rfl ?_
                refine j_aload_n hX dX10_askIt_120 rfl 2 rfl ?_
                refine j_get hX dX10_askIt_121 inX10 0 q1455 0 rfl rfl (by decide) rfl rfl ?_
                refine j_iconst hX 3 dX10_askIt_124 (by decide) ?_
                refine j_iald hX dX10_askIt_125 1 0 rfl rfl hf (fun c125 hf => ?_)
                refine j_iast hX (wM t ad o (upd m_m (u17).toNatClampNeg (m_m (3 : Int32).toNatClampNeg)) m_aside m_saved m_isSaved m_past m_changes m_errorAt m_failed m_thrown m_input m_inputMany m_fitting m_given m_pairs m_line m_lineMany m_letters m_begins0 m_commands m_commandMany m_place0 m_size0 m_isWrong) dX10_askIt_126 1 0 rfl rfl rfl hf (fun c126 hf => ?_)
                refine j_aload_n hX dX10_askIt_127 rfl 2 rfl ?_
                refine j_get hX dX10_askIt_128 inX10 0 q1455 0 rfl rfl (by decide) rfl rfl ?_
                refine j_iload hX dX10_askIt_131 0 rfl ?_
                refine j_iconst hX 1 dX10_askIt_133 (by decide) ?_
                refine j_iadd hX dX10_askIt_134 ?_
                refine j_iload_n hX dX10_askIt_135 rfl 3 rfl ?_
                refine j_iast hX (wM t ad o (upd (upd m_m (u17).toNatClampNeg (m_m (3 : Int32).toNatClampNeg)) (u17 + 1).toNatClampNeg a0) m_aside m_saved m_isSaved m_past m_changes m_errorAt m_failed m_thrown m_input m_inputMany m_fitting m_given m_pairs m_line m_lineMany m_letters m_begins0 m_commands m_commandMany m_place0 m_size0 m_isWrong) dX10_askIt_136 1 0 rfl rfl rfl hf (fun c136 hf => ?_)
                refine j_aload_n hX dX10_askIt_137 rfl 2 rfl ?_
                refine j_get hX dX10_askIt_138 inX10 0 q1455 0 rfl rfl (by decide) rfl rfl ?_
                refine j_iload hX dX10_askIt_141 0 rfl ?_
                refine j_iconst hX 2 dX10_askIt_143 (by decide) ?_
                refine j_iadd hX dX10_askIt_144 ?_
                refine j_iload_n hX dX10_askIt_145 rfl 4 rfl ?_
                refine j_iast hX (wM t ad o (upd (upd (upd m_m (u17).toNatClampNeg (m_m (3 : Int32).toNatClampNeg)) (u17 + 1).toNatClampNeg a0) (u17 + 2).toNatClampNeg a1) m_aside m_saved m_isSaved m_past m_changes m_errorAt m_failed m_thrown m_input m_inputMany m_fitting m_given m_pairs m_line m_lineMany m_letters m_begins0 m_commands m_commandMany m_place0 m_size0 m_isWrong) dX10_askIt_146 1 0 rfl rfl rfl hf (fun c146 hf => ?_)
                refine j_aload_n hX dX10_askIt_147 rfl 2 rfl ?_
                refine j_get hX dX10_askIt_148 inX10 0 q1455 0 rfl rfl (by decide) rfl rfl ?_
                refine j_iload hX dX10_askIt_151 0 rfl ?_
                refine j_iconst hX 3 dX10_askIt_153 (by decide) ?_
                refine j_iadd hX dX10_askIt_154 ?_
                refine j_iload_n hX dX10_askIt_155 rfl 5 rfl ?_
                refine j_iast hX (wM t ad o (upd (upd (upd (upd m_m (u17).toNatClampNeg (m_m (3 : Int32).toNatClampNeg)) (u17 + 1).toNatClampNeg a0) (u17 + 2).toNatClampNeg a1) (u17 + 3).toNatClampNeg a2) m_aside m_saved m_isSaved m_past m_changes m_errorAt m_failed m_thrown m_input m_inputMany m_fitting m_given m_pairs m_line m_lineMany m_letters m_begins0 m_commands m_commandMany m_place0 m_size0 m_isWrong) dX10_askIt_156 1 0 rfl rfl rfl hf (fun c156 hf => ?_)
                refine j_aload_n hX dX10_askIt_157 rfl 2 rfl ?_
                refine j_get hX dX10_askIt_158 inX10 0 q1455 0 rfl rfl (by decide) rfl rfl ?_
                refine j_iload hX dX10_askIt_161 0 rfl ?_
                refine j_iconst hX 4 dX10_askIt_163 (by decide) ?_
                refine j_iadd hX dX10_askIt_164 ?_
                refine j_iload hX dX10_askIt_165 6 rfl ?_
                refine j_iast hX (wM t ad o (upd (upd (upd (upd (upd m_m (u17).toNatClampNeg (m_m (3 : Int32).toNatClampNeg)) (u17 + 1).toNatClampNeg a0) (u17 + 2).toNatClampNeg a1) (u17 + 3).toNatClampNeg a2) (u17 + 4).toNatClampNeg a3) m_aside m_saved m_isSaved m_past m_changes m_errorAt m_failed m_thrown m_input m_inputMany m_fitting m_given m_pairs m_line m_lineMany m_letters m_begins0 m_commands m_commandMany m_place0 m_size0 m_isWrong) dX10_askIt_167 1 0 rfl rfl rfl hf (fun c167 hf => ?_)
                refine j_aload_n hX dX10_askIt_168 rfl 2 rfl ?_
                refine j_get hX dX10_askIt_169 inX10 0 q1455 0 rfl rfl (by decide) rfl rfl ?_
                refine j_iload hX dX10_askIt_172 0 rfl ?_
                refine j_iconst hX 5 dX10_askIt_174 (by decide) ?_
                refine j_iadd hX dX10_askIt_175 ?_
                refine j_iload hX dX10_askIt_176 7 rfl ?_
                refine j_iast hX (wM t ad o (upd (upd (upd (upd (upd (upd m_m (u17).toNatClampNeg (m_m (3 : Int32).toNatClampNeg)) (u17 + 1).toNatClampNeg a0) (u17 + 2).toNatClampNeg a1) (u17 + 3).toNatClampNeg a2) (u17 + 4).toNatClampNeg a3) (u17 + 5).toNatClampNeg a4) m_aside m_saved m_isSaved m_past m_changes m_errorAt m_failed m_thrown m_input m_inputMany m_fitting m_given m_pairs m_line m_lineMany m_letters m_begins0 m_commands m_commandMany m_place0 m_size0 m_isWrong) dX10_askIt_178 1 0 rfl rfl rfl hf (fun c178 hf => ?_)
                refine j_aload_n hX dX10_askIt_179 rfl 2 rfl ?_
                refine j_get hX dX10_askIt_180 inX10 0 q1455 0 rfl rfl (by decide) rfl rfl ?_
                refine j_iconst hX 4 dX10_askIt_183 (by decide) ?_
                refine j_dup2 hX dX10_askIt_184 rfl rfl ?_
                refine j_iald hX dX10_askIt_185 1 0 rfl rfl hf (fun c185 hf => ?_)
                refine j_iconst hX 1 dX10_askIt_186 (by decide) ?_
                refine j_iadd hX dX10_askIt_187 ?_
                refine j_iast hX (wM t ad o (upd (upd (upd (upd (upd (upd (upd m_m (u17).toNatClampNeg (m_m (3 : Int32).toNatClampNeg)) (u17 + 1).toNatClampNeg a0) (u17 + 2).toNatClampNeg a1) (u17 + 3).toNatClampNeg a2) (u17 + 4).toNatClampNeg a3) (u17 + 5).toNatClampNeg a4) (4 : Int32).toNatClampNeg (((upd (upd (upd (upd (upd (upd m_m (u17).toNatClampNeg (m_m (3 : Int32).toNatClampNeg)) (u17 + 1).toNatClampNeg a0) (u17 + 2).toNatClampNeg a1) (u17 + 3).toNatClampNeg a2) (u17 + 4).toNatClampNeg a3) (u17 + 5).toNatClampNeg a4) (4 : Int32).toNatClampNeg) + 1)) m_aside m_saved m_isSaved m_past m_changes m_errorAt m_failed m_thrown m_input m_inputMany m_fitting m_given m_pairs m_line m_lineMany m_letters m_begins0 m_commands m_commandMany m_place0 m_size0 m_isWrong) dX10_askIt_188 1 0 rfl rfl rfl hf (fun c188 hf => ?_)
                refine j_aload_n hX dX10_askIt_189 rfl 2 rfl ?_
                refine j_get hX dX10_askIt_190 inX10 0 q1455 0 rfl rfl (by decide) rfl rfl ?_
                refine j_iconst hX 3 dX10_askIt_193 (by decide) ?_
                refine j_dup2 hX dX10_askIt_194 rfl rfl ?_
                refine j_iald hX dX10_askIt_195 1 0 rfl rfl hf (fun c195 hf => ?_)
                refine j_iconst hX 1 dX10_askIt_196 (by decide) ?_
                refine j_iadd hX dX10_askIt_197 ?_
                refine j_iast hX (wM t ad o (upd (upd (upd (upd (upd (upd (upd (upd m_m (u17).toNatClampNeg (m_m (3 : Int32).toNatClampNeg)) (u17 + 1).toNatClampNeg a0) (u17 + 2).toNatClampNeg a1) (u17 + 3).toNatClampNeg a2) (u17 + 4).toNatClampNeg a3) (u17 + 5).toNatClampNeg a4) (4 : Int32).toNatClampNeg (((upd (upd (upd (upd (upd (upd m_m (u17).toNatClampNeg (m_m (3 : Int32).toNatClampNeg)) (u17 + 1).toNatClampNeg a0) (u17 + 2).toNatClampNeg a1) (u17 + 3).toNatClampNeg a2) (u17 + 4).toNatClampNeg a3) (u17 + 5).toNatClampNeg a4) (4 : Int32).toNatClampNeg) + 1)) (3 : Int32).toNatClampNeg (((upd (upd (upd (upd (upd (upd (upd m_m (u17).toNatClampNeg (m_m (3 : Int32).toNatClampNeg)) (u17 + 1).toNatClampNeg a0) (u17 + 2).toNatClampNeg a1) (u17 + 3).toNatClampNeg a2) (u17 + 4).toNatClampNeg a3) (u17 + 5).toNatClampNeg a4) (4 : Int32).toNatClampNeg (((upd (upd (upd (upd (upd (upd m_m (u17).toNatClampNeg (m_m (3 : Int32).toNatClampNeg)) (u17 + 1).toNatClampNeg a0) (u17 + 2).toNatClampNeg a1) (u17 + 3).toNatClampNeg a2) (u17 + 4).toNatClampNeg a3) (u17 + 5).toNatClampNeg a4) (4 : Int32).toNatClampNeg) + 1)) (3 : Int32).toNatClampNeg) + 1)) m_aside m_saved m_isSaved m_past m_changes m_errorAt m_failed m_thrown m_input m_inputMany m_fitting m_given m_pairs m_line m_lineMany m_letters m_begins0 m_commands m_commandMany m_place0 m_size0 m_isWrong) dX10_askIt_198 1 0 rfl rfl rfl hf (fun c198 hf => ?_)
                refine j_aload_n hX dX10_askIt_199 rfl 2 rfl ?_
                refine j_get hX dX10_askIt_200 inX10 0 q1455 0 rfl rfl (by decide) rfl rfl ?_
                refine j_iload hX dX10_askIt_203 0 rfl ?_
                refine j_iald hX dX10_askIt_205 1 0 rfl rfl hf (fun c205 hf => ?_)
                cases hf
                exact j_iret hX hE dX10_askIt_206 (Nat.le_refl _) (Nat.le_refl _) ⟨rfl, rfl⟩
              · refine j_aload_n hX dX10_askIt_97 rfl 1 rfl ?_
                refine j_iconst hX 2 dX10_askIt_98 (by decide) ?_
                obtain ⟨u19, h20, hf⟩ := jbind hf
                refine j_callV (st := []) hX (k_X10_throwing (l := l) (D := D) (t := t) (ad := ad) (o := o) m_m m_aside m_saved m_isSaved m_past m_changes m_errorAt m_failed m_thrown m_input m_inputMany m_fitting m_given m_pairs m_line m_lineMany m_letters m_begins0 m_commands m_commandMany m_place0 m_size0 m_isWrong 2 u19 h20) q1496 q1497 q1951 q15 q1498 (n9 := 1) rfl ⟨by decide +kernel, by decide +kernel⟩ 0 rfl rfl rfl dX10_askIt_99 (Nat.le_of_ble_eq_true rfl) ⟨Nat.le_refl _, Nat.le_refl _⟩ (fun w : va_W => w) jFr_id rfl rfl (fun v w hvw => ?_)
                obtain ⟨rfl, rfl⟩ := hvw
                change J X 0 0 (wM t ad o m_m m_aside m_saved m_isSaved m_past m_changes m_errorAt m_failed u19.2 m_input m_inputMany m_fitting m_given m_pairs m_line m_lineMany m_letters m_begins0 m_commands m_commandMany m_place0 m_size0 m_isWrong) 102 [(6, .int 1), (0, .ref (ad o)), (1, .int a0), (2, .int a1), (3, .int a2), (4, .int a3), (5, .int a4)] [.int u19.1]
                cases hf
                exact j_iret hX hE dX10_askIt_102 (Nat.le_refl _) (Nat.le_refl _) ⟨rfl, rfl⟩
            · refine j_aload_n hX dX10_askIt_80 rfl 1 rfl ?_
              refine j_iconst hX 1 dX10_askIt_81 (by decide) ?_
              obtain ⟨u21, h22, hf⟩ := jbind hf
              refine j_callV (st := []) hX (k_X10_throwing (l := l) (D := D) (t := t) (ad := ad) (o := o) m_m m_aside m_saved m_isSaved m_past m_changes m_errorAt m_failed m_thrown m_input m_inputMany m_fitting m_given m_pairs m_line m_lineMany m_letters m_begins0 m_commands m_commandMany m_place0 m_size0 m_isWrong 1 u21 h22) q1496 q1497 q1951 q15 q1498 (n9 := 1) rfl ⟨by decide +kernel, by decide +kernel⟩ 0 rfl rfl rfl dX10_askIt_82 (Nat.le_of_ble_eq_true rfl) ⟨Nat.le_refl _, Nat.le_refl _⟩ (fun w : va_W => w) jFr_id rfl rfl (fun v w hvw => ?_)
              obtain ⟨rfl, rfl⟩ := hvw
              change J X 0 0 (wM t ad o m_m m_aside m_saved m_isSaved m_past m_changes m_errorAt m_failed u21.2 m_input m_inputMany m_fitting m_given m_pairs m_line m_lineMany m_letters m_begins0 m_commands m_commandMany m_place0 m_size0 m_isWrong) 85 [(6, .int 1), (0, .ref (ad o)), (1, .int a0), (2, .int a1), (3, .int a2), (4, .int a3), (5, .int a4)] [.int u21.1]
              cases hf
              exact j_iret hX hE dX10_askIt_85 (Nat.le_refl _) (Nat.le_refl _) ⟨rfl, rfl⟩
-- HammerDepotModel request (IIIII)I
def f_X10_request (m_m : Nat → Int32) (m_aside : Nat → Int32) (m_past : Nat → Int32) (m_changes : Int32) (m_thrown : Int32) (a0 : Int32) (a1 : Int32) (a2 : Int32) (a3 : Int32) (a4 : Int32) : Option (Int32 × (Nat → Int32) × (Nat → Int32) × (Nat → Int32) × Int32 × Int32) :=
  Option.bind (f_X10_starts m_m m_aside m_thrown) (fun u1 =>
    Option.bind (f_X10_askIt m_m u1.2 a0 a1 a2 a3 a4) (fun u3 =>
      Option.bind (f_X10_changed u1.1 m_past m_changes u3.2.2 u3.1) (fun u5 =>
        some (u5.1, u3.2.1, u1.1, u5.2.1, u5.2.2, u3.2.2))))
set_option maxHeartbeats 4000000 in
set_option maxRecDepth 100000 in
theorem k_X10_request {l : Launch} {D : va_G} {t : Nat → ClassId} {ad : Nat → Nat} {o : Nat} (m_m : Nat → Int32) (m_aside : Nat → Int32) (m_saved : Nat → Int32) (m_isSaved : Int32) (m_past : Nat → Int32) (m_changes : Int32) (m_errorAt : Int32) (m_failed : Int32) (m_thrown : Int32) (m_input : Nat → Int32) (m_inputMany : Int32) (m_fitting : Nat → Int32) (m_given : Nat → Int32) (m_pairs : Nat → Int32) (m_line : Nat → Int32) (m_lineMany : Int32) (m_letters : Nat → Int32) (m_begins0 : Nat → Int32) (m_commands : Nat → Int32) (m_commandMany : Int32) (m_place0 : Int32) (m_size0 : Int32) (m_isWrong : Int32) (a0 : Int32) (a1 : Int32) (a2 : Int32) (a3 : Int32) (a4 : Int32) (u : Int32 × (Nat → Int32) × (Nat → Int32) × (Nat → Int32) × Int32 × Int32) (hf : f_X10_request m_m m_aside m_past m_changes m_thrown a0 a1 a2 a3 a4 = some u) : cm l D (jT t) yX10_request cX10_request 6 (some FieldType.int) { frames := 2, cells := 0, slots := 0, locals := 52 } [.ref (ad o), .int a0, .int a1, .int a2, .int a3, .int a4] (wM t ad o m_m m_aside m_saved m_isSaved m_past m_changes m_errorAt m_failed m_thrown m_input m_inputMany m_fitting m_given m_pairs m_line m_lineMany m_letters m_begins0 m_commands m_commandMany m_place0 m_size0 m_isWrong) (fun v w => v = (some (.int u.1)) ∧ w = wM t ad o u.2.1 u.2.2.1 m_saved m_isSaved u.2.2.2.1 u.2.2.2.2.1 m_errorAt m_failed u.2.2.2.2.2 m_input m_inputMany m_fitting m_given m_pairs m_line m_lineMany m_letters m_begins0 m_commands m_commandMany m_place0 m_size0 m_isWrong) := by
  refine cm_of RX10 rfl (by decide +kernel) (Nat.le_of_ble_eq_true rfl) (fun X hX hE => ?_)
  change J X 0 0 (wM t ad o m_m m_aside m_saved m_isSaved m_past m_changes m_errorAt m_failed m_thrown m_input m_inputMany m_fitting m_given m_pairs m_line m_lineMany m_letters m_begins0 m_commands m_commandMany m_place0 m_size0 m_isWrong) 0 [(0, .ref (ad o)), (1, .int a0), (2, .int a1), (3, .int a2), (4, .int a3), (5, .int a4)] []
  unfold f_X10_request at hf
  refine j_aload_n hX dX10_request_0 rfl 0 rfl ?_
  obtain ⟨u1, h2, hf⟩ := jbind hf
  refine j_callV (st := []) hX (k_X10_starts (l := l) (D := D) (t := t) (ad := ad) (o := o) m_m m_aside m_saved m_isSaved m_past m_changes m_errorAt m_failed m_thrown m_input m_inputMany m_fitting m_given m_pairs m_line m_lineMany m_letters m_begins0 m_commands m_commandMany m_place0 m_size0 m_isWrong  u1 h2) q1486 q1487 q1949 q15 q1488 (n9 := 0) rfl ⟨by decide +kernel, by decide +kernel⟩ 0 rfl rfl rfl dX10_request_1 (Nat.le_of_ble_eq_true rfl) ⟨Nat.le_refl _, Nat.le_refl _⟩ (fun w : va_W => w) jFr_id rfl rfl (fun v w hvw => ?_)
  obtain ⟨rfl, rfl⟩ := hvw
  change J X 0 0 (wM t ad o m_m u1.1 m_saved m_isSaved m_past m_changes m_errorAt m_failed u1.2 m_input m_inputMany m_fitting m_given m_pairs m_line m_lineMany m_letters m_begins0 m_commands m_commandMany m_place0 m_size0 m_isWrong) 4 [(0, .ref (ad o)), (1, .int a0), (2, .int a1), (3, .int a2), (4, .int a3), (5, .int a4)] []
  refine j_aload_n hX dX10_request_4 rfl 0 rfl ?_
  refine j_aload_n hX dX10_request_5 rfl 0 rfl ?_
  refine j_iload_n hX dX10_request_6 rfl 1 rfl ?_
  refine j_iload_n hX dX10_request_7 rfl 2 rfl ?_
  refine j_iload_n hX dX10_request_8 rfl 3 rfl ?_
  refine j_iload hX dX10_request_9 4 rfl ?_
  refine j_iload hX dX10_request_11 5 rfl ?_
  obtain ⟨u3, h4, hf⟩ := jbind hf
  refine j_callV (st := [.ref (ad o)]) hX (k_X10_askIt (l := l) (D := D) (t := t) (ad := ad) (o := o) m_m u1.1 m_saved m_isSaved m_past m_changes m_errorAt m_failed u1.2 m_input m_inputMany m_fitting m_given m_pairs m_line m_lineMany m_letters m_begins0 m_commands m_commandMany m_place0 m_size0 m_isWrong a0 a1 a2 a3 a4 u3 h4) q1549 q1550 q1961 q15 q1551 (n9 := 5) rfl ⟨by decide +kernel, by decide +kernel⟩ 0 rfl rfl rfl dX10_request_13 (Nat.le_of_ble_eq_true rfl) ⟨Nat.le_refl _, Nat.le_refl _⟩ (fun w : va_W => w) jFr_id rfl rfl (fun v w hvw => ?_)
  obtain ⟨rfl, rfl⟩ := hvw
  change J X 0 0 (wM t ad o u3.2.1 u1.1 m_saved m_isSaved m_past m_changes m_errorAt m_failed u3.2.2 m_input m_inputMany m_fitting m_given m_pairs m_line m_lineMany m_letters m_begins0 m_commands m_commandMany m_place0 m_size0 m_isWrong) 16 [(0, .ref (ad o)), (1, .int a0), (2, .int a1), (3, .int a2), (4, .int a3), (5, .int a4)] [.int u3.1, .ref (ad o)]
  obtain ⟨u5, h6, hf⟩ := jbind hf
  refine j_callV (st := []) hX (k_X10_changed (l := l) (D := D) (t := t) (ad := ad) (o := o) u3.2.1 u1.1 m_saved m_isSaved m_past m_changes m_errorAt m_failed u3.2.2 m_input m_inputMany m_fitting m_given m_pairs m_line m_lineMany m_letters m_begins0 m_commands m_commandMany m_place0 m_size0 m_isWrong u3.1 u5 h6) q1512 q1513 q1954 q15 q1514 (n9 := 1) rfl ⟨by decide +kernel, by decide +kernel⟩ 0 rfl rfl rfl dX10_request_16 (Nat.le_of_ble_eq_true rfl) ⟨Nat.le_refl _, Nat.le_refl _⟩ (fun w : va_W => w) jFr_id rfl rfl (fun v w hvw => ?_)
  obtain ⟨rfl, rfl⟩ := hvw
  change J X 0 0 (wM t ad o u3.2.1 u1.1 m_saved m_isSaved u5.2.1 u5.2.2 m_errorAt m_failed u3.2.2 m_input m_inputMany m_fitting m_given m_pairs m_line m_lineMany m_letters m_begins0 m_commands m_commandMany m_place0 m_size0 m_isWrong) 19 [(0, .ref (ad o)), (1, .int a0), (2, .int a1), (3, .int a2), (4, .int a3), (5, .int a4)] [.int u5.1]
  cases hf
  exact j_iret hX hE dX10_request_19 (Nat.le_refl _) (Nat.le_refl _) ⟨rfl, rfl⟩
-- HammerDepotModel dropIt (I)I
def f_X10_dropIt (m_m : Nat → Int32) (m_thrown : Int32) (a0 : Int32) : Option (Int32 × (Nat → Int32) × Int32) :=
  Option.bind (f_X10_find m_m a0) (fun u1 =>
    if u1 = (-1) then
      Option.bind (f_X10_throwing m_thrown 1) (fun u5 =>
        some (u5.1, m_m, u5.2))
    else
      Option.bind (f_X10_dropsRequest m_m u1) (fun u3 =>
        if jin 4 2048 = true then
          some (u3 (4 : Int32).toNatClampNeg, u3, m_thrown)
        else none))
set_option maxHeartbeats 4000000 in
set_option maxRecDepth 100000 in
theorem k_X10_dropIt {l : Launch} {D : va_G} {t : Nat → ClassId} {ad : Nat → Nat} {o : Nat} (m_m : Nat → Int32) (m_aside : Nat → Int32) (m_saved : Nat → Int32) (m_isSaved : Int32) (m_past : Nat → Int32) (m_changes : Int32) (m_errorAt : Int32) (m_failed : Int32) (m_thrown : Int32) (m_input : Nat → Int32) (m_inputMany : Int32) (m_fitting : Nat → Int32) (m_given : Nat → Int32) (m_pairs : Nat → Int32) (m_line : Nat → Int32) (m_lineMany : Int32) (m_letters : Nat → Int32) (m_begins0 : Nat → Int32) (m_commands : Nat → Int32) (m_commandMany : Int32) (m_place0 : Int32) (m_size0 : Int32) (m_isWrong : Int32) (a0 : Int32) (u : Int32 × (Nat → Int32) × Int32) (hf : f_X10_dropIt m_m m_thrown a0 = some u) : cm l D (jT t) yX10_dropIt cX10_dropIt 3 (some FieldType.int) { frames := 2, cells := 0, slots := 0, locals := 42 } [.ref (ad o), .int a0] (wM t ad o m_m m_aside m_saved m_isSaved m_past m_changes m_errorAt m_failed m_thrown m_input m_inputMany m_fitting m_given m_pairs m_line m_lineMany m_letters m_begins0 m_commands m_commandMany m_place0 m_size0 m_isWrong) (fun v w => v = (some (.int u.1)) ∧ w = wM t ad o u.2.1 m_aside m_saved m_isSaved m_past m_changes m_errorAt m_failed u.2.2 m_input m_inputMany m_fitting m_given m_pairs m_line m_lineMany m_letters m_begins0 m_commands m_commandMany m_place0 m_size0 m_isWrong) := by
  refine cm_of RX10 rfl (by decide +kernel) (Nat.le_of_ble_eq_true rfl) (fun X hX hE => ?_)
  change J X 0 0 (wM t ad o m_m m_aside m_saved m_isSaved m_past m_changes m_errorAt m_failed m_thrown m_input m_inputMany m_fitting m_given m_pairs m_line m_lineMany m_letters m_begins0 m_commands m_commandMany m_place0 m_size0 m_isWrong) 0 [(0, .ref (ad o)), (1, .int a0)] []
  unfold f_X10_dropIt at hf
  refine j_aload_n hX dX10_dropIt_0 rfl 0 rfl ?_
  refine j_iload_n hX dX10_dropIt_1 rfl 1 rfl ?_
  obtain ⟨u1, h2, hf⟩ := jbind hf
  refine j_callV (st := []) hX (k_X10_find (l := l) (D := D) (t := t) (ad := ad) (o := o) m_m m_aside m_saved m_isSaved m_past m_changes m_errorAt m_failed m_thrown m_input m_inputMany m_fitting m_given m_pairs m_line m_lineMany m_letters m_begins0 m_commands m_commandMany m_place0 m_size0 m_isWrong a0 u1 h2) q1564 q1565 q1963 q15 q1566 (n9 := 1) rfl ⟨by decide +kernel, by decide +kernel⟩ 0 rfl rfl rfl dX10_dropIt_2 (Nat.le_of_ble_eq_true rfl) ⟨Nat.le_refl _, Nat.le_refl _⟩ (fun w : va_W => w) jFr_id rfl rfl (fun v w hvw => ?_)
  obtain ⟨rfl, rfl⟩ := hvw
  change J X 0 0 (wM t ad o m_m m_aside m_saved m_isSaved m_past m_changes m_errorAt m_failed m_thrown m_input m_inputMany m_fitting m_given m_pairs m_line m_lineMany m_letters m_begins0 m_commands m_commandMany m_place0 m_size0 m_isWrong) 5 [(0, .ref (ad o)), (1, .int a0)] [.int u1]
  refine j_istore_n hX [(2, .int u1), (0, .ref (ad o)), (1, .int a0)] dX10_dropIt_5 rfl (by decide) rfl ?_
  refine j_iload_n hX dX10_dropIt_6 rfl 0 rfl ?_
  refine j_iconst hX (-1) dX10_dropIt_7 (by decide) ?_
  refine j_icmp_ne hX 17 dX10_dropIt_8 (by decide) hf (fun c8 hf => ?_) (fun c8 hf => ?_)
  · refine j_aload_n hX dX10_dropIt_17 rfl 1 rfl ?_
    refine j_iload_n hX dX10_dropIt_18 rfl 0 rfl ?_
    obtain ⟨u3, h4, hf⟩ := jbind hf
    refine j_callV (st := []) hX (k_X10_dropsRequest (l := l) (D := D) (t := t) (ad := ad) (o := o) m_m m_aside m_saved m_isSaved m_past m_changes m_errorAt m_failed m_thrown m_input m_inputMany m_fitting m_given m_pairs m_line m_lineMany m_letters m_begins0 m_commands m_commandMany m_place0 m_size0 m_isWrong u1 u3 h4) q1567 q1568 q1964 q15 q1569 (n9 := 1) rfl ⟨by decide +kernel, by decide +kernel⟩ 0 rfl rfl rfl dX10_dropIt_19 (Nat.le_of_ble_eq_true rfl) ⟨Nat.le_refl _, Nat.le_refl _⟩ (fun w : va_W => w) jFr_id rfl rfl (fun v w hvw => ?_)
    obtain ⟨rfl, rfl⟩ := hvw
    change J X 0 0 (wM t ad o u3 m_aside m_saved m_isSaved m_past m_changes m_errorAt m_failed m_thrown m_input m_inputMany m_fitting m_given m_pairs m_line m_lineMany m_letters m_begins0 m_commands m_commandMany m_place0 m_size0 m_isWrong) 22 [(2, .int u1), (0, .ref (ad o)), (1, .int a0)] []
    refine j_aload_n hX dX10_dropIt_22 rfl 1 rfl ?_
    refine j_get hX dX10_dropIt_23 inX10 0 q1455 0 rfl rfl (by decide) rfl rfl ?_
    refine j_iconst hX 4 dX10_dropIt_26 (by decide) ?_
    refine j_iald hX dX10_dropIt_27 1 0 rfl rfl hf (fun c27 hf => ?_)
    cases hf
    exact j_iret hX hE dX10_dropIt_28 (Nat.le_refl _) (Nat.le_refl _) ⟨rfl, rfl⟩
  · refine j_aload_n hX dX10_dropIt_11 rfl 1 rfl ?_
    refine j_iconst hX 1 dX10_dropIt_12 (by decide) ?_
    obtain ⟨u5, h6, hf⟩ := jbind hf
    refine j_callV (st := []) hX (k_X10_throwing (l := l) (D := D) (t := t) (ad := ad) (o := o) m_m m_aside m_saved m_isSaved m_past m_changes m_errorAt m_failed m_thrown m_input m_inputMany m_fitting m_given m_pairs m_line m_lineMany m_letters m_begins0 m_commands m_commandMany m_place0 m_size0 m_isWrong 1 u5 h6) q1496 q1497 q1951 q15 q1498 (n9 := 1) rfl ⟨by decide +kernel, by decide +kernel⟩ 0 rfl rfl rfl dX10_dropIt_13 (Nat.le_of_ble_eq_true rfl) ⟨Nat.le_refl _, Nat.le_refl _⟩ (fun w : va_W => w) jFr_id rfl rfl (fun v w hvw => ?_)
    obtain ⟨rfl, rfl⟩ := hvw
    change J X 0 0 (wM t ad o m_m m_aside m_saved m_isSaved m_past m_changes m_errorAt m_failed u5.2 m_input m_inputMany m_fitting m_given m_pairs m_line m_lineMany m_letters m_begins0 m_commands m_commandMany m_place0 m_size0 m_isWrong) 16 [(2, .int u1), (0, .ref (ad o)), (1, .int a0)] [.int u5.1]
    cases hf
    exact j_iret hX hE dX10_dropIt_16 (Nat.le_refl _) (Nat.le_refl _) ⟨rfl, rfl⟩
-- HammerDepotModel cancelRequest (I)I
def f_X10_cancelRequest (m_m : Nat → Int32) (m_aside : Nat → Int32) (m_past : Nat → Int32) (m_changes : Int32) (m_thrown : Int32) (a0 : Int32) : Option (Int32 × (Nat → Int32) × (Nat → Int32) × (Nat → Int32) × Int32 × Int32) :=
  Option.bind (f_X10_starts m_m m_aside m_thrown) (fun u1 =>
    Option.bind (f_X10_dropIt m_m u1.2 a0) (fun u3 =>
      Option.bind (f_X10_changed u1.1 m_past m_changes u3.2.2 u3.1) (fun u5 =>
        some (u5.1, u3.2.1, u1.1, u5.2.1, u5.2.2, u3.2.2))))
set_option maxHeartbeats 4000000 in
set_option maxRecDepth 100000 in
theorem k_X10_cancelRequest {l : Launch} {D : va_G} {t : Nat → ClassId} {ad : Nat → Nat} {o : Nat} (m_m : Nat → Int32) (m_aside : Nat → Int32) (m_saved : Nat → Int32) (m_isSaved : Int32) (m_past : Nat → Int32) (m_changes : Int32) (m_errorAt : Int32) (m_failed : Int32) (m_thrown : Int32) (m_input : Nat → Int32) (m_inputMany : Int32) (m_fitting : Nat → Int32) (m_given : Nat → Int32) (m_pairs : Nat → Int32) (m_line : Nat → Int32) (m_lineMany : Int32) (m_letters : Nat → Int32) (m_begins0 : Nat → Int32) (m_commands : Nat → Int32) (m_commandMany : Int32) (m_place0 : Int32) (m_size0 : Int32) (m_isWrong : Int32) (a0 : Int32) (u : Int32 × (Nat → Int32) × (Nat → Int32) × (Nat → Int32) × Int32 × Int32) (hf : f_X10_cancelRequest m_m m_aside m_past m_changes m_thrown a0 = some u) : cm l D (jT t) yX10_cancelRequest cX10_cancelRequest 2 (some FieldType.int) { frames := 3, cells := 0, slots := 0, locals := 64 } [.ref (ad o), .int a0] (wM t ad o m_m m_aside m_saved m_isSaved m_past m_changes m_errorAt m_failed m_thrown m_input m_inputMany m_fitting m_given m_pairs m_line m_lineMany m_letters m_begins0 m_commands m_commandMany m_place0 m_size0 m_isWrong) (fun v w => v = (some (.int u.1)) ∧ w = wM t ad o u.2.1 u.2.2.1 m_saved m_isSaved u.2.2.2.1 u.2.2.2.2.1 m_errorAt m_failed u.2.2.2.2.2 m_input m_inputMany m_fitting m_given m_pairs m_line m_lineMany m_letters m_begins0 m_commands m_commandMany m_place0 m_size0 m_isWrong) := by
  refine cm_of RX10 rfl (by decide +kernel) (Nat.le_of_ble_eq_true rfl) (fun X hX hE => ?_)
  change J X 0 0 (wM t ad o m_m m_aside m_saved m_isSaved m_past m_changes m_errorAt m_failed m_thrown m_input m_inputMany m_fitting m_given m_pairs m_line m_lineMany m_letters m_begins0 m_commands m_commandMany m_place0 m_size0 m_isWrong) 0 [(0, .ref (ad o)), (1, .int a0)] []
  unfold f_X10_cancelRequest at hf
  refine j_aload_n hX dX10_cancelRequest_0 rfl 0 rfl ?_
  obtain ⟨u1, h2, hf⟩ := jbind hf
  refine j_callV (st := []) hX (k_X10_starts (l := l) (D := D) (t := t) (ad := ad) (o := o) m_m m_aside m_saved m_isSaved m_past m_changes m_errorAt m_failed m_thrown m_input m_inputMany m_fitting m_given m_pairs m_line m_lineMany m_letters m_begins0 m_commands m_commandMany m_place0 m_size0 m_isWrong  u1 h2) q1486 q1487 q1949 q15 q1488 (n9 := 0) rfl ⟨by decide +kernel, by decide +kernel⟩ 0 rfl rfl rfl dX10_cancelRequest_1 (Nat.le_of_ble_eq_true rfl) ⟨Nat.le_refl _, Nat.le_refl _⟩ (fun w : va_W => w) jFr_id rfl rfl (fun v w hvw => ?_)
  obtain ⟨rfl, rfl⟩ := hvw
  change J X 0 0 (wM t ad o m_m u1.1 m_saved m_isSaved m_past m_changes m_errorAt m_failed u1.2 m_input m_inputMany m_fitting m_given m_pairs m_line m_lineMany m_letters m_begins0 m_commands m_commandMany m_place0 m_size0 m_isWrong) 4 [(0, .ref (ad o)), (1, .int a0)] []
  refine j_aload_n hX dX10_cancelRequest_4 rfl 0 rfl ?_
  refine j_aload_n hX dX10_cancelRequest_5 rfl 0 rfl ?_
  refine j_iload_n hX dX10_cancelRequest_6 rfl 1 rfl ?_
  obtain ⟨u3, h4, hf⟩ := jbind hf
  refine j_callV (st := [.ref (ad o)]) hX (k_X10_dropIt (l := l) (D := D) (t := t) (ad := ad) (o := o) m_m u1.1 m_saved m_isSaved m_past m_changes m_errorAt m_failed u1.2 m_input m_inputMany m_fitting m_given m_pairs m_line m_lineMany m_letters m_begins0 m_commands m_commandMany m_place0 m_size0 m_isWrong a0 u3 h4) q1561 q1562 q1962 q15 q1563 (n9 := 1) rfl ⟨by decide +kernel, by decide +kernel⟩ 0 rfl rfl rfl dX10_cancelRequest_7 (Nat.le_of_ble_eq_true rfl) ⟨Nat.le_refl _, Nat.le_refl _⟩ (fun w : va_W => w) jFr_id rfl rfl (fun v w hvw => ?_)
  obtain ⟨rfl, rfl⟩ := hvw
  change J X 0 0 (wM t ad o u3.2.1 u1.1 m_saved m_isSaved m_past m_changes m_errorAt m_failed u3.2.2 m_input m_inputMany m_fitting m_given m_pairs m_line m_lineMany m_letters m_begins0 m_commands m_commandMany m_place0 m_size0 m_isWrong) 10 [(0, .ref (ad o)), (1, .int a0)] [.int u3.1, .ref (ad o)]
  obtain ⟨u5, h6, hf⟩ := jbind hf
  refine j_callV (st := []) hX (k_X10_changed (l := l) (D := D) (t := t) (ad := ad) (o := o) u3.2.1 u1.1 m_saved m_isSaved m_past m_changes m_errorAt m_failed u3.2.2 m_input m_inputMany m_fitting m_given m_pairs m_line m_lineMany m_letters m_begins0 m_commands m_commandMany m_place0 m_size0 m_isWrong u3.1 u5 h6) q1512 q1513 q1954 q15 q1514 (n9 := 1) rfl ⟨by decide +kernel, by decide +kernel⟩ 0 rfl rfl rfl dX10_cancelRequest_10 (Nat.le_of_ble_eq_true rfl) ⟨Nat.le_refl _, Nat.le_refl _⟩ (fun w : va_W => w) jFr_id rfl rfl (fun v w hvw => ?_)
  obtain ⟨rfl, rfl⟩ := hvw
  change J X 0 0 (wM t ad o u3.2.1 u1.1 m_saved m_isSaved u5.2.1 u5.2.2 m_errorAt m_failed u3.2.2 m_input m_inputMany m_fitting m_given m_pairs m_line m_lineMany m_letters m_begins0 m_commands m_commandMany m_place0 m_size0 m_isWrong) 13 [(0, .ref (ad o)), (1, .int a0)] [.int u5.1]
  cases hf
  exact j_iret hX hE dX10_cancelRequest_13 (Nat.le_refl _) (Nat.le_refl _) ⟨rfl, rfl⟩
-- HammerDepotModel grantIt (I)I
def f_X10_grantIt (m_m : Nat → Int32) (m_thrown : Int32) (a0 : Int32) : Option (Int32 × (Nat → Int32) × Int32) :=
  Option.bind (f_X10_find m_m a0) (fun u1 =>
    if u1 = (-1) then
      Option.bind (f_X10_throwing m_thrown 1) (fun u13 =>
        some (u13.1, m_m, u13.2))
    else
      Option.bind (f_X10_requestOf u1) (fun u3 =>
        if jin (u3 + 4) 2048 = true then
          if jin 1 2048 = true then
            if (m_m (1 : Int32).toNatClampNeg) < (m_m (u3 + 4).toNatClampNeg) then
              Option.bind (f_X10_best m_m u1) (fun u5 =>
                if u5 = (-1) then
                  Option.bind (f_X10_throwing m_thrown 3) (fun u9 =>
                    some (u9.1, m_m, u9.2))
                else
                  Option.bind (f_X10_books m_m u1 u5) (fun u7 =>
                    some (u5, u7, m_thrown)))
            else
              Option.bind (f_X10_throwing m_thrown 2) (fun u11 =>
                some (u11.1, m_m, u11.2))
          else none
        else none))
set_option maxHeartbeats 4000000 in
set_option maxRecDepth 100000 in
theorem k_X10_grantIt {l : Launch} {D : va_G} {t : Nat → ClassId} {ad : Nat → Nat} {o : Nat} (m_m : Nat → Int32) (m_aside : Nat → Int32) (m_saved : Nat → Int32) (m_isSaved : Int32) (m_past : Nat → Int32) (m_changes : Int32) (m_errorAt : Int32) (m_failed : Int32) (m_thrown : Int32) (m_input : Nat → Int32) (m_inputMany : Int32) (m_fitting : Nat → Int32) (m_given : Nat → Int32) (m_pairs : Nat → Int32) (m_line : Nat → Int32) (m_lineMany : Int32) (m_letters : Nat → Int32) (m_begins0 : Nat → Int32) (m_commands : Nat → Int32) (m_commandMany : Int32) (m_place0 : Int32) (m_size0 : Int32) (m_isWrong : Int32) (a0 : Int32) (u : Int32 × (Nat → Int32) × Int32) (hf : f_X10_grantIt m_m m_thrown a0 = some u) : cm l D (jT t) yX10_grantIt cX10_grantIt 4 (some FieldType.int) { frames := 4, cells := 0, slots := 0, locals := 97 } [.ref (ad o), .int a0] (wM t ad o m_m m_aside m_saved m_isSaved m_past m_changes m_errorAt m_failed m_thrown m_input m_inputMany m_fitting m_given m_pairs m_line m_lineMany m_letters m_begins0 m_commands m_commandMany m_place0 m_size0 m_isWrong) (fun v w => v = (some (.int u.1)) ∧ w = wM t ad o u.2.1 m_aside m_saved m_isSaved m_past m_changes m_errorAt m_failed u.2.2 m_input m_inputMany m_fitting m_given m_pairs m_line m_lineMany m_letters m_begins0 m_commands m_commandMany m_place0 m_size0 m_isWrong) := by
  refine cm_of RX10 rfl (by decide +kernel) (Nat.le_of_ble_eq_true rfl) (fun X hX hE => ?_)
  change J X 0 0 (wM t ad o m_m m_aside m_saved m_isSaved m_past m_changes m_errorAt m_failed m_thrown m_input m_inputMany m_fitting m_given m_pairs m_line m_lineMany m_letters m_begins0 m_commands m_commandMany m_place0 m_size0 m_isWrong) 0 [(0, .ref (ad o)), (1, .int a0)] []
  unfold f_X10_grantIt at hf
  refine j_aload_n hX dX10_grantIt_0 rfl 0 rfl ?_
  refine j_iload_n hX dX10_grantIt_1 rfl 1 rfl ?_
  obtain ⟨u1, h2, hf⟩ := jbind hf
  refine j_callV (st := []) hX (k_X10_find (l := l) (D := D) (t := t) (ad := ad) (o := o) m_m m_aside m_saved m_isSaved m_past m_changes m_errorAt m_failed m_thrown m_input m_inputMany m_fitting m_given m_pairs m_line m_lineMany m_letters m_begins0 m_commands m_commandMany m_place0 m_size0 m_isWrong a0 u1 h2) q1564 q1565 q1963 q15 q1566 (n9 := 1) rfl ⟨by decide +kernel, by decide +kernel⟩ 0 rfl rfl rfl dX10_grantIt_2 (Nat.le_of_ble_eq_true rfl) ⟨Nat.le_refl _, Nat.le_refl _⟩ (fun w : va_W => w) jFr_id rfl rfl (fun v w hvw => ?_)
  obtain ⟨rfl, rfl⟩ := hvw
  change J X 0 0 (wM t ad o m_m m_aside m_saved m_isSaved m_past m_changes m_errorAt m_failed m_thrown m_input m_inputMany m_fitting m_given m_pairs m_line m_lineMany m_letters m_begins0 m_commands m_commandMany m_place0 m_size0 m_isWrong) 5 [(0, .ref (ad o)), (1, .int a0)] [.int u1]
  refine j_istore_n hX [(2, .int u1), (0, .ref (ad o)), (1, .int a0)] dX10_grantIt_5 rfl (by decide) rfl ?_
  refine j_iload_n hX dX10_grantIt_6 rfl 0 rfl ?_
  refine j_iconst hX (-1) dX10_grantIt_7 (by decide) ?_
  refine j_icmp_ne hX 17 dX10_grantIt_8 (by decide) hf (fun c8 hf => ?_) (fun c8 hf => ?_)
  · refine j_aload_n hX dX10_grantIt_17 rfl 1 rfl ?_
    refine j_get hX dX10_grantIt_18 inX10 0 q1455 0 rfl rfl (by decide) rfl rfl ?_
    refine j_iload_n hX dX10_grantIt_21 rfl 0 rfl ?_
    obtain ⟨u3, h4, hf⟩ := jbind hf
    refine j_callS (st := [.ref (ad (o + 1))]) hX (k_X10_requestOf (l := l) (D := D) (t := t) (ad := ad)  u1 u3 h4) q1554 q1555 q15 q1556 (n9 := 1) rfl ⟨by decide +kernel, by decide +kernel⟩ dX10_grantIt_22 (Nat.le_of_ble_eq_true rfl) ⟨Nat.le_refl _, Nat.le_refl _⟩ (fun w : va_W => w ++ (wM t ad o m_m m_aside m_saved m_isSaved m_past m_changes m_errorAt m_failed m_thrown m_input m_inputMany m_fitting m_given m_pairs m_line m_lineMany m_letters m_begins0 m_commands m_commandMany m_place0 m_size0 m_isWrong)) (jFr_r (wM t ad o m_m m_aside m_saved m_isSaved m_past m_changes m_errorAt m_failed m_thrown m_input m_inputMany m_fitting m_given m_pairs m_line m_lineMany m_letters m_begins0 m_commands m_commandMany m_place0 m_size0 m_isWrong)) rfl rfl (fun v w hvw => ?_)
    obtain ⟨rfl, rfl⟩ := hvw
    change J X 0 0 (wM t ad o m_m m_aside m_saved m_isSaved m_past m_changes m_errorAt m_failed m_thrown m_input m_inputMany m_fitting m_given m_pairs m_line m_lineMany m_letters m_begins0 m_commands m_commandMany m_place0 m_size0 m_isWrong) 25 [(2, .int u1), (0, .ref (ad o)), (1, .int a0)] [.int u3, .ref (ad (o + 1))]
    refine j_iconst hX 4 dX10_grantIt_25 (by decide) ?_
    refine j_iadd hX dX10_grantIt_26 ?_
    refine j_iald hX dX10_grantIt_27 1 0 rfl rfl hf (fun c27 hf => ?_)
    refine j_aload_n hX dX10_grantIt_28 rfl 1 rfl ?_
    refine j_get hX dX10_grantIt_29 inX10 0 q1455 0 rfl rfl (by decide) rfl rfl ?_
    refine j_iconst hX 1 dX10_grantIt_32 (by decide) ?_
    refine j_iald hX dX10_grantIt_33 1 0 rfl rfl hf (fun c33 hf => ?_)
    refine j_icmp_gt hX 43 dX10_grantIt_34 (by decide) hf (fun c34 hf => ?_) (fun c34 hf => ?_)
    · refine j_aload_n hX dX10_grantIt_43 rfl 1 rfl ?_
      refine j_iload_n hX dX10_grantIt_44 rfl 0 rfl ?_
      obtain ⟨u5, h6, hf⟩ := jbind hf
      refine j_callV (st := []) hX (k_X10_best (l := l) (D := D) (t := t) (ad := ad) (o := o) m_m m_aside m_saved m_isSaved m_past m_changes m_errorAt m_failed m_thrown m_input m_inputMany m_fitting m_given m_pairs m_line m_lineMany m_letters m_begins0 m_commands m_commandMany m_place0 m_size0 m_isWrong u1 u5 h6) q1577 q1578 q1966 q15 q1579 (n9 := 1) rfl ⟨by decide +kernel, by decide +kernel⟩ 0 rfl rfl rfl dX10_grantIt_45 (Nat.le_of_ble_eq_true rfl) ⟨Nat.le_refl _, Nat.le_refl _⟩ (fun w : va_W => w) jFr_id rfl rfl (fun v w hvw => ?_)
      obtain ⟨rfl, rfl⟩ := hvw
      change J X 0 0 (wM t ad o m_m m_aside m_saved m_isSaved m_past m_changes m_errorAt m_failed m_thrown m_input m_inputMany m_fitting m_given m_pairs m_line m_lineMany m_letters m_begins0 m_commands m_commandMany m_place0 m_size0 m_isWrong) 48 [(2, .int u1), (0, .ref (ad o)), (1, .int a0)] [.int u5]
      refine j_istore_n hX [(3, .int u5), (2, .int u1), (0, .ref (ad o)), (1, .int a0)] dX10_grantIt_48 rfl (by decide) rfl ?_
      refine j_iload_n hX dX10_grantIt_49 rfl 0 rfl ?_
      refine j_iconst hX (-1) dX10_grantIt_50 (by decide) ?_
      refine j_icmp_ne hX 60 dX10_grantIt_51 (by decide) hf (fun c51 hf => ?_) (fun c51 hf => ?_)
      · refine j_aload_n hX dX10_grantIt_60 rfl 2 rfl ?_
        refine j_iload_n hX dX10_grantIt_61 rfl 1 rfl ?_
        refine j_iload_n hX dX10_grantIt_62 rfl 0 rfl ?_
        obtain ⟨u7, h8, hf⟩ := jbind hf
        refine j_callV (st := []) hX (k_X10_books (l := l) (D := D) (t := t) (ad := ad) (o := o) m_m m_aside m_saved m_isSaved m_past m_changes m_errorAt m_failed m_thrown m_input m_inputMany m_fitting m_given m_pairs m_line m_lineMany m_letters m_begins0 m_commands m_commandMany m_place0 m_size0 m_isWrong u1 u5 u7 h8) q1590 q1591 q1969 q15 q1592 (n9 := 2) rfl ⟨by decide +kernel, by decide +kernel⟩ 0 rfl rfl rfl dX10_grantIt_63 (Nat.le_of_ble_eq_true rfl) ⟨Nat.le_refl _, Nat.le_refl _⟩ (fun w : va_W => w) jFr_id rfl rfl (fun v w hvw => ?_)
        obtain ⟨rfl, rfl⟩ := hvw
        change J X 0 0 (wM t ad o u7 m_aside m_saved m_isSaved m_past m_changes m_errorAt m_failed m_thrown m_input m_inputMany m_fitting m_given m_pairs m_line m_lineMany m_letters m_begins0 m_commands m_commandMany m_place0 m_size0 m_isWrong) 66 [(3, .int u5), (2, .int u1), (0, .ref (ad o)), (1, .int a0)] []
        refine j_iload_n hX dX10_grantIt_66 rfl 0 rfl ?_
        cases hf
        exact j_iret hX hE dX10_grantIt_67 (Nat.le_refl _) (Nat.le_refl _) ⟨rfl, rfl⟩
      · refine j_aload_n hX dX10_grantIt_54 rfl 2 rfl ?_
        refine j_iconst hX 3 dX10_grantIt_55 (by decide) ?_
        obtain ⟨u9, h10, hf⟩ := jbind hf
        refine j_callV (st := []) hX (k_X10_throwing (l := l) (D := D) (t := t) (ad := ad) (o := o) m_m m_aside m_saved m_isSaved m_past m_changes m_errorAt m_failed m_thrown m_input m_inputMany m_fitting m_given m_pairs m_line m_lineMany m_letters m_begins0 m_commands m_commandMany m_place0 m_size0 m_isWrong 3 u9 h10) q1496 q1497 q1951 q15 q1498 (n9 := 1) rfl ⟨by decide +kernel, by decide +kernel⟩ 0 rfl rfl rfl dX10_grantIt_56 (Nat.le_of_ble_eq_true rfl) ⟨Nat.le_refl _, Nat.le_refl _⟩ (fun w : va_W => w) jFr_id rfl rfl (fun v w hvw => ?_)
        obtain ⟨rfl, rfl⟩ := hvw
        change J X 0 0 (wM t ad o m_m m_aside m_saved m_isSaved m_past m_changes m_errorAt m_failed u9.2 m_input m_inputMany m_fitting m_given m_pairs m_line m_lineMany m_letters m_begins0 m_commands m_commandMany m_place0 m_size0 m_isWrong) 59 [(3, .int u5), (2, .int u1), (0, .ref (ad o)), (1, .int a0)] [.int u9.1]
        cases hf
        exact j_iret hX hE dX10_grantIt_59 (Nat.le_refl _) (Nat.le_refl _) ⟨rfl, rfl⟩
    · refine j_aload_n hX dX10_grantIt_37 rfl 1 rfl ?_
      refine j_iconst hX 2 dX10_grantIt_38 (by decide) ?_
      obtain ⟨u11, h12, hf⟩ := jbind hf
      refine j_callV (st := []) hX (k_X10_throwing (l := l) (D := D) (t := t) (ad := ad) (o := o) m_m m_aside m_saved m_isSaved m_past m_changes m_errorAt m_failed m_thrown m_input m_inputMany m_fitting m_given m_pairs m_line m_lineMany m_letters m_begins0 m_commands m_commandMany m_place0 m_size0 m_isWrong 2 u11 h12) q1496 q1497 q1951 q15 q1498 (n9 := 1) rfl ⟨by decide +kernel, by decide +kernel⟩ 0 rfl rfl rfl dX10_grantIt_39 (Nat.le_of_ble_eq_true rfl) ⟨Nat.le_refl _, Nat.le_refl _⟩ (fun w : va_W => w) jFr_id rfl rfl (fun v w hvw => ?_)
      obtain ⟨rfl, rfl⟩ := hvw
      change J X 0 0 (wM t ad o m_m m_aside m_saved m_isSaved m_past m_changes m_errorAt m_failed u11.2 m_input m_inputMany m_fitting m_given m_pairs m_line m_lineMany m_letters m_begins0 m_commands m_commandMany m_place0 m_size0 m_isWrong) 42 [(2, .int u1), (0, .ref (ad o)), (1, .int a0)] [.int u11.1]
      cases hf
      exact j_iret hX hE dX10_grantIt_42 (Nat.le_refl _) (Nat.le_refl _) ⟨rfl, rfl⟩
  · refine j_aload_n hX dX10_grantIt_11 rfl 1 rfl ?_
    refine j_iconst hX 1 dX10_grantIt_12 (by decide) ?_
    obtain ⟨u13, h14, hf⟩ := jbind hf
    refine j_callV (st := []) hX (k_X10_throwing (l := l) (D := D) (t := t) (ad := ad) (o := o) m_m m_aside m_saved m_isSaved m_past m_changes m_errorAt m_failed m_thrown m_input m_inputMany m_fitting m_given m_pairs m_line m_lineMany m_letters m_begins0 m_commands m_commandMany m_place0 m_size0 m_isWrong 1 u13 h14) q1496 q1497 q1951 q15 q1498 (n9 := 1) rfl ⟨by decide +kernel, by decide +kernel⟩ 0 rfl rfl rfl dX10_grantIt_13 (Nat.le_of_ble_eq_true rfl) ⟨Nat.le_refl _, Nat.le_refl _⟩ (fun w : va_W => w) jFr_id rfl rfl (fun v w hvw => ?_)
    obtain ⟨rfl, rfl⟩ := hvw
    change J X 0 0 (wM t ad o m_m m_aside m_saved m_isSaved m_past m_changes m_errorAt m_failed u13.2 m_input m_inputMany m_fitting m_given m_pairs m_line m_lineMany m_letters m_begins0 m_commands m_commandMany m_place0 m_size0 m_isWrong) 16 [(2, .int u1), (0, .ref (ad o)), (1, .int a0)] [.int u13.1]
    cases hf
    exact j_iret hX hE dX10_grantIt_16 (Nat.le_refl _) (Nat.le_refl _) ⟨rfl, rfl⟩

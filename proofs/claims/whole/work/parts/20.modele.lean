-- HammerDepotModel ofHammer (II)I
def f_X10_ofHammer (m_m : Nat → Int32) (m_thrown : Int32) (a0 : Int32) (a1 : Int32) : Option (Int32 × Int32) :=
  Option.bind (f_X10_isHammer m_m a0) (fun u1 =>
    if u1 = 0 then
      Option.bind (f_X10_throwing 0 1) (fun u3 =>
        some (u3.1, u3.2))
    else
      Option.bind (f_X10_hammerOf a0) (fun u5 =>
        if jin (u5 + a1) 2048 = true then
          some (m_m (u5 + a1).toNatClampNeg, 0)
        else none))
set_option maxHeartbeats 4000000 in
set_option maxRecDepth 100000 in
theorem k_X10_ofHammer {l : Launch} {D : va_G} {t : Nat → ClassId} {ad : Nat → Nat} {o : Nat} (m_m : Nat → Int32) (m_aside : Nat → Int32) (m_saved : Nat → Int32) (m_isSaved : Int32) (m_past : Nat → Int32) (m_changes : Int32) (m_errorAt : Int32) (m_failed : Int32) (m_thrown : Int32) (m_input : Nat → Int32) (m_inputMany : Int32) (m_fitting : Nat → Int32) (m_given : Nat → Int32) (m_pairs : Nat → Int32) (m_line : Nat → Int32) (m_lineMany : Int32) (m_letters : Nat → Int32) (m_begins0 : Nat → Int32) (m_commands : Nat → Int32) (m_commandMany : Int32) (m_place0 : Int32) (m_size0 : Int32) (m_isWrong : Int32) (a0 : Int32) (a1 : Int32) (u : Int32 × Int32) (hf : f_X10_ofHammer m_m m_thrown a0 a1 = some u) : cm l D (jT t) yX10_ofHammer cX10_ofHammer 3 (some FieldType.int) { frames := 2, cells := 0, slots := 0, locals := 46 } [.ref (ad o), .int a0, .int a1] (wM t ad o m_m m_aside m_saved m_isSaved m_past m_changes m_errorAt m_failed m_thrown m_input m_inputMany m_fitting m_given m_pairs m_line m_lineMany m_letters m_begins0 m_commands m_commandMany m_place0 m_size0 m_isWrong) (fun v w => v = (some (.int u.1)) ∧ w = wM t ad o m_m m_aside m_saved m_isSaved m_past m_changes m_errorAt m_failed u.2 m_input m_inputMany m_fitting m_given m_pairs m_line m_lineMany m_letters m_begins0 m_commands m_commandMany m_place0 m_size0 m_isWrong) := by
  refine cm_of RX10 rfl (by decide +kernel) (Nat.le_of_ble_eq_true rfl) (fun X hX hE => ?_)
  change J X 0 0 (wM t ad o m_m m_aside m_saved m_isSaved m_past m_changes m_errorAt m_failed m_thrown m_input m_inputMany m_fitting m_given m_pairs m_line m_lineMany m_letters m_begins0 m_commands m_commandMany m_place0 m_size0 m_isWrong) 0 [(0, .ref (ad o)), (1, .int a0), (2, .int a1)] []
  unfold f_X10_ofHammer at hf
  refine j_aload_n hX dX10_ofHammer_0 rfl 0 rfl ?_
  refine j_iconst hX 0 dX10_ofHammer_1 (by decide) ?_
  refine j_put hX (wM t ad o m_m m_aside m_saved m_isSaved m_past m_changes m_errorAt m_failed 0 m_input m_inputMany m_fitting m_given m_pairs m_line m_lineMany m_letters m_begins0 m_commands m_commandMany m_place0 m_size0 m_isWrong) tyX10 dX10_ofHammer_2 inX10 tyX10_ok nmX10 8 q1463 0 rfl rfl (by decide) rfl rfl rfl rfl rfl (Nat.le_of_ble_eq_true rfl) rfl ?_
  refine j_aload_n hX dX10_ofHammer_5 rfl 0 rfl ?_
  refine j_iload_n hX dX10_ofHammer_6 rfl 1 rfl ?_
  obtain ⟨u1, h2, hf⟩ := jbind hf
  refine j_callV (st := []) hX (k_X10_isHammer (l := l) (D := D) (t := t) (ad := ad) (o := o) m_m m_aside m_saved m_isSaved m_past m_changes m_errorAt m_failed 0 m_input m_inputMany m_fitting m_given m_pairs m_line m_lineMany m_letters m_begins0 m_commands m_commandMany m_place0 m_size0 m_isWrong a0 u1 h2) q1522 q1523 q1956 q15 q1524 (n9 := 1) rfl ⟨by decide +kernel, by decide +kernel⟩ 0 rfl rfl rfl dX10_ofHammer_7 (Nat.le_of_ble_eq_true rfl) ⟨Nat.le_refl _, Nat.le_refl _⟩ (fun w : va_W => w) jFr_id rfl rfl (fun v w hvw => ?_)
  obtain ⟨rfl, rfl⟩ := hvw
  change J X 0 0 (wM t ad o m_m m_aside m_saved m_isSaved m_past m_changes m_errorAt m_failed 0 m_input m_inputMany m_fitting m_given m_pairs m_line m_lineMany m_letters m_begins0 m_commands m_commandMany m_place0 m_size0 m_isWrong) 10 [(0, .ref (ad o)), (1, .int a0), (2, .int a1)] [.int u1]
  refine j_if_eq hX 27 dX10_ofHammer_10 (by decide) hf (fun c10 hf => ?_) (fun c10 hf => ?_)
  · refine j_aload_n hX dX10_ofHammer_27 rfl 0 rfl ?_
    refine j_iconst hX 1 dX10_ofHammer_28 (by decide) ?_
    obtain ⟨u3, h4, hf⟩ := jbind hf
    refine j_callV (st := []) hX (k_X10_throwing (l := l) (D := D) (t := t) (ad := ad) (o := o) m_m m_aside m_saved m_isSaved m_past m_changes m_errorAt m_failed 0 m_input m_inputMany m_fitting m_given m_pairs m_line m_lineMany m_letters m_begins0 m_commands m_commandMany m_place0 m_size0 m_isWrong 1 u3 h4) q1496 q1497 q1951 q15 q1498 (n9 := 1) rfl ⟨by decide +kernel, by decide +kernel⟩ 0 rfl rfl rfl dX10_ofHammer_29 (Nat.le_of_ble_eq_true rfl) ⟨Nat.le_refl _, Nat.le_refl _⟩ (fun w : va_W => w) jFr_id rfl rfl (fun v w hvw => ?_)
    obtain ⟨rfl, rfl⟩ := hvw
    change J X 0 0 (wM t ad o m_m m_aside m_saved m_isSaved m_past m_changes m_errorAt m_failed u3.2 m_input m_inputMany m_fitting m_given m_pairs m_line m_lineMany m_letters m_begins0 m_commands m_commandMany m_place0 m_size0 m_isWrong) 32 [(0, .ref (ad o)), (1, .int a0), (2, .int a1)] [.int u3.1]
    cases hf
    exact j_iret hX hE dX10_ofHammer_32 (Nat.le_refl _) (Nat.le_refl _) ⟨rfl, rfl⟩
  · refine j_aload_n hX dX10_ofHammer_13 rfl 0 rfl ?_
    refine j_get hX dX10_ofHammer_14 inX10 0 q1455 0 rfl rfl (by decide) rfl rfl ?_
    refine j_iload_n hX dX10_ofHammer_17 rfl 1 rfl ?_
    obtain ⟨u5, h6, hf⟩ := jbind hf
    refine j_callS (st := [.ref (ad (o + 1))]) hX (k_X10_hammerOf (l := l) (D := D) (t := t) (ad := ad)  a0 u5 h6) q1509 q1510 q15 q1511 (n9 := 1) rfl ⟨by decide +kernel, by decide +kernel⟩ dX10_ofHammer_18 (Nat.le_of_ble_eq_true rfl) ⟨Nat.le_refl _, Nat.le_refl _⟩ (fun w : va_W => w ++ (wM t ad o m_m m_aside m_saved m_isSaved m_past m_changes m_errorAt m_failed 0 m_input m_inputMany m_fitting m_given m_pairs m_line m_lineMany m_letters m_begins0 m_commands m_commandMany m_place0 m_size0 m_isWrong)) (jFr_r (wM t ad o m_m m_aside m_saved m_isSaved m_past m_changes m_errorAt m_failed 0 m_input m_inputMany m_fitting m_given m_pairs m_line m_lineMany m_letters m_begins0 m_commands m_commandMany m_place0 m_size0 m_isWrong)) rfl rfl (fun v w hvw => ?_)
    obtain ⟨rfl, rfl⟩ := hvw
    change J X 0 0 (wM t ad o m_m m_aside m_saved m_isSaved m_past m_changes m_errorAt m_failed 0 m_input m_inputMany m_fitting m_given m_pairs m_line m_lineMany m_letters m_begins0 m_commands m_commandMany m_place0 m_size0 m_isWrong) 21 [(0, .ref (ad o)), (1, .int a0), (2, .int a1)] [.int u5, .ref (ad (o + 1))]
    refine j_iload_n hX dX10_ofHammer_21 rfl 2 rfl ?_
    refine j_iadd hX dX10_ofHammer_22 ?_
    refine j_iald hX dX10_ofHammer_23 1 0 rfl rfl hf (fun c23 hf => ?_)
    refine j_goto hX 32 dX10_ofHammer_24 (by decide) ?_
    cases hf
    exact j_iret hX hE dX10_ofHammer_32 (Nat.le_refl _) (Nat.le_refl _) ⟨rfl, rfl⟩
-- HammerDepotModel pitch (I)I
def f_X10_pitch (m_m : Nat → Int32) (m_thrown : Int32) (a0 : Int32) : Option (Int32 × Int32) :=
  Option.bind (f_X10_ofHammer m_m m_thrown a0 0) (fun u1 =>
    some (u1.1, u1.2))
set_option maxHeartbeats 4000000 in
set_option maxRecDepth 100000 in
theorem k_X10_pitch {l : Launch} {D : va_G} {t : Nat → ClassId} {ad : Nat → Nat} {o : Nat} (m_m : Nat → Int32) (m_aside : Nat → Int32) (m_saved : Nat → Int32) (m_isSaved : Int32) (m_past : Nat → Int32) (m_changes : Int32) (m_errorAt : Int32) (m_failed : Int32) (m_thrown : Int32) (m_input : Nat → Int32) (m_inputMany : Int32) (m_fitting : Nat → Int32) (m_given : Nat → Int32) (m_pairs : Nat → Int32) (m_line : Nat → Int32) (m_lineMany : Int32) (m_letters : Nat → Int32) (m_begins0 : Nat → Int32) (m_commands : Nat → Int32) (m_commandMany : Int32) (m_place0 : Int32) (m_size0 : Int32) (m_isWrong : Int32) (a0 : Int32) (u : Int32 × Int32) (hf : f_X10_pitch m_m m_thrown a0 = some u) : cm l D (jT t) yX10_pitch cX10_pitch 2 (some FieldType.int) { frames := 3, cells := 0, slots := 0, locals := 68 } [.ref (ad o), .int a0] (wM t ad o m_m m_aside m_saved m_isSaved m_past m_changes m_errorAt m_failed m_thrown m_input m_inputMany m_fitting m_given m_pairs m_line m_lineMany m_letters m_begins0 m_commands m_commandMany m_place0 m_size0 m_isWrong) (fun v w => v = (some (.int u.1)) ∧ w = wM t ad o m_m m_aside m_saved m_isSaved m_past m_changes m_errorAt m_failed u.2 m_input m_inputMany m_fitting m_given m_pairs m_line m_lineMany m_letters m_begins0 m_commands m_commandMany m_place0 m_size0 m_isWrong) := by
  refine cm_of RX10 rfl (by decide +kernel) (Nat.le_of_ble_eq_true rfl) (fun X hX hE => ?_)
  change J X 0 0 (wM t ad o m_m m_aside m_saved m_isSaved m_past m_changes m_errorAt m_failed m_thrown m_input m_inputMany m_fitting m_given m_pairs m_line m_lineMany m_letters m_begins0 m_commands m_commandMany m_place0 m_size0 m_isWrong) 0 [(0, .ref (ad o)), (1, .int a0)] []
  unfold f_X10_pitch at hf
  refine j_aload_n hX dX10_pitch_0 rfl 0 rfl ?_
  refine j_iload_n hX dX10_pitch_1 rfl 1 rfl ?_
  refine j_iconst hX 0 dX10_pitch_2 (by decide) ?_
  obtain ⟨u1, h2, hf⟩ := jbind hf
  refine j_callV (st := []) hX (k_X10_ofHammer (l := l) (D := D) (t := t) (ad := ad) (o := o) m_m m_aside m_saved m_isSaved m_past m_changes m_errorAt m_failed m_thrown m_input m_inputMany m_fitting m_given m_pairs m_line m_lineMany m_letters m_begins0 m_commands m_commandMany m_place0 m_size0 m_isWrong a0 0 u1 h2) q1657 q1658 q1981 q15 q1659 (n9 := 2) rfl ⟨by decide +kernel, by decide +kernel⟩ 0 rfl rfl rfl dX10_pitch_3 (Nat.le_of_ble_eq_true rfl) ⟨Nat.le_refl _, Nat.le_refl _⟩ (fun w : va_W => w) jFr_id rfl rfl (fun v w hvw => ?_)
  obtain ⟨rfl, rfl⟩ := hvw
  change J X 0 0 (wM t ad o m_m m_aside m_saved m_isSaved m_past m_changes m_errorAt m_failed u1.2 m_input m_inputMany m_fitting m_given m_pairs m_line m_lineMany m_letters m_begins0 m_commands m_commandMany m_place0 m_size0 m_isWrong) 6 [(0, .ref (ad o)), (1, .int a0)] [.int u1.1]
  cases hf
  exact j_iret hX hE dX10_pitch_6 (Nat.le_refl _) (Nat.le_refl _) ⟨rfl, rfl⟩
-- HammerDepotModel wear (I)I
def f_X10_wear (m_m : Nat → Int32) (m_thrown : Int32) (a0 : Int32) : Option (Int32 × Int32) :=
  Option.bind (f_X10_ofHammer m_m m_thrown a0 1) (fun u1 =>
    some (u1.1, u1.2))
set_option maxHeartbeats 4000000 in
set_option maxRecDepth 100000 in
theorem k_X10_wear {l : Launch} {D : va_G} {t : Nat → ClassId} {ad : Nat → Nat} {o : Nat} (m_m : Nat → Int32) (m_aside : Nat → Int32) (m_saved : Nat → Int32) (m_isSaved : Int32) (m_past : Nat → Int32) (m_changes : Int32) (m_errorAt : Int32) (m_failed : Int32) (m_thrown : Int32) (m_input : Nat → Int32) (m_inputMany : Int32) (m_fitting : Nat → Int32) (m_given : Nat → Int32) (m_pairs : Nat → Int32) (m_line : Nat → Int32) (m_lineMany : Int32) (m_letters : Nat → Int32) (m_begins0 : Nat → Int32) (m_commands : Nat → Int32) (m_commandMany : Int32) (m_place0 : Int32) (m_size0 : Int32) (m_isWrong : Int32) (a0 : Int32) (u : Int32 × Int32) (hf : f_X10_wear m_m m_thrown a0 = some u) : cm l D (jT t) yX10_wear cX10_wear 2 (some FieldType.int) { frames := 3, cells := 0, slots := 0, locals := 68 } [.ref (ad o), .int a0] (wM t ad o m_m m_aside m_saved m_isSaved m_past m_changes m_errorAt m_failed m_thrown m_input m_inputMany m_fitting m_given m_pairs m_line m_lineMany m_letters m_begins0 m_commands m_commandMany m_place0 m_size0 m_isWrong) (fun v w => v = (some (.int u.1)) ∧ w = wM t ad o m_m m_aside m_saved m_isSaved m_past m_changes m_errorAt m_failed u.2 m_input m_inputMany m_fitting m_given m_pairs m_line m_lineMany m_letters m_begins0 m_commands m_commandMany m_place0 m_size0 m_isWrong) := by
  refine cm_of RX10 rfl (by decide +kernel) (Nat.le_of_ble_eq_true rfl) (fun X hX hE => ?_)
  change J X 0 0 (wM t ad o m_m m_aside m_saved m_isSaved m_past m_changes m_errorAt m_failed m_thrown m_input m_inputMany m_fitting m_given m_pairs m_line m_lineMany m_letters m_begins0 m_commands m_commandMany m_place0 m_size0 m_isWrong) 0 [(0, .ref (ad o)), (1, .int a0)] []
  unfold f_X10_wear at hf
  refine j_aload_n hX dX10_wear_0 rfl 0 rfl ?_
  refine j_iload_n hX dX10_wear_1 rfl 1 rfl ?_
  refine j_iconst hX 1 dX10_wear_2 (by decide) ?_
  obtain ⟨u1, h2, hf⟩ := jbind hf
  refine j_callV (st := []) hX (k_X10_ofHammer (l := l) (D := D) (t := t) (ad := ad) (o := o) m_m m_aside m_saved m_isSaved m_past m_changes m_errorAt m_failed m_thrown m_input m_inputMany m_fitting m_given m_pairs m_line m_lineMany m_letters m_begins0 m_commands m_commandMany m_place0 m_size0 m_isWrong a0 1 u1 h2) q1657 q1658 q1981 q15 q1659 (n9 := 2) rfl ⟨by decide +kernel, by decide +kernel⟩ 0 rfl rfl rfl dX10_wear_3 (Nat.le_of_ble_eq_true rfl) ⟨Nat.le_refl _, Nat.le_refl _⟩ (fun w : va_W => w) jFr_id rfl rfl (fun v w hvw => ?_)
  obtain ⟨rfl, rfl⟩ := hvw
  change J X 0 0 (wM t ad o m_m m_aside m_saved m_isSaved m_past m_changes m_errorAt m_failed u1.2 m_input m_inputMany m_fitting m_given m_pairs m_line m_lineMany m_letters m_begins0 m_commands m_commandMany m_place0 m_size0 m_isWrong) 6 [(0, .ref (ad o)), (1, .int a0)] [.int u1.1]
  cases hf
  exact j_iret hX hE dX10_wear_6 (Nat.le_refl _) (Nat.le_refl _) ⟨rfl, rfl⟩
-- HammerDepotModel isLent (I)Z
def f_X10_isLent (m_m : Nat → Int32) (m_thrown : Int32) (a0 : Int32) : Option (Int32 × Int32) :=
  Option.bind (f_X10_ofHammer m_m m_thrown a0 2) (fun u1 =>
    if u1.2 = 0 then
      if u1.1 = (-1) then
        some (1, u1.2)
      else
        some (0, u1.2)
    else
      some (0, u1.2))
set_option maxHeartbeats 4000000 in
set_option maxRecDepth 100000 in
theorem k_X10_isLent {l : Launch} {D : va_G} {t : Nat → ClassId} {ad : Nat → Nat} {o : Nat} (m_m : Nat → Int32) (m_aside : Nat → Int32) (m_saved : Nat → Int32) (m_isSaved : Int32) (m_past : Nat → Int32) (m_changes : Int32) (m_errorAt : Int32) (m_failed : Int32) (m_thrown : Int32) (m_input : Nat → Int32) (m_inputMany : Int32) (m_fitting : Nat → Int32) (m_given : Nat → Int32) (m_pairs : Nat → Int32) (m_line : Nat → Int32) (m_lineMany : Int32) (m_letters : Nat → Int32) (m_begins0 : Nat → Int32) (m_commands : Nat → Int32) (m_commandMany : Int32) (m_place0 : Int32) (m_size0 : Int32) (m_isWrong : Int32) (a0 : Int32) (u : Int32 × Int32) (hf : f_X10_isLent m_m m_thrown a0 = some u) : cm l D (jT t) yX10_isLent cX10_isLent 3 (some FieldType.boolean) { frames := 3, cells := 0, slots := 0, locals := 68 } [.ref (ad o), .int a0] (wM t ad o m_m m_aside m_saved m_isSaved m_past m_changes m_errorAt m_failed m_thrown m_input m_inputMany m_fitting m_given m_pairs m_line m_lineMany m_letters m_begins0 m_commands m_commandMany m_place0 m_size0 m_isWrong) (fun v w => v = (some (.int u.1)) ∧ w = wM t ad o m_m m_aside m_saved m_isSaved m_past m_changes m_errorAt m_failed u.2 m_input m_inputMany m_fitting m_given m_pairs m_line m_lineMany m_letters m_begins0 m_commands m_commandMany m_place0 m_size0 m_isWrong) := by
  refine cm_of RX10 rfl (by decide +kernel) (Nat.le_of_ble_eq_true rfl) (fun X hX hE => ?_)
  change J X 0 0 (wM t ad o m_m m_aside m_saved m_isSaved m_past m_changes m_errorAt m_failed m_thrown m_input m_inputMany m_fitting m_given m_pairs m_line m_lineMany m_letters m_begins0 m_commands m_commandMany m_place0 m_size0 m_isWrong) 0 [(0, .ref (ad o)), (1, .int a0)] []
  unfold f_X10_isLent at hf
  refine j_aload_n hX dX10_isLent_0 rfl 0 rfl ?_
  refine j_iload_n hX dX10_isLent_1 rfl 1 rfl ?_
  refine j_iconst hX 2 dX10_isLent_2 (by decide) ?_
  obtain ⟨u1, h2, hf⟩ := jbind hf
  refine j_callV (st := []) hX (k_X10_ofHammer (l := l) (D := D) (t := t) (ad := ad) (o := o) m_m m_aside m_saved m_isSaved m_past m_changes m_errorAt m_failed m_thrown m_input m_inputMany m_fitting m_given m_pairs m_line m_lineMany m_letters m_begins0 m_commands m_commandMany m_place0 m_size0 m_isWrong a0 2 u1 h2) q1657 q1658 q1981 q15 q1659 (n9 := 2) rfl ⟨by decide +kernel, by decide +kernel⟩ 0 rfl rfl rfl dX10_isLent_3 (Nat.le_of_ble_eq_true rfl) ⟨Nat.le_refl _, Nat.le_refl _⟩ (fun w : va_W => w) jFr_id rfl rfl (fun v w hvw => ?_)
  obtain ⟨rfl, rfl⟩ := hvw
  change J X 0 0 (wM t ad o m_m m_aside m_saved m_isSaved m_past m_changes m_errorAt m_failed u1.2 m_input m_inputMany m_fitting m_given m_pairs m_line m_lineMany m_letters m_begins0 m_commands m_commandMany m_place0 m_size0 m_isWrong) 6 [(0, .ref (ad o)), (1, .int a0)] [.int u1.1]
  refine j_istore_n hX [(2, .int u1.1), (0, .ref (ad o)), (1, .int a0)] dX10_isLent_6 rfl (by decide) rfl ?_
  refine j_aload_n hX dX10_isLent_7 rfl 1 rfl ?_
  refine j_get hX dX10_isLent_8 inX10 8 q1463 0 rfl rfl (by decide) rfl rfl ?_
  refine j_if_ne hX 23 dX10_isLent_11 (by decide) hf (fun c11 hf => ?_) (fun c11 hf => ?_)
  · refine j_iconst hX 0 dX10_isLent_23 (by decide) ?_
    cases hf
    exact j_zret hX hE rfl dX10_isLent_24 (Nat.le_refl _) (Nat.le_refl _) ⟨rfl, rfl⟩
  · refine j_iload_n hX dX10_isLent_14 rfl 0 rfl ?_
    refine j_iconst hX (-1) dX10_isLent_15 (by decide) ?_
    refine j_icmp_ne hX 23 dX10_isLent_16 (by decide) hf (fun c16 hf => ?_) (fun c16 hf => ?_)
    · refine j_iconst hX 0 dX10_isLent_23 (by decide) ?_
      cases hf
      exact j_zret hX hE rfl dX10_isLent_24 (Nat.le_refl _) (Nat.le_refl _) ⟨rfl, rfl⟩
    · refine j_iconst hX 1 dX10_isLent_19 (by decide) ?_
      refine j_goto hX 24 dX10_isLent_20 (by decide) ?_
      cases hf
      exact j_zret hX hE rfl dX10_isLent_24 (Nat.le_refl _) (Nat.le_refl _) ⟨rfl, rfl⟩
-- HammerDepotModel ofHammerIf (IZI)I
def f_X10_ofHammerIf (m_m : Nat → Int32) (m_thrown : Int32) (a0 : Int32) (a1 : Int32) (a2 : Int32) : Option (Int32 × Int32) :=
  Option.bind (f_X10_ofHammer m_m m_thrown a0 2) (fun u1 =>
    if u1.2 ≤ 0 then
      if u1.1 = (-1) then
        if 1 = a1 then
          Option.bind (f_X10_hammerOf a0) (fun u9 =>
            if jin (u9 + a2) 2048 = true then
              some (m_m (u9 + a2).toNatClampNeg, u1.2)
            else none)
        else
          Option.bind (f_X10_throwing u1.2 2) (fun u7 =>
            some (u7.1, u7.2))
      else
        if 0 = a1 then
          Option.bind (f_X10_hammerOf a0) (fun u5 =>
            if jin (u5 + a2) 2048 = true then
              some (m_m (u5 + a2).toNatClampNeg, u1.2)
            else none)
        else
          Option.bind (f_X10_throwing u1.2 2) (fun u3 =>
            some (u3.1, u3.2))
    else
      some ((-1), u1.2))
set_option maxHeartbeats 4000000 in
set_option maxRecDepth 100000 in
theorem k_X10_ofHammerIf {l : Launch} {D : va_G} {t : Nat → ClassId} {ad : Nat → Nat} {o : Nat} (m_m : Nat → Int32) (m_aside : Nat → Int32) (m_saved : Nat → Int32) (m_isSaved : Int32) (m_past : Nat → Int32) (m_changes : Int32) (m_errorAt : Int32) (m_failed : Int32) (m_thrown : Int32) (m_input : Nat → Int32) (m_inputMany : Int32) (m_fitting : Nat → Int32) (m_given : Nat → Int32) (m_pairs : Nat → Int32) (m_line : Nat → Int32) (m_lineMany : Int32) (m_letters : Nat → Int32) (m_begins0 : Nat → Int32) (m_commands : Nat → Int32) (m_commandMany : Int32) (m_place0 : Int32) (m_size0 : Int32) (m_isWrong : Int32) (a0 : Int32) (a1 : Int32) (a2 : Int32) (u : Int32 × Int32) (hf : f_X10_ofHammerIf m_m m_thrown a0 a1 a2 = some u) : cm l D (jT t) yX10_ofHammerIf cX10_ofHammerIf 5 (some FieldType.int) { frames := 3, cells := 0, slots := 0, locals := 68 } [.ref (ad o), .int a0, .int a1, .int a2] (wM t ad o m_m m_aside m_saved m_isSaved m_past m_changes m_errorAt m_failed m_thrown m_input m_inputMany m_fitting m_given m_pairs m_line m_lineMany m_letters m_begins0 m_commands m_commandMany m_place0 m_size0 m_isWrong) (fun v w => v = (some (.int u.1)) ∧ w = wM t ad o m_m m_aside m_saved m_isSaved m_past m_changes m_errorAt m_failed u.2 m_input m_inputMany m_fitting m_given m_pairs m_line m_lineMany m_letters m_begins0 m_commands m_commandMany m_place0 m_size0 m_isWrong) := by
  refine cm_of RX10 rfl (by decide +kernel) (Nat.le_of_ble_eq_true rfl) (fun X hX hE => ?_)
  change J X 0 0 (wM t ad o m_m m_aside m_saved m_isSaved m_past m_changes m_errorAt m_failed m_thrown m_input m_inputMany m_fitting m_given m_pairs m_line m_lineMany m_letters m_begins0 m_commands m_commandMany m_place0 m_size0 m_isWrong) 0 [(0, .ref (ad o)), (1, .int a0), (2, .int a1), (3, .int a2)] []
  unfold f_X10_ofHammerIf at hf
  refine j_aload_n hX dX10_ofHammerIf_0 rfl 0 rfl ?_
  refine j_iload_n hX dX10_ofHammerIf_1 rfl 1 rfl ?_
  refine j_iconst hX 2 dX10_ofHammerIf_2 (by decide) ?_
  obtain ⟨u1, h2, hf⟩ := jbind hf
  refine j_callV (st := []) hX (k_X10_ofHammer (l := l) (D := D) (t := t) (ad := ad) (o := o) m_m m_aside m_saved m_isSaved m_past m_changes m_errorAt m_failed m_thrown m_input m_inputMany m_fitting m_given m_pairs m_line m_lineMany m_letters m_begins0 m_commands m_commandMany m_place0 m_size0 m_isWrong a0 2 u1 h2) q1657 q1658 q1981 q15 q1659 (n9 := 2) rfl ⟨by decide +kernel, by decide +kernel⟩ 0 rfl rfl rfl dX10_ofHammerIf_3 (Nat.le_of_ble_eq_true rfl) ⟨Nat.le_refl _, Nat.le_refl _⟩ (fun w : va_W => w) jFr_id rfl rfl (fun v w hvw => ?_)
  obtain ⟨rfl, rfl⟩ := hvw
  change J X 0 0 (wM t ad o m_m m_aside m_saved m_isSaved m_past m_changes m_errorAt m_failed u1.2 m_input m_inputMany m_fitting m_given m_pairs m_line m_lineMany m_letters m_begins0 m_commands m_commandMany m_place0 m_size0 m_isWrong) 6 [(0, .ref (ad o)), (1, .int a0), (2, .int a1), (3, .int a2)] [.int u1.1]
  refine j_istore hX [(4, .int u1.1), (0, .ref (ad o)), (1, .int a0), (2, .int a1), (3, .int a2)] dX10_ofHammerIf_6 (by decide) rfl ?_
  refine j_aload_n hX dX10_ofHammerIf_8 rfl 1 rfl ?_
  refine j_get hX dX10_ofHammerIf_9 inX10 8 q1463 0 rfl rfl (by decide) rfl rfl ?_
  refine j_if_le hX 17 dX10_ofHammerIf_12 (by decide) hf (fun c12 hf => ?_) (fun c12 hf => ?_)
  · refine j_iload hX dX10_ofHammerIf_17 0 rfl ?_
    refine j_iconst hX (-1) dX10_ofHammerIf_19 (by decide) ?_
    refine j_icmp_ne hX 27 dX10_ofHammerIf_20 (by decide) hf (fun c20 hf => ?_) (fun c20 hf => ?_)
    · refine j_iconst hX 0 dX10_ofHammerIf_27 (by decide) ?_
      refine j_iload_n hX dX10_ofHammerIf_28 rfl 3 rfl ?_
      refine j_icmp_ne hX 46 dX10_ofHammerIf_29 (by decide) hf (fun c29 hf => ?_) (fun c29 hf => ?_)
      · refine j_aload_n hX dX10_ofHammerIf_46 rfl 1 rfl ?_
        refine j_iconst hX 2 dX10_ofHammerIf_47 (by decide) ?_
        obtain ⟨u3, h4, hf⟩ := jbind hf
        refine j_callV (st := []) hX (k_X10_throwing (l := l) (D := D) (t := t) (ad := ad) (o := o) m_m m_aside m_saved m_isSaved m_past m_changes m_errorAt m_failed u1.2 m_input m_inputMany m_fitting m_given m_pairs m_line m_lineMany m_letters m_begins0 m_commands m_commandMany m_place0 m_size0 m_isWrong 2 u3 h4) q1496 q1497 q1951 q15 q1498 (n9 := 1) rfl ⟨by decide +kernel, by decide +kernel⟩ 0 rfl rfl rfl dX10_ofHammerIf_48 (Nat.le_of_ble_eq_true rfl) ⟨Nat.le_refl _, Nat.le_refl _⟩ (fun w : va_W => w) jFr_id rfl rfl (fun v w hvw => ?_)
        obtain ⟨rfl, rfl⟩ := hvw
        change J X 0 0 (wM t ad o m_m m_aside m_saved m_isSaved m_past m_changes m_errorAt m_failed u3.2 m_input m_inputMany m_fitting m_given m_pairs m_line m_lineMany m_letters m_begins0 m_commands m_commandMany m_place0 m_size0 m_isWrong) 51 [(4, .int u1.1), (0, .ref (ad o)), (1, .int a0), (2, .int a1), (3, .int a2)] [.int u3.1]
        cases hf
        exact j_iret hX hE dX10_ofHammerIf_51 (Nat.le_refl _) (Nat.le_refl _) ⟨rfl, rfl⟩
      · refine j_aload_n hX dX10_ofHammerIf_32 rfl 1 rfl ?_
        refine j_get hX dX10_ofHammerIf_33 inX10 0 q1455 0 rfl rfl (by decide) rfl rfl ?_
        refine j_iload_n hX dX10_ofHammerIf_36 rfl 2 rfl ?_
        obtain ⟨u5, h6, hf⟩ := jbind hf
        refine j_callS (st := [.ref (ad (o + 1))]) hX (k_X10_hammerOf (l := l) (D := D) (t := t) (ad := ad)  a0 u5 h6) q1509 q1510 q15 q1511 (n9 := 1) rfl ⟨by decide +kernel, by decide +kernel⟩ dX10_ofHammerIf_37 (Nat.le_of_ble_eq_true rfl) ⟨Nat.le_refl _, Nat.le_refl _⟩ (fun w : va_W => w ++ (wM t ad o m_m m_aside m_saved m_isSaved m_past m_changes m_errorAt m_failed u1.2 m_input m_inputMany m_fitting m_given m_pairs m_line m_lineMany m_letters m_begins0 m_commands m_commandMany m_place0 m_size0 m_isWrong)) (jFr_r (wM t ad o m_m m_aside m_saved m_isSaved m_past m_changes m_errorAt m_failed u1.2 m_input m_inputMany m_fitting m_given m_pairs m_line m_lineMany m_letters m_begins0 m_commands m_commandMany m_place0 m_size0 m_isWrong)) rfl rfl (fun v w hvw => ?_)
        obtain ⟨rfl, rfl⟩ := hvw
        change J X 0 0 (wM t ad o m_m m_aside m_saved m_isSaved m_past m_changes m_errorAt m_failed u1.2 m_input m_inputMany m_fitting m_given m_pairs m_line m_lineMany m_letters m_begins0 m_commands m_commandMany m_place0 m_size0 m_isWrong) 40 [(4, .int u1.1), (0, .ref (ad o)), (1, .int a0), (2, .int a1), (3, .int a2)] [.int u5, .ref (ad (o + 1))]
        refine j_iload_n hX dX10_ofHammerIf_40 rfl 4 rfl ?_
        refine j_iadd hX dX10_ofHammerIf_41 ?_
        refine j_iald hX dX10_ofHammerIf_42 1 0 rfl rfl hf (fun c42 hf => ?_)
        refine j_goto hX 51 dX10_ofHammerIf_43 (by decide) ?_
        cases hf
        exact j_iret hX hE dX10_ofHammerIf_51 (Nat.le_refl _) (Nat.le_refl _) ⟨rfl, rfl⟩
    · refine j_iconst hX 1 dX10_ofHammerIf_23 (by decide) ?_
      refine j_goto hX 28 dX10_ofHammerIf_24 (by decide) ?_
      refine j_iload_n hX dX10_ofHammerIf_28 rfl 3 rfl ?_
      refine j_icmp_ne hX 46 dX10_ofHammerIf_29 (by decide) hf (fun c29 hf => ?_) (fun c29 hf => ?_)
      · refine j_aload_n hX dX10_ofHammerIf_46 rfl 1 rfl ?_
        refine j_iconst hX 2 dX10_ofHammerIf_47 (by decide) ?_
        obtain ⟨u7, h8, hf⟩ := jbind hf
        refine j_callV (st := []) hX (k_X10_throwing (l := l) (D := D) (t := t) (ad := ad) (o := o) m_m m_aside m_saved m_isSaved m_past m_changes m_errorAt m_failed u1.2 m_input m_inputMany m_fitting m_given m_pairs m_line m_lineMany m_letters m_begins0 m_commands m_commandMany m_place0 m_size0 m_isWrong 2 u7 h8) q1496 q1497 q1951 q15 q1498 (n9 := 1) rfl ⟨by decide +kernel, by decide +kernel⟩ 0 rfl rfl rfl dX10_ofHammerIf_48 (Nat.le_of_ble_eq_true rfl) ⟨Nat.le_refl _, Nat.le_refl _⟩ (fun w : va_W => w) jFr_id rfl rfl (fun v w hvw => ?_)
        obtain ⟨rfl, rfl⟩ := hvw
        change J X 0 0 (wM t ad o m_m m_aside m_saved m_isSaved m_past m_changes m_errorAt m_failed u7.2 m_input m_inputMany m_fitting m_given m_pairs m_line m_lineMany m_letters m_begins0 m_commands m_commandMany m_place0 m_size0 m_isWrong) 51 [(4, .int u1.1), (0, .ref (ad o)), (1, .int a0), (2, .int a1), (3, .int a2)] [.int u7.1]
        cases hf
        exact j_iret hX hE dX10_ofHammerIf_51 (Nat.le_refl _) (Nat.le_refl _) ⟨rfl, rfl⟩
      · refine j_aload_n hX dX10_ofHammerIf_32 rfl 1 rfl ?_
        refine j_get hX dX10_ofHammerIf_33 inX10 0 q1455 0 rfl rfl (by decide) rfl rfl ?_
        refine j_iload_n hX dX10_ofHammerIf_36 rfl 2 rfl ?_
        obtain ⟨u9, h10, hf⟩ := jbind hf
        refine j_callS (st := [.ref (ad (o + 1))]) hX (k_X10_hammerOf (l := l) (D := D) (t := t) (ad := ad)  a0 u9 h10) q1509 q1510 q15 q1511 (n9 := 1) rfl ⟨by decide +kernel, by decide +kernel⟩ dX10_ofHammerIf_37 (Nat.le_of_ble_eq_true rfl) ⟨Nat.le_refl _, Nat.le_refl _⟩ (fun w : va_W => w ++ (wM t ad o m_m m_aside m_saved m_isSaved m_past m_changes m_errorAt m_failed u1.2 m_input m_inputMany m_fitting m_given m_pairs m_line m_lineMany m_letters m_begins0 m_commands m_commandMany m_place0 m_size0 m_isWrong)) (jFr_r (wM t ad o m_m m_aside m_saved m_isSaved m_past m_changes m_errorAt m_failed u1.2 m_input m_inputMany m_fitting m_given m_pairs m_line m_lineMany m_letters m_begins0 m_commands m_commandMany m_place0 m_size0 m_isWrong)) rfl rfl (fun v w hvw => ?_)
        obtain ⟨rfl, rfl⟩ := hvw
        change J X 0 0 (wM t ad o m_m m_aside m_saved m_isSaved m_past m_changes m_errorAt m_failed u1.2 m_input m_inputMany m_fitting m_given m_pairs m_line m_lineMany m_letters m_begins0 m_commands m_commandMany m_place0 m_size0 m_isWrong) 40 [(4, .int u1.1), (0, .ref (ad o)), (1, .int a0), (2, .int a1), (3, .int a2)] [.int u9, .ref (ad (o + 1))]
        refine j_iload_n hX dX10_ofHammerIf_40 rfl 4 rfl ?_
        refine j_iadd hX dX10_ofHammerIf_41 ?_
        refine j_iald hX dX10_ofHammerIf_42 1 0 rfl rfl hf (fun c42 hf => ?_)
        refine j_goto hX 51 dX10_ofHammerIf_43 (by decide) ?_
        cases hf
        exact j_iret hX hE dX10_ofHammerIf_51 (Nat.le_refl _) (Nat.le_refl _) ⟨rfl, rfl⟩
  · refine j_iconst hX (-1) dX10_ofHammerIf_15 (by decide) ?_
    cases hf
    exact j_iret hX hE dX10_ofHammerIf_16 (Nat.le_refl _) (Nat.le_refl _) ⟨rfl, rfl⟩
-- HammerDepotModel borrower (I)I
def f_X10_borrower (m_m : Nat → Int32) (m_thrown : Int32) (a0 : Int32) : Option (Int32 × Int32) :=
  Option.bind (f_X10_ofHammerIf m_m m_thrown a0 1 4) (fun u1 =>
    some (u1.1, u1.2))
set_option maxHeartbeats 4000000 in
set_option maxRecDepth 100000 in
theorem k_X10_borrower {l : Launch} {D : va_G} {t : Nat → ClassId} {ad : Nat → Nat} {o : Nat} (m_m : Nat → Int32) (m_aside : Nat → Int32) (m_saved : Nat → Int32) (m_isSaved : Int32) (m_past : Nat → Int32) (m_changes : Int32) (m_errorAt : Int32) (m_failed : Int32) (m_thrown : Int32) (m_input : Nat → Int32) (m_inputMany : Int32) (m_fitting : Nat → Int32) (m_given : Nat → Int32) (m_pairs : Nat → Int32) (m_line : Nat → Int32) (m_lineMany : Int32) (m_letters : Nat → Int32) (m_begins0 : Nat → Int32) (m_commands : Nat → Int32) (m_commandMany : Int32) (m_place0 : Int32) (m_size0 : Int32) (m_isWrong : Int32) (a0 : Int32) (u : Int32 × Int32) (hf : f_X10_borrower m_m m_thrown a0 = some u) : cm l D (jT t) yX10_borrower cX10_borrower 2 (some FieldType.int) { frames := 4, cells := 0, slots := 0, locals := 92 } [.ref (ad o), .int a0] (wM t ad o m_m m_aside m_saved m_isSaved m_past m_changes m_errorAt m_failed m_thrown m_input m_inputMany m_fitting m_given m_pairs m_line m_lineMany m_letters m_begins0 m_commands m_commandMany m_place0 m_size0 m_isWrong) (fun v w => v = (some (.int u.1)) ∧ w = wM t ad o m_m m_aside m_saved m_isSaved m_past m_changes m_errorAt m_failed u.2 m_input m_inputMany m_fitting m_given m_pairs m_line m_lineMany m_letters m_begins0 m_commands m_commandMany m_place0 m_size0 m_isWrong) := by
  refine cm_of RX10 rfl (by decide +kernel) (Nat.le_of_ble_eq_true rfl) (fun X hX hE => ?_)
  change J X 0 0 (wM t ad o m_m m_aside m_saved m_isSaved m_past m_changes m_errorAt m_failed m_thrown m_input m_inputMany m_fitting m_given m_pairs m_line m_lineMany m_letters m_begins0 m_commands m_commandMany m_place0 m_size0 m_isWrong) 0 [(0, .ref (ad o)), (1, .int a0)] []
  unfold f_X10_borrower at hf
  refine j_aload_n hX dX10_borrower_0 rfl 0 rfl ?_
  refine j_iload_n hX dX10_borrower_1 rfl 1 rfl ?_
  refine j_iconst hX 1 dX10_borrower_2 (by decide) ?_
  refine j_iconst hX 4 dX10_borrower_3 (by decide) ?_
  obtain ⟨u1, h2, hf⟩ := jbind hf
  refine j_callV (st := []) hX (k_X10_ofHammerIf (l := l) (D := D) (t := t) (ad := ad) (o := o) m_m m_aside m_saved m_isSaved m_past m_changes m_errorAt m_failed m_thrown m_input m_inputMany m_fitting m_given m_pairs m_line m_lineMany m_letters m_begins0 m_commands m_commandMany m_place0 m_size0 m_isWrong a0 1 4 u1 h2) q1672 q1673 q1982 q15 q1674 (n9 := 3) rfl ⟨by decide +kernel, by decide +kernel⟩ 0 rfl rfl rfl dX10_borrower_4 (Nat.le_of_ble_eq_true rfl) ⟨Nat.le_refl _, Nat.le_refl _⟩ (fun w : va_W => w) jFr_id rfl rfl (fun v w hvw => ?_)
  obtain ⟨rfl, rfl⟩ := hvw
  change J X 0 0 (wM t ad o m_m m_aside m_saved m_isSaved m_past m_changes m_errorAt m_failed u1.2 m_input m_inputMany m_fitting m_given m_pairs m_line m_lineMany m_letters m_begins0 m_commands m_commandMany m_place0 m_size0 m_isWrong) 7 [(0, .ref (ad o)), (1, .int a0)] [.int u1.1]
  cases hf
  exact j_iret hX hE dX10_borrower_7 (Nat.le_refl _) (Nat.le_refl _) ⟨rfl, rfl⟩
-- HammerDepotModel dueDay (I)I
def f_X10_dueDay (m_m : Nat → Int32) (m_thrown : Int32) (a0 : Int32) : Option (Int32 × Int32) :=
  Option.bind (f_X10_ofHammerIf m_m m_thrown a0 1 5) (fun u1 =>
    some (u1.1, u1.2))
set_option maxHeartbeats 4000000 in
set_option maxRecDepth 100000 in
theorem k_X10_dueDay {l : Launch} {D : va_G} {t : Nat → ClassId} {ad : Nat → Nat} {o : Nat} (m_m : Nat → Int32) (m_aside : Nat → Int32) (m_saved : Nat → Int32) (m_isSaved : Int32) (m_past : Nat → Int32) (m_changes : Int32) (m_errorAt : Int32) (m_failed : Int32) (m_thrown : Int32) (m_input : Nat → Int32) (m_inputMany : Int32) (m_fitting : Nat → Int32) (m_given : Nat → Int32) (m_pairs : Nat → Int32) (m_line : Nat → Int32) (m_lineMany : Int32) (m_letters : Nat → Int32) (m_begins0 : Nat → Int32) (m_commands : Nat → Int32) (m_commandMany : Int32) (m_place0 : Int32) (m_size0 : Int32) (m_isWrong : Int32) (a0 : Int32) (u : Int32 × Int32) (hf : f_X10_dueDay m_m m_thrown a0 = some u) : cm l D (jT t) yX10_dueDay cX10_dueDay 2 (some FieldType.int) { frames := 4, cells := 0, slots := 0, locals := 92 } [.ref (ad o), .int a0] (wM t ad o m_m m_aside m_saved m_isSaved m_past m_changes m_errorAt m_failed m_thrown m_input m_inputMany m_fitting m_given m_pairs m_line m_lineMany m_letters m_begins0 m_commands m_commandMany m_place0 m_size0 m_isWrong) (fun v w => v = (some (.int u.1)) ∧ w = wM t ad o m_m m_aside m_saved m_isSaved m_past m_changes m_errorAt m_failed u.2 m_input m_inputMany m_fitting m_given m_pairs m_line m_lineMany m_letters m_begins0 m_commands m_commandMany m_place0 m_size0 m_isWrong) := by
  refine cm_of RX10 rfl (by decide +kernel) (Nat.le_of_ble_eq_true rfl) (fun X hX hE => ?_)
  change J X 0 0 (wM t ad o m_m m_aside m_saved m_isSaved m_past m_changes m_errorAt m_failed m_thrown m_input m_inputMany m_fitting m_given m_pairs m_line m_lineMany m_letters m_begins0 m_commands m_commandMany m_place0 m_size0 m_isWrong) 0 [(0, .ref (ad o)), (1, .int a0)] []
  unfold f_X10_dueDay at hf
  refine j_aload_n hX dX10_dueDay_0 rfl 0 rfl ?_
  refine j_iload_n hX dX10_dueDay_1 rfl 1 rfl ?_
  refine j_iconst hX 1 dX10_dueDay_2 (by decide) ?_
  refine j_iconst hX 5 dX10_dueDay_3 (by decide) ?_
  obtain ⟨u1, h2, hf⟩ := jbind hf
  refine j_callV (st := []) hX (k_X10_ofHammerIf (l := l) (D := D) (t := t) (ad := ad) (o := o) m_m m_aside m_saved m_isSaved m_past m_changes m_errorAt m_failed m_thrown m_input m_inputMany m_fitting m_given m_pairs m_line m_lineMany m_letters m_begins0 m_commands m_commandMany m_place0 m_size0 m_isWrong a0 1 5 u1 h2) q1672 q1673 q1982 q15 q1674 (n9 := 3) rfl ⟨by decide +kernel, by decide +kernel⟩ 0 rfl rfl rfl dX10_dueDay_4 (Nat.le_of_ble_eq_true rfl) ⟨Nat.le_refl _, Nat.le_refl _⟩ (fun w : va_W => w) jFr_id rfl rfl (fun v w hvw => ?_)
  obtain ⟨rfl, rfl⟩ := hvw
  change J X 0 0 (wM t ad o m_m m_aside m_saved m_isSaved m_past m_changes m_errorAt m_failed u1.2 m_input m_inputMany m_fitting m_given m_pairs m_line m_lineMany m_letters m_begins0 m_commands m_commandMany m_place0 m_size0 m_isWrong) 7 [(0, .ref (ad o)), (1, .int a0)] [.int u1.1]
  cases hf
  exact j_iret hX hE dX10_dueDay_7 (Nat.le_refl _) (Nat.le_refl _) ⟨rfl, rfl⟩
-- HammerDepotModel rackOf (I)I
def f_X10_rackOf (m_m : Nat → Int32) (m_thrown : Int32) (a0 : Int32) : Option (Int32 × Int32) :=
  Option.bind (f_X10_ofHammerIf m_m m_thrown a0 0 2) (fun u1 =>
    some (u1.1, u1.2))
set_option maxHeartbeats 4000000 in
set_option maxRecDepth 100000 in
theorem k_X10_rackOf {l : Launch} {D : va_G} {t : Nat → ClassId} {ad : Nat → Nat} {o : Nat} (m_m : Nat → Int32) (m_aside : Nat → Int32) (m_saved : Nat → Int32) (m_isSaved : Int32) (m_past : Nat → Int32) (m_changes : Int32) (m_errorAt : Int32) (m_failed : Int32) (m_thrown : Int32) (m_input : Nat → Int32) (m_inputMany : Int32) (m_fitting : Nat → Int32) (m_given : Nat → Int32) (m_pairs : Nat → Int32) (m_line : Nat → Int32) (m_lineMany : Int32) (m_letters : Nat → Int32) (m_begins0 : Nat → Int32) (m_commands : Nat → Int32) (m_commandMany : Int32) (m_place0 : Int32) (m_size0 : Int32) (m_isWrong : Int32) (a0 : Int32) (u : Int32 × Int32) (hf : f_X10_rackOf m_m m_thrown a0 = some u) : cm l D (jT t) yX10_rackOf cX10_rackOf 2 (some FieldType.int) { frames := 4, cells := 0, slots := 0, locals := 92 } [.ref (ad o), .int a0] (wM t ad o m_m m_aside m_saved m_isSaved m_past m_changes m_errorAt m_failed m_thrown m_input m_inputMany m_fitting m_given m_pairs m_line m_lineMany m_letters m_begins0 m_commands m_commandMany m_place0 m_size0 m_isWrong) (fun v w => v = (some (.int u.1)) ∧ w = wM t ad o m_m m_aside m_saved m_isSaved m_past m_changes m_errorAt m_failed u.2 m_input m_inputMany m_fitting m_given m_pairs m_line m_lineMany m_letters m_begins0 m_commands m_commandMany m_place0 m_size0 m_isWrong) := by
  refine cm_of RX10 rfl (by decide +kernel) (Nat.le_of_ble_eq_true rfl) (fun X hX hE => ?_)
  change J X 0 0 (wM t ad o m_m m_aside m_saved m_isSaved m_past m_changes m_errorAt m_failed m_thrown m_input m_inputMany m_fitting m_given m_pairs m_line m_lineMany m_letters m_begins0 m_commands m_commandMany m_place0 m_size0 m_isWrong) 0 [(0, .ref (ad o)), (1, .int a0)] []
  unfold f_X10_rackOf at hf
  refine j_aload_n hX dX10_rackOf_0 rfl 0 rfl ?_
  refine j_iload_n hX dX10_rackOf_1 rfl 1 rfl ?_
  refine j_iconst hX 0 dX10_rackOf_2 (by decide) ?_
  refine j_iconst hX 2 dX10_rackOf_3 (by decide) ?_
  obtain ⟨u1, h2, hf⟩ := jbind hf
  refine j_callV (st := []) hX (k_X10_ofHammerIf (l := l) (D := D) (t := t) (ad := ad) (o := o) m_m m_aside m_saved m_isSaved m_past m_changes m_errorAt m_failed m_thrown m_input m_inputMany m_fitting m_given m_pairs m_line m_lineMany m_letters m_begins0 m_commands m_commandMany m_place0 m_size0 m_isWrong a0 0 2 u1 h2) q1672 q1673 q1982 q15 q1674 (n9 := 3) rfl ⟨by decide +kernel, by decide +kernel⟩ 0 rfl rfl rfl dX10_rackOf_4 (Nat.le_of_ble_eq_true rfl) ⟨Nat.le_refl _, Nat.le_refl _⟩ (fun w : va_W => w) jFr_id rfl rfl (fun v w hvw => ?_)
  obtain ⟨rfl, rfl⟩ := hvw
  change J X 0 0 (wM t ad o m_m m_aside m_saved m_isSaved m_past m_changes m_errorAt m_failed u1.2 m_input m_inputMany m_fitting m_given m_pairs m_line m_lineMany m_letters m_begins0 m_commands m_commandMany m_place0 m_size0 m_isWrong) 7 [(0, .ref (ad o)), (1, .int a0)] [.int u1.1]
  cases hf
  exact j_iret hX hE dX10_rackOf_7 (Nat.le_refl _) (Nat.le_refl _) ⟨rfl, rfl⟩
-- HammerDepotModel placeOf (I)I
def f_X10_placeOf (m_m : Nat → Int32) (m_thrown : Int32) (a0 : Int32) : Option (Int32 × Int32) :=
  Option.bind (f_X10_ofHammerIf m_m m_thrown a0 0 3) (fun u1 =>
    some (u1.1, u1.2))
set_option maxHeartbeats 4000000 in
set_option maxRecDepth 100000 in
theorem k_X10_placeOf {l : Launch} {D : va_G} {t : Nat → ClassId} {ad : Nat → Nat} {o : Nat} (m_m : Nat → Int32) (m_aside : Nat → Int32) (m_saved : Nat → Int32) (m_isSaved : Int32) (m_past : Nat → Int32) (m_changes : Int32) (m_errorAt : Int32) (m_failed : Int32) (m_thrown : Int32) (m_input : Nat → Int32) (m_inputMany : Int32) (m_fitting : Nat → Int32) (m_given : Nat → Int32) (m_pairs : Nat → Int32) (m_line : Nat → Int32) (m_lineMany : Int32) (m_letters : Nat → Int32) (m_begins0 : Nat → Int32) (m_commands : Nat → Int32) (m_commandMany : Int32) (m_place0 : Int32) (m_size0 : Int32) (m_isWrong : Int32) (a0 : Int32) (u : Int32 × Int32) (hf : f_X10_placeOf m_m m_thrown a0 = some u) : cm l D (jT t) yX10_placeOf cX10_placeOf 2 (some FieldType.int) { frames := 4, cells := 0, slots := 0, locals := 92 } [.ref (ad o), .int a0] (wM t ad o m_m m_aside m_saved m_isSaved m_past m_changes m_errorAt m_failed m_thrown m_input m_inputMany m_fitting m_given m_pairs m_line m_lineMany m_letters m_begins0 m_commands m_commandMany m_place0 m_size0 m_isWrong) (fun v w => v = (some (.int u.1)) ∧ w = wM t ad o m_m m_aside m_saved m_isSaved m_past m_changes m_errorAt m_failed u.2 m_input m_inputMany m_fitting m_given m_pairs m_line m_lineMany m_letters m_begins0 m_commands m_commandMany m_place0 m_size0 m_isWrong) := by
  refine cm_of RX10 rfl (by decide +kernel) (Nat.le_of_ble_eq_true rfl) (fun X hX hE => ?_)
  change J X 0 0 (wM t ad o m_m m_aside m_saved m_isSaved m_past m_changes m_errorAt m_failed m_thrown m_input m_inputMany m_fitting m_given m_pairs m_line m_lineMany m_letters m_begins0 m_commands m_commandMany m_place0 m_size0 m_isWrong) 0 [(0, .ref (ad o)), (1, .int a0)] []
  unfold f_X10_placeOf at hf
  refine j_aload_n hX dX10_placeOf_0 rfl 0 rfl ?_
  refine j_iload_n hX dX10_placeOf_1 rfl 1 rfl ?_
  refine j_iconst hX 0 dX10_placeOf_2 (by decide) ?_
  refine j_iconst hX 3 dX10_placeOf_3 (by decide) ?_
  obtain ⟨u1, h2, hf⟩ := jbind hf
  refine j_callV (st := []) hX (k_X10_ofHammerIf (l := l) (D := D) (t := t) (ad := ad) (o := o) m_m m_aside m_saved m_isSaved m_past m_changes m_errorAt m_failed m_thrown m_input m_inputMany m_fitting m_given m_pairs m_line m_lineMany m_letters m_begins0 m_commands m_commandMany m_place0 m_size0 m_isWrong a0 0 3 u1 h2) q1672 q1673 q1982 q15 q1674 (n9 := 3) rfl ⟨by decide +kernel, by decide +kernel⟩ 0 rfl rfl rfl dX10_placeOf_4 (Nat.le_of_ble_eq_true rfl) ⟨Nat.le_refl _, Nat.le_refl _⟩ (fun w : va_W => w) jFr_id rfl rfl (fun v w hvw => ?_)
  obtain ⟨rfl, rfl⟩ := hvw
  change J X 0 0 (wM t ad o m_m m_aside m_saved m_isSaved m_past m_changes m_errorAt m_failed u1.2 m_input m_inputMany m_fitting m_given m_pairs m_line m_lineMany m_letters m_begins0 m_commands m_commandMany m_place0 m_size0 m_isWrong) 7 [(0, .ref (ad o)), (1, .int a0)] [.int u1.1]
  cases hf
  exact j_iret hX hE dX10_placeOf_7 (Nat.le_refl _) (Nat.le_refl _) ⟨rfl, rfl⟩
-- HammerDepotModel hammerAt (II)I
def f_X10_hammerAt (m_m : Nat → Int32) (m_thrown : Int32) (a0 : Int32) (a1 : Int32) : Option (Int32 × Int32) :=
  Option.bind (f_X10_isRack a0) (fun u1 =>
    if u1 = 0 then
      Option.bind (f_X10_throwing 0 1) (fun u3 =>
        some (u3.1, u3.2))
    else
      Option.bind (f_X10_isPlace a1) (fun u5 =>
        if u5 = 0 then
          Option.bind (f_X10_throwing 0 1) (fun u11 =>
            some (u11.1, u11.2))
        else
          Option.bind (f_X10_standing m_m a0 a1) (fun u7 =>
            if u7 = (-1) then
              Option.bind (f_X10_throwing 0 2) (fun u9 =>
                some (u9.1, u9.2))
            else
              some (u7, 0))))
set_option maxHeartbeats 4000000 in
set_option maxRecDepth 100000 in
theorem k_X10_hammerAt {l : Launch} {D : va_G} {t : Nat → ClassId} {ad : Nat → Nat} {o : Nat} (m_m : Nat → Int32) (m_aside : Nat → Int32) (m_saved : Nat → Int32) (m_isSaved : Int32) (m_past : Nat → Int32) (m_changes : Int32) (m_errorAt : Int32) (m_failed : Int32) (m_thrown : Int32) (m_input : Nat → Int32) (m_inputMany : Int32) (m_fitting : Nat → Int32) (m_given : Nat → Int32) (m_pairs : Nat → Int32) (m_line : Nat → Int32) (m_lineMany : Int32) (m_letters : Nat → Int32) (m_begins0 : Nat → Int32) (m_commands : Nat → Int32) (m_commandMany : Int32) (m_place0 : Int32) (m_size0 : Int32) (m_isWrong : Int32) (a0 : Int32) (a1 : Int32) (u : Int32 × Int32) (hf : f_X10_hammerAt m_m m_thrown a0 a1 = some u) : cm l D (jT t) yX10_hammerAt cX10_hammerAt 4 (some FieldType.int) { frames := 2, cells := 0, slots := 0, locals := 45 } [.ref (ad o), .int a0, .int a1] (wM t ad o m_m m_aside m_saved m_isSaved m_past m_changes m_errorAt m_failed m_thrown m_input m_inputMany m_fitting m_given m_pairs m_line m_lineMany m_letters m_begins0 m_commands m_commandMany m_place0 m_size0 m_isWrong) (fun v w => v = (some (.int u.1)) ∧ w = wM t ad o m_m m_aside m_saved m_isSaved m_past m_changes m_errorAt m_failed u.2 m_input m_inputMany m_fitting m_given m_pairs m_line m_lineMany m_letters m_begins0 m_commands m_commandMany m_place0 m_size0 m_isWrong) := by
  refine cm_of RX10 rfl (by decide +kernel) (Nat.le_of_ble_eq_true rfl) (fun X hX hE => ?_)
  change J X 0 0 (wM t ad o m_m m_aside m_saved m_isSaved m_past m_changes m_errorAt m_failed m_thrown m_input m_inputMany m_fitting m_given m_pairs m_line m_lineMany m_letters m_begins0 m_commands m_commandMany m_place0 m_size0 m_isWrong) 0 [(0, .ref (ad o)), (1, .int a0), (2, .int a1)] []
  unfold f_X10_hammerAt at hf
  refine j_aload_n hX dX10_hammerAt_0 rfl 0 rfl ?_
  refine j_iconst hX 0 dX10_hammerAt_1 (by decide) ?_
  refine j_put hX (wM t ad o m_m m_aside m_saved m_isSaved m_past m_changes m_errorAt m_failed 0 m_input m_inputMany m_fitting m_given m_pairs m_line m_lineMany m_letters m_begins0 m_commands m_commandMany m_place0 m_size0 m_isWrong) tyX10 dX10_hammerAt_2 inX10 tyX10_ok nmX10 8 q1463 0 rfl rfl (by decide) rfl rfl rfl rfl rfl (Nat.le_of_ble_eq_true rfl) rfl ?_
  refine j_iload_n hX dX10_hammerAt_5 rfl 1 rfl ?_
  obtain ⟨u1, h2, hf⟩ := jbind hf
  refine j_callS (st := []) hX (k_X10_isRack (l := l) (D := D) (t := t) (ad := ad)  a0 u1 h2) q1499 q1500 q15 q1501 (n9 := 1) rfl ⟨by decide +kernel, by decide +kernel⟩ dX10_hammerAt_6 (Nat.le_of_ble_eq_true rfl) ⟨Nat.le_refl _, Nat.le_refl _⟩ (fun w : va_W => w ++ (wM t ad o m_m m_aside m_saved m_isSaved m_past m_changes m_errorAt m_failed 0 m_input m_inputMany m_fitting m_given m_pairs m_line m_lineMany m_letters m_begins0 m_commands m_commandMany m_place0 m_size0 m_isWrong)) (jFr_r (wM t ad o m_m m_aside m_saved m_isSaved m_past m_changes m_errorAt m_failed 0 m_input m_inputMany m_fitting m_given m_pairs m_line m_lineMany m_letters m_begins0 m_commands m_commandMany m_place0 m_size0 m_isWrong)) rfl rfl (fun v w hvw => ?_)
  obtain ⟨rfl, rfl⟩ := hvw
  change J X 0 0 (wM t ad o m_m m_aside m_saved m_isSaved m_past m_changes m_errorAt m_failed 0 m_input m_inputMany m_fitting m_given m_pairs m_line m_lineMany m_letters m_begins0 m_commands m_commandMany m_place0 m_size0 m_isWrong) 9 [(0, .ref (ad o)), (1, .int a0), (2, .int a1)] [.int u1]
  refine j_if_eq hX 19 dX10_hammerAt_9 (by decide) hf (fun c9 hf => ?_) (fun c9 hf => ?_)
  · refine j_aload_n hX dX10_hammerAt_19 rfl 0 rfl ?_
    refine j_iconst hX 1 dX10_hammerAt_20 (by decide) ?_
    obtain ⟨u3, h4, hf⟩ := jbind hf
    refine j_callV (st := []) hX (k_X10_throwing (l := l) (D := D) (t := t) (ad := ad) (o := o) m_m m_aside m_saved m_isSaved m_past m_changes m_errorAt m_failed 0 m_input m_inputMany m_fitting m_given m_pairs m_line m_lineMany m_letters m_begins0 m_commands m_commandMany m_place0 m_size0 m_isWrong 1 u3 h4) q1496 q1497 q1951 q15 q1498 (n9 := 1) rfl ⟨by decide +kernel, by decide +kernel⟩ 0 rfl rfl rfl dX10_hammerAt_21 (Nat.le_of_ble_eq_true rfl) ⟨Nat.le_refl _, Nat.le_refl _⟩ (fun w : va_W => w) jFr_id rfl rfl (fun v w hvw => ?_)
    obtain ⟨rfl, rfl⟩ := hvw
    change J X 0 0 (wM t ad o m_m m_aside m_saved m_isSaved m_past m_changes m_errorAt m_failed u3.2 m_input m_inputMany m_fitting m_given m_pairs m_line m_lineMany m_letters m_begins0 m_commands m_commandMany m_place0 m_size0 m_isWrong) 24 [(0, .ref (ad o)), (1, .int a0), (2, .int a1)] [.int u3.1]
    cases hf
    exact j_iret hX hE dX10_hammerAt_24 (Nat.le_refl _) (Nat.le_refl _) ⟨rfl, rfl⟩
  · refine j_iload_n hX dX10_hammerAt_12 rfl 2 rfl ?_
    obtain ⟨u5, h6, hf⟩ := jbind hf
    refine j_callS (st := []) hX (k_X10_isPlace (l := l) (D := D) (t := t) (ad := ad)  a1 u5 h6) q1532 q1533 q15 q1534 (n9 := 1) rfl ⟨by decide +kernel, by decide +kernel⟩ dX10_hammerAt_13 (Nat.le_of_ble_eq_true rfl) ⟨Nat.le_refl _, Nat.le_refl _⟩ (fun w : va_W => w ++ (wM t ad o m_m m_aside m_saved m_isSaved m_past m_changes m_errorAt m_failed 0 m_input m_inputMany m_fitting m_given m_pairs m_line m_lineMany m_letters m_begins0 m_commands m_commandMany m_place0 m_size0 m_isWrong)) (jFr_r (wM t ad o m_m m_aside m_saved m_isSaved m_past m_changes m_errorAt m_failed 0 m_input m_inputMany m_fitting m_given m_pairs m_line m_lineMany m_letters m_begins0 m_commands m_commandMany m_place0 m_size0 m_isWrong)) rfl rfl (fun v w hvw => ?_)
    obtain ⟨rfl, rfl⟩ := hvw
    change J X 0 0 (wM t ad o m_m m_aside m_saved m_isSaved m_past m_changes m_errorAt m_failed 0 m_input m_inputMany m_fitting m_given m_pairs m_line m_lineMany m_letters m_begins0 m_commands m_commandMany m_place0 m_size0 m_isWrong) 16 [(0, .ref (ad o)), (1, .int a0), (2, .int a1)] [.int u5]
    refine j_if_ne hX 25 dX10_hammerAt_16 (by decide) hf (fun c16 hf => ?_) (fun c16 hf => ?_)
    · refine j_aload_n hX dX10_hammerAt_25 rfl 0 rfl ?_
      refine j_iload_n hX dX10_hammerAt_26 rfl 1 rfl ?_
      refine j_iload_n hX dX10_hammerAt_27 rfl 2 rfl ?_
      obtain ⟨u7, h8, hf⟩ := jbind hf
      refine j_callV (st := []) hX (k_X10_standing (l := l) (D := D) (t := t) (ad := ad) (o := o) m_m m_aside m_saved m_isSaved m_past m_changes m_errorAt m_failed 0 m_input m_inputMany m_fitting m_given m_pairs m_line m_lineMany m_letters m_begins0 m_commands m_commandMany m_place0 m_size0 m_isWrong a0 a1 u7 h8) q1506 q1507 q1953 q15 q1508 (n9 := 2) rfl ⟨by decide +kernel, by decide +kernel⟩ 0 rfl rfl rfl dX10_hammerAt_28 (Nat.le_of_ble_eq_true rfl) ⟨Nat.le_refl _, Nat.le_refl _⟩ (fun w : va_W => w) jFr_id rfl rfl (fun v w hvw => ?_)
      obtain ⟨rfl, rfl⟩ := hvw
      change J X 0 0 (wM t ad o m_m m_aside m_saved m_isSaved m_past m_changes m_errorAt m_failed 0 m_input m_inputMany m_fitting m_given m_pairs m_line m_lineMany m_letters m_begins0 m_commands m_commandMany m_place0 m_size0 m_isWrong) 31 [(0, .ref (ad o)), (1, .int a0), (2, .int a1)] [.int u7]
      refine j_istore_n hX [(3, .int u7), (0, .ref (ad o)), (1, .int a0), (2, .int a1)] dX10_hammerAt_31 rfl (by decide) rfl ?_
      refine j_iload_n hX dX10_hammerAt_32 rfl 0 rfl ?_
      refine j_iconst hX (-1) dX10_hammerAt_33 (by decide) ?_
      refine j_icmp_ne hX 45 dX10_hammerAt_34 (by decide) hf (fun c34 hf => ?_) (fun c34 hf => ?_)
      · refine j_iload_n hX dX10_hammerAt_45 rfl 0 rfl ?_
        cases hf
        exact j_iret hX hE dX10_hammerAt_46 (Nat.le_refl _) (Nat.le_refl _) ⟨rfl, rfl⟩
      · refine j_aload_n hX dX10_hammerAt_37 rfl 1 rfl ?_
        refine j_iconst hX 2 dX10_hammerAt_38 (by decide) ?_
        obtain ⟨u9, h10, hf⟩ := jbind hf
        refine j_callV (st := []) hX (k_X10_throwing (l := l) (D := D) (t := t) (ad := ad) (o := o) m_m m_aside m_saved m_isSaved m_past m_changes m_errorAt m_failed 0 m_input m_inputMany m_fitting m_given m_pairs m_line m_lineMany m_letters m_begins0 m_commands m_commandMany m_place0 m_size0 m_isWrong 2 u9 h10) q1496 q1497 q1951 q15 q1498 (n9 := 1) rfl ⟨by decide +kernel, by decide +kernel⟩ 0 rfl rfl rfl dX10_hammerAt_39 (Nat.le_of_ble_eq_true rfl) ⟨Nat.le_refl _, Nat.le_refl _⟩ (fun w : va_W => w) jFr_id rfl rfl (fun v w hvw => ?_)
        obtain ⟨rfl, rfl⟩ := hvw
        change J X 0 0 (wM t ad o m_m m_aside m_saved m_isSaved m_past m_changes m_errorAt m_failed u9.2 m_input m_inputMany m_fitting m_given m_pairs m_line m_lineMany m_letters m_begins0 m_commands m_commandMany m_place0 m_size0 m_isWrong) 42 [(3, .int u7), (0, .ref (ad o)), (1, .int a0), (2, .int a1)] [.int u9.1]
        refine j_goto hX 46 dX10_hammerAt_42 (by decide) ?_
        cases hf
        exact j_iret hX hE dX10_hammerAt_46 (Nat.le_refl _) (Nat.le_refl _) ⟨rfl, rfl⟩
    · refine j_aload_n hX dX10_hammerAt_19 rfl 0 rfl ?_
      refine j_iconst hX 1 dX10_hammerAt_20 (by decide) ?_
      obtain ⟨u11, h12, hf⟩ := jbind hf
      refine j_callV (st := []) hX (k_X10_throwing (l := l) (D := D) (t := t) (ad := ad) (o := o) m_m m_aside m_saved m_isSaved m_past m_changes m_errorAt m_failed 0 m_input m_inputMany m_fitting m_given m_pairs m_line m_lineMany m_letters m_begins0 m_commands m_commandMany m_place0 m_size0 m_isWrong 1 u11 h12) q1496 q1497 q1951 q15 q1498 (n9 := 1) rfl ⟨by decide +kernel, by decide +kernel⟩ 0 rfl rfl rfl dX10_hammerAt_21 (Nat.le_of_ble_eq_true rfl) ⟨Nat.le_refl _, Nat.le_refl _⟩ (fun w : va_W => w) jFr_id rfl rfl (fun v w hvw => ?_)
      obtain ⟨rfl, rfl⟩ := hvw
      change J X 0 0 (wM t ad o m_m m_aside m_saved m_isSaved m_past m_changes m_errorAt m_failed u11.2 m_input m_inputMany m_fitting m_given m_pairs m_line m_lineMany m_letters m_begins0 m_commands m_commandMany m_place0 m_size0 m_isWrong) 24 [(0, .ref (ad o)), (1, .int a0), (2, .int a1)] [.int u11.1]
      cases hf
      exact j_iret hX hE dX10_hammerAt_24 (Nat.le_refl _) (Nat.le_refl _) ⟨rfl, rfl⟩
-- HammerDepotModel bookings (I)I
def f_X10_bookings_L23 (m_m : Nat → Int32) (x1 : Int32) : Nat → Int32 → Int32 → Option (Int32 × Int32)
  | 0, _, _ => none
  | jn + 1, x3, x2 =>
    if jin 5 2048 = true then
      if (m_m (5 : Int32).toNatClampNeg) ≤ x3 then
        some (x3, x2)
      else
        Option.bind (f_X10_bookingOf x3) (fun u3 =>
          if jin u3 2048 = true then
            if (m_m (u3).toNatClampNeg) = x1 then
              f_X10_bookings_L23 m_m x1 jn (x3 + 1) (x2 + 1)
            else
              f_X10_bookings_L23 m_m x1 jn (x3 + 1) (x2 + 0)
          else none)
    else none
def f_X10_bookings (m_m : Nat → Int32) (m_thrown : Int32) (a0 : Int32) : Option (Int32 × Int32) :=
  Option.bind (f_X10_isHammer m_m a0) (fun u1 =>
    if u1 = 0 then
      Option.bind (f_X10_throwing 0 1) (fun u8 =>
        some (u8.1, u8.2))
    else
      Option.bind (f_X10_bookings_L23 m_m a0 jFU 0 0) (fun s6 =>
        some (s6.2, 0)))
set_option maxHeartbeats 4000000 in
set_option maxRecDepth 100000 in
theorem k_X10_bookings_L23 {l : Launch} {D : va_G} {t : Nat → ClassId} {ad : Nat → Nat} {o : Nat} (m_m : Nat → Int32) (x1 : Int32) (m_aside : Nat → Int32) (m_saved : Nat → Int32) (m_isSaved : Int32) (m_past : Nat → Int32) (m_changes : Int32) (m_errorAt : Int32) (m_failed : Int32) (m_thrown : Int32) (m_input : Nat → Int32) (m_inputMany : Int32) (m_fitting : Nat → Int32) (m_given : Nat → Int32) (m_pairs : Nat → Int32) (m_line : Nat → Int32) (m_lineMany : Int32) (m_letters : Nat → Int32) (m_begins0 : Nat → Int32) (m_commands : Nat → Int32) (m_commandMany : Int32) (m_place0 : Int32) (m_size0 : Int32) (m_isWrong : Int32) {X : jX} (hX : jOK X l D (jT t) cX10_bookings RX10 (some FieldType.int) { frames := 2, cells := 0, slots := 0, locals := 46 } 4) :
    ∀ (jn : Nat) (x3 : Int32) (x2 : Int32) (u : Int32 × Int32) (hf : f_X10_bookings_L23 m_m x1 jn x3 x2 = some u) (kx : ∀ s : Int32 × Int32, u = s → J X 0 0 (wM t ad o m_m m_aside m_saved m_isSaved m_past m_changes m_errorAt m_failed m_thrown m_input m_inputMany m_fitting m_given m_pairs m_line m_lineMany m_letters m_begins0 m_commands m_commandMany m_place0 m_size0 m_isWrong) 60 [(3, .int s.1), (2, .int s.2), (0, .ref (ad o)), (1, .int x1)] []), J X 0 0 (wM t ad o m_m m_aside m_saved m_isSaved m_past m_changes m_errorAt m_failed m_thrown m_input m_inputMany m_fitting m_given m_pairs m_line m_lineMany m_letters m_begins0 m_commands m_commandMany m_place0 m_size0 m_isWrong) 23 [(3, .int x3), (2, .int x2), (0, .ref (ad o)), (1, .int x1)] [] := by
  intro jn
  induction jn with
  | zero => intro x3 x2 u hf; cases (show (none : Option (Int32 × Int32)) = some u from hf)
  | succ jn ih =>
    intro x3 x2 u hf kx
    unfold f_X10_bookings_L23 at hf
    refine j_iload_n hX dX10_bookings_23 rfl 0 rfl ?_
    refine j_aload_n hX dX10_bookings_24 rfl 2 rfl ?_
    refine j_get hX dX10_bookings_25 inX10 0 q1455 0 rfl rfl (by decide) rfl rfl ?_
    refine j_iconst hX 5 dX10_bookings_28 (by decide) ?_
    refine j_iald hX dX10_bookings_29 1 0 rfl rfl hf (fun c29 hf => ?_)
    refine j_icmp_ge hX 60 dX10_bookings_30 (by decide) hf (fun c30 hf => ?_) (fun c30 hf => ?_)
    · cases hf
      exact kx _ rfl
    · refine j_iload_n hX dX10_bookings_33 rfl 1 rfl ?_
      refine j_aload_n hX dX10_bookings_34 rfl 2 rfl ?_
      refine j_get hX dX10_bookings_35 inX10 0 q1455 0 rfl rfl (by decide) rfl rfl ?_
      refine j_iload_n hX dX10_bookings_38 rfl 0 rfl ?_
      obtain ⟨u3, h4, hf⟩ := jbind hf
      refine j_callS (st := [.ref (ad (o + 1)), .int x2]) hX (k_X10_bookingOf (l := l) (D := D) (t := t) (ad := ad)  x3 u3 h4) q1587 q1588 q15 q1589 (n9 := 1) rfl ⟨by decide +kernel, by decide +kernel⟩ dX10_bookings_39 (Nat.le_of_ble_eq_true rfl) ⟨Nat.le_refl _, Nat.le_refl _⟩ (fun w : va_W => w ++ (wM t ad o m_m m_aside m_saved m_isSaved m_past m_changes m_errorAt m_failed m_thrown m_input m_inputMany m_fitting m_given m_pairs m_line m_lineMany m_letters m_begins0 m_commands m_commandMany m_place0 m_size0 m_isWrong)) (jFr_r (wM t ad o m_m m_aside m_saved m_isSaved m_past m_changes m_errorAt m_failed m_thrown m_input m_inputMany m_fitting m_given m_pairs m_line m_lineMany m_letters m_begins0 m_commands m_commandMany m_place0 m_size0 m_isWrong)) rfl rfl (fun v w hvw => ?_)
      obtain ⟨rfl, rfl⟩ := hvw
      change J X 0 0 (wM t ad o m_m m_aside m_saved m_isSaved m_past m_changes m_errorAt m_failed m_thrown m_input m_inputMany m_fitting m_given m_pairs m_line m_lineMany m_letters m_begins0 m_commands m_commandMany m_place0 m_size0 m_isWrong) 42 [(3, .int x3), (2, .int x2), (0, .ref (ad o)), (1, .int x1)] [.int u3, .ref (ad (o + 1)), .int x2]
      refine j_iald hX dX10_bookings_42 1 0 rfl rfl hf (fun c42 hf => ?_)
      refine j_iload_n hX dX10_bookings_43 rfl 3 rfl ?_
      refine j_icmp_ne hX 51 dX10_bookings_44 (by decide) hf (fun c44 hf => ?_) (fun c44 hf => ?_)
      · refine j_iconst hX 0 dX10_bookings_51 (by decide) ?_
        refine j_iadd hX dX10_bookings_52 ?_
        refine j_istore_n hX [(2, .int (x2 + 0)), (3, .int x3), (0, .ref (ad o)), (1, .int x1)] dX10_bookings_53 rfl (by decide) rfl ?_
        refine j_iinc hX (x3 + 1) [(3, .int (x3 + 1)), (2, .int (x2 + 0)), (0, .ref (ad o)), (1, .int x1)] dX10_bookings_54 1 rfl rfl (by decide) rfl ?_
        refine j_goto hX 23 dX10_bookings_57 (by decide) ?_
        exact ih (x3 + 1) (x2 + 0) u hf kx
      · refine j_iconst hX 1 dX10_bookings_47 (by decide) ?_
        refine j_goto hX 52 dX10_bookings_48 (by decide) ?_
        refine j_iadd hX dX10_bookings_52 ?_
        refine j_istore_n hX [(2, .int (x2 + 1)), (3, .int x3), (0, .ref (ad o)), (1, .int x1)] dX10_bookings_53 rfl (by decide) rfl ?_
        refine j_iinc hX (x3 + 1) [(3, .int (x3 + 1)), (2, .int (x2 + 1)), (0, .ref (ad o)), (1, .int x1)] dX10_bookings_54 1 rfl rfl (by decide) rfl ?_
        refine j_goto hX 23 dX10_bookings_57 (by decide) ?_
        exact ih (x3 + 1) (x2 + 1) u hf kx
set_option maxHeartbeats 4000000 in
set_option maxRecDepth 100000 in
theorem k_X10_bookings {l : Launch} {D : va_G} {t : Nat → ClassId} {ad : Nat → Nat} {o : Nat} (m_m : Nat → Int32) (m_aside : Nat → Int32) (m_saved : Nat → Int32) (m_isSaved : Int32) (m_past : Nat → Int32) (m_changes : Int32) (m_errorAt : Int32) (m_failed : Int32) (m_thrown : Int32) (m_input : Nat → Int32) (m_inputMany : Int32) (m_fitting : Nat → Int32) (m_given : Nat → Int32) (m_pairs : Nat → Int32) (m_line : Nat → Int32) (m_lineMany : Int32) (m_letters : Nat → Int32) (m_begins0 : Nat → Int32) (m_commands : Nat → Int32) (m_commandMany : Int32) (m_place0 : Int32) (m_size0 : Int32) (m_isWrong : Int32) (a0 : Int32) (u : Int32 × Int32) (hf : f_X10_bookings m_m m_thrown a0 = some u) : cm l D (jT t) yX10_bookings cX10_bookings 4 (some FieldType.int) { frames := 2, cells := 0, slots := 0, locals := 46 } [.ref (ad o), .int a0] (wM t ad o m_m m_aside m_saved m_isSaved m_past m_changes m_errorAt m_failed m_thrown m_input m_inputMany m_fitting m_given m_pairs m_line m_lineMany m_letters m_begins0 m_commands m_commandMany m_place0 m_size0 m_isWrong) (fun v w => v = (some (.int u.1)) ∧ w = wM t ad o m_m m_aside m_saved m_isSaved m_past m_changes m_errorAt m_failed u.2 m_input m_inputMany m_fitting m_given m_pairs m_line m_lineMany m_letters m_begins0 m_commands m_commandMany m_place0 m_size0 m_isWrong) := by
  refine cm_of RX10 rfl (by decide +kernel) (Nat.le_of_ble_eq_true rfl) (fun X hX hE => ?_)
  change J X 0 0 (wM t ad o m_m m_aside m_saved m_isSaved m_past m_changes m_errorAt m_failed m_thrown m_input m_inputMany m_fitting m_given m_pairs m_line m_lineMany m_letters m_begins0 m_commands m_commandMany m_place0 m_size0 m_isWrong) 0 [(0, .ref (ad o)), (1, .int a0)] []
  unfold f_X10_bookings at hf
  refine j_aload_n hX dX10_bookings_0 rfl 0 rfl ?_
  refine j_iconst hX 0 dX10_bookings_1 (by decide) ?_
  refine j_put hX (wM t ad o m_m m_aside m_saved m_isSaved m_past m_changes m_errorAt m_failed 0 m_input m_inputMany m_fitting m_given m_pairs m_line m_lineMany m_letters m_begins0 m_commands m_commandMany m_place0 m_size0 m_isWrong) tyX10 dX10_bookings_2 inX10 tyX10_ok nmX10 8 q1463 0 rfl rfl (by decide) rfl rfl rfl rfl rfl (Nat.le_of_ble_eq_true rfl) rfl ?_
  refine j_aload_n hX dX10_bookings_5 rfl 0 rfl ?_
  refine j_iload_n hX dX10_bookings_6 rfl 1 rfl ?_
  obtain ⟨u1, h2, hf⟩ := jbind hf
  refine j_callV (st := []) hX (k_X10_isHammer (l := l) (D := D) (t := t) (ad := ad) (o := o) m_m m_aside m_saved m_isSaved m_past m_changes m_errorAt m_failed 0 m_input m_inputMany m_fitting m_given m_pairs m_line m_lineMany m_letters m_begins0 m_commands m_commandMany m_place0 m_size0 m_isWrong a0 u1 h2) q1522 q1523 q1956 q15 q1524 (n9 := 1) rfl ⟨by decide +kernel, by decide +kernel⟩ 0 rfl rfl rfl dX10_bookings_7 (Nat.le_of_ble_eq_true rfl) ⟨Nat.le_refl _, Nat.le_refl _⟩ (fun w : va_W => w) jFr_id rfl rfl (fun v w hvw => ?_)
  obtain ⟨rfl, rfl⟩ := hvw
  change J X 0 0 (wM t ad o m_m m_aside m_saved m_isSaved m_past m_changes m_errorAt m_failed 0 m_input m_inputMany m_fitting m_given m_pairs m_line m_lineMany m_letters m_begins0 m_commands m_commandMany m_place0 m_size0 m_isWrong) 10 [(0, .ref (ad o)), (1, .int a0)] [.int u1]
  refine j_if_ne hX 19 dX10_bookings_10 (by decide) hf (fun c10 hf => ?_) (fun c10 hf => ?_)
  · refine j_iconst hX 0 dX10_bookings_19 (by decide) ?_
    refine j_istore_n hX [(2, .int 0), (0, .ref (ad o)), (1, .int a0)] dX10_bookings_20 rfl (by decide) rfl ?_
    refine j_iconst hX 0 dX10_bookings_21 (by decide) ?_
    refine j_istore_n hX [(3, .int 0), (2, .int 0), (0, .ref (ad o)), (1, .int a0)] dX10_bookings_22 rfl (by decide) rfl ?_
    obtain ⟨s6, h7, hf⟩ := jbind hf
    refine k_X10_bookings_L23 (ad := ad) m_m a0 m_aside m_saved m_isSaved m_past m_changes m_errorAt m_failed 0 m_input m_inputMany m_fitting m_given m_pairs m_line m_lineMany m_letters m_begins0 m_commands m_commandMany m_place0 m_size0 m_isWrong hX jFU 0 0 s6 h7 (fun s60 es6 => ?_)
    subst es6
    refine j_iload_n hX dX10_bookings_60 rfl 1 rfl ?_
    cases hf
    exact j_iret hX hE dX10_bookings_61 (Nat.le_refl _) (Nat.le_refl _) ⟨rfl, rfl⟩
  · refine j_aload_n hX dX10_bookings_13 rfl 0 rfl ?_
    refine j_iconst hX 1 dX10_bookings_14 (by decide) ?_
    obtain ⟨u8, h9, hf⟩ := jbind hf
    refine j_callV (st := []) hX (k_X10_throwing (l := l) (D := D) (t := t) (ad := ad) (o := o) m_m m_aside m_saved m_isSaved m_past m_changes m_errorAt m_failed 0 m_input m_inputMany m_fitting m_given m_pairs m_line m_lineMany m_letters m_begins0 m_commands m_commandMany m_place0 m_size0 m_isWrong 1 u8 h9) q1496 q1497 q1951 q15 q1498 (n9 := 1) rfl ⟨by decide +kernel, by decide +kernel⟩ 0 rfl rfl rfl dX10_bookings_15 (Nat.le_of_ble_eq_true rfl) ⟨Nat.le_refl _, Nat.le_refl _⟩ (fun w : va_W => w) jFr_id rfl rfl (fun v w hvw => ?_)
    obtain ⟨rfl, rfl⟩ := hvw
    change J X 0 0 (wM t ad o m_m m_aside m_saved m_isSaved m_past m_changes m_errorAt m_failed u8.2 m_input m_inputMany m_fitting m_given m_pairs m_line m_lineMany m_letters m_begins0 m_commands m_commandMany m_place0 m_size0 m_isWrong) 18 [(0, .ref (ad o)), (1, .int a0)] [.int u8.1]
    cases hf
    exact j_iret hX hE dX10_bookings_18 (Nat.le_refl _) (Nat.le_refl _) ⟨rfl, rfl⟩
-- HammerDepotModel isBooked (II)Z
def f_X10_isBooked (m_m : Nat → Int32) (m_thrown : Int32) (a0 : Int32) (a1 : Int32) : Option (Int32 × Int32) :=
  Option.bind (f_X10_isHammer m_m a0) (fun u1 =>
    if u1 = 0 then
      Option.bind (f_X10_throwing 0 1) (fun u5 =>
        some (0, u5.2))
    else
      Option.bind (f_X10_isFree m_m a0 a1 a1) (fun u3 =>
        if u3 = 0 then
          some (1, 0)
        else
          some (0, 0)))
set_option maxHeartbeats 4000000 in
set_option maxRecDepth 100000 in
theorem k_X10_isBooked {l : Launch} {D : va_G} {t : Nat → ClassId} {ad : Nat → Nat} {o : Nat} (m_m : Nat → Int32) (m_aside : Nat → Int32) (m_saved : Nat → Int32) (m_isSaved : Int32) (m_past : Nat → Int32) (m_changes : Int32) (m_errorAt : Int32) (m_failed : Int32) (m_thrown : Int32) (m_input : Nat → Int32) (m_inputMany : Int32) (m_fitting : Nat → Int32) (m_given : Nat → Int32) (m_pairs : Nat → Int32) (m_line : Nat → Int32) (m_lineMany : Int32) (m_letters : Nat → Int32) (m_begins0 : Nat → Int32) (m_commands : Nat → Int32) (m_commandMany : Int32) (m_place0 : Int32) (m_size0 : Int32) (m_isWrong : Int32) (a0 : Int32) (a1 : Int32) (u : Int32 × Int32) (hf : f_X10_isBooked m_m m_thrown a0 a1 = some u) : cm l D (jT t) yX10_isBooked cX10_isBooked 3 (some FieldType.boolean) { frames := 2, cells := 0, slots := 0, locals := 46 } [.ref (ad o), .int a0, .int a1] (wM t ad o m_m m_aside m_saved m_isSaved m_past m_changes m_errorAt m_failed m_thrown m_input m_inputMany m_fitting m_given m_pairs m_line m_lineMany m_letters m_begins0 m_commands m_commandMany m_place0 m_size0 m_isWrong) (fun v w => v = (some (.int u.1)) ∧ w = wM t ad o m_m m_aside m_saved m_isSaved m_past m_changes m_errorAt m_failed u.2 m_input m_inputMany m_fitting m_given m_pairs m_line m_lineMany m_letters m_begins0 m_commands m_commandMany m_place0 m_size0 m_isWrong) := by
  refine cm_of RX10 rfl (by decide +kernel) (Nat.le_of_ble_eq_true rfl) (fun X hX hE => ?_)
  change J X 0 0 (wM t ad o m_m m_aside m_saved m_isSaved m_past m_changes m_errorAt m_failed m_thrown m_input m_inputMany m_fitting m_given m_pairs m_line m_lineMany m_letters m_begins0 m_commands m_commandMany m_place0 m_size0 m_isWrong) 0 [(0, .ref (ad o)), (1, .int a0), (2, .int a1)] []
  unfold f_X10_isBooked at hf
  refine j_aload_n hX dX10_isBooked_0 rfl 0 rfl ?_
  refine j_iconst hX 0 dX10_isBooked_1 (by decide) ?_
  refine j_put hX (wM t ad o m_m m_aside m_saved m_isSaved m_past m_changes m_errorAt m_failed 0 m_input m_inputMany m_fitting m_given m_pairs m_line m_lineMany m_letters m_begins0 m_commands m_commandMany m_place0 m_size0 m_isWrong) tyX10 dX10_isBooked_2 inX10 tyX10_ok nmX10 8 q1463 0 rfl rfl (by decide) rfl rfl rfl rfl rfl (Nat.le_of_ble_eq_true rfl) rfl ?_
  refine j_aload_n hX dX10_isBooked_5 rfl 0 rfl ?_
  refine j_iload_n hX dX10_isBooked_6 rfl 1 rfl ?_
  obtain ⟨u1, h2, hf⟩ := jbind hf
  refine j_callV (st := []) hX (k_X10_isHammer (l := l) (D := D) (t := t) (ad := ad) (o := o) m_m m_aside m_saved m_isSaved m_past m_changes m_errorAt m_failed 0 m_input m_inputMany m_fitting m_given m_pairs m_line m_lineMany m_letters m_begins0 m_commands m_commandMany m_place0 m_size0 m_isWrong a0 u1 h2) q1522 q1523 q1956 q15 q1524 (n9 := 1) rfl ⟨by decide +kernel, by decide +kernel⟩ 0 rfl rfl rfl dX10_isBooked_7 (Nat.le_of_ble_eq_true rfl) ⟨Nat.le_refl _, Nat.le_refl _⟩ (fun w : va_W => w) jFr_id rfl rfl (fun v w hvw => ?_)
  obtain ⟨rfl, rfl⟩ := hvw
  change J X 0 0 (wM t ad o m_m m_aside m_saved m_isSaved m_past m_changes m_errorAt m_failed 0 m_input m_inputMany m_fitting m_given m_pairs m_line m_lineMany m_letters m_begins0 m_commands m_commandMany m_place0 m_size0 m_isWrong) 10 [(0, .ref (ad o)), (1, .int a0), (2, .int a1)] [.int u1]
  refine j_if_ne hX 21 dX10_isBooked_10 (by decide) hf (fun c10 hf => ?_) (fun c10 hf => ?_)
  · refine j_aload_n hX dX10_isBooked_21 rfl 0 rfl ?_
    refine j_iload_n hX dX10_isBooked_22 rfl 1 rfl ?_
    refine j_iload_n hX dX10_isBooked_23 rfl 2 rfl ?_
    refine j_iload_n hX dX10_isBooked_24 rfl 2 rfl ?_
    obtain ⟨u3, h4, hf⟩ := jbind hf
    refine j_callV (st := []) hX (k_X10_isFree (l := l) (D := D) (t := t) (ad := ad) (o := o) m_m m_aside m_saved m_isSaved m_past m_changes m_errorAt m_failed 0 m_input m_inputMany m_fitting m_given m_pairs m_line m_lineMany m_letters m_begins0 m_commands m_commandMany m_place0 m_size0 m_isWrong a0 a1 a1 u3 h4) q1584 q1585 q1968 q15 q1586 (n9 := 3) rfl ⟨by decide +kernel, by decide +kernel⟩ 0 rfl rfl rfl dX10_isBooked_25 (Nat.le_of_ble_eq_true rfl) ⟨Nat.le_refl _, Nat.le_refl _⟩ (fun w : va_W => w) jFr_id rfl rfl (fun v w hvw => ?_)
    obtain ⟨rfl, rfl⟩ := hvw
    change J X 0 0 (wM t ad o m_m m_aside m_saved m_isSaved m_past m_changes m_errorAt m_failed 0 m_input m_inputMany m_fitting m_given m_pairs m_line m_lineMany m_letters m_begins0 m_commands m_commandMany m_place0 m_size0 m_isWrong) 28 [(0, .ref (ad o)), (1, .int a0), (2, .int a1)] [.int u3]
    refine j_if_ne hX 35 dX10_isBooked_28 (by decide) hf (fun c28 hf => ?_) (fun c28 hf => ?_)
    · refine j_iconst hX 0 dX10_isBooked_35 (by decide) ?_
      cases hf
      exact j_zret hX hE rfl dX10_isBooked_36 (Nat.le_refl _) (Nat.le_refl _) ⟨rfl, rfl⟩
    · refine j_iconst hX 1 dX10_isBooked_31 (by decide) ?_
      refine j_goto hX 36 dX10_isBooked_32 (by decide) ?_
      cases hf
      exact j_zret hX hE rfl dX10_isBooked_36 (Nat.le_refl _) (Nat.le_refl _) ⟨rfl, rfl⟩
  · refine j_aload_n hX dX10_isBooked_13 rfl 0 rfl ?_
    refine j_iconst hX 1 dX10_isBooked_14 (by decide) ?_
    obtain ⟨u5, h6, hf⟩ := jbind hf
    refine j_callV (st := []) hX (k_X10_throwing (l := l) (D := D) (t := t) (ad := ad) (o := o) m_m m_aside m_saved m_isSaved m_past m_changes m_errorAt m_failed 0 m_input m_inputMany m_fitting m_given m_pairs m_line m_lineMany m_letters m_begins0 m_commands m_commandMany m_place0 m_size0 m_isWrong 1 u5 h6) q1496 q1497 q1951 q15 q1498 (n9 := 1) rfl ⟨by decide +kernel, by decide +kernel⟩ 0 rfl rfl rfl dX10_isBooked_15 (Nat.le_of_ble_eq_true rfl) ⟨Nat.le_refl _, Nat.le_refl _⟩ (fun w : va_W => w) jFr_id rfl rfl (fun v w hvw => ?_)
    obtain ⟨rfl, rfl⟩ := hvw
    change J X 0 0 (wM t ad o m_m m_aside m_saved m_isSaved m_past m_changes m_errorAt m_failed u5.2 m_input m_inputMany m_fitting m_given m_pairs m_line m_lineMany m_letters m_begins0 m_commands m_commandMany m_place0 m_size0 m_isWrong) 18 [(0, .ref (ad o)), (1, .int a0), (2, .int a1)] [.int u5.1]
    refine j_pop hX dX10_isBooked_18 rfl ?_
    refine j_iconst hX 0 dX10_isBooked_19 (by decide) ?_
    cases hf
    exact j_zret hX hE rfl dX10_isBooked_20 (Nat.le_refl _) (Nat.le_refl _) ⟨rfl, rfl⟩
-- HammerDepotModel requestCount ()I
def f_X10_requestCount (m_m : Nat → Int32) (m_thrown : Int32) : Option (Int32 × Int32) :=
  Option.bind (f_X10_total m_m m_thrown 4) (fun u1 =>
    some (u1.1, u1.2))
set_option maxHeartbeats 4000000 in
set_option maxRecDepth 100000 in
theorem k_X10_requestCount {l : Launch} {D : va_G} {t : Nat → ClassId} {ad : Nat → Nat} {o : Nat} (m_m : Nat → Int32) (m_aside : Nat → Int32) (m_saved : Nat → Int32) (m_isSaved : Int32) (m_past : Nat → Int32) (m_changes : Int32) (m_errorAt : Int32) (m_failed : Int32) (m_thrown : Int32) (m_input : Nat → Int32) (m_inputMany : Int32) (m_fitting : Nat → Int32) (m_given : Nat → Int32) (m_pairs : Nat → Int32) (m_line : Nat → Int32) (m_lineMany : Int32) (m_letters : Nat → Int32) (m_begins0 : Nat → Int32) (m_commands : Nat → Int32) (m_commandMany : Int32) (m_place0 : Int32) (m_size0 : Int32) (m_isWrong : Int32)  (u : Int32 × Int32) (hf : f_X10_requestCount m_m m_thrown = some u) : cm l D (jT t) yX10_requestCount cX10_requestCount 1 (some FieldType.int) { frames := 1, cells := 0, slots := 0, locals := 21 } [.ref (ad o)] (wM t ad o m_m m_aside m_saved m_isSaved m_past m_changes m_errorAt m_failed m_thrown m_input m_inputMany m_fitting m_given m_pairs m_line m_lineMany m_letters m_begins0 m_commands m_commandMany m_place0 m_size0 m_isWrong) (fun v w => v = (some (.int u.1)) ∧ w = wM t ad o m_m m_aside m_saved m_isSaved m_past m_changes m_errorAt m_failed u.2 m_input m_inputMany m_fitting m_given m_pairs m_line m_lineMany m_letters m_begins0 m_commands m_commandMany m_place0 m_size0 m_isWrong) := by
  refine cm_of RX10 rfl (by decide +kernel) (Nat.le_of_ble_eq_true rfl) (fun X hX hE => ?_)
  change J X 0 0 (wM t ad o m_m m_aside m_saved m_isSaved m_past m_changes m_errorAt m_failed m_thrown m_input m_inputMany m_fitting m_given m_pairs m_line m_lineMany m_letters m_begins0 m_commands m_commandMany m_place0 m_size0 m_isWrong) 0 [(0, .ref (ad o))] []
  unfold f_X10_requestCount at hf
  refine j_aload_n hX dX10_requestCount_0 rfl 0 rfl ?_
  refine j_iconst hX 4 dX10_requestCount_1 (by decide) ?_
  obtain ⟨u1, h2, hf⟩ := jbind hf
  refine j_callV (st := []) hX (k_X10_total (l := l) (D := D) (t := t) (ad := ad) (o := o) m_m m_aside m_saved m_isSaved m_past m_changes m_errorAt m_failed m_thrown m_input m_inputMany m_fitting m_given m_pairs m_line m_lineMany m_letters m_begins0 m_commands m_commandMany m_place0 m_size0 m_isWrong 4 u1 h2) q1650 q1651 q1980 q15 q1652 (n9 := 1) rfl ⟨by decide +kernel, by decide +kernel⟩ 0 rfl rfl rfl dX10_requestCount_2 (Nat.le_of_ble_eq_true rfl) ⟨Nat.le_refl _, Nat.le_refl _⟩ (fun w : va_W => w) jFr_id rfl rfl (fun v w hvw => ?_)
  obtain ⟨rfl, rfl⟩ := hvw
  change J X 0 0 (wM t ad o m_m m_aside m_saved m_isSaved m_past m_changes m_errorAt m_failed u1.2 m_input m_inputMany m_fitting m_given m_pairs m_line m_lineMany m_letters m_begins0 m_commands m_commandMany m_place0 m_size0 m_isWrong) 5 [(0, .ref (ad o))] [.int u1.1]
  cases hf
  exact j_iret hX hE dX10_requestCount_5 (Nat.le_refl _) (Nat.le_refl _) ⟨rfl, rfl⟩
-- HammerDepotModel requestAt (I)I
def f_X10_requestAt (m_m : Nat → Int32) (m_thrown : Int32) (a0 : Int32) : Option (Int32 × Int32) :=
  if jin 4 2048 = true then
    Option.bind (f_X10_in ((a0).toInt64) (0 : Int64) (((m_m (4 : Int32).toNatClampNeg) - 1).toInt64)) (fun u1 =>
      if u1 = 0 then
        Option.bind (f_X10_throwing 0 1) (fun u3 =>
          some (u3.1, u3.2))
      else
        Option.bind (f_X10_requestOf a0) (fun u5 =>
          if jin u5 2048 = true then
            some (m_m (u5).toNatClampNeg, 0)
          else none))
  else none
set_option maxHeartbeats 4000000 in
set_option maxRecDepth 100000 in
theorem k_X10_requestAt {l : Launch} {D : va_G} {t : Nat → ClassId} {ad : Nat → Nat} {o : Nat} (m_m : Nat → Int32) (m_aside : Nat → Int32) (m_saved : Nat → Int32) (m_isSaved : Int32) (m_past : Nat → Int32) (m_changes : Int32) (m_errorAt : Int32) (m_failed : Int32) (m_thrown : Int32) (m_input : Nat → Int32) (m_inputMany : Int32) (m_fitting : Nat → Int32) (m_given : Nat → Int32) (m_pairs : Nat → Int32) (m_line : Nat → Int32) (m_lineMany : Int32) (m_letters : Nat → Int32) (m_begins0 : Nat → Int32) (m_commands : Nat → Int32) (m_commandMany : Int32) (m_place0 : Int32) (m_size0 : Int32) (m_isWrong : Int32) (a0 : Int32) (u : Int32 × Int32) (hf : f_X10_requestAt m_m m_thrown a0 = some u) : cm l D (jT t) yX10_requestAt cX10_requestAt 2 (some FieldType.int) { frames := 1, cells := 0, slots := 0, locals := 25 } [.ref (ad o), .int a0] (wM t ad o m_m m_aside m_saved m_isSaved m_past m_changes m_errorAt m_failed m_thrown m_input m_inputMany m_fitting m_given m_pairs m_line m_lineMany m_letters m_begins0 m_commands m_commandMany m_place0 m_size0 m_isWrong) (fun v w => v = (some (.int u.1)) ∧ w = wM t ad o m_m m_aside m_saved m_isSaved m_past m_changes m_errorAt m_failed u.2 m_input m_inputMany m_fitting m_given m_pairs m_line m_lineMany m_letters m_begins0 m_commands m_commandMany m_place0 m_size0 m_isWrong) := by
  refine cm_of RX10 rfl (by decide +kernel) (Nat.le_of_ble_eq_true rfl) (fun X hX hE => ?_)
  change J X 0 0 (wM t ad o m_m m_aside m_saved m_isSaved m_past m_changes m_errorAt m_failed m_thrown m_input m_inputMany m_fitting m_given m_pairs m_line m_lineMany m_letters m_begins0 m_commands m_commandMany m_place0 m_size0 m_isWrong) 0 [(0, .ref (ad o)), (1, .int a0)] []
  unfold f_X10_requestAt at hf
  refine j_aload_n hX dX10_requestAt_0 rfl 0 rfl ?_
  refine j_iconst hX 0 dX10_requestAt_1 (by decide) ?_
  refine j_put hX (wM t ad o m_m m_aside m_saved m_isSaved m_past m_changes m_errorAt m_failed 0 m_input m_inputMany m_fitting m_given m_pairs m_line m_lineMany m_letters m_begins0 m_commands m_commandMany m_place0 m_size0 m_isWrong) tyX10 dX10_requestAt_2 inX10 tyX10_ok nmX10 8 q1463 0 rfl rfl (by decide) rfl rfl rfl rfl rfl (Nat.le_of_ble_eq_true rfl) rfl ?_
  refine j_iload_n hX dX10_requestAt_5 rfl 1 rfl ?_
  refine j_i2l hX dX10_requestAt_6 ?_
  refine j_lconst hX 0 dX10_requestAt_7 (by decide) ?_
  refine j_aload_n hX dX10_requestAt_8 rfl 0 rfl ?_
  refine j_get hX dX10_requestAt_9 inX10 0 q1455 0 rfl rfl (by decide) rfl rfl ?_
  refine j_iconst hX 4 dX10_requestAt_12 (by decide) ?_
  refine j_iald hX dX10_requestAt_13 1 0 rfl rfl hf (fun c13 hf => ?_)
  refine j_iconst hX 1 dX10_requestAt_14 (by decide) ?_
  refine j_isub hX dX10_requestAt_15 ?_
  refine j_i2l hX dX10_requestAt_16 ?_
  obtain ⟨u1, h2, hf⟩ := jbind hf
  refine j_callS (st := []) hX (k_X10_in (l := l) (D := D) (t := t) (ad := ad)  ((a0).toInt64) (0 : Int64) (((m_m (4 : Int32).toNatClampNeg) - 1).toInt64) u1 h2) q1493 q1494 q15 q1495 (n9 := 3) rfl ⟨by decide +kernel, by decide +kernel⟩ dX10_requestAt_17 (Nat.le_of_ble_eq_true rfl) ⟨Nat.le_refl _, Nat.le_refl _⟩ (fun w : va_W => w ++ (wM t ad o m_m m_aside m_saved m_isSaved m_past m_changes m_errorAt m_failed 0 m_input m_inputMany m_fitting m_given m_pairs m_line m_lineMany m_letters m_begins0 m_commands m_commandMany m_place0 m_size0 m_isWrong)) (jFr_r (wM t ad o m_m m_aside m_saved m_isSaved m_past m_changes m_errorAt m_failed 0 m_input m_inputMany m_fitting m_given m_pairs m_line m_lineMany m_letters m_begins0 m_commands m_commandMany m_place0 m_size0 m_isWrong)) rfl rfl (fun v w hvw => ?_)
  obtain ⟨rfl, rfl⟩ := hvw
  change J X 0 0 (wM t ad o m_m m_aside m_saved m_isSaved m_past m_changes m_errorAt m_failed 0 m_input m_inputMany m_fitting m_given m_pairs m_line m_lineMany m_letters m_begins0 m_commands m_commandMany m_place0 m_size0 m_isWrong) 20 [(0, .ref (ad o)), (1, .int a0)] [.int u1]
  refine j_if_eq hX 35 dX10_requestAt_20 (by decide) hf (fun c20 hf => ?_) (fun c20 hf => ?_)
  · refine j_aload_n hX dX10_requestAt_35 rfl 0 rfl ?_
    refine j_iconst hX 1 dX10_requestAt_36 (by decide) ?_
    obtain ⟨u3, h4, hf⟩ := jbind hf
    refine j_callV (st := []) hX (k_X10_throwing (l := l) (D := D) (t := t) (ad := ad) (o := o) m_m m_aside m_saved m_isSaved m_past m_changes m_errorAt m_failed 0 m_input m_inputMany m_fitting m_given m_pairs m_line m_lineMany m_letters m_begins0 m_commands m_commandMany m_place0 m_size0 m_isWrong 1 u3 h4) q1496 q1497 q1951 q15 q1498 (n9 := 1) rfl ⟨by decide +kernel, by decide +kernel⟩ 0 rfl rfl rfl dX10_requestAt_37 (Nat.le_of_ble_eq_true rfl) ⟨Nat.le_refl _, Nat.le_refl _⟩ (fun w : va_W => w) jFr_id rfl rfl (fun v w hvw => ?_)
    obtain ⟨rfl, rfl⟩ := hvw
    change J X 0 0 (wM t ad o m_m m_aside m_saved m_isSaved m_past m_changes m_errorAt m_failed u3.2 m_input m_inputMany m_fitting m_given m_pairs m_line m_lineMany m_letters m_begins0 m_commands m_commandMany m_place0 m_size0 m_isWrong) 40 [(0, .ref (ad o)), (1, .int a0)] [.int u3.1]
    cases hf
    exact j_iret hX hE dX10_requestAt_40 (Nat.le_refl _) (Nat.le_refl _) ⟨rfl, rfl⟩
  · refine j_aload_n hX dX10_requestAt_23 rfl 0 rfl ?_
    refine j_get hX dX10_requestAt_24 inX10 0 q1455 0 rfl rfl (by decide) rfl rfl ?_
    refine j_iload_n hX dX10_requestAt_27 rfl 1 rfl ?_
    obtain ⟨u5, h6, hf⟩ := jbind hf
    refine j_callS (st := [.ref (ad (o + 1))]) hX (k_X10_requestOf (l := l) (D := D) (t := t) (ad := ad)  a0 u5 h6) q1554 q1555 q15 q1556 (n9 := 1) rfl ⟨by decide +kernel, by decide +kernel⟩ dX10_requestAt_28 (Nat.le_of_ble_eq_true rfl) ⟨Nat.le_refl _, Nat.le_refl _⟩ (fun w : va_W => w ++ (wM t ad o m_m m_aside m_saved m_isSaved m_past m_changes m_errorAt m_failed 0 m_input m_inputMany m_fitting m_given m_pairs m_line m_lineMany m_letters m_begins0 m_commands m_commandMany m_place0 m_size0 m_isWrong)) (jFr_r (wM t ad o m_m m_aside m_saved m_isSaved m_past m_changes m_errorAt m_failed 0 m_input m_inputMany m_fitting m_given m_pairs m_line m_lineMany m_letters m_begins0 m_commands m_commandMany m_place0 m_size0 m_isWrong)) rfl rfl (fun v w hvw => ?_)
    obtain ⟨rfl, rfl⟩ := hvw
    change J X 0 0 (wM t ad o m_m m_aside m_saved m_isSaved m_past m_changes m_errorAt m_failed 0 m_input m_inputMany m_fitting m_given m_pairs m_line m_lineMany m_letters m_begins0 m_commands m_commandMany m_place0 m_size0 m_isWrong) 31 [(0, .ref (ad o)), (1, .int a0)] [.int u5, .ref (ad (o + 1))]
    refine j_iald hX dX10_requestAt_31 1 0 rfl rfl hf (fun c31 hf => ?_)
    refine j_goto hX 40 dX10_requestAt_32 (by decide) ?_
    cases hf
    exact j_iret hX hE dX10_requestAt_40 (Nat.le_refl _) (Nat.le_refl _) ⟨rfl, rfl⟩
-- HammerDepotModel fits (II)Z
def f_X10_fits (m_m : Nat → Int32) (m_thrown : Int32) (a0 : Int32) (a1 : Int32) : Option (Int32 × Int32) :=
  Option.bind (f_X10_find m_m a0) (fun u1 =>
    if u1 = (-1) then
      Option.bind (f_X10_throwing 0 1) (fun u15 =>
        if u15.2 = 0 then
          Option.bind (f_X10_find m_m a0) (fun u17 =>
            Option.bind (f_X10_may m_m u17 a1) (fun u19 =>
              if u19 = 0 then
                some (0, u15.2)
              else
                some (1, u15.2)))
        else
          some (0, u15.2))
    else
      Option.bind (f_X10_isHammer m_m a1) (fun u3 =>
        if u3 = 0 then
          Option.bind (f_X10_throwing 0 2) (fun u9 =>
            if u9.2 = 0 then
              Option.bind (f_X10_find m_m a0) (fun u11 =>
                Option.bind (f_X10_may m_m u11 a1) (fun u13 =>
                  if u13 = 0 then
                    some (0, u9.2)
                  else
                    some (1, u9.2)))
            else
              some (0, u9.2))
        else
          Option.bind (f_X10_find m_m a0) (fun u5 =>
            Option.bind (f_X10_may m_m u5 a1) (fun u7 =>
              if u7 = 0 then
                some (0, 0)
              else
                some (1, 0)))))
set_option maxHeartbeats 4000000 in
set_option maxRecDepth 100000 in
theorem k_X10_fits {l : Launch} {D : va_G} {t : Nat → ClassId} {ad : Nat → Nat} {o : Nat} (m_m : Nat → Int32) (m_aside : Nat → Int32) (m_saved : Nat → Int32) (m_isSaved : Int32) (m_past : Nat → Int32) (m_changes : Int32) (m_errorAt : Int32) (m_failed : Int32) (m_thrown : Int32) (m_input : Nat → Int32) (m_inputMany : Int32) (m_fitting : Nat → Int32) (m_given : Nat → Int32) (m_pairs : Nat → Int32) (m_line : Nat → Int32) (m_lineMany : Int32) (m_letters : Nat → Int32) (m_begins0 : Nat → Int32) (m_commands : Nat → Int32) (m_commandMany : Int32) (m_place0 : Int32) (m_size0 : Int32) (m_isWrong : Int32) (a0 : Int32) (a1 : Int32) (u : Int32 × Int32) (hf : f_X10_fits m_m m_thrown a0 a1 = some u) : cm l D (jT t) yX10_fits cX10_fits 3 (some FieldType.boolean) { frames := 3, cells := 0, slots := 0, locals := 72 } [.ref (ad o), .int a0, .int a1] (wM t ad o m_m m_aside m_saved m_isSaved m_past m_changes m_errorAt m_failed m_thrown m_input m_inputMany m_fitting m_given m_pairs m_line m_lineMany m_letters m_begins0 m_commands m_commandMany m_place0 m_size0 m_isWrong) (fun v w => v = (some (.int u.1)) ∧ w = wM t ad o m_m m_aside m_saved m_isSaved m_past m_changes m_errorAt m_failed u.2 m_input m_inputMany m_fitting m_given m_pairs m_line m_lineMany m_letters m_begins0 m_commands m_commandMany m_place0 m_size0 m_isWrong) := by
  refine cm_of RX10 rfl (by decide +kernel) (Nat.le_of_ble_eq_true rfl) (fun X hX hE => ?_)
  change J X 0 0 (wM t ad o m_m m_aside m_saved m_isSaved m_past m_changes m_errorAt m_failed m_thrown m_input m_inputMany m_fitting m_given m_pairs m_line m_lineMany m_letters m_begins0 m_commands m_commandMany m_place0 m_size0 m_isWrong) 0 [(0, .ref (ad o)), (1, .int a0), (2, .int a1)] []
  unfold f_X10_fits at hf
  refine j_aload_n hX dX10_fits_0 rfl 0 rfl ?_
  refine j_iconst hX 0 dX10_fits_1 (by decide) ?_
  refine j_put hX (wM t ad o m_m m_aside m_saved m_isSaved m_past m_changes m_errorAt m_failed 0 m_input m_inputMany m_fitting m_given m_pairs m_line m_lineMany m_letters m_begins0 m_commands m_commandMany m_place0 m_size0 m_isWrong) tyX10 dX10_fits_2 inX10 tyX10_ok nmX10 8 q1463 0 rfl rfl (by decide) rfl rfl rfl rfl rfl (Nat.le_of_ble_eq_true rfl) rfl ?_
  refine j_aload_n hX dX10_fits_5 rfl 0 rfl ?_
  refine j_iload_n hX dX10_fits_6 rfl 1 rfl ?_
  obtain ⟨u1, h2, hf⟩ := jbind hf
  refine j_callV (st := []) hX (k_X10_find (l := l) (D := D) (t := t) (ad := ad) (o := o) m_m m_aside m_saved m_isSaved m_past m_changes m_errorAt m_failed 0 m_input m_inputMany m_fitting m_given m_pairs m_line m_lineMany m_letters m_begins0 m_commands m_commandMany m_place0 m_size0 m_isWrong a0 u1 h2) q1564 q1565 q1963 q15 q1566 (n9 := 1) rfl ⟨by decide +kernel, by decide +kernel⟩ 0 rfl rfl rfl dX10_fits_7 (Nat.le_of_ble_eq_true rfl) ⟨Nat.le_refl _, Nat.le_refl _⟩ (fun w : va_W => w) jFr_id rfl rfl (fun v w hvw => ?_)
  obtain ⟨rfl, rfl⟩ := hvw
  change J X 0 0 (wM t ad o m_m m_aside m_saved m_isSaved m_past m_changes m_errorAt m_failed 0 m_input m_inputMany m_fitting m_given m_pairs m_line m_lineMany m_letters m_begins0 m_commands m_commandMany m_place0 m_size0 m_isWrong) 10 [(0, .ref (ad o)), (1, .int a0), (2, .int a1)] [.int u1]
  refine j_iconst hX (-1) dX10_fits_10 (by decide) ?_
  refine j_icmp_ne hX 23 dX10_fits_11 (by decide) hf (fun c11 hf => ?_) (fun c11 hf => ?_)
  · refine j_aload_n hX dX10_fits_23 rfl 0 rfl ?_
    refine j_iload_n hX dX10_fits_24 rfl 2 rfl ?_
    obtain ⟨u3, h4, hf⟩ := jbind hf
    refine j_callV (st := []) hX (k_X10_isHammer (l := l) (D := D) (t := t) (ad := ad) (o := o) m_m m_aside m_saved m_isSaved m_past m_changes m_errorAt m_failed 0 m_input m_inputMany m_fitting m_given m_pairs m_line m_lineMany m_letters m_begins0 m_commands m_commandMany m_place0 m_size0 m_isWrong a1 u3 h4) q1522 q1523 q1956 q15 q1524 (n9 := 1) rfl ⟨by decide +kernel, by decide +kernel⟩ 0 rfl rfl rfl dX10_fits_25 (Nat.le_of_ble_eq_true rfl) ⟨Nat.le_refl _, Nat.le_refl _⟩ (fun w : va_W => w) jFr_id rfl rfl (fun v w hvw => ?_)
    obtain ⟨rfl, rfl⟩ := hvw
    change J X 0 0 (wM t ad o m_m m_aside m_saved m_isSaved m_past m_changes m_errorAt m_failed 0 m_input m_inputMany m_fitting m_given m_pairs m_line m_lineMany m_letters m_begins0 m_commands m_commandMany m_place0 m_size0 m_isWrong) 28 [(0, .ref (ad o)), (1, .int a0), (2, .int a1)] [.int u3]
    refine j_if_ne hX 37 dX10_fits_28 (by decide) hf (fun c28 hf => ?_) (fun c28 hf => ?_)
    · refine j_aload_n hX dX10_fits_37 rfl 0 rfl ?_
      refine j_get hX dX10_fits_38 inX10 8 q1463 0 rfl rfl (by decide) rfl rfl ?_
      refine j_if_ne (α := Unit) (F := none) (G := none) (o := none) hX 61 dX10_fits_41 (by decide) (ite_self none) (fun c41 _ => absurd c41 (by decide)) (fun c41 _ => ?_)
      refine j_aload_n hX dX10_fits_44 rfl 0 rfl ?_
      refine j_aload_n hX dX10_fits_45 rfl 0 rfl ?_
      refine j_iload_n hX dX10_fits_46 rfl 1 rfl ?_
      obtain ⟨u5, h6, hf⟩ := jbind hf
      refine j_callV (st := [.ref (ad o)]) hX (k_X10_find (l := l) (D := D) (t := t) (ad := ad) (o := o) m_m m_aside m_saved m_isSaved m_past m_changes m_errorAt m_failed 0 m_input m_inputMany m_fitting m_given m_pairs m_line m_lineMany m_letters m_begins0 m_commands m_commandMany m_place0 m_size0 m_isWrong a0 u5 h6) q1564 q1565 q1963 q15 q1566 (n9 := 1) rfl ⟨by decide +kernel, by decide +kernel⟩ 0 rfl rfl rfl dX10_fits_47 (Nat.le_of_ble_eq_true rfl) ⟨Nat.le_refl _, Nat.le_refl _⟩ (fun w : va_W => w) jFr_id rfl rfl (fun v w hvw => ?_)
      obtain ⟨rfl, rfl⟩ := hvw
      change J X 0 0 (wM t ad o m_m m_aside m_saved m_isSaved m_past m_changes m_errorAt m_failed 0 m_input m_inputMany m_fitting m_given m_pairs m_line m_lineMany m_letters m_begins0 m_commands m_commandMany m_place0 m_size0 m_isWrong) 50 [(0, .ref (ad o)), (1, .int a0), (2, .int a1)] [.int u5, .ref (ad o)]
      refine j_iload_n hX dX10_fits_50 rfl 2 rfl ?_
      obtain ⟨u7, h8, hf⟩ := jbind hf
      refine j_callV (st := []) hX (k_X10_may (l := l) (D := D) (t := t) (ad := ad) (o := o) m_m m_aside m_saved m_isSaved m_past m_changes m_errorAt m_failed 0 m_input m_inputMany m_fitting m_given m_pairs m_line m_lineMany m_letters m_begins0 m_commands m_commandMany m_place0 m_size0 m_isWrong u5 a1 u7 h8) q1580 q1581 q1967 q15 q1582 (n9 := 2) rfl ⟨by decide +kernel, by decide +kernel⟩ 0 rfl rfl rfl dX10_fits_51 (Nat.le_of_ble_eq_true rfl) ⟨Nat.le_refl _, Nat.le_refl _⟩ (fun w : va_W => w) jFr_id rfl rfl (fun v w hvw => ?_)
      obtain ⟨rfl, rfl⟩ := hvw
      change J X 0 0 (wM t ad o m_m m_aside m_saved m_isSaved m_past m_changes m_errorAt m_failed 0 m_input m_inputMany m_fitting m_given m_pairs m_line m_lineMany m_letters m_begins0 m_commands m_commandMany m_place0 m_size0 m_isWrong) 54 [(0, .ref (ad o)), (1, .int a0), (2, .int a1)] [.int u7]
      refine j_if_eq hX 61 dX10_fits_54 (by decide) hf (fun c54 hf => ?_) (fun c54 hf => ?_)
      · refine j_iconst hX 0 dX10_fits_61 (by decide) ?_
        cases hf
        exact j_zret hX hE rfl dX10_fits_62 (Nat.le_refl _) (Nat.le_refl _) ⟨rfl, rfl⟩
      · refine j_iconst hX 1 dX10_fits_57 (by decide) ?_
        refine j_goto hX 62 dX10_fits_58 (by decide) ?_
        cases hf
        exact j_zret hX hE rfl dX10_fits_62 (Nat.le_refl _) (Nat.le_refl _) ⟨rfl, rfl⟩
    · refine j_aload_n hX dX10_fits_31 rfl 0 rfl ?_
      refine j_iconst hX 2 dX10_fits_32 (by decide) ?_
      obtain ⟨u9, h10, hf⟩ := jbind hf
      refine j_callV (st := []) hX (k_X10_throwing (l := l) (D := D) (t := t) (ad := ad) (o := o) m_m m_aside m_saved m_isSaved m_past m_changes m_errorAt m_failed 0 m_input m_inputMany m_fitting m_given m_pairs m_line m_lineMany m_letters m_begins0 m_commands m_commandMany m_place0 m_size0 m_isWrong 2 u9 h10) q1496 q1497 q1951 q15 q1498 (n9 := 1) rfl ⟨by decide +kernel, by decide +kernel⟩ 0 rfl rfl rfl dX10_fits_33 (Nat.le_of_ble_eq_true rfl) ⟨Nat.le_refl _, Nat.le_refl _⟩ (fun w : va_W => w) jFr_id rfl rfl (fun v w hvw => ?_)
      obtain ⟨rfl, rfl⟩ := hvw
      change J X 0 0 (wM t ad o m_m m_aside m_saved m_isSaved m_past m_changes m_errorAt m_failed u9.2 m_input m_inputMany m_fitting m_given m_pairs m_line m_lineMany m_letters m_begins0 m_commands m_commandMany m_place0 m_size0 m_isWrong) 36 [(0, .ref (ad o)), (1, .int a0), (2, .int a1)] [.int u9.1]
      refine j_pop hX dX10_fits_36 rfl ?_
      refine j_aload_n hX dX10_fits_37 rfl 0 rfl ?_
      refine j_get hX dX10_fits_38 inX10 8 q1463 0 rfl rfl (by decide) rfl rfl ?_
      refine j_if_ne hX 61 dX10_fits_41 (by decide) hf (fun c41 hf => ?_) (fun c41 hf => ?_)
      · refine j_iconst hX 0 dX10_fits_61 (by decide) ?_
        cases hf
        exact j_zret hX hE rfl dX10_fits_62 (Nat.le_refl _) (Nat.le_refl _) ⟨rfl, rfl⟩
      · refine j_aload_n hX dX10_fits_44 rfl 0 rfl ?_
        refine j_aload_n hX dX10_fits_45 rfl 0 rfl ?_
        refine j_iload_n hX dX10_fits_46 rfl 1 rfl ?_
        obtain ⟨u11, h12, hf⟩ := jbind hf
        refine j_callV (st := [.ref (ad o)]) hX (k_X10_find (l := l) (D := D) (t := t) (ad := ad) (o := o) m_m m_aside m_saved m_isSaved m_past m_changes m_errorAt m_failed u9.2 m_input m_inputMany m_fitting m_given m_pairs m_line m_lineMany m_letters m_begins0 m_commands m_commandMany m_place0 m_size0 m_isWrong a0 u11 h12) q1564 q1565 q1963 q15 q1566 (n9 := 1) rfl ⟨by decide +kernel, by decide +kernel⟩ 0 rfl rfl rfl dX10_fits_47 (Nat.le_of_ble_eq_true rfl) ⟨Nat.le_refl _, Nat.le_refl _⟩ (fun w : va_W => w) jFr_id rfl rfl (fun v w hvw => ?_)
        obtain ⟨rfl, rfl⟩ := hvw
        change J X 0 0 (wM t ad o m_m m_aside m_saved m_isSaved m_past m_changes m_errorAt m_failed u9.2 m_input m_inputMany m_fitting m_given m_pairs m_line m_lineMany m_letters m_begins0 m_commands m_commandMany m_place0 m_size0 m_isWrong) 50 [(0, .ref (ad o)), (1, .int a0), (2, .int a1)] [.int u11, .ref (ad o)]
        refine j_iload_n hX dX10_fits_50 rfl 2 rfl ?_
        obtain ⟨u13, h14, hf⟩ := jbind hf
        refine j_callV (st := []) hX (k_X10_may (l := l) (D := D) (t := t) (ad := ad) (o := o) m_m m_aside m_saved m_isSaved m_past m_changes m_errorAt m_failed u9.2 m_input m_inputMany m_fitting m_given m_pairs m_line m_lineMany m_letters m_begins0 m_commands m_commandMany m_place0 m_size0 m_isWrong u11 a1 u13 h14) q1580 q1581 q1967 q15 q1582 (n9 := 2) rfl ⟨by decide +kernel, by decide +kernel⟩ 0 rfl rfl rfl dX10_fits_51 (Nat.le_of_ble_eq_true rfl) ⟨Nat.le_refl _, Nat.le_refl _⟩ (fun w : va_W => w) jFr_id rfl rfl (fun v w hvw => ?_)
        obtain ⟨rfl, rfl⟩ := hvw
        change J X 0 0 (wM t ad o m_m m_aside m_saved m_isSaved m_past m_changes m_errorAt m_failed u9.2 m_input m_inputMany m_fitting m_given m_pairs m_line m_lineMany m_letters m_begins0 m_commands m_commandMany m_place0 m_size0 m_isWrong) 54 [(0, .ref (ad o)), (1, .int a0), (2, .int a1)] [.int u13]
        refine j_if_eq hX 61 dX10_fits_54 (by decide) hf (fun c54 hf => ?_) (fun c54 hf => ?_)
        · refine j_iconst hX 0 dX10_fits_61 (by decide) ?_
          cases hf
          exact j_zret hX hE rfl dX10_fits_62 (Nat.le_refl _) (Nat.le_refl _) ⟨rfl, rfl⟩
        · refine j_iconst hX 1 dX10_fits_57 (by decide) ?_
          refine j_goto hX 62 dX10_fits_58 (by decide) ?_
          cases hf
          exact j_zret hX hE rfl dX10_fits_62 (Nat.le_refl _) (Nat.le_refl _) ⟨rfl, rfl⟩
  · refine j_aload_n hX dX10_fits_14 rfl 0 rfl ?_
    refine j_iconst hX 1 dX10_fits_15 (by decide) ?_
    obtain ⟨u15, h16, hf⟩ := jbind hf
    refine j_callV (st := []) hX (k_X10_throwing (l := l) (D := D) (t := t) (ad := ad) (o := o) m_m m_aside m_saved m_isSaved m_past m_changes m_errorAt m_failed 0 m_input m_inputMany m_fitting m_given m_pairs m_line m_lineMany m_letters m_begins0 m_commands m_commandMany m_place0 m_size0 m_isWrong 1 u15 h16) q1496 q1497 q1951 q15 q1498 (n9 := 1) rfl ⟨by decide +kernel, by decide +kernel⟩ 0 rfl rfl rfl dX10_fits_16 (Nat.le_of_ble_eq_true rfl) ⟨Nat.le_refl _, Nat.le_refl _⟩ (fun w : va_W => w) jFr_id rfl rfl (fun v w hvw => ?_)
    obtain ⟨rfl, rfl⟩ := hvw
    change J X 0 0 (wM t ad o m_m m_aside m_saved m_isSaved m_past m_changes m_errorAt m_failed u15.2 m_input m_inputMany m_fitting m_given m_pairs m_line m_lineMany m_letters m_begins0 m_commands m_commandMany m_place0 m_size0 m_isWrong) 19 [(0, .ref (ad o)), (1, .int a0), (2, .int a1)] [.int u15.1]
    refine j_pop hX dX10_fits_19 rfl ?_
    refine j_goto hX 37 dX10_fits_20 (by decide) ?_
    refine j_aload_n hX dX10_fits_37 rfl 0 rfl ?_
    refine j_get hX dX10_fits_38 inX10 8 q1463 0 rfl rfl (by decide) rfl rfl ?_
    refine j_if_ne hX 61 dX10_fits_41 (by decide) hf (fun c41 hf => ?_) (fun c41 hf => ?_)
    · refine j_iconst hX 0 dX10_fits_61 (by decide) ?_
      cases hf
      exact j_zret hX hE rfl dX10_fits_62 (Nat.le_refl _) (Nat.le_refl _) ⟨rfl, rfl⟩
    · refine j_aload_n hX dX10_fits_44 rfl 0 rfl ?_
      refine j_aload_n hX dX10_fits_45 rfl 0 rfl ?_
      refine j_iload_n hX dX10_fits_46 rfl 1 rfl ?_
      obtain ⟨u17, h18, hf⟩ := jbind hf
      refine j_callV (st := [.ref (ad o)]) hX (k_X10_find (l := l) (D := D) (t := t) (ad := ad) (o := o) m_m m_aside m_saved m_isSaved m_past m_changes m_errorAt m_failed u15.2 m_input m_inputMany m_fitting m_given m_pairs m_line m_lineMany m_letters m_begins0 m_commands m_commandMany m_place0 m_size0 m_isWrong a0 u17 h18) q1564 q1565 q1963 q15 q1566 (n9 := 1) rfl ⟨by decide +kernel, by decide +kernel⟩ 0 rfl rfl rfl dX10_fits_47 (Nat.le_of_ble_eq_true rfl) ⟨Nat.le_refl _, Nat.le_refl _⟩ (fun w : va_W => w) jFr_id rfl rfl (fun v w hvw => ?_)
      obtain ⟨rfl, rfl⟩ := hvw
      change J X 0 0 (wM t ad o m_m m_aside m_saved m_isSaved m_past m_changes m_errorAt m_failed u15.2 m_input m_inputMany m_fitting m_given m_pairs m_line m_lineMany m_letters m_begins0 m_commands m_commandMany m_place0 m_size0 m_isWrong) 50 [(0, .ref (ad o)), (1, .int a0), (2, .int a1)] [.int u17, .ref (ad o)]
      refine j_iload_n hX dX10_fits_50 rfl 2 rfl ?_
      obtain ⟨u19, h20, hf⟩ := jbind hf
      refine j_callV (st := []) hX (k_X10_may (l := l) (D := D) (t := t) (ad := ad) (o := o) m_m m_aside m_saved m_isSaved m_past m_changes m_errorAt m_failed u15.2 m_input m_inputMany m_fitting m_given m_pairs m_line m_lineMany m_letters m_begins0 m_commands m_commandMany m_place0 m_size0 m_isWrong u17 a1 u19 h20) q1580 q1581 q1967 q15 q1582 (n9 := 2) rfl ⟨by decide +kernel, by decide +kernel⟩ 0 rfl rfl rfl dX10_fits_51 (Nat.le_of_ble_eq_true rfl) ⟨Nat.le_refl _, Nat.le_refl _⟩ (fun w : va_W => w) jFr_id rfl rfl (fun v w hvw => ?_)
      obtain ⟨rfl, rfl⟩ := hvw
      change J X 0 0 (wM t ad o m_m m_aside m_saved m_isSaved m_past m_changes m_errorAt m_failed u15.2 m_input m_inputMany m_fitting m_given m_pairs m_line m_lineMany m_letters m_begins0 m_commands m_commandMany m_place0 m_size0 m_isWrong) 54 [(0, .ref (ad o)), (1, .int a0), (2, .int a1)] [.int u19]
      refine j_if_eq hX 61 dX10_fits_54 (by decide) hf (fun c54 hf => ?_) (fun c54 hf => ?_)
      · refine j_iconst hX 0 dX10_fits_61 (by decide) ?_
        cases hf
        exact j_zret hX hE rfl dX10_fits_62 (Nat.le_refl _) (Nat.le_refl _) ⟨rfl, rfl⟩
      · refine j_iconst hX 1 dX10_fits_57 (by decide) ?_
        refine j_goto hX 62 dX10_fits_58 (by decide) ?_
        cases hf
        exact j_zret hX hE rfl dX10_fits_62 (Nat.le_refl _) (Nat.le_refl _) ⟨rfl, rfl⟩
-- HammerDepotModel bestHammer (I)I
def f_X10_bestHammer (m_m : Nat → Int32) (m_thrown : Int32) (a0 : Int32) : Option (Int32 × Int32) :=
  Option.bind (f_X10_find m_m a0) (fun u1 =>
    if u1 = (-1) then
      Option.bind (f_X10_throwing 0 1) (fun u7 =>
        some (u7.1, u7.2))
    else
      Option.bind (f_X10_best m_m u1) (fun u3 =>
        if u3 = (-1) then
          Option.bind (f_X10_throwing 0 1) (fun u5 =>
            some (u5.1, u5.2))
        else
          some (u3, 0)))
set_option maxHeartbeats 4000000 in
set_option maxRecDepth 100000 in
theorem k_X10_bestHammer {l : Launch} {D : va_G} {t : Nat → ClassId} {ad : Nat → Nat} {o : Nat} (m_m : Nat → Int32) (m_aside : Nat → Int32) (m_saved : Nat → Int32) (m_isSaved : Int32) (m_past : Nat → Int32) (m_changes : Int32) (m_errorAt : Int32) (m_failed : Int32) (m_thrown : Int32) (m_input : Nat → Int32) (m_inputMany : Int32) (m_fitting : Nat → Int32) (m_given : Nat → Int32) (m_pairs : Nat → Int32) (m_line : Nat → Int32) (m_lineMany : Int32) (m_letters : Nat → Int32) (m_begins0 : Nat → Int32) (m_commands : Nat → Int32) (m_commandMany : Int32) (m_place0 : Int32) (m_size0 : Int32) (m_isWrong : Int32) (a0 : Int32) (u : Int32 × Int32) (hf : f_X10_bestHammer m_m m_thrown a0 = some u) : cm l D (jT t) yX10_bestHammer cX10_bestHammer 4 (some FieldType.int) { frames := 4, cells := 0, slots := 0, locals := 97 } [.ref (ad o), .int a0] (wM t ad o m_m m_aside m_saved m_isSaved m_past m_changes m_errorAt m_failed m_thrown m_input m_inputMany m_fitting m_given m_pairs m_line m_lineMany m_letters m_begins0 m_commands m_commandMany m_place0 m_size0 m_isWrong) (fun v w => v = (some (.int u.1)) ∧ w = wM t ad o m_m m_aside m_saved m_isSaved m_past m_changes m_errorAt m_failed u.2 m_input m_inputMany m_fitting m_given m_pairs m_line m_lineMany m_letters m_begins0 m_commands m_commandMany m_place0 m_size0 m_isWrong) := by
  refine cm_of RX10 rfl (by decide +kernel) (Nat.le_of_ble_eq_true rfl) (fun X hX hE => ?_)
  change J X 0 0 (wM t ad o m_m m_aside m_saved m_isSaved m_past m_changes m_errorAt m_failed m_thrown m_input m_inputMany m_fitting m_given m_pairs m_line m_lineMany m_letters m_begins0 m_commands m_commandMany m_place0 m_size0 m_isWrong) 0 [(0, .ref (ad o)), (1, .int a0)] []
  unfold f_X10_bestHammer at hf
  refine j_aload_n hX dX10_bestHammer_0 rfl 0 rfl ?_
  refine j_iconst hX 0 dX10_bestHammer_1 (by decide) ?_
  refine j_put hX (wM t ad o m_m m_aside m_saved m_isSaved m_past m_changes m_errorAt m_failed 0 m_input m_inputMany m_fitting m_given m_pairs m_line m_lineMany m_letters m_begins0 m_commands m_commandMany m_place0 m_size0 m_isWrong) tyX10 dX10_bestHammer_2 inX10 tyX10_ok nmX10 8 q1463 0 rfl rfl (by decide) rfl rfl rfl rfl rfl (Nat.le_of_ble_eq_true rfl) rfl ?_
  refine j_aload_n hX dX10_bestHammer_5 rfl 0 rfl ?_
  refine j_iload_n hX dX10_bestHammer_6 rfl 1 rfl ?_
  obtain ⟨u1, h2, hf⟩ := jbind hf
  refine j_callV (st := []) hX (k_X10_find (l := l) (D := D) (t := t) (ad := ad) (o := o) m_m m_aside m_saved m_isSaved m_past m_changes m_errorAt m_failed 0 m_input m_inputMany m_fitting m_given m_pairs m_line m_lineMany m_letters m_begins0 m_commands m_commandMany m_place0 m_size0 m_isWrong a0 u1 h2) q1564 q1565 q1963 q15 q1566 (n9 := 1) rfl ⟨by decide +kernel, by decide +kernel⟩ 0 rfl rfl rfl dX10_bestHammer_7 (Nat.le_of_ble_eq_true rfl) ⟨Nat.le_refl _, Nat.le_refl _⟩ (fun w : va_W => w) jFr_id rfl rfl (fun v w hvw => ?_)
  obtain ⟨rfl, rfl⟩ := hvw
  change J X 0 0 (wM t ad o m_m m_aside m_saved m_isSaved m_past m_changes m_errorAt m_failed 0 m_input m_inputMany m_fitting m_given m_pairs m_line m_lineMany m_letters m_begins0 m_commands m_commandMany m_place0 m_size0 m_isWrong) 10 [(0, .ref (ad o)), (1, .int a0)] [.int u1]
  refine j_istore_n hX [(2, .int u1), (0, .ref (ad o)), (1, .int a0)] dX10_bestHammer_10 rfl (by decide) rfl ?_
  refine j_iload_n hX dX10_bestHammer_11 rfl 0 rfl ?_
  refine j_iconst hX (-1) dX10_bestHammer_12 (by decide) ?_
  refine j_icmp_ne hX 20 dX10_bestHammer_13 (by decide) hf (fun c13 hf => ?_) (fun c13 hf => ?_)
  · refine j_aload_n hX dX10_bestHammer_20 rfl 1 rfl ?_
    refine j_iload_n hX dX10_bestHammer_21 rfl 0 rfl ?_
    obtain ⟨u3, h4, hf⟩ := jbind hf
    refine j_callV (st := []) hX (k_X10_best (l := l) (D := D) (t := t) (ad := ad) (o := o) m_m m_aside m_saved m_isSaved m_past m_changes m_errorAt m_failed 0 m_input m_inputMany m_fitting m_given m_pairs m_line m_lineMany m_letters m_begins0 m_commands m_commandMany m_place0 m_size0 m_isWrong u1 u3 h4) q1577 q1578 q1966 q15 q1579 (n9 := 1) rfl ⟨by decide +kernel, by decide +kernel⟩ 0 rfl rfl rfl dX10_bestHammer_22 (Nat.le_of_ble_eq_true rfl) ⟨Nat.le_refl _, Nat.le_refl _⟩ (fun w : va_W => w) jFr_id rfl rfl (fun v w hvw => ?_)
    obtain ⟨rfl, rfl⟩ := hvw
    change J X 0 0 (wM t ad o m_m m_aside m_saved m_isSaved m_past m_changes m_errorAt m_failed 0 m_input m_inputMany m_fitting m_given m_pairs m_line m_lineMany m_letters m_begins0 m_commands m_commandMany m_place0 m_size0 m_isWrong) 25 [(2, .int u1), (0, .ref (ad o)), (1, .int a0)] [.int u3]
    refine j_istore_n hX [(3, .int u3), (2, .int u1), (0, .ref (ad o)), (1, .int a0)] dX10_bestHammer_25 rfl (by decide) rfl ?_
    refine j_iload_n hX dX10_bestHammer_26 rfl 0 rfl ?_
    refine j_iconst hX (-1) dX10_bestHammer_27 (by decide) ?_
    refine j_icmp_ne hX 39 dX10_bestHammer_28 (by decide) hf (fun c28 hf => ?_) (fun c28 hf => ?_)
    · refine j_iload_n hX dX10_bestHammer_39 rfl 0 rfl ?_
      cases hf
      exact j_iret hX hE dX10_bestHammer_40 (Nat.le_refl _) (Nat.le_refl _) ⟨rfl, rfl⟩
    · refine j_aload_n hX dX10_bestHammer_31 rfl 2 rfl ?_
      refine j_iconst hX 1 dX10_bestHammer_32 (by decide) ?_
      obtain ⟨u5, h6, hf⟩ := jbind hf
      refine j_callV (st := []) hX (k_X10_throwing (l := l) (D := D) (t := t) (ad := ad) (o := o) m_m m_aside m_saved m_isSaved m_past m_changes m_errorAt m_failed 0 m_input m_inputMany m_fitting m_given m_pairs m_line m_lineMany m_letters m_begins0 m_commands m_commandMany m_place0 m_size0 m_isWrong 1 u5 h6) q1496 q1497 q1951 q15 q1498 (n9 := 1) rfl ⟨by decide +kernel, by decide +kernel⟩ 0 rfl rfl rfl dX10_bestHammer_33 (Nat.le_of_ble_eq_true rfl) ⟨Nat.le_refl _, Nat.le_refl _⟩ (fun w : va_W => w) jFr_id rfl rfl (fun v w hvw => ?_)
      obtain ⟨rfl, rfl⟩ := hvw
      change J X 0 0 (wM t ad o m_m m_aside m_saved m_isSaved m_past m_changes m_errorAt m_failed u5.2 m_input m_inputMany m_fitting m_given m_pairs m_line m_lineMany m_letters m_begins0 m_commands m_commandMany m_place0 m_size0 m_isWrong) 36 [(3, .int u3), (2, .int u1), (0, .ref (ad o)), (1, .int a0)] [.int u5.1]
      refine j_goto hX 40 dX10_bestHammer_36 (by decide) ?_
      cases hf
      exact j_iret hX hE dX10_bestHammer_40 (Nat.le_refl _) (Nat.le_refl _) ⟨rfl, rfl⟩
  · refine j_iconst hX (-1) dX10_bestHammer_16 (by decide) ?_
    refine j_goto hX 25 dX10_bestHammer_17 (by decide) ?_
    refine j_istore_n hX [(3, .int (-1)), (2, .int u1), (0, .ref (ad o)), (1, .int a0)] dX10_bestHammer_25 rfl (by decide) rfl ?_
    refine j_iload_n hX dX10_bestHammer_26 rfl 0 rfl ?_
    refine j_iconst hX (-1) dX10_bestHammer_27 (by decide) ?_
    refine j_icmp_ne (α := Unit) (F := none) (G := none) (o := none) hX 39 dX10_bestHammer_28 (by decide) (ite_self none) (fun c28 _ => absurd c28 (by decide)) (fun c28 _ => ?_)
    refine j_aload_n hX dX10_bestHammer_31 rfl 2 rfl ?_
    refine j_iconst hX 1 dX10_bestHammer_32 (by decide) ?_
    obtain ⟨u7, h8, hf⟩ := jbind hf
    refine j_callV (st := []) hX (k_X10_throwing (l := l) (D := D) (t := t) (ad := ad) (o := o) m_m m_aside m_saved m_isSaved m_past m_changes m_errorAt m_failed 0 m_input m_inputMany m_fitting m_given m_pairs m_line m_lineMany m_letters m_begins0 m_commands m_commandMany m_place0 m_size0 m_isWrong 1 u7 h8) q1496 q1497 q1951 q15 q1498 (n9 := 1) rfl ⟨by decide +kernel, by decide +kernel⟩ 0 rfl rfl rfl dX10_bestHammer_33 (Nat.le_of_ble_eq_true rfl) ⟨Nat.le_refl _, Nat.le_refl _⟩ (fun w : va_W => w) jFr_id rfl rfl (fun v w hvw => ?_)
    obtain ⟨rfl, rfl⟩ := hvw
    change J X 0 0 (wM t ad o m_m m_aside m_saved m_isSaved m_past m_changes m_errorAt m_failed u7.2 m_input m_inputMany m_fitting m_given m_pairs m_line m_lineMany m_letters m_begins0 m_commands m_commandMany m_place0 m_size0 m_isWrong) 36 [(3, .int (-1)), (2, .int u1), (0, .ref (ad o)), (1, .int a0)] [.int u7.1]
    refine j_goto hX 40 dX10_bestHammer_36 (by decide) ?_
    cases hf
    exact j_iret hX hE dX10_bestHammer_40 (Nat.le_refl _) (Nat.le_refl _) ⟨rfl, rfl⟩
-- HammerDepotModel mostGrants ()I
def f_X10_mostGrants (m_m : Nat → Int32) (m_thrown : Int32) (m_fitting : Nat → Int32) : Option (Int32 × Int32 × (Nat → Int32)) :=
  Option.bind (f_X10_mostNow m_m m_fitting) (fun u1 =>
    some (u1.1, 0, u1.2))
set_option maxHeartbeats 4000000 in
set_option maxRecDepth 100000 in
theorem k_X10_mostGrants {l : Launch} {D : va_G} {t : Nat → ClassId} {ad : Nat → Nat} {o : Nat} (m_m : Nat → Int32) (m_aside : Nat → Int32) (m_saved : Nat → Int32) (m_isSaved : Int32) (m_past : Nat → Int32) (m_changes : Int32) (m_errorAt : Int32) (m_failed : Int32) (m_thrown : Int32) (m_input : Nat → Int32) (m_inputMany : Int32) (m_fitting : Nat → Int32) (m_given : Nat → Int32) (m_pairs : Nat → Int32) (m_line : Nat → Int32) (m_lineMany : Int32) (m_letters : Nat → Int32) (m_begins0 : Nat → Int32) (m_commands : Nat → Int32) (m_commandMany : Int32) (m_place0 : Int32) (m_size0 : Int32) (m_isWrong : Int32)  (u : Int32 × Int32 × (Nat → Int32)) (hf : f_X10_mostGrants m_m m_thrown m_fitting = some u) : cm l D (jT t) yX10_mostGrants cX10_mostGrants 1 (some FieldType.int) { frames := 5, cells := 0, slots := 0, locals := 114 } [.ref (ad o)] (wM t ad o m_m m_aside m_saved m_isSaved m_past m_changes m_errorAt m_failed m_thrown m_input m_inputMany m_fitting m_given m_pairs m_line m_lineMany m_letters m_begins0 m_commands m_commandMany m_place0 m_size0 m_isWrong) (fun v w => v = (some (.int u.1)) ∧ w = wM t ad o m_m m_aside m_saved m_isSaved m_past m_changes m_errorAt m_failed u.2.1 m_input m_inputMany u.2.2 m_given m_pairs m_line m_lineMany m_letters m_begins0 m_commands m_commandMany m_place0 m_size0 m_isWrong) := by
  refine cm_of RX10 rfl (by decide +kernel) (Nat.le_of_ble_eq_true rfl) (fun X hX hE => ?_)
  change J X 0 0 (wM t ad o m_m m_aside m_saved m_isSaved m_past m_changes m_errorAt m_failed m_thrown m_input m_inputMany m_fitting m_given m_pairs m_line m_lineMany m_letters m_begins0 m_commands m_commandMany m_place0 m_size0 m_isWrong) 0 [(0, .ref (ad o))] []
  unfold f_X10_mostGrants at hf
  refine j_aload_n hX dX10_mostGrants_0 rfl 0 rfl ?_
  refine j_iconst hX 0 dX10_mostGrants_1 (by decide) ?_
  refine j_put hX (wM t ad o m_m m_aside m_saved m_isSaved m_past m_changes m_errorAt m_failed 0 m_input m_inputMany m_fitting m_given m_pairs m_line m_lineMany m_letters m_begins0 m_commands m_commandMany m_place0 m_size0 m_isWrong) tyX10 dX10_mostGrants_2 inX10 tyX10_ok nmX10 8 q1463 0 rfl rfl (by decide) rfl rfl rfl rfl rfl (Nat.le_of_ble_eq_true rfl) rfl ?_
  refine j_aload_n hX dX10_mostGrants_5 rfl 0 rfl ?_
  obtain ⟨u1, h2, hf⟩ := jbind hf
  refine j_callV (st := []) hX (k_X10_mostNow (l := l) (D := D) (t := t) (ad := ad) (o := o) m_m m_aside m_saved m_isSaved m_past m_changes m_errorAt m_failed 0 m_input m_inputMany m_fitting m_given m_pairs m_line m_lineMany m_letters m_begins0 m_commands m_commandMany m_place0 m_size0 m_isWrong  u1 h2) q1600 q1601 q1971 q15 q1602 (n9 := 0) rfl ⟨by decide +kernel, by decide +kernel⟩ 0 rfl rfl rfl dX10_mostGrants_6 (Nat.le_of_ble_eq_true rfl) ⟨Nat.le_refl _, Nat.le_refl _⟩ (fun w : va_W => w) jFr_id rfl rfl (fun v w hvw => ?_)
  obtain ⟨rfl, rfl⟩ := hvw
  change J X 0 0 (wM t ad o m_m m_aside m_saved m_isSaved m_past m_changes m_errorAt m_failed 0 m_input m_inputMany u1.2 m_given m_pairs m_line m_lineMany m_letters m_begins0 m_commands m_commandMany m_place0 m_size0 m_isWrong) 9 [(0, .ref (ad o))] [.int u1.1]
  cases hf
  exact j_iret hX hE dX10_mostGrants_9 (Nat.le_refl _) (Nat.le_refl _) ⟨rfl, rfl⟩
-- HammerDepotModel mostGrantsBySets ()I
def f_X10_mostGrantsBySets (m_m : Nat → Int32) (m_thrown : Int32) (m_fitting : Nat → Int32) : Option (Int32 × Int32 × (Nat → Int32)) :=
  Option.bind (f_X10_mostGrants m_m m_thrown m_fitting) (fun u1 =>
    some (u1.1, u1.2.1, u1.2.2))
set_option maxHeartbeats 4000000 in
set_option maxRecDepth 100000 in
theorem k_X10_mostGrantsBySets {l : Launch} {D : va_G} {t : Nat → ClassId} {ad : Nat → Nat} {o : Nat} (m_m : Nat → Int32) (m_aside : Nat → Int32) (m_saved : Nat → Int32) (m_isSaved : Int32) (m_past : Nat → Int32) (m_changes : Int32) (m_errorAt : Int32) (m_failed : Int32) (m_thrown : Int32) (m_input : Nat → Int32) (m_inputMany : Int32) (m_fitting : Nat → Int32) (m_given : Nat → Int32) (m_pairs : Nat → Int32) (m_line : Nat → Int32) (m_lineMany : Int32) (m_letters : Nat → Int32) (m_begins0 : Nat → Int32) (m_commands : Nat → Int32) (m_commandMany : Int32) (m_place0 : Int32) (m_size0 : Int32) (m_isWrong : Int32)  (u : Int32 × Int32 × (Nat → Int32)) (hf : f_X10_mostGrantsBySets m_m m_thrown m_fitting = some u) : cm l D (jT t) yX10_mostGrantsBySets cX10_mostGrantsBySets 1 (some FieldType.int) { frames := 6, cells := 0, slots := 0, locals := 134 } [.ref (ad o)] (wM t ad o m_m m_aside m_saved m_isSaved m_past m_changes m_errorAt m_failed m_thrown m_input m_inputMany m_fitting m_given m_pairs m_line m_lineMany m_letters m_begins0 m_commands m_commandMany m_place0 m_size0 m_isWrong) (fun v w => v = (some (.int u.1)) ∧ w = wM t ad o m_m m_aside m_saved m_isSaved m_past m_changes m_errorAt m_failed u.2.1 m_input m_inputMany u.2.2 m_given m_pairs m_line m_lineMany m_letters m_begins0 m_commands m_commandMany m_place0 m_size0 m_isWrong) := by
  refine cm_of RX10 rfl (by decide +kernel) (Nat.le_of_ble_eq_true rfl) (fun X hX hE => ?_)
  change J X 0 0 (wM t ad o m_m m_aside m_saved m_isSaved m_past m_changes m_errorAt m_failed m_thrown m_input m_inputMany m_fitting m_given m_pairs m_line m_lineMany m_letters m_begins0 m_commands m_commandMany m_place0 m_size0 m_isWrong) 0 [(0, .ref (ad o))] []
  unfold f_X10_mostGrantsBySets at hf
  refine j_aload_n hX dX10_mostGrantsBySets_0 rfl 0 rfl ?_
  obtain ⟨u1, h2, hf⟩ := jbind hf
  refine j_callV (st := []) hX (k_X10_mostGrants (l := l) (D := D) (t := t) (ad := ad) (o := o) m_m m_aside m_saved m_isSaved m_past m_changes m_errorAt m_failed m_thrown m_input m_inputMany m_fitting m_given m_pairs m_line m_lineMany m_letters m_begins0 m_commands m_commandMany m_place0 m_size0 m_isWrong  u1 h2) q1723 q1716 q1717 q15 q1718 (n9 := 0) rfl ⟨by decide +kernel, by decide +kernel⟩ 0 rfl rfl rfl dX10_mostGrantsBySets_1 (Nat.le_of_ble_eq_true rfl) ⟨Nat.le_refl _, Nat.le_refl _⟩ (fun w : va_W => w) jFr_id rfl rfl (fun v w hvw => ?_)
  obtain ⟨rfl, rfl⟩ := hvw
  change J X 0 0 (wM t ad o m_m m_aside m_saved m_isSaved m_past m_changes m_errorAt m_failed u1.2.1 m_input m_inputMany u1.2.2 m_given m_pairs m_line m_lineMany m_letters m_begins0 m_commands m_commandMany m_place0 m_size0 m_isWrong) 4 [(0, .ref (ad o))] [.int u1.1]
  cases hf
  exact j_iret hX hE dX10_mostGrantsBySets_4 (Nat.le_refl _) (Nat.le_refl _) ⟨rfl, rfl⟩
-- HammerDepotModel loud (II)I
def f_X10_loud (a0 : Int32) (a1 : Int32) : Option (Int32) :=
  if (a1 - a0) = 0 then
    some 8
  else
    if (a1 - a0) = 12 then
      some 4
    else
      if (a1 - a0) = 19 then
        some 2
      else
        if (a1 - a0) = 24 then
          some 1
        else
          some 0
set_option maxHeartbeats 4000000 in
set_option maxRecDepth 100000 in
theorem k_X10_loud {l : Launch} {D : va_G} {t : Nat → ClassId} {ad : Nat → Nat}  (a0 : Int32) (a1 : Int32) (u : Int32) (hf : f_X10_loud a0 a1 = some u) : cm l D (jT t) yX10_loud cX10_loud 3 (some FieldType.int) { frames := 0, cells := 0, slots := 0, locals := 0 } [.int a0, .int a1] ([]) (fun v w => v = (some (.int u)) ∧ w = []) := by
  refine cm_of RX10 rfl (by decide +kernel) (Nat.le_of_ble_eq_true rfl) (fun X hX hE => ?_)
  change J X 0 0 ([]) 0 [(0, .int a0), (1, .int a1)] []
  unfold f_X10_loud at hf
  refine j_iload_n hX dX10_loud_0 rfl 1 rfl ?_
  refine j_iload_n hX dX10_loud_1 rfl 0 rfl ?_
  refine j_isub hX dX10_loud_2 ?_
  refine j_istore_n hX [(2, .int (a1 - a0)), (0, .int a0), (1, .int a1)] dX10_loud_3 rfl (by decide) rfl ?_
  refine j_iload_n hX dX10_loud_4 rfl 0 rfl ?_
  refine j_if_ne hX 13 dX10_loud_5 (by decide) hf (fun c5 hf => ?_) (fun c5 hf => ?_)
  · refine j_iload_n hX dX10_loud_13 rfl 0 rfl ?_
    refine j_bipush hX 12 dX10_loud_14 (by decide) ?_
    refine j_icmp_ne hX 23 dX10_loud_16 (by decide) hf (fun c16 hf => ?_) (fun c16 hf => ?_)
    · refine j_iload_n hX dX10_loud_23 rfl 0 rfl ?_
      refine j_bipush hX 19 dX10_loud_24 (by decide) ?_
      refine j_icmp_ne hX 33 dX10_loud_26 (by decide) hf (fun c26 hf => ?_) (fun c26 hf => ?_)
      · refine j_iload_n hX dX10_loud_33 rfl 0 rfl ?_
        refine j_bipush hX 24 dX10_loud_34 (by decide) ?_
        refine j_icmp_ne hX 43 dX10_loud_36 (by decide) hf (fun c36 hf => ?_) (fun c36 hf => ?_)
        · refine j_iconst hX 0 dX10_loud_43 (by decide) ?_
          cases hf
          exact j_iret hX hE dX10_loud_44 (Nat.le_refl _) (Nat.le_refl _) ⟨rfl, rfl⟩
        · refine j_iconst hX 1 dX10_loud_39 (by decide) ?_
          refine j_goto hX 44 dX10_loud_40 (by decide) ?_
          cases hf
          exact j_iret hX hE dX10_loud_44 (Nat.le_refl _) (Nat.le_refl _) ⟨rfl, rfl⟩
      · refine j_iconst hX 2 dX10_loud_29 (by decide) ?_
        refine j_goto hX 44 dX10_loud_30 (by decide) ?_
        cases hf
        exact j_iret hX hE dX10_loud_44 (Nat.le_refl _) (Nat.le_refl _) ⟨rfl, rfl⟩
    · refine j_iconst hX 4 dX10_loud_19 (by decide) ?_
      refine j_goto hX 44 dX10_loud_20 (by decide) ?_
      cases hf
      exact j_iret hX hE dX10_loud_44 (Nat.le_refl _) (Nat.le_refl _) ⟨rfl, rfl⟩
  · refine j_bipush hX 8 dX10_loud_8 (by decide) ?_
    refine j_goto hX 44 dX10_loud_10 (by decide) ?_
    cases hf
    exact j_iret hX hE dX10_loud_44 (Nat.le_refl _) (Nat.le_refl _) ⟨rfl, rfl⟩
-- HammerDepotModel loudIn (II)I
def f_X10_loudIn_L5 (m_m : Nat → Int32) (x1 : Int32) (x2 : Int32) : Nat → Int32 → Int32 → Option (Int32 × Int32)
  | 0, _, _ => none
  | jn + 1, x4, x3 =>
    if jin 0 2048 = true then
      if (m_m (0 : Int32).toNatClampNeg) ≤ x4 then
        some (x4, x3)
      else
        Option.bind (f_X10_hammerOf x4) (fun u1 =>
          if jin (u1 + 2) 2048 = true then
            if (m_m (u1 + 2).toNatClampNeg) = x1 then
              Option.bind (f_X10_hammerOf x4) (fun u3 =>
                if jin u3 2048 = true then
                  Option.bind (f_X10_loud (m_m (u3).toNatClampNeg) x2) (fun u5 =>
                    f_X10_loudIn_L5 m_m x1 x2 jn (x4 + 1) (x3 + u5))
                else none)
            else
              f_X10_loudIn_L5 m_m x1 x2 jn (x4 + 1) (x3 + 0)
          else none)
    else none
def f_X10_loudIn (m_m : Nat → Int32) (a0 : Int32) (a1 : Int32) : Option (Int32) :=
  Option.bind (f_X10_loudIn_L5 m_m a0 a1 jFU 0 0) (fun s8 =>
    some s8.2)
set_option maxHeartbeats 4000000 in
set_option maxRecDepth 100000 in
theorem k_X10_loudIn_L5 {l : Launch} {D : va_G} {t : Nat → ClassId} {ad : Nat → Nat} {o : Nat} (m_m : Nat → Int32) (x1 : Int32) (x2 : Int32) (m_aside : Nat → Int32) (m_saved : Nat → Int32) (m_isSaved : Int32) (m_past : Nat → Int32) (m_changes : Int32) (m_errorAt : Int32) (m_failed : Int32) (m_thrown : Int32) (m_input : Nat → Int32) (m_inputMany : Int32) (m_fitting : Nat → Int32) (m_given : Nat → Int32) (m_pairs : Nat → Int32) (m_line : Nat → Int32) (m_lineMany : Int32) (m_letters : Nat → Int32) (m_begins0 : Nat → Int32) (m_commands : Nat → Int32) (m_commandMany : Int32) (m_place0 : Int32) (m_size0 : Int32) (m_isWrong : Int32) {X : jX} (hX : jOK X l D (jT t) cX10_loudIn RX10 (some FieldType.int) { frames := 1, cells := 0, slots := 0, locals := 22 } 5) :
    ∀ (jn : Nat) (x4 : Int32) (x3 : Int32) (u : Int32 × Int32) (hf : f_X10_loudIn_L5 m_m x1 x2 jn x4 x3 = some u) (kx : ∀ s : Int32 × Int32, u = s → J X 0 0 (wM t ad o m_m m_aside m_saved m_isSaved m_past m_changes m_errorAt m_failed m_thrown m_input m_inputMany m_fitting m_given m_pairs m_line m_lineMany m_letters m_begins0 m_commands m_commandMany m_place0 m_size0 m_isWrong) 59 [(4, .int s.1), (3, .int s.2), (0, .ref (ad o)), (1, .int x1), (2, .int x2)] []), J X 0 0 (wM t ad o m_m m_aside m_saved m_isSaved m_past m_changes m_errorAt m_failed m_thrown m_input m_inputMany m_fitting m_given m_pairs m_line m_lineMany m_letters m_begins0 m_commands m_commandMany m_place0 m_size0 m_isWrong) 5 [(4, .int x4), (3, .int x3), (0, .ref (ad o)), (1, .int x1), (2, .int x2)] [] := by
  intro jn
  induction jn with
  | zero => intro x4 x3 u hf; cases (show (none : Option (Int32 × Int32)) = some u from hf)
  | succ jn ih =>
    intro x4 x3 u hf kx
    unfold f_X10_loudIn_L5 at hf
    refine j_iload hX dX10_loudIn_5 0 rfl ?_
    refine j_aload_n hX dX10_loudIn_7 rfl 2 rfl ?_
    refine j_get hX dX10_loudIn_8 inX10 0 q1455 0 rfl rfl (by decide) rfl rfl ?_
    refine j_iconst hX 0 dX10_loudIn_11 (by decide) ?_
    refine j_iald hX dX10_loudIn_12 1 0 rfl rfl hf (fun c12 hf => ?_)
    refine j_icmp_ge hX 59 dX10_loudIn_13 (by decide) hf (fun c13 hf => ?_) (fun c13 hf => ?_)
    · cases hf
      exact kx _ rfl
    · refine j_iload_n hX dX10_loudIn_16 rfl 1 rfl ?_
      refine j_aload_n hX dX10_loudIn_17 rfl 2 rfl ?_
      refine j_get hX dX10_loudIn_18 inX10 0 q1455 0 rfl rfl (by decide) rfl rfl ?_
      refine j_iload hX dX10_loudIn_21 0 rfl ?_
      obtain ⟨u1, h2, hf⟩ := jbind hf
      refine j_callS (st := [.ref (ad (o + 1)), .int x3]) hX (k_X10_hammerOf (l := l) (D := D) (t := t) (ad := ad)  x4 u1 h2) q1509 q1510 q15 q1511 (n9 := 1) rfl ⟨by decide +kernel, by decide +kernel⟩ dX10_loudIn_23 (Nat.le_of_ble_eq_true rfl) ⟨Nat.le_refl _, Nat.le_refl _⟩ (fun w : va_W => w ++ (wM t ad o m_m m_aside m_saved m_isSaved m_past m_changes m_errorAt m_failed m_thrown m_input m_inputMany m_fitting m_given m_pairs m_line m_lineMany m_letters m_begins0 m_commands m_commandMany m_place0 m_size0 m_isWrong)) (jFr_r (wM t ad o m_m m_aside m_saved m_isSaved m_past m_changes m_errorAt m_failed m_thrown m_input m_inputMany m_fitting m_given m_pairs m_line m_lineMany m_letters m_begins0 m_commands m_commandMany m_place0 m_size0 m_isWrong)) rfl rfl (fun v w hvw => ?_)
      obtain ⟨rfl, rfl⟩ := hvw
      change J X 0 0 (wM t ad o m_m m_aside m_saved m_isSaved m_past m_changes m_errorAt m_failed m_thrown m_input m_inputMany m_fitting m_given m_pairs m_line m_lineMany m_letters m_begins0 m_commands m_commandMany m_place0 m_size0 m_isWrong) 26 [(4, .int x4), (3, .int x3), (0, .ref (ad o)), (1, .int x1), (2, .int x2)] [.int u1, .ref (ad (o + 1)), .int x3]
      refine j_iconst hX 2 dX10_loudIn_26 (by decide) ?_
      refine j_iadd hX dX10_loudIn_27 ?_
      refine j_iald hX dX10_loudIn_28 1 0 rfl rfl hf (fun c28 hf => ?_)
      refine j_iload_n hX dX10_loudIn_29 rfl 3 rfl ?_
      refine j_icmp_ne hX 50 dX10_loudIn_30 (by decide) hf (fun c30 hf => ?_) (fun c30 hf => ?_)
      · refine j_iconst hX 0 dX10_loudIn_50 (by decide) ?_
        refine j_iadd hX dX10_loudIn_51 ?_
        refine j_istore_n hX [(3, .int (x3 + 0)), (4, .int x4), (0, .ref (ad o)), (1, .int x1), (2, .int x2)] dX10_loudIn_52 rfl (by decide) rfl ?_
        refine j_iinc hX (x4 + 1) [(4, .int (x4 + 1)), (3, .int (x3 + 0)), (0, .ref (ad o)), (1, .int x1), (2, .int x2)] dX10_loudIn_53 1 rfl rfl (by decide) rfl ?_
        refine j_goto hX 5 dX10_loudIn_56 (by decide) ?_
        exact ih (x4 + 1) (x3 + 0) u hf kx
      · refine j_aload_n hX dX10_loudIn_33 rfl 2 rfl ?_
        refine j_get hX dX10_loudIn_34 inX10 0 q1455 0 rfl rfl (by decide) rfl rfl ?_
        refine j_iload hX dX10_loudIn_37 0 rfl ?_
        obtain ⟨u3, h4, hf⟩ := jbind hf
        refine j_callS (st := [.ref (ad (o + 1)), .int x3]) hX (k_X10_hammerOf (l := l) (D := D) (t := t) (ad := ad)  x4 u3 h4) q1509 q1510 q15 q1511 (n9 := 1) rfl ⟨by decide +kernel, by decide +kernel⟩ dX10_loudIn_39 (Nat.le_of_ble_eq_true rfl) ⟨Nat.le_refl _, Nat.le_refl _⟩ (fun w : va_W => w ++ (wM t ad o m_m m_aside m_saved m_isSaved m_past m_changes m_errorAt m_failed m_thrown m_input m_inputMany m_fitting m_given m_pairs m_line m_lineMany m_letters m_begins0 m_commands m_commandMany m_place0 m_size0 m_isWrong)) (jFr_r (wM t ad o m_m m_aside m_saved m_isSaved m_past m_changes m_errorAt m_failed m_thrown m_input m_inputMany m_fitting m_given m_pairs m_line m_lineMany m_letters m_begins0 m_commands m_commandMany m_place0 m_size0 m_isWrong)) rfl rfl (fun v w hvw => ?_)
        obtain ⟨rfl, rfl⟩ := hvw
        change J X 0 0 (wM t ad o m_m m_aside m_saved m_isSaved m_past m_changes m_errorAt m_failed m_thrown m_input m_inputMany m_fitting m_given m_pairs m_line m_lineMany m_letters m_begins0 m_commands m_commandMany m_place0 m_size0 m_isWrong) 42 [(4, .int x4), (3, .int x3), (0, .ref (ad o)), (1, .int x1), (2, .int x2)] [.int u3, .ref (ad (o + 1)), .int x3]
        refine j_iald hX dX10_loudIn_42 1 0 rfl rfl hf (fun c42 hf => ?_)
        refine j_iload_n hX dX10_loudIn_43 rfl 4 rfl ?_
        obtain ⟨u5, h6, hf⟩ := jbind hf
        refine j_callS (st := [.int x3]) hX (k_X10_loud (l := l) (D := D) (t := t) (ad := ad)  (m_m (u3).toNatClampNeg) x2 u5 h6) q1732 q1733 q15 q1734 (n9 := 2) rfl ⟨by decide +kernel, by decide +kernel⟩ dX10_loudIn_44 (Nat.le_of_ble_eq_true rfl) ⟨Nat.le_refl _, Nat.le_refl _⟩ (fun w : va_W => w ++ (wM t ad o m_m m_aside m_saved m_isSaved m_past m_changes m_errorAt m_failed m_thrown m_input m_inputMany m_fitting m_given m_pairs m_line m_lineMany m_letters m_begins0 m_commands m_commandMany m_place0 m_size0 m_isWrong)) (jFr_r (wM t ad o m_m m_aside m_saved m_isSaved m_past m_changes m_errorAt m_failed m_thrown m_input m_inputMany m_fitting m_given m_pairs m_line m_lineMany m_letters m_begins0 m_commands m_commandMany m_place0 m_size0 m_isWrong)) rfl rfl (fun v w hvw => ?_)
        obtain ⟨rfl, rfl⟩ := hvw
        change J X 0 0 (wM t ad o m_m m_aside m_saved m_isSaved m_past m_changes m_errorAt m_failed m_thrown m_input m_inputMany m_fitting m_given m_pairs m_line m_lineMany m_letters m_begins0 m_commands m_commandMany m_place0 m_size0 m_isWrong) 47 [(4, .int x4), (3, .int x3), (0, .ref (ad o)), (1, .int x1), (2, .int x2)] [.int u5, .int x3]
        refine j_goto hX 51 dX10_loudIn_47 (by decide) ?_
        refine j_iadd hX dX10_loudIn_51 ?_
        refine j_istore_n hX [(3, .int (x3 + u5)), (4, .int x4), (0, .ref (ad o)), (1, .int x1), (2, .int x2)] dX10_loudIn_52 rfl (by decide) rfl ?_
        refine j_iinc hX (x4 + 1) [(4, .int (x4 + 1)), (3, .int (x3 + u5)), (0, .ref (ad o)), (1, .int x1), (2, .int x2)] dX10_loudIn_53 1 rfl rfl (by decide) rfl ?_
        refine j_goto hX 5 dX10_loudIn_56 (by decide) ?_
        exact ih (x4 + 1) (x3 + u5) u hf kx
set_option maxHeartbeats 4000000 in
set_option maxRecDepth 100000 in
theorem k_X10_loudIn {l : Launch} {D : va_G} {t : Nat → ClassId} {ad : Nat → Nat} {o : Nat} (m_m : Nat → Int32) (m_aside : Nat → Int32) (m_saved : Nat → Int32) (m_isSaved : Int32) (m_past : Nat → Int32) (m_changes : Int32) (m_errorAt : Int32) (m_failed : Int32) (m_thrown : Int32) (m_input : Nat → Int32) (m_inputMany : Int32) (m_fitting : Nat → Int32) (m_given : Nat → Int32) (m_pairs : Nat → Int32) (m_line : Nat → Int32) (m_lineMany : Int32) (m_letters : Nat → Int32) (m_begins0 : Nat → Int32) (m_commands : Nat → Int32) (m_commandMany : Int32) (m_place0 : Int32) (m_size0 : Int32) (m_isWrong : Int32) (a0 : Int32) (a1 : Int32) (u : Int32) (hf : f_X10_loudIn m_m a0 a1 = some u) : cm l D (jT t) yX10_loudIn cX10_loudIn 5 (some FieldType.int) { frames := 1, cells := 0, slots := 0, locals := 22 } [.ref (ad o), .int a0, .int a1] (wM t ad o m_m m_aside m_saved m_isSaved m_past m_changes m_errorAt m_failed m_thrown m_input m_inputMany m_fitting m_given m_pairs m_line m_lineMany m_letters m_begins0 m_commands m_commandMany m_place0 m_size0 m_isWrong) (fun v w => v = (some (.int u)) ∧ w = wM t ad o m_m m_aside m_saved m_isSaved m_past m_changes m_errorAt m_failed m_thrown m_input m_inputMany m_fitting m_given m_pairs m_line m_lineMany m_letters m_begins0 m_commands m_commandMany m_place0 m_size0 m_isWrong) := by
  refine cm_of RX10 rfl (by decide +kernel) (Nat.le_of_ble_eq_true rfl) (fun X hX hE => ?_)
  change J X 0 0 (wM t ad o m_m m_aside m_saved m_isSaved m_past m_changes m_errorAt m_failed m_thrown m_input m_inputMany m_fitting m_given m_pairs m_line m_lineMany m_letters m_begins0 m_commands m_commandMany m_place0 m_size0 m_isWrong) 0 [(0, .ref (ad o)), (1, .int a0), (2, .int a1)] []
  unfold f_X10_loudIn at hf
  refine j_iconst hX 0 dX10_loudIn_0 (by decide) ?_
  refine j_istore_n hX [(3, .int 0), (0, .ref (ad o)), (1, .int a0), (2, .int a1)] dX10_loudIn_1 rfl (by decide) rfl ?_
  refine j_iconst hX 0 dX10_loudIn_2 (by decide) ?_
  refine j_istore hX [(4, .int 0), (3, .int 0), (0, .ref (ad o)), (1, .int a0), (2, .int a1)] dX10_loudIn_3 (by decide) rfl ?_
  obtain ⟨s8, h9, hf⟩ := jbind hf
  refine k_X10_loudIn_L5 (ad := ad) m_m a0 a1 m_aside m_saved m_isSaved m_past m_changes m_errorAt m_failed m_thrown m_input m_inputMany m_fitting m_given m_pairs m_line m_lineMany m_letters m_begins0 m_commands m_commandMany m_place0 m_size0 m_isWrong hX jFU 0 0 s8 h9 (fun s80 es8 => ?_)
  subst es8
  refine j_iload_n hX dX10_loudIn_59 rfl 1 rfl ?_
  cases hf
  exact j_iret hX hE dX10_loudIn_60 (Nat.le_refl _) (Nat.le_refl _) ⟨rfl, rfl⟩
-- HammerDepotModel loudness (II)I
def f_X10_loudness (m_m : Nat → Int32) (m_thrown : Int32) (a0 : Int32) (a1 : Int32) : Option (Int32 × Int32) :=
  Option.bind (f_X10_isRack a0) (fun u1 =>
    if u1 = 0 then
      Option.bind (f_X10_throwing 0 1) (fun u7 =>
        some (u7.1, u7.2))
    else
      Option.bind (f_X10_in ((a1).toInt64) (0 : Int64) (84 : Int64)) (fun u3 =>
        if u3 = 0 then
          some (0, 0)
        else
          Option.bind (f_X10_loudIn m_m a0 a1) (fun u5 =>
            some (u5, 0))))
set_option maxHeartbeats 4000000 in
set_option maxRecDepth 100000 in
theorem k_X10_loudness {l : Launch} {D : va_G} {t : Nat → ClassId} {ad : Nat → Nat} {o : Nat} (m_m : Nat → Int32) (m_aside : Nat → Int32) (m_saved : Nat → Int32) (m_isSaved : Int32) (m_past : Nat → Int32) (m_changes : Int32) (m_errorAt : Int32) (m_failed : Int32) (m_thrown : Int32) (m_input : Nat → Int32) (m_inputMany : Int32) (m_fitting : Nat → Int32) (m_given : Nat → Int32) (m_pairs : Nat → Int32) (m_line : Nat → Int32) (m_lineMany : Int32) (m_letters : Nat → Int32) (m_begins0 : Nat → Int32) (m_commands : Nat → Int32) (m_commandMany : Int32) (m_place0 : Int32) (m_size0 : Int32) (m_isWrong : Int32) (a0 : Int32) (a1 : Int32) (u : Int32 × Int32) (hf : f_X10_loudness m_m m_thrown a0 a1 = some u) : cm l D (jT t) yX10_loudness cX10_loudness 3 (some FieldType.int) { frames := 2, cells := 0, slots := 0, locals := 46 } [.ref (ad o), .int a0, .int a1] (wM t ad o m_m m_aside m_saved m_isSaved m_past m_changes m_errorAt m_failed m_thrown m_input m_inputMany m_fitting m_given m_pairs m_line m_lineMany m_letters m_begins0 m_commands m_commandMany m_place0 m_size0 m_isWrong) (fun v w => v = (some (.int u.1)) ∧ w = wM t ad o m_m m_aside m_saved m_isSaved m_past m_changes m_errorAt m_failed u.2 m_input m_inputMany m_fitting m_given m_pairs m_line m_lineMany m_letters m_begins0 m_commands m_commandMany m_place0 m_size0 m_isWrong) := by
  refine cm_of RX10 rfl (by decide +kernel) (Nat.le_of_ble_eq_true rfl) (fun X hX hE => ?_)
  change J X 0 0 (wM t ad o m_m m_aside m_saved m_isSaved m_past m_changes m_errorAt m_failed m_thrown m_input m_inputMany m_fitting m_given m_pairs m_line m_lineMany m_letters m_begins0 m_commands m_commandMany m_place0 m_size0 m_isWrong) 0 [(0, .ref (ad o)), (1, .int a0), (2, .int a1)] []
  unfold f_X10_loudness at hf
  refine j_aload_n hX dX10_loudness_0 rfl 0 rfl ?_
  refine j_iconst hX 0 dX10_loudness_1 (by decide) ?_
  refine j_put hX (wM t ad o m_m m_aside m_saved m_isSaved m_past m_changes m_errorAt m_failed 0 m_input m_inputMany m_fitting m_given m_pairs m_line m_lineMany m_letters m_begins0 m_commands m_commandMany m_place0 m_size0 m_isWrong) tyX10 dX10_loudness_2 inX10 tyX10_ok nmX10 8 q1463 0 rfl rfl (by decide) rfl rfl rfl rfl rfl (Nat.le_of_ble_eq_true rfl) rfl ?_
  refine j_iload_n hX dX10_loudness_5 rfl 1 rfl ?_
  obtain ⟨u1, h2, hf⟩ := jbind hf
  refine j_callS (st := []) hX (k_X10_isRack (l := l) (D := D) (t := t) (ad := ad)  a0 u1 h2) q1499 q1500 q15 q1501 (n9 := 1) rfl ⟨by decide +kernel, by decide +kernel⟩ dX10_loudness_6 (Nat.le_of_ble_eq_true rfl) ⟨Nat.le_refl _, Nat.le_refl _⟩ (fun w : va_W => w ++ (wM t ad o m_m m_aside m_saved m_isSaved m_past m_changes m_errorAt m_failed 0 m_input m_inputMany m_fitting m_given m_pairs m_line m_lineMany m_letters m_begins0 m_commands m_commandMany m_place0 m_size0 m_isWrong)) (jFr_r (wM t ad o m_m m_aside m_saved m_isSaved m_past m_changes m_errorAt m_failed 0 m_input m_inputMany m_fitting m_given m_pairs m_line m_lineMany m_letters m_begins0 m_commands m_commandMany m_place0 m_size0 m_isWrong)) rfl rfl (fun v w hvw => ?_)
  obtain ⟨rfl, rfl⟩ := hvw
  change J X 0 0 (wM t ad o m_m m_aside m_saved m_isSaved m_past m_changes m_errorAt m_failed 0 m_input m_inputMany m_fitting m_given m_pairs m_line m_lineMany m_letters m_begins0 m_commands m_commandMany m_place0 m_size0 m_isWrong) 9 [(0, .ref (ad o)), (1, .int a0), (2, .int a1)] [.int u1]
  refine j_if_ne hX 20 dX10_loudness_9 (by decide) hf (fun c9 hf => ?_) (fun c9 hf => ?_)
  · refine j_iload_n hX dX10_loudness_20 rfl 2 rfl ?_
    refine j_i2l hX dX10_loudness_21 ?_
    refine j_lconst hX 0 dX10_loudness_22 (by decide) ?_
    refine j_ldc2 hX q1728 dX10_loudness_23 ?_
    obtain ⟨u3, h4, hf⟩ := jbind hf
    refine j_callS (st := []) hX (k_X10_in (l := l) (D := D) (t := t) (ad := ad)  ((a1).toInt64) (0 : Int64) (84 : Int64) u3 h4) q1493 q1494 q15 q1495 (n9 := 3) rfl ⟨by decide +kernel, by decide +kernel⟩ dX10_loudness_26 (Nat.le_of_ble_eq_true rfl) ⟨Nat.le_refl _, Nat.le_refl _⟩ (fun w : va_W => w ++ (wM t ad o m_m m_aside m_saved m_isSaved m_past m_changes m_errorAt m_failed 0 m_input m_inputMany m_fitting m_given m_pairs m_line m_lineMany m_letters m_begins0 m_commands m_commandMany m_place0 m_size0 m_isWrong)) (jFr_r (wM t ad o m_m m_aside m_saved m_isSaved m_past m_changes m_errorAt m_failed 0 m_input m_inputMany m_fitting m_given m_pairs m_line m_lineMany m_letters m_begins0 m_commands m_commandMany m_place0 m_size0 m_isWrong)) rfl rfl (fun v w hvw => ?_)
    obtain ⟨rfl, rfl⟩ := hvw
    change J X 0 0 (wM t ad o m_m m_aside m_saved m_isSaved m_past m_changes m_errorAt m_failed 0 m_input m_inputMany m_fitting m_given m_pairs m_line m_lineMany m_letters m_begins0 m_commands m_commandMany m_place0 m_size0 m_isWrong) 29 [(0, .ref (ad o)), (1, .int a0), (2, .int a1)] [.int u3]
    refine j_if_eq hX 41 dX10_loudness_29 (by decide) hf (fun c29 hf => ?_) (fun c29 hf => ?_)
    · refine j_iconst hX 0 dX10_loudness_41 (by decide) ?_
      cases hf
      exact j_iret hX hE dX10_loudness_42 (Nat.le_refl _) (Nat.le_refl _) ⟨rfl, rfl⟩
    · refine j_aload_n hX dX10_loudness_32 rfl 0 rfl ?_
      refine j_iload_n hX dX10_loudness_33 rfl 1 rfl ?_
      refine j_iload_n hX dX10_loudness_34 rfl 2 rfl ?_
      obtain ⟨u5, h6, hf⟩ := jbind hf
      refine j_callV (st := []) hX (k_X10_loudIn (l := l) (D := D) (t := t) (ad := ad) (o := o) m_m m_aside m_saved m_isSaved m_past m_changes m_errorAt m_failed 0 m_input m_inputMany m_fitting m_given m_pairs m_line m_lineMany m_letters m_begins0 m_commands m_commandMany m_place0 m_size0 m_isWrong a0 a1 u5 h6) q1729 q1730 q1983 q15 q1731 (n9 := 2) rfl ⟨by decide +kernel, by decide +kernel⟩ 0 rfl rfl rfl dX10_loudness_35 (Nat.le_of_ble_eq_true rfl) ⟨Nat.le_refl _, Nat.le_refl _⟩ (fun w : va_W => w) jFr_id rfl rfl (fun v w hvw => ?_)
      obtain ⟨rfl, rfl⟩ := hvw
      change J X 0 0 (wM t ad o m_m m_aside m_saved m_isSaved m_past m_changes m_errorAt m_failed 0 m_input m_inputMany m_fitting m_given m_pairs m_line m_lineMany m_letters m_begins0 m_commands m_commandMany m_place0 m_size0 m_isWrong) 38 [(0, .ref (ad o)), (1, .int a0), (2, .int a1)] [.int u5]
      refine j_goto hX 42 dX10_loudness_38 (by decide) ?_
      cases hf
      exact j_iret hX hE dX10_loudness_42 (Nat.le_refl _) (Nat.le_refl _) ⟨rfl, rfl⟩
  · refine j_aload_n hX dX10_loudness_12 rfl 0 rfl ?_
    refine j_iconst hX 1 dX10_loudness_13 (by decide) ?_
    obtain ⟨u7, h8, hf⟩ := jbind hf
    refine j_callV (st := []) hX (k_X10_throwing (l := l) (D := D) (t := t) (ad := ad) (o := o) m_m m_aside m_saved m_isSaved m_past m_changes m_errorAt m_failed 0 m_input m_inputMany m_fitting m_given m_pairs m_line m_lineMany m_letters m_begins0 m_commands m_commandMany m_place0 m_size0 m_isWrong 1 u7 h8) q1496 q1497 q1951 q15 q1498 (n9 := 1) rfl ⟨by decide +kernel, by decide +kernel⟩ 0 rfl rfl rfl dX10_loudness_14 (Nat.le_of_ble_eq_true rfl) ⟨Nat.le_refl _, Nat.le_refl _⟩ (fun w : va_W => w) jFr_id rfl rfl (fun v w hvw => ?_)
    obtain ⟨rfl, rfl⟩ := hvw
    change J X 0 0 (wM t ad o m_m m_aside m_saved m_isSaved m_past m_changes m_errorAt m_failed u7.2 m_input m_inputMany m_fitting m_given m_pairs m_line m_lineMany m_letters m_begins0 m_commands m_commandMany m_place0 m_size0 m_isWrong) 17 [(0, .ref (ad o)), (1, .int a0), (2, .int a1)] [.int u7.1]
    refine j_goto hX 42 dX10_loudness_17 (by decide) ?_
    cases hf
    exact j_iret hX hE dX10_loudness_42 (Nat.le_refl _) (Nat.le_refl _) ⟨rfl, rfl⟩
-- HammerDepotModel loudestPitch (I)I
def f_X10_loudestPitch_L36 (m_m : Nat → Int32) (x1 : Int32) : Nat → Int32 → Int32 → Option (Int32 × Int32)
  | 0, _, _ => none
  | jn + 1, x3, x2 =>
    if 84 < x3 then
      some (x3, x2)
    else
      Option.bind (f_X10_loudIn m_m x1 x3) (fun u5 =>
        Option.bind (f_X10_loudIn m_m x1 x2) (fun u7 =>
          if u5 ≤ u7 then
            f_X10_loudestPitch_L36 m_m x1 jn (x3 + 1) x2
          else
            f_X10_loudestPitch_L36 m_m x1 jn (x3 + 1) x3))
def f_X10_loudestPitch (m_m : Nat → Int32) (m_thrown : Int32) (a0 : Int32) : Option (Int32 × Int32) :=
  Option.bind (f_X10_isRack a0) (fun u1 =>
    if u1 = 0 then
      Option.bind (f_X10_throwing 0 1) (fun u14 =>
        some (u14.1, u14.2))
    else
      Option.bind (f_X10_many m_m a0) (fun u3 =>
        if u3 = 0 then
          Option.bind (f_X10_throwing 0 2) (fun u12 =>
            some (u12.1, u12.2))
        else
          Option.bind (f_X10_loudestPitch_L36 m_m a0 jFU 1 0) (fun s10 =>
            some (s10.2, 0))))
set_option maxHeartbeats 4000000 in
set_option maxRecDepth 100000 in
theorem k_X10_loudestPitch_L36 {l : Launch} {D : va_G} {t : Nat → ClassId} {ad : Nat → Nat} {o : Nat} (m_m : Nat → Int32) (x1 : Int32) (m_aside : Nat → Int32) (m_saved : Nat → Int32) (m_isSaved : Int32) (m_past : Nat → Int32) (m_changes : Int32) (m_errorAt : Int32) (m_failed : Int32) (m_thrown : Int32) (m_input : Nat → Int32) (m_inputMany : Int32) (m_fitting : Nat → Int32) (m_given : Nat → Int32) (m_pairs : Nat → Int32) (m_line : Nat → Int32) (m_lineMany : Int32) (m_letters : Nat → Int32) (m_begins0 : Nat → Int32) (m_commands : Nat → Int32) (m_commandMany : Int32) (m_place0 : Int32) (m_size0 : Int32) (m_isWrong : Int32) {X : jX} (hX : jOK X l D (jT t) cX10_loudestPitch RX10 (some FieldType.int) { frames := 2, cells := 0, slots := 0, locals := 46 } 4) :
    ∀ (jn : Nat) (x3 : Int32) (x2 : Int32) (u : Int32 × Int32) (hf : f_X10_loudestPitch_L36 m_m x1 jn x3 x2 = some u) (kx : ∀ s : Int32 × Int32, u = s → J X 0 0 (wM t ad o m_m m_aside m_saved m_isSaved m_past m_changes m_errorAt m_failed m_thrown m_input m_inputMany m_fitting m_given m_pairs m_line m_lineMany m_letters m_begins0 m_commands m_commandMany m_place0 m_size0 m_isWrong) 69 [(3, .int s.1), (2, .int s.2), (0, .ref (ad o)), (1, .int x1)] []), J X 0 0 (wM t ad o m_m m_aside m_saved m_isSaved m_past m_changes m_errorAt m_failed m_thrown m_input m_inputMany m_fitting m_given m_pairs m_line m_lineMany m_letters m_begins0 m_commands m_commandMany m_place0 m_size0 m_isWrong) 36 [(3, .int x3), (2, .int x2), (0, .ref (ad o)), (1, .int x1)] [] := by
  intro jn
  induction jn with
  | zero => intro x3 x2 u hf; cases (show (none : Option (Int32 × Int32)) = some u from hf)
  | succ jn ih =>
    intro x3 x2 u hf kx
    unfold f_X10_loudestPitch_L36 at hf
    refine j_iload_n hX dX10_loudestPitch_36 rfl 0 rfl ?_
    refine j_bipush hX 84 dX10_loudestPitch_37 (by decide) ?_
    refine j_icmp_gt hX 69 dX10_loudestPitch_39 (by decide) hf (fun c39 hf => ?_) (fun c39 hf => ?_)
    · cases hf
      exact kx _ rfl
    · refine j_aload_n hX dX10_loudestPitch_42 rfl 2 rfl ?_
      refine j_iload_n hX dX10_loudestPitch_43 rfl 3 rfl ?_
      refine j_iload_n hX dX10_loudestPitch_44 rfl 0 rfl ?_
      obtain ⟨u5, h6, hf⟩ := jbind hf
      refine j_callV (st := []) hX (k_X10_loudIn (l := l) (D := D) (t := t) (ad := ad) (o := o) m_m m_aside m_saved m_isSaved m_past m_changes m_errorAt m_failed m_thrown m_input m_inputMany m_fitting m_given m_pairs m_line m_lineMany m_letters m_begins0 m_commands m_commandMany m_place0 m_size0 m_isWrong x1 x3 u5 h6) q1729 q1730 q1983 q15 q1731 (n9 := 2) rfl ⟨by decide +kernel, by decide +kernel⟩ 0 rfl rfl rfl dX10_loudestPitch_45 (Nat.le_of_ble_eq_true rfl) ⟨Nat.le_refl _, Nat.le_refl _⟩ (fun w : va_W => w) jFr_id rfl rfl (fun v w hvw => ?_)
      obtain ⟨rfl, rfl⟩ := hvw
      change J X 0 0 (wM t ad o m_m m_aside m_saved m_isSaved m_past m_changes m_errorAt m_failed m_thrown m_input m_inputMany m_fitting m_given m_pairs m_line m_lineMany m_letters m_begins0 m_commands m_commandMany m_place0 m_size0 m_isWrong) 48 [(3, .int x3), (2, .int x2), (0, .ref (ad o)), (1, .int x1)] [.int u5]
      refine j_aload_n hX dX10_loudestPitch_48 rfl 2 rfl ?_
      refine j_iload_n hX dX10_loudestPitch_49 rfl 3 rfl ?_
      refine j_iload_n hX dX10_loudestPitch_50 rfl 1 rfl ?_
      obtain ⟨u7, h8, hf⟩ := jbind hf
      refine j_callV (st := [.int u5]) hX (k_X10_loudIn (l := l) (D := D) (t := t) (ad := ad) (o := o) m_m m_aside m_saved m_isSaved m_past m_changes m_errorAt m_failed m_thrown m_input m_inputMany m_fitting m_given m_pairs m_line m_lineMany m_letters m_begins0 m_commands m_commandMany m_place0 m_size0 m_isWrong x1 x2 u7 h8) q1729 q1730 q1983 q15 q1731 (n9 := 2) rfl ⟨by decide +kernel, by decide +kernel⟩ 0 rfl rfl rfl dX10_loudestPitch_51 (Nat.le_of_ble_eq_true rfl) ⟨Nat.le_refl _, Nat.le_refl _⟩ (fun w : va_W => w) jFr_id rfl rfl (fun v w hvw => ?_)
      obtain ⟨rfl, rfl⟩ := hvw
      change J X 0 0 (wM t ad o m_m m_aside m_saved m_isSaved m_past m_changes m_errorAt m_failed m_thrown m_input m_inputMany m_fitting m_given m_pairs m_line m_lineMany m_letters m_begins0 m_commands m_commandMany m_place0 m_size0 m_isWrong) 54 [(3, .int x3), (2, .int x2), (0, .ref (ad o)), (1, .int x1)] [.int u7, .int u5]
      refine j_icmp_le hX 61 dX10_loudestPitch_54 (by decide) hf (fun c54 hf => ?_) (fun c54 hf => ?_)
      · refine j_iload_n hX dX10_loudestPitch_61 rfl 1 rfl ?_
        refine j_istore_n hX [(2, .int x2), (3, .int x3), (0, .ref (ad o)), (1, .int x1)] dX10_loudestPitch_62 rfl (by decide) rfl ?_
        refine j_iinc hX (x3 + 1) [(3, .int (x3 + 1)), (2, .int x2), (0, .ref (ad o)), (1, .int x1)] dX10_loudestPitch_63 1 rfl rfl (by decide) rfl ?_
        refine j_goto hX 36 dX10_loudestPitch_66 (by decide) ?_
        exact ih (x3 + 1) x2 u hf kx
      · refine j_iload_n hX dX10_loudestPitch_57 rfl 0 rfl ?_
        refine j_goto hX 62 dX10_loudestPitch_58 (by decide) ?_
        refine j_istore_n hX [(2, .int x3), (3, .int x3), (0, .ref (ad o)), (1, .int x1)] dX10_loudestPitch_62 rfl (by decide) rfl ?_
        refine j_iinc hX (x3 + 1) [(3, .int (x3 + 1)), (2, .int x3), (0, .ref (ad o)), (1, .int x1)] dX10_loudestPitch_63 1 rfl rfl (by decide) rfl ?_
        refine j_goto hX 36 dX10_loudestPitch_66 (by decide) ?_
        exact ih (x3 + 1) x3 u hf kx
set_option maxHeartbeats 4000000 in
set_option maxRecDepth 100000 in
theorem k_X10_loudestPitch {l : Launch} {D : va_G} {t : Nat → ClassId} {ad : Nat → Nat} {o : Nat} (m_m : Nat → Int32) (m_aside : Nat → Int32) (m_saved : Nat → Int32) (m_isSaved : Int32) (m_past : Nat → Int32) (m_changes : Int32) (m_errorAt : Int32) (m_failed : Int32) (m_thrown : Int32) (m_input : Nat → Int32) (m_inputMany : Int32) (m_fitting : Nat → Int32) (m_given : Nat → Int32) (m_pairs : Nat → Int32) (m_line : Nat → Int32) (m_lineMany : Int32) (m_letters : Nat → Int32) (m_begins0 : Nat → Int32) (m_commands : Nat → Int32) (m_commandMany : Int32) (m_place0 : Int32) (m_size0 : Int32) (m_isWrong : Int32) (a0 : Int32) (u : Int32 × Int32) (hf : f_X10_loudestPitch m_m m_thrown a0 = some u) : cm l D (jT t) yX10_loudestPitch cX10_loudestPitch 4 (some FieldType.int) { frames := 2, cells := 0, slots := 0, locals := 46 } [.ref (ad o), .int a0] (wM t ad o m_m m_aside m_saved m_isSaved m_past m_changes m_errorAt m_failed m_thrown m_input m_inputMany m_fitting m_given m_pairs m_line m_lineMany m_letters m_begins0 m_commands m_commandMany m_place0 m_size0 m_isWrong) (fun v w => v = (some (.int u.1)) ∧ w = wM t ad o m_m m_aside m_saved m_isSaved m_past m_changes m_errorAt m_failed u.2 m_input m_inputMany m_fitting m_given m_pairs m_line m_lineMany m_letters m_begins0 m_commands m_commandMany m_place0 m_size0 m_isWrong) := by
  refine cm_of RX10 rfl (by decide +kernel) (Nat.le_of_ble_eq_true rfl) (fun X hX hE => ?_)
  change J X 0 0 (wM t ad o m_m m_aside m_saved m_isSaved m_past m_changes m_errorAt m_failed m_thrown m_input m_inputMany m_fitting m_given m_pairs m_line m_lineMany m_letters m_begins0 m_commands m_commandMany m_place0 m_size0 m_isWrong) 0 [(0, .ref (ad o)), (1, .int a0)] []
  unfold f_X10_loudestPitch at hf
  refine j_aload_n hX dX10_loudestPitch_0 rfl 0 rfl ?_
  refine j_iconst hX 0 dX10_loudestPitch_1 (by decide) ?_
  refine j_put hX (wM t ad o m_m m_aside m_saved m_isSaved m_past m_changes m_errorAt m_failed 0 m_input m_inputMany m_fitting m_given m_pairs m_line m_lineMany m_letters m_begins0 m_commands m_commandMany m_place0 m_size0 m_isWrong) tyX10 dX10_loudestPitch_2 inX10 tyX10_ok nmX10 8 q1463 0 rfl rfl (by decide) rfl rfl rfl rfl rfl (Nat.le_of_ble_eq_true rfl) rfl ?_
  refine j_iload_n hX dX10_loudestPitch_5 rfl 1 rfl ?_
  obtain ⟨u1, h2, hf⟩ := jbind hf
  refine j_callS (st := []) hX (k_X10_isRack (l := l) (D := D) (t := t) (ad := ad)  a0 u1 h2) q1499 q1500 q15 q1501 (n9 := 1) rfl ⟨by decide +kernel, by decide +kernel⟩ dX10_loudestPitch_6 (Nat.le_of_ble_eq_true rfl) ⟨Nat.le_refl _, Nat.le_refl _⟩ (fun w : va_W => w ++ (wM t ad o m_m m_aside m_saved m_isSaved m_past m_changes m_errorAt m_failed 0 m_input m_inputMany m_fitting m_given m_pairs m_line m_lineMany m_letters m_begins0 m_commands m_commandMany m_place0 m_size0 m_isWrong)) (jFr_r (wM t ad o m_m m_aside m_saved m_isSaved m_past m_changes m_errorAt m_failed 0 m_input m_inputMany m_fitting m_given m_pairs m_line m_lineMany m_letters m_begins0 m_commands m_commandMany m_place0 m_size0 m_isWrong)) rfl rfl (fun v w hvw => ?_)
  obtain ⟨rfl, rfl⟩ := hvw
  change J X 0 0 (wM t ad o m_m m_aside m_saved m_isSaved m_past m_changes m_errorAt m_failed 0 m_input m_inputMany m_fitting m_given m_pairs m_line m_lineMany m_letters m_begins0 m_commands m_commandMany m_place0 m_size0 m_isWrong) 9 [(0, .ref (ad o)), (1, .int a0)] [.int u1]
  refine j_if_ne hX 18 dX10_loudestPitch_9 (by decide) hf (fun c9 hf => ?_) (fun c9 hf => ?_)
  · refine j_aload_n hX dX10_loudestPitch_18 rfl 0 rfl ?_
    refine j_iload_n hX dX10_loudestPitch_19 rfl 1 rfl ?_
    obtain ⟨u3, h4, hf⟩ := jbind hf
    refine j_callV (st := []) hX (k_X10_many (l := l) (D := D) (t := t) (ad := ad) (o := o) m_m m_aside m_saved m_isSaved m_past m_changes m_errorAt m_failed 0 m_input m_inputMany m_fitting m_given m_pairs m_line m_lineMany m_letters m_begins0 m_commands m_commandMany m_place0 m_size0 m_isWrong a0 u3 h4) q1739 q1740 q1984 q15 q1741 (n9 := 1) rfl ⟨by decide +kernel, by decide +kernel⟩ 0 rfl rfl rfl dX10_loudestPitch_20 (Nat.le_of_ble_eq_true rfl) ⟨Nat.le_refl _, Nat.le_refl _⟩ (fun w : va_W => w) jFr_id rfl rfl (fun v w hvw => ?_)
    obtain ⟨rfl, rfl⟩ := hvw
    change J X 0 0 (wM t ad o m_m m_aside m_saved m_isSaved m_past m_changes m_errorAt m_failed 0 m_input m_inputMany m_fitting m_given m_pairs m_line m_lineMany m_letters m_begins0 m_commands m_commandMany m_place0 m_size0 m_isWrong) 23 [(0, .ref (ad o)), (1, .int a0)] [.int u3]
    refine j_if_ne hX 32 dX10_loudestPitch_23 (by decide) hf (fun c23 hf => ?_) (fun c23 hf => ?_)
    · refine j_iconst hX 0 dX10_loudestPitch_32 (by decide) ?_
      refine j_istore_n hX [(2, .int 0), (0, .ref (ad o)), (1, .int a0)] dX10_loudestPitch_33 rfl (by decide) rfl ?_
      refine j_iconst hX 1 dX10_loudestPitch_34 (by decide) ?_
      refine j_istore_n hX [(3, .int 1), (2, .int 0), (0, .ref (ad o)), (1, .int a0)] dX10_loudestPitch_35 rfl (by decide) rfl ?_
      obtain ⟨s10, h11, hf⟩ := jbind hf
      refine k_X10_loudestPitch_L36 (ad := ad) m_m a0 m_aside m_saved m_isSaved m_past m_changes m_errorAt m_failed 0 m_input m_inputMany m_fitting m_given m_pairs m_line m_lineMany m_letters m_begins0 m_commands m_commandMany m_place0 m_size0 m_isWrong hX jFU 1 0 s10 h11 (fun s100 es10 => ?_)
      subst es10
      refine j_iload_n hX dX10_loudestPitch_69 rfl 1 rfl ?_
      cases hf
      exact j_iret hX hE dX10_loudestPitch_70 (Nat.le_refl _) (Nat.le_refl _) ⟨rfl, rfl⟩
    · refine j_aload_n hX dX10_loudestPitch_26 rfl 0 rfl ?_
      refine j_iconst hX 2 dX10_loudestPitch_27 (by decide) ?_
      obtain ⟨u12, h13, hf⟩ := jbind hf
      refine j_callV (st := []) hX (k_X10_throwing (l := l) (D := D) (t := t) (ad := ad) (o := o) m_m m_aside m_saved m_isSaved m_past m_changes m_errorAt m_failed 0 m_input m_inputMany m_fitting m_given m_pairs m_line m_lineMany m_letters m_begins0 m_commands m_commandMany m_place0 m_size0 m_isWrong 2 u12 h13) q1496 q1497 q1951 q15 q1498 (n9 := 1) rfl ⟨by decide +kernel, by decide +kernel⟩ 0 rfl rfl rfl dX10_loudestPitch_28 (Nat.le_of_ble_eq_true rfl) ⟨Nat.le_refl _, Nat.le_refl _⟩ (fun w : va_W => w) jFr_id rfl rfl (fun v w hvw => ?_)
      obtain ⟨rfl, rfl⟩ := hvw
      change J X 0 0 (wM t ad o m_m m_aside m_saved m_isSaved m_past m_changes m_errorAt m_failed u12.2 m_input m_inputMany m_fitting m_given m_pairs m_line m_lineMany m_letters m_begins0 m_commands m_commandMany m_place0 m_size0 m_isWrong) 31 [(0, .ref (ad o)), (1, .int a0)] [.int u12.1]
      cases hf
      exact j_iret hX hE dX10_loudestPitch_31 (Nat.le_refl _) (Nat.le_refl _) ⟨rfl, rfl⟩
  · refine j_aload_n hX dX10_loudestPitch_12 rfl 0 rfl ?_
    refine j_iconst hX 1 dX10_loudestPitch_13 (by decide) ?_
    obtain ⟨u14, h15, hf⟩ := jbind hf
    refine j_callV (st := []) hX (k_X10_throwing (l := l) (D := D) (t := t) (ad := ad) (o := o) m_m m_aside m_saved m_isSaved m_past m_changes m_errorAt m_failed 0 m_input m_inputMany m_fitting m_given m_pairs m_line m_lineMany m_letters m_begins0 m_commands m_commandMany m_place0 m_size0 m_isWrong 1 u14 h15) q1496 q1497 q1951 q15 q1498 (n9 := 1) rfl ⟨by decide +kernel, by decide +kernel⟩ 0 rfl rfl rfl dX10_loudestPitch_14 (Nat.le_of_ble_eq_true rfl) ⟨Nat.le_refl _, Nat.le_refl _⟩ (fun w : va_W => w) jFr_id rfl rfl (fun v w hvw => ?_)
    obtain ⟨rfl, rfl⟩ := hvw
    change J X 0 0 (wM t ad o m_m m_aside m_saved m_isSaved m_past m_changes m_errorAt m_failed u14.2 m_input m_inputMany m_fitting m_given m_pairs m_line m_lineMany m_letters m_begins0 m_commands m_commandMany m_place0 m_size0 m_isWrong) 17 [(0, .ref (ad o)), (1, .int a0)] [.int u14.1]
    cases hf
    exact j_iret hX hE dX10_loudestPitch_17 (Nat.le_refl _) (Nat.le_refl _) ⟨rfl, rfl⟩

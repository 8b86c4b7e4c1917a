-- HammerDepot meanWear ()D
def f_X9_meanWear (h_count : Int32) (h_wears : Nat → Int32) : Option ((String) ⊕ (UInt64)) :=
  Option.bind (f_X2_size h_count) (fun u1 =>
    if u1 = 0 then
      some (.inl ("java/lang/ArithmeticException"))
    else
      Option.bind (f_X2_wearSum h_count h_wears) (fun u3 =>
        if jN64 (FP.ddiv (FP.i2d u3) (FP.i2d u1)) = true then
          some (.inr (FP.ddiv (FP.i2d u3) (FP.i2d u1)))
        else none))
set_option maxHeartbeats 4000000 in
set_option maxRecDepth 100000 in
theorem k_X9_meanWear {l : Launch} {D : va_G} {t : Nat → ClassId} {ad : Nat → Nat} {o oS oN oY oG oC oP oB : Nat} (hl : l.stackTraces = false) (d_hasSnapshot : Int32) (d_errorAt : Int32) (d_failedAt : Int32) (h_count : Int32) (h_pitches : Nat → Int32) (h_wears : Nat → Int32) (h_slots : Nat → Int32) (h_borrowers : Nat → Int32) (h_dueDays : Nat → Int32) (h_contents : Nat → Int32) (r_count : Int32) (r_nextId : Int32) (r_ids : Nat → Int32) (r_borrowers : Nat → Int32) (r_pitches : Nat → Int32) (r_tolerances : Nat → Int32) (r_firstDays : Nat → Int32) (r_lastDays : Nat → Int32) (b_count : Int32) (b_hammers : Nat → Int32) (b_borrowers : Nat → Int32) (b_firstDays : Nat → Int32) (b_lastDays : Nat → Int32) (s_day : Int32) (s_coins : Int32) (s_bookingCoins : Int32) (s_lateCoins : Int32) (s_faceCosts : Int32) (s_broken : Int32) (s_lent : Int32)  (u : (String) ⊕ (UInt64)) (hf : f_X9_meanWear h_count h_wears = some u) : cx l D (jT t) yX9_meanWear cX9_meanWear 2 (some FieldType.double) { frames := 6, cells := 1, slots := 6, locals := 90 } [.ref (ad o)] (wD t ad o oS oN oY oG oC oP oB d_hasSnapshot d_errorAt d_failedAt ++ (wS t ad oS h_count h_pitches h_wears h_slots h_borrowers h_dueDays h_contents r_count r_nextId r_ids r_borrowers r_pitches r_tolerances r_firstDays r_lastDays b_count b_hammers b_borrowers b_firstDays b_lastDays s_day s_coins s_bookingCoins s_lateCoins s_faceCosts s_broken s_lent)) (fun v w => ∃ r : UInt64, u = .inr r ∧ v = (some (.double r)) ∧ w = wD t ad o oS oN oY oG oC oP oB d_hasSnapshot d_errorAt d_failedAt ++ (wS t ad oS h_count h_pitches h_wears h_slots h_borrowers h_dueDays h_contents r_count r_nextId r_ids r_borrowers r_pitches r_tolerances r_firstDays r_lastDays b_count b_hammers b_borrowers b_firstDays b_lastDays s_day s_coins s_bookingCoins s_lateCoins s_faceCosts s_broken s_lent)) (fun E w => ∃ x : String, u = .inl x ∧ E = x ∧ w = wD t ad o oS oN oY oG oC oP oB d_hasSnapshot d_errorAt d_failedAt ++ (wS t ad oS h_count h_pitches h_wears h_slots h_borrowers h_dueDays h_contents r_count r_nextId r_ids r_borrowers r_pitches r_tolerances r_firstDays r_lastDays b_count b_hammers b_borrowers b_firstDays b_lastDays s_day s_coins s_bookingCoins s_lateCoins s_faceCosts s_broken s_lent)) := by
  refine cx_of RX9 rfl (by decide +kernel) (Nat.le_of_ble_eq_true rfl) (fun X hX hE hT => ?_)
  change J X 0 0 (wD t ad o oS oN oY oG oC oP oB d_hasSnapshot d_errorAt d_failedAt ++ (wS t ad oS h_count h_pitches h_wears h_slots h_borrowers h_dueDays h_contents r_count r_nextId r_ids r_borrowers r_pitches r_tolerances r_firstDays r_lastDays b_count b_hammers b_borrowers b_firstDays b_lastDays s_day s_coins s_bookingCoins s_lateCoins s_faceCosts s_broken s_lent)) 0 [(0, .ref (ad o))] []
  unfold f_X9_meanWear at hf
  refine j_aload_n hX dX9_meanWear_0 rfl 0 rfl ?_
  refine j_get hX dX9_meanWear_1 inX9 0 q179 0 rfl rfl (by decide) rfl rfl ?_
  refine j_getN hX dX9_meanWear_4 inX8 0 q92 1 rfl rfl (by decide) rfl rfl ?_
  obtain ⟨u1, h2, hf⟩ := jbind hf
  refine j_callV (st := []) hX (k_X2_size (l := l) (D := D) (t := t) (ad := ad) (o := oS + 1) h_count h_pitches h_wears h_slots h_borrowers h_dueDays h_contents  u1 h2) q429 q254 q255 q3 q256 (n9 := 0) rfl ⟨by decide +kernel, by decide +kernel⟩ 0 rfl rfl rfl dX9_meanWear_7 (Nat.le_of_ble_eq_true rfl) (by decide) (fun w : va_W => (fun w : va_W => (wD t ad o oS oN oY oG oC oP oB d_hasSnapshot d_errorAt d_failedAt) ++ w) ((frS_hammers t ad oS r_count r_nextId r_ids r_borrowers r_pitches r_tolerances r_firstDays r_lastDays b_count b_hammers b_borrowers b_firstDays b_lastDays s_day s_coins s_bookingCoins s_lateCoins s_faceCosts s_broken s_lent) w)) (jFr_comp (f := (fun w : va_W => (wD t ad o oS oN oY oG oC oP oB d_hasSnapshot d_errorAt d_failedAt) ++ w)) (g := (frS_hammers t ad oS r_count r_nextId r_ids r_borrowers r_pitches r_tolerances r_firstDays r_lastDays b_count b_hammers b_borrowers b_firstDays b_lastDays s_day s_coins s_bookingCoins s_lateCoins s_faceCosts s_broken s_lent)) (jFr_l (wD t ad o oS oN oY oG oC oP oB d_hasSnapshot d_errorAt d_failedAt)) (frS_hammers_ok t ad oS r_count r_nextId r_ids r_borrowers r_pitches r_tolerances r_firstDays r_lastDays b_count b_hammers b_borrowers b_firstDays b_lastDays s_day s_coins s_bookingCoins s_lateCoins s_faceCosts s_broken s_lent)) rfl rfl (fun v w hvw => ?_)
  obtain ⟨rfl, rfl⟩ := hvw
  change J X 0 0 (wD t ad o oS oN oY oG oC oP oB d_hasSnapshot d_errorAt d_failedAt ++ (wS t ad oS h_count h_pitches h_wears h_slots h_borrowers h_dueDays h_contents r_count r_nextId r_ids r_borrowers r_pitches r_tolerances r_firstDays r_lastDays b_count b_hammers b_borrowers b_firstDays b_lastDays s_day s_coins s_bookingCoins s_lateCoins s_faceCosts s_broken s_lent)) 10 [(0, .ref (ad o))] [.int u1]
  refine j_istore_n hX [(1, .int u1), (0, .ref (ad o))] dX9_meanWear_10 rfl (by decide) rfl ?_
  refine j_iload_n hX dX9_meanWear_11 rfl 0 rfl ?_
  refine j_if_ne hX 25 dX9_meanWear_12 (by decide) hf (fun c12 hf => ?_) (fun c12 hf => ?_)
  · refine j_aload_n hX dX9_meanWear_25 rfl 1 rfl ?_
    refine j_get hX dX9_meanWear_26 inX9 0 q179 0 rfl rfl (by decide) rfl rfl ?_
    refine j_getN hX dX9_meanWear_29 inX8 0 q92 1 rfl rfl (by decide) rfl rfl ?_
    obtain ⟨u3, h4, hf⟩ := jbind hf
    refine j_callV (st := []) hX (k_X2_wearSum (l := l) (D := D) (t := t) (ad := ad) (o := oS + 1) h_count h_pitches h_wears h_slots h_borrowers h_dueDays h_contents  u3 h4) q1026 q1027 q1028 q3 q1029 (n9 := 0) rfl ⟨by decide +kernel, by decide +kernel⟩ 0 rfl rfl rfl dX9_meanWear_32 (Nat.le_of_ble_eq_true rfl) (by decide) (fun w : va_W => (fun w : va_W => (wD t ad o oS oN oY oG oC oP oB d_hasSnapshot d_errorAt d_failedAt) ++ w) ((frS_hammers t ad oS r_count r_nextId r_ids r_borrowers r_pitches r_tolerances r_firstDays r_lastDays b_count b_hammers b_borrowers b_firstDays b_lastDays s_day s_coins s_bookingCoins s_lateCoins s_faceCosts s_broken s_lent) w)) (jFr_comp (f := (fun w : va_W => (wD t ad o oS oN oY oG oC oP oB d_hasSnapshot d_errorAt d_failedAt) ++ w)) (g := (frS_hammers t ad oS r_count r_nextId r_ids r_borrowers r_pitches r_tolerances r_firstDays r_lastDays b_count b_hammers b_borrowers b_firstDays b_lastDays s_day s_coins s_bookingCoins s_lateCoins s_faceCosts s_broken s_lent)) (jFr_l (wD t ad o oS oN oY oG oC oP oB d_hasSnapshot d_errorAt d_failedAt)) (frS_hammers_ok t ad oS r_count r_nextId r_ids r_borrowers r_pitches r_tolerances r_firstDays r_lastDays b_count b_hammers b_borrowers b_firstDays b_lastDays s_day s_coins s_bookingCoins s_lateCoins s_faceCosts s_broken s_lent)) rfl rfl (fun v w hvw => ?_)
    obtain ⟨rfl, rfl⟩ := hvw
    change J X 0 0 (wD t ad o oS oN oY oG oC oP oB d_hasSnapshot d_errorAt d_failedAt ++ (wS t ad oS h_count h_pitches h_wears h_slots h_borrowers h_dueDays h_contents r_count r_nextId r_ids r_borrowers r_pitches r_tolerances r_firstDays r_lastDays b_count b_hammers b_borrowers b_firstDays b_lastDays s_day s_coins s_bookingCoins s_lateCoins s_faceCosts s_broken s_lent)) 35 [(1, .int u1), (0, .ref (ad o))] [.int u3]
    refine j_i2d hX dX9_meanWear_35 ?_
    refine j_iload_n hX dX9_meanWear_36 rfl 0 rfl ?_
    refine j_i2d hX dX9_meanWear_37 ?_
    refine j_ddiv hX dX9_meanWear_38 hf (fun c38 hf => ?_)
    cases hf
    exact jx_dret hX hE dX9_meanWear_39 (Nat.le_of_ble_eq_true rfl) (Nat.le_of_ble_eq_true rfl) ⟨_, rfl, rfl, rfl⟩
  · cases hf
    exact j_throwS (st := []) hX hE hT hl q1024 q30 (List.mem_of_getElem? (i := 17) rfl) th_ArithmeticException dX9_meanWear_15 dX9_meanWear_18 dX9_meanWear_19 dX9_meanWear_21 dX9_meanWear_24 (Nat.le_of_ble_eq_true rfl) (by decide) (by decide) (by decide) ⟨_, rfl, rfl, rfl⟩
-- HammerDepot lentShare ()F
def f_X9_lentShare (h_count : Int32) (h_slots : Nat → Int32) : Option ((String) ⊕ (UInt32)) :=
  Option.bind (f_X2_size h_count) (fun u1 =>
    if u1 = 0 then
      some (.inl ("java/lang/ArithmeticException"))
    else
      Option.bind (f_X2_awayCount h_count h_slots) (fun u3 =>
        if jN32 (FP.fdiv (FP.i2f u3) (FP.i2f u1)) = true then
          some (.inr (FP.fdiv (FP.i2f u3) (FP.i2f u1)))
        else none))
set_option maxHeartbeats 4000000 in
set_option maxRecDepth 100000 in
theorem k_X9_lentShare {l : Launch} {D : va_G} {t : Nat → ClassId} {ad : Nat → Nat} {o oS oN oY oG oC oP oB : Nat} (hl : l.stackTraces = false) (d_hasSnapshot : Int32) (d_errorAt : Int32) (d_failedAt : Int32) (h_count : Int32) (h_pitches : Nat → Int32) (h_wears : Nat → Int32) (h_slots : Nat → Int32) (h_borrowers : Nat → Int32) (h_dueDays : Nat → Int32) (h_contents : Nat → Int32) (r_count : Int32) (r_nextId : Int32) (r_ids : Nat → Int32) (r_borrowers : Nat → Int32) (r_pitches : Nat → Int32) (r_tolerances : Nat → Int32) (r_firstDays : Nat → Int32) (r_lastDays : Nat → Int32) (b_count : Int32) (b_hammers : Nat → Int32) (b_borrowers : Nat → Int32) (b_firstDays : Nat → Int32) (b_lastDays : Nat → Int32) (s_day : Int32) (s_coins : Int32) (s_bookingCoins : Int32) (s_lateCoins : Int32) (s_faceCosts : Int32) (s_broken : Int32) (s_lent : Int32)  (u : (String) ⊕ (UInt32)) (hf : f_X9_lentShare h_count h_slots = some u) : cx l D (jT t) yX9_lentShare cX9_lentShare 2 (some FieldType.float) { frames := 6, cells := 1, slots := 6, locals := 90 } [.ref (ad o)] (wD t ad o oS oN oY oG oC oP oB d_hasSnapshot d_errorAt d_failedAt ++ (wS t ad oS h_count h_pitches h_wears h_slots h_borrowers h_dueDays h_contents r_count r_nextId r_ids r_borrowers r_pitches r_tolerances r_firstDays r_lastDays b_count b_hammers b_borrowers b_firstDays b_lastDays s_day s_coins s_bookingCoins s_lateCoins s_faceCosts s_broken s_lent)) (fun v w => ∃ r : UInt32, u = .inr r ∧ v = (some (.float r)) ∧ w = wD t ad o oS oN oY oG oC oP oB d_hasSnapshot d_errorAt d_failedAt ++ (wS t ad oS h_count h_pitches h_wears h_slots h_borrowers h_dueDays h_contents r_count r_nextId r_ids r_borrowers r_pitches r_tolerances r_firstDays r_lastDays b_count b_hammers b_borrowers b_firstDays b_lastDays s_day s_coins s_bookingCoins s_lateCoins s_faceCosts s_broken s_lent)) (fun E w => ∃ x : String, u = .inl x ∧ E = x ∧ w = wD t ad o oS oN oY oG oC oP oB d_hasSnapshot d_errorAt d_failedAt ++ (wS t ad oS h_count h_pitches h_wears h_slots h_borrowers h_dueDays h_contents r_count r_nextId r_ids r_borrowers r_pitches r_tolerances r_firstDays r_lastDays b_count b_hammers b_borrowers b_firstDays b_lastDays s_day s_coins s_bookingCoins s_lateCoins s_faceCosts s_broken s_lent)) := by
  refine cx_of RX9 rfl (by decide +kernel) (Nat.le_of_ble_eq_true rfl) (fun X hX hE hT => ?_)
  change J X 0 0 (wD t ad o oS oN oY oG oC oP oB d_hasSnapshot d_errorAt d_failedAt ++ (wS t ad oS h_count h_pitches h_wears h_slots h_borrowers h_dueDays h_contents r_count r_nextId r_ids r_borrowers r_pitches r_tolerances r_firstDays r_lastDays b_count b_hammers b_borrowers b_firstDays b_lastDays s_day s_coins s_bookingCoins s_lateCoins s_faceCosts s_broken s_lent)) 0 [(0, .ref (ad o))] []
  unfold f_X9_lentShare at hf
  refine j_aload_n hX dX9_lentShare_0 rfl 0 rfl ?_
  refine j_get hX dX9_lentShare_1 inX9 0 q179 0 rfl rfl (by decide) rfl rfl ?_
  refine j_getN hX dX9_lentShare_4 inX8 0 q92 1 rfl rfl (by decide) rfl rfl ?_
  obtain ⟨u1, h2, hf⟩ := jbind hf
  refine j_callV (st := []) hX (k_X2_size (l := l) (D := D) (t := t) (ad := ad) (o := oS + 1) h_count h_pitches h_wears h_slots h_borrowers h_dueDays h_contents  u1 h2) q429 q254 q255 q3 q256 (n9 := 0) rfl ⟨by decide +kernel, by decide +kernel⟩ 0 rfl rfl rfl dX9_lentShare_7 (Nat.le_of_ble_eq_true rfl) (by decide) (fun w : va_W => (fun w : va_W => (wD t ad o oS oN oY oG oC oP oB d_hasSnapshot d_errorAt d_failedAt) ++ w) ((frS_hammers t ad oS r_count r_nextId r_ids r_borrowers r_pitches r_tolerances r_firstDays r_lastDays b_count b_hammers b_borrowers b_firstDays b_lastDays s_day s_coins s_bookingCoins s_lateCoins s_faceCosts s_broken s_lent) w)) (jFr_comp (f := (fun w : va_W => (wD t ad o oS oN oY oG oC oP oB d_hasSnapshot d_errorAt d_failedAt) ++ w)) (g := (frS_hammers t ad oS r_count r_nextId r_ids r_borrowers r_pitches r_tolerances r_firstDays r_lastDays b_count b_hammers b_borrowers b_firstDays b_lastDays s_day s_coins s_bookingCoins s_lateCoins s_faceCosts s_broken s_lent)) (jFr_l (wD t ad o oS oN oY oG oC oP oB d_hasSnapshot d_errorAt d_failedAt)) (frS_hammers_ok t ad oS r_count r_nextId r_ids r_borrowers r_pitches r_tolerances r_firstDays r_lastDays b_count b_hammers b_borrowers b_firstDays b_lastDays s_day s_coins s_bookingCoins s_lateCoins s_faceCosts s_broken s_lent)) rfl rfl (fun v w hvw => ?_)
  obtain ⟨rfl, rfl⟩ := hvw
  change J X 0 0 (wD t ad o oS oN oY oG oC oP oB d_hasSnapshot d_errorAt d_failedAt ++ (wS t ad oS h_count h_pitches h_wears h_slots h_borrowers h_dueDays h_contents r_count r_nextId r_ids r_borrowers r_pitches r_tolerances r_firstDays r_lastDays b_count b_hammers b_borrowers b_firstDays b_lastDays s_day s_coins s_bookingCoins s_lateCoins s_faceCosts s_broken s_lent)) 10 [(0, .ref (ad o))] [.int u1]
  refine j_istore_n hX [(1, .int u1), (0, .ref (ad o))] dX9_lentShare_10 rfl (by decide) rfl ?_
  refine j_iload_n hX dX9_lentShare_11 rfl 0 rfl ?_
  refine j_if_ne hX 25 dX9_lentShare_12 (by decide) hf (fun c12 hf => ?_) (fun c12 hf => ?_)
  · refine j_aload_n hX dX9_lentShare_25 rfl 1 rfl ?_
    refine j_get hX dX9_lentShare_26 inX9 0 q179 0 rfl rfl (by decide) rfl rfl ?_
    refine j_getN hX dX9_lentShare_29 inX8 0 q92 1 rfl rfl (by decide) rfl rfl ?_
    obtain ⟨u3, h4, hf⟩ := jbind hf
    refine j_callV (st := []) hX (k_X2_awayCount (l := l) (D := D) (t := t) (ad := ad) (o := oS + 1) h_count h_pitches h_wears h_slots h_borrowers h_dueDays h_contents  u3 h4) q1037 q1038 q1039 q3 q1040 (n9 := 0) rfl ⟨by decide +kernel, by decide +kernel⟩ 0 rfl rfl rfl dX9_lentShare_32 (Nat.le_of_ble_eq_true rfl) (by decide) (fun w : va_W => (fun w : va_W => (wD t ad o oS oN oY oG oC oP oB d_hasSnapshot d_errorAt d_failedAt) ++ w) ((frS_hammers t ad oS r_count r_nextId r_ids r_borrowers r_pitches r_tolerances r_firstDays r_lastDays b_count b_hammers b_borrowers b_firstDays b_lastDays s_day s_coins s_bookingCoins s_lateCoins s_faceCosts s_broken s_lent) w)) (jFr_comp (f := (fun w : va_W => (wD t ad o oS oN oY oG oC oP oB d_hasSnapshot d_errorAt d_failedAt) ++ w)) (g := (frS_hammers t ad oS r_count r_nextId r_ids r_borrowers r_pitches r_tolerances r_firstDays r_lastDays b_count b_hammers b_borrowers b_firstDays b_lastDays s_day s_coins s_bookingCoins s_lateCoins s_faceCosts s_broken s_lent)) (jFr_l (wD t ad o oS oN oY oG oC oP oB d_hasSnapshot d_errorAt d_failedAt)) (frS_hammers_ok t ad oS r_count r_nextId r_ids r_borrowers r_pitches r_tolerances r_firstDays r_lastDays b_count b_hammers b_borrowers b_firstDays b_lastDays s_day s_coins s_bookingCoins s_lateCoins s_faceCosts s_broken s_lent)) rfl rfl (fun v w hvw => ?_)
    obtain ⟨rfl, rfl⟩ := hvw
    change J X 0 0 (wD t ad o oS oN oY oG oC oP oB d_hasSnapshot d_errorAt d_failedAt ++ (wS t ad oS h_count h_pitches h_wears h_slots h_borrowers h_dueDays h_contents r_count r_nextId r_ids r_borrowers r_pitches r_tolerances r_firstDays r_lastDays b_count b_hammers b_borrowers b_firstDays b_lastDays s_day s_coins s_bookingCoins s_lateCoins s_faceCosts s_broken s_lent)) 35 [(1, .int u1), (0, .ref (ad o))] [.int u3]
    refine j_i2f hX dX9_lentShare_35 ?_
    refine j_iload_n hX dX9_lentShare_36 rfl 0 rfl ?_
    refine j_i2f hX dX9_lentShare_37 ?_
    refine j_fdiv hX dX9_lentShare_38 hf (fun c38 hf => ?_)
    cases hf
    exact jx_fret hX hE dX9_lentShare_39 (Nat.le_of_ble_eq_true rfl) (Nat.le_of_ble_eq_true rfl) ⟨_, rfl, rfl, rfl⟩
  · cases hf
    exact j_throwS (st := []) hX hE hT hl q1024 q30 (List.mem_of_getElem? (i := 17) rfl) th_ArithmeticException dX9_lentShare_15 dX9_lentShare_18 dX9_lentShare_19 dX9_lentShare_21 dX9_lentShare_24 (Nat.le_of_ble_eq_true rfl) (by decide) (by decide) (by decide) ⟨_, rfl, rfl, rfl⟩
-- HammerDepotModel meanWear ()D
def f_X10_meanWear_L26 (m_m : Nat → Int32) : Nat → Int32 → Int32 → Option (Int32 × Int32)
  | 0, _, _ => none
  | jn + 1, x2, x1 =>
    if jin 0 2048 = true then
      if (m_m (0 : Int32).toNatClampNeg) ≤ x2 then
        some (x2, x1)
      else
        Option.bind (f_X10_hammerOf x2) (fun u1 =>
          if jin (u1 + 1) 2048 = true then
            f_X10_meanWear_L26 m_m jn (x2 + 1) (x1 + (m_m (u1 + 1).toNatClampNeg))
          else none)
    else none
def f_X10_meanWear (m_m : Nat → Int32) (m_thrown : Int32) : Option (UInt64 × Int32) :=
  if jin 0 2048 = true then
    if (m_m (0 : Int32).toNatClampNeg) = 0 then
      Option.bind (f_X10_throwing 0 1) (fun u6 =>
        some (FP.dconst0, u6.2))
    else
      Option.bind (f_X10_meanWear_L26 m_m jFU 0 0) (fun s4 =>
        if jin 0 2048 = true then
          if jN64 (FP.ddiv (FP.i2d s4.2) (FP.i2d (m_m (0 : Int32).toNatClampNeg))) = true then
            some (FP.ddiv (FP.i2d s4.2) (FP.i2d (m_m (0 : Int32).toNatClampNeg)), 0)
          else none
        else none)
  else none
set_option maxHeartbeats 4000000 in
set_option maxRecDepth 100000 in
theorem k_X10_meanWear_L26 {l : Launch} {D : va_G} {t : Nat → ClassId} {ad : Nat → Nat} {o : Nat} (m_m : Nat → Int32) (m_aside : Nat → Int32) (m_saved : Nat → Int32) (m_isSaved : Int32) (m_past : Nat → Int32) (m_changes : Int32) (m_errorAt : Int32) (m_failed : Int32) (m_thrown : Int32) (m_input : Nat → Int32) (m_inputMany : Int32) (m_fitting : Nat → Int32) (m_given : Nat → Int32) (m_pairs : Nat → Int32) (m_line : Nat → Int32) (m_lineMany : Int32) (m_letters : Nat → Int32) (m_begins0 : Nat → Int32) (m_commands : Nat → Int32) (m_commandMany : Int32) (m_place0 : Int32) (m_size0 : Int32) (m_isWrong : Int32) {X : jX} (hX : jOK X l D (jT t) cX10_meanWear RX10 (some FieldType.double) { frames := 1, cells := 0, slots := 0, locals := 21 } 3) :
    ∀ (jn : Nat) (x2 : Int32) (x1 : Int32) (u : Int32 × Int32) (hf : f_X10_meanWear_L26 m_m jn x2 x1 = some u) (kx : ∀ s : Int32 × Int32, u = s → J X 0 0 (wM t ad o m_m m_aside m_saved m_isSaved m_past m_changes m_errorAt m_failed m_thrown m_input m_inputMany m_fitting m_given m_pairs m_line m_lineMany m_letters m_begins0 m_commands m_commandMany m_place0 m_size0 m_isWrong) 56 [(2, .int s.1), (1, .int s.2), (0, .ref (ad o))] []), J X 0 0 (wM t ad o m_m m_aside m_saved m_isSaved m_past m_changes m_errorAt m_failed m_thrown m_input m_inputMany m_fitting m_given m_pairs m_line m_lineMany m_letters m_begins0 m_commands m_commandMany m_place0 m_size0 m_isWrong) 26 [(2, .int x2), (1, .int x1), (0, .ref (ad o))] [] := by
  intro jn
  induction jn with
  | zero => intro x2 x1 u hf; cases (show (none : Option (Int32 × Int32)) = some u from hf)
  | succ jn ih =>
    intro x2 x1 u hf kx
    unfold f_X10_meanWear_L26 at hf
    refine j_iload_n hX dX10_meanWear_26 rfl 0 rfl ?_
    refine j_aload_n hX dX10_meanWear_27 rfl 2 rfl ?_
    refine j_get hX dX10_meanWear_28 inX10 0 q1455 0 rfl rfl (by decide) rfl rfl ?_
    refine j_iconst hX 0 dX10_meanWear_31 (by decide) ?_
    refine j_iald hX dX10_meanWear_32 1 0 rfl rfl hf (fun c32 hf => ?_)
    refine j_icmp_ge hX 56 dX10_meanWear_33 (by decide) hf (fun c33 hf => ?_) (fun c33 hf => ?_)
    · cases hf
      exact kx _ rfl
    · refine j_iload_n hX dX10_meanWear_36 rfl 1 rfl ?_
      refine j_aload_n hX dX10_meanWear_37 rfl 2 rfl ?_
      refine j_get hX dX10_meanWear_38 inX10 0 q1455 0 rfl rfl (by decide) rfl rfl ?_
      refine j_iload_n hX dX10_meanWear_41 rfl 0 rfl ?_
      obtain ⟨u1, h2, hf⟩ := jbind hf
      refine j_callS (st := [.ref (ad (o + 1)), .int x1]) hX (k_X10_hammerOf (l := l) (D := D) (t := t) (ad := ad)  x2 u1 h2) q1509 q1510 q15 q1511 (n9 := 1) rfl ⟨by decide +kernel, by decide +kernel⟩ dX10_meanWear_42 (Nat.le_of_ble_eq_true rfl) ⟨Nat.le_refl _, Nat.le_refl _⟩ (fun w : va_W => w ++ (wM t ad o m_m m_aside m_saved m_isSaved m_past m_changes m_errorAt m_failed m_thrown m_input m_inputMany m_fitting m_given m_pairs m_line m_lineMany m_letters m_begins0 m_commands m_commandMany m_place0 m_size0 m_isWrong)) (jFr_r (wM t ad o m_m m_aside m_saved m_isSaved m_past m_changes m_errorAt m_failed m_thrown m_input m_inputMany m_fitting m_given m_pairs m_line m_lineMany m_letters m_begins0 m_commands m_commandMany m_place0 m_size0 m_isWrong)) rfl rfl (fun v w hvw => ?_)
      obtain ⟨rfl, rfl⟩ := hvw
      change J X 0 0 (wM t ad o m_m m_aside m_saved m_isSaved m_past m_changes m_errorAt m_failed m_thrown m_input m_inputMany m_fitting m_given m_pairs m_line m_lineMany m_letters m_begins0 m_commands m_commandMany m_place0 m_size0 m_isWrong) 45 [(2, .int x2), (1, .int x1), (0, .ref (ad o))] [.int u1, .ref (ad (o + 1)), .int x1]
      refine j_iconst hX 1 dX10_meanWear_45 (by decide) ?_
      refine j_iadd hX dX10_meanWear_46 ?_
      refine j_iald hX dX10_meanWear_47 1 0 rfl rfl hf (fun c47 hf => ?_)
      refine j_iadd hX dX10_meanWear_48 ?_
      refine j_istore_n hX [(1, .int (x1 + (m_m (u1 + 1).toNatClampNeg))), (2, .int x2), (0, .ref (ad o))] dX10_meanWear_49 rfl (by decide) rfl ?_
      refine j_iinc hX (x2 + 1) [(2, .int (x2 + 1)), (1, .int (x1 + (m_m (u1 + 1).toNatClampNeg))), (0, .ref (ad o))] dX10_meanWear_50 1 rfl rfl (by decide) rfl ?_
      refine j_goto hX 26 dX10_meanWear_53 (by decide) ?_
      exact ih (x2 + 1) (x1 + (m_m (u1 + 1).toNatClampNeg)) u hf kx
set_option maxHeartbeats 4000000 in
set_option maxRecDepth 100000 in
theorem k_X10_meanWear {l : Launch} {D : va_G} {t : Nat → ClassId} {ad : Nat → Nat} {o : Nat} (m_m : Nat → Int32) (m_aside : Nat → Int32) (m_saved : Nat → Int32) (m_isSaved : Int32) (m_past : Nat → Int32) (m_changes : Int32) (m_errorAt : Int32) (m_failed : Int32) (m_thrown : Int32) (m_input : Nat → Int32) (m_inputMany : Int32) (m_fitting : Nat → Int32) (m_given : Nat → Int32) (m_pairs : Nat → Int32) (m_line : Nat → Int32) (m_lineMany : Int32) (m_letters : Nat → Int32) (m_begins0 : Nat → Int32) (m_commands : Nat → Int32) (m_commandMany : Int32) (m_place0 : Int32) (m_size0 : Int32) (m_isWrong : Int32)  (u : UInt64 × Int32) (hf : f_X10_meanWear m_m m_thrown = some u) : cm l D (jT t) yX10_meanWear cX10_meanWear 3 (some FieldType.double) { frames := 1, cells := 0, slots := 0, locals := 21 } [.ref (ad o)] (wM t ad o m_m m_aside m_saved m_isSaved m_past m_changes m_errorAt m_failed m_thrown m_input m_inputMany m_fitting m_given m_pairs m_line m_lineMany m_letters m_begins0 m_commands m_commandMany m_place0 m_size0 m_isWrong) (fun v w => v = (some (.double u.1)) ∧ w = wM t ad o m_m m_aside m_saved m_isSaved m_past m_changes m_errorAt m_failed u.2 m_input m_inputMany m_fitting m_given m_pairs m_line m_lineMany m_letters m_begins0 m_commands m_commandMany m_place0 m_size0 m_isWrong) := by
  refine cm_of RX10 rfl (by decide +kernel) (Nat.le_of_ble_eq_true rfl) (fun X hX hE => ?_)
  change J X 0 0 (wM t ad o m_m m_aside m_saved m_isSaved m_past m_changes m_errorAt m_failed m_thrown m_input m_inputMany m_fitting m_given m_pairs m_line m_lineMany m_letters m_begins0 m_commands m_commandMany m_place0 m_size0 m_isWrong) 0 [(0, .ref (ad o))] []
  unfold f_X10_meanWear at hf
  refine j_aload_n hX dX10_meanWear_0 rfl 0 rfl ?_
  refine j_iconst hX 0 dX10_meanWear_1 (by decide) ?_
  refine j_put hX (wM t ad o m_m m_aside m_saved m_isSaved m_past m_changes m_errorAt m_failed 0 m_input m_inputMany m_fitting m_given m_pairs m_line m_lineMany m_letters m_begins0 m_commands m_commandMany m_place0 m_size0 m_isWrong) tyX10 dX10_meanWear_2 inX10 tyX10_ok nmX10 8 q1463 0 rfl rfl (by decide) rfl rfl rfl rfl rfl (Nat.le_of_ble_eq_true rfl) rfl ?_
  refine j_aload_n hX dX10_meanWear_5 rfl 0 rfl ?_
  refine j_get hX dX10_meanWear_6 inX10 0 q1455 0 rfl rfl (by decide) rfl rfl ?_
  refine j_iconst hX 0 dX10_meanWear_9 (by decide) ?_
  refine j_iald hX dX10_meanWear_10 1 0 rfl rfl hf (fun c10 hf => ?_)
  refine j_if_ne hX 22 dX10_meanWear_11 (by decide) hf (fun c11 hf => ?_) (fun c11 hf => ?_)
  · refine j_iconst hX 0 dX10_meanWear_22 (by decide) ?_
    refine j_istore_n hX [(1, .int 0), (0, .ref (ad o))] dX10_meanWear_23 rfl (by decide) rfl ?_
    refine j_iconst hX 0 dX10_meanWear_24 (by decide) ?_
    refine j_istore_n hX [(2, .int 0), (1, .int 0), (0, .ref (ad o))] dX10_meanWear_25 rfl (by decide) rfl ?_
    obtain ⟨s4, h5, hf⟩ := jbind hf
    refine k_X10_meanWear_L26 (ad := ad) m_m m_aside m_saved m_isSaved m_past m_changes m_errorAt m_failed 0 m_input m_inputMany m_fitting m_given m_pairs m_line m_lineMany m_letters m_begins0 m_commands m_commandMany m_place0 m_size0 m_isWrong hX jFU 0 0 s4 h5 (fun s40 es4 => ?_)
    subst es4
    refine j_iload_n hX dX10_meanWear_56 rfl 1 rfl ?_
    refine j_i2d hX dX10_meanWear_57 ?_
    refine j_aload_n hX dX10_meanWear_58 rfl 2 rfl ?_
    refine j_get hX dX10_meanWear_59 inX10 0 q1455 0 rfl rfl (by decide) rfl rfl ?_
    refine j_iconst hX 0 dX10_meanWear_62 (by decide) ?_
    refine j_iald hX dX10_meanWear_63 1 0 rfl rfl hf (fun c63 hf => ?_)
    refine j_i2d hX dX10_meanWear_64 ?_
    refine j_ddiv hX dX10_meanWear_65 hf (fun c65 hf => ?_)
    cases hf
    exact j_dret hX hE dX10_meanWear_66 (Nat.le_refl _) (Nat.le_refl _) ⟨rfl, rfl⟩
  · refine j_aload_n hX dX10_meanWear_14 rfl 0 rfl ?_
    refine j_iconst hX 1 dX10_meanWear_15 (by decide) ?_
    obtain ⟨u6, h7, hf⟩ := jbind hf
    refine j_callV (st := []) hX (k_X10_throwing (l := l) (D := D) (t := t) (ad := ad) (o := o) m_m m_aside m_saved m_isSaved m_past m_changes m_errorAt m_failed 0 m_input m_inputMany m_fitting m_given m_pairs m_line m_lineMany m_letters m_begins0 m_commands m_commandMany m_place0 m_size0 m_isWrong 1 u6 h7) q1496 q1497 q1951 q15 q1498 (n9 := 1) rfl ⟨by decide +kernel, by decide +kernel⟩ 0 rfl rfl rfl dX10_meanWear_16 (Nat.le_of_ble_eq_true rfl) ⟨Nat.le_refl _, Nat.le_refl _⟩ (fun w : va_W => w) jFr_id rfl rfl (fun v w hvw => ?_)
    obtain ⟨rfl, rfl⟩ := hvw
    change J X 0 0 (wM t ad o m_m m_aside m_saved m_isSaved m_past m_changes m_errorAt m_failed u6.2 m_input m_inputMany m_fitting m_given m_pairs m_line m_lineMany m_letters m_begins0 m_commands m_commandMany m_place0 m_size0 m_isWrong) 19 [(0, .ref (ad o))] [.int u6.1]
    refine j_pop hX dX10_meanWear_19 rfl ?_
    refine j_dconst0 hX dX10_meanWear_20 ?_
    cases hf
    exact j_dret hX hE dX10_meanWear_21 (Nat.le_refl _) (Nat.le_refl _) ⟨rfl, rfl⟩
-- HammerDepotModel lentShare ()F
def f_X10_lentShare (m_m : Nat → Int32) (m_thrown : Int32) : Option (UInt32 × Int32) :=
  if jin 0 2048 = true then
    if (m_m (0 : Int32).toNatClampNeg) = 0 then
      Option.bind (f_X10_throwing 0 1) (fun u3 =>
        some (FP.fconst0, u3.2))
    else
      Option.bind (f_X10_many m_m (-1)) (fun u1 =>
        if jin 0 2048 = true then
          if jN32 (FP.fdiv (FP.i2f u1) (FP.i2f (m_m (0 : Int32).toNatClampNeg))) = true then
            some (FP.fdiv (FP.i2f u1) (FP.i2f (m_m (0 : Int32).toNatClampNeg)), 0)
          else none
        else none)
  else none
set_option maxHeartbeats 4000000 in
set_option maxRecDepth 100000 in
theorem k_X10_lentShare {l : Launch} {D : va_G} {t : Nat → ClassId} {ad : Nat → Nat} {o : Nat} (m_m : Nat → Int32) (m_aside : Nat → Int32) (m_saved : Nat → Int32) (m_isSaved : Int32) (m_past : Nat → Int32) (m_changes : Int32) (m_errorAt : Int32) (m_failed : Int32) (m_thrown : Int32) (m_input : Nat → Int32) (m_inputMany : Int32) (m_fitting : Nat → Int32) (m_given : Nat → Int32) (m_pairs : Nat → Int32) (m_line : Nat → Int32) (m_lineMany : Int32) (m_letters : Nat → Int32) (m_begins0 : Nat → Int32) (m_commands : Nat → Int32) (m_commandMany : Int32) (m_place0 : Int32) (m_size0 : Int32) (m_isWrong : Int32)  (u : UInt32 × Int32) (hf : f_X10_lentShare m_m m_thrown = some u) : cm l D (jT t) yX10_lentShare cX10_lentShare 1 (some FieldType.float) { frames := 2, cells := 0, slots := 0, locals := 43 } [.ref (ad o)] (wM t ad o m_m m_aside m_saved m_isSaved m_past m_changes m_errorAt m_failed m_thrown m_input m_inputMany m_fitting m_given m_pairs m_line m_lineMany m_letters m_begins0 m_commands m_commandMany m_place0 m_size0 m_isWrong) (fun v w => v = (some (.float u.1)) ∧ w = wM t ad o m_m m_aside m_saved m_isSaved m_past m_changes m_errorAt m_failed u.2 m_input m_inputMany m_fitting m_given m_pairs m_line m_lineMany m_letters m_begins0 m_commands m_commandMany m_place0 m_size0 m_isWrong) := by
  refine cm_of RX10 rfl (by decide +kernel) (Nat.le_of_ble_eq_true rfl) (fun X hX hE => ?_)
  change J X 0 0 (wM t ad o m_m m_aside m_saved m_isSaved m_past m_changes m_errorAt m_failed m_thrown m_input m_inputMany m_fitting m_given m_pairs m_line m_lineMany m_letters m_begins0 m_commands m_commandMany m_place0 m_size0 m_isWrong) 0 [(0, .ref (ad o))] []
  unfold f_X10_lentShare at hf
  refine j_aload_n hX dX10_lentShare_0 rfl 0 rfl ?_
  refine j_iconst hX 0 dX10_lentShare_1 (by decide) ?_
  refine j_put hX (wM t ad o m_m m_aside m_saved m_isSaved m_past m_changes m_errorAt m_failed 0 m_input m_inputMany m_fitting m_given m_pairs m_line m_lineMany m_letters m_begins0 m_commands m_commandMany m_place0 m_size0 m_isWrong) tyX10 dX10_lentShare_2 inX10 tyX10_ok nmX10 8 q1463 0 rfl rfl (by decide) rfl rfl rfl rfl rfl (Nat.le_of_ble_eq_true rfl) rfl ?_
  refine j_aload_n hX dX10_lentShare_5 rfl 0 rfl ?_
  refine j_get hX dX10_lentShare_6 inX10 0 q1455 0 rfl rfl (by decide) rfl rfl ?_
  refine j_iconst hX 0 dX10_lentShare_9 (by decide) ?_
  refine j_iald hX dX10_lentShare_10 1 0 rfl rfl hf (fun c10 hf => ?_)
  refine j_if_ne hX 22 dX10_lentShare_11 (by decide) hf (fun c11 hf => ?_) (fun c11 hf => ?_)
  · refine j_aload_n hX dX10_lentShare_22 rfl 0 rfl ?_
    refine j_iconst hX (-1) dX10_lentShare_23 (by decide) ?_
    obtain ⟨u1, h2, hf⟩ := jbind hf
    refine j_callV (st := []) hX (k_X10_many (l := l) (D := D) (t := t) (ad := ad) (o := o) m_m m_aside m_saved m_isSaved m_past m_changes m_errorAt m_failed 0 m_input m_inputMany m_fitting m_given m_pairs m_line m_lineMany m_letters m_begins0 m_commands m_commandMany m_place0 m_size0 m_isWrong (-1) u1 h2) q1739 q1740 q1984 q15 q1741 (n9 := 1) rfl ⟨by decide +kernel, by decide +kernel⟩ 0 rfl rfl rfl dX10_lentShare_24 (Nat.le_of_ble_eq_true rfl) ⟨Nat.le_refl _, Nat.le_refl _⟩ (fun w : va_W => w) jFr_id rfl rfl (fun v w hvw => ?_)
    obtain ⟨rfl, rfl⟩ := hvw
    change J X 0 0 (wM t ad o m_m m_aside m_saved m_isSaved m_past m_changes m_errorAt m_failed 0 m_input m_inputMany m_fitting m_given m_pairs m_line m_lineMany m_letters m_begins0 m_commands m_commandMany m_place0 m_size0 m_isWrong) 27 [(0, .ref (ad o))] [.int u1]
    refine j_i2f hX dX10_lentShare_27 ?_
    refine j_aload_n hX dX10_lentShare_28 rfl 0 rfl ?_
    refine j_get hX dX10_lentShare_29 inX10 0 q1455 0 rfl rfl (by decide) rfl rfl ?_
    refine j_iconst hX 0 dX10_lentShare_32 (by decide) ?_
    refine j_iald hX dX10_lentShare_33 1 0 rfl rfl hf (fun c33 hf => ?_)
    refine j_i2f hX dX10_lentShare_34 ?_
    refine j_fdiv hX dX10_lentShare_35 hf (fun c35 hf => ?_)
    cases hf
    exact j_fret hX hE dX10_lentShare_36 (Nat.le_refl _) (Nat.le_refl _) ⟨rfl, rfl⟩
  · refine j_aload_n hX dX10_lentShare_14 rfl 0 rfl ?_
    refine j_iconst hX 1 dX10_lentShare_15 (by decide) ?_
    obtain ⟨u3, h4, hf⟩ := jbind hf
    refine j_callV (st := []) hX (k_X10_throwing (l := l) (D := D) (t := t) (ad := ad) (o := o) m_m m_aside m_saved m_isSaved m_past m_changes m_errorAt m_failed 0 m_input m_inputMany m_fitting m_given m_pairs m_line m_lineMany m_letters m_begins0 m_commands m_commandMany m_place0 m_size0 m_isWrong 1 u3 h4) q1496 q1497 q1951 q15 q1498 (n9 := 1) rfl ⟨by decide +kernel, by decide +kernel⟩ 0 rfl rfl rfl dX10_lentShare_16 (Nat.le_of_ble_eq_true rfl) ⟨Nat.le_refl _, Nat.le_refl _⟩ (fun w : va_W => w) jFr_id rfl rfl (fun v w hvw => ?_)
    obtain ⟨rfl, rfl⟩ := hvw
    change J X 0 0 (wM t ad o m_m m_aside m_saved m_isSaved m_past m_changes m_errorAt m_failed u3.2 m_input m_inputMany m_fitting m_given m_pairs m_line m_lineMany m_letters m_begins0 m_commands m_commandMany m_place0 m_size0 m_isWrong) 19 [(0, .ref (ad o))] [.int u3.1]
    refine j_pop hX dX10_lentShare_19 rfl ?_
    refine j_fconst0 hX dX10_lentShare_20 ?_
    cases hf
    exact j_fret hX hE dX10_lentShare_21 (Nat.le_refl _) (Nat.le_refl _) ⟨rfl, rfl⟩
-- HammerDepotLaw meanWear (LHammerDepot;[D)I
def f_L_meanWear (h_count : Int32) (h_wears : Nat → Int32) (outD : Nat → UInt64) : Option (Int32 × (Nat → UInt64)) :=
  Option.bind (f_X9_meanWear h_count h_wears) (fun u1 => Sum.elim (fun x4 => if x4 = "java/lang/ArithmeticException" then
    some (1, outD)
  else
    none) (fun r3 =>
    if jin 0 1 = true then
      some (0, vf_upd outD (0 : Int32).toNatClampNeg r3)
    else none) u1)
set_option maxHeartbeats 4000000 in
set_option maxRecDepth 100000 in
theorem k_L_meanWear {l : Launch} {D : va_G} {t : Nat → ClassId} {ad : Nat → Nat} {o oS oN oY oG oC oP oB oM : Nat} (hl : l.stackTraces = false) (d_hasSnapshot : Int32) (d_errorAt : Int32) (d_failedAt : Int32) (h_count : Int32) (h_pitches : Nat → Int32) (h_wears : Nat → Int32) (h_slots : Nat → Int32) (h_borrowers : Nat → Int32) (h_dueDays : Nat → Int32) (h_contents : Nat → Int32) (r_count : Int32) (r_nextId : Int32) (r_ids : Nat → Int32) (r_borrowers : Nat → Int32) (r_pitches : Nat → Int32) (r_tolerances : Nat → Int32) (r_firstDays : Nat → Int32) (r_lastDays : Nat → Int32) (b_count : Int32) (b_hammers : Nat → Int32) (b_borrowers : Nat → Int32) (b_firstDays : Nat → Int32) (b_lastDays : Nat → Int32) (s_day : Int32) (s_coins : Int32) (s_bookingCoins : Int32) (s_lateCoins : Int32) (s_faceCosts : Int32) (s_broken : Int32) (s_lent : Int32) (outD : Nat → UInt64)  (u : Int32 × (Nat → UInt64)) (hf : f_L_meanWear h_count h_wears outD = some u) : cmh l D (jT t) yL_meanWear cL_meanWear 3 (some FieldType.int) [(0, 7, 10, 119)] { frames := 7, cells := 1, slots := 6, locals := 111 } [.ref (ad o), .ref (ad oM)] (wD t ad o oS oN oY oG oC oP oB d_hasSnapshot d_errorAt d_failedAt ++ (wS t ad oS h_count h_pitches h_wears h_slots h_borrowers h_dueDays h_contents r_count r_nextId r_ids r_borrowers r_pitches r_tolerances r_firstDays r_lastDays b_count b_hammers b_borrowers b_firstDays b_lastDays s_day s_coins s_bookingCoins s_lateCoins s_faceCosts s_broken s_lent ++ ([(ad (oM), .inl (t 4, 1, .inr (.inr (.inr (.inl outD)))))]))) (fun v w => v = (some (.int u.1)) ∧ w = wD t ad o oS oN oY oG oC oP oB d_hasSnapshot d_errorAt d_failedAt ++ (wS t ad oS h_count h_pitches h_wears h_slots h_borrowers h_dueDays h_contents r_count r_nextId r_ids r_borrowers r_pitches r_tolerances r_firstDays r_lastDays b_count b_hammers b_borrowers b_firstDays b_lastDays s_day s_coins s_bookingCoins s_lateCoins s_faceCosts s_broken s_lent ++ ([(ad (oM), .inl (t 4, 1, .inr (.inr (.inr (.inl u.2)))))]))) := by
  refine cmh_of RL rfl (by decide +kernel) (Nat.le_of_ble_eq_true rfl) (fun X hX hE hTB => ?_)
  change J X 0 0 (wD t ad o oS oN oY oG oC oP oB d_hasSnapshot d_errorAt d_failedAt ++ (wS t ad oS h_count h_pitches h_wears h_slots h_borrowers h_dueDays h_contents r_count r_nextId r_ids r_borrowers r_pitches r_tolerances r_firstDays r_lastDays b_count b_hammers b_borrowers b_firstDays b_lastDays s_day s_coins s_bookingCoins s_lateCoins s_faceCosts s_broken s_lent ++ ([(ad (oM), .inl (t 4, 1, .inr (.inr (.inr (.inl outD)))))]))) 0 [(0, .ref (ad o)), (1, .ref (ad oM))] []
  unfold f_L_meanWear at hf
  refine j_aload_n hX dL_meanWear_0 rfl 1 rfl ?_
  refine j_iconst hX 0 dL_meanWear_1 (by decide) ?_
  refine j_aload_n hX dL_meanWear_2 rfl 0 rfl ?_
  obtain ⟨u1, h2, hf⟩ := jbind hf
  refine j_mix hX [wD t ad o oS oN oY oG oC oP oB d_hasSnapshot d_errorAt d_failedAt, wS t ad oS h_count h_pitches h_wears h_slots h_borrowers h_dueDays h_contents r_count r_nextId r_ids r_borrowers r_pitches r_tolerances r_firstDays r_lastDays b_count b_hammers b_borrowers b_firstDays b_lastDays s_day s_coins s_bookingCoins s_lateCoins s_faceCosts s_broken s_lent, [(ad (oM), .inl (t 4, 1, .inr (.inr (.inr (.inl outD)))))]] [0, 1] [2] 3 rfl (by decide) rfl (fun hmix => ?_)
  refine j_callVXC (a := 0) (b := 0) (st := [.int 0, .ref (ad oM)]) hX hTB (k_X9_meanWear (l := l) (D := D) (t := t) (ad := ad) (o := o) (oS := oS) (oN := oN) (oY := oY) (oG := oG) (oC := oC) (oP := oP) (oB := oB) hl d_hasSnapshot d_errorAt d_failedAt h_count h_pitches h_wears h_slots h_borrowers h_dueDays h_contents r_count r_nextId r_ids r_borrowers r_pitches r_tolerances r_firstDays r_lastDays b_count b_hammers b_borrowers b_firstDays b_lastDays s_day s_coins s_bookingCoins s_lateCoins s_faceCosts s_broken s_lent  u1 h2) q1020 q1021 q1022 q1 q1023 (n9 := 0) rfl ⟨by decide +kernel, by decide +kernel⟩ 0 rfl rfl rfl dL_meanWear_3 (Nat.le_of_ble_eq_true rfl) ⟨by decide, by decide⟩ (fun w : va_W => w ++ ([(ad (oM), .inl (t 4, 1, .inr (.inr (.inr (.inl outD)))))])) (jFr_r _) rfl rfl (fun E w hxw => ?_) (fun v w hvw => ?_)
  · obtain ⟨x4, rfl, hE4, rfl⟩ := hxw
    have hE4 := hE4.symm
    subst hE4
    have hf := jsum_l hf
    by_cases g3_0 : x4 = "java/lang/ArithmeticException"
    · have hf := jifp hf g3_0
      refine ⟨wD t ad o oS oN oY oG oC oP oB d_hasSnapshot d_errorAt d_failedAt ++ (wS t ad oS h_count h_pitches h_wears h_slots h_borrowers h_dueDays h_contents r_count r_nextId r_ids r_borrowers r_pitches r_tolerances r_firstDays r_lastDays b_count b_hammers b_borrowers b_firstDays b_lastDays s_day s_coins s_bookingCoins s_lateCoins s_faceCosts s_broken s_lent ++ ([(ad (oM), .inl (t 4, 1, .inr (.inr (.inr (.inl outD)))))])), 10, (jmix_perm (bs := [wD t ad o oS oN oY oG oC oP oB d_hasSnapshot d_errorAt d_failedAt, wS t ad oS h_count h_pitches h_wears h_slots h_borrowers h_dueDays h_contents r_count r_nextId r_ids r_borrowers r_pitches r_tolerances r_firstDays r_lastDays b_count b_hammers b_borrowers b_firstDays b_lastDays s_day s_coins s_bookingCoins s_lateCoins s_faceCosts s_broken s_lent, [(ad (oM), .inl (t 4, 1, .inr (.inr (.inr (.inl outD)))))]]) (is := [0, 1]) (js := [2]) 3 rfl (by decide)).symm, ?_, fun q => ?_⟩
      · rw [g3_0]
        exact ⟨[], { startPc := 0, endPc := 7, handlerPc := 10, catchType := 119 }, [], "java/lang/ArithmeticException", rfl, fun _ h => absurd h List.not_mem_nil, by decide, by decide, q1013, q1018, rfl⟩
      · change J X 1 6 (wD t ad o oS oN oY oG oC oP oB d_hasSnapshot d_errorAt d_failedAt ++ (wS t ad oS h_count h_pitches h_wears h_slots h_borrowers h_dueDays h_contents r_count r_nextId r_ids r_borrowers r_pitches r_tolerances r_firstDays r_lastDays b_count b_hammers b_borrowers b_firstDays b_lastDays s_day s_coins s_bookingCoins s_lateCoins s_faceCosts s_broken s_lent ++ ([(ad (oM), .inl (t 4, 1, .inr (.inr (.inr (.inl outD)))))]))) 10 [(0, .ref (ad o)), (1, .ref (ad oM))] [.ref q]
        refine j_astore_n hX [(2, .ref q), (0, .ref (ad o)), (1, .ref (ad oM))] dL_meanWear_10 rfl (by decide) rfl ?_
        refine j_iconst hX 1 dL_meanWear_11 (by decide) ?_
        cases hf
        exact j_iret hX hE dL_meanWear_12 (Nat.le_of_ble_eq_true rfl) (Nat.le_of_ble_eq_true rfl) ⟨rfl, rfl⟩
    have hf := jifn hf g3_0
    cases hf
  · obtain ⟨r3, rfl, rfl, rfl⟩ := hvw
    have hf := jsum_r hf
    change J X 1 6 ((wD t ad o oS oN oY oG oC oP oB d_hasSnapshot d_errorAt d_failedAt ++ (wS t ad oS h_count h_pitches h_wears h_slots h_borrowers h_dueDays h_contents r_count r_nextId r_ids r_borrowers r_pitches r_tolerances r_firstDays r_lastDays b_count b_hammers b_borrowers b_firstDays b_lastDays s_day s_coins s_bookingCoins s_lateCoins s_faceCosts s_broken s_lent)) ++ ([(ad (oM), .inl (t 4, 1, .inr (.inr (.inr (.inl outD)))))])) 6 [(0, .ref (ad o)), (1, .ref (ad oM))] [.double r3, .int 0, .ref (ad oM)]
    refine hmix [wD t ad o oS oN oY oG oC oP oB d_hasSnapshot d_errorAt d_failedAt, wS t ad oS h_count h_pitches h_wears h_slots h_borrowers h_dueDays h_contents r_count r_nextId r_ids r_borrowers r_pitches r_tolerances r_firstDays r_lastDays b_count b_hammers b_borrowers b_firstDays b_lastDays s_day s_coins s_bookingCoins s_lateCoins s_faceCosts s_broken s_lent, [(ad (oM), .inl (t 4, 1, .inr (.inr (.inr (.inl outD)))))]] _ _ _ _ _ rfl ?_
    change J X 1 6 (wD t ad o oS oN oY oG oC oP oB d_hasSnapshot d_errorAt d_failedAt ++ (wS t ad oS h_count h_pitches h_wears h_slots h_borrowers h_dueDays h_contents r_count r_nextId r_ids r_borrowers r_pitches r_tolerances r_firstDays r_lastDays b_count b_hammers b_borrowers b_firstDays b_lastDays s_day s_coins s_bookingCoins s_lateCoins s_faceCosts s_broken s_lent ++ ([(ad (oM), .inl (t 4, 1, .inr (.inr (.inr (.inl outD)))))]))) 6 [(0, .ref (ad o)), (1, .ref (ad oM))] [.double r3, .int 0, .ref (ad oM)]
    refine j_dast hX (wD t ad o oS oN oY oG oC oP oB d_hasSnapshot d_errorAt d_failedAt ++ (wS t ad oS h_count h_pitches h_wears h_slots h_borrowers h_dueDays h_contents r_count r_nextId r_ids r_borrowers r_pitches r_tolerances r_firstDays r_lastDays b_count b_hammers b_borrowers b_firstDays b_lastDays s_day s_coins s_bookingCoins s_lateCoins s_faceCosts s_broken s_lent ++ ([(ad (oM), .inl (t 4, 1, .inr (.inr (.inr (.inl (vf_upd outD (0 : Int32).toNatClampNeg r3))))))]))) dL_meanWear_6 21 4 rfl rfl rfl hf (fun c6 hf => ?_)
    refine j_goto hX 13 dL_meanWear_7 (by decide) ?_
    refine j_iconst hX 0 dL_meanWear_13 (by decide) ?_
    cases hf
    exact j_iret hX hE dL_meanWear_14 (Nat.le_of_ble_eq_true rfl) (Nat.le_of_ble_eq_true rfl) ⟨rfl, rfl⟩
-- HammerDepotLaw lentShare (LHammerDepot;[D)I
def f_L_lentShare (h_count : Int32) (h_slots : Nat → Int32) (outD : Nat → UInt64) : Option (Int32 × (Nat → UInt64)) :=
  Option.bind (f_X9_lentShare h_count h_slots) (fun u1 => Sum.elim (fun x4 => if x4 = "java/lang/ArithmeticException" then
    some (1, outD)
  else
    none) (fun r3 =>
    if jN64 (FP.f2d r3) = true then
      if jin 0 1 = true then
        some (0, vf_upd outD (0 : Int32).toNatClampNeg (FP.f2d r3))
      else none
    else none) u1)
set_option maxHeartbeats 4000000 in
set_option maxRecDepth 100000 in
theorem k_L_lentShare {l : Launch} {D : va_G} {t : Nat → ClassId} {ad : Nat → Nat} {o oS oN oY oG oC oP oB oM : Nat} (hl : l.stackTraces = false) (d_hasSnapshot : Int32) (d_errorAt : Int32) (d_failedAt : Int32) (h_count : Int32) (h_pitches : Nat → Int32) (h_wears : Nat → Int32) (h_slots : Nat → Int32) (h_borrowers : Nat → Int32) (h_dueDays : Nat → Int32) (h_contents : Nat → Int32) (r_count : Int32) (r_nextId : Int32) (r_ids : Nat → Int32) (r_borrowers : Nat → Int32) (r_pitches : Nat → Int32) (r_tolerances : Nat → Int32) (r_firstDays : Nat → Int32) (r_lastDays : Nat → Int32) (b_count : Int32) (b_hammers : Nat → Int32) (b_borrowers : Nat → Int32) (b_firstDays : Nat → Int32) (b_lastDays : Nat → Int32) (s_day : Int32) (s_coins : Int32) (s_bookingCoins : Int32) (s_lateCoins : Int32) (s_faceCosts : Int32) (s_broken : Int32) (s_lent : Int32) (outD : Nat → UInt64)  (u : Int32 × (Nat → UInt64)) (hf : f_L_lentShare h_count h_slots outD = some u) : cmh l D (jT t) yL_lentShare cL_lentShare 3 (some FieldType.int) [(0, 8, 11, 119)] { frames := 7, cells := 1, slots := 6, locals := 111 } [.ref (ad o), .ref (ad oM)] (wD t ad o oS oN oY oG oC oP oB d_hasSnapshot d_errorAt d_failedAt ++ (wS t ad oS h_count h_pitches h_wears h_slots h_borrowers h_dueDays h_contents r_count r_nextId r_ids r_borrowers r_pitches r_tolerances r_firstDays r_lastDays b_count b_hammers b_borrowers b_firstDays b_lastDays s_day s_coins s_bookingCoins s_lateCoins s_faceCosts s_broken s_lent ++ ([(ad (oM), .inl (t 4, 1, .inr (.inr (.inr (.inl outD)))))]))) (fun v w => v = (some (.int u.1)) ∧ w = wD t ad o oS oN oY oG oC oP oB d_hasSnapshot d_errorAt d_failedAt ++ (wS t ad oS h_count h_pitches h_wears h_slots h_borrowers h_dueDays h_contents r_count r_nextId r_ids r_borrowers r_pitches r_tolerances r_firstDays r_lastDays b_count b_hammers b_borrowers b_firstDays b_lastDays s_day s_coins s_bookingCoins s_lateCoins s_faceCosts s_broken s_lent ++ ([(ad (oM), .inl (t 4, 1, .inr (.inr (.inr (.inl u.2)))))]))) := by
  refine cmh_of RL rfl (by decide +kernel) (Nat.le_of_ble_eq_true rfl) (fun X hX hE hTB => ?_)
  change J X 0 0 (wD t ad o oS oN oY oG oC oP oB d_hasSnapshot d_errorAt d_failedAt ++ (wS t ad oS h_count h_pitches h_wears h_slots h_borrowers h_dueDays h_contents r_count r_nextId r_ids r_borrowers r_pitches r_tolerances r_firstDays r_lastDays b_count b_hammers b_borrowers b_firstDays b_lastDays s_day s_coins s_bookingCoins s_lateCoins s_faceCosts s_broken s_lent ++ ([(ad (oM), .inl (t 4, 1, .inr (.inr (.inr (.inl outD)))))]))) 0 [(0, .ref (ad o)), (1, .ref (ad oM))] []
  unfold f_L_lentShare at hf
  refine j_aload_n hX dL_lentShare_0 rfl 1 rfl ?_
  refine j_iconst hX 0 dL_lentShare_1 (by decide) ?_
  refine j_aload_n hX dL_lentShare_2 rfl 0 rfl ?_
  obtain ⟨u1, h2, hf⟩ := jbind hf
  refine j_mix hX [wD t ad o oS oN oY oG oC oP oB d_hasSnapshot d_errorAt d_failedAt, wS t ad oS h_count h_pitches h_wears h_slots h_borrowers h_dueDays h_contents r_count r_nextId r_ids r_borrowers r_pitches r_tolerances r_firstDays r_lastDays b_count b_hammers b_borrowers b_firstDays b_lastDays s_day s_coins s_bookingCoins s_lateCoins s_faceCosts s_broken s_lent, [(ad (oM), .inl (t 4, 1, .inr (.inr (.inr (.inl outD)))))]] [0, 1] [2] 3 rfl (by decide) rfl (fun hmix => ?_)
  refine j_callVXC (a := 0) (b := 0) (st := [.int 0, .ref (ad oM)]) hX hTB (k_X9_lentShare (l := l) (D := D) (t := t) (ad := ad) (o := o) (oS := oS) (oN := oN) (oY := oY) (oG := oG) (oC := oC) (oP := oP) (oB := oB) hl d_hasSnapshot d_errorAt d_failedAt h_count h_pitches h_wears h_slots h_borrowers h_dueDays h_contents r_count r_nextId r_ids r_borrowers r_pitches r_tolerances r_firstDays r_lastDays b_count b_hammers b_borrowers b_firstDays b_lastDays s_day s_coins s_bookingCoins s_lateCoins s_faceCosts s_broken s_lent  u1 h2) q1033 q1034 q1035 q1 q1036 (n9 := 0) rfl ⟨by decide +kernel, by decide +kernel⟩ 0 rfl rfl rfl dL_lentShare_3 (Nat.le_of_ble_eq_true rfl) ⟨by decide, by decide⟩ (fun w : va_W => w ++ ([(ad (oM), .inl (t 4, 1, .inr (.inr (.inr (.inl outD)))))])) (jFr_r _) rfl rfl (fun E w hxw => ?_) (fun v w hvw => ?_)
  · obtain ⟨x4, rfl, hE4, rfl⟩ := hxw
    have hE4 := hE4.symm
    subst hE4
    have hf := jsum_l hf
    by_cases g3_0 : x4 = "java/lang/ArithmeticException"
    · have hf := jifp hf g3_0
      refine ⟨wD t ad o oS oN oY oG oC oP oB d_hasSnapshot d_errorAt d_failedAt ++ (wS t ad oS h_count h_pitches h_wears h_slots h_borrowers h_dueDays h_contents r_count r_nextId r_ids r_borrowers r_pitches r_tolerances r_firstDays r_lastDays b_count b_hammers b_borrowers b_firstDays b_lastDays s_day s_coins s_bookingCoins s_lateCoins s_faceCosts s_broken s_lent ++ ([(ad (oM), .inl (t 4, 1, .inr (.inr (.inr (.inl outD)))))])), 11, (jmix_perm (bs := [wD t ad o oS oN oY oG oC oP oB d_hasSnapshot d_errorAt d_failedAt, wS t ad oS h_count h_pitches h_wears h_slots h_borrowers h_dueDays h_contents r_count r_nextId r_ids r_borrowers r_pitches r_tolerances r_firstDays r_lastDays b_count b_hammers b_borrowers b_firstDays b_lastDays s_day s_coins s_bookingCoins s_lateCoins s_faceCosts s_broken s_lent, [(ad (oM), .inl (t 4, 1, .inr (.inr (.inr (.inl outD)))))]]) (is := [0, 1]) (js := [2]) 3 rfl (by decide)).symm, ?_, fun q => ?_⟩
      · rw [g3_0]
        exact ⟨[], { startPc := 0, endPc := 8, handlerPc := 11, catchType := 119 }, [], "java/lang/ArithmeticException", rfl, fun _ h => absurd h List.not_mem_nil, by decide, by decide, q1013, q1018, rfl⟩
      · change J X 1 6 (wD t ad o oS oN oY oG oC oP oB d_hasSnapshot d_errorAt d_failedAt ++ (wS t ad oS h_count h_pitches h_wears h_slots h_borrowers h_dueDays h_contents r_count r_nextId r_ids r_borrowers r_pitches r_tolerances r_firstDays r_lastDays b_count b_hammers b_borrowers b_firstDays b_lastDays s_day s_coins s_bookingCoins s_lateCoins s_faceCosts s_broken s_lent ++ ([(ad (oM), .inl (t 4, 1, .inr (.inr (.inr (.inl outD)))))]))) 11 [(0, .ref (ad o)), (1, .ref (ad oM))] [.ref q]
        refine j_astore_n hX [(2, .ref q), (0, .ref (ad o)), (1, .ref (ad oM))] dL_lentShare_11 rfl (by decide) rfl ?_
        refine j_iconst hX 1 dL_lentShare_12 (by decide) ?_
        cases hf
        exact j_iret hX hE dL_lentShare_13 (Nat.le_of_ble_eq_true rfl) (Nat.le_of_ble_eq_true rfl) ⟨rfl, rfl⟩
    have hf := jifn hf g3_0
    cases hf
  · obtain ⟨r3, rfl, rfl, rfl⟩ := hvw
    have hf := jsum_r hf
    change J X 1 6 ((wD t ad o oS oN oY oG oC oP oB d_hasSnapshot d_errorAt d_failedAt ++ (wS t ad oS h_count h_pitches h_wears h_slots h_borrowers h_dueDays h_contents r_count r_nextId r_ids r_borrowers r_pitches r_tolerances r_firstDays r_lastDays b_count b_hammers b_borrowers b_firstDays b_lastDays s_day s_coins s_bookingCoins s_lateCoins s_faceCosts s_broken s_lent)) ++ ([(ad (oM), .inl (t 4, 1, .inr (.inr (.inr (.inl outD)))))])) 6 [(0, .ref (ad o)), (1, .ref (ad oM))] [.float r3, .int 0, .ref (ad oM)]
    refine hmix [wD t ad o oS oN oY oG oC oP oB d_hasSnapshot d_errorAt d_failedAt, wS t ad oS h_count h_pitches h_wears h_slots h_borrowers h_dueDays h_contents r_count r_nextId r_ids r_borrowers r_pitches r_tolerances r_firstDays r_lastDays b_count b_hammers b_borrowers b_firstDays b_lastDays s_day s_coins s_bookingCoins s_lateCoins s_faceCosts s_broken s_lent, [(ad (oM), .inl (t 4, 1, .inr (.inr (.inr (.inl outD)))))]] _ _ _ _ _ rfl ?_
    change J X 1 6 (wD t ad o oS oN oY oG oC oP oB d_hasSnapshot d_errorAt d_failedAt ++ (wS t ad oS h_count h_pitches h_wears h_slots h_borrowers h_dueDays h_contents r_count r_nextId r_ids r_borrowers r_pitches r_tolerances r_firstDays r_lastDays b_count b_hammers b_borrowers b_firstDays b_lastDays s_day s_coins s_bookingCoins s_lateCoins s_faceCosts s_broken s_lent ++ ([(ad (oM), .inl (t 4, 1, .inr (.inr (.inr (.inl outD)))))]))) 6 [(0, .ref (ad o)), (1, .ref (ad oM))] [.float r3, .int 0, .ref (ad oM)]
    refine j_f2d hX dL_lentShare_6 hf (fun c6 hf => ?_)
    refine j_dast hX (wD t ad o oS oN oY oG oC oP oB d_hasSnapshot d_errorAt d_failedAt ++ (wS t ad oS h_count h_pitches h_wears h_slots h_borrowers h_dueDays h_contents r_count r_nextId r_ids r_borrowers r_pitches r_tolerances r_firstDays r_lastDays b_count b_hammers b_borrowers b_firstDays b_lastDays s_day s_coins s_bookingCoins s_lateCoins s_faceCosts s_broken s_lent ++ ([(ad (oM), .inl (t 4, 1, .inr (.inr (.inr (.inl (vf_upd outD (0 : Int32).toNatClampNeg (FP.f2d r3)))))))]))) dL_lentShare_7 21 4 rfl rfl rfl hf (fun c7 hf => ?_)
    refine j_goto hX 14 dL_lentShare_8 (by decide) ?_
    refine j_iconst hX 0 dL_lentShare_14 (by decide) ?_
    cases hf
    exact j_iret hX hE dL_lentShare_15 (Nat.le_of_ble_eq_true rfl) (Nat.le_of_ble_eq_true rfl) ⟨rfl, rfl⟩
